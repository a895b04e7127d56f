-- ===== a table reduced in part: the places so far, what is left =====
def pr (p : Int) (n k : Nat) (bs : Nat → Prop) (c nxt : Nat) (A : Nat → Nat → Int) (pl : Nat → Nat) : Prop := nxt ≤ k ∧ (∀ i, i < nxt → pl i < c ∧ bs (pl i) ∧ ¬ p ∣ A i (pl i)) ∧ (∀ i q, i < nxt → q < k → q ≠ i → p ∣ A q (pl i)) ∧ (∀ i j, nxt ≤ i → i < k → j < c → bs j → p ∣ A i j) ∧ (∀ i i', i < i' → i' < nxt → pl i < pl i') ∧ ∀ i j, i < nxt → j < pl i → bs j → p ∣ A i j
def sps (p : Int) (n k : Nat) (A0 A : Nat → Nat → Int) : Prop := (∀ r, r < k → sp p n k A0 (A r)) ∧ ∀ r, r < k → sp p n k A (A0 r)
/-- B is A with column c made the place of row r -/
def pvd (p : Int) (n k : Nat) (A : Nat → Nat → Int) (r c : Nat) (B : Nat → Nat → Int) : Prop := (∃ s t : Int, ¬ p ∣ s ∧ ¬ p ∣ t ∧ ∀ j, j < n → p ∣ s * B r j - t * A r j) ∧ ∀ i, i < k → i ≠ r → p ∣ B i c ∧ ∃ s t u : Int, ¬ p ∣ s ∧ ¬ p ∣ t ∧ ∀ j, j < n → p ∣ s * B i j - (t * A i j + u * A r j)
theorem dv_add {p a b : Int} (h1 : p ∣ a - b) (h2 : p ∣ b) : p ∣ a := by
  have := Int.dvd_add h1 h2
  rwa [Int.sub_add_cancel] at this
theorem dv_sub {p a b : Int} (h1 : p ∣ a - b) (h2 : p ∣ a) : p ∣ b := by
  have := Int.dvd_sub h2 h1
  rwa [show a - (a - b) = b by omega] at this
section PRS
variable {p : Int} {n k c nxt r : Nat} {bs : Nat → Prop} {A A0 B : Nat → Nat → Int} {pl : Nat → Nat}
theorem pvd_r0 (hp : dm p) (hv : pvd p n k A r c B) {j : Nat} (hj : j < n) (h : p ∣ A r j) : p ∣ B r j := by
  obtain ⟨⟨s, t, hs, ht, he⟩, -⟩ := hv
  exact hp.left hs (dv_add (he j hj) (Int.dvd_mul_of_dvd_right h))
theorem pvd_r1 (hp : dm p) (hv : pvd p n k A r c B) {j : Nat} (hj : j < n) (h : ¬ p ∣ A r j) : ¬ p ∣ B r j := fun q => by
  obtain ⟨⟨s, t, hs, ht, he⟩, -⟩ := hv
  exact h (hp.left ht (dv_sub (he j hj) (Int.dvd_mul_of_dvd_right q)))
theorem pvd_i0 (hp : dm p) (hv : pvd p n k A r c B) {i j : Nat} (hi : i < k) (hir : i ≠ r) (hj : j < n) (h : p ∣ A i j) (h2 : p ∣ A r j) : p ∣ B i j := by
  obtain ⟨-, s, t, u, hs, ht, he⟩ := hv.2 i hi hir
  exact hp.left hs (dv_add (he j hj) (Int.dvd_add (Int.dvd_mul_of_dvd_right h) (Int.dvd_mul_of_dvd_right h2)))
theorem pvd_i1 (hp : dm p) (hv : pvd p n k A r c B) {i j : Nat} (hi : i < k) (hir : i ≠ r) (hj : j < n) (h : ¬ p ∣ A i j) (h2 : p ∣ A r j) : ¬ p ∣ B i j := fun q => by
  obtain ⟨-, s, t, u, hs, ht, he⟩ := hv.2 i hi hir
  have h3 := dv_sub (he j hj) (Int.dvd_mul_of_dvd_right q)
  have h4 : p ∣ t * A i j := by
    have := Int.dvd_sub h3 (Int.dvd_mul_of_dvd_right (a := p) (b := u) h2)
    rwa [Int.add_sub_cancel] at this
  exact h (hp.left ht h4)
theorem pr_step (hp : dm p) (h : pr p n k bs c nxt A pl) (hc : c < n) (hb : bs c) (hn : nxt < k) (hne : ¬ p ∣ A nxt c) (hv : pvd p n k A nxt c B) : pr p n k bs (c + 1) (nxt + 1) B (va_up pl nxt c) := by
  obtain ⟨h1, h2, h3, h4, h5, h6⟩ := h
  refine ⟨by omega, fun i hi => ?_, fun i q hi hq hqi => ?_, fun i j h7 hi hj hbj => ?_, fun i i' hii hi' => ?_, fun i j hi hj hbj => ?_⟩
  · by_cases e : i = nxt
    · rw [e, va_up_self]; exact ⟨by omega, hb, pvd_r1 hp hv hc hne⟩
    · rw [va_up_ne _ _ e]
      obtain ⟨a1, a2, a3⟩ := h2 i (by omega)
      exact ⟨by omega, a2, pvd_i1 hp hv (by omega) e (by omega) a3 (h3 i nxt (by omega) hn (Ne.symm e))⟩
  · by_cases e : i = nxt
    · rw [e, va_up_self]; exact (hv.2 q hq (fun z => hqi (by rw [z, e]))).1
    · rw [va_up_ne _ _ e]
      have a1 := (h2 i (by omega)).1
      by_cases e2 : q = nxt
      · rw [e2]; exact pvd_r0 hp hv (by omega) (h3 i nxt (by omega) hn (Ne.symm e))
      · exact pvd_i0 hp hv hq e2 (by omega) (h3 i q (by omega) hq hqi) (h3 i nxt (by omega) hn (Ne.symm e))
  · by_cases e : j = c
    · rw [e]; exact (hv.2 i hi (by omega)).1
    · exact pvd_i0 hp hv hi (by omega) (by omega) (h4 i j (by omega) hi (by omega) hbj) (h4 nxt j (Nat.le_refl _) hn (by omega) hbj)
  · by_cases e : i' = nxt
    · rw [e, va_up_self, va_up_ne _ _ (by omega)]; exact (h2 i (by omega)).1
    · rw [va_up_ne _ _ e, va_up_ne _ _ (by omega)]; exact h5 i i' hii (by omega)
  · by_cases e : i = nxt
    · rw [e, va_up_self] at hj
      rw [e]; exact pvd_r0 hp hv (by omega) (h4 nxt j (Nat.le_refl _) hn hj hbj)
    · rw [va_up_ne _ _ e] at hj
      have a1 := (h2 i (by omega)).1
      exact pvd_i0 hp hv (by omega) e (by omega) (h6 i j (by omega) hj hbj) (h4 nxt j (Nat.le_refl _) hn (by omega) hbj)
theorem pr_skip (h : pr p n k bs c nxt A pl) (hs : ¬ bs c ∨ ∀ x, nxt ≤ x → x < k → p ∣ A x c) : pr p n k bs (c + 1) nxt A pl := by
  obtain ⟨h1, h2, h3, h4, h5, h6⟩ := h
  refine ⟨h1, fun i hi => ?_, h3, fun i j h7 hi hj hbj => ?_, h5, h6⟩
  · obtain ⟨a1, a2, a3⟩ := h2 i hi
    exact ⟨by omega, a2, a3⟩
  · by_cases e : j = c
    · rcases hs with q | q
      · exact absurd (e ▸ hbj) q
      · rw [e]; exact q i h7 hi
    · exact h4 i j h7 hi (by omega) hbj
theorem pr_swap (h : pr p n k bs c nxt A pl) (hr : nxt ≤ r) (hk : r < k) : pr p n k bs c nxt (sw A nxt r) pl := by
  obtain ⟨h1, h2, h3, h4, h5, h6⟩ := h
  have hpl : ∀ i, i < nxt → sw A nxt r i = A i := fun i hi => sw_other _ (by omega) (by omega)
  refine ⟨h1, fun i hi => ?_, fun i q hi hq hqi => ?_, fun i j h7 hi hj hbj => ?_, h5, fun i j hi hj hbj => ?_⟩
  · rw [hpl i hi]; exact h2 i hi
  · by_cases e2 : q = r
    · rw [e2, sw_right]; exact h3 i nxt hi (by omega) (by omega)
    · by_cases e1 : q = nxt
      · rw [e1, sw_left]; exact h3 i r hi hk (by omega)
      · rw [sw_other _ e1 e2]; exact h3 i q hi hq hqi
  · by_cases e2 : i = r
    · rw [e2, sw_right]; exact h4 nxt j (Nat.le_refl _) (by omega) hj hbj
    · by_cases e1 : i = nxt
      · rw [e1, sw_left]; exact h4 r j hr hk hj hbj
      · rw [sw_other _ e1 e2]; exact h4 i j h7 hi hj hbj
  · rw [hpl i hi]; exact h6 i j hi hj hbj
theorem sps_step (hp : dm p) (h : sps p n k A0 A) (hr : r < k) (hv : pvd p n k A r c B) : sps p n k A0 B := by
  obtain ⟨⟨s, t, hs, ht, he⟩, hi2⟩ := hv
  have hBr : sp p n k B (A r) := sp_scale (t := t) (a := s) hp (sp_row hp hr) ht (fun j hj => by
    have := Int.dvd_neg.mpr (he j hj)
    rwa [Int.neg_sub] at this)
  refine ⟨fun i hi => ?_, fun i hi => sp_trans hp (h.2 i hi) (fun i hi => ?_)⟩
  · by_cases e : i = r
    · rw [e]; exact sp_scale (t := s) (a := t) hp (h.1 r hr) hs he
    · obtain ⟨-, s', t', u', hs', ht', he'⟩ := hi2 i hi e
      exact sp_comb (t := s') (a := t') (b := u') hp (h.1 i hi) (h.1 r hr) hs' he'
  · by_cases e : i = r
    · rw [e]; exact hBr
    · obtain ⟨-, s', t', u', hs', ht', he'⟩ := hi2 i hi e
      refine sp_comb (t := t') (a := s') (b := -u') hp (sp_row hp hi) hBr ht' (fun j hj => ?_)
      have := Int.dvd_neg.mpr (he' j hj)
      rwa [show -(s' * B i j - (t' * A i j + u' * A r j)) = t' * A i j - (s' * B i j + -u' * A r j) by grind] at this
theorem sps_swap (hp : dm p) (h : sps p n k A0 A) {a b : Nat} (ha : a < k) (hb : b < k) : sps p n k A0 (sw A a b) := by
  refine ⟨fun i hi => ?_, fun i hi => sp_trans hp (h.2 i hi) (fun i hi => ?_)⟩
  · by_cases e2 : i = b
    · rw [e2, sw_right]; exact h.1 a ha
    · by_cases e1 : i = a
      · rw [e1, sw_left]; exact h.1 b hb
      · rw [sw_other _ e1 e2]; exact h.1 i hi
  · by_cases e2 : i = b
    · have := sp_row (p := p) (n := n) (A := sw A a b) hp ha
      rw [sw_left] at this; rw [e2]; exact this
    · by_cases e1 : i = a
      · have := sp_row (p := p) (n := n) (A := sw A a b) hp hb
        rw [sw_right] at this; rw [e1]; exact this
      · have := sp_row (p := p) (n := n) (A := sw A a b) hp hi
        rw [sw_other _ e1 e2] at this; exact this
theorem sps_rf (hp : dm p) : sps p n k A A := ⟨fun _ hr => sp_row hp hr, fun _ hr => sp_row hp hr⟩
end PRS
theorem ou_0 (g : Nat) : ou g 0 = 0 := by
  unfold ou
  by_cases h : g = 0
  · rw [if_pos h]
  · rw [if_neg h, Int.zero_tdiv]
theorem nd0 {a : Int} (h : a ≠ 0) : ¬ (0 : Int) ∣ a := fun q => h (Int.zero_dvd.mp q)
theorem pvd_q {n k r c : Nat} {A : Nat → Nat → Int} (hc : c < n) (hne : A r c ≠ 0) : pvd 0 n k A r c (pvq A n r c k) := by
  obtain ⟨hpm, hlp, e, he, hfac⟩ := ld_fac hc hne
  have hg := gd_ne hc hne
  have he0 : e ≠ 0 := by
    by_cases hn0 : A r c < 0
    · rw [if_pos hn0] at he; omega
    · rw [if_neg hn0] at he; omega
  have hgp : ((gd (A r) n : Nat) : Int) ≠ 0 := by omega
  refine ⟨⟨_, e, nd0 hgp, nd0 he0, fun j hj => Int.zero_dvd.mpr (by rw [pvq_row, hfac j hj, Int.sub_self])⟩, fun i hi hir => ?_⟩
  by_cases h0 : A i c = 0
  · have q2 : pvq A n r c k i = A i := by unfold pvq; rw [if_neg hir, if_pos hi, if_pos h0]
    rw [q2]
    exact ⟨Int.zero_dvd.mpr h0, 1, 1, 0, nd0 (by omega), nd0 (by omega), fun j _ => Int.zero_dvd.mpr (by grind)⟩
  · have q2 : pvq A n r c k i = fun j => ou (gd (cl1 (A i) (ld n (A r) c) c) n) (cl1 (A i) (ld n (A r) c) c j) := by unfold pvq; rw [if_neg hir, if_pos hi, if_neg h0]
    rw [q2]
    have hu : ∀ j, j < n → ((gd (A r) n : Nat) : Int) * cl1 (A i) (ld n (A r) c) c j = (((gd (A r) n : Nat) : Int) * ld n (A r) c c) * A i j + (-(e * A i c)) * A r j := fun j hj => by
      have := hfac j hj
      unfold cl1
      grind
    refine ⟨Int.zero_dvd.mpr ?_, ?_⟩
    · show ou _ (cl1 (A i) (ld n (A r) c) c c) = 0
      unfold cl1
      rw [Int.mul_comm, Int.sub_self, ou_0]
    · by_cases hgu : gd (cl1 (A i) (ld n (A r) c) c) n = 0
      · refine ⟨1, ((gd (A r) n : Nat) : Int) * ld n (A r) c c, -(e * A i c), nd0 (by omega), nd0 (fun q => ?_), fun j hj => Int.zero_dvd.mpr ?_⟩
        · rcases Int.mul_eq_zero.mp q with q | q <;> omega
        · have h3 : cl1 (A i) (ld n (A r) c) c j = 0 := by rw [ou_eq (u := cl1 (A i) (ld n (A r) c) c) hj, hgu]; exact Int.zero_mul _
          rw [← hu j hj]
          show 1 * ou _ (cl1 (A i) (ld n (A r) c) c j) - _ = 0
          rw [h3, ou_0]; simp
      · refine ⟨((gd (A r) n : Nat) : Int) * ((gd (cl1 (A i) (ld n (A r) c) c) n : Nat) : Int), ((gd (A r) n : Nat) : Int) * ld n (A r) c c, -(e * A i c), nd0 (fun q => ?_), nd0 (fun q => ?_), fun j hj => Int.zero_dvd.mpr ?_⟩
        · rcases Int.mul_eq_zero.mp q with q | q <;> omega
        · rcases Int.mul_eq_zero.mp q with q | q <;> omega
        · rw [← hu j hj]
          show _ * ou (gd (cl1 (A i) (ld n (A r) c) c) n) (cl1 (A i) (ld n (A r) c) c j) - _ = 0
          rw [Int.mul_assoc, ← ou_eq (u := cl1 (A i) (ld n (A r) c) c) hj, Int.sub_self]
theorem dv_emod (z : Int) (q : Nat) : (q : Int) ∣ z % q - z := by
  have := Int.emod_add_mul_ediv z q
  exact ⟨-(z / q), by rw [Int.mul_neg]; omega⟩
theorem pvd_p {n k r c q x : Nat} {A : Nat → Nat → Int} (hc : c < n) (hx1 : 1 ≤ x) (hx2 : x < q) (hx3 : ((x : Int) * A r c) % q = 1) (hd1 : ¬ (q : Int) ∣ 1) : pvd q n k A r c (pvp A q x r c k) := by
  have hxd : ¬ (q : Int) ∣ (x : Int) := fun h => by
    have := Int.le_of_dvd (by omega) h
    omega
  refine ⟨⟨1, x, hd1, hxd, fun j _ => ?_⟩, fun i hi hir => ?_⟩
  · rw [pvp_row, Int.one_mul]; exact dv_emod _ _
  · by_cases h0 : A i c = 0
    · have q2 : pvp A q x r c k i = A i := by unfold pvp; rw [if_neg hir, if_pos hi, if_pos h0]
      rw [q2]
      exact ⟨by rw [h0]; exact Int.dvd_zero _, 1, 1, 0, hd1, hd1, fun j _ => ⟨0, by grind⟩⟩
    · have q2 : pvp A q x r c k i = fun j => (A i j - A i c * ((x * A r j) % q)) % q := by unfold pvp; rw [if_neg hir, if_pos hi, if_neg h0]
      rw [q2]
      refine ⟨?_, 1, 1, -(A i c * x), hd1, hd1, fun j _ => ?_⟩
      · show (q : Int) ∣ (A i c - A i c * ((x * A r c) % q)) % q
        rw [hx3, Int.mul_one, Int.sub_self]
        exact Int.dvd_zero _
      · show (q : Int) ∣ 1 * ((A i j - A i c * ((x * A r j) % q)) % q) - (1 * A i j + -(A i c * x) * A r j)
        have h1 := dv_emod (A i j - A i c * ((x * A r j) % q)) q
        have h2 := Int.dvd_mul_of_dvd_right (b := A i c) (dv_emod (x * A r j) q)
        have := Int.dvd_sub h1 h2
        rwa [show (A i j - A i c * ((x * A r j) % q)) % q - (A i j - A i c * ((x * A r j) % q)) - A i c * ((x * A r j) % q - x * A r j) = 1 * ((A i j - A i c * ((x * A r j) % q)) % q) - (1 * A i j + -(A i c * x) * A r j) by grind] at this
theorem bez (a b : Nat) : ∃ x y : Int, (a : Int) * x + b * y = (Nat.gcd a b : Nat) := by
  induction a, b using Nat.gcd.induction with
  | H0 n => exact ⟨0, 1, by rw [Nat.gcd_zero_left]; omega⟩
  | H1 m n hm ih =>
    obtain ⟨x, y, h⟩ := ih
    rw [Nat.gcd_rec m n]
    refine ⟨y - (n / m : Nat) * x, x, ?_⟩
    rw [← h]
    have h1 : (n : Int) = (m : Int) * ((n / m : Nat) : Int) + ((n % m : Nat) : Int) := by
      rw [← Int.natCast_mul, ← Int.natCast_add, Nat.div_add_mod]
    grind
theorem inv_ex {q : Nat} (hq : prm q) {v : Int} (hv : rsd q v) (hv0 : v ≠ 0) : ∃ c0 : Nat, 1 ≤ c0 ∧ c0 < q ∧ ((c0 : Int) * v) % q = 1 := by
  have h2 := hq.1
  obtain ⟨hv1, hv2⟩ := hv
  have hg : Nat.gcd v.toNat q = 1 := by
    rcases hq.2 _ (Nat.gcd_dvd_right v.toNat q) with h | h
    · exact h
    · have := Nat.le_of_dvd (by omega) (h ▸ Nat.gcd_dvd_left v.toNat q)
      omega
  obtain ⟨x, y, hxy⟩ := bez v.toNat q
  rw [hg] at hxy
  have hx1 := Int.emod_nonneg x (show (q : Int) ≠ 0 by omega)
  have hx2 := Int.emod_lt_of_pos x (show (0 : Int) < q by omega)
  have hvt : (v.toNat : Int) = v := Int.toNat_of_nonneg hv1
  rw [hvt] at hxy
  have hc : ((x % q).toNat : Int) = x % q := Int.toNat_of_nonneg hx1
  have hmod : ((x % q) * v) % q = 1 := by
    rw [Int.mul_emod, Int.emod_emod, ← Int.mul_emod]
    have : x * v = 1 + q * (-y) := by grind
    rw [this, Int.add_mul_emod_self_left]
    exact Int.emod_eq_of_lt (by omega) (by omega)
  refine ⟨(x % q).toNat, ?_, by omega, by rw [hc]; exact hmod⟩
  rcases Nat.eq_zero_or_pos (x % q).toNat with h | h
  · have h0 : x % q = 0 := by omega
    rw [h0, Int.zero_mul] at hmod
    simp at hmod
  · exact h
-- the two kinds of tables being swept
def invQ (N n k : Nat) (V : (Nat → Int) → Prop) (bs : Nat → Prop) (A0 : Nat → Nat → Int) (c nxt : Nat) (A : Nat → Nat → Int) (pl : Nat → Nat) : Prop := (∃ T ph, gh N k V T ph ∧ rcl n k T A) ∧ pr 0 n k bs c nxt A pl ∧ sps 0 n k A0 A ∧ (∀ i, i < nxt → pm n (A i) ∧ 0 < A i (pl i)) ∧ ∀ i j, i < k → j < n → (A i j).natAbs ≤ NB
def invP (q n k : Nat) (bs : Nat → Prop) (A0 : Nat → Nat → Int) (c nxt : Nat) (A : Nat → Nat → Int) (pl : Nat → Nat) : Prop := pr q n k bs c nxt A pl ∧ sps q n k A0 A ∧ (∀ i j, i < k → j < n → rsd q (A i j)) ∧ ∀ i, i < nxt → A i (pl i) = 1
theorem pvq_bd {N n k : Nat} {V : (Nat → Int) → Prop} (hl : lin N V) {T A : Nat → Nat → Int} {ph : Nat → Nat} (hn : n ≤ N) (hs : smC N n V) (h : gh N k V T ph) (hc1 : rcl n k T A) {r c : Nat} (hr : r < k) (hc : c < n) (hne : A r c ≠ 0) (hb : ∀ i j, i < k → j < n → (A i j).natAbs ≤ NB) : ∀ i j, i < k → j < n → (pvq A n r c k i j).natAbs ≤ NB := by
  intro i j hi hj
  obtain ⟨ar, har, hTr⟩ := hc1 r hr
  have hneT : T r c ≠ 0 := by
    rw [hTr c hc]
    intro q
    rcases Int.mul_eq_zero.mp q with q | q
    · omega
    · exact hne q
  have hg' := gh_turn hl h hr (show c < N by omega) hneT
  have hr' := rcl_turn h hn hc1 hr hc hne
  obtain ⟨a, ha, hT⟩ := hr' i hi
  by_cases e : i = r
  · have hpm : pm n (pvq A n r c k i) := by rw [e, pvq_row]; exact (ld_fac hc hne).1
    exact cls_bd hg' hn hs hi ha hT hpm j hj
  · by_cases h0 : A i c = 0
    · have q2 : pvq A n r c k i = A i := by unfold pvq; rw [if_neg e, if_pos hi, if_pos h0]
      rw [q2]; exact hb i j hi hj
    · have q2 : pvq A n r c k i = fun j => ou (gd (cl1 (A i) (ld n (A r) c) c) n) (cl1 (A i) (ld n (A r) c) c j) := by unfold pvq; rw [if_neg e, if_pos hi, if_neg h0]
      by_cases hgu : gd (cl1 (A i) (ld n (A r) c) c) n = 0
      · rw [q2]
        show (ou (gd (cl1 (A i) (ld n (A r) c) c) n) _).natAbs ≤ NB
        unfold ou
        rw [if_pos hgu]
        exact Nat.zero_le _
      · have hpm : pm n (pvq A n r c k i) := by rw [q2]; exact pm_ou hgu
        exact cls_bd hg' hn hs hi ha hT hpm j hj
theorem NB_lt {x : Int} (h : x.natAbs ≤ NB) : x.natAbs < B30 ^ 5 := by
  have : NB < B30 ^ 5 := by decide +kernel
  omega
theorem invQ_skip {N n k : Nat} {V : (Nat → Int) → Prop} {bs : Nat → Prop} {A0 : Nat → Nat → Int} {c nxt : Nat} {A : Nat → Nat → Int} {pl : Nat → Nat} (h : invQ N n k V bs A0 c nxt A pl) (hs : ¬ bs c ∨ ∀ x, nxt ≤ x → x < k → A x c = 0) : invQ N n k V bs A0 (c + 1) nxt A pl :=
  ⟨h.1, pr_skip h.2.1 (hs.elim Or.inl (fun q => Or.inr (fun x h1 h2 => Int.zero_dvd.mpr (q x h1 h2)))), h.2.2.1, h.2.2.2.1, h.2.2.2.2⟩
theorem invQ_piv {N n k : Nat} {V : (Nat → Int) → Prop} (hl : lin N V) (hnN : n ≤ N) (hsm : smC N n V) {bs : Nat → Prop} {A0 : Nat → Nat → Int} {c nxt r : Nat} {A : Nat → Nat → Int} {pl : Nat → Nat} (h : invQ N n k V bs A0 c nxt A pl) (hc : c < n) (hb : bs c) (hr1 : nxt ≤ r) (hr2 : r < k) (hne : A r c ≠ 0) :
    (∀ i j, i < k → j < n → (pvq (sw A nxt r) n nxt c k i j).natAbs < B30 ^ 5) ∧ invQ N n k V bs A0 (c + 1) (nxt + 1) (pvq (sw A nxt r) n nxt c k) (va_up pl nxt c) := by
  obtain ⟨⟨T, ph, hg, hrc⟩, hpr, hsp, htold, hbd⟩ := h
  have hne' : sw A nxt r nxt c ≠ 0 := by rw [sw_left]; exact hne
  have hg1 := gh_swap hg (show nxt < k by omega) hr2
  have hrc1 := rcl_swap hrc (show nxt < k by omega) hr2
  have hbd1 : ∀ i j, i < k → j < n → (sw A nxt r i j).natAbs ≤ NB := fun i j hi hj => by
    by_cases e2 : i = r
    · rw [e2, sw_right]; exact hbd nxt j (by omega) hj
    · by_cases e1 : i = nxt
      · rw [e1, sw_left]; exact hbd r j hr2 hj
      · rw [sw_other _ e1 e2]; exact hbd i j hi hj
  have hB := pvq_bd hl hnN hsm hg1 hrc1 (show nxt < k by omega) hc hne' hbd1
  have hvd := pvd_q (k := k) hc hne'
  have hneT : sw T nxt r nxt c ≠ 0 := by
    obtain ⟨a, ha, hT⟩ := hrc1 nxt (by omega)
    rw [hT c hc]
    intro q
    rcases Int.mul_eq_zero.mp q with q | q
    · omega
    · exact hne' q
  have hpr1 := pr_swap hpr hr1 hr2
  refine ⟨fun i j hi hj => NB_lt (hB i j hi hj), ⟨_, _, gh_turn hl hg1 (by omega) (by omega) hneT, rcl_turn hg1 hnN hrc1 (by omega) hc hne'⟩, pr_step dm0 hpr1 hc hb (by omega) (nd0 hne') hvd, sps_step dm0 (sps_swap dm0 hsp (by omega) hr2) (by omega) hvd, fun i hi => ?_, hB⟩
  by_cases e : i = nxt
  · rw [e, va_up_self, pvq_row]
    exact ⟨(ld_fac hc hne').1, (ld_fac hc hne').2.1⟩
  · rw [va_up_ne _ _ e]
    obtain ⟨t1, t2⟩ := htold i (by omega)
    have eA : sw A nxt r i = A i := sw_other _ e (by omega)
    have hpli : pl i < n := by have := (hpr.2.1 i (by omega)).1; omega
    by_cases h0 : sw A nxt r i c = 0
    · have q2 : pvq (sw A nxt r) n nxt c k i = sw A nxt r i := by unfold pvq; rw [if_neg e, if_pos (by omega), if_pos h0]
      rw [q2, eA]; exact ⟨t1, t2⟩
    · have q2 : pvq (sw A nxt r) n nxt c k i = fun j => ou (gd (cl1 (sw A nxt r i) (ld n (sw A nxt r nxt) c) c) n) (cl1 (sw A nxt r i) (ld n (sw A nxt r nxt) c) c j) := by unfold pvq; rw [if_neg e, if_pos (by omega), if_neg h0]
      have hz : ld n (sw A nxt r nxt) c (pl i) = 0 := by
        obtain ⟨-, -, e', he', hfac⟩ := ld_fac hc hne'
        have h3 := hfac (pl i) hpli
        rw [Int.zero_dvd.mp (hpr1.2.2.1 i nxt (by omega) (by omega) (Ne.symm e)), Int.mul_zero] at h3
        have h4 := gd_ne hc hne'
        rcases Int.mul_eq_zero.mp h3 with q | q
        · omega
        · exact q
      have hu : 0 < cl1 (sw A nxt r i) (ld n (sw A nxt r nxt) c) c (pl i) := by
        unfold cl1
        rw [hz, Int.zero_mul, Int.sub_zero, eA]
        exact Int.mul_pos t2 (ld_fac hc hne').2.1
      have hgu := gd_ne hpli (show cl1 (sw A nxt r i) (ld n (sw A nxt r nxt) c) c (pl i) ≠ 0 by omega)
      rw [q2]
      refine ⟨pm_ou hgu, ?_⟩
      have h5 := ou_eq (u := cl1 (sw A nxt r i) (ld n (sw A nxt r nxt) c) c) hpli
      have h6 : (0 : Int) < ((gd (cl1 (sw A nxt r i) (ld n (sw A nxt r nxt) c) c) n : Nat) : Int) := by omega
      rw [h5] at hu
      exact Int.pos_of_mul_pos_right hu h6 |> fun q => q
theorem invP_skip {q n k : Nat} {bs : Nat → Prop} {A0 : Nat → Nat → Int} {c nxt : Nat} {A : Nat → Nat → Int} {pl : Nat → Nat} (h : invP q n k bs A0 c nxt A pl) (hs : ¬ bs c ∨ ∀ x, nxt ≤ x → x < k → A x c = 0) : invP q n k bs A0 (c + 1) nxt A pl :=
  ⟨pr_skip h.1 (hs.elim Or.inl (fun z => Or.inr (fun x h1 h2 => by rw [z x h1 h2]; exact Int.dvd_zero _))), h.2.1, h.2.2.1, h.2.2.2⟩
theorem rsd_nd {q : Nat} {v : Int} (h : rsd q v) (h0 : v ≠ 0) : ¬ (q : Int) ∣ v := fun z => by
  have := Int.le_of_dvd (by have := h.1; omega) z
  have := h.2
  omega
theorem rsd_0 {q : Nat} {v : Int} (h : rsd q v) (h0 : (q : Int) ∣ v) : v = 0 := Classical.byContradiction fun z => rsd_nd h z h0
theorem invP_piv {q n k : Nat} (hq : prm q) {bs : Nat → Prop} {A0 : Nat → Nat → Int} {c nxt r : Nat} {A : Nat → Nat → Int} {pl : Nat → Nat} (h : invP q n k bs A0 c nxt A pl) (hc : c < n) (hb : bs c) (hr1 : nxt ≤ r) (hr2 : r < k) (hne : A r c ≠ 0) :
    (∀ i j, i < k → j < n → rsd q (sw A nxt r i j)) ∧ (∃ c0 : Nat, 1 ≤ c0 ∧ c0 < q ∧ ((c0 : Int) * sw A nxt r nxt c) % q = 1) ∧ ∀ x : Nat, 1 ≤ x → x < q → ((x : Int) * sw A nxt r nxt c) % q = 1 → invP q n k bs A0 (c + 1) (nxt + 1) (pvp (sw A nxt r) q x nxt c k) (va_up pl nxt c) := by
  obtain ⟨hpr, hsp, hres, htold⟩ := h
  have h2 := hq.1
  have hdm := dmP hq
  have hne' : sw A nxt r nxt c ≠ 0 := by rw [sw_left]; exact hne
  have hres1 : ∀ i j, i < k → j < n → rsd q (sw A nxt r i j) := fun i j hi hj => by
    by_cases e2 : i = r
    · rw [e2, sw_right]; exact hres nxt j (by omega) hj
    · by_cases e1 : i = nxt
      · rw [e1, sw_left]; exact hres r j hr2 hj
      · rw [sw_other _ e1 e2]; exact hres i j hi hj
  refine ⟨hres1, inv_ex hq (hres1 nxt c (by omega) hc) hne', fun x hx1 hx2 hx3 => ?_⟩
  have hvd := pvd_p (n := n) (k := k) hc hx1 hx2 hx3 hdm.1
  have hpr1 := pr_swap hpr hr1 hr2
  refine ⟨pr_step hdm hpr1 hc hb (by omega) (rsd_nd (hres1 nxt c (by omega) hc) hne') hvd, sps_step hdm (sps_swap hdm hsp (by omega) hr2) (by omega) hvd, pvp_res _ (by omega) hres1, fun i hi => ?_⟩
  by_cases e : i = nxt
  · rw [e, va_up_self, pvp_row]; exact hx3
  · rw [va_up_ne _ _ e]
    have eA : sw A nxt r i = A i := sw_other _ e (by omega)
    have hpli : pl i < n := by have := (hpr.2.1 i (by omega)).1; omega
    have t1 := htold i (by omega)
    by_cases h0 : sw A nxt r i c = 0
    · have q2 : pvp (sw A nxt r) q x nxt c k i = sw A nxt r i := by unfold pvp; rw [if_neg e, if_pos (by omega), if_pos h0]
      rw [q2, eA]; exact t1
    · have q2 : pvp (sw A nxt r) q x nxt c k i = fun j => (sw A nxt r i j - sw A nxt r i c * ((x * sw A nxt r nxt j) % q)) % q := by unfold pvp; rw [if_neg e, if_pos (by omega), if_neg h0]
      rw [q2]
      show (sw A nxt r i (pl i) - sw A nxt r i c * ((x * sw A nxt r nxt (pl i)) % q)) % q = 1
      rw [rsd_0 (hres1 nxt (pl i) (by omega) hpli) (hpr1.2.2.1 i nxt (by omega) (by omega) (Ne.symm e)), eA, t1, Int.mul_zero, Int.zero_emod, Int.mul_zero, Int.sub_zero]
      exact Int.emod_eq_of_lt (by omega) (by omega)

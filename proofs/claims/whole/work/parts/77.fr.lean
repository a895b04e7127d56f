-- ===== the reference's fractions: a reduced table's numbers over the number at the row's own place =====
def low (a b : Int) : Prop := 0 < b ∧ Int.gcd a b = 1
def fr (n k : Nat) (T : Nat → Nat → Int) (ph : Nat → Nat) (a b : Nat → Nat → Int) : Prop := ∀ i j, i < k → j < n → low (a i j) (b i j) ∧ a i j * T i (ph i) = b i j * T i j
theorem low_dvd {a b P x : Int} (h : low a b) (e : a * P = b * x) : b ∣ P ∧ a ∣ x := by
  refine ⟨idvd (m := a) (by rw [Int.gcd_comm]; exact h.2) ⟨x, e⟩, idvd (m := b) h.2 ⟨P, e.symm⟩⟩
theorem low_0 {b : Int} (h : low 0 b) : b = 1 := by
  have := h.2
  rw [Int.gcd_zero_left] at this
  have := h.1
  omega
theorem dvd_le {a b : Int} (h : a ∣ b) (hb : b ≠ 0) : a.natAbs ≤ b.natAbs := Nat.le_of_dvd (by omega) (Int.natAbs_dvd_natAbs.mpr h)
theorem low_bd {a b P x : Int} {B : Nat} (h : low a b) (e : a * P = b * x) (hP : 0 < P) (h1 : P.natAbs ≤ B) (h2 : x.natAbs ≤ B) : a.natAbs ≤ B ∧ b.natAbs ≤ B := by
  obtain ⟨d1, d2⟩ := low_dvd h e
  refine ⟨?_, Nat.le_trans (dvd_le d1 (by omega)) h1⟩
  by_cases hx : x = 0
  · have : a = 0 := by
      rw [hx, Int.mul_zero] at e
      rcases Int.mul_eq_zero.mp e with q | q
      · exact q
      · omega
    rw [this]; exact Nat.zero_le _
  · exact Nat.le_trans (dvd_le d2 hx) h2
theorem low_z {a b P x : Int} (h : low a b) (e : a * P = b * x) (hP : 0 < P) : a = 0 ↔ x = 0 := by
  constructor
  · intro q
    rw [q, Int.zero_mul] at e
    rcases Int.mul_eq_zero.mp e.symm with z | z
    · have := h.1; omega
    · exact z
  · intro q
    rw [q, Int.mul_zero] at e
    rcases Int.mul_eq_zero.mp e with z | z
    · exact z
    · omega
theorem low_un {a b a' b' : Int} (h : low a b) (h' : low a' b') (e : a * b' = b * a') : a = a' ∧ b = b' := by
  have d1 := (low_dvd h e).1
  have e2 : a' * b = b' * a := by rw [Int.mul_comm, ← e, Int.mul_comm]
  have d2 := (low_dvd h' e2).1
  have hb : b = b' := by
    have h1 := Int.le_of_dvd h'.1 d1
    have h2 := Int.le_of_dvd h.1 d2
    omega
  subst hb
  refine ⟨?_, rfl⟩
  rw [Int.mul_comm] at e
  exact Int.eq_of_mul_eq_mul_left (by have := h.1; omega) e
theorem fr_bd {N n k B : Nat} {V : (Nat → Int) → Prop} {T : Nat → Nat → Int} {ph : Nat → Nat} {a b : Nat → Nat → Int} (hn : n ≤ N) (hg : gh N k V T ph) (hs : smb B N V) (h : fr n k T ph a b) {i j : Nat} (hi : i < k) (hj : j < n) : (a i j).natAbs ≤ B ∧ (b i j).natAbs ≤ B :=
  low_bd (h i j hi hj).1 (h i j hi hj).2 (hg.2.1 i hi).2 (gh_bd hg hs hi _ (hg.1.1 i hi).1) (gh_bd hg hs hi j (by omega))
theorem fr_swap {n k : Nat} {T : Nat → Nat → Int} {ph : Nat → Nat} {a b : Nat → Nat → Int} (h : fr n k T ph a b) {x y : Nat} (hx : x < k) (hy : y < k) : fr n k (sw T x y) (sw ph x y) (sw a x y) (sw b x y) := by
  intro i j hi hj
  by_cases e2 : i = y
  · rw [e2, sw_right, sw_right, sw_right, sw_right]; exact h x j hx hj
  · by_cases e1 : i = x
    · rw [e1, sw_left, sw_left, sw_left, sw_left]; exact h y j hy hj
    · rw [sw_other _ e1 e2, sw_other _ e1 e2, sw_other _ e1 e2, sw_other _ e1 e2]; exact h i j hi hj
/-- what give makes of the fractions -/
def fgiv (n k r c : Nat) (a b a' b' : Nat → Nat → Int) : Prop := (∀ j, j < n → low (a' r j) (b' r j) ∧ a' r j * (b r j * a r c) = b' r j * (a r j * b r c)) ∧ ∀ i, i < k → i ≠ r → (a i c = 0 → ∀ j, j < n → a' i j = a i j ∧ b' i j = b i j) ∧ (a i c ≠ 0 → ∀ j, j < n → low (a' i j) (b' i j) ∧ a' i j * (b i j * (b i c * b' r j)) = b' i j * (a i j * (b i c * b' r j) - a i c * a' r j * b i j))
theorem cancel3 {x y z : Int} (hx : x ≠ 0) (h : x * y = x * z) : y = z := Int.eq_of_mul_eq_mul_left hx h
theorem fr_turn {N n k : Nat} {V : (Nat → Int) → Prop} {T : Nat → Nat → Int} {ph : Nat → Nat} {a b a' b' : Nat → Nat → Int} (hn : n ≤ N) (hg : gh N k V T ph) (h : fr n k T ph a b) {r c : Nat} (hr : r < k) (hc : c < n) (hne : T r c ≠ 0) (hv : fgiv n k r c a b a' b') : fr n k (pvq T N r c k) (va_up ph r c) a' b' := by
  obtain ⟨e, he, hF1, hpos, hF2⟩ := gh_turnF hg hr (by omega) hne
  obtain ⟨hv1, hv2⟩ := hv
  have hrow : ∀ j, j < n → a' r j * pvq T N r c k r c = b' r j * pvq T N r c k r j := fun j hj => by
    obtain ⟨l1, e1⟩ := h r j hr hj
    obtain ⟨l2, e2⟩ := h r c hr hc
    have e3 := (hv1 j hj).2
    have hb1 := l1.1
    have hb2 := l2.1
    have key : a' r j * T r c = b' r j * T r j := by
      refine cancel3 (x := b r j * b r c) (fun q => ?_) ?_
      · rcases Int.mul_eq_zero.mp q with q | q <;> omega
      · generalize T r (ph r) = P at e1 e2
        calc b r j * b r c * (a' r j * T r c) = a' r j * (b r j * (b r c * T r c)) := by grind
          _ = a' r j * (b r j * (a r c * P)) := by rw [← e2]
          _ = (a' r j * (b r j * a r c)) * P := by grind
          _ = (b' r j * (a r j * b r c)) * P := by rw [e3]
          _ = b' r j * b r c * (a r j * P) := by grind
          _ = b' r j * b r c * (b r j * T r j) := by rw [e1]
          _ = _ := by grind
    rw [hF1, hF1]
    have : a' r j * (e * T r c) = e * (a' r j * T r c) := by grind
    rw [this, key]; grind
  intro i j hi hj
  by_cases e1 : i = r
  · subst e1
    rw [va_up_self]
    exact ⟨(hv1 j hj).1, hrow j hj⟩
  · rw [va_up_ne _ _ e1]
    obtain ⟨l0, q0⟩ := h i j hi hj
    obtain ⟨lc, qc⟩ := h i c hi hc
    by_cases hz : a i c = 0
    · obtain ⟨g1, g2⟩ := (hv2 i hi e1).1 hz j hj
      have hT : T i c = 0 := (low_z lc qc (hg.2.1 i hi).2).mp hz
      have q1 : pvq T N r c k i = T i := by unfold pvq; rw [if_neg e1, if_pos hi, if_pos hT]
      rw [q1, g1, g2]; exact ⟨l0, q0⟩
    · obtain ⟨l3, q3⟩ := (hv2 i hi e1).2 hz j hj
      refine ⟨l3, ?_⟩
      obtain ⟨-, g, hg0, hF⟩ := hF2 i hi e1
      have f1 := hF j (by omega)
      have f2 := hF (ph i) (hg.1.1 i hi).1
      have hz2 : pvq T N r c k r (ph i) = 0 := by rw [hF1, gh_0 hg hi hr (Ne.symm e1), Int.mul_zero]
      rw [hz2, Int.zero_mul, Int.sub_zero] at f2
      have hr1 := hrow j hj
      obtain ⟨lr, -⟩ := hv1 j hj
      have hb0 := l0.1
      have hbc := lc.1
      have hby := lr.1
      generalize pvq T N r c k r c = Q at f1 f2 hr1 hpos
      generalize pvq T N r c k r j = R at f1 hr1
      generalize pvq T N r c k i (ph i) = X at f2 ⊢
      generalize pvq T N r c k i j = Y at f1 ⊢
      generalize T i (ph i) = P at q0 qc f2
      -- multiply by what is not 0
      refine cancel3 (x := g * (b i j * (b i c * b' r j))) (fun q => ?_) ?_
      · rcases Int.mul_eq_zero.mp q with q | q
        · omega
        · rcases Int.mul_eq_zero.mp q with q | q
          · omega
          · rcases Int.mul_eq_zero.mp q with q | q <;> omega
      · calc g * (b i j * (b i c * b' r j)) * (a' i j * X) = (a' i j * (b i j * (b i c * b' r j))) * (g * X) := by grind
          _ = (b' i j * (a i j * (b i c * b' r j) - a i c * a' r j * b i j)) * (P * Q) := by rw [q3, f2]
          _ = b' i j * ((a i j * P) * b i c * b' r j * Q - (a i c * P) * (a' r j * Q) * b i j) := by grind
          _ = b' i j * ((b i j * T i j) * b i c * b' r j * Q - (b i c * T i c) * (b' r j * R) * b i j) := by rw [q0, qc, hr1]
          _ = (b i j * (b i c * b' r j)) * b' i j * (T i j * Q - R * T i c) := by grind
          _ = (b i j * (b i c * b' r j)) * b' i j * (g * Y) := by rw [f1]
          _ = _ := by grind
-- the reference's sweep over the rationals
def invT (N n k : Nat) (V : (Nat → Int) → Prop) (bs : Nat → Prop) (A0 : Nat → Nat → Int) (c nxt : Nat) (A : Nat → Nat → Int) (pl : Nat → Nat) (a b : Nat → Nat → Int) : Prop := ∃ T ph, gh N k V T ph ∧ rcl n k T A ∧ fr n k T ph a b ∧ (∀ i, i < nxt → ph i = pl i) ∧ invQ N n k V bs A0 c nxt A pl
theorem invT_z {N n k : Nat} {V : (Nat → Int) → Prop} {bs : Nat → Prop} {A0 : Nat → Nat → Int} {c nxt : Nat} {A : Nat → Nat → Int} {pl : Nat → Nat} {a b : Nat → Nat → Int} (h : invT N n k V bs A0 c nxt A pl a b) {i j : Nat} (hi : i < k) (hj : j < n) : a i j = 0 ↔ A i j = 0 := by
  obtain ⟨T, ph, hg, hr, hf, -⟩ := h
  obtain ⟨l, e⟩ := hf i j hi hj
  obtain ⟨s, hs, e2⟩ := hr i hi
  rw [low_z l e (hg.2.1 i hi).2, e2 j hj]
  constructor
  · intro q
    rcases Int.mul_eq_zero.mp q with q | q
    · omega
    · exact q
  · intro q; rw [q, Int.mul_zero]
theorem invT_bd {N n k B : Nat} {V : (Nat → Int) → Prop} {bs : Nat → Prop} {A0 : Nat → Nat → Int} {c nxt : Nat} {A : Nat → Nat → Int} {pl : Nat → Nat} {a b : Nat → Nat → Int} (h : invT N n k V bs A0 c nxt A pl a b) (hn : n ≤ N) (hs : smb B N V) {i j : Nat} (hi : i < k) (hj : j < n) : (a i j).natAbs ≤ B ∧ (b i j).natAbs ≤ B ∧ low (a i j) (b i j) := by
  obtain ⟨T, ph, hg, hr, hf, -⟩ := h
  obtain ⟨h1, h2⟩ := fr_bd hn hg hs hf hi hj
  exact ⟨h1, h2, (hf i j hi hj).1⟩
theorem invT_skip {N n k : Nat} {V : (Nat → Int) → Prop} {bs : Nat → Prop} {A0 : Nat → Nat → Int} {c nxt : Nat} {A : Nat → Nat → Int} {pl : Nat → Nat} {a b : Nat → Nat → Int} (h : invT N n k V bs A0 c nxt A pl a b) (hc : c < n) (hs : ∀ x, nxt ≤ x → x < k → a x c = 0) : invT N n k V bs A0 (c + 1) nxt A pl a b := by
  have hz : ∀ x, nxt ≤ x → x < k → A x c = 0 := fun x h1 h2 => (invT_z h h2 hc).mp (hs x h1 h2)
  obtain ⟨T, ph, hg, hr, hf, ht, hq⟩ := h
  exact ⟨T, ph, hg, hr, hf, ht, invQ_skip hq (Or.inr hz)⟩
theorem invT_swap {N n k : Nat} {V : (Nat → Int) → Prop} {bs : Nat → Prop} {A0 : Nat → Nat → Int} {c nxt : Nat} {A : Nat → Nat → Int} {pl : Nat → Nat} {a b : Nat → Nat → Int} {r : Nat} (h : invT N n k V bs A0 c nxt A pl a b) (hr1 : nxt ≤ r) (hr2 : r < k) : ∃ T ph, gh N k V T ph ∧ fr n k T ph (sw a nxt r) (sw b nxt r) := by
  obtain ⟨T, ph, hg, hr, hf, ht, hq⟩ := h
  exact ⟨_, _, gh_swap hg (by omega) hr2, fr_swap hf (by omega) hr2⟩
theorem invT_piv {N n k : Nat} {V : (Nat → Int) → Prop} (hl : lin N V) (hnN : n ≤ N) (hsm : smC N n V) {bs : Nat → Prop} {A0 : Nat → Nat → Int} {c nxt r : Nat} {A : Nat → Nat → Int} {pl : Nat → Nat} {a b a' b' : Nat → Nat → Int} (h : invT N n k V bs A0 c nxt A pl a b) (hc : c < n) (hb : bs c) (hr1 : nxt ≤ r) (hr2 : r < k) (hne : a r c ≠ 0) (hv : fgiv n k nxt c (sw a nxt r) (sw b nxt r) a' b') : ∃ A', invT N n k V bs A0 (c + 1) (nxt + 1) A' (va_up pl nxt c) a' b' := by
  have hneA : A r c ≠ 0 := fun q => hne ((invT_z h hr2 hc).mpr q)
  obtain ⟨T, ph, hg, hrc, hf, ht, hq⟩ := h
  obtain ⟨-, hq'⟩ := invQ_piv hl hnN hsm hq hc hb hr1 hr2 hneA
  have hg1 := gh_swap hg (show nxt < k by omega) hr2
  have hrc1 := rcl_swap hrc (show nxt < k by omega) hr2
  have hf1 := fr_swap hf (show nxt < k by omega) hr2
  have hneA' : sw A nxt r nxt c ≠ 0 := by rw [sw_left]; exact hneA
  have hneT : sw T nxt r nxt c ≠ 0 := by
    obtain ⟨s, hs, hT⟩ := hrc1 nxt (by omega)
    rw [hT c hc]
    intro q
    rcases Int.mul_eq_zero.mp q with q | q
    · omega
    · exact hneA' q
  refine ⟨_, _, _, gh_turn hl hg1 (by omega) (by omega) hneT, rcl_turn hg1 hnN hrc1 (by omega) hc hneA', fr_turn hnN hg1 hf1 (by omega) hc hneT hv, fun i hi => ?_, hq'⟩
  by_cases e : i = nxt
  · rw [e, va_up_self, va_up_self]
  · rw [va_up_ne _ _ e, va_up_ne _ _ e, sw_other _ e (by omega)]; exact ht i (by omega)
theorem invT_end {N n k : Nat} {V : (Nat → Int) → Prop} {bs : Nat → Prop} {A0 : Nat → Nat → Int} {nxt : Nat} {A : Nat → Nat → Int} {pl : Nat → Nat} {a b : Nat → Nat → Int} (h : invT N n k V bs A0 n nxt A pl a b) (hbs : ∀ j, j < n → bs j) : (∀ i j, i < nxt → j < n → a i j * A i (pl i) = b i j * A i j ∧ 0 < A i (pl i)) ∧ ∀ i j, nxt ≤ i → i < k → j < n → a i j = 0 ∧ b i j = 1 := by
  have hz := @invT_z N n k V bs A0 n nxt A pl a b h
  obtain ⟨T, ph, hg, hr, hf, ht, hq⟩ := h
  obtain ⟨-, hpr, -, htl, -⟩ := hq
  refine ⟨fun i j hi hj => ?_, fun i j h1 h2 hj => ?_⟩
  · have hik : i < k := by have := hpr.1; omega
    obtain ⟨l, e⟩ := hf i j hik hj
    obtain ⟨s, hs, e2⟩ := hr i hik
    have hp := (hpr.2.1 i hi).1
    rw [ht i hi, e2 j hj, e2 _ hp] at e
    refine ⟨cancel3 (x := s) (by omega) ?_, (htl i hi).2⟩
    have : s * (a i j * A i (pl i)) = a i j * (s * A i (pl i)) := by grind
    rw [this, e]; grind
  · have h0 : A i j = 0 := Int.zero_dvd.mp (hpr.2.2.2.1 i j h1 h2 hj (hbs j hj))
    have ha := (hz h2 hj).mpr h0
    have hl := (hf i j h2 hj).1
    rw [ha] at hl
    exact ⟨ha, low_0 hl⟩
/-- the digits that are told: the least common multiple of a row's bottoms is its number at the place -/
theorem lcm_row {n : Nat} {x a b : Nat → Int} {P M : Int} (hP : 0 < P) (hM : 0 < M) (h : ∀ j, j < n → 0 < b j ∧ a j * P = b j * x j) (hpm : pm n x) (hd : M ∣ P) (hb : ∀ j, j < n → b j ∣ M) : M = P := by
  obtain ⟨t, ht⟩ := hd
  have ht0 : 0 < t := by
    rcases Int.lt_trichotomy t 0 with q | q | q
    · have := Int.mul_neg_of_pos_of_neg hM q; omega
    · rw [q, Int.mul_zero] at ht; omega
    · exact q
  have h1 : t ∣ 1 := hpm t (fun j hj => by
    obtain ⟨hb0, e⟩ := h j hj
    obtain ⟨u, hu⟩ := hb j hj
    have : b j * (a j * (u * t)) = b j * x j := by
      rw [← e, ht, hu]; grind
    have := cancel3 (by omega) this
    exact ⟨a j * u, by rw [← this]; grind⟩)
  have := dvd1_pos ht0 h1
  rw [this, Int.mul_one] at ht
  exact ht.symm

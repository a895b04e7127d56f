-- ===== a reduced table of a space, turned from places to places, told in all its columns; rows of the class under it =====
theorem dvd_gd {x : Nat → Int} {d : Nat} : ∀ {n : Nat}, (∀ j, j < n → d ∣ (x j).natAbs) → d ∣ gd x n
  | 0, _ => Nat.dvd_zero d
  | n + 1, h => Nat.dvd_gcd (dvd_gd (fun j hj => h j (by omega))) (h n (by omega))
theorem gd_pm {n : Nat} {x : Nat → Int} (h : pm n x) : gd x n = 1 := by
  have h1 : ((gd x n : Nat) : Int) ∣ 1 := h _ (fun j hj => Int.ofNat_dvd_left.mpr (gd_dvd hj))
  have h2 : gd x n ∣ 1 := by
    have := Int.natAbs_dvd_natAbs.mpr h1
    simpa using this
  exact Nat.dvd_one.mp h2
theorem ou_eq {u : Nat → Int} {n j : Nat} (hj : j < n) : u j = ((gd u n : Nat) : Int) * ou (gd u n) (u j) := by
  have hd := gd_dvd (v := u) hj
  by_cases h : gd u n = 0
  · rw [h] at hd ⊢
    have := Nat.eq_zero_of_zero_dvd hd
    rw [show ((0 : Nat) : Int) = 0 from rfl, Int.zero_mul]
    omega
  · unfold ou
    rw [if_neg h]
    obtain ⟨q, hq⟩ : ((gd u n : Nat) : Int) ∣ u j := Int.ofNat_dvd_left.mpr hd
    rw [hq, Int.mul_tdiv_cancel_left _ (by omega)]
theorem pm_ou {u : Nat → Int} {n : Nat} (h : gd u n ≠ 0) : pm n (fun j => ou (gd u n) (u j)) := by
  intro d hd
  have h1 : gd u n * d.natAbs ∣ gd u n := dvd_gd (fun j hj => by
    obtain ⟨q, hq⟩ := hd j hj
    rw [ou_eq (u := u) hj, Int.natAbs_mul, Int.natAbs_natCast]
    exact Nat.mul_dvd_mul_left _ (Int.natAbs_dvd_natAbs.mpr ⟨q, hq⟩))
  have h2 : d.natAbs ∣ 1 := Nat.dvd_of_mul_dvd_mul_left (Nat.pos_of_ne_zero h) (by rw [Nat.mul_one]; exact h1)
  exact Int.natAbs_dvd_natAbs.mp (by simpa using h2)
theorem pm_neg {n : Nat} {x : Nat → Int} (h : pm n x) : pm n (fun j => -x j) := fun d hd => h d (fun j hj => by
  have := hd j hj
  exact (Int.dvd_neg).mp this)
theorem pm_ex {n : Nat} {x : Nat → Int} (h : pm n x) : ∃ c, c < n ∧ x c ≠ 0 := by
  apply Classical.byContradiction
  intro hn
  have := h 0 (fun j hj => by
    have : x j = 0 := Classical.byContradiction fun q => hn ⟨j, hj, q⟩
    rw [this]; exact Int.dvd_refl 0)
  have := Int.zero_dvd.mp this
  omega
theorem gd_ne {u : Nat → Int} {n c : Nat} (hc : c < n) (h : u c ≠ 0) : gd u n ≠ 0 := fun e => by
  have := gd_dvd (v := u) hc
  rw [e] at this
  have := Nat.eq_zero_of_zero_dvd this
  omega
theorem lowest {a b : Int} (ha : 0 < a) (hb : 0 < b) : ∃ g a' b' : Int, 0 < g ∧ a = g * a' ∧ b = g * b' ∧ 0 < a' ∧ 0 < b' ∧ Int.gcd a' b' = 1 := by
  have hg : 0 < (Int.gcd a b : Int) := by
    have : Int.gcd a b ≠ 0 := fun e => by have := (Int.gcd_eq_zero_iff.mp e).1; omega
    omega
  obtain ⟨a', ha'⟩ : (Int.gcd a b : Int) ∣ a := Int.gcd_dvd_left ..
  obtain ⟨b', hb'⟩ : (Int.gcd a b : Int) ∣ b := Int.gcd_dvd_right ..
  have hco : Int.gcd a' b' = 1 := by
    have h5 : Int.gcd a b = Int.gcd ((Int.gcd a b : Int) * a') ((Int.gcd a b : Int) * b') := by rw [← ha', ← hb']
    rw [Int.gcd_mul_left, Int.natAbs_natCast] at h5
    have h6 : Int.gcd a b * 1 = Int.gcd a b * Int.gcd a' b' := by rw [Nat.mul_one]; exact h5
    exact (Nat.eq_of_mul_eq_mul_left (by omega) h6).symm
  refine ⟨_, a', b', hg, ha', hb', ?_, ?_, hco⟩
  · rcases Int.lt_trichotomy a' 0 with h | h | h
    · have := Int.mul_neg_of_pos_of_neg hg h; omega
    · rw [h, Int.mul_zero] at ha'; omega
    · exact h
  · rcases Int.lt_trichotomy b' 0 with h | h | h
    · have := Int.mul_neg_of_pos_of_neg hg h; omega
    · rw [h, Int.mul_zero] at hb'; omega
    · exact h
/-- what is a multiple of a row without a common divisor is a whole multiple -/
theorem sc_dvd {n : Nat} {t w : Nat → Int} {α β : Int} (ha : 0 < α) (hb : 0 < β) (hw : pm n w) (h : ∀ j, j < n → α * t j = β * w j) : ∃ a, 0 < a ∧ ∀ j, j < n → t j = a * w j := by
  obtain ⟨g, a', b', hg, ea, eb, ha0, hb0, hco⟩ := lowest ha hb
  have h' : ∀ j, j < n → a' * t j = b' * w j := fun j hj => by
    have := h j hj
    rw [ea, eb, Int.mul_assoc, Int.mul_assoc] at this
    exact Int.eq_of_mul_eq_mul_left (by omega) this
  have h1 : a' ∣ 1 := hw a' (fun j hj => idvd hco ⟨t j, (h' j hj).symm⟩)
  have e1 := dvd1_pos ha0 h1
  refine ⟨b', hb0, fun j hj => ?_⟩
  have := h' j hj
  rwa [e1, Int.one_mul] at this
def gh (N k : Nat) (V : (Nat → Int) → Prop) (T : Nat → Nat → Int) (pl : Nat → Nat) : Prop := rd 0 N k T pl ∧ (∀ r, r < k → pm N (T r) ∧ 0 < T r (pl r)) ∧ (∀ r, r < k → V (T r)) ∧ ∀ x, V x → sp 0 N k T x
theorem gh_0 {N k : Nat} {V : (Nat → Int) → Prop} {T : Nat → Nat → Int} {pl : Nat → Nat} (h : gh N k V T pl) {r q : Nat} (hr : r < k) (hq : q < k) (hne : q ≠ r) : T q (pl r) = 0 := Int.zero_dvd.mp (h.1.2 r q hr hq hne)
theorem gh_row {N k : Nat} {V : (Nat → Int) → Prop} {T : Nat → Nat → Int} {pl : Nat → Nat} (h : gh N k V T pl) {r : Nat} (hr : r < k) {x : Nat → Int} (hx : V x) (h0 : ∀ q, q < k → q ≠ r → x (pl q) = 0) : ∀ j, j < N → T r (pl r) * x j = x (pl r) * T r j := by
  intro j hj
  have := Int.zero_dvd.mp (rd_row dm0 h.1 (h.2.2.2 x hx) hr (fun q hq hne => by rw [h0 q hq hne]; exact Int.dvd_refl 0) j hj)
  omega
theorem gh_bd {N k b : Nat} {V : (Nat → Int) → Prop} {T : Nat → Nat → Int} {pl : Nat → Nat} (h : gh N k V T pl) (hV : smb b N V) {r : Nat} (hr : r < k) : ∀ j, j < N → (T r j).natAbs ≤ b := by
  have hp := h.2.1 r hr
  exact sml_pm hV (h.2.2.1 r hr) hp.1 (h.1.1 r hr).1 (by omega) (fun y hy h0 => gh_row h hr hy (fun q hq hne => h0 (pl q) (h.1.1 q hq).1 (gh_0 h hq hr (Ne.symm hne))))
/-- a row of N columns that has no common divisor, led by one of its numbers: itself, or its opposite -/
theorem ld_pm {N c : Nat} {x : Nat → Int} (h : pm N x) (hc : x c ≠ 0) : ∃ e : Int, (e = 1 ∨ e = -1) ∧ (∀ j, ld N x c j = e * x j) ∧ 0 < ld N x c c := by
  have h1 := gd_pm h
  have ho : ∀ z : Int, ou 1 z = z := fun z => by unfold ou; rw [if_neg (by decide)]; exact Int.tdiv_one z
  by_cases hn : x c < 0
  · refine ⟨-1, Or.inr rfl, fun j => ?_, ?_⟩
    · unfold ld; rw [if_pos hn, h1, ho]; omega
    · unfold ld; rw [if_pos hn, h1, ho]; omega
  · refine ⟨1, Or.inl rfl, fun j => ?_, ?_⟩
    · unfold ld; rw [if_neg hn, h1, ho]; omega
    · unfold ld; rw [if_neg hn, h1, ho]; omega
/-- what turning does to the rows -/
theorem gh_turnF {N k : Nat} {V : (Nat → Int) → Prop} {T : Nat → Nat → Int} {pl : Nat → Nat} (h : gh N k V T pl) {r c : Nat} (hr : r < k) (hc : c < N) (hne : T r c ≠ 0) :
    ∃ e : Int, (e = 1 ∨ e = -1) ∧ (∀ j, pvq T N r c k r j = e * T r j) ∧ 0 < pvq T N r c k r c ∧ (∀ i, i < k → i ≠ r → pm N (pvq T N r c k i) ∧ ∃ g : Int, 0 < g ∧ ∀ j, j < N → g * pvq T N r c k i j = T i j * pvq T N r c k r c - pvq T N r c k r j * T i c) := by
  obtain ⟨e, he, hL, hpos⟩ := ld_pm (h.2.1 r hr).1 hne
  refine ⟨e, he, fun j => by rw [pvq_row]; exact hL j, by rw [pvq_row]; exact hpos, fun i hi hir => ?_⟩
  rw [pvq_row]
  by_cases h0 : T i c = 0
  · have e1 : pvq T N r c k i = T i := by unfold pvq; rw [if_neg hir, if_pos hi, if_pos h0]
    rw [e1]
    refine ⟨(h.2.1 i hi).1, _, hpos, fun j hj => ?_⟩
    rw [h0, Int.mul_zero, Int.sub_zero, Int.mul_comm]
  · have e1 : pvq T N r c k i = fun j => ou (gd (cl1 (T i) (ld N (T r) c) c) N) (cl1 (T i) (ld N (T r) c) c j) := by unfold pvq; rw [if_neg hir, if_pos hi, if_neg h0]
    have hpl := (h.1.1 i hi).1
    have hu : cl1 (T i) (ld N (T r) c) c (pl i) ≠ 0 := by
      unfold cl1
      rw [hL (pl i), gh_0 h hi hr (Ne.symm hir), Int.mul_zero, Int.zero_mul, Int.sub_zero]
      have := Int.mul_pos (h.2.1 i hi).2 hpos
      omega
    have hg := gd_ne hpl hu
    rw [e1]
    refine ⟨pm_ou hg, ((gd (cl1 (T i) (ld N (T r) c) c) N : Nat) : Int), by omega, fun j hj => ?_⟩
    exact (ou_eq (u := cl1 (T i) (ld N (T r) c) c) hj).symm
theorem gh_turn {N k : Nat} {V : (Nat → Int) → Prop} (hl : lin N V) {T : Nat → Nat → Int} {pl : Nat → Nat} (h : gh N k V T pl) {r c : Nat} (hr : r < k) (hc : c < N) (hne : T r c ≠ 0) : gh N k V (pvq T N r c k) (va_up pl r c) := by
  obtain ⟨e, he, hF1, hpos, hF2⟩ := gh_turnF h hr hc hne
  generalize pvq T N r c k = T' at hF1 hpos hF2
  have he0 : e * e = 1 := by rcases he with rfl | rfl <;> rfl
  have hzr : ∀ q, q < k → q ≠ r → T' r (pl q) = 0 := fun q hq hne => by rw [hF1, gh_0 h hq hr (Ne.symm hne), Int.mul_zero]
  have hposi : ∀ i, i < k → i ≠ r → 0 < T' i (pl i) := by
    intro i hi hir
    obtain ⟨-, g, hg, hF⟩ := hF2 i hi hir
    have h1 := hF (pl i) (h.1.1 i hi).1
    rw [hzr i hi hir, Int.zero_mul, Int.sub_zero] at h1
    have h2 := Int.mul_pos (h.2.1 i hi).2 hpos
    rw [← h1] at h2
    exact Int.pos_of_mul_pos_right h2 hg |> fun q => q
  have hz0 : ∀ g z : Int, 0 < g → g * z = 0 → z = 0 := fun g z hg hz => by
    rcases Int.mul_eq_zero.mp hz with q | q
    · omega
    · exact q
  refine ⟨⟨fun q hq => ?_, fun r0 q hr0 hq hqr => ?_⟩, fun q hq => ?_, fun q hq => ?_, fun x hx => ?_⟩
  · by_cases e1 : q = r
    · rw [e1, va_up_self]
      exact ⟨hc, fun q => by have := Int.zero_dvd.mp q; omega⟩
    · rw [va_up_ne _ _ e1]
      exact ⟨(h.1.1 q hq).1, fun z => by have := Int.zero_dvd.mp z; have := hposi q hq e1; omega⟩
  · refine Int.zero_dvd.mpr ?_
    by_cases e1 : r0 = r
    · rw [e1, va_up_self]
      obtain ⟨-, g, hg, hF⟩ := hF2 q hq (fun z => hqr (by rw [z, e1]))
      refine hz0 g _ hg ?_
      rw [hF c hc, Int.mul_comm, Int.sub_self]
    · rw [va_up_ne _ _ e1]
      by_cases e2 : q = r
      · rw [e2]; exact hzr r0 hr0 e1
      · obtain ⟨-, g, hg, hF⟩ := hF2 q hq e2
        refine hz0 g _ hg ?_
        rw [hF (pl r0) (h.1.1 r0 hr0).1, gh_0 h hr0 hq hqr, hzr r0 hr0 e1]
        simp
  · by_cases e1 : q = r
    · rw [e1, va_up_self]
      refine ⟨fun d hd => (h.2.1 r hr).1 d (fun j hj => ?_), hpos⟩
      have h1 := hd j hj
      rw [hF1] at h1
      have h2 : d ∣ e * (e * T r j) := Int.dvd_mul_of_dvd_right h1
      rwa [← Int.mul_assoc, he0, Int.one_mul] at h2
    · rw [va_up_ne _ _ e1]
      exact ⟨(hF2 q hq e1).1, hposi q hq e1⟩
  · by_cases e1 : q = r
    · rw [e1]
      exact hl _ _ _ 1 e 0 (h.2.2.1 r hr) (h.2.2.1 r hr) (by omega) (fun j _ => by rw [hF1]; omega)
    · obtain ⟨-, g, hg, hF⟩ := hF2 q hq e1
      refine hl _ _ _ g (T' r c) (-(e * T q c)) (h.2.2.1 q hq) (h.2.2.1 r hr) (by omega) (fun j hj => ?_)
      rw [hF j hj, hF1 j]
      grind
  · refine sp_trans dm0 (h.2.2.2 x hx) (fun i hi => ?_)
    by_cases e1 : i = r
    · rw [e1]
      refine sp_scale (t := 1) (a := e) dm0 (sp_row dm0 hr) dm0.1 (fun j _ => Int.zero_dvd.mpr ?_)
      rw [hF1, ← Int.mul_assoc, he0]
      omega
    · obtain ⟨-, g, hg, hF⟩ := hF2 i hi e1
      refine sp_comb (t := T' r c) (a := g) (b := T i c) dm0 (sp_row dm0 hi) (sp_row dm0 hr) (fun q => by have := Int.zero_dvd.mp q; omega) (fun j hj => Int.zero_dvd.mpr ?_)
      rw [hF j hj]
      grind
theorem gh_swap {N k : Nat} {V : (Nat → Int) → Prop} {T : Nat → Nat → Int} {pl : Nat → Nat} (h : gh N k V T pl) {a b : Nat} (ha : a < k) (hb : b < k) : gh N k V (sw T a b) (sw pl a b) := by
  let s : Nat → Nat := sw id a b
  have hs : ∀ i, i < k → s i < k := fun i hi => by
    show sw id a b i < k
    by_cases e2 : i = b
    · rw [e2, sw_right]; exact ha
    · by_cases e1 : i = a
      · rw [e1, sw_left]; exact hb
      · rw [sw_other _ e1 e2]; exact hi
  have hss : ∀ i, s (s i) = i := fun i => by
    show sw id a b (sw id a b i) = i
    by_cases e2 : i = b
    · rw [e2, sw_right]; show sw id a b a = b; rw [sw_left]; rfl
    · by_cases e1 : i = a
      · rw [e1, sw_left]; show sw id a b b = a; rw [sw_right]; rfl
      · rw [sw_other _ e1 e2]; show sw id a b i = i; rw [sw_other _ e1 e2]; rfl
  have hinj : ∀ i j, i ≠ j → s i ≠ s j := fun i j hij e => hij (by rw [← hss i, e, hss j])
  have hT : ∀ i, sw T a b i = T (s i) := fun i => by
    show sw T a b i = T (sw id a b i)
    by_cases e2 : i = b
    · rw [e2, sw_right, sw_right]; rfl
    · by_cases e1 : i = a
      · rw [e1, sw_left, sw_left]; rfl
      · rw [sw_other _ e1 e2, sw_other _ e1 e2]; rfl
  have hp : ∀ i, sw pl a b i = pl (s i) := fun i => by
    show sw pl a b i = pl (sw id a b i)
    by_cases e2 : i = b
    · rw [e2, sw_right, sw_right]; rfl
    · by_cases e1 : i = a
      · rw [e1, sw_left, sw_left]; rfl
      · rw [sw_other _ e1 e2, sw_other _ e1 e2]; rfl
  refine ⟨⟨fun q hq => ?_, fun r0 q hr0 hq hqr => ?_⟩, fun q hq => ?_, fun q hq => ?_, fun x hx => ?_⟩
  · rw [hT, hp]; exact h.1.1 _ (hs q hq)
  · rw [hT, hp]; exact h.1.2 _ _ (hs r0 hr0) (hs q hq) (hinj q r0 hqr)
  · rw [hT, hp]; exact h.2.1 _ (hs q hq)
  · rw [hT]; exact h.2.2.1 _ (hs q hq)
  · refine sp_trans dm0 (h.2.2.2 x hx) (fun i hi => ?_)
    have := sp_row (p := 0) (n := N) (A := sw T a b) dm0 (hs i hi)
    rw [hT, hss] at this
    exact this
/-- the rows of the class, or what else is less by a number above 0 -/
def rcl (n k : Nat) (T A : Nat → Nat → Int) : Prop := ∀ i, i < k → ∃ a : Int, 0 < a ∧ ∀ j, j < n → T i j = a * A i j
theorem rcl_swap {n k : Nat} {T A : Nat → Nat → Int} (h : rcl n k T A) {a b : Nat} (ha : a < k) (hb : b < k) : rcl n k (sw T a b) (sw A a b) := by
  intro i hi
  by_cases e2 : i = b
  · rw [e2, sw_right, sw_right]; exact h a ha
  · by_cases e1 : i = a
    · rw [e1, sw_left, sw_left]; exact h b hb
    · rw [sw_other _ e1 e2, sw_other _ e1 e2]; exact h i hi
/-- leading a row of the class -/
theorem ld_fac {n c : Nat} {x : Nat → Int} (hc : c < n) (hne : x c ≠ 0) : pm n (ld n x c) ∧ 0 < ld n x c c ∧ ∃ (e : Int), (if x c < 0 then e = -1 else e = 1) ∧ ∀ j, j < n → ((gd x n : Nat) : Int) * ld n x c j = e * x j := by
  have hg := gd_ne hc hne
  by_cases hn : x c < 0
  · have e1 : ld n x c = fun j => -ou (gd x n) (x j) := by funext j; unfold ld; rw [if_pos hn]
    have h1 := ou_eq (u := x) hc
    rw [e1]
    refine ⟨pm_neg (pm_ou hg), ?_, -1, by rw [if_pos hn], fun j hj => ?_⟩
    · have := (ou_neg (v := x) hc).mpr hn
      show 0 < -ou _ _
      omega
    · show _ * -ou _ _ = _
      rw [Int.mul_neg, ← ou_eq hj]; omega
  · have e1 : ld n x c = fun j => ou (gd x n) (x j) := by funext j; unfold ld; rw [if_neg hn]
    have h1 := ou_eq (u := x) hc
    rw [e1]
    refine ⟨pm_ou hg, ?_, 1, by rw [if_neg hn], fun j hj => ?_⟩
    · have h2 : ¬ ou (gd x n) (x c) < 0 := fun q => hn ((ou_neg (v := x) hc).mp q)
      have h3 : ou (gd x n) (x c) ≠ 0 := fun q => hne (by rw [h1, q, Int.mul_zero])
      show 0 < ou _ _
      omega
    · show _ * ou _ _ = _
      rw [← ou_eq hj]; omega
theorem rcl_turn {N n k : Nat} {V : (Nat → Int) → Prop} {T A : Nat → Nat → Int} {pl : Nat → Nat} (h : gh N k V T pl) (hn : n ≤ N) (hc1 : rcl n k T A) {r c : Nat} (hr : r < k) (hc : c < n) (hne : A r c ≠ 0) : rcl n k (pvq T N r c k) (pvq A n r c k) := by
  obtain ⟨ar, har, hTr⟩ := hc1 r hr
  have hneT : T r c ≠ 0 := by
    rw [hTr c hc]
    intro q
    rcases Int.mul_eq_zero.mp q with q | q
    · omega
    · exact hne q
  obtain ⟨e, he, hF1, hpos, hF2⟩ := gh_turnF h hr (by omega) hneT
  obtain ⟨hpm, hlp, e', he', hfac⟩ := ld_fac hc hne
  have hg := gd_ne hc hne
  -- the signs are one
  have hee : e = e' := by
    have h1 := hF1 c
    rw [hTr c hc] at h1
    have h2 := Int.mul_pos har hlp
    have h3 := hfac c hc
    have h4 : (0 : Int) < ((gd (A r) n : Nat) : Int) := by omega
    have h5 := Int.mul_pos h4 hlp
    rw [h3] at h5
    have h6 : 0 < e * (ar * A r c) := by rw [← h1]; exact hpos
    have h7 : 0 < e * A r c := by
      have : e * (ar * A r c) = ar * (e * A r c) := by grind
      rw [this] at h6
      exact Int.pos_of_mul_pos_right h6 har |> fun q => q
    rcases he with rfl | rfl <;> by_cases hn0 : A r c < 0
    · omega
    · rw [if_neg hn0] at he'; exact he'.symm
    · rw [if_pos hn0] at he'; exact he'.symm
    · omega
  subst hee
  have hrow : ∀ j, j < n → pvq T N r c k r j = (ar * ((gd (A r) n : Nat) : Int)) * ld n (A r) c j := fun j hj => by
    rw [hF1, hTr j hj, Int.mul_assoc, hfac j hj]; grind
  have ha' : 0 < ar * ((gd (A r) n : Nat) : Int) := Int.mul_pos har (by omega)
  intro i hi
  by_cases e1 : i = r
  · rw [e1]
    refine ⟨_, ha', fun j hj => ?_⟩
    rw [hrow j hj, pvq_row]
  · obtain ⟨ai, hai, hTi⟩ := hc1 i hi
    obtain ⟨-, g, hg0, hF⟩ := hF2 i hi e1
    by_cases h0 : A i c = 0
    · have h0T : T i c = 0 := by rw [hTi c hc, h0, Int.mul_zero]
      have q1 : pvq T N r c k i = T i := by unfold pvq; rw [if_neg e1, if_pos hi, if_pos h0T]
      have q2 : pvq A n r c k i = A i := by unfold pvq; rw [if_neg e1, if_pos hi, if_pos h0]
      rw [q1, q2]
      exact ⟨ai, hai, hTi⟩
    · have q2 : pvq A n r c k i = fun j => ou (gd (cl1 (A i) (ld n (A r) c) c) n) (cl1 (A i) (ld n (A r) c) c j) := by unfold pvq; rw [if_neg e1, if_pos hi, if_neg h0]
      have hu : ∀ j, j < n → g * pvq T N r c k i j = (ai * (ar * ((gd (A r) n : Nat) : Int))) * cl1 (A i) (ld n (A r) c) c j := fun j hj => by
        rw [hF j (by omega), hTi j hj, hTi c hc, hrow c hc, hrow j hj]
        unfold cl1
        grind
      by_cases hgu : gd (cl1 (A i) (ld n (A r) c) c) n = 0
      · refine ⟨1, by omega, fun j hj => ?_⟩
        have h3 : cl1 (A i) (ld n (A r) c) c j = 0 := by rw [ou_eq (u := cl1 (A i) (ld n (A r) c) c) hj, hgu]; exact Int.zero_mul _
        have h4 := hu j hj
        rw [h3, Int.mul_zero] at h4
        have h5 : pvq T N r c k i j = 0 := by
          rcases Int.mul_eq_zero.mp h4 with q | q
          · omega
          · exact q
        rw [h5, q2]
        show 0 = 1 * ou (gd (cl1 (A i) (ld n (A r) c) c) n) _
        unfold ou
        rw [if_pos hgu]; rfl
      · rw [q2]
        refine sc_dvd hg0 (Int.mul_pos (Int.mul_pos hai ha') (show (0 : Int) < ((gd (cl1 (A i) (ld n (A r) c) c) n : Nat) : Int) by omega)) (pm_ou hgu) (fun j hj => ?_)
        rw [hu j hj]
        show _ = (ai * (ar * ((gd (A r) n : Nat) : Int)) * ((gd (cl1 (A i) (ld n (A r) c) c) n : Nat) : Int)) * ou (gd (cl1 (A i) (ld n (A r) c) c) n) (cl1 (A i) (ld n (A r) c) c j)
        rw [Int.mul_assoc (ai * (ar * ((gd (A r) n : Nat) : Int))), ← ou_eq hj]
/-- the space without the other rows' own columns -/
def secV (N : Nat) (V : (Nat → Int) → Prop) (Z : Nat → Prop) : (Nat → Int) → Prop := fun x => V x ∧ ∀ j, j < N → Z j → x j = 0
/-- smallness of what the class keeps -/
def smC (N n : Nat) (V : (Nat → Int) → Prop) : Prop := ∀ Z : Nat → Prop, (∀ j, Z j → n ≤ j) → sml n (del N n id (secV N V Z))
theorem cls_bd {N n k : Nat} {V : (Nat → Int) → Prop} {T : Nat → Nat → Int} {pl : Nat → Nat} (h : gh N k V T pl) (hn : n ≤ N) (hs : smC N n V) {i : Nat} (hi : i < k) {x : Nat → Int} {a : Int} (ha : 0 < a) (hx : ∀ j, j < n → T i j = a * x j) (hpm : pm n x) : ∀ j, j < n → (x j).natAbs ≤ NB := by
  obtain ⟨c, hc, hxc⟩ := pm_ex hpm
  let Z : Nat → Prop := fun j => n ≤ j ∧ ∃ q, q < k ∧ q ≠ i ∧ pl q = j
  have hW : del N n id (secV N V Z) x := ⟨T i, a, ⟨h.2.2.1 i hi, fun j _ hz => by
    obtain ⟨-, q, hq, hqi, e⟩ := hz
    rw [← e]; exact gh_0 h hq hi (Ne.symm hqi)⟩, by omega, fun j hj => (hx j hj).symm⟩
  refine sml_pm (hs Z (fun j hz => hz.1)) hW hpm hc hxc (fun y hy h0 j hj => ?_)
  obtain ⟨w, t, ⟨hw, hwz⟩, ht, hyw⟩ := hy
  have hrow := gh_row h hi hw (fun q hq hqi => by
    by_cases hp : pl q < n
    · have h1 : x (pl q) = 0 := by
        have h2 := hx (pl q) hp
        rw [gh_0 h hq hi (Ne.symm hqi)] at h2
        rcases Int.mul_eq_zero.mp h2.symm with z | z
        · omega
        · exact z
      have h3 := hyw (pl q) hp
      rw [h0 (pl q) hp h1, Int.mul_zero] at h3
      exact h3.symm
    · exact hwz (pl q) (h.1.1 q hq).1 ⟨by omega, q, hq, hqi, rfl⟩)
  have hpos := (h.2.1 i hi).2
  have e1 : ∀ j, j < n → (T i (pl i) * t) * y j = (w (pl i) * a) * x j := fun j hj => by
    rw [Int.mul_assoc, hyw j hj, Int.mul_assoc, ← hx j hj]
    exact hrow j (by omega)
  have hτ : T i (pl i) * t ≠ 0 := fun q => by
    rcases Int.mul_eq_zero.mp q with q | q
    · omega
    · exact ht q
  apply Int.eq_of_mul_eq_mul_left hτ
  have a1 := e1 j hj
  have a2 := e1 c hc
  calc T i (pl i) * t * (x c * y j) = x c * ((T i (pl i) * t) * y j) := by grind
    _ = x c * ((w (pl i) * a) * x j) := by rw [a1]
    _ = ((w (pl i) * a) * x c) * x j := by grind
    _ = ((T i (pl i) * t) * y c) * x j := by rw [a2]
    _ = _ := by grind

-- ===== spaces with small vectors: where they come from =====
def NB : Nat := 2 ^ 150 - 1
def nz (n : Nat) (x : Nat → Int) : Prop := ∃ j, j < n ∧ x j ≠ 0
def smb (b n : Nat) (V : (Nat → Int) → Prop) : Prop := ∀ x, V x → nz n x → ∃ y, V y ∧ nz n y ∧ (∀ j, j < n → x j = 0 → y j = 0) ∧ ∀ j, j < n → (y j).natAbs ≤ b
abbrev sml (n : Nat) (V : (Nat → Int) → Prop) : Prop := smb NB n V
def og (n k : Nat) (A : Nat → Nat → Int) (y : Nat → Int) : Prop := ∀ i, i < k → sm n (fun j => y j * A i j) = 0
theorem sp0_of {n k : Nat} {A : Nat → Nat → Int} {x : Nat → Int} (h : sp 0 n k A x) : ∃ (s : Int) (c : Nat → Int), s ≠ 0 ∧ ∀ j, j < n → s * x j = sm k (fun i => c i * A i j) := by
  obtain ⟨s, c, hs, hc⟩ := h
  exact ⟨s, c, fun e => hs (by rw [e]; exact Int.dvd_refl 0), fun j hj => by have := Int.zero_dvd.mp (hc j hj); omega⟩
theorem sp0_mk {n k : Nat} {A : Nat → Nat → Int} {x : Nat → Int} {s : Int} {c : Nat → Int} (hs : s ≠ 0) (hc : ∀ j, j < n → s * x j = sm k (fun i => c i * A i j)) : sp 0 n k A x :=
  ⟨s, c, fun h => hs (Int.zero_dvd.mp h), fun j hj => by rw [hc j hj, Int.sub_self]; exact Int.dvd_refl 0⟩
theorem sm_cut {n m : Nat} {f : Nat → Int} (h : m ≤ n) (h0 : ∀ i, m ≤ i → i < n → f i = 0) : sm n f = sm m f := by
  induction n with
  | zero => rw [show m = 0 by omega]
  | succ n ih =>
    by_cases e : m = n + 1
    · rw [e]
    · show sm n f + f n = _
      rw [ih (by omega) (fun i h1 h2 => h0 i h1 (by omega)), h0 n (by omega) (by omega), Int.add_zero]
theorem bd12 {M : Nat} (h : M ≤ 11) : ((M + 1) * 999) ^ M ≤ NB := by
  have h1 : ((M + 1) * 999) ^ M ≤ (12 * 999) ^ M := Nat.pow_le_pow_left (Nat.mul_le_mul_right _ (by omega)) M
  have h2 : (12 * 999) ^ M ≤ (12 * 999) ^ 11 := Nat.pow_le_pow_right (by omega) h
  have h3 : (12 * 999) ^ 11 ≤ NB := by decide +kernel
  exact Nat.le_trans h1 (Nat.le_trans h2 h3)
theorem bd11 {M : Nat} (h : M ≤ 10) : (M + 1) * (((M + 1) * 999) ^ M * 999) ≤ NB := by
  have e : (M + 1) * (((M + 1) * 999) ^ M * 999) = ((M + 1) * 999) ^ (M + 1) := by
    rw [Nat.pow_succ, Nat.mul_comm (((M + 1) * 999) ^ M) 999, ← Nat.mul_assoc, Nat.mul_comm]
  rw [e]
  have h1 : ((M + 1) * 999) ^ (M + 1) ≤ (11 * 999) ^ (M + 1) := Nat.pow_le_pow_left (Nat.mul_le_mul_right _ (by omega)) (M + 1)
  have h2 : (11 * 999) ^ (M + 1) ≤ (11 * 999) ^ 11 := Nat.pow_le_pow_right (by omega) (by omega)
  have h3 : (11 * 999) ^ 11 ≤ NB := by decide +kernel
  exact Nat.le_trans h1 (Nat.le_trans h2 h3)
/-- what stands across small rows -/
theorem smb_og {n k b : Nat} (hn : ∀ M, M < n → ((M + 1) * 999) ^ M ≤ b) {A : Nat → Nat → Int} (hA : ∀ i j, i < k → j < n → (A i j).natAbs ≤ 999) : smb b n (og n k A) := by
  intro x hx hnz
  let E : Nat → Nat → Int := fun r u => if r < k then A r u else if x (r - k) = 0 ∧ u = r - k then 1 else 0
  have hxE : ∀ r, r < k + n → sm n (fun u => x u * E r u) = 0 := by
    intro r hr
    by_cases e : r < k
    · rw [← hx r e]
      refine sm_congr (fun u _ => ?_)
      show x u * (if r < k then A r u else _) = _
      rw [if_pos e]
    · refine sm_zero (fun u hu => ?_)
      show x u * (if r < k then A r u else if x (r - k) = 0 ∧ u = r - k then 1 else 0) = 0
      rw [if_neg e]
      by_cases e2 : x (r - k) = 0 ∧ u = r - k
      · rw [if_pos e2, e2.2, e2.1]; rfl
      · rw [if_neg e2, Int.mul_zero]
  obtain ⟨M, y, hM, -, hny, -, hb, hs⟩ := smallE (m := n) (q := k + n) (C := 999) (E := E) (P := fun _ => True) (by omega) (fun r h => absurd trivial h) (fun r u hr hu => by
    show (if r < k then A r u else if x (r - k) = 0 ∧ u = r - k then (1 : Int) else 0).natAbs ≤ 999
    by_cases e : r < k
    · rw [if_pos e]; exact hA r u e hu
    · rw [if_neg e]
      by_cases e2 : x (r - k) = 0 ∧ u = r - k
      · rw [if_pos e2]; decide
      · rw [if_neg e2]; decide) hxE hnz
  refine ⟨y, fun i hi => ?_, hny, fun j hj h0 => ?_, fun j _ => Nat.le_trans (hb j) (hn M hM)⟩
  · rw [← hs i (by omega)]
    refine sm_congr (fun u _ => ?_)
    show _ = y u * (if i < k then A i u else _)
    rw [if_pos hi]
  · have h1 := hs (k + j) (by omega)
    have h2 : sm n (fun u => y u * E (k + j) u) = y j * E (k + j) j := sm_one hj (fun u _ hne => by
      show y u * (if k + j < k then A (k + j) u else if x (k + j - k) = 0 ∧ u = k + j - k then 1 else 0) = 0
      rw [if_neg (by omega), if_neg (by omega), Int.mul_zero])
    rw [h2] at h1
    have h3 : E (k + j) j = 1 := by
      show (if k + j < k then A (k + j) j else if x (k + j - k) = 0 ∧ j = k + j - k then (1 : Int) else 0) = 1
      rw [if_neg (by omega), show k + j - k = j by omega, if_pos ⟨h0, rfl⟩]
    rw [h3, Int.mul_one] at h1
    exact h1
theorem sml_og {n k : Nat} (hn : n ≤ 12) {A : Nat → Nat → Int} (hA : ∀ i j, i < k → j < n → (A i j).natAbs ≤ 999) : sml n (og n k A) := smb_og (fun M hM => bd12 (by omega)) hA
/-- the space of small rows -/
theorem sml_sp {n : Nat} (hn : n ≤ 12) : ∀ (k : Nat) (A : Nat → Nat → Int), (∀ i j, i < k → j < n → (A i j).natAbs ≤ 999) → sml n (sp 0 n k A)
  | 0, A, _ => fun x hx hnz => by
    obtain ⟨s, c, hs, hc⟩ := sp0_of hx
    obtain ⟨j, hj, hne⟩ := hnz
    have h1 := hc j hj
    have h2 : sm 0 (fun i => c i * A i j) = 0 := rfl
    rw [h2] at h1
    rcases Int.mul_eq_zero.mp h1 with h | h
    · exact absurd h hs
    · exact absurd h hne
  | k + 1, A, hA => by
    by_cases hdep : ∃ c : Nat → Int, nz (k + 1) c ∧ ∀ j, j < n → sm (k + 1) (fun i => c i * A i j) = 0
    · obtain ⟨c, ⟨i0, hi0, hne⟩, hc⟩ := hdep
      let A' : Nat → Nat → Int := fun i => if i = i0 then A k else A i
      have hA' : ∀ i, i < k → ∃ i', i' < k + 1 ∧ A' i = A i' := by
        intro i hi
        by_cases e : i = i0
        · exact ⟨k, by omega, by show (if i = i0 then A k else A i) = _; rw [if_pos e]⟩
        · exact ⟨i, by omega, by show (if i = i0 then A k else A i) = _; rw [if_neg e]⟩
      have hsub : ∀ i, i < k + 1 → sp 0 n k A' (A i) := by
        intro i hi
        by_cases e : i = i0
        · subst e
          refine sp0_mk (s := c i) (c := fun q => - (if q = i then c k else c q)) hne (fun j hj => ?_)
          have h1 := hc j hj
          rw [sm_out hi] at h1
          have h2 : sm k (fun q => -(if q = i then c k else c q) * A' q j) = - sm k (fun q => if q = i then c k * A k j else c q * A q j) := by
            have h3 : - sm k (fun q => if q = i then c k * A k j else c q * A q j) = (-1) * sm k (fun q => if q = i then c k * A k j else c q * A q j) := by omega
            rw [h3, ← sm_mul]
            refine sm_congr (fun q _ => ?_)
            show -(if q = i then c k else c q) * (if q = i then A k else A q) j = (-1) * (if q = i then c k * A k j else c q * A q j)
            by_cases e : q = i
            · rw [if_pos e, if_pos e, if_pos e]; grind
            · rw [if_neg e, if_neg e, if_neg e]; grind
          rw [h2]
          omega
        · by_cases e2 : i = k
          · have h1 : A' i0 = A i := by show (if i0 = i0 then A k else A i0) = _; rw [if_pos rfl, e2]
            rw [← h1]
            exact sp_row dm0 (by omega)
          · have h1 : A' i = A i := by show (if i = i0 then A k else A i) = _; rw [if_neg e]
            rw [← h1]
            exact sp_row dm0 (by omega)
      have ih := sml_sp hn k A' (fun i j hi hj => by
        obtain ⟨i', h1, h2⟩ := hA' i hi
        rw [h2]
        exact hA i' j h1 hj)
      intro x hx hnz
      obtain ⟨y, h1, h2⟩ := ih x (sp_trans dm0 hx hsub) hnz
      exact ⟨y, sp_trans dm0 h1 (fun i hi => by
        obtain ⟨i', g1, g2⟩ := hA' i hi
        rw [g2]
        exact sp_row dm0 g1), h2⟩
    · intro x hx hnz
      have hx' := hx
      obtain ⟨s, c, hs, hc⟩ := sp0_of hx
      obtain ⟨j0, hj0, hne0⟩ := hnz
      by_cases htwo : ∃ i j, i < j ∧ j < n ∧ x i ≠ 0 ∧ x j ≠ 0
      · obtain ⟨i, j, hij, hj, hi1, hj1⟩ := htwo
        have hcn : nz (k + 1) c := Classical.byContradiction fun hn => by
          have h0 : ∀ i, i < k + 1 → c i = 0 := fun i hi => Classical.byContradiction fun h => hn ⟨i, hi, h⟩
          have h1 := hc j0 hj0
          rw [sm_zero (fun i hi => by rw [h0 i hi, Int.zero_mul])] at h1
          rcases Int.mul_eq_zero.mp h1 with h | h
          · exact hs h
          · exact hne0 h
        let E : Nat → Nat → Int := fun r u => if x r = 0 then A u r else 0
        obtain ⟨M, y, hM, hMc, hny, hy0, hb, hsol⟩ := smallE (m := k + 1) (q := n) (C := 999) (E := E) (P := fun r => x r = 0) (by omega) (fun r h i _ => by show (if x r = 0 then A i r else 0) = 0; rw [if_neg h]) (fun r u hr hu => by
          show (if x r = 0 then A u r else 0).natAbs ≤ 999
          by_cases e : x r = 0
          · rw [if_pos e]; exact hA u r hu hr
          · rw [if_neg e]; decide) (x := c) (fun r hr => by
          by_cases e : x r = 0
          · have h1 := hc r hr
            rw [e, Int.mul_zero] at h1
            rw [h1]
            refine sm_congr (fun u _ => ?_)
            show c u * (if x r = 0 then A u r else 0) = _
            rw [if_pos e]
          · refine sm_zero (fun u _ => ?_)
            show c u * (if x r = 0 then A u r else 0) = _
            rw [if_neg e, Int.mul_zero]) hcn
        have hM10 : M ≤ 10 := by
          have := ct_2 (n := n) (P := fun r => x r = 0) hij hj hi1 hj1
          omega
        refine ⟨fun j => sm (k + 1) (fun i => y i * A i j), sp0_mk (s := 1) (c := y) (by omega) (fun j _ => by rw [Int.one_mul]), ?_, fun j hj h0 => ?_, fun j hj => ?_⟩
        · exact Classical.byContradiction fun hn => hdep ⟨y, hny, fun j hj => Classical.byContradiction fun h => hn ⟨j, hj, h⟩⟩
        · have h1 := hsol j hj
          have h2 : sm (k + 1) (fun u => y u * E j u) = sm (k + 1) (fun i => y i * A i j) := sm_congr (fun u _ => by
            show y u * (if x j = 0 then A u j else 0) = _
            rw [if_pos h0])
          rw [h2] at h1
          exact h1
        · show (sm (k + 1) (fun i => y i * A i j)).natAbs ≤ NB
          rw [sm_cut (m := M + 1) (by omega) (fun i h1 _ => by rw [hy0 i (by omega), Int.zero_mul])]
          refine Nat.le_trans (sm_abs (B := ((M + 1) * 999) ^ M * 999) (fun i hi => ?_)) (bd11 hM10)
          rw [Int.natAbs_mul]
          exact Nat.mul_le_mul (hb i) (hA i j (by omega) hj)
      · have hone : ∀ j, j < n → j ≠ j0 → x j = 0 := fun j hj hne => Classical.byContradiction fun h => htwo (by
          rcases Nat.lt_or_gt_of_ne hne with h1 | h1
          · exact ⟨j, j0, h1, hj0, h, hne0⟩
          · exact ⟨j0, j, h1, hj, hne0, h⟩)
        refine ⟨fun j => if j = j0 then 1 else 0, sp_scale (t := x j0) (a := 1) dm0 hx' (fun h => hne0 (Int.zero_dvd.mp h)) (fun j hj => ?_), ⟨j0, hj0, by show (if j0 = j0 then (1 : Int) else 0) ≠ 0; rw [if_pos rfl]; omega⟩, fun j hj h0 => ?_, fun j hj => ?_⟩
        · show 0 ∣ x j0 * (if j = j0 then 1 else 0) - 1 * x j
          by_cases e : j = j0
          · rw [if_pos e, e]; exact ⟨0, by omega⟩
          · rw [if_neg e, hone j hj e]; exact ⟨0, by omega⟩
        · show (if j = j0 then (1 : Int) else 0) = 0
          rw [if_neg (fun e => hne0 (by rw [← e]; exact h0))]
        · show (if j = j0 then (1 : Int) else 0).natAbs ≤ NB
          by_cases e : j = j0
          · rw [if_pos e]; decide +kernel
          · rw [if_neg e]; exact Nat.zero_le _

-- ===== small solutions: the pigeonhole, and Siegel's bound =====
/-- more things than holes: two lie in one -/
theorem php : ∀ (m n : Nat) (f : Nat → Nat), m < n → (∀ i, i < n → f i < m) → ∃ i j, i < j ∧ j < n ∧ f i = f j
  | 0, n, f, hn, h => by
    have := h 0 (by omega)
    omega
  | m + 1, n, f, hn, h => by
    by_cases hex : ∃ i, i + 1 < n ∧ f i = f (n - 1)
    · obtain ⟨i, h1, h2⟩ := hex
      exact ⟨i, n - 1, by omega, by omega, h2⟩
    · have hne : ∀ i, i + 1 < n → f i ≠ f (n - 1) := fun i hi he => hex ⟨i, hi, he⟩
      have hl := h (n - 1) (by omega)
      obtain ⟨i, j, h1, h2, h3⟩ := php m (n - 1) (fun i => if f i = m then f (n - 1) else f i) (by omega) (fun i hi => by
        have a1 := h i (by omega)
        have a2 := hne i (by omega)
        show (if f i = m then f (n - 1) else f i) < m
        by_cases e : f i = m
        · rw [if_pos e]; omega
        · rw [if_neg e]; omega)
      refine ⟨i, j, h1, by omega, ?_⟩
      have b1 := hne i (by omega)
      have b2 := hne j (by omega)
      have h3 : (if f i = m then f (n - 1) else f i) = (if f j = m then f (n - 1) else f j) := h3
      by_cases e1 : f i = m <;> by_cases e2 : f j = m
      · omega
      · rw [if_pos e1, if_neg e2] at h3; exact absurd h3.symm b2
      · rw [if_neg e1, if_pos e2] at h3; exact absurd h3 b1
      · rw [if_neg e1, if_neg e2] at h3; exact h3
-- digits to a base
def dg (b : Nat) (x i : Nat) : Nat := x / b ^ i % b
theorem dg_lt {b x i : Nat} (hb : 0 < b) : dg b x i < b := Nat.mod_lt _ hb
/-- a number below b ^ m is known by its m digits -/
theorem dg_inj {b : Nat} (hb : 0 < b) : ∀ (m x y : Nat), x < b ^ m → y < b ^ m → (∀ i, i < m → dg b x i = dg b y i) → x = y
  | 0, x, y, hx, hy, _ => by
    rw [Nat.pow_zero] at hx hy
    omega
  | m + 1, x, y, hx, hy, h => by
    have h0 := h 0 (by omega)
    unfold dg at h0
    rw [Nat.pow_zero, Nat.div_one, Nat.div_one] at h0
    have hx' : x / b < b ^ m := by rw [Nat.div_lt_iff_lt_mul hb]; rw [Nat.pow_succ] at hx; exact hx
    have hy' : y / b < b ^ m := by rw [Nat.div_lt_iff_lt_mul hb]; rw [Nat.pow_succ] at hy; exact hy
    have := dg_inj hb m (x / b) (y / b) hx' hy' (fun i hi => by
      have := h (i + 1) (by omega)
      unfold dg at this ⊢
      rw [Nat.div_div_eq_div_mul, Nat.div_div_eq_div_mul, ← Nat.pow_succ']
      exact this)
    have e1 := Nat.div_add_mod x b
    have e2 := Nat.div_add_mod y b
    rw [this, h0] at e1
    omega
-- the number whose digits to the base b are given
def cd (b : Nat) : Nat → (Nat → Nat) → Nat
  | 0, _ => 0
  | m + 1, d => cd b m d + d m * b ^ m
theorem cd_lt {b : Nat} : ∀ (m : Nat) {d : Nat → Nat}, (∀ i, i < m → d i < b) → cd b m d < b ^ m
  | 0, d, _ => by show 0 < b ^ 0; rw [Nat.pow_zero]; omega
  | m + 1, d, h => by
    have h1 := cd_lt m (d := d) (fun i hi => h i (by omega))
    have h2 := h m (by omega)
    show cd b m d + d m * b ^ m < b ^ (m + 1)
    rw [Nat.pow_succ, Nat.mul_comm (b ^ m) b]
    have h3 : (d m + 1) * b ^ m ≤ b * b ^ m := Nat.mul_le_mul_right _ (by omega)
    rw [Nat.add_mul, Nat.one_mul] at h3
    omega
theorem cd_inj {b : Nat} : ∀ (m : Nat) {d e : Nat → Nat}, (∀ i, i < m → d i < b) → (∀ i, i < m → e i < b) → cd b m d = cd b m e → ∀ i, i < m → d i = e i
  | 0, d, e, _, _, _ => fun i hi => by omega
  | m + 1, d, e, hd, he, h => by
    have a1 := cd_lt m (d := d) (fun i hi => hd i (by omega))
    have a2 := cd_lt m (d := e) (fun i hi => he i (by omega))
    have h : cd b m d + d m * b ^ m = cd b m e + e m * b ^ m := h
    have hm : d m = e m := by
      have q1 : (cd b m d + d m * b ^ m) / b ^ m = d m := by
        rw [Nat.add_mul_div_right _ _ (by omega), Nat.div_eq_of_lt a1]; omega
      have q2 : (cd b m e + e m * b ^ m) / b ^ m = e m := by
        rw [Nat.add_mul_div_right _ _ (by omega), Nat.div_eq_of_lt a2]; omega
      rw [← q1, h, q2]
    have hr : cd b m d = cd b m e := by rw [hm] at h; omega
    have ih := cd_inj m (fun i hi => hd i (by omega)) (fun i hi => he i (by omega)) hr
    intro i hi
    by_cases e1 : i = m
    · rw [e1]; exact hm
    · exact ih i (by omega)
theorem sm_abs {n : Nat} {f : Nat → Int} {B : Nat} (h : ∀ i, i < n → (f i).natAbs ≤ B) : (sm n f).natAbs ≤ n * B := by
  induction n with
  | zero => show (0 : Int).natAbs ≤ _; simp
  | succ n ih =>
    show (sm n f + f n).natAbs ≤ (n + 1) * B
    have h1 := ih (fun i hi => h i (by omega))
    have h2 := h n (by omega)
    rw [Nat.add_mul, Nat.one_mul]
    have := Int.natAbs_add_le (sm n f) (f n)
    omega
/-- M equations in M + 1 unknowns, with whole numbers up to C: a solution, not 0, of whole numbers up to ((M + 1) C) ^ M -/
theorem siegel (M C : Nat) (hC : 0 < C) (E : Nat → Nat → Int) (hE : ∀ r i, r < M → i < M + 1 → (E r i).natAbs ≤ C) : ∃ y : Nat → Int, (∃ i, i < M + 1 ∧ y i ≠ 0) ∧ (∀ i, (y i).natAbs ≤ ((M + 1) * C) ^ M) ∧ ∀ r, r < M → sm (M + 1) (fun i => y i * E r i) = 0 := by
  generalize hY : ((M + 1) * C) ^ M = Y
  generalize hB : (M + 1) * C * Y + 1 = B
  have hN : 0 < (M + 1) * C := Nat.mul_pos (by omega) hC
  -- a row's value at the digits of x, moved up by what can be taken away
  let ng : Nat → Int := fun r => sm (M + 1) (fun i => ((Y * ((- E r i).toNat) : Nat) : Int))
  let val : Nat → Nat → Int := fun x r => sm (M + 1) (fun i => ((dg (Y + 1) x i : Nat) : Int) * E r i) + ng r
  have hval : ∀ x r, r < M → 0 ≤ val x r ∧ val x r < B := by
    intro x r hr
    have e1 : val x r = sm (M + 1) (fun i => ((dg (Y + 1) x i : Nat) : Int) * E r i + ((Y * ((- E r i).toNat) : Nat) : Int)) := (sm_add _ _ _).symm
    have key : ∀ i, i < M + 1 → 0 ≤ ((dg (Y + 1) x i : Nat) : Int) * E r i + ((Y * ((- E r i).toNat) : Nat) : Int) ∧ ((dg (Y + 1) x i : Nat) : Int) * E r i + ((Y * ((- E r i).toNat) : Nat) : Int) ≤ ((C * Y : Nat) : Int) := by
      intro i hi
      have hd : dg (Y + 1) x i ≤ Y := Nat.le_of_lt_succ (dg_lt (by omega))
      have hc := hE r i hr hi
      generalize dg (Y + 1) x i = d at hd
      generalize E r i = z at hc
      rcases Int.lt_or_le z 0 with hz | hz
      · obtain ⟨w, rfl⟩ : ∃ w : Nat, z = -(w : Int) := ⟨z.natAbs, by omega⟩
        have hw : w ≤ C := by omega
        have h1 : (- -(w : Int)).toNat = w := by omega
        rw [h1]
        have h2 : d * w ≤ Y * w := Nat.mul_le_mul_right _ hd
        have h3 : Y * w ≤ C * Y := by rw [Nat.mul_comm]; exact Nat.mul_le_mul_right _ hw
        have h4 : (d : Int) * -(w : Int) = -((d * w : Nat) : Int) := by rw [Int.natCast_mul, Int.mul_neg]
        rw [h4]
        omega
      · obtain ⟨w, rfl⟩ : ∃ w : Nat, z = (w : Int) := ⟨z.natAbs, by omega⟩
        have hw : w ≤ C := by omega
        have h1 : (-(w : Int)).toNat = 0 := by omega
        rw [h1]
        have h2 : d * w ≤ C * Y := by rw [Nat.mul_comm]; exact Nat.mul_le_mul hw hd
        have h4 : (d : Int) * (w : Int) = ((d * w : Nat) : Int) := by rw [Int.natCast_mul]
        rw [h4, Nat.mul_zero]
        omega
    have lo : ∀ (m : Nat) (g : Nat → Int) (K : Nat), (∀ i, i < m → 0 ≤ g i ∧ g i ≤ (K : Int)) → 0 ≤ sm m g ∧ sm m g ≤ ((m * K : Nat) : Int) := by
      intro m g K
      induction m with
      | zero => intro _; exact ⟨Int.le_refl 0, by show (0 : Int) ≤ _; omega⟩
      | succ m ih =>
        intro h
        have h1 := ih (fun i hi => h i (by omega))
        have h2 := h m (by omega)
        have h3 : ((m + 1) * K : Nat) = m * K + K := by rw [Nat.add_mul, Nat.one_mul]
        show 0 ≤ sm m g + g m ∧ sm m g + g m ≤ (((m + 1) * K : Nat) : Int)
        rw [h3]
        omega
    have := lo (M + 1) _ (C * Y) key
    rw [e1]
    have h5 : (M + 1) * (C * Y) = (M + 1) * C * Y := (Nat.mul_assoc _ _ _).symm
    rw [h5] at this
    omega
  have hhole : B ^ M < (Y + 1) ^ (M + 1) := by
    have h1 : B ≤ (M + 1) * C * (Y + 1) := by rw [Nat.mul_add, Nat.mul_one]; omega
    have h2 : B ^ M ≤ ((M + 1) * C * (Y + 1)) ^ M := Nat.pow_le_pow_left h1 M
    rw [Nat.mul_pow, hY] at h2
    have h3 : Y * (Y + 1) ^ M < (Y + 1) * (Y + 1) ^ M := Nat.mul_lt_mul_of_pos_right (by omega) (Nat.pow_pos (by omega))
    rw [Nat.pow_succ, Nat.mul_comm ((Y + 1) ^ M) (Y + 1)]
    omega
  obtain ⟨x, x', h1, h2, h3⟩ := php (B ^ M) ((Y + 1) ^ (M + 1)) (fun x => cd B M (fun r => (val x r).toNat)) hhole (fun x _ => cd_lt M (fun r hr => by have := hval x r hr; omega))
  have h4 := cd_inj M (fun r hr => by have := hval x r hr; omega) (fun r hr => by have := hval x' r hr; omega) h3
  refine ⟨fun i => ((dg (Y + 1) x i : Nat) : Int) - ((dg (Y + 1) x' i : Nat) : Int), ?_, ?_, ?_⟩
  · by_cases hex : ∃ i, i < M + 1 ∧ dg (Y + 1) x i ≠ dg (Y + 1) x' i
    · obtain ⟨i, hi, hne⟩ := hex
      exact ⟨i, hi, by show ((dg (Y + 1) x i : Nat) : Int) - ((dg (Y + 1) x' i : Nat) : Int) ≠ 0; omega⟩
    · exfalso
      have := dg_inj (b := Y + 1) (by omega) (M + 1) x x' (by omega) h2 (fun i hi => Classical.byContradiction fun hne => hex ⟨i, hi, hne⟩)
      omega
  · intro i
    have a1 : dg (Y + 1) x i ≤ Y := Nat.le_of_lt_succ (dg_lt (by omega))
    have a2 : dg (Y + 1) x' i ≤ Y := Nat.le_of_lt_succ (dg_lt (by omega))
    show (((dg (Y + 1) x i : Nat) : Int) - ((dg (Y + 1) x' i : Nat) : Int)).natAbs ≤ Y
    omega
  · intro r hr
    have a1 := hval x r hr
    have a2 := hval x' r hr
    have a3 := h4 r hr
    have a4 : val x r = val x' r := by omega
    have a5 : sm (M + 1) (fun i => ((dg (Y + 1) x i : Nat) : Int) * E r i) = sm (M + 1) (fun i => ((dg (Y + 1) x' i : Nat) : Int) * E r i) := by
      have : sm (M + 1) (fun i => ((dg (Y + 1) x i : Nat) : Int) * E r i) + ng r = sm (M + 1) (fun i => ((dg (Y + 1) x' i : Nat) : Int) * E r i) + ng r := a4
      omega
    have a6 : sm (M + 1) (fun i => (((dg (Y + 1) x i : Nat) : Int) - ((dg (Y + 1) x' i : Nat) : Int)) * E r i) = sm (M + 1) (fun i => ((dg (Y + 1) x i : Nat) : Int) * E r i) + (-1) * sm (M + 1) (fun i => ((dg (Y + 1) x' i : Nat) : Int) * E r i) := by
      rw [← sm_mul, ← sm_add]
      exact sm_congr (fun i _ => by grind)
    rw [a6, a5]
    omega

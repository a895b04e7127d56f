-- ===== numbers as digits: carries, products, differences, the guess of a division =====
theorem cd_congr {b : Nat} : ∀ (m : Nat) {d e : Nat → Nat}, (∀ i, i < m → d i = e i) → cd b m d = cd b m e
  | 0, _, _, _ => rfl
  | m + 1, d, e, h => by
    show cd b m d + d m * b ^ m = cd b m e + e m * b ^ m
    rw [cd_congr m (fun i hi => h i (by omega)), h m (by omega)]
theorem cd_split {b : Nat} (i : Nat) : ∀ (n : Nat) (d : Nat → Nat), cd b (i + n) d = cd b i d + b ^ i * cd b n (fun t => d (i + t))
  | 0, d => by show cd b i d = _; rw [show cd b 0 (fun t => d (i + t)) = 0 from rfl]; omega
  | n + 1, d => by
    show cd b (i + n) d + d (i + n) * b ^ (i + n) = _ + b ^ i * (cd b n (fun t => d (i + t)) + d (i + n) * b ^ n)
    rw [cd_split i n d, Nat.mul_add, Nat.pow_add]
    have : d (i + n) * (b ^ i * b ^ n) = b ^ i * (d (i + n) * b ^ n) := by rw [Nat.mul_left_comm]
    omega
theorem cd_0 {b : Nat} : ∀ (n : Nat) {d : Nat → Nat}, (∀ i, i < n → d i = 0) → cd b n d = 0
  | 0, _, _ => rfl
  | n + 1, d, h => by
    show cd b n d + d n * b ^ n = 0
    rw [cd_0 n (fun i hi => h i (by omega)), h n (by omega)]; simp
/-- the digits that are 0 at the top don't count -/
theorem cd_top {b m n : Nat} {d : Nat → Nat} (hmn : m ≤ n) (h : ∀ i, m ≤ i → i < n → d i = 0) : cd b n d = cd b m d := by
  obtain ⟨k, rfl⟩ : ∃ k, n = m + k := ⟨n - m, by omega⟩
  rw [cd_split, cd_0 k (fun i hi => h (m + i) (by omega) (by omega))]; simp
theorem cd_ge {b n : Nat} {d : Nat → Nat} (h : d n ≠ 0) : b ^ n ≤ cd b (n + 1) d := by
  show b ^ n ≤ cd b n d + d n * b ^ n
  have : 1 * b ^ n ≤ d n * b ^ n := Nat.mul_le_mul_right _ (by omega)
  omega
/-- one step of a carry -/
theorem carry1 {B : Nat} (hB : 0 < B) {i : Nat} {R c w : Int} {S : Int} (h : R + c * (B : Int) ^ i = S) : (R + ((c + w) % (B : Int)) * (B : Int) ^ i) + ((c + w) / (B : Int)) * (B : Int) ^ (i + 1) = S + w * (B : Int) ^ i := by
  have h1 := Int.emod_add_mul_ediv (c + w) B
  rw [Int.pow_succ]
  generalize (c + w) % (B : Int) = r at h1 ⊢
  generalize (c + w) / (B : Int) = q at h1 ⊢
  generalize (B : Int) ^ i = P at h ⊢
  have h2 : c + w = r + (B : Int) * q := by omega
  have h3 : c = r + (B : Int) * q - w := by omega
  rw [← h, h3]
  grind
/-- which of two numbers of n digits is the larger is said by the first digit from the top in which they differ -/
theorem cd_cmp {b n k : Nat} {d e : Nat → Nat} (hd : ∀ i, i < n → d i < b) (hk : k < n) (heq : ∀ i, k < i → i < n → d i = e i) (hlt : d k < e k) : cd b n d < cd b n e := by
  obtain ⟨m, rfl⟩ : ∃ m, n = (k + 1) + m := ⟨n - (k + 1), by omega⟩
  rw [cd_split (k + 1) m d, cd_split (k + 1) m e, cd_congr m (d := fun t => d (k + 1 + t)) (e := fun t => e (k + 1 + t)) (fun i hi => heq _ (by omega) (by omega))]
  have h1 : cd b (k + 1) d < cd b (k + 1) e := by
    show cd b k d + d k * b ^ k < cd b k e + e k * b ^ k
    have a1 := cd_lt k (d := d) (fun i hi => hd i (by omega))
    have a2 : (d k + 1) * b ^ k ≤ e k * b ^ k := Nat.mul_le_mul_right _ hlt
    rw [Nat.add_mul, Nat.one_mul] at a2
    omega
  omega
theorem cd_short {b m n : Nat} {d e : Nat → Nat} (hd : ∀ i, i < m → d i < b) (hmn : m < n) (hb : 0 < b) (htop : e (n - 1) ≠ 0) : cd b m d < cd b n e := by
  have h1 := cd_lt m hd
  obtain ⟨k, rfl⟩ : ∃ k, n = k + 1 := ⟨n - 1, by omega⟩
  have h2 := cd_ge (b := b) (n := k) (d := e) htop
  have h3 : b ^ m ≤ b ^ k := Nat.pow_le_pow_right hb (by omega)
  omega
/-- the guess of a quotient's digit is never too small, and at most 2 too large -/
theorem guess {B P S D X t xt g : Nat} (hB : 2 ≤ B) (hP : 0 < P) (hD : 0 < D) (hX : X < D * B) (ht : t = S * D / P) (ht2 : B ≤ 2 * t) (hlo : S * X / P ≤ xt) (hhi : if P = 1 then xt < S * (X + 1) else xt * P ≤ S * X) (hg : g = min (xt / t) (B - 1)) : X / D ≤ g ∧ g ≤ X / D + 2 := by
  have htpos : 0 < t := by omega
  generalize hq : X / D = q
  have hq1 : q * D ≤ X := by rw [← hq]; exact Nat.div_mul_le_self X D
  have hq2 : X < (q + 1) * D := by
    have := Nat.lt_mul_div_succ X hD
    rw [hq, Nat.mul_comm] at this
    exact this
  have hqB : q ≤ B - 1 := by
    have : q < B := by rw [← hq]; exact Nat.div_lt_of_lt_mul hX
    omega
  have htP : t * P ≤ S * D := by rw [ht]; exact Nat.div_mul_le_self _ _
  refine ⟨?_, ?_⟩
  · have h1 : q * t * P ≤ S * X := by
      have a1 : q * (t * P) ≤ q * (S * D) := Nat.mul_le_mul_left _ htP
      have a2 : S * (q * D) ≤ S * X := Nat.mul_le_mul_left _ hq1
      have a3 : q * (S * D) = S * (q * D) := Nat.mul_left_comm _ _ _
      have a4 : q * t * P = q * (t * P) := Nat.mul_assoc _ _ _
      omega
    have h2 : q * t ≤ S * X / P := (Nat.le_div_iff_mul_le hP).mpr h1
    have h3 : q ≤ xt / t := (Nat.le_div_iff_mul_le htpos).mpr (by omega)
    rw [hg]
    exact Nat.le_min.mpr ⟨h3, hqB⟩
  · apply Classical.byContradiction
    intro hcon
    have hg3 : q + 3 ≤ g := by omega
    have hg4 : q + 3 ≤ xt / t := by rw [hg] at hg3; exact Nat.le_trans hg3 (Nat.min_le_left _ _)
    have hg5 : q + 3 ≤ B - 1 := by rw [hg] at hg3; exact Nat.le_trans hg3 (Nat.min_le_right _ _)
    have h1 : (q + 3) * t ≤ xt := (Nat.le_div_iff_mul_le htpos).mp hg4
    by_cases e : P = 1
    · rw [if_pos e] at hhi
      rw [e, Nat.div_one] at ht
      rw [ht] at h1
      have h2 : S * ((q + 3) * D) < S * (X + 1) := by
        have : (q + 3) * (S * D) = S * ((q + 3) * D) := Nat.mul_left_comm _ _ _
        omega
      have h3 : (q + 3) * D < X + 1 := Nat.lt_of_mul_lt_mul_left h2
      have h4 : (q + 1) * D ≤ (q + 3) * D := Nat.mul_le_mul_right _ (by omega)
      omega
    · rw [if_neg e] at hhi
      have h2 : (q + 3) * t * P ≤ xt * P := Nat.mul_le_mul_right _ h1
      have h3 : S * X < S * ((q + 1) * D) := by
        have hS : 0 < S := by
          rcases Nat.eq_zero_or_pos S with h | h
          · rw [h, Nat.zero_mul, Nat.zero_div] at ht; omega
          · exact h
        exact Nat.mul_lt_mul_of_pos_left hq2 hS
      have h4 : S * D < (t + 1) * P := by
        have := Nat.lt_mul_div_succ (S * D) hP
        rw [← ht, Nat.mul_comm P] at this
        exact this
      have h5 : (q + 1) * (S * D) ≤ (q + 1) * ((t + 1) * P) := Nat.mul_le_mul_left _ (by omega)
      have h6 : S * ((q + 1) * D) = (q + 1) * (S * D) := Nat.mul_left_comm _ _ _
      have h7 : (q + 3) * t * P < (q + 1) * (t + 1) * P := by
        have : (q + 1) * ((t + 1) * P) = (q + 1) * (t + 1) * P := (Nat.mul_assoc _ _ _).symm
        omega
      have h8 : (q + 3) * t < (q + 1) * (t + 1) := Nat.lt_of_mul_lt_mul_right h7
      have h9 : (q + 3) * t = q * t + 3 * t := Nat.add_mul _ _ _
      have h10 : (q + 1) * (t + 1) = q * t + q + (t + 1) := by rw [Nat.add_mul, Nat.mul_add, Nat.mul_one, Nat.one_mul]
      omega

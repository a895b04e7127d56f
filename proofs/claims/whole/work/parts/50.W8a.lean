-- ===== Whole: divide =====
theorem xt_facts {r : Nat → Nat} {j no sh : Nat} (hr : ∀ t, t < j + no + 1 → r t < B30) (hno : 1 ≤ no) (hsh : sh ≤ 30) : 2 ^ sh * cd B30 (no + 1) (fun t => r (j + t)) / B30 ^ (no - 1) ≤ tb r (j + no + 1) sh ∧ (if B30 ^ (no - 1) = 1 then tb r (j + no + 1) sh < 2 ^ sh * (cd B30 (no + 1) (fun t => r (j + t)) + 1) else tb r (j + no + 1) sh * B30 ^ (no - 1) ≤ 2 ^ sh * cd B30 (no + 1) (fun t => r (j + t))) := by
  have hB0 : 0 < B30 := by decide
  have hPj : 0 < B30 ^ j := Nat.pow_pos hB0
  obtain ⟨m, rfl⟩ : ∃ m, no = m + 1 := ⟨no - 1, by omega⟩
  rw [show m + 1 - 1 = m by omega]
  have hlow := cd_lt j (b := B30) (d := r) (fun i hi => hr i (by omega))
  have hV : cd B30 (j + (m + 1) + 1) r = cd B30 j r + B30 ^ j * cd B30 (m + 1 + 1) (fun t => r (j + t)) := by
    rw [show j + (m + 1) + 1 = j + (m + 1 + 1) by omega]; exact cd_split j _ r
  have hxt : tb r (j + (m + 1) + 1) sh = 2 ^ sh * cd B30 (j + (m + 1) + 1) r / (B30 ^ j * B30 ^ m) := by
    rw [tb_val hr (by omega) hsh, show j + (m + 1) + 1 - 1 = (j + m) + 1 by omega, Nat.pow_succ, Nat.pow_add, Nat.mul_left_comm, Nat.mul_comm (B30 ^ j * B30 ^ m) B30, Nat.mul_div_mul_left _ _ hB0]
  generalize cd B30 (m + 1 + 1) (fun t => r (j + t)) = X at hV ⊢
  rw [hxt, hV]
  generalize cd B30 j r = low at hlow ⊢
  rcases m with _ | m
  · rw [Nat.pow_zero, if_pos rfl, Nat.div_one, Nat.mul_one]
    refine ⟨?_, ?_⟩
    · rw [Nat.le_div_iff_mul_le hPj, Nat.mul_add, Nat.mul_assoc, Nat.mul_comm X (B30 ^ j)]
      omega
    · rw [Nat.div_lt_iff_lt_mul hPj, Nat.mul_assoc]
      refine Nat.mul_lt_mul_of_pos_left ?_ (Nat.pow_pos (by omega))
      rw [Nat.add_mul, Nat.one_mul, Nat.mul_comm X]
      omega
  · have hP : B30 ^ (m + 1) = 2 ^ sh * (B30 ^ m * 2 ^ (30 - sh)) := by
      have hBp : B30 = 2 ^ sh * 2 ^ (30 - sh) := by rw [← Nat.pow_add, show sh + (30 - sh) = 30 by omega]; rfl
      rw [Nat.pow_succ]
      have h9 : B30 ^ m * B30 = B30 ^ m * (2 ^ sh * 2 ^ (30 - sh)) := congrArg (B30 ^ m * ·) hBp
      rw [h9, Nat.mul_left_comm]
    have hne : B30 ^ (m + 1) ≠ 1 := by
      have : B30 ^ 1 ≤ B30 ^ (m + 1) := Nat.pow_le_pow_right hB0 (by omega)
      rw [Nat.pow_one] at this
      have : B30 = 1073741824 := rfl
      omega
    rw [if_neg hne]
    have hs0 : 0 < 2 ^ sh := Nat.pow_pos (by omega)
    have e1 : 2 ^ sh * (low + B30 ^ j * X) / (B30 ^ j * B30 ^ (m + 1)) = 2 ^ sh * X / B30 ^ (m + 1) := by
      rw [hP, Nat.mul_left_comm (B30 ^ j), Nat.mul_div_mul_left _ _ hs0, Nat.mul_div_mul_left _ _ hs0, ← Nat.div_div_eq_div_mul, Nat.mul_comm (B30 ^ j) X, Nat.add_mul_div_right _ _ hPj, Nat.div_eq_of_lt hlow, Nat.zero_add]
    rw [e1]
    exact ⟨Nat.le_refl _, Nat.div_mul_le_self _ _⟩
theorem top_facts {d : Nat → Nat} {no sh : Nat} (hd : ∀ t, t < no → d t < B30) (hno : 1 ≤ no) (hsh : sh ≤ 30) : tb d no sh / 1073741824 = 2 ^ sh * cd B30 no d / B30 ^ (no - 1) := by
  rw [tb_val hd hno hsh, Nat.div_div_eq_div_mul]
  show 2 ^ sh * (B30 * cd B30 no d) / (B30 ^ (no - 1) * B30) = _
  rw [Nat.mul_left_comm, Nat.mul_comm (B30 ^ (no - 1)) B30, Nat.mul_div_mul_left _ _ (by decide)]
theorem rL_n {n : Nat} (h : n < 9223372036854775808) : rL (n : Int) := ⟨by omega, by omega⟩
theorem td_abs (v w : Int) : (v.tdiv w).natAbs = v.natAbs / w.natAbs := Int.natAbs_tdiv v w
theorem tm_neg {v w : Int} (h : v < 0) : v.tmod w = -((v.natAbs % w.natAbs : Nat) : Int) := by
  obtain ⟨a, rfl⟩ : ∃ a : Nat, v = -(a : Int) := ⟨v.natAbs, by omega⟩
  rw [Int.neg_tmod, Int.natAbs_neg, Int.natAbs_natCast]
  congr 1
  rcases Int.le_total 0 w with h' | h'
  · obtain ⟨b, rfl⟩ : ∃ b : Nat, w = (b : Int) := ⟨w.natAbs, by omega⟩
    rw [Int.natAbs_natCast]; rfl
  · obtain ⟨b, rfl⟩ : ∃ b : Nat, w = -(b : Int) := ⟨w.natAbs, by omega⟩
    rw [Int.natAbs_neg, Int.natAbs_natCast, Int.tmod_neg]; rfl
theorem tm_pos {v w : Int} (h : 0 < v) : v.tmod w = ((v.natAbs % w.natAbs : Nat) : Int) := by
  have h1 := tm_neg (v := -v) (w := w) (by omega)
  rw [Int.neg_tmod, Int.natAbs_neg] at h1
  generalize v.tmod w = a at h1 ⊢
  generalize ((v.natAbs % w.natAbs : Nat) : Int) = b at h1 ⊢
  omega
theorem td_sgn (v w : Int) : v.tdiv w = v.sign * w.sign * ((v.natAbs / w.natAbs : Nat) : Int) := by
  have key : ∀ a b : Nat, ((a : Int)).tdiv (b : Int) = ((a / b : Nat) : Int) := fun _ _ => rfl
  rcases Int.lt_trichotomy v 0 with h | h | h <;> rcases Int.lt_trichotomy w 0 with h' | h' | h'
  · obtain ⟨a, rfl⟩ : ∃ a : Nat, v = -(a : Int) := ⟨v.natAbs, by omega⟩
    obtain ⟨b, rfl⟩ : ∃ b : Nat, w = -(b : Int) := ⟨w.natAbs, by omega⟩
    rw [Int.sign_eq_neg_one_of_neg h, Int.sign_eq_neg_one_of_neg h', Int.neg_tdiv, Int.tdiv_neg, Int.natAbs_neg, Int.natAbs_neg, Int.natAbs_natCast, Int.natAbs_natCast, key]
    generalize ((a / b : Nat) : Int) = t
    omega
  · subst h'
    simp
  · obtain ⟨a, rfl⟩ : ∃ a : Nat, v = -(a : Int) := ⟨v.natAbs, by omega⟩
    obtain ⟨b, rfl⟩ : ∃ b : Nat, w = (b : Int) := ⟨w.natAbs, by omega⟩
    rw [Int.sign_eq_neg_one_of_neg h, Int.sign_eq_one_of_pos h', Int.neg_tdiv, Int.natAbs_neg, Int.natAbs_natCast, Int.natAbs_natCast, key]
    generalize ((a / b : Nat) : Int) = t
    omega
  · subst h; simp
  · subst h; simp
  · subst h; simp
  · obtain ⟨a, rfl⟩ : ∃ a : Nat, v = (a : Int) := ⟨v.natAbs, by omega⟩
    obtain ⟨b, rfl⟩ : ∃ b : Nat, w = -(b : Int) := ⟨w.natAbs, by omega⟩
    rw [Int.sign_eq_one_of_pos h, Int.sign_eq_neg_one_of_neg h', Int.tdiv_neg, Int.natAbs_neg, Int.natAbs_natCast, Int.natAbs_natCast, key]
    generalize ((a / b : Nat) : Int) = t
    omega
  · subst h'
    simp
  · obtain ⟨a, rfl⟩ : ∃ a : Nat, v = (a : Int) := ⟨v.natAbs, by omega⟩
    obtain ⟨b, rfl⟩ : ∃ b : Nat, w = (b : Int) := ⟨w.natAbs, by omega⟩
    rw [Int.sign_eq_one_of_pos h, Int.sign_eq_one_of_pos h', Int.natAbs_natCast, Int.natAbs_natCast, key]
    generalize ((a / b : Nat) : Int) = t
    omega
theorem maskL : (1073741823 : Int64) = zL ((1073741823 : Nat) : Int) := by decide +kernel
theorem oneL : (1 : Int64) = zL ((1 : Nat) : Int) := by decide +kernel
theorem pk_lMin (a b : Nat) : zL (min (a : Int) (b : Int)) = lN (min a b) := by
  rw [← zL_n]
  congr 1
  omega
theorem pk_lMax (a b : Nat) : zL (max (a : Int) (b : Int)) = lN (max a b) := by
  rw [← zL_n]
  congr 1
  omega


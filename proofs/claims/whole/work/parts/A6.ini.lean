-- ===== behind both constructors =====
def oN (x0 q : Nat) : Nat := if q = x0 ∨ q = x0 + 1 ∨ q = x0 + 177 then 101 else if q < x0 + 137 then (q - x0 - 2) / 15 else if q < x0 + 177 then 100 else 200
theorem oN_T {x0 q : Nat} (τ : Nat) (hτ : τ < 9) (h1 : x0 + 2 + 15 * τ ≤ q) (h2 : q < x0 + 2 + 15 * τ + 15) : oN x0 q = τ := by
  unfold oN
  rw [if_neg (by omega), if_pos (by omega)]; omega
theorem oN_Q {x0 q : Nat} (h1 : x0 + 137 ≤ q) (h2 : q < x0 + 177) : oN x0 q = 100 := by
  unfold oN
  rw [if_neg (by omega), if_neg (by omega), if_pos h2]
theorem oN_M {x0 q : Nat} (h1 : x0 + 178 ≤ q) : oN x0 q = 200 := by
  unfold oN
  rw [if_neg (by omega), if_neg (by omega), if_neg (by omega)]
def fB (k : Nat → ClassId) (x0 : Nat) : Nat → va_E := jn (FA k x0) (x0 + 178) (FM k (x0 + 178))
theorem fB_T {k : Nat → ClassId} {x0 q : Nat} (τ : Nat) (hτ : τ < 9) (h1 : x0 + 2 + 15 * τ ≤ q) (h2 : q < x0 + 2 + 15 * τ + 15) : fB k x0 q = FT k (x0 + 2 + 15 * τ) q := (jn_lo (by omega)).trans (FA_T τ hτ h1 h2)
theorem fB_Q {k : Nat → ClassId} {x0 q : Nat} (h1 : x0 + 137 ≤ q) (h2 : q < x0 + 177) : fB k x0 q = FQ k (x0 + 137) q := (jn_lo (by omega)).trans (FA_Q h1 h2)
theorem fB_M {k : Nat → ClassId} {x0 q : Nat} (h1 : x0 + 178 ≤ q) : fB k x0 q = FM k (x0 + 178) q := jn_hi h1
def stB : Nat → Tb := fun _ => mkT 0 0 0 true (fun _ _ => 0) id
theorem stB_ok : ∀ i, i < 8 → okT (stB i) := fun i _ => by
  have hz : ∀ V : (Nat → Int) → Prop, sml 0 V := fun V x _ hn => by
    obtain ⟨j, hj, -⟩ := hn
    omega
  exact ⟨Or.inl rfl, Nat.zero_le _, Nat.zero_le _, Nat.zero_le _, fun z => (by cases z), fun _ => ⟨⟨fun r hr => absurd hr (Nat.not_lt_zero r), fun r q hr => absurd hr (Nat.not_lt_zero r)⟩, fun r hr => absurd hr (Nat.not_lt_zero r), fun _ => ⟨hz _, hz _⟩⟩⟩
section INI
variable {k : Nat → ClassId} {x0 : Nat}
theorem TB_0 {τ : Nat} (hτ : τ < 9) : TB (List.range' x0 787) (oN x0) k (fB k x0) τ (x0 + 2 + 15 * τ) (x0 + 2 + 15 * τ + 1) (x0 + 2 + 15 * τ + 2) (fun i => x0 + 2 + 15 * τ + 3 + i) (nI 0) 0 0 1 (fun _ => 0) (fun _ _ => 0) := by
  have hm : ∀ i, i < 12 → (x0 + 2 + 15 * τ + 3 + i) ∈ List.range' x0 787 ∧ oN x0 (x0 + 2 + 15 * τ + 3 + i) = τ ∧ x0 + 2 + 15 * τ ≠ x0 + 2 + 15 * τ + 3 + i ∧ x0 + 2 + 15 * τ + 1 ≠ x0 + 2 + 15 * τ + 3 + i ∧ x0 + 2 + 15 * τ + 2 ≠ x0 + 2 + 15 * τ + 3 + i := fun i hi => ⟨rg_mem.mpr ⟨by omega, by omega⟩, oN_T τ hτ (by omega) (by omega), by omega, by omega, by omega⟩
  have hj : ∀ i j, i < 12 → j < 12 → x0 + 2 + 15 * τ + 3 + i = x0 + 2 + 15 * τ + 3 + j → i = j := fun i j _ _ e => by omega
  refine ⟨⟨⟨rg_mem.mpr ⟨by omega, by omega⟩, oN_T τ hτ (by omega) (by omega)⟩, ⟨rg_mem.mpr ⟨by omega, by omega⟩, oN_T τ hτ (by omega) (by omega)⟩, ⟨rg_mem.mpr ⟨by omega, by omega⟩, oN_T τ hτ (by omega) (by omega)⟩, hm, by omega, by omega, by omega, hj⟩, ?_, ?_, ⟨fun i => some (x0 + 2 + 15 * τ + 3 + i), ?_, fun i hi => rfl⟩, fun i hi => ?_⟩
  · rw [fB_T τ hτ (by omega) (by omega)]; exact if_pos rfl
  · rw [fB_T τ hτ (by omega) (by omega)]; exact (if_neg (by omega)).trans (if_pos rfl)
  · rw [fB_T τ hτ (by omega) (by omega)]; exact (if_neg (by omega)).trans ((if_neg (by omega)).trans (if_pos rfl))
  · show fB k x0 (x0 + 2 + 15 * τ + 3 + i) = _
    rw [fB_T τ hτ (by omega) (by omega)]; exact (if_neg (by omega)).trans ((if_neg (by omega)).trans (if_neg (by omega)))
theorem RQ_0 : RQ (List.range' x0 787) (oN x0) k (fB k x0) (fun x => x0 + 137 + 2 + x) (x0 + 137) (x0 + 137 + 1) (fun i => some (x0 + 137 + 2 + 2 * i)) := by
  have h1 : ∀ x, x < 38 → x0 + 137 ≠ x0 + 137 + 2 + x ∧ x0 + 137 + 1 ≠ x0 + 137 + 2 + x := fun x hx => ⟨by omega, by omega⟩
  have h2 : ∀ x y, x < 2 * 19 → y < 2 * 19 → x0 + 137 + 2 + x = x0 + 137 + 2 + y → x = y := fun x y _ _ e => by omega
  have h3 : ∀ x, x < 2 * 19 → oN x0 (x0 + 137 + 2 + x) = 100 := fun x hx => oN_Q (by omega) (by omega)
  have h4 : ∀ i, i < 19 → x0 + 137 + 2 + 2 * i ∈ List.range' x0 787 ∧ x0 + 137 + 2 + (2 * i + 1) ∈ List.range' x0 787 ∧ ∃ (n : Nat) (g : Int32) (d : Nat → Nat), fB k x0 (x0 + 137 + 2 + 2 * i) = cW (x0 + 137 + 2 + (2 * i + 1)) n g ∧ fB k x0 (x0 + 137 + 2 + (2 * i + 1)) = cD k d ∧ wr n g d 0 := fun i hi => by
    refine ⟨rg_mem.mpr ⟨by omega, by omega⟩, rg_mem.mpr ⟨by omega, by omega⟩, 0, 0, fun _ => 0, ?_, ?_, by omega, fun _ _ => (show 0 < B30 by decide), Or.inl ⟨rfl, rfl, rfl⟩⟩
    · rw [fB_Q (by omega) (by omega), FQ_hi i (by omega) (by omega)]; exact if_pos rfl
    · rw [fB_Q (by omega) (by omega), FQ_hi i (by omega) (by omega)]; exact if_neg (by omega)
  refine ⟨⟨rg_mem.mpr ⟨by omega, by omega⟩, rg_mem.mpr ⟨by omega, by omega⟩, by omega, h1, h2, fun j hj => rfl⟩, oN_Q (by omega) (by omega), oN_Q (by omega) (by omega), h3, 17, 18, fun _ => 0, Or.inl ⟨rfl, rfl⟩, h4, ?_, ?_⟩
  · rw [fB_Q (by omega) (by omega)]; exact if_pos rfl
  · rw [fB_Q (by omega) (by omega)]; exact (if_neg (by omega)).trans (if_pos rfl)
theorem CS_0 : CS (List.range' x0 787) (oN x0) k (fB k x0) x0 (x0 + 1) (x0 + 137) (x0 + 177) (x0 + 137 + 1) (fun τ => x0 + 2 + 15 * τ) (fun τ => x0 + 2 + 15 * τ + 1) (fun τ => x0 + 2 + 15 * τ + 2) (fun x => x0 + 137 + 2 + x) (fun i => some (x0 + 137 + 2 + 2 * i)) id stB := by
  refine ⟨fun i => some (x0 + 2 + 15 * i), ⟨?_, ?_, ?_, ⟨rg_mem.mpr ⟨by omega, by omega⟩, ?_⟩, ⟨rg_mem.mpr ⟨by omega, by omega⟩, ?_⟩, ⟨rg_mem.mpr ⟨by omega, by omega⟩, ?_⟩⟩, fun i hi => rfl, RQ_0, ⟨fun i hi => hi, fun i j hi hj e => e⟩, fun i hi => ⟨_, _, _, TB_0 (show i < 9 by omega), fun r hr => absurd hr (Nat.not_lt_zero r), fun _ r hr => absurd hr (Nat.not_lt_zero r)⟩, _, _, _, _, _, _, _, TB_0 (show 8 < 9 by omega)⟩
  · exact (jn_lo (by omega)).trans (if_pos rfl)
  · exact (jn_lo (by omega)).trans ((if_neg (by omega)).trans (if_pos rfl))
  · exact (jn_lo (by omega)).trans (FA_P (by omega))
  · exact if_pos (Or.inl rfl)
  · exact if_pos (Or.inr (Or.inl rfl))
  · exact if_pos (Or.inr (Or.inr rfl))
-- the reference's numbers
theorem mA_bd {b x : Nat} (hx : x < 596) : (b + 1 ≤ mA b x ∧ mA b x < b + 17) ∨ (b + 29 ≤ mA b x ∧ mA b x < b + 609) := by
  unfold mA
  by_cases h1 : x / 2 < 8
  · rw [if_pos h1]; omega
  · rw [if_neg h1]
    by_cases h2 : x / 2 < 10
    · rw [if_pos h2]; omega
    · rw [if_neg h2]
      by_cases h3 : x / 2 < 154
      · rw [if_pos h3]; omega
      · rw [if_neg h3]; omega
theorem mA_inj {b x y : Nat} (hx : x < 596) (hy : y < 596) (e : mA b x = mA b y) : x = y := by
  unfold mA at e
  by_cases h1 : x / 2 < 8
  · rw [if_pos h1] at e
    by_cases g1 : y / 2 < 8
    · rw [if_pos g1] at e; omega
    · rw [if_neg g1] at e
      by_cases g2 : y / 2 < 10
      · rw [if_pos g2] at e; omega
      · rw [if_neg g2] at e
        by_cases g3 : y / 2 < 154
        · rw [if_pos g3] at e; omega
        · rw [if_neg g3] at e; omega
  · rw [if_neg h1] at e
    by_cases h2 : x / 2 < 10
    · rw [if_pos h2] at e
      by_cases g1 : y / 2 < 8
      · rw [if_pos g1] at e; omega
      · rw [if_neg g1] at e
        by_cases g2 : y / 2 < 10
        · rw [if_pos g2] at e; omega
        · rw [if_neg g2] at e
          by_cases g3 : y / 2 < 154
          · rw [if_pos g3] at e; omega
          · rw [if_neg g3] at e; omega
    · rw [if_neg h2] at e
      by_cases h3 : x / 2 < 154
      · rw [if_pos h3] at e
        by_cases g1 : y / 2 < 8
        · rw [if_pos g1] at e; omega
        · rw [if_neg g1] at e
          by_cases g2 : y / 2 < 10
          · rw [if_pos g2] at e; omega
          · rw [if_neg g2] at e
            by_cases g3 : y / 2 < 154
            · rw [if_pos g3] at e; omega
            · rw [if_neg g3] at e; omega
      · rw [if_neg h3] at e
        by_cases g1 : y / 2 < 8
        · rw [if_pos g1] at e; omega
        · rw [if_neg g1] at e
          by_cases g2 : y / 2 < 10
          · rw [if_pos g2] at e; omega
          · rw [if_neg g2] at e
            by_cases g3 : y / 2 < 154
            · rw [if_pos g3] at e; omega
            · rw [if_neg g3] at e; omega
theorem mA_2 (b i : Nat) : mA b (2 * i + 1) = mA b (2 * i) + 1 := by
  unfold mA
  rw [show (2 * i + 1) / 2 = i by omega, show (2 * i + 1) % 2 = 1 by omega, show 2 * i / 2 = i by omega, show 2 * i % 2 = 0 by omega]
theorem FM_num {b i : Nat} (hi : i < 298) : FM k b (mA b (2 * i)) = cN (mA b (2 * i + 1)) 0 false ∧ FM k b (mA b (2 * i + 1)) = cE k (fun _ => 0) := by
  rw [mA_2]
  have key : ∃ t, FM k b (mA b (2 * i)) = FN k (mA b (2 * i)) (mA b (2 * i)) ∧ FM k b (mA b (2 * i) + 1) = FN k (mA b (2 * i)) (mA b (2 * i) + 1) ∧ t = mA b (2 * i) := by
    have e : mA b (2 * i) = (if i < 8 then b + 1 + 2 * i else if i < 10 then b + 29 + 2 * (i - 8) else if i < 154 then b + 33 + 4 * (i - 10) else b + 35 + 4 * (i - 154)) := by
      unfold mA
      rw [show 2 * i / 2 = i by omega, show 2 * i % 2 = 0 by omega]; rfl
    refine ⟨_, ?_, ?_, rfl⟩ <;> rw [e]
    all_goals
      by_cases h1 : i < 8
      · rw [if_pos h1]; exact FM_1 i h1 (by omega) (by omega)
      · rw [if_neg h1]
        by_cases h2 : i < 10
        · rw [if_pos h2]; exact FM_2 (i - 8) (by omega) (by omega)
        · rw [if_neg h2]
          by_cases h3 : i < 154
          · rw [if_pos h3, show b + 33 + 4 * (i - 10) = b + 29 + 2 * (2 + 2 * (i - 10)) by omega]; exact FM_2 (2 + 2 * (i - 10)) (by omega) (by omega)
          · rw [if_neg h3, show b + 35 + 4 * (i - 154) = b + 29 + 2 * (3 + 2 * (i - 154)) by omega]; exact FM_2 (3 + 2 * (i - 154)) (by omega) (by omega)
  obtain ⟨-, h1, h2, -⟩ := key
  rw [h1, h2]
  exact ⟨if_pos rfl, if_neg (by omega)⟩
theorem MW_0 : MW (List.range' x0 787) (oN x0) k (fB k x0) (x0 + 178) (mR (x0 + 178)) (mA (x0 + 178)) 0 0 0 (fun _ => 0) (fun _ => 0) (fun _ => 0) (fun _ => 0) (fun _ => 0) (fun _ => 0) (fun _ => 0) (fun _ => 0) (fun _ => 0) (fun _ => 0) (fun _ => 0) := by
  have hm : ∀ i, i < 12 → x0 + 178 + 17 ≤ mR (x0 + 178) i ∧ mR (x0 + 178) i < x0 + 178 + 29 := fun i hi => by unfold mR; omega
  have hr : ∀ i, i < 12 → fB k x0 (mR (x0 + 178) i) = mAr k (x0 + 178) i := fun i hi => by
    rw [fB_M (by have := hm i hi; omega)]; exact FM_r i hi
  refine ⟨⟨⟨rg_mem.mpr ⟨by omega, by omega⟩, oN_M (by omega)⟩, fun i hi => ?_, fun i j hi hj e => ?_, fun x hx => ?_, fun x y hx hy e => mA_inj (by omega) (by omega) e⟩, fun q hq => ?_, fun i hi => ?_⟩
  · have := hm i hi
    exact ⟨rg_mem.mpr ⟨by omega, by omega⟩, oN_M (by omega), by omega⟩
  · unfold mR at e; omega
  · have h1 := mA_bd (b := x0 + 178) hx
    refine ⟨oN_M (by omega), by omega, fun i hi => ?_⟩
    have := hm i hi
    omega
  · simp only [List.mem_cons, List.not_mem_nil, or_false] at hq
    rcases hq with rfl | rfl | rfl | rfl | rfl | rfl | rfl | rfl | rfl | rfl | rfl | rfl | rfl
    · exact (fB_M (by omega)).trans (if_pos rfl)
    · exact hr 0 (by omega)
    · exact hr 1 (by omega)
    · exact hr 2 (by omega)
    · exact hr 3 (by omega)
    · exact hr 4 (by omega)
    · exact hr 5 (by omega)
    · exact hr 6 (by omega)
    · exact hr 7 (by omega)
    · exact hr 8 (by omega)
    · exact hr 9 (by omega)
    · exact hr 10 (by omega)
    · exact hr 11 (by omega)
  · have h1 := mA_bd (b := x0 + 178) (show 2 * i < 596 by omega)
    have h2 := mA_bd (b := x0 + 178) (show 2 * i + 1 < 596 by omega)
    obtain ⟨g1, g2⟩ := FM_num (k := k) (b := x0 + 178) hi
    exact ⟨rg_mem.mpr ⟨by omega, by omega⟩, rg_mem.mpr ⟨by omega, by omega⟩, 0, false, fun _ => 0, (fB_M (by omega)).trans g1, (fB_M (by omega)).trans g2, nr_0 (fun _ _ => by decide)⟩
theorem RS_0 : RS (List.range' x0 787) (oN x0) k (fB k x0) (x0 + 178) (mR (x0 + 178)) (mA (x0 + 178)) stB := by
  refine ⟨_, _, _, _, _, _, _, _, _, _, _, _, _, _, MW_0, fun t ht => ⟨rfl, rfl, rfl, rfl, fun _ i hi => absurd hi (Nat.not_lt_zero i), fun _ => 0, fun c hc => ?_, fun x hx => ⟨p15_0.1, p15_0.1⟩, fun _ i j hi => absurd hi (Nat.not_lt_zero i), fun _ i j hi => absurd hi (Nat.not_lt_zero i)⟩⟩
  have h0 : ∀ a, sc (fun _ => 0) a 0 := fun a => ⟨0, false, fun _ => 0, by omega, nr_0 (fun _ _ => by decide), rfl, fun j hj => absurd hj (Nat.not_lt_zero j)⟩
  exact ⟨h0 _, h0 _⟩
end INI

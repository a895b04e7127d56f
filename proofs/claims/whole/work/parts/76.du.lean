-- ===== what turning, dual, leave and sum make =====
/-- a row is made 0 at all places by rows taken away -/
theorem rd_elim {p : Int} (hp : dm p) {n : Nat} {T : Nat → Nat → Int} {pl : Nat → Nat} (x : Nat → Int) : ∀ k, rd p n k T pl → ∃ (s : Int) (c : Nat → Int), ¬ p ∣ s ∧ ∀ r, r < k → p ∣ s * x (pl r) - sm k (fun i => c i * T i (pl r))
  | 0, _ => ⟨1, fun _ => 0, hp.1, fun r hr => absurd hr (Nat.not_lt_zero r)⟩
  | k + 1, h => by
    obtain ⟨s, c, hs, hc⟩ := rd_elim hp x k ⟨fun r hr => h.1 r (by omega), fun r q hr hq hne => h.2 r q (by omega) (by omega) hne⟩
    let y : Nat → Int := fun j => s * x j - sm k (fun i => c i * T i j)
    refine ⟨s * T k (pl k), fun i => if i = k then y (pl k) else T k (pl k) * c i, hp.mul hs (h.1 k (by omega)).2, fun r hr => ?_⟩
    have e : sm (k + 1) (fun i => (if i = k then y (pl k) else T k (pl k) * c i) * T i (pl r)) = T k (pl k) * sm k (fun i => c i * T i (pl r)) + y (pl k) * T k (pl r) := by
      show sm k (fun i => (if i = k then y (pl k) else T k (pl k) * c i) * T i (pl r)) + (if k = k then y (pl k) else T k (pl k) * c k) * T k (pl r) = _
      rw [if_pos rfl, ← sm_mul]
      congr 1
      exact sm_congr (fun i hi => by rw [if_neg (by omega)]; grind)
    rw [e]
    by_cases hrk : r = k
    · subst hrk
      refine ⟨0, ?_⟩
      show s * T r (pl r) * x (pl r) - (T r (pl r) * sm r (fun i => c i * T i (pl r)) + (s * x (pl r) - sm r (fun i => c i * T i (pl r))) * T r (pl r)) = p * 0
      generalize sm r (fun i => c i * T i (pl r)) = X
      grind
    · obtain ⟨u, hu⟩ := hc r (by omega)
      obtain ⟨v, hv⟩ := h.2 r k hr (by omega) (Ne.symm hrk)
      refine ⟨T k (pl k) * u - y (pl k) * v, ?_⟩
      generalize sm k (fun i => c i * T i (pl r)) = X at hu ⊢
      rw [hv]
      generalize y (pl k) = Y
      generalize T k (pl k) = Z
      have : s * x (pl r) = p * u + X := by omega
      grind
-- the dual
def dualV (p : Int) (n k : Nat) (A : Nat → Nat → Int) (x : Nat → Int) : Prop := ∀ i, i < k → p ∣ sm n (fun j => x j * A i j)
theorem dualV_0 {n k : Nat} {A : Nat → Nat → Int} {x : Nat → Int} : dualV 0 n k A x ↔ og n k A x := ⟨fun h i hi => Int.zero_dvd.mp (h i hi), fun h i hi => Int.zero_dvd.mpr (h i hi)⟩
/-- D has a row for each column that is no place of A: in dc r it is not 0, in the others of them 0 -/
def dD (p : Int) (n k : Nat) (A : Nat → Nat → Int) (pl : Nat → Nat) (D : Nat → Nat → Int) (dc : Nat → Nat) : Prop := (∀ r, r < n - k → dc r < n ∧ (∀ i, i < k → pl i ≠ dc r) ∧ ¬ p ∣ D r (dc r) ∧ (∀ j, j < n → j ≠ dc r → (∀ i, i < k → pl i ≠ j) → p ∣ D r j) ∧ dualV p n k A (D r)) ∧ (∀ r r', r < n - k → r' < n - k → dc r = dc r' → r = r') ∧ ∀ j, j < n → (∀ i, i < k → pl i ≠ j) → ∃ r, r < n - k ∧ dc r = j
theorem dD_rd {p : Int} {n k : Nat} {A : Nat → Nat → Int} {pl : Nat → Nat} {D : Nat → Nat → Int} {dc : Nat → Nat} (h : dD p n k A pl D dc) : rd p n (n - k) D dc :=
  ⟨fun r hr => ⟨(h.1 r hr).1, (h.1 r hr).2.2.1⟩, fun r q hr hq hne => (h.1 q hq).2.2.2.1 (dc r) (h.1 r hr).1 (fun e => hne (h.2.1 q r hq hr e.symm)) (h.1 r hr).2.1⟩
theorem dualV_comb {p : Int} {n k m : Nat} {A D : Nat → Nat → Int} {x : Nat → Int} {s : Int} {c : Nat → Int} (hx : dualV p n k A x) (hD : ∀ r, r < m → dualV p n k A (D r)) : dualV p n k A (fun j => s * x j - sm m (fun r => c r * D r j)) := by
  intro i hi
  have e : sm n (fun j => (s * x j - sm m (fun r => c r * D r j)) * A i j) = s * sm n (fun j => x j * A i j) - sm m (fun r => c r * sm n (fun j => D r j * A i j)) := by
    have e1 : sm m (fun r => c r * sm n (fun j => D r j * A i j)) = sm n (fun j => sm m (fun r => c r * (D r j * A i j))) := by
      rw [← sm_swap]
      exact sm_congr (fun r _ => (sm_mul n (c r) _).symm)
    rw [e1, ← sm_mul, ← sm_sub]
    refine sm_congr (fun j _ => ?_)
    have e2 : sm m (fun r => c r * (D r j * A i j)) = A i j * sm m (fun r => c r * D r j) := by
      rw [← sm_mul]; exact sm_congr (fun r _ => by grind)
    rw [e2]; grind
  rw [e]
  exact Int.dvd_sub (Int.dvd_mul_of_dvd_right (hx i hi)) (sm_dvd (fun r hr => Int.dvd_mul_of_dvd_right (hD r hr i hi)))
/-- what is 0 at all columns that are no places, and has product 0 with each row, is 0 -/
theorem dual_z {p : Int} (hp : dm p) {n k : Nat} {A : Nat → Nat → Int} {pl : Nat → Nat} (h : rd p n k A pl) {y : Nat → Int} (hy : dualV p n k A y) (h0 : ∀ j, j < n → (∀ i, i < k → pl i ≠ j) → p ∣ y j) : ∀ j, j < n → p ∣ y j := by
  intro j hj
  by_cases hpl : ∃ i, i < k ∧ pl i = j
  · obtain ⟨i, hi, e⟩ := hpl
    subst e
    have h1 := hy i hi
    have h2 : p ∣ sm n (fun j => y j * A i j) - y (pl i) * A i (pl i) := sm_dvd1 (f := fun j => y j * A i j) hj (fun j' hj' hne => by
      by_cases h3 : ∃ i', i' < k ∧ pl i' = j'
      · obtain ⟨i', hi', e⟩ := h3
        rw [← e]
        exact Int.dvd_mul_of_dvd_right (h.2 i' i hi' hi (fun z => hne (by rw [← e, z])))
      · exact Int.dvd_mul_of_dvd_left (h0 j' hj' (fun i' hi' e => h3 ⟨i', hi', e⟩)))
    have h3 := dv_sub h2 h1
    rw [Int.mul_comm] at h3
    exact hp.left (h.1 i hi).2 h3
  · exact h0 j hj (fun i hi e => hpl ⟨i, hi, e⟩)
theorem dual_sp {p : Int} (hp : dm p) {n k : Nat} {A : Nat → Nat → Int} {pl : Nat → Nat} (h : rd p n k A pl) {D : Nat → Nat → Int} {dc : Nat → Nat} (hD : dD p n k A pl D dc) (x : Nat → Int) : dualV p n k A x ↔ sp p n (n - k) D x := by
  constructor
  · intro hx
    obtain ⟨s, c, hs, hc⟩ := rd_elim hp x _ (dD_rd hD)
    refine ⟨s, c, hs, ?_⟩
    refine dual_z hp h (dualV_comb hx (fun r hr => (hD.1 r hr).2.2.2.2)) (fun j hj hnp => ?_)
    obtain ⟨r, hr, e⟩ := hD.2.2 j hj hnp
    rw [← e]; exact hc r hr
  · rintro ⟨s, c, hs, hc⟩ i hi
    have h1 : p ∣ sm n (fun j => (s * x j - sm (n - k) (fun r => c r * D r j)) * A i j) := sm_dvd (fun j hj => Int.dvd_mul_of_dvd_left (hc j hj))
    have h2 := dualV_comb (s := 0) (c := c) (x := x) (m := n - k) (D := D) (A := A) (p := p) (n := n) (k := k)
    have e : sm n (fun j => (s * x j - sm (n - k) (fun r => c r * D r j)) * A i j) = s * sm n (fun j => x j * A i j) - sm (n - k) (fun r => c r * sm n (fun j => D r j * A i j)) := by
      have e1 : sm (n - k) (fun r => c r * sm n (fun j => D r j * A i j)) = sm n (fun j => sm (n - k) (fun r => c r * (D r j * A i j))) := by
        rw [← sm_swap]
        exact sm_congr (fun r _ => (sm_mul n (c r) _).symm)
      rw [e1, ← sm_mul, ← sm_sub]
      refine sm_congr (fun j _ => ?_)
      have e2 : sm (n - k) (fun r => c r * (D r j * A i j)) = A i j * sm (n - k) (fun r => c r * D r j) := by
        rw [← sm_mul]; exact sm_congr (fun r _ => by grind)
      rw [e2]; grind
    rw [e] at h1
    have h3 := dv_add h1 (sm_dvd (fun r hr => Int.dvd_mul_of_dvd_right ((hD.1 r hr).2.2.2.2 i hi)))
    exact hp.left hs h3
/-- what has product 0 with all of the dual is in the space -/
theorem og_og {n k : Nat} {A : Nat → Nat → Int} {pl : Nat → Nat} (h : rd 0 n k A pl) {D : Nat → Nat → Int} {dc : Nat → Nat} (hD : dD 0 n k A pl D dc) (x : Nat → Int) : og n (n - k) D x ↔ sp 0 n k A x := by
  constructor
  · intro hx
    obtain ⟨s, c, hs, hc⟩ := rd_elim dm0 x _ h
    refine ⟨s, c, hs, ?_⟩
    have hy : og n (n - k) D (fun j => s * x j - sm k (fun i => c i * A i j)) := dualV_0.mp (dualV_comb (dualV_0.mpr hx) (fun i hi => dualV_0.mpr (fun r hr => by
      have := Int.zero_dvd.mp ((hD.1 r hr).2.2.2.2 i hi)
      rw [← this]; exact sm_congr (fun j _ => Int.mul_comm _ _))))
    intro j hj
    by_cases hpl : ∃ i, i < k ∧ pl i = j
    · obtain ⟨i, hi, e⟩ := hpl
      rw [← e]; exact hc i hi
    · obtain ⟨r, hr, e⟩ := hD.2.2 j hj (fun i hi e => hpl ⟨i, hi, e⟩)
      have h1 := hy r hr
      obtain ⟨d1, d2, d3, d4, d5⟩ := hD.1 r hr
      rw [sm_one (f := fun j => (s * x j - sm k (fun i => c i * A i j)) * D r j) d1 (fun j' hj' hne => by
        by_cases h3 : ∃ i', i' < k ∧ pl i' = j'
        · obtain ⟨i', hi', e⟩ := h3
          show (s * x j' - sm k (fun i => c i * A i j')) * D r j' = 0
          rw [← e, Int.zero_dvd.mp (hc i' hi'), Int.zero_mul]
        · show (s * x j' - sm k (fun i => c i * A i j')) * D r j' = 0
          rw [Int.zero_dvd.mp (d4 j' hj' hne (fun i hi e => h3 ⟨i, hi, e⟩)), Int.mul_zero])] at h1
      rw [← e]
      rcases Int.mul_eq_zero.mp h1 with q | q
      · exact Int.zero_dvd.mpr q
      · exact absurd (Int.zero_dvd.mpr q) d3
  · intro hx r hr
    obtain ⟨s, c, hs, hc⟩ := sp0_of hx
    have e : s * sm n (fun j => x j * D r j) = 0 := by
      rw [← sm_mul]
      have e1 : sm n (fun j => s * (x j * D r j)) = sm n (fun j => sm k (fun i => c i * (A i j * D r j))) := sm_congr (fun j hj => by
        rw [← Int.mul_assoc, hc j hj, Int.mul_comm, ← sm_mul]
        exact sm_congr (fun i _ => by grind))
      rw [e1, sm_swap]
      refine sm_zero (fun i hi => ?_)
      rw [sm_mul]
      have := Int.zero_dvd.mp ((hD.1 r hr).2.2.2.2 i hi)
      have e2 : sm n (fun j => A i j * D r j) = 0 := by rw [← this]; exact sm_congr (fun j _ => Int.mul_comm _ _)
      rw [e2, Int.mul_zero]
    rcases Int.mul_eq_zero.mp e with q | q
    · exact absurd q hs
    · exact q
theorem og_congr {n k k' : Nat} {A B : Nat → Nat → Int} (h : ∀ i, i < k → sp 0 n k' B (A i)) {y : Nat → Int} (hy : og n k' B y) : og n k A y := by
  intro i hi
  obtain ⟨s, c, hs, hc⟩ := sp0_of (h i hi)
  have e : s * sm n (fun j => y j * A i j) = 0 := by
    rw [← sm_mul]
    have e1 : sm n (fun j => s * (y j * A i j)) = sm n (fun j => sm k' (fun r => c r * (y j * B r j))) := sm_congr (fun j hj => by
      have := hc j hj
      have e2 : s * (y j * A i j) = y j * (s * A i j) := by grind
      rw [e2, this, ← sm_mul]
      exact sm_congr (fun r _ => by grind))
    rw [e1, sm_swap]
    refine sm_zero (fun r hr => ?_)
    rw [sm_mul, hy r hr, Int.mul_zero]
  rcases Int.mul_eq_zero.mp e with q | q
  · exact absurd q hs
  · exact q
-- the columns that are no places
abbrev isPl (pl : Nat → Nat) (k c : Nat) : Prop := ∃ i, i < k ∧ pl i = c
def npc (pl : Nat → Nat) (k : Nat) : Nat → Nat
  | 0 => 0
  | c + 1 => npc pl k c + (if isPl pl k c then 0 else 1)
theorem npc_succ {pl : Nat → Nat} {k : Nat} (h : ∀ i, i < k → pl i ≠ pl k) : ∀ c, npc pl (k + 1) c + (if pl k < c then 1 else 0) = npc pl k c
  | 0 => by rw [if_neg (by omega)]; rfl
  | c + 1 => by
    have ih := npc_succ h c
    show npc pl (k + 1) c + (if isPl pl (k + 1) c then 0 else 1) + (if pl k < c + 1 then 1 else 0) = npc pl k c + (if isPl pl k c then 0 else 1)
    by_cases e : pl k = c
    · have h1 : isPl pl (k + 1) c := ⟨k, by omega, e⟩
      have h2 : ¬ isPl pl k c := fun ⟨i, hi, e2⟩ => h i hi (by rw [e2, e])
      rw [if_pos h1, if_neg h2, if_pos (by omega)]
      rw [if_neg (by omega)] at ih
      omega
    · have h1 : isPl pl (k + 1) c ↔ isPl pl k c := ⟨fun ⟨i, hi, e2⟩ => ⟨i, by
        rcases Nat.lt_or_ge i k with q | q
        · exact q
        · have : i = k := by omega
          exact absurd (this ▸ e2) e, e2⟩, fun ⟨i, hi, e2⟩ => ⟨i, by omega, e2⟩⟩
      by_cases h2 : isPl pl k c
      · rw [if_pos h2, if_pos (h1.mpr h2)]
        by_cases h3 : pl k < c
        · rw [if_pos (by omega)]; rw [if_pos h3] at ih; omega
        · rw [if_neg (by omega)]; rw [if_neg h3] at ih; omega
      · rw [if_neg h2, if_neg (fun q => h2 (h1.mp q))]
        by_cases h3 : pl k < c
        · rw [if_pos (by omega)]; rw [if_pos h3] at ih; omega
        · rw [if_neg (by omega)]; rw [if_neg h3] at ih; omega
theorem npc_n {pl : Nat → Nat} {n : Nat} : ∀ k, (∀ i, i < k → pl i < n) → (∀ i j, i < k → j < k → pl i = pl j → i = j) → npc pl k n + k = n
  | 0, _, _ => by
    have : ∀ c, npc pl 0 c = c := by
      intro c
      induction c with
      | zero => rfl
      | succ c ih =>
        show npc pl 0 c + (if isPl pl 0 c then 0 else 1) = c + 1
        rw [ih, if_neg (fun ⟨i, hi, _⟩ => by omega)]
    rw [this]; rfl
  | k + 1, h1, h2 => by
    have ih := npc_n k (fun i hi => h1 i (by omega)) (fun i j hi hj e => h2 i j (by omega) (by omega) e)
    have := npc_succ (pl := pl) (k := k) (fun i hi e => by have := h2 i k (by omega) (by omega) e; omega) n
    rw [if_pos (h1 k (by omega))] at this
    omega
theorem npc_mono (pl : Nat → Nat) (k : Nat) {a b : Nat} (h : a ≤ b) : npc pl k a ≤ npc pl k b := by
  induction b with
  | zero => rw [show a = 0 by omega]; exact Nat.le_refl _
  | succ b ih =>
    by_cases e : a = b + 1
    · rw [e]; exact Nat.le_refl _
    · have := ih (by omega)
      show _ ≤ npc pl k b + _
      omega
theorem npc_lt {pl : Nat → Nat} {k a b : Nat} (h : a < b) (hn : ¬ isPl pl k a) : npc pl k a < npc pl k b := by
  have : npc pl k (a + 1) ≤ npc pl k b := npc_mono pl k h
  have e : npc pl k (a + 1) = npc pl k a + (if isPl pl k a then 0 else 1) := rfl
  rw [if_neg hn] at e
  omega
theorem npc_inj {pl : Nat → Nat} {k a b : Nat} (ha : ¬ isPl pl k a) (hb : ¬ isPl pl k b) (e : npc pl k a = npc pl k b) : a = b := by
  rcases Nat.lt_trichotomy a b with h | h | h
  · have := npc_lt h ha; omega
  · exact h
  · have := npc_lt h hb; omega
def dcl (pl : Nat → Nat) (k : Nat) : Nat → Nat → Nat
  | 0, _ => 0
  | n + 1, r => if ¬ isPl pl k n ∧ npc pl k n = r then n else dcl pl k n r
theorem dcl_of {pl : Nat → Nat} {k r : Nat} : ∀ {n : Nat}, r < npc pl k n → dcl pl k n r < n ∧ ¬ isPl pl k (dcl pl k n r) ∧ npc pl k (dcl pl k n r) = r
  | 0, h => absurd h (Nat.not_lt_zero r)
  | n + 1, h => by
    show (if ¬ isPl pl k n ∧ npc pl k n = r then n else dcl pl k n r) < n + 1 ∧ ¬ isPl pl k (if ¬ isPl pl k n ∧ npc pl k n = r then n else dcl pl k n r) ∧ npc pl k (if ¬ isPl pl k n ∧ npc pl k n = r then n else dcl pl k n r) = r
    by_cases hn : ¬ isPl pl k n ∧ npc pl k n = r
    · rw [if_pos hn]; exact ⟨by omega, hn.1, hn.2⟩
    · rw [if_neg hn]
      have h1 : r < npc pl k n := by
        have e : npc pl k (n + 1) = npc pl k n + (if isPl pl k n then 0 else 1) := rfl
        by_cases hp : isPl pl k n
        · rw [if_pos hp] at e; omega
        · rw [if_neg hp] at e
          rcases Nat.lt_trichotomy r (npc pl k n) with q | q | q
          · exact q
          · exact absurd ⟨hp, q.symm⟩ hn
          · omega
      obtain ⟨a, b, c⟩ := dcl_of (n := n) h1
      exact ⟨by omega, b, c⟩
theorem dcl_npc {pl : Nat → Nat} {k n c : Nat} (hc : c < n) (hn : ¬ isPl pl k c) : dcl pl k n (npc pl k c) = c := by
  have h := dcl_of (npc_lt hc hn)
  exact npc_inj h.2.1 hn h.2.2
theorem dual_of {p : Int} {n k : Nat} {A : Nat → Nat → Int} {pl : Nat → Nat} (h : rd p n k A pl) {F : Nat → Int} {col : Nat} (hcol : col < n) (hnp : ∀ i, i < k → pl i ≠ col) (h0 : ∀ j, j < n → j ≠ col → (∀ i, i < k → pl i ≠ j) → p ∣ F j) {i : Nat} (hi : i < k) (he : p ∣ F (pl i) * A i (pl i) + F col * A i col) : p ∣ sm n (fun j => F j * A i j) := by
  have hpi := (h.1 i hi).1
  have e1 := sm_upd (n := n) (k := pl i) (v := 0) (f := fun j => F j * A i j) hpi
  have h1 : p ∣ sm n (fun j => if j = pl i then 0 else F j * A i j) - (if col = pl i then 0 else F col * A i col) := sm_dvd1 (f := fun j => if j = pl i then 0 else F j * A i j) hcol (fun j hj hne => by
    show p ∣ if j = pl i then 0 else F j * A i j
    by_cases e : j = pl i
    · rw [if_pos e]; exact Int.dvd_zero p
    · rw [if_neg e]
      by_cases h3 : ∃ i', i' < k ∧ pl i' = j
      · obtain ⟨i', hi', e'⟩ := h3
        rw [← e']
        exact Int.dvd_mul_of_dvd_right (h.2 i' i hi' hi (fun z => e (by rw [← e', z])))
      · exact Int.dvd_mul_of_dvd_left (h0 j hj hne (fun i' hi' e' => h3 ⟨i', hi', e'⟩)))
  rw [if_neg (fun q => hnp i hi q.symm)] at h1
  have h2 := Int.dvd_add h1 he
  rw [e1] at h2
  have e3 : sm n (fun j => F j * A i j) - F (pl i) * A i (pl i) + 0 - F col * A i col + (F (pl i) * A i (pl i) + F col * A i col) = sm n (fun j => F j * A i j) := by omega
  rwa [e3] at h2
theorem fdq_of {n k : Nat} {A : Nat → Nat → Int} {pl : Nat → Nat} (h : rd 0 n k A pl) (hpos : ∀ r, r < k → 0 < A r (pl r)) {col : Nat} (hcol : col < n) (hnp : ∀ i, i < k → pl i ≠ col) : ∀ r, r ≤ k → 0 < fdq A col pl n (fun _ => 0) r col ∧ (∀ j, j ≠ col → (∀ i, i < r → pl i ≠ j) → fdq A col pl n (fun _ => 0) r j = 0) ∧ (∀ i, i < r → fdq A col pl n (fun _ => 0) r (pl i) * A i (pl i) + fdq A col pl n (fun _ => 0) r col * A i col = 0) ∧ pm n (fdq A col pl n (fun _ => 0) r)
  | 0, _ => by
    have e0 : fdq A col pl n (fun _ => 0) 0 = va_up (fun _ => 0) col 1 := rfl
    rw [e0]
    refine ⟨by rw [va_up_self]; omega, fun j hj _ => by rw [va_up_ne _ _ hj], fun i hi => absurd hi (Nat.not_lt_zero i), fun d hd => ?_⟩
    have := hd col hcol
    rwa [va_up_self] at this
  | r + 1, hr => by
    obtain ⟨h1, h2, h3, h4⟩ := fdq_of h hpos hcol hnp r (by omega)
    have hrc : col ≠ pl r := fun e => hnp r (by omega) e.symm
    have hpr : ∀ i, i < r → pl i ≠ pl r := fun i hi e => by have := rd_inj h (show i < k by omega) (show r < k by omega) e; omega
    have hz : fdq A col pl n (fun _ => 0) r (pl r) = 0 := h2 (pl r) (Ne.symm hrc) hpr
    by_cases h0 : A r col = 0
    · have e : fdq A col pl n (fun _ => 0) (r + 1) = fdq A col pl n (fun _ => 0) r := by
        show (if A r col = 0 then _ else _) = _
        rw [if_pos h0]
      rw [e]
      refine ⟨h1, fun j hj hi => h2 j hj (fun i hi' => hi i (by omega)), fun i hi => ?_, h4⟩
      by_cases e2 : i = r
      · rw [e2, hz, h0]; simp
      · exact h3 i (by omega)
    · have e : fdq A col pl n (fun _ => 0) (r + 1) = fun j => ou (gd (bl (fdq A col pl n (fun _ => 0) r) (A r) col (pl r)) n) (bl (fdq A col pl n (fun _ => 0) r) (A r) col (pl r) j) := by
        show (if A r col = 0 then _ else _) = _
        rw [if_neg h0]
      rw [e]
      generalize fdq A col pl n (fun _ => 0) r = F at h1 h2 h3 h4 hz
      have hA := hpos r (by omega)
      have hub : ∀ j, j ≠ pl r → bl F (A r) col (pl r) j = F j * A r (pl r) := fun j hj => by unfold bl; rw [if_neg hj]
      have hup : bl F (A r) col (pl r) (pl r) = -(F col * A r col) := by unfold bl; rw [if_pos rfl]
      have huc : 0 < bl F (A r) col (pl r) col := by rw [hub col hrc]; exact Int.mul_pos h1 hA
      have hg := gd_ne hcol (show bl F (A r) col (pl r) col ≠ 0 by omega)
      have hou : ∀ j, j < n → bl F (A r) col (pl r) j = ((gd (bl F (A r) col (pl r)) n : Nat) : Int) * ou (gd (bl F (A r) col (pl r)) n) (bl F (A r) col (pl r) j) := fun j hj => ou_eq hj
      have hg0 : (0 : Int) < ((gd (bl F (A r) col (pl r)) n : Nat) : Int) := by omega
      have hpm := pm_ou hg
      refine ⟨?_, fun j hj hi => ?_, fun i hi => ?_, hpm⟩
      · rw [hou col hcol] at huc
        exact Int.pos_of_mul_pos_right huc hg0 |> fun q => q
      · show ou _ (bl F (A r) col (pl r) j) = 0
        rw [hub j (fun e => hi r (by omega) e.symm), h2 j hj (fun i hi' => hi i (by omega)), Int.zero_mul, ou_0]
      · show ou _ (bl F (A r) col (pl r) (pl i)) * A i (pl i) + ou _ (bl F (A r) col (pl r) col) * A i col = 0
        have a1 := hou (pl i) (h.1 i (by omega)).1
        have a2 := hou col hcol
        generalize gd (bl F (A r) col (pl r)) n = g at a1 a2 hg0
        have key : (g : Int) * (ou g (bl F (A r) col (pl r) (pl i)) * A i (pl i) + ou g (bl F (A r) col (pl r) col) * A i col) = 0 := by
          rw [Int.mul_add, ← Int.mul_assoc, ← Int.mul_assoc, ← a1, ← a2, hub col hrc]
          by_cases e2 : i = r
          · rw [e2, hup]; grind
          · rw [hub (pl i) (hpr i (by omega))]
            have := h3 i (by omega)
            have e3 : F (pl i) * A r (pl r) * A i (pl i) + F col * A r (pl r) * A i col = A r (pl r) * (F (pl i) * A i (pl i) + F col * A i col) := by grind
            rw [e3, this, Int.mul_zero]
        rcases Int.mul_eq_zero.mp key with q | q
        · omega
        · exact q
theorem fdq_le {n k : Nat} {A : Nat → Nat → Int} {pl : Nat → Nat} (h : rd 0 n k A pl) (hpos : ∀ r, r < k → 0 < A r (pl r)) {col : Nat} (hcol : col < n) (hnp : ∀ i, i < k → pl i ≠ col) {r : Nat} (hr : r < k) {j : Nat} (hj : j < n) : (fdq A col pl n (fun _ => 0) r j).natAbs ≤ (fdq A col pl n (fun _ => 0) (r + 1) j).natAbs := by
  obtain ⟨h1, h2, h3, h4⟩ := fdq_of h hpos hcol hnp r (by omega)
  have hrc : col ≠ pl r := fun e => hnp r (by omega) e.symm
  have hpr : ∀ i, i < r → pl i ≠ pl r := fun i hi e => by have := rd_inj h (show i < k by omega) (show r < k by omega) e; omega
  have hz : fdq A col pl n (fun _ => 0) r (pl r) = 0 := h2 (pl r) (Ne.symm hrc) hpr
  by_cases h0 : A r col = 0
  · have e : fdq A col pl n (fun _ => 0) (r + 1) = fdq A col pl n (fun _ => 0) r := by
      show (if A r col = 0 then _ else _) = _
      rw [if_pos h0]
    rw [e]; exact Nat.le_refl _
  · have e : fdq A col pl n (fun _ => 0) (r + 1) = fun j => ou (gd (bl (fdq A col pl n (fun _ => 0) r) (A r) col (pl r)) n) (bl (fdq A col pl n (fun _ => 0) r) (A r) col (pl r) j) := by
      show (if A r col = 0 then _ else _) = _
      rw [if_neg h0]
    rw [e]
    generalize fdq A col pl n (fun _ => 0) r = F at h1 h2 h3 h4 hz
    by_cases hjr : j = pl r
    · rw [hjr, hz]; exact Nat.zero_le _
    have hA := hpos r (by omega)
    have hub : ∀ j, j ≠ pl r → bl F (A r) col (pl r) j = F j * A r (pl r) := fun j hj => by unfold bl; rw [if_neg hj]
    have huc : 0 < bl F (A r) col (pl r) col := by rw [hub col hrc]; exact Int.mul_pos h1 hA
    have hg := gd_ne hcol (show bl F (A r) col (pl r) col ≠ 0 by omega)
    have hou : ∀ j, j < n → bl F (A r) col (pl r) j = ((gd (bl F (A r) col (pl r)) n : Nat) : Int) * ou (gd (bl F (A r) col (pl r)) n) (bl F (A r) col (pl r) j) := fun j hj => ou_eq hj
    have hg0 : (0 : Int) < ((gd (bl F (A r) col (pl r)) n : Nat) : Int) := by omega
    obtain ⟨a, ha, he⟩ := sc_dvd (n := n) (t := fun j => if j = pl r then 0 else ou (gd (bl F (A r) col (pl r)) n) (bl F (A r) col (pl r) j)) hg0 hA h4 (fun j hj => by
      show _ * (if j = pl r then (0 : Int) else _) = _
      by_cases e2 : j = pl r
      · rw [if_pos e2, e2, hz]; simp
      · rw [if_neg e2, ← hou j hj, hub j e2, Int.mul_comm])
    have h5 := he j hj
    rw [if_neg hjr] at h5
    show _ ≤ (ou (gd (bl F (A r) col (pl r)) n) (bl F (A r) col (pl r) j)).natAbs
    rw [h5, Int.natAbs_mul]
    exact Nat.le_mul_of_pos_left _ (by omega)
theorem fdq_le2 {n k : Nat} {A : Nat → Nat → Int} {pl : Nat → Nat} (h : rd 0 n k A pl) (hpos : ∀ r, r < k → 0 < A r (pl r)) {col : Nat} (hcol : col < n) (hnp : ∀ i, i < k → pl i ≠ col) {j : Nat} (hj : j < n) : ∀ d r, r + d = k → (fdq A col pl n (fun _ => 0) r j).natAbs ≤ (fdq A col pl n (fun _ => 0) k j).natAbs
  | 0, r, e => by rw [show r = k by omega]; exact Nat.le_refl _
  | d + 1, r, e => Nat.le_trans (fdq_le h hpos hcol hnp (by omega) hj) (fdq_le2 h hpos hcol hnp hj d (r + 1) (by omega))
theorem fdp_of {n k q : Nat} {A : Nat → Nat → Int} {pl : Nat → Nat} (h : rd q n k A pl) (hq : 2 ≤ q) {col : Nat} (hnp : ∀ i, i < k → pl i ≠ col) : ∀ r, r ≤ k → fdp A col pl q (fun _ => 0) r col = 1 ∧ (∀ j, j ≠ col → (∀ i, i < r → pl i ≠ j) → fdp A col pl q (fun _ => 0) r j = 0) ∧ (∀ i, i < r → fdp A col pl q (fun _ => 0) r (pl i) = (-A i col) % q) ∧ ∀ j, rsd q (fdp A col pl q (fun _ => 0) r j)
  | 0, _ => by
    have e0 : fdp A col pl q (fun _ => 0) 0 = va_up (fun _ => 0) col 1 := rfl
    rw [e0]
    refine ⟨by rw [va_up_self], fun j hj _ => by rw [va_up_ne _ _ hj], fun i hi => absurd hi (Nat.not_lt_zero i), fun j => ?_⟩
    by_cases e : j = col
    · rw [e, va_up_self]; exact ⟨by omega, by omega⟩
    · rw [va_up_ne _ _ e]; exact ⟨by omega, by omega⟩
  | r + 1, hr => by
    obtain ⟨h1, h2, h3, h4⟩ := fdp_of h hq hnp r (by omega)
    have hrc : col ≠ pl r := fun e => hnp r (by omega) e.symm
    have hpr : ∀ i, i < r → pl i ≠ pl r := fun i hi e => by have := rd_inj h (show i < k by omega) (show r < k by omega) e; omega
    have e : fdp A col pl q (fun _ => 0) (r + 1) = va_up (fdp A col pl q (fun _ => 0) r) (pl r) ((-A r col) % q) := rfl
    rw [e]
    refine ⟨by rw [va_up_ne _ _ hrc]; exact h1, fun j hj hi => ?_, fun i hi => ?_, fun j => ?_⟩
    · rw [va_up_ne _ _ (fun e => hi r (by omega) e.symm)]; exact h2 j hj (fun i hi' => hi i (by omega))
    · by_cases e2 : i = r
      · rw [e2, va_up_self]
      · rw [va_up_ne _ _ (hpr i (by omega))]; exact h3 i (by omega)
    · by_cases e2 : j = pl r
      · rw [e2, va_up_self]; exact ⟨Int.emod_nonneg _ (by omega), Int.emod_lt_of_pos _ (by omega)⟩
      · rw [va_up_ne _ _ e2]; exact h4 j
theorem npc_rd {p : Int} {n k : Nat} {A : Nat → Nat → Int} {pl : Nat → Nat} (h : rd p n k A pl) : npc pl k n = n - k := by
  have := npc_n k (fun i hi => (h.1 i hi).1) (fun i j hi hj e => rd_inj h hi hj e)
  omega
theorem dcl_ok {p : Int} {n k : Nat} {A : Nat → Nat → Int} {pl : Nat → Nat} (h : rd p n k A pl) : (∀ r, r < n - k → dcl pl k n r < n ∧ ∀ i, i < k → pl i ≠ dcl pl k n r) ∧ (∀ r r', r < n - k → r' < n - k → dcl pl k n r = dcl pl k n r' → r = r') ∧ ∀ j, j < n → (∀ i, i < k → pl i ≠ j) → ∃ r, r < n - k ∧ dcl pl k n r = j := by
  have e := npc_rd h
  refine ⟨fun r hr => ?_, fun r r' hr hr' h1 => ?_, fun j hj hn => ?_⟩
  · obtain ⟨a, b, c⟩ := dcl_of (pl := pl) (k := k) (n := n) (r := r) (by omega)
    exact ⟨a, fun i hi e => b ⟨i, hi, e⟩⟩
  · have a := (dcl_of (pl := pl) (k := k) (n := n) (r := r) (by omega)).2.2
    have b := (dcl_of (pl := pl) (k := k) (n := n) (r := r') (by omega)).2.2
    rw [← a, ← b, h1]
  · have hp : ¬ isPl pl k j := fun ⟨i, hi, e⟩ => hn i hi e
    exact ⟨npc pl k j, by have := npc_lt hj hp; omega, dcl_npc hj hp⟩
/-- the dual's rows, before they are reduced -/
def dRow (q n k : Nat) (A : Nat → Nat → Int) (pl : Nat → Nat) (col : Nat) : Nat → Int := if q = 0 then fdq A col pl n (fun _ => 0) k else fdp A col pl q (fun _ => 0) k
theorem dD_of {q n k : Nat} {A : Nat → Nat → Int} {pl : Nat → Nat} (hq : q = 0 ∨ prm q) (h : rd q n k A pl) (ht : ∀ r, r < k → tl q n (A r) (pl r)) : dD q n k A pl (fun r => dRow q n k A pl (dcl pl k n r)) (dcl pl k n) := by
  obtain ⟨h1, h2, h3⟩ := dcl_ok h
  refine ⟨fun r hr => ?_, h2, h3⟩
  obtain ⟨hc, hn⟩ := h1 r hr
  rcases hq with h0 | hp
  · subst h0
    have hpos : ∀ r, r < k → 0 < A r (pl r) := fun r hr => by
      have := ht r hr
      unfold tl at this
      rw [if_pos (show ((0 : Nat) : Int) = 0 from rfl)] at this
      exact this.2
    obtain ⟨a1, a2, a3, a4⟩ := fdq_of h hpos hc hn k (Nat.le_refl _)
    have e : dRow 0 n k A pl (dcl pl k n r) = fdq A (dcl pl k n r) pl n (fun _ => 0) k := by unfold dRow; rw [if_pos rfl]
    show _ ∧ _ ∧ ¬ _ ∣ dRow 0 n k A pl (dcl pl k n r) _ ∧ (∀ j, _ → _ → _ → _ ∣ dRow 0 n k A pl (dcl pl k n r) j) ∧ dualV _ n k A (dRow 0 n k A pl (dcl pl k n r))
    rw [e]
    refine ⟨hc, hn, nd0 (by omega), fun j _ hj hi => Int.zero_dvd.mpr (a2 j hj hi), fun i hi => ?_⟩
    exact dual_of h hc hn (fun j _ hj hi => Int.zero_dvd.mpr (a2 j hj hi)) hi (Int.zero_dvd.mpr (a3 i hi))
  · have hq2 := hp.1
    obtain ⟨a1, a2, a3, a4⟩ := fdp_of h hq2 hn k (Nat.le_refl _)
    have e : dRow q n k A pl (dcl pl k n r) = fdp A (dcl pl k n r) pl q (fun _ => 0) k := by unfold dRow; rw [if_neg (by omega)]
    show _ ∧ _ ∧ ¬ _ ∣ dRow q n k A pl (dcl pl k n r) _ ∧ (∀ j, _ → _ → _ → _ ∣ dRow q n k A pl (dcl pl k n r) j) ∧ dualV _ n k A (dRow q n k A pl (dcl pl k n r))
    rw [e]
    refine ⟨hc, hn, by rw [a1]; exact (dmP hp).1, fun j _ hj hi => by rw [a2 j hj hi]; exact Int.dvd_zero _, fun i hi => ?_⟩
    refine dual_of h hc hn (fun j _ hj hi => by rw [a2 j hj hi]; exact Int.dvd_zero _) hi ?_
    have := ht i hi
    unfold tl at this
    rw [if_neg (by omega)] at this
    rw [this.1, a1, a3 i hi, Int.mul_one, Int.one_mul]
    have := dv_emod (-A i (dcl pl k n r)) q
    rwa [Int.sub_neg] at this
/-- the dual's rows are a reduced table of the dual -/
theorem du_gh {n k : Nat} {A : Nat → Nat → Int} {pl : Nat → Nat} (h : rd 0 n k A pl) (ht : ∀ r, r < k → tl 0 n (A r) (pl r)) : gh n (n - k) (og n k A) (fun r => dRow 0 n k A pl (dcl pl k n r)) (dcl pl k n) := by
  have hD := dD_of (q := 0) (Or.inl rfl) h ht
  have hpos : ∀ r, r < k → 0 < A r (pl r) := fun r hr => by
    have := ht r hr
    unfold tl at this
    rw [if_pos rfl] at this
    exact this.2
  refine ⟨dD_rd hD, fun r hr => ?_, fun r hr => dualV_0.mp (hD.1 r hr).2.2.2.2, fun x hx => (dual_sp dm0 h hD x).mp (dualV_0.mpr hx)⟩
  obtain ⟨hc, hn, -⟩ := hD.1 r hr
  obtain ⟨a1, a2, a3, a4⟩ := fdq_of h hpos hc hn k (Nat.le_refl _)
  have e : dRow 0 n k A pl (dcl pl k n r) = fdq A (dcl pl k n r) pl n (fun _ => 0) k := by unfold dRow; rw [if_pos rfl]
  show pm n (dRow 0 n k A pl (dcl pl k n r)) ∧ 0 < dRow 0 n k A pl (dcl pl k n r) _
  rw [e]
  exact ⟨a4, a1⟩
theorem fdq_bd {n k : Nat} {A : Nat → Nat → Int} {pl : Nat → Nat} (h : rd 0 n k A pl) (ht : ∀ r, r < k → tl 0 n (A r) (pl r)) (hs : sml n (og n k A)) {col : Nat} (hcol : col < n) (hnp : ∀ i, i < k → pl i ≠ col) {r j : Nat} (hr : r ≤ k) (hj : j < n) : (fdq A col pl n (fun _ => 0) r j).natAbs ≤ NB := by
  have hpos : ∀ r, r < k → 0 < A r (pl r) := fun r hr => by
    have := ht r hr
    unfold tl at this
    rw [if_pos rfl] at this
    exact this.2
  refine Nat.le_trans (fdq_le2 h hpos hcol hnp hj (k - r) r (by omega)) ?_
  obtain ⟨r', hr', e⟩ := (dcl_ok h).2.2 col hcol hnp
  have := gh_bd (du_gh h ht) hs hr' j hj
  have e2 : dRow 0 n k A pl (dcl pl k n r') = fdq A (dcl pl k n r') pl n (fun _ => 0) k := by unfold dRow; rw [if_pos rfl]
  rw [e] at e2
  have e3 : (dRow 0 n k A pl (dcl pl k n r') j).natAbs ≤ NB := this
  rwa [e, e2] at e3
-- turning
theorem rd_turn {p : Int} (hp : dm p) {n k : Nat} {A B : Nat → Nat → Int} {pl : Nat → Nat} {r c : Nat} (h : rd p n k A pl) (hr : r < k) (hc : c < n) (hne : ¬ p ∣ A r c) (hv : pvd p n k A r c B) : rd p n k B (va_up pl r c) := by
  refine ⟨fun q hq => ?_, fun r0 q hr0 hq hqr => ?_⟩
  · by_cases e : q = r
    · rw [e, va_up_self]; exact ⟨hc, pvd_r1 hp hv hc hne⟩
    · rw [va_up_ne _ _ e]; exact ⟨(h.1 q hq).1, pvd_i1 hp hv hq e (h.1 q hq).1 (h.1 q hq).2 (h.2 q r hq hr (Ne.symm e))⟩
  · by_cases e : r0 = r
    · rw [e, va_up_self]; exact (hv.2 q hq (fun z => hqr (by rw [z, e]))).1
    · rw [va_up_ne _ _ e]
      by_cases e2 : q = r
      · rw [e2]; exact pvd_r0 hp hv (h.1 r0 hr0).1 (h.2 r0 r hr0 hr (Ne.symm e))
      · exact pvd_i0 hp hv hq e2 (h.1 r0 hr0).1 (h.2 r0 q hr0 hq hqr) (h.2 r0 r hr0 hr (Ne.symm e))
theorem gh_self {n k : Nat} {A : Nat → Nat → Int} {pl : Nat → Nat} (h : rd 0 n k A pl) (ht : ∀ r, r < k → tl 0 n (A r) (pl r)) : gh n k (sp 0 n k A) A pl := ⟨h, fun r hr => by
  have := ht r hr
  unfold tl at this
  rw [if_pos rfl] at this
  exact this, fun r hr => sp_row dm0 hr, fun x hx => hx⟩
theorem rcl_self {n k : Nat} {A : Nat → Nat → Int} : rcl n k A A := fun i _ => ⟨1, by omega, fun j _ => by rw [Int.one_mul]⟩
/-- y is x with its row r turned to column c -/
def TRN (x : Tb) (r c : Nat) (y : Tb) : Prop := y.q = x.q ∧ y.rows = x.rows ∧ y.cols = x.cols ∧ y.red = true ∧ y.pl = va_up x.pl r c ∧ rd x.q x.cols x.rows y.A y.pl ∧ (∀ i, i < x.rows → tl x.q x.cols (y.A i) (y.pl i)) ∧ sps x.q x.cols x.rows x.A y.A
theorem TRN_un {x y y' : Tb} {r c : Nat} (hq : x.q = 0 ∨ prm x.q) (h : TRN x r c y) (h' : TRN x r c y') : teq y y' := by
  obtain ⟨a1, a2, a3, a4, a5, a6, a7, a8⟩ := h
  obtain ⟨b1, b2, b3, b4, b5, b6, b7, b8⟩ := h'
  refine ⟨a1.trans b1.symm, a2.trans b2.symm, a3.trans b3.symm, a4.trans b4.symm, fun i j hi hj => ?_, fun _ i _ => by rw [a5, b5]⟩
  rw [a2] at hi
  rw [a3] at hj
  have hp := dmX hq
  refine rd_eq hp (by omega) a6 (by rw [a5, ← b5]; exact b6) (fun r hr => ?_) a7 (fun r hr => by rw [a5, ← b5]; exact b7 r hr) i j hi hj
  exact sp_trans hp (b8.1 r hr) (fun i hi => a8.2 i hi)
/-- what turning makes of a good table -/
theorem turn_ok {x : Tb} (hok : okT x) (hred : x.red = true) {r c : Nat} (hr : r < x.rows) (hc : c < x.cols) (hne : x.A r c ≠ 0) : pvok x.q x.A x.rows x.cols r c ∧ ∀ B, pvr x.q x.A x.rows x.cols r c B → TRN x r c (mkT x.q x.rows x.cols true B (va_up x.pl r c)) := by
  obtain ⟨hq, h251, hrw, hcl, -, hR⟩ := hok
  obtain ⟨hrd, htl, hsm⟩ := hR hred
  have hp := dmX hq
  by_cases h0 : x.q = 0
  · have hrd0 : rd 0 x.cols x.rows x.A x.pl := by rw [h0] at hrd; exact hrd
    have htl0 : ∀ r, r < x.rows → tl 0 x.cols (x.A r) (x.pl r) := fun r hr => by have := htl r hr; rw [h0] at this; exact this
    have hg := gh_self hrd0 htl0
    have hl := lin_sp x.cols x.rows x.A
    have hs := smC_of (Nat.le_refl _) hl (hsm h0).1
    have hb0 : ∀ i j, i < x.rows → j < x.cols → (x.A i j).natAbs ≤ NB := fun i j hi hj => gh_bd hg (hsm h0).1 hi j hj
    have hB := pvq_bd hl (Nat.le_refl _) hs hg rcl_self hr hc hne hb0
    refine ⟨⟨hne, fun _ i j hi hj => NB_lt (hB i j hi hj), fun z => absurd h0 z⟩, fun B hB => ?_⟩
    rcases hB with ⟨-, e⟩ | ⟨z, -⟩
    · have hg' := gh_turn hl hg hr hc hne
      have hvd := pvd_q (k := x.rows) hc hne
      refine ⟨rfl, rfl, rfl, rfl, rfl, ?_, fun i hi => ?_, ?_⟩
      · show rd x.q x.cols x.rows B (va_up x.pl r c)
        rw [e, h0]; exact hg'.1
      · show tl x.q x.cols (B i) (va_up x.pl r c i)
        rw [e, h0]; unfold tl; rw [if_pos (show ((0 : Nat) : Int) = 0 from rfl)]; exact hg'.2.1 i hi
      · show sps x.q x.cols x.rows x.A B
        rw [e, h0]; exact sps_step dm0 (sps_rf dm0) hr hvd
    · exact absurd h0 z
  · have hpr : prm x.q := hq.resolve_left h0
    have h2 := hpr.1
    have hres : ∀ i j, i < x.rows → j < x.cols → rsd x.q (x.A i j) := fun i j hi hj => by
      have := htl i hi
      unfold tl at this
      rw [if_neg (by omega)] at this
      exact this.2 j hj
    refine ⟨⟨hne, fun z => absurd z h0, fun _ => ⟨h251, hres, inv_ex hpr (hres r c hr hc) hne⟩⟩, fun B hB => ?_⟩
    rcases hB with ⟨z, -⟩ | ⟨-, y, y1, y2, y3, e⟩
    · exact absurd z h0
    · have hvd := pvd_p (n := x.cols) (k := x.rows) hc y1 y2 y3 hp.1
      have hnd := rsd_nd (hres r c hr hc) hne
      refine ⟨rfl, rfl, rfl, rfl, rfl, ?_, fun i hi => ?_, ?_⟩
      · show rd x.q x.cols x.rows B (va_up x.pl r c)
        rw [e]; exact rd_turn hp hrd hr hc hnd hvd
      · show tl x.q x.cols (B i) (va_up x.pl r c i)
        unfold tl
        rw [if_neg (by omega), e]
        refine ⟨?_, fun j hj => pvp_res _ (by omega) hres i j hi hj⟩
        by_cases ei : i = r
        · rw [ei, va_up_self, pvp_row]; exact y3
        · rw [va_up_ne _ _ ei]
          have t1 : x.A i (x.pl i) = 1 := by
            have := htl i hi
            unfold tl at this
            rw [if_neg (by omega)] at this
            exact this.1
          have hpi := (hrd.1 i hi).1
          by_cases hz : x.A i c = 0
          · have q2 : pvp x.A x.q y r c x.rows i = x.A i := by unfold pvp; rw [if_neg ei, if_pos hi, if_pos hz]
            rw [q2]; exact t1
          · have q2 : pvp x.A x.q y r c x.rows i = fun j => (x.A i j - x.A i c * ((y * x.A r j) % x.q)) % x.q := by unfold pvp; rw [if_neg ei, if_pos hi, if_neg hz]
            rw [q2]
            show (x.A i (x.pl i) - x.A i c * ((y * x.A r (x.pl i)) % x.q)) % x.q = 1
            rw [rsd_0 (hres r (x.pl i) hr hpi) (hrd.2 i r hi hr (Ne.symm ei)), t1, Int.mul_zero, Int.zero_emod, Int.mul_zero, Int.sub_zero]
            exact Int.emod_eq_of_lt (by omega) (by omega)
      · show sps x.q x.cols x.rows x.A B
        rw [e]; exact sps_step hp (sps_rf hp) hr hvd
theorem TRN_ok {x y : Tb} {r c : Nat} (hok : okT x) (hred : x.red = true) (h : TRN x r c y) : okT y := by
  obtain ⟨a1, a2, a3, a4, a5, a6, a7, a8⟩ := h
  obtain ⟨hq, h251, hrw, hcl, -, hR⟩ := hok
  refine ⟨by rw [a1]; exact hq, by rw [a1]; exact h251, by rw [a2]; exact hrw, by rw [a3]; exact hcl, fun z => absurd (a4.symm.trans z) (by decide), fun _ => ?_⟩
  rw [a1, a2, a3]
  refine ⟨a6, a7, fun h0 => ?_⟩
  obtain ⟨s1, s2⟩ := (hR hred).2.2 h0
  rw [h0] at a8
  exact ⟨sml_iff (sps_iff dm0 a8) s1, sml_iff (fun z => ⟨fun hz => og_congr a8.1 hz, fun hz => og_congr a8.2 hz⟩) s2⟩
-- what a sweep leaves is a good table
def ogV (n : Nat) (V : (Nat → Int) → Prop) (z : Nat → Int) : Prop := ∀ x, V x → sm n (fun j => z j * x j) = 0
theorem ogV_sp {n k : Nat} {V : (Nat → Int) → Prop} {A : Nat → Nat → Int} (h : ∀ x, V x ↔ sp 0 n k A x) (z : Nat → Int) : ogV n V z ↔ og n k A z := by
  constructor
  · intro hz i hi
    exact hz _ ((h _).mpr (sp_row dm0 hi))
  · intro hz x hx
    have := og_congr (k := 1) (A := fun _ => x) (B := A) (k' := k) (fun i _ => (h x).mp hx) hz
    exact this 0 (by omega)
theorem LRT_ok {q n : Nat} {V : (Nat → Int) → Prop} {y : Tb} (hq : q = 0 ∨ prm q) (h251 : q ≤ 251) (hn : n ≤ 12) (h : LRT q n V y) (hs : q = 0 → sml n V ∧ sml n (ogV n V)) : okT y := by
  obtain ⟨e1, e2, e3, h1, h2, h3, h4⟩ := h
  have := rd_le h1
  refine ⟨by rw [e1]; exact hq, by rw [e1]; exact h251, by omega, by omega, fun z => absurd (e3.symm.trans z) (by decide), fun _ => ?_⟩
  rw [e1, e2]
  refine ⟨h1, h3, fun h0 => ?_⟩
  obtain ⟨s1, s2⟩ := hs h0
  rw [h0] at h4
  exact ⟨sml_iff h4 s1, sml_iff (ogV_sp h4) s2⟩
theorem reduce_ok {x y : Tb} (hok : okT x) (hred : x.red = false) (h : LRT x.q x.cols (sp x.q x.cols x.rows x.A) y) : okT y := by
  obtain ⟨hq, h251, hrw, hcl, hL, -⟩ := hok
  refine LRT_ok hq h251 hcl h (fun h0 => ?_)
  have hA : ∀ i j, i < x.rows → j < x.cols → (x.A i j).natAbs ≤ 999 := fun i j hi hj => (hL hred i j hi hj).1 h0
  rw [h0]
  exact ⟨sml_sp hcl _ _ hA, sml_iff (fun z => (ogV_sp (fun x => Iff.rfl) z).symm) (sml_og hcl hA)⟩
theorem dual_ok {x y : Tb} (hok : okT x) (hred : x.red = true) (h : LRT x.q x.cols (dualV x.q x.cols x.rows x.A) y) : okT y := by
  obtain ⟨hq, h251, hrw, hcl, -, hR⟩ := hok
  obtain ⟨hrd, htl, hsm⟩ := hR hred
  refine LRT_ok hq h251 hcl h (fun h0 => ?_)
  obtain ⟨s1, s2⟩ := hsm h0
  have hD := dD_of hq hrd htl
  rw [h0] at hrd htl hD ⊢
  have hS := dual_sp dm0 hrd hD
  exact ⟨sml_iff (fun z => dualV_0.symm) s2, sml_iff (fun z => ((ogV_sp hS z).trans (og_og hrd hD z)).symm) s1⟩
-- where the sweeps of reduce and dual begin
theorem pr_0 {p : Int} {n k : Nat} {bs : Nat → Prop} {A : Nat → Nat → Int} {pl : Nat → Nat} : pr p n k bs 0 0 A pl := ⟨Nat.zero_le _, fun i hi => absurd hi (Nat.not_lt_zero i), fun i _ hi => absurd hi (Nat.not_lt_zero i), fun _ j _ _ hj => absurd hj (Nat.not_lt_zero j), fun _ i _ hi => absurd hi (Nat.not_lt_zero i), fun i _ hi => absurd hi (Nat.not_lt_zero i)⟩
theorem invQ_0 {N n k : Nat} {V : (Nat → Int) → Prop} {bs : Nat → Prop} {A T : Nat → Nat → Int} {ph pl : Nat → Nat} (hg : gh N k V T ph) (hr : rcl n k T A) (hb : ∀ i j, i < k → j < n → (A i j).natAbs ≤ NB) : invQ N n k V bs A 0 0 A pl := ⟨⟨T, ph, hg, hr⟩, pr_0, sps_rf dm0, fun i hi => absurd hi (Nat.not_lt_zero i), hb⟩
theorem invP_0 {q n k : Nat} {bs : Nat → Prop} {A : Nat → Nat → Int} {pl : Nat → Nat} (hq : prm q) (hb : ∀ i j, i < k → j < n → rsd q (A i j)) : invP q n k bs A 0 0 A pl := ⟨pr_0, sps_rf (dmP hq), hb, fun i hi => absurd hi (Nat.not_lt_zero i)⟩
theorem red_start {x : Tb} (hok : okT x) (hred : x.red = false) (pl : Nat → Nat) (bs : Nat) : ∃ N V, okX x.q N x.cols V ∧ invX x.q N x.cols x.rows V (bsS bs) x.A 0 0 x.A pl := by
  obtain ⟨hq, h251, hrw, hcl, hL, -⟩ := hok
  by_cases h0 : x.q = 0
  · have hA : ∀ i j, i < x.rows → j < x.cols → (x.A i j).natAbs ≤ 999 := fun i j hi hj => (hL hred i j hi hj).1 h0
    refine ⟨x.cols + x.rows, lV x.cols x.rows x.A, ⟨fun _ => ⟨lin_og _ _ _, by omega, l_smC hcl hA⟩, fun z => absurd h0 z⟩, Or.inl ⟨h0, invQ_0 l_gh l_rcl (fun i j hi hj => Nat.le_trans (hA i j hi hj) (by decide +kernel))⟩⟩
  · have hp := hq.resolve_left h0
    exact ⟨0, fun _ => True, ⟨fun z => absurd z h0, fun _ => ⟨hp, h251⟩⟩, Or.inr ⟨h0, invP_0 hp (fun i j hi hj => (hL hred i j hi hj).2 h0)⟩⟩
theorem dual_start {x : Tb} (hok : okT x) (hred : x.red = true) (pl : Nat → Nat) (bs : Nat) : ∃ N V, okX x.q N x.cols V ∧ invX x.q N x.cols (x.cols - x.rows) V (bsS bs) (fun r => dRow x.q x.cols x.rows x.A x.pl (dcl x.pl x.rows x.cols r)) 0 0 (fun r => dRow x.q x.cols x.rows x.A x.pl (dcl x.pl x.rows x.cols r)) pl := by
  obtain ⟨hq, h251, hrw, hcl, -, hR⟩ := hok
  obtain ⟨hrd, htl, hsm⟩ := hR hred
  by_cases h0 : x.q = 0
  · obtain ⟨s1, s2⟩ := hsm h0
    rw [h0] at hrd htl ⊢
    have hg := du_gh hrd htl
    refine ⟨x.cols, og x.cols x.rows x.A, ⟨fun _ => ⟨lin_og _ _ _, Nat.le_refl _, smC_of (Nat.le_refl _) (lin_og _ _ _) s2⟩, fun z => absurd rfl z⟩, Or.inl ⟨rfl, invQ_0 hg rcl_self (fun i j hi hj => gh_bd hg s2 hi j hj)⟩⟩
  · have hp := hq.resolve_left h0
    refine ⟨0, fun _ => True, ⟨fun z => absurd z h0, fun _ => ⟨hp, h251⟩⟩, Or.inr ⟨h0, invP_0 hp (fun i j hi hj => ?_)⟩⟩
    have e : dRow x.q x.cols x.rows x.A x.pl (dcl x.pl x.rows x.cols i) = fdp x.A (dcl x.pl x.rows x.cols i) x.pl x.q (fun _ => 0) x.rows := by unfold dRow; rw [if_neg h0]
    show rsd x.q (dRow x.q x.cols x.rows x.A x.pl (dcl x.pl x.rows x.cols i) j)
    rw [e]
    exact (fdp_of hrd hp.1 ((dcl_ok hrd).1 i hi).2 x.rows (Nat.le_refl _)).2.2.2 j
-- the sum
def sumV (p : Int) (n1 k1 : Nat) (A1 : Nat → Nat → Int) (n2 k2 : Nat) (A2 : Nat → Nat → Int) (x : Nat → Int) : Prop := sp p n1 k1 A1 x ∧ sp p n2 k2 A2 (fun j => x (n1 + j))
def blk (n1 k1 : Nat) (A1 A2 : Nat → Nat → Int) (i j : Nat) : Int := if i < k1 then (if j < n1 then A1 i j else 0) else (if j < n1 then 0 else A2 (i - k1) (j - n1))
theorem blk11 {n1 k1 : Nat} {A1 A2 : Nat → Nat → Int} {i j : Nat} (hi : i < k1) (hj : j < n1) : blk n1 k1 A1 A2 i j = A1 i j := by unfold blk; rw [if_pos hi, if_pos hj]
theorem blk12 {n1 k1 : Nat} {A1 A2 : Nat → Nat → Int} {i j : Nat} (hi : i < k1) : blk n1 k1 A1 A2 i (n1 + j) = 0 := by unfold blk; rw [if_pos hi, if_neg (by omega)]
theorem blk21 {n1 k1 : Nat} {A1 A2 : Nat → Nat → Int} {i j : Nat} (hj : j < n1) : blk n1 k1 A1 A2 (k1 + i) j = 0 := by unfold blk; rw [if_neg (by omega), if_pos hj]
theorem blk22 {n1 k1 : Nat} {A1 A2 : Nat → Nat → Int} {i j : Nat} : blk n1 k1 A1 A2 (k1 + i) (n1 + j) = A2 i j := by unfold blk; rw [if_neg (by omega), if_neg (by omega), Nat.add_sub_cancel_left, Nat.add_sub_cancel_left]
def bpl (n1 k1 : Nat) (p1 p2 : Nat → Nat) (i : Nat) : Nat := if i < k1 then p1 i else n1 + p2 (i - k1)
theorem bpl1 {n1 k1 : Nat} {p1 p2 : Nat → Nat} {i : Nat} (hi : i < k1) : bpl n1 k1 p1 p2 i = p1 i := by unfold bpl; rw [if_pos hi]
theorem bpl2 {n1 k1 : Nat} {p1 p2 : Nat → Nat} {i : Nat} : bpl n1 k1 p1 p2 (k1 + i) = n1 + p2 i := by unfold bpl; rw [if_neg (by omega), Nat.add_sub_cancel_left]
theorem two {k1 k2 : Nat} {P : Nat → Prop} (h1 : ∀ i, i < k1 → P i) (h2 : ∀ i, i < k2 → P (k1 + i)) : ∀ i, i < k1 + k2 → P i := fun i hi => by
  by_cases h : i < k1
  · exact h1 i h
  · have := h2 (i - k1) (by omega)
    rwa [show k1 + (i - k1) = i by omega] at this
theorem sum_sp {p : Int} (hp : dm p) {n1 k1 n2 k2 : Nat} {A1 A2 : Nat → Nat → Int} (x : Nat → Int) : sumV p n1 k1 A1 n2 k2 A2 x ↔ sp p (n1 + n2) (k1 + k2) (blk n1 k1 A1 A2) x := by
  have e1 : ∀ (c : Nat → Int) j, j < n1 → sm (k1 + k2) (fun i => c i * blk n1 k1 A1 A2 i j) = sm k1 (fun i => c i * A1 i j) := fun c j hj => by
    rw [sm_split, sm_congr (g := fun i => c i * A1 i j) (fun i hi => by show c i * blk n1 k1 A1 A2 i j = _; rw [blk11 hi hj]), sm_zero (n := k2) (fun i hi => by show c (k1 + i) * blk n1 k1 A1 A2 (k1 + i) j = 0; rw [blk21 hj, Int.mul_zero]), Int.add_zero]
  have e2 : ∀ (c : Nat → Int) j, sm (k1 + k2) (fun i => c i * blk n1 k1 A1 A2 i (n1 + j)) = sm k2 (fun i => c (k1 + i) * A2 i j) := fun c j => by
    rw [sm_split, sm_zero (n := k1) (fun i hi => by show c i * blk n1 k1 A1 A2 i (n1 + j) = 0; rw [blk12 hi, Int.mul_zero]), sm_congr (n := k2) (g := fun i => c (k1 + i) * A2 i j) (fun i hi => by show c (k1 + i) * blk n1 k1 A1 A2 (k1 + i) (n1 + j) = _; rw [blk22]), Int.zero_add]
  constructor
  · rintro ⟨⟨s1, c1, h1, h1'⟩, s2, c2, h2, h2'⟩
    refine ⟨s1 * s2, fun i => if i < k1 then s2 * c1 i else s1 * c2 (i - k1), hp.mul h1 h2, two (fun j hj => ?_) (fun j hj => ?_)⟩
    · rw [e1 _ j hj, sm_congr (g := fun i => s2 * (c1 i * A1 i j)) (fun i hi => by show (if i < k1 then _ else _) * _ = _; rw [if_pos hi]; grind), sm_mul]
      obtain ⟨u, hu⟩ := h1' j hj
      exact ⟨s2 * u, by generalize sm k1 (fun i => c1 i * A1 i j) = X at hu ⊢; grind⟩
    · rw [e2 _ j, sm_congr (g := fun i => s1 * (c2 i * A2 i j)) (fun i hi => by show (if k1 + i < k1 then _ else s1 * c2 (k1 + i - k1)) * _ = _; rw [if_neg (by omega), Nat.add_sub_cancel_left]; grind), sm_mul]
      obtain ⟨u, hu⟩ := h2' j hj
      exact ⟨s1 * u, by generalize sm k2 (fun i => c2 i * A2 i j) = X at hu ⊢; grind⟩
  · rintro ⟨s, c, hs, hc⟩
    refine ⟨⟨s, c, hs, fun j hj => ?_⟩, s, fun i => c (k1 + i), hs, fun j hj => ?_⟩
    · have := hc j (by omega)
      rwa [e1 c j hj] at this
    · have := hc (n1 + j) (by omega)
      rwa [e2 c j] at this
theorem sum_og {n1 k1 n2 k2 : Nat} {A1 A2 : Nat → Nat → Int} (z : Nat → Int) : og (n1 + n2) (k1 + k2) (blk n1 k1 A1 A2) z ↔ og n1 k1 A1 z ∧ og n2 k2 A2 (fun j => z (n1 + j)) := by
  have e1 : ∀ i, i < k1 → sm (n1 + n2) (fun j => z j * blk n1 k1 A1 A2 i j) = sm n1 (fun j => z j * A1 i j) := fun i hi => by
    rw [sm_split, sm_congr (g := fun j => z j * A1 i j) (fun j hj => by show z j * blk n1 k1 A1 A2 i j = _; rw [blk11 hi hj]), sm_zero (n := n2) (fun j hj => by show z (n1 + j) * blk n1 k1 A1 A2 i (n1 + j) = 0; rw [blk12 hi, Int.mul_zero]), Int.add_zero]
  have e2 : ∀ i, sm (n1 + n2) (fun j => z j * blk n1 k1 A1 A2 (k1 + i) j) = sm n2 (fun j => z (n1 + j) * A2 i j) := fun i => by
    rw [sm_split, sm_zero (n := n1) (fun j hj => by show z j * blk n1 k1 A1 A2 (k1 + i) j = 0; rw [blk21 hj, Int.mul_zero]), sm_congr (n := n2) (g := fun j => z (n1 + j) * A2 i j) (fun j hj => by show z (n1 + j) * blk n1 k1 A1 A2 (k1 + i) (n1 + j) = _; rw [blk22]), Int.zero_add]
  constructor
  · intro h
    exact ⟨fun i hi => by rw [← e1 i hi]; exact h i (by omega), fun i hi => by rw [← e2 i]; exact h (k1 + i) (by omega)⟩
  · rintro ⟨h1, h2⟩
    exact two (fun i hi => by rw [e1 i hi]; exact h1 i hi) (fun i hi => by rw [e2 i]; exact h2 i hi)
theorem smb_sum {b n1 n2 : Nat} {V1 V2 : (Nat → Int) → Prop} (l1 : lin n1 V1) (l2 : lin n2 V2) (h1 : smb b n1 V1) (h2 : smb b n2 V2) : smb b (n1 + n2) (fun x => V1 x ∧ V2 (fun j => x (n1 + j))) := by
  rintro x ⟨hx1, hx2⟩ ⟨j, hj, hne⟩
  by_cases hj1 : j < n1
  · obtain ⟨y, a1, ⟨i, hi, hi0⟩, a3, a4⟩ := h1 x hx1 ⟨j, hj1, hne⟩
    refine ⟨fun j => if j < n1 then y j else 0, ⟨l1 y y _ 1 1 0 a1 a1 (by omega) (fun j hj => by show 1 * (if j < n1 then y j else 0) = _; rw [if_pos hj]; omega), l2 _ _ _ 1 0 0 hx2 hx2 (by omega) (fun j hj => by show 1 * (if n1 + j < n1 then _ else (0 : Int)) = _; rw [if_neg (by omega)]; omega)⟩, ⟨i, by omega, by show (if i < n1 then y i else 0) ≠ 0; rw [if_pos hi]; exact hi0⟩, fun j hj h0 => ?_, fun j hj => ?_⟩
    · show (if j < n1 then y j else 0) = 0
      by_cases h : j < n1
      · rw [if_pos h]; exact a3 j h h0
      · rw [if_neg h]
    · show (if j < n1 then y j else 0).natAbs ≤ b
      by_cases h : j < n1
      · rw [if_pos h]; exact a4 j h
      · rw [if_neg h]; exact Nat.zero_le _
  · obtain ⟨y, a1, ⟨i, hi, hi0⟩, a3, a4⟩ := h2 (fun j => x (n1 + j)) hx2 ⟨j - n1, by omega, by show x (n1 + (j - n1)) ≠ 0; rw [show n1 + (j - n1) = j by omega]; exact hne⟩
    refine ⟨fun j => if j < n1 then 0 else y (j - n1), ⟨l1 _ _ _ 1 0 0 hx1 hx1 (by omega) (fun j hj => by show 1 * (if j < n1 then (0 : Int) else _) = _; rw [if_pos hj]; omega), l2 y y _ 1 1 0 a1 a1 (by omega) (fun j hj => by show 1 * (if n1 + j < n1 then 0 else y (n1 + j - n1)) = _; rw [if_neg (by omega), Nat.add_sub_cancel_left]; omega)⟩, ⟨n1 + i, by omega, by show (if n1 + i < n1 then 0 else y (n1 + i - n1)) ≠ 0; rw [if_neg (by omega), Nat.add_sub_cancel_left]; exact hi0⟩, fun j hj h0 => ?_, fun j hj => ?_⟩
    · show (if j < n1 then 0 else y (j - n1)) = 0
      by_cases h : j < n1
      · rw [if_pos h]
      · rw [if_neg h]; exact a3 (j - n1) (by omega) (by show x (n1 + (j - n1)) = 0; rw [show n1 + (j - n1) = j by omega]; exact h0)
    · show (if j < n1 then 0 else y (j - n1)).natAbs ≤ b
      by_cases h : j < n1
      · rw [if_pos h]; exact Nat.zero_le _
      · rw [if_neg h]; exact a4 _ (by omega)
theorem sum_rd {p : Int} {n1 k1 n2 k2 : Nat} {A1 A2 : Nat → Nat → Int} {p1 p2 : Nat → Nat} (h1 : rd p n1 k1 A1 p1) (h2 : rd p n2 k2 A2 p2) : rd p (n1 + n2) (k1 + k2) (blk n1 k1 A1 A2) (bpl n1 k1 p1 p2) := by
  refine ⟨two (fun r hr => ?_) (fun r hr => ?_), fun r q hr hq => ?_⟩
  · have := h1.1 r hr
    rw [bpl1 hr, blk11 hr this.1]; exact ⟨by omega, this.2⟩
  · have := h2.1 r hr
    rw [bpl2, blk22]; exact ⟨by omega, this.2⟩
  · revert q
    refine two (P := fun r => ∀ q, q < k1 + k2 → q ≠ r → p ∣ blk n1 k1 A1 A2 q (bpl n1 k1 p1 p2 r)) (fun r hr q hq => ?_) (fun r hr q hq => ?_) r hr
    · refine two (P := fun q => q ≠ r → p ∣ blk n1 k1 A1 A2 q (bpl n1 k1 p1 p2 r)) (fun q hq hne => ?_) (fun q hq hne => ?_) q hq
      · rw [bpl1 hr, blk11 hq (h1.1 r hr).1]; exact h1.2 r q hr hq hne
      · rw [bpl1 hr, blk21 (h1.1 r hr).1]; exact Int.dvd_zero p
    · refine two (P := fun q => q ≠ k1 + r → p ∣ blk n1 k1 A1 A2 q (bpl n1 k1 p1 p2 (k1 + r))) (fun q hq hne => ?_) (fun q hq hne => ?_) q hq
      · rw [bpl2, blk12 hq]; exact Int.dvd_zero p
      · rw [bpl2, blk22]; exact h2.2 r q hr hq (fun e => hne (by rw [e]))
theorem sum_tl {p : Int} (h0p : 0 ≤ p) {n1 k1 n2 k2 : Nat} {A1 A2 : Nat → Nat → Int} {p1 p2 : Nat → Nat} (h1 : rd p n1 k1 A1 p1) (t1 : ∀ r, r < k1 → tl p n1 (A1 r) (p1 r)) (t2 : ∀ r, r < k2 → tl p n2 (A2 r) (p2 r)) : ∀ r, r < k1 + k2 → tl p (n1 + n2) (blk n1 k1 A1 A2 r) (bpl n1 k1 p1 p2 r) := by
  refine two (fun r hr => ?_) (fun r hr => ?_)
  · have := t1 r hr
    unfold tl at this ⊢
    rw [bpl1 hr, blk11 hr (h1.1 r hr).1]
    by_cases e : p = 0
    · rw [if_pos e] at this ⊢
      refine ⟨fun d hd => this.1 d (fun j hj => ?_), this.2⟩
      have := hd j (by omega)
      rwa [blk11 hr hj] at this
    · rw [if_neg e] at this ⊢
      refine ⟨this.1, two (fun j hj => ?_) (fun j hj => ?_)⟩
      · rw [blk11 hr hj]; exact this.2 j hj
      · rw [blk12 hr]; omega
  · have := t2 r hr
    unfold tl at this ⊢
    rw [bpl2, blk22]
    by_cases e : p = 0
    · rw [if_pos e] at this ⊢
      refine ⟨fun d hd => this.1 d (fun j hj => ?_), this.2⟩
      have := hd (n1 + j) (by omega)
      rwa [blk22] at this
    · rw [if_neg e] at this ⊢
      refine ⟨this.1, two (fun j hj => ?_) (fun j hj => ?_)⟩
      · rw [blk21 hj]; omega
      · rw [blk22]; exact this.2 j hj
theorem sum_ok {x x' y : Tb} (hok : okT x) (hred : x.red = true) (hok' : okT x') (hred' : x'.red = true) (hq' : x'.q = x.q) (hc : x.cols + x'.cols ≤ 12) (h : LRT x.q (x.cols + x'.cols) (sumV x.q x.cols x.rows x.A x'.cols x'.rows x'.A) y) : okT y := by
  obtain ⟨hq, h251, hrw, hcl, -, hR⟩ := hok
  obtain ⟨hrd, htl, hsm⟩ := hR hred
  obtain ⟨-, -, -, -, -, hR'⟩ := hok'
  obtain ⟨hrd', htl', hsm'⟩ := hR' hred'
  refine LRT_ok hq h251 hc h (fun h0 => ?_)
  obtain ⟨s1, s2⟩ := hsm h0
  obtain ⟨s1', s2'⟩ := hsm' (hq'.trans h0)
  rw [h0]
  exact ⟨smb_sum (lin_sp _ _ _) (lin_sp _ _ _) s1 s1', sml_iff (fun z => ((ogV_sp (sum_sp dm0) z).trans (sum_og z)).symm) (smb_sum (lin_og _ _ _) (lin_og _ _ _) s2 s2')⟩
theorem sum_start {x x' : Tb} (hok : okT x) (hred : x.red = true) (hok' : okT x') (hred' : x'.red = true) (hq' : x'.q = x.q) (pl : Nat → Nat) (bs : Nat) : ∃ N V, okX x.q N (x.cols + x'.cols) V ∧ invX x.q N (x.cols + x'.cols) (x.rows + x'.rows) V (bsS bs) (blk x.cols x.rows x.A x'.A) 0 0 (blk x.cols x.rows x.A x'.A) pl := by
  obtain ⟨hq, h251, hrw, hcl, -, hR⟩ := hok
  obtain ⟨hrd, htl, hsm⟩ := hR hred
  obtain ⟨-, -, -, -, -, hR'⟩ := hok'
  obtain ⟨hrd', htl', hsm'⟩ := hR' hred'
  rw [hq'] at hrd' htl'
  have hrd2 := sum_rd hrd hrd'
  have htl2 := sum_tl (by omega) hrd htl htl'
  by_cases h0 : x.q = 0
  · obtain ⟨s1, s2⟩ := hsm h0
    obtain ⟨s1', s2'⟩ := hsm' (hq'.trans h0)
    rw [h0] at hrd2 htl2 ⊢
    have hg := gh_self hrd2 htl2
    have hs : sml (x.cols + x'.cols) (sp 0 (x.cols + x'.cols) (x.rows + x'.rows) (blk x.cols x.rows x.A x'.A)) := sml_iff (sum_sp dm0) (smb_sum (lin_sp _ _ _) (lin_sp _ _ _) s1 s1')
    exact ⟨_, _, ⟨fun _ => ⟨lin_sp _ _ _, Nat.le_refl _, smC_of (Nat.le_refl _) (lin_sp _ _ _) hs⟩, fun z => absurd rfl z⟩, Or.inl ⟨rfl, invQ_0 hg rcl_self (fun i j hi hj => gh_bd hg hs hi j hj)⟩⟩
  · have hp := hq.resolve_left h0
    refine ⟨0, fun _ => True, ⟨fun z => absurd z h0, fun _ => ⟨hp, h251⟩⟩, Or.inr ⟨h0, invP_0 hp (fun i j hi hj => ?_)⟩⟩
    have := htl2 i hi
    unfold tl at this
    rw [if_neg (by omega)] at this
    exact this.2 j hj
-- what is left
def kcl (set : Nat) : Nat → Nat → Nat
  | 0, _ => 0
  | n + 1, j => if set / 2 ^ n % 2 = 0 ∧ kc set n = j then n else kcl set n j
theorem kc_s (set n : Nat) : kc set (n + 1) = kc set n + (if set / 2 ^ n % 2 = 0 then 1 else 0) := rfl
theorem kcl_of {set j : Nat} : ∀ {n : Nat}, j < kc set n → kcl set n j < n ∧ set / 2 ^ (kcl set n j) % 2 = 0 ∧ kc set (kcl set n j) = j
  | 0, h => absurd h (Nat.not_lt_zero j)
  | n + 1, h => by
    show (if set / 2 ^ n % 2 = 0 ∧ kc set n = j then n else kcl set n j) < n + 1 ∧ set / 2 ^ (if set / 2 ^ n % 2 = 0 ∧ kc set n = j then n else kcl set n j) % 2 = 0 ∧ kc set (if set / 2 ^ n % 2 = 0 ∧ kc set n = j then n else kcl set n j) = j
    by_cases hn : set / 2 ^ n % 2 = 0 ∧ kc set n = j
    · rw [if_pos hn]; exact ⟨by omega, hn.1, hn.2⟩
    · rw [if_neg hn]
      have h1 : j < kc set n := by
        rw [kc_s] at h
        by_cases hp : set / 2 ^ n % 2 = 0
        · rw [if_pos hp] at h
          rcases Nat.lt_trichotomy j (kc set n) with q | q | q
          · exact q
          · exact absurd ⟨hp, q.symm⟩ hn
          · omega
        · rw [if_neg hp] at h; exact h
      obtain ⟨a, b, c⟩ := kcl_of (n := n) h1
      exact ⟨by omega, b, c⟩
theorem kc_mono (set : Nat) {a b : Nat} (h : a ≤ b) : kc set a ≤ kc set b := by
  induction b with
  | zero => rw [show a = 0 by omega]; exact Nat.le_refl _
  | succ b ih =>
    by_cases e : a = b + 1
    · rw [e]; exact Nat.le_refl _
    · have := ih (by omega)
      rw [kc_s]
      omega
theorem kc_lt {set a b : Nat} (h : a < b) (hn : set / 2 ^ a % 2 = 0) : kc set a < kc set b := by
  have : kc set (a + 1) ≤ kc set b := kc_mono set h
  rw [kc_s, if_pos hn] at this
  omega
theorem kc_inj {set a b : Nat} (ha : set / 2 ^ a % 2 = 0) (hb : set / 2 ^ b % 2 = 0) (e : kc set a = kc set b) : a = b := by
  rcases Nat.lt_trichotomy a b with h | h | h
  · have := kc_lt h ha; omega
  · exact h
  · have := kc_lt h hb; omega
theorem kcl_kc {set n c : Nat} (hc : c < n) (hn : set / 2 ^ c % 2 = 0) : kcl set n (kc set c) = c := by
  have h := kcl_of (kc_lt hc hn)
  exact kc_inj h.2.1 hn h.2.2
def leaveV (p : Int) (n k : Nat) (A : Nat → Nat → Int) (set : Nat) (zero : Bool) (w : Nat → Int) : Prop := ∃ (x : Nat → Int) (s : Int), ¬ p ∣ s ∧ sp p n k A x ∧ (zero = true → ∀ c, c < n → set / 2 ^ c % 2 = 1 → p ∣ x c) ∧ ∀ c, c < n → set / 2 ^ c % 2 = 0 → p ∣ s * w (kc set c) - x c
theorem leave_f {p : Int} (hp : dm p) {n k set : Nat} {A : Nat → Nat → Int} (w : Nat → Int) : leaveV p n k A set false w ↔ sp p (kc set n) k (fun i j => A i (kcl set n j)) w := by
  constructor
  · rintro ⟨x, s, hs, ⟨s2, c, hs2, hc⟩, -, hw⟩
    refine ⟨s2 * s, c, hp.mul hs2 hs, fun j hj => ?_⟩
    obtain ⟨a1, a2, a3⟩ := kcl_of hj
    have h1 := hw _ a1 a2
    have h2 := hc _ a1
    rw [a3] at h1
    have h3 := Int.dvd_add (Int.dvd_mul_of_dvd_right (b := s2) h1) h2
    have e : s2 * (s * w j - x (kcl set n j)) + (s2 * x (kcl set n j) - sm k (fun i => c i * A i (kcl set n j))) = s2 * s * w j - sm k (fun i => c i * A i (kcl set n j)) := by
      generalize sm k (fun i => c i * A i (kcl set n j)) = X
      grind
    rwa [e] at h3
  · rintro ⟨s, c, hs, hc⟩
    refine ⟨fun j => sm k (fun i => c i * A i j), s, hs, sp_sum hp (fun i hi => sp_row hp hi), fun z => (Bool.noConfusion z), fun c' hc' hb => ?_⟩
    have this : p ∣ s * w (kc set c') - sm k (fun i => c i * A i (kcl set n (kc set c'))) := hc _ (kc_lt hc' hb)
    rwa [kcl_kc hc' hb] at this
/-- what sweeping a set of columns leaves -/
def swp (p : Int) (n k set m : Nat) (A A' : Nat → Nat → Int) (pl : Nat → Nat) : Prop := m ≤ k ∧ sps p n k A A' ∧ (∀ i, i < m → pl i < n ∧ set / 2 ^ (pl i) % 2 = 1 ∧ ¬ p ∣ A' i (pl i)) ∧ (∀ i q, i < m → q < k → q ≠ i → p ∣ A' q (pl i)) ∧ ∀ i j, m ≤ i → i < k → j < n → set / 2 ^ j % 2 = 1 → p ∣ A' i j
theorem sm_low {p : Int} {m k : Nat} {f : Nat → Int} (h : m ≤ k) (h0 : ∀ i, i < m → p ∣ f i) : p ∣ sm k f - sm (k - m) (fun i => f (i + m)) := by
  have e := sm_split m (k - m) f
  rw [show m + (k - m) = k by omega] at e
  rw [e, show sm (k - m) (fun i => f (i + m)) = sm (k - m) (fun i => f (m + i)) from sm_congr (fun i _ => by rw [Nat.add_comm]), Int.add_sub_cancel]
  exact sm_dvd h0
theorem swp_c {p : Int} (hp : dm p) {n k set m : Nat} {A A' : Nat → Nat → Int} {pl : Nat → Nat} (h : swp p n k set m A A' pl) {x : Nat → Int} {s : Int} {c : Nat → Int} (hx : ∀ c, c < n → set / 2 ^ c % 2 = 1 → p ∣ x c) (hc : ∀ j, j < n → p ∣ s * x j - sm k (fun i => c i * A' i j)) : ∀ i, i < m → p ∣ c i := by
  intro i hi
  obtain ⟨h1, h2, h3, h4, h5⟩ := h
  obtain ⟨a1, a2, a3⟩ := h3 i hi
  have b1 := dv_sub (hc _ a1) (Int.dvd_mul_of_dvd_right (hx _ a1 a2))
  have b2 : p ∣ sm k (fun q => c q * A' q (pl i)) - c i * A' i (pl i) := sm_dvd1 (f := fun q => c q * A' q (pl i)) (by omega) (fun q hq hne => Int.dvd_mul_of_dvd_right (h4 i q hi hq hne))
  have b3 := dv_sub b2 b1
  rw [Int.mul_comm] at b3
  exact hp.left a3 b3
theorem leave_t {p : Int} (hp : dm p) {n k set m : Nat} {A A' : Nat → Nat → Int} {pl : Nat → Nat} (h : swp p n k set m A A' pl) (w : Nat → Int) : leaveV p n k A set true w ↔ sp p (kc set n) (k - m) (fun i j => A' (i + m) (kcl set n j)) w := by
  constructor
  · rintro ⟨x, s, hs, hx, hz, hw⟩
    obtain ⟨s2, c, hs2, hc⟩ := (sps_iff hp h.2.1 x).mp hx
    have hcz := swp_c hp h (hz rfl) hc
    refine ⟨s2 * s, fun i => c (i + m), hp.mul hs2 hs, fun j hj => ?_⟩
    obtain ⟨a1, a2, a3⟩ := kcl_of hj
    have h1 := hw _ a1 a2
    have h2 := hc _ a1
    rw [a3] at h1
    have h3 := Int.dvd_add (Int.dvd_add (Int.dvd_mul_of_dvd_right (b := s2) h1) h2) (sm_low (p := p) (f := fun i => c i * A' i (kcl set n j)) h.1 (fun i hi => Int.dvd_mul_of_dvd_left (hcz i hi)))
    have e : s2 * (s * w j - x (kcl set n j)) + (s2 * x (kcl set n j) - sm k (fun i => c i * A' i (kcl set n j))) + (sm k (fun i => c i * A' i (kcl set n j)) - sm (k - m) (fun i => c (i + m) * A' (i + m) (kcl set n j))) = s2 * s * w j - sm (k - m) (fun i => c (i + m) * A' (i + m) (kcl set n j)) := by
      generalize sm k (fun i => c i * A' i (kcl set n j)) = X
      generalize sm (k - m) (fun i => c (i + m) * A' (i + m) (kcl set n j)) = Y
      grind
    rwa [e] at h3
  · rintro ⟨s, c, hs, hc⟩
    refine ⟨fun j => sm (k - m) (fun i => c i * A' (i + m) j), s, hs, (sps_iff hp h.2.1 _).mpr (sp_sum (B := fun i => A' (i + m)) hp (fun i hi => sp_row hp (by omega))), fun _ c' hc' hb => ?_, fun c' hc' hb => ?_⟩
    · exact sm_dvd (fun i hi => Int.dvd_mul_of_dvd_right (h.2.2.2.2 (i + m) c' (by omega) (by omega) hc' hb))
    · have this : p ∣ s * w (kc set c') - sm (k - m) (fun i => c i * A' (i + m) (kcl set n (kc set c'))) := hc _ (kc_lt hc' hb)
      rwa [kcl_kc hc' hb] at this
/-- kept columns alone -/
theorem sm_kc (set : Nat) (g : Nat → Int) (κ : Nat → Nat) : ∀ n, (∀ c, c < n → set / 2 ^ c % 2 = 0 → κ (kc set c) = c) → sm n (fun c => if set / 2 ^ c % 2 = 0 then g c else 0) = sm (kc set n) (fun j => g (κ j))
  | 0, _ => rfl
  | n + 1, h => by
    have ih := sm_kc set g κ n (fun c hc hb => h c (by omega) hb)
    show sm n (fun c => if set / 2 ^ c % 2 = 0 then g c else 0) + (if set / 2 ^ n % 2 = 0 then g n else 0) = _
    rw [ih, kc_s]
    by_cases hb : set / 2 ^ n % 2 = 0
    · rw [if_pos hb, if_pos hb]
      show _ = sm (kc set n) (fun j => g (κ j)) + g (κ (kc set n))
      rw [h n (by omega) hb]
    · rw [if_neg hb, if_neg hb, Int.add_zero]; rfl
theorem bit01 (a : Nat) (h : ¬ a % 2 = 0) : a % 2 = 1 := by omega
theorem leave_del {n k set : Nat} {A : Nat → Nat → Int} {zero : Bool} (w : Nat → Int) : leaveV 0 n k A set zero w ↔ del n (kc set n) (kcl set n) (secV n (sp 0 n k A) (fun c => zero = true ∧ set / 2 ^ c % 2 = 1)) w := by
  constructor
  · rintro ⟨x, s, hs, hx, hz, hw⟩
    refine ⟨x, s, ⟨hx, fun c hc hb => Int.zero_dvd.mp (hz hb.1 c hc hb.2)⟩, fun e => hs (Int.zero_dvd.mpr e), fun j hj => ?_⟩
    obtain ⟨a1, a2, a3⟩ := kcl_of hj
    have := Int.zero_dvd.mp (hw _ a1 a2)
    rw [a3] at this
    omega
  · rintro ⟨x, s, ⟨hx, hz⟩, hs, hw⟩
    refine ⟨x, s, nd0 hs, hx, fun e c hc hb => Int.zero_dvd.mpr (hz c hc ⟨e, hb⟩), fun c hc hb => Int.zero_dvd.mpr ?_⟩
    have := hw _ (kc_lt hc hb)
    rw [kcl_kc hc hb] at this
    omega
/-- the product in the kept columns is the product, where one of the two is 0 in the set -/
theorem sm_kept {set n : Nat} {x y : Nat → Int} (h : ∀ c, c < n → set / 2 ^ c % 2 = 1 → x c = 0 ∨ y c = 0) : sm n (fun c => x c * y c) = sm (kc set n) (fun j => x (kcl set n j) * y (kcl set n j)) := by
  rw [← sm_kc set (fun c => x c * y c) (kcl set n) n (fun c hc hb => kcl_kc hc hb)]
  refine sm_congr (fun c hc => ?_)
  by_cases hb : set / 2 ^ c % 2 = 0
  · rw [if_pos hb]
  · rw [if_neg hb]
    rcases h c hc (bit01 _ hb) with e | e
    · rw [e, Int.zero_mul]
    · rw [e, Int.mul_zero]
theorem og_sp {n k : Nat} {A : Nat → Nat → Int} {x y : Nat → Int} (hx : og n k A x) (hy : sp 0 n k A y) : sm n (fun j => x j * y j) = 0 := (ogV_sp (fun _ => Iff.rfl) x).mpr hx y hy
theorem leave_ogf {n k set : Nat} {A : Nat → Nat → Int} (z : Nat → Int) : ogV (kc set n) (leaveV 0 n k A set false) z ↔ del n (kc set n) (kcl set n) (secV n (og n k A) (fun c => set / 2 ^ c % 2 = 1)) z := by
  constructor
  · intro h
    refine ⟨fun c => if set / 2 ^ c % 2 = 0 then z (kc set c) else 0, 1, ⟨fun i hi => ?_, fun c _ hb => by show (if set / 2 ^ c % 2 = 0 then _ else _) = _; rw [if_neg (by omega)]⟩, by omega, fun j hj => ?_⟩
    · rw [sm_kept (set := set) (x := fun c => if set / 2 ^ c % 2 = 0 then z (kc set c) else 0) (fun c hc hb => Or.inl (by show (if set / 2 ^ c % 2 = 0 then _ else _) = _; rw [if_neg (by omega)]))]
      have := h (fun j => A i (kcl set n j)) ((leave_f dm0 _).mpr (sp_row (A := fun i j => A i (kcl set n j)) dm0 hi))
      refine Eq.trans (sm_congr (fun j hj => ?_)) this
      obtain ⟨a1, a2, a3⟩ := kcl_of hj
      show (if set / 2 ^ kcl set n j % 2 = 0 then z (kc set (kcl set n j)) else 0) * _ = _
      rw [if_pos a2, a3]
    · obtain ⟨a1, a2, a3⟩ := kcl_of hj
      show 1 * z j = (if set / 2 ^ kcl set n j % 2 = 0 then z (kc set (kcl set n j)) else 0)
      rw [if_pos a2, a3, Int.one_mul]
  · rintro ⟨x, t, ⟨hx, hz⟩, ht, e⟩ w hw
    obtain ⟨y, s, ⟨hy, -⟩, hs, e2⟩ := (leave_del w).mp hw
    have h1 := og_sp hx hy
    rw [sm_kept (set := set) (fun c hc hb => Or.inl (hz c hc hb))] at h1
    have h2 : (t * s) * sm (kc set n) (fun j => z j * w j) = 0 := by
      rw [← sm_mul, ← h1]
      exact sm_congr (fun j hj => by rw [← e j hj, ← e2 j hj]; grind)
    rcases Int.mul_eq_zero.mp h2 with q | q
    · rcases Int.mul_eq_zero.mp q with q | q
      · exact absurd q ht
      · exact absurd q hs
    · exact q
/-- numbers for the places in the set that make all products with the first rows 0 -/
theorem ext_og {n : Nat} {A' : Nat → Nat → Int} {pl : Nat → Nat} (x0 : Nat → Int) : ∀ m, (∀ i, i < m → pl i < n ∧ A' i (pl i) ≠ 0) → (∀ i q, i < m → q < m → q ≠ i → A' q (pl i) = 0) → ∃ (t : Int) (x : Nat → Int), t ≠ 0 ∧ (∀ j, (∀ i, i < m → pl i ≠ j) → x j = t * x0 j) ∧ ∀ i, i < m → sm n (fun j => x j * A' i j) = 0
  | 0, _, _ => ⟨1, x0, by omega, fun j _ => by rw [Int.one_mul], fun i hi => absurd hi (Nat.not_lt_zero i)⟩
  | m + 1, h1, h2 => by
    obtain ⟨t, x, ht, hx, ho⟩ := ext_og x0 m (fun i hi => h1 i (by omega)) (fun i q hi hq => h2 i q (by omega) (by omega))
    obtain ⟨hp, he⟩ := h1 m (by omega)
    let d : Int := -sm n (fun j => x j * A' m j)
    have key : ∀ i, sm n (fun j => (A' m (pl m) * x j + if j = pl m then d else 0) * A' i j) = A' m (pl m) * sm n (fun j => x j * A' i j) + d * A' i (pl m) := fun i => by
      have e1 : sm n (fun j => (A' m (pl m) * x j + if j = pl m then d else 0) * A' i j) = sm n (fun j => A' m (pl m) * (x j * A' i j) + (if j = pl m then d else 0) * A' i j) := sm_congr (fun j _ => by grind)
      rw [e1, sm_add, sm_mul, sm_one (f := fun j => (if j = pl m then d else 0) * A' i j) hp (fun j _ hne => by show (if j = pl m then d else 0) * A' i j = 0; rw [if_neg hne, Int.zero_mul])]
      show _ + (if pl m = pl m then d else 0) * A' i (pl m) = _
      rw [if_pos rfl]
    refine ⟨A' m (pl m) * t, fun j => A' m (pl m) * x j + if j = pl m then d else 0, fun q => ?_, fun j hj => ?_, fun i hi => ?_⟩
    · rcases Int.mul_eq_zero.mp q with q | q
      · exact he q
      · exact ht q
    · show A' m (pl m) * x j + (if j = pl m then d else 0) = _
      rw [if_neg (fun e => hj m (by omega) e.symm), hx j (fun i hi => hj i (by omega)), Int.add_zero, Int.mul_assoc]
    · rw [key i]
      by_cases e : i = m
      · rw [e]
        show _ + -sm n (fun j => x j * A' m j) * _ = _
        rw [Int.neg_mul, Int.mul_comm, ← Int.sub_eq_add_neg, Int.sub_self]
      · rw [ho i (by omega), h2 m i (by omega) hi e, Int.mul_zero, Int.mul_zero]; rfl
theorem leave_ogt {n k set m : Nat} {A A' : Nat → Nat → Int} {pl : Nat → Nat} (h : swp 0 n k set m A A' pl) (z : Nat → Int) : ogV (kc set n) (leaveV 0 n k A set true) z ↔ del n (kc set n) (kcl set n) (og n k A) z := by
  constructor
  · intro hz
    obtain ⟨h1, h2, h3, h4, h5⟩ := id h
    obtain ⟨t, x, ht, hx, ho⟩ := ext_og (n := n) (A' := A') (pl := pl) (fun c => if set / 2 ^ c % 2 = 0 then z (kc set c) else 0) m (fun i hi => ⟨(h3 i hi).1, fun e => (h3 i hi).2.2 (Int.zero_dvd.mpr e)⟩) (fun i q hi hq hne => Int.zero_dvd.mp (h4 i q hi (by omega) hne))
    have hk : ∀ j, j < kc set n → x (kcl set n j) = t * z j := fun j hj => by
      obtain ⟨a1, a2, a3⟩ := kcl_of hj
      rw [hx _ (fun i hi e => by have := (h3 i hi).2.1; rw [e] at this; omega)]
      show t * (if set / 2 ^ kcl set n j % 2 = 0 then z (kc set (kcl set n j)) else 0) = _
      rw [if_pos a2, a3]
    refine ⟨x, t, og_congr (B := A') (fun i hi => h2.2 i hi) (fun i hi => ?_), ht, fun j hj => (hk j hj).symm⟩
    by_cases him : i < m
    · exact ho i him
    · rw [sm_kept (set := set) (fun c hc hb => Or.inr (Int.zero_dvd.mp (h5 i c (by omega) hi hc hb)))]
      have := hz (fun j => A' i (kcl set n j)) ((leave_t dm0 h _).mpr (by
        have := sp_row (p := 0) (n := kc set n) (k := k - m) (A := fun i j => A' (i + m) (kcl set n j)) dm0 (show i - m < k - m by omega)
        have e : (fun j => A' (i - m + m) (kcl set n j)) = fun j => A' i (kcl set n j) := by rw [show i - m + m = i by omega]
        rw [← e]; exact this))
      have e : sm (kc set n) (fun j => x (kcl set n j) * A' i (kcl set n j)) = t * sm (kc set n) (fun j => z j * A' i (kcl set n j)) := by
        rw [← sm_mul]
        exact sm_congr (fun j hj => by rw [hk j hj]; grind)
      rw [e, this, Int.mul_zero]
  · rintro ⟨x, t, hx, ht, e⟩ w hw
    obtain ⟨y, s, ⟨hy, hy0⟩, hs, e2⟩ := (leave_del w).mp hw
    have h1 := og_sp hx hy
    rw [sm_kept (set := set) (fun c hc hb => Or.inr (hy0 c hc ⟨rfl, hb⟩))] at h1
    have h2 : (t * s) * sm (kc set n) (fun j => z j * w j) = 0 := by
      rw [← sm_mul, ← h1]
      exact sm_congr (fun j hj => by rw [← e j hj, ← e2 j hj]; grind)
    rcases Int.mul_eq_zero.mp h2 with q | q
    · rcases Int.mul_eq_zero.mp q with q | q
      · exact absurd q ht
      · exact absurd q hs
    · exact q
theorem kcl_lt {set n : Nat} : ∀ j, j < kc set n → kcl set n j < n := fun _ hj => (kcl_of hj).1
theorem leave_ok {x y : Tb} {set : Nat} {zero : Bool} (hok : okT x) (hred : x.red = true) (hs : zero = true → ∃ m A' pl, swp x.q x.cols x.rows set m x.A A' pl) (h : LRT x.q (kc set x.cols) (leaveV x.q x.cols x.rows x.A set zero) y) : okT y := by
  obtain ⟨hq, h251, hrw, hcl, -, hR⟩ := hok
  obtain ⟨hrd, htl, hsm⟩ := hR hred
  refine LRT_ok hq h251 (Nat.le_trans (kc_le _ _) hcl) h (fun h0 => ?_)
  obtain ⟨s1, s2⟩ := hsm h0
  rw [h0] at hs ⊢
  refine ⟨sml_iff (fun w => (leave_del w).symm) (sml_del kcl_lt (lin_secV (lin_sp _ _ _) _) (sml_sec (fun x => Iff.rfl) s1)), ?_⟩
  cases zero with
  | false => exact sml_iff (fun z => (leave_ogf z).symm) (sml_del kcl_lt (lin_secV (lin_og _ _ _) _) (sml_sec (fun x => Iff.rfl) s2))
  | true =>
    obtain ⟨m, A', pl, hw⟩ := hs rfl
    exact sml_iff (fun z => (leave_ogt hw z).symm) (sml_del kcl_lt (lin_og _ _ _) s2)
theorem inv_swp {q N n k m set : Nat} {V : (Nat → Int) → Prop} {A A' : Nat → Nat → Int} {pl : Nat → Nat} (h : invX q N n k V (bsS set) A n m A' pl) : swp q n k set m A A' pl := by
  have hcore : pr q n k (bsS set) n m A' pl ∧ sps q n k A A' := by
    rcases h with ⟨h0, h⟩ | ⟨h0, h⟩
    · subst h0; exact ⟨h.2.1, h.2.2.1⟩
    · exact ⟨h.1, h.2.1⟩
  obtain ⟨⟨h1, h2, h3, h4, -, -⟩, hs⟩ := hcore
  exact ⟨h1, hs, fun i hi => h2 i hi, h3, fun i j a b c d => h4 i j a b c d⟩
theorem self_start {x : Tb} (hok : okT x) (hred : x.red = true) (pl : Nat → Nat) (bs : Nat) : okX x.q x.cols x.cols (sp 0 x.cols x.rows x.A) ∧ invX x.q x.cols x.cols x.rows (sp 0 x.cols x.rows x.A) (bsS bs) x.A 0 0 x.A pl := by
  obtain ⟨hq, h251, hrw, hcl, -, hR⟩ := hok
  obtain ⟨hrd, htl, hsm⟩ := hR hred
  by_cases h0 : x.q = 0
  · obtain ⟨s1, s2⟩ := hsm h0
    rw [h0] at hrd htl
    have hg := gh_self hrd htl
    exact ⟨⟨fun _ => ⟨lin_sp _ _ _, Nat.le_refl _, smC_of (Nat.le_refl _) (lin_sp _ _ _) s1⟩, fun z => absurd h0 z⟩, Or.inl ⟨h0, invQ_0 hg rcl_self (fun i j hi hj => gh_bd hg s1 hi j hj)⟩⟩
  · have hp := hq.resolve_left h0
    refine ⟨⟨fun z => absurd z h0, fun _ => ⟨hp, h251⟩⟩, Or.inr ⟨h0, invP_0 hp (fun i j hi hj => ?_)⟩⟩
    have := htl i hi
    unfold tl at this
    rw [if_neg (by omega)] at this
    exact this.2 j hj
/-- where the last sweep of leave begins: kept columns of the rows from m on -/
theorem leave_start {x : Tb} {set m : Nat} {zero : Bool} {A' : Nat → Nat → Int} {pl : Nat → Nat} (hok : okT x) (hred : x.red = true) (h : (zero = false ∧ m = 0 ∧ A' = x.A) ∨ (zero = true ∧ invX x.q x.cols x.cols x.rows (sp 0 x.cols x.rows x.A) (bsS set) x.A x.cols m A' pl)) (pl' : Nat → Nat) (bs : Nat) :
    ∃ N V, okX x.q N (kc set x.cols) V ∧ invX x.q N (kc set x.cols) (x.rows - m) V (bsS bs) (fun i j => A' (i + m) (kcl set x.cols j)) 0 0 (fun i j => A' (i + m) (kcl set x.cols j)) pl' := by
  obtain ⟨hX, hI⟩ := self_start hok hred pl set
  obtain ⟨hq, h251, hrw, hcl, -, hR⟩ := hok
  obtain ⟨hrd, htl, hsm⟩ := hR hred
  by_cases h0 : x.q = 0
  · obtain ⟨s1, s2⟩ := hsm h0
    rw [h0] at hrd htl
    -- the rows from m on as a reduced table
    have hG : ∃ T ph W, gh x.cols (x.rows - m) W T ph ∧ lin x.cols W ∧ sml x.cols W ∧ (∀ i, i < x.rows - m → ∃ a : Int, 0 < a ∧ ∀ j, j < x.cols → T i j = a * A' (i + m) j) ∧ ∀ i j, i < x.rows - m → j < x.cols → (A' (i + m) j).natAbs ≤ NB := by
      rcases h with ⟨-, e1, e2⟩ | ⟨-, h⟩
      · subst e1
        subst e2
        have hg := gh_self hrd htl
        exact ⟨x.A, x.pl, _, hg, lin_sp _ _ _, s1, fun i _ => ⟨1, by omega, fun j _ => by rw [Int.one_mul]; rfl⟩, fun i j hi hj => gh_bd hg s1 hi j hj⟩
      · have hw := inv_swp h
        rcases h with ⟨-, h⟩ | ⟨z, -⟩
        · obtain ⟨⟨T, ph, hg, hr⟩, -, -, -, hb⟩ := h
          rw [h0] at hw
          obtain ⟨h1, h2, h3, h4, h5⟩ := hw
          refine ⟨fun i => T (i + m), fun i => ph (i + m), secV x.cols (sp 0 x.cols x.rows x.A) (fun c => set / 2 ^ c % 2 = 1), ⟨⟨fun r hr' => hg.1.1 (r + m) (by omega), fun r q hr' hq' hne => hg.1.2 (r + m) (q + m) (by omega) (by omega) (by omega)⟩, fun r hr' => hg.2.1 (r + m) (by omega), fun r hr' => ⟨hg.2.2.1 (r + m) (by omega), fun j hj hb' => ?_⟩, fun y hy => ?_⟩, lin_secV (lin_sp _ _ _) _, sml_sec (fun x => Iff.rfl) s1, fun i hi => hr (i + m) (by omega), fun i j hi hj => hb (i + m) j (by omega) hj⟩
          · obtain ⟨a, ha, e⟩ := hr (r + m) (by omega)
            show T (r + m) j = 0
            rw [e j hj, Int.zero_dvd.mp (h5 (r + m) j (by omega) (by omega) hj hb'), Int.mul_zero]
          · obtain ⟨s, c, hs, hc⟩ := sp0_of (hg.2.2.2 y hy.1)
            have hcz : ∀ i, i < m → c i = 0 := fun i hi => by
              obtain ⟨a1, a2, a3⟩ := h3 i hi
              have b1 := hc _ a1
              rw [hy.2 _ a1 a2, Int.mul_zero, sm_one (f := fun q => c q * T q (pl i)) (show i < x.rows by omega) (fun q hq' hne => by
                obtain ⟨a, ha, e⟩ := hr q hq'
                show c q * T q (pl i) = 0
                rw [e _ a1, Int.zero_dvd.mp (h4 i q hi hq' hne), Int.mul_zero, Int.mul_zero])] at b1
              rcases Int.mul_eq_zero.mp b1.symm with z | z
              · exact z
              · obtain ⟨a, ha, e⟩ := hr i (by omega)
                rw [e _ a1] at z
                rcases Int.mul_eq_zero.mp z with z | z
                · omega
                · exact absurd (Int.zero_dvd.mpr z) a3
            refine sp0_mk (s := s) (c := fun i => c (i + m)) hs (fun j hj => ?_)
            rw [hc j hj]
            have := Int.zero_dvd.mp (sm_low (p := 0) (f := fun i => c i * T i j) h1 (fun i hi => by show (0 : Int) ∣ c i * T i j; rw [hcz i hi, Int.zero_mul]; exact Int.dvd_refl 0))
            show sm x.rows (fun i => c i * T i j) = sm (x.rows - m) (fun i => c (i + m) * T (i + m) j)
            omega
        · exact absurd h0 z
    obtain ⟨T, ph, W, hg, hl, hs, hr, hb⟩ := hG
    have hge := gh_ext (κ := kcl set x.cols) hg kcl_lt
    have hsm2 := ext_sm (κ := kcl set x.cols) kcl_lt hl hs
    refine ⟨kc set x.cols + x.cols, _, ⟨fun _ => ⟨lin_del hl, by omega, smC_of (by omega) (lin_del hl) hsm2⟩, fun z => absurd h0 z⟩, Or.inl ⟨h0, invQ_0 hge (ext_rcl (n0 := x.cols) (A := A') (fun i hi => ?_)) (fun i j hi hj => hb i _ hi (kcl_lt j hj))⟩⟩
    obtain ⟨a, ha, e⟩ := hr i hi
    exact ⟨a, ha, fun j hj => e _ (kcl_lt j hj)⟩
  · have hp := hq.resolve_left h0
    refine ⟨0, fun _ => True, ⟨fun z => absurd z h0, fun _ => ⟨hp, h251⟩⟩, Or.inr ⟨h0, invP_0 hp (fun i j hi hj => ?_)⟩⟩
    show rsd x.q (A' (i + m) (kcl set x.cols j))
    rcases h with ⟨-, e1, e2⟩ | ⟨-, h⟩
    · subst e1
      subst e2
      have := htl i hi
      unfold tl at this
      rw [if_neg (by omega)] at this
      exact this.2 _ (kcl_lt j hj)
    · rcases h with ⟨z, -⟩ | ⟨-, h⟩
      · exact absurd z h0
      · exact h.2.2.1 (i + m) _ (by omega) (kcl_lt j hj)

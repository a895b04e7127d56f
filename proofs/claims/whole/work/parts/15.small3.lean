-- ===== spaces with small vectors: what is left of one without some columns, sums =====
theorem sml_iff {b n : Nat} {V W : (Nat → Int) → Prop} (h : ∀ x, V x ↔ W x) (hV : smb b n V) : smb b n W := by
  intro x hx hn
  obtain ⟨y, h1, h2⟩ := hV x ((h x).mpr hx) hn
  exact ⟨y, (h y).mp h1, h2⟩
/-- those that are 0 in some columns -/
theorem sml_sec {b n : Nat} {V W : (Nat → Int) → Prop} {Z : Nat → Prop} (h : ∀ x, W x ↔ V x ∧ ∀ j, j < n → Z j → x j = 0) (hV : smb b n V) : smb b n W := by
  intro x hx hn
  obtain ⟨h1, h2⟩ := (h x).mp hx
  obtain ⟨y, g1, g2, g3, g4⟩ := hV x h1 hn
  exact ⟨y, (h y).mpr ⟨g1, fun j hj hz => g3 j hj (h2 j hj hz)⟩, g2, g3, g4⟩
/-- closed under what rows do -/
def lin (n : Nat) (V : (Nat → Int) → Prop) : Prop := ∀ (x y z : Nat → Int) (t a b : Int), V x → V y → t ≠ 0 → (∀ j, j < n → t * z j = a * x j + b * y j) → V z
theorem lin_sp (n k : Nat) (A : Nat → Nat → Int) : lin n (sp 0 n k A) := fun x y z t a b hx hy ht h =>
  sp_comb (a := a) (b := b) dm0 hx hy (fun q => ht (Int.zero_dvd.mp q)) (fun j hj => by rw [h j hj, Int.sub_self]; exact Int.dvd_refl 0)
theorem lin_og (n k : Nat) (A : Nat → Nat → Int) : lin n (og n k A) := fun x y z t a b hx hy ht h => by
  intro i hi
  have h1 : t * sm n (fun j => z j * A i j) = a * sm n (fun j => x j * A i j) + b * sm n (fun j => y j * A i j) := by
    rw [← sm_mul, ← sm_mul, ← sm_mul, ← sm_add]
    refine sm_congr (fun j hj => ?_)
    have := h j hj
    rw [← Int.mul_assoc, this]
    grind
  rw [hx i hi, hy i hi] at h1
  rcases Int.mul_eq_zero.mp (h1.trans (by omega)) with q | q
  · exact absurd q ht
  · exact q
/-- what the vectors have in some columns: column j of the new ones is column g j of the old -/
def del (n n' : Nat) (g : Nat → Nat) (V : (Nat → Int) → Prop) (z : Nat → Int) : Prop := ∃ (x : Nat → Int) (t : Int), V x ∧ t ≠ 0 ∧ ∀ j, j < n' → t * z j = x (g j)
theorem ct_lt {n : Nat} {P Q : Nat → Prop} (h : ∀ j, j < n → P j → Q j) {i : Nat} (hi : i < n) (hQ : Q i) (hP : ¬ P i) : ct n P < ct n Q := by
  have le : ∀ m, m ≤ n → ct m P ≤ ct m Q := by
    intro m
    induction m with
    | zero => intro _; exact Nat.le_refl 0
    | succ m ih =>
      intro hm
      have := ih (by omega)
      by_cases hp : P m
      · rw [ct_t hp, ct_t (h m (by omega) hp)]; omega
      · rw [ct_f hp]
        by_cases hq : Q m
        · rw [ct_t hq]; omega
        · rw [ct_f hq]; omega
  have : ∀ m, i < m → m ≤ n → ct m P < ct m Q := by
    intro m
    induction m with
    | zero => omega
    | succ m ih =>
      intro h1 h2
      by_cases e : i = m
      · subst e
        rw [ct_f hP, ct_t hQ]
        have := le i (by omega)
        omega
      · have := ih (by omega) (by omega)
        by_cases hp : P m
        · rw [ct_t hp, ct_t (h m (by omega) hp)]; omega
        · rw [ct_f hp]
          by_cases hq : Q m
          · rw [ct_t hq]; omega
          · rw [ct_f hq]; omega
  exact this n hi (Nat.le_refl n)
theorem sml_del {b n n' : Nat} {g : Nat → Nat} (hg : ∀ j, j < n' → g j < n) {V : (Nat → Int) → Prop} (hl : lin n V) (hV : smb b n V) : smb b n' (del n n' g V) := by
  have key : ∀ (d : Nat) (x : Nat → Int), ct n (fun j => x j ≠ 0) = d → V x → (∃ j, j < n' ∧ x (g j) ≠ 0) → ∃ y, V y ∧ (∃ j, j < n' ∧ y (g j) ≠ 0) ∧ (∀ j, j < n' → x (g j) = 0 → y (g j) = 0) ∧ ∀ j, j < n → (y j).natAbs ≤ b := by
    intro d
    induction d using Nat.strongRecOn with
    | _ d ih =>
      intro x hd hx hn
      obtain ⟨j0, hj0, hne0⟩ := hn
      obtain ⟨y, h1, ⟨i, hi, hne⟩, h3, h4⟩ := hV x hx ⟨g j0, hg j0 hj0, hne0⟩
      by_cases hin : ∃ j, j < n' ∧ y (g j) ≠ 0
      · exact ⟨y, h1, hin, fun j hj h0 => h3 (g j) (hg j hj) h0, h4⟩
      · have hy0 : ∀ j, j < n' → y (g j) = 0 := fun j hj => Classical.byContradiction fun h => hin ⟨j, hj, h⟩
        have hx2 : V (fun j => y i * x j - x i * y j) := hl x y _ 1 (y i) (- x i) hx h1 (by omega) (fun j _ => by grind)
        have hxi : x i ≠ 0 := fun h => hne (h3 i hi h)
        have hlt : ct n (fun j => y i * x j - x i * y j ≠ 0) < d := by
          rw [← hd]
          refine ct_lt (fun j hj hp hx0 => hp ?_) hi hxi (fun hp => hp ?_)
          · rw [hx0, h3 j hj hx0]; simp
          · rw [Int.mul_comm, Int.sub_self]
        obtain ⟨y2, g1, g2, g3, g4⟩ := ih _ hlt _ rfl hx2 ⟨j0, hj0, fun h => by
          have h5 : y i * x (g j0) - x i * y (g j0) = 0 := h
          rw [hy0 j0 hj0, Int.mul_zero, Int.sub_zero] at h5
          rcases Int.mul_eq_zero.mp h5 with q | q
          · exact hne q
          · exact hne0 q⟩
        exact ⟨y2, g1, g2, fun j hj h0 => g3 j hj (by show y i * x (g j) - x i * y (g j) = 0; rw [h0, hy0 j hj]; simp), g4⟩
  intro z hz hn
  obtain ⟨x, t, hx, ht, hzx⟩ := hz
  obtain ⟨j0, hj0, hne0⟩ := hn
  obtain ⟨y, h1, ⟨j1, hj1, hne1⟩, h3, h4⟩ := key _ x rfl hx ⟨j0, hj0, fun h => by
    have h5 := hzx j0 hj0
    rw [h] at h5
    rcases Int.mul_eq_zero.mp h5 with q | q
    · exact ht q
    · exact hne0 q⟩
  exact ⟨fun j => y (g j), ⟨y, 1, h1, by omega, fun j _ => by rw [Int.one_mul]⟩, ⟨j1, hj1, hne1⟩, fun j hj h0 => h3 j hj (by rw [← hzx j hj, h0, Int.mul_zero]), fun j hj => h4 (g j) (hg j hj)⟩
/-- a whole row that has no divisor in common, and under whose zeros nothing else lies, is small -/
theorem sml_pm {b n : Nat} {V : (Nat → Int) → Prop} (hV : smb b n V) {x : Nat → Int} (hx : V x) (hp : pm n x) {c : Nat} (hc : c < n) (hxc : x c ≠ 0) (hu : ∀ y, V y → (∀ j, j < n → x j = 0 → y j = 0) → ∀ j, j < n → x c * y j = y c * x j) : ∀ j, j < n → (x j).natAbs ≤ b := by
  obtain ⟨y, h1, ⟨i, hi, hne⟩, h3, h4⟩ := hV x hx ⟨c, hc, hxc⟩
  have hy := hu y h1 h3
  have hyc : y c ≠ 0 := fun h => by
    have := hy i hi
    rw [h, Int.zero_mul] at this
    rcases Int.mul_eq_zero.mp this with q | q
    · exact hxc q
    · exact hne q
  -- x c divides y c
  have hd : x c ∣ y c := by
    have hg : Int.gcd (x c) (y c) ≠ 0 := fun e => hxc (Int.gcd_eq_zero_iff.mp e).1
    obtain ⟨a, ha⟩ : (Int.gcd (x c) (y c) : Int) ∣ x c := Int.gcd_dvd_left ..
    obtain ⟨b, hb⟩ : (Int.gcd (x c) (y c) : Int) ∣ y c := Int.gcd_dvd_right ..
    have hco : Int.gcd a b = 1 := by
      have h5 : Int.gcd (x c) (y c) = Int.gcd ((Int.gcd (x c) (y c) : Int) * a) ((Int.gcd (x c) (y c) : Int) * b) := by rw [← ha, ← hb]
      rw [Int.gcd_mul_left, Int.natAbs_natCast] at h5
      have h6 : Int.gcd (x c) (y c) * 1 = Int.gcd (x c) (y c) * Int.gcd a b := by rw [Nat.mul_one]; exact h5
      exact (Nat.eq_of_mul_eq_mul_left (by omega) h6).symm
    generalize (Int.gcd (x c) (y c) : Int) = g at ha hb
    have hg0 : g ≠ 0 := fun e => hxc (by rw [ha, e, Int.zero_mul])
    have hax : ∀ j, j < n → a ∣ x j := by
      intro j hj
      have h5 := hy j hj
      rw [ha, hb, Int.mul_assoc, Int.mul_assoc] at h5
      have h6 := Int.eq_of_mul_eq_mul_left hg0 h5
      have h7 : a ∣ b * x j := ⟨y j, h6.symm⟩
      exact idvd hco h7
    have ha1 := hp a hax
    obtain ⟨u, hu1⟩ := ha1
    refine ⟨u * b, ?_⟩
    rw [ha, hb]
    have : g * a * (u * b) = g * b * (a * u) := by grind
    rw [this, ← hu1, Int.mul_one]
  obtain ⟨w, hw⟩ := hd
  have hw0 : w ≠ 0 := fun e => hyc (by rw [hw, e, Int.mul_zero])
  intro j hj
  have h5 := hy j hj
  rw [hw, Int.mul_assoc] at h5
  have h6 := Int.eq_of_mul_eq_mul_left hxc h5
  have h7 := h4 j hj
  rw [h6, Int.natAbs_mul] at h7
  have h8 : 1 * (x j).natAbs ≤ w.natAbs * (x j).natAbs := Nat.mul_le_mul_right _ (by omega)
  omega

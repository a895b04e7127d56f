section
-- ===== sums of integers, and the spaces of rows modulo p (p = 0: the rationals; p a prime: its residues) =====
def sm : Nat → (Nat → Int) → Int
  | 0, _ => 0
  | k + 1, f => sm k f + f k
theorem sm_congr {n : Nat} {f g : Nat → Int} (h : ∀ i, i < n → f i = g i) : sm n f = sm n g := by
  induction n with
  | zero => rfl
  | succ n ih =>
    show sm n f + f n = sm n g + g n
    rw [ih (fun i hi => h i (by omega)), h n (by omega)]
theorem sm_add (n : Nat) (f g : Nat → Int) : sm n (fun i => f i + g i) = sm n f + sm n g := by
  induction n with
  | zero => rfl
  | succ n ih =>
    show sm n (fun i => f i + g i) + (f n + g n) = (sm n f + f n) + (sm n g + g n)
    rw [ih]; omega
theorem sm_mul (n : Nat) (c : Int) (f : Nat → Int) : sm n (fun i => c * f i) = c * sm n f := by
  induction n with
  | zero => show (0 : Int) = c * 0; rw [Int.mul_zero]
  | succ n ih =>
    show sm n (fun i => c * f i) + c * f n = c * (sm n f + f n)
    rw [ih, Int.mul_add]
theorem sm_zero {n : Nat} {f : Nat → Int} (h : ∀ i, i < n → f i = 0) : sm n f = 0 := by
  induction n with
  | zero => rfl
  | succ n ih =>
    show sm n f + f n = 0
    rw [ih (fun i hi => h i (by omega)), h n (by omega)]; rfl
theorem sm_dvd {p : Int} {n : Nat} {f : Nat → Int} (h : ∀ i, i < n → p ∣ f i) : p ∣ sm n f := by
  induction n with
  | zero => exact Int.dvd_zero p
  | succ n ih => exact Int.dvd_add (ih (fun i hi => h i (by omega))) (h n (by omega))
theorem sm_dvd1 {p : Int} {n k : Nat} {f : Nat → Int} (hk : k < n) (h : ∀ i, i < n → i ≠ k → p ∣ f i) : p ∣ sm n f - f k := by
  induction n with
  | zero => omega
  | succ n ih =>
    show p ∣ sm n f + f n - f k
    by_cases e : k = n
    · subst e
      have : p ∣ sm k f := sm_dvd (fun i hi => h i (by omega) (by omega))
      rw [show sm k f + f k - f k = sm k f by omega]
      exact this
    · have h1 := ih (by omega) (fun i hi => h i (by omega))
      have h2 := h n (by omega) (by omega)
      rw [show sm n f + f n - f k = (sm n f - f k) + f n by omega]
      exact Int.dvd_add h1 h2
theorem sm_one {n k : Nat} {f : Nat → Int} (hk : k < n) (h : ∀ i, i < n → i ≠ k → f i = 0) : sm n f = f k := by
  have h0 : (0 : Int) ∣ sm n f - f k := sm_dvd1 hk (fun i hi hne => by rw [h i hi hne]; exact Int.dvd_refl 0)
  have := Int.zero_dvd.mp h0
  omega
theorem sm_swap (n m : Nat) (f : Nat → Nat → Int) : sm n (fun i => sm m (fun j => f i j)) = sm m (fun j => sm n (fun i => f i j)) := by
  induction n with
  | zero =>
    show (0 : Int) = sm m (fun j => 0)
    exact (sm_zero (fun _ _ => rfl)).symm
  | succ n ih =>
    show sm n (fun i => sm m (fun j => f i j)) + sm m (fun j => f n j) = sm m (fun j => sm n (fun i => f i j) + f n j)
    rw [ih, sm_add]
-- the numbers modulo p are a domain
def dm (p : Int) : Prop := ¬ p ∣ 1 ∧ ∀ a b : Int, p ∣ a * b → p ∣ a ∨ p ∣ b
theorem dm0 : dm 0 := by
  refine ⟨fun h => by have := Int.zero_dvd.mp h; omega, fun a b h => ?_⟩
  have := Int.zero_dvd.mp h
  rcases Int.mul_eq_zero.mp this with h | h
  · exact Or.inl (Int.zero_dvd.mpr h)
  · exact Or.inr (Int.zero_dvd.mpr h)
theorem dm.mul {p : Int} (h : dm p) {a b : Int} (ha : ¬ p ∣ a) (hb : ¬ p ∣ b) : ¬ p ∣ a * b := fun q => (h.2 a b q).elim ha hb
theorem dm.left {p : Int} (h : dm p) {a b : Int} (ha : ¬ p ∣ a) (hb : p ∣ a * b) : p ∣ b := (h.2 a b hb).resolve_left ha
-- the space of k rows A of n columns: x times a number that isn't 0 is a sum of multiples of rows
def sp (p : Int) (n k : Nat) (A : Nat → Nat → Int) (x : Nat → Int) : Prop := ∃ (s : Int) (c : Nat → Int), ¬ p ∣ s ∧ ∀ j, j < n → p ∣ s * x j - sm k (fun i => c i * A i j)
theorem sp_0 {p : Int} (hp : dm p) {n k : Nat} {A : Nat → Nat → Int} {x : Nat → Int} (h : ∀ j, j < n → p ∣ x j) : sp p n k A x := by
  refine ⟨1, fun _ => 0, hp.1, fun j hj => ?_⟩
  rw [sm_zero (fun i _ => by rw [Int.zero_mul]), Int.one_mul, Int.sub_zero]
  exact h j hj
theorem sp_row {p : Int} (hp : dm p) {n k : Nat} {A : Nat → Nat → Int} {r : Nat} (hr : r < k) : sp p n k A (A r) := by
  refine ⟨1, fun i => if i = r then 1 else 0, hp.1, fun j hj => ?_⟩
  rw [sm_one hr (fun i _ hne => by show (if i = r then (1 : Int) else 0) * A i j = 0; rw [if_neg hne, Int.zero_mul])]
  show p ∣ 1 * A r j - (if r = r then (1 : Int) else 0) * A r j
  rw [if_pos rfl, Int.sub_self]
  exact Int.dvd_zero p
/-- t z is a x + b y: then z is there with x and y -/
theorem sp_comb {p : Int} (hp : dm p) {n k : Nat} {A : Nat → Nat → Int} {x y z : Nat → Int} {t a b : Int} (hx : sp p n k A x) (hy : sp p n k A y) (ht : ¬ p ∣ t) (h : ∀ j, j < n → p ∣ t * z j - (a * x j + b * y j)) : sp p n k A z := by
  obtain ⟨s, c, hs, hc⟩ := hx
  obtain ⟨s', c', hs', hc'⟩ := hy
  refine ⟨s * s' * t, fun i => s' * a * c i + s * b * c' i, hp.mul (hp.mul hs hs') ht, fun j hj => ?_⟩
  have e : sm k (fun i => (s' * a * c i + s * b * c' i) * A i j) = s' * a * sm k (fun i => c i * A i j) + s * b * sm k (fun i => c' i * A i j) := by
    rw [← sm_mul, ← sm_mul, ← sm_add]
    exact sm_congr (fun i _ => by grind)
  rw [e]
  obtain ⟨u, hu⟩ := h j hj
  obtain ⟨v, hv⟩ := hc j hj
  obtain ⟨w, hw⟩ := hc' j hj
  generalize sm k (fun i => c i * A i j) = X at hv ⊢
  generalize sm k (fun i => c' i * A i j) = Y at hw ⊢
  refine ⟨s * s' * u + s' * a * v + s * b * w, ?_⟩
  grind
theorem sp_scale {p : Int} (hp : dm p) {n k : Nat} {A : Nat → Nat → Int} {x z : Nat → Int} {t a : Int} (hx : sp p n k A x) (ht : ¬ p ∣ t) (h : ∀ j, j < n → p ∣ t * z j - a * x j) : sp p n k A z :=
  sp_comb (a := a) (b := 0) hp hx hx ht (fun j hj => by rw [Int.zero_mul, Int.add_zero]; exact h j hj)
theorem sp_congr {p : Int} (hp : dm p) {n k : Nat} {A : Nat → Nat → Int} {x z : Nat → Int} (hx : sp p n k A x) (h : ∀ j, j < n → p ∣ z j - x j) : sp p n k A z :=
  sp_scale (a := 1) (t := 1) hp hx hp.1 (fun j hj => by rw [Int.one_mul, Int.one_mul]; exact h j hj)
theorem sp_sum {p : Int} (hp : dm p) {n k m : Nat} {A B : Nat → Nat → Int} {c : Nat → Int} (h : ∀ i, i < m → sp p n k A (B i)) : sp p n k A (fun j => sm m (fun i => c i * B i j)) := by
  induction m with
  | zero => exact sp_0 hp (fun j _ => Int.dvd_zero p)
  | succ m ih =>
    refine sp_comb (t := 1) (a := 1) (b := c m) hp (ih (fun i hi => h i (by omega))) (h m (by omega)) hp.1 (fun j _ => ?_)
    show p ∣ 1 * (sm m (fun i => c i * B i j) + c m * B m j) - (1 * sm m (fun i => c i * B i j) + c m * B m j)
    rw [Int.one_mul, Int.one_mul, Int.sub_self]
    exact Int.dvd_zero p
theorem sp_trans {p : Int} (hp : dm p) {n k m : Nat} {A B : Nat → Nat → Int} {x : Nat → Int} (hx : sp p n m B x) (h : ∀ i, i < m → sp p n k A (B i)) : sp p n k A x := by
  obtain ⟨s, c, hs, hc⟩ := hx
  exact sp_scale (a := 1) hp (sp_sum (c := c) hp h) hs (fun j hj => by rw [Int.one_mul]; exact hc j hj)
-- reduced: each row has a place, where all others are 0
def rd (p : Int) (n k : Nat) (T : Nat → Nat → Int) (pl : Nat → Nat) : Prop := (∀ r, r < k → pl r < n ∧ ¬ p ∣ T r (pl r)) ∧ ∀ r q, r < k → q < k → q ≠ r → p ∣ T q (pl r)
theorem rd_at {p : Int} {n k : Nat} {T : Nat → Nat → Int} {pl : Nat → Nat} (h : rd p n k T pl) {c : Nat → Int} {r : Nat} (hr : r < k) : p ∣ sm k (fun i => c i * T i (pl r)) - c r * T r (pl r) :=
  sm_dvd1 (f := fun i => c i * T i (pl r)) hr (fun i hi hne => Int.dvd_mul_of_dvd_right (h.2 r i hr hi hne))
/-- what is 0 at all places is 0 -/
theorem rd_zero {p : Int} (hp : dm p) {n k : Nat} {T : Nat → Nat → Int} {pl : Nat → Nat} {x : Nat → Int} (h : rd p n k T pl) (hx : sp p n k T x) (h0 : ∀ r, r < k → p ∣ x (pl r)) : ∀ j, j < n → p ∣ x j := by
  obtain ⟨s, c, hs, hc⟩ := hx
  have hcr : ∀ r, r < k → p ∣ c r := by
    intro r hr
    obtain ⟨hn, ht⟩ := h.1 r hr
    have h1 := hc (pl r) hn
    have h2 := rd_at (c := c) h hr
    have h3 : p ∣ s * x (pl r) := Int.dvd_mul_of_dvd_right (h0 r hr)
    have h4 : p ∣ T r (pl r) * c r := by
      obtain ⟨u, hu⟩ := h1
      obtain ⟨v, hv⟩ := h2
      obtain ⟨w, hw⟩ := h3
      refine ⟨w - u - v, ?_⟩
      generalize sm k (fun i => c i * T i (pl r)) = X at hu hv
      grind
    exact hp.left ht h4
  intro j hj
  have h1 := hc j hj
  have h2 : p ∣ sm k (fun i => c i * T i j) := sm_dvd (fun i hi => Int.dvd_mul_of_dvd_left (hcr i hi))
  have h3 : p ∣ s * x j := by
    have := Int.dvd_add h1 h2
    rwa [Int.sub_add_cancel] at this
  exact hp.left hs h3
/-- what is 0 at all places but row r's is a multiple of row r -/
theorem rd_row {p : Int} (hp : dm p) {n k : Nat} {T : Nat → Nat → Int} {pl : Nat → Nat} {x : Nat → Int} (h : rd p n k T pl) (hx : sp p n k T x) {r : Nat} (hr : r < k) (h0 : ∀ q, q < k → q ≠ r → p ∣ x (pl q)) : ∀ j, j < n → p ∣ T r (pl r) * x j - x (pl r) * T r j := by
  have hy : sp p n k T (fun j => T r (pl r) * x j - x (pl r) * T r j) := by
    refine sp_comb (t := 1) (a := T r (pl r)) (b := - x (pl r)) hp hx (sp_row hp hr) hp.1 (fun j _ => ⟨0, ?_⟩)
    grind
  refine rd_zero hp h hy (fun q hq => ?_)
  by_cases e : q = r
  · subst e
    show p ∣ T q (pl q) * x (pl q) - x (pl q) * T q (pl q)
    rw [Int.mul_comm, Int.sub_self]
    exact Int.dvd_zero p
  · exact Int.dvd_sub (Int.dvd_mul_of_dvd_right (h0 q hq e)) (Int.dvd_mul_of_dvd_right (h.2 q r hq hr (Ne.symm e)))
-- as it is told: p = 0: whole numbers with no divisor in common, above 0 at the place; else 0 .. p - 1, and 1 at the place
def pm (n : Nat) (x : Nat → Int) : Prop := ∀ d : Int, (∀ j, j < n → d ∣ x j) → d ∣ 1
def tl (p : Int) (n : Nat) (x : Nat → Int) (c : Nat) : Prop := if p = 0 then pm n x ∧ 0 < x c else x c = 1 ∧ ∀ j, j < n → 0 ≤ x j ∧ x j < p
theorem dvd1_pos {a : Int} (h : 0 < a) (h1 : a ∣ 1) : a = 1 := by
  have := Int.le_of_dvd (by omega) h1
  omega
theorem idvd {k m n : Int} (h : Int.gcd k m = 1) (h2 : k ∣ m * n) : k ∣ n := by
  have h3 : k.natAbs ∣ m.natAbs * n.natAbs := by rw [← Int.natAbs_mul]; exact Int.natAbs_dvd_natAbs.mpr h2
  exact Int.natAbs_dvd_natAbs.mp (Nat.Coprime.dvd_of_dvd_mul_left h h3)
theorem pm_eq {n : Nat} {x y : Nat → Int} {a b : Int} (ha : 0 < a) (hb : 0 < b) (hx : pm n x) (hy : pm n y) (h : ∀ j, j < n → a * x j = b * y j) : ∀ j, j < n → x j = y j := by
  -- reduce a / b to lowest terms
  have hg : 0 < (Int.gcd a b : Int) := by
    have : Int.gcd a b ≠ 0 := fun e => by have := (Int.gcd_eq_zero_iff.mp e).1; omega
    omega
  obtain ⟨a', ha'⟩ : (Int.gcd a b : Int) ∣ a := Int.gcd_dvd_left ..
  obtain ⟨b', hb'⟩ : (Int.gcd a b : Int) ∣ b := Int.gcd_dvd_right ..
  generalize hG : (Int.gcd a b : Int) = g at *
  have hco : Int.gcd a' b' = 1 := by
    have h1 : Int.gcd a b = Int.gcd (g * a') (g * b') := by rw [← ha', ← hb']
    rw [Int.gcd_mul_left] at h1
    have h2 : (Int.gcd a b : Int) = (g.natAbs * Int.gcd a' b' : Nat) := by rw [h1]
    rw [hG] at h2
    have h3 : (g.natAbs : Int) = g := Int.natAbs_of_nonneg (by omega)
    rw [Int.natCast_mul, h3] at h2
    have h4 : g * (Int.gcd a' b' : Int) = g * 1 := by rw [← h2, Int.mul_one]
    have := Int.eq_of_mul_eq_mul_left (by omega) h4
    omega
  have ha0 : 0 < a' := by
    rcases Int.lt_trichotomy a' 0 with h | h | h
    · have := Int.mul_neg_of_pos_of_neg hg h; omega
    · rw [h, Int.mul_zero] at ha'; omega
    · exact h
  have hb0 : 0 < b' := by
    rcases Int.lt_trichotomy b' 0 with h | h | h
    · have := Int.mul_neg_of_pos_of_neg hg h; omega
    · rw [h, Int.mul_zero] at hb'; omega
    · exact h
  have h' : ∀ j, j < n → a' * x j = b' * y j := by
    intro j hj
    have := h j hj
    rw [ha', hb', Int.mul_assoc, Int.mul_assoc] at this
    exact Int.eq_of_mul_eq_mul_left (by omega) this
  have hb1 : b' ∣ 1 := hx b' (fun j hj => by
    have h1 : b' ∣ a' * x j := ⟨y j, h' j hj⟩
    exact idvd (by rw [Int.gcd_comm]; exact hco) h1)
  have ha1 : a' ∣ 1 := hy a' (fun j hj => by
    have h1 : a' ∣ b' * y j := ⟨x j, (h' j hj).symm⟩
    exact idvd hco h1)
  have e1 := dvd1_pos ha0 ha1
  have e2 := dvd1_pos hb0 hb1
  intro j hj
  have := h' j hj
  rw [e1, e2, Int.one_mul, Int.one_mul] at this
  exact this
end
section
-- ===== a reduced table is known by its space, its places and how rows are told =====
theorem tl_eq {p : Int} (h0p : 0 ≤ p) {n : Nat} {x y : Nat → Int} {c : Nat} (hc : c < n) (hx : tl p n x c) (hy : tl p n y c) (h : ∀ j, j < n → p ∣ x c * y j - y c * x j) : ∀ j, j < n → x j = y j := by
  unfold tl at hx hy
  by_cases e : p = 0
  · rw [if_pos e] at hx hy
    subst e
    refine pm_eq hy.2 hx.2 hx.1 hy.1 (fun j hj => ?_)
    have := Int.zero_dvd.mp (h j hj)
    omega
  · rw [if_neg e] at hx hy
    intro j hj
    obtain ⟨u, hu⟩ := h j hj
    rw [hx.1, hy.1, Int.one_mul, Int.one_mul] at hu
    have h1 := hx.2 j hj
    have h2 := hy.2 j hj
    have hu0 : u = 0 := by
      rcases Int.lt_trichotomy u 0 with h | h | h
      · have : p * u ≤ p * (-1) := Int.mul_le_mul_of_nonneg_left (by omega) (by omega)
        omega
      · exact h
      · have : p * 1 ≤ p * u := Int.mul_le_mul_of_nonneg_left (by omega) (by omega)
        omega
    rw [hu0, Int.mul_zero] at hu
    omega
/-- two reduced tables of one space, with the same places, told -/
theorem rd_eq {p : Int} (hp : dm p) (h0p : 0 ≤ p) {n k : Nat} {T S : Nat → Nat → Int} {pl : Nat → Nat} (hT : rd p n k T pl) (hS : rd p n k S pl) (hTS : ∀ r, r < k → sp p n k T (S r)) (tT : ∀ r, r < k → tl p n (T r) (pl r)) (tS : ∀ r, r < k → tl p n (S r) (pl r)) : ∀ r j, r < k → j < n → T r j = S r j := by
  intro r j hr hj
  exact tl_eq h0p (hT.1 r hr).1 (tT r hr) (tS r hr) (rd_row hp hT (hTS r hr) hr (fun q hq hne => hS.2 q r hq hr (Ne.symm hne))) j hj
-- from the left: places rise, and a row is 0 ahead of its place
def lf (p : Int) (k : Nat) (T : Nat → Nat → Int) (pl : Nat → Nat) : Prop := (∀ r q, r < q → q < k → pl r < pl q) ∧ ∀ r j, r < k → j < pl r → p ∣ T r j
theorem lf_le {p : Int} (hp : dm p) {n k k' : Nat} {T S : Nat → Nat → Int} {pl pl' : Nat → Nat} (hT : rd p n k T pl) (hS : rd p n k' S pl') (lT : lf p k T pl) (lS : lf p k' S pl') (hST : ∀ r, r < k → sp p n k' S (T r)) {r : Nat} (hr : r < k) (hb : ∀ i, i < r → i < k' ∧ pl i = pl' i) : r < k' ∧ pl' r ≤ pl r := by
  obtain ⟨s, c, hs, hc⟩ := hST r hr
  obtain ⟨hn, ht⟩ := hT.1 r hr
  have hcr : ∀ i, i < r → p ∣ c i := by
    intro i hi
    obtain ⟨hi', he⟩ := hb i hi
    have h1 := hc (pl' i) (hS.1 i hi').1
    have h2 := rd_at (c := c) hS hi'
    have h3 : p ∣ T r (pl i) := hT.2 i r (by omega) hr (by omega)
    rw [he] at h3
    have h4 : p ∣ S i (pl' i) * c i := by
      obtain ⟨u, hu⟩ := h1
      obtain ⟨v, hv⟩ := h2
      obtain ⟨w, hw⟩ := h3
      refine ⟨s * w - u - v, ?_⟩
      generalize sm k' (fun i => c i * S i (pl' i)) = X at hu hv
      grind
    exact hp.left (hS.1 i hi').2 h4
  by_cases hcase : r < k' ∧ pl' r ≤ pl r
  · exact hcase
  · exfalso
    have h1 := hc (pl r) hn
    have h2 : p ∣ sm k' (fun i => c i * S i (pl r)) := by
      refine sm_dvd (fun i hi => ?_)
      by_cases hir : i < r
      · exact Int.dvd_mul_of_dvd_left (hcr i hir)
      · have hrk : r < k' := by omega
        have hlt : pl r < pl' r := by
          have : ¬ pl' r ≤ pl r := fun h => hcase ⟨hrk, h⟩
          omega
        have hle : pl' r ≤ pl' i := by
          by_cases e : r = i
          · rw [e]; exact Nat.le_refl _
          · exact Nat.le_of_lt (lS.1 r i (by omega) hi)
        exact Int.dvd_mul_of_dvd_right (lS.2 i (pl r) hi (by omega))
    have h3 : p ∣ s * T r (pl r) := by
      have := Int.dvd_add h1 h2
      rwa [Int.sub_add_cancel] at this
    exact ht (hp.left hs h3)
theorem lf_pl {p : Int} (hp : dm p) {n k k' : Nat} {T S : Nat → Nat → Int} {pl pl' : Nat → Nat} (hT : rd p n k T pl) (hS : rd p n k' S pl') (lT : lf p k T pl) (lS : lf p k' S pl') (hST : ∀ r, r < k → sp p n k' S (T r)) (hTS : ∀ r, r < k' → sp p n k T (S r)) : ∀ r, r < k → r < k' ∧ pl r = pl' r := by
  intro r
  induction r using Nat.strongRecOn with
  | _ r ih =>
    intro hr
    have hb : ∀ i, i < r → i < k' ∧ pl i = pl' i := fun i hi => ih i hi (by omega)
    obtain ⟨h1, h2⟩ := lf_le hp hT hS lT lS hST hr hb
    obtain ⟨-, h3⟩ := lf_le hp hS hT lS lT hTS h1 (fun i hi => ⟨by omega, (hb i hi).2.symm⟩)
    exact ⟨h1, by omega⟩
/-- two tables of one space, both reduced from the left, told: they are one -/
theorem lf_eq {p : Int} (hp : dm p) (h0p : 0 ≤ p) {n k k' : Nat} {T S : Nat → Nat → Int} {pl pl' : Nat → Nat} (hT : rd p n k T pl) (hS : rd p n k' S pl') (lT : lf p k T pl) (lS : lf p k' S pl') (hST : ∀ r, r < k → sp p n k' S (T r)) (hTS : ∀ r, r < k' → sp p n k T (S r)) (tT : ∀ r, r < k → tl p n (T r) (pl r)) (tS : ∀ r, r < k' → tl p n (S r) (pl' r)) : k = k' ∧ (∀ r, r < k → pl r = pl' r) ∧ ∀ r j, r < k → j < n → T r j = S r j := by
  have h1 := lf_pl hp hT hS lT lS hST hTS
  have h2 := lf_pl hp hS hT lS lT hTS hST
  have hk : k = k' := by
    rcases Nat.lt_trichotomy k k' with h | h | h
    · have := (h2 k h).1; omega
    · exact h
    · have := (h1 k' h).1; omega
  subst hk
  have hpl : ∀ r, r < k → pl r = pl' r := fun r hr => (h1 r hr).2
  refine ⟨rfl, hpl, ?_⟩
  have hS' : rd p n k S pl := ⟨fun r hr => by rw [hpl r hr]; exact hS.1 r hr, fun r q hr hq hne => by rw [hpl r hr]; exact hS.2 r q hr hq hne⟩
  exact rd_eq hp h0p hT hS' hTS tT (fun r hr => by rw [hpl r hr]; exact tS r hr)
-- a prime modulus is a domain
def prm (q : Nat) : Prop := 2 ≤ q ∧ ∀ d : Nat, d ∣ q → d = 1 ∨ d = q
theorem dmP {q : Nat} (h : prm q) : dm (q : Int) := by
  refine ⟨fun h1 => ?_, fun a b hab => ?_⟩
  · have := Int.le_of_dvd (by omega) h1
    have := h.1
    omega
  · have hg : Int.gcd (q : Int) a ∣ q := by
      have := Int.gcd_dvd_left (a := (q : Int)) (b := a)
      exact Int.natCast_dvd_natCast.mp this
    rcases h.2 _ hg with e | e
    · right
      exact idvd e hab
    · left
      have := Int.gcd_dvd_right (a := (q : Int)) (b := a)
      rw [e] at this
      exact this
end
section
-- ===== small solutions: the pigeonhole, and Siegel's bound =====
/-- more things than holes: two lie in one -/
theorem php : ∀ (m n : Nat) (f : Nat → Nat), m < n → (∀ i, i < n → f i < m) → ∃ i j, i < j ∧ j < n ∧ f i = f j
  | 0, n, f, hn, h => by
    have := h 0 (by omega)
    omega
  | m + 1, n, f, hn, h => by
    by_cases hex : ∃ i, i + 1 < n ∧ f i = f (n - 1)
    · obtain ⟨i, h1, h2⟩ := hex
      exact ⟨i, n - 1, by omega, by omega, h2⟩
    · have hne : ∀ i, i + 1 < n → f i ≠ f (n - 1) := fun i hi he => hex ⟨i, hi, he⟩
      have hl := h (n - 1) (by omega)
      obtain ⟨i, j, h1, h2, h3⟩ := php m (n - 1) (fun i => if f i = m then f (n - 1) else f i) (by omega) (fun i hi => by
        have a1 := h i (by omega)
        have a2 := hne i (by omega)
        show (if f i = m then f (n - 1) else f i) < m
        by_cases e : f i = m
        · rw [if_pos e]; omega
        · rw [if_neg e]; omega)
      refine ⟨i, j, h1, by omega, ?_⟩
      have b1 := hne i (by omega)
      have b2 := hne j (by omega)
      have h3 : (if f i = m then f (n - 1) else f i) = (if f j = m then f (n - 1) else f j) := h3
      by_cases e1 : f i = m <;> by_cases e2 : f j = m
      · omega
      · rw [if_pos e1, if_neg e2] at h3; exact absurd h3.symm b2
      · rw [if_neg e1, if_pos e2] at h3; exact absurd h3 b1
      · rw [if_neg e1, if_neg e2] at h3; exact h3
-- digits to a base
def dg (b : Nat) (x i : Nat) : Nat := x / b ^ i % b
theorem dg_lt {b x i : Nat} (hb : 0 < b) : dg b x i < b := Nat.mod_lt _ hb
/-- a number below b ^ m is known by its m digits -/
theorem dg_inj {b : Nat} (hb : 0 < b) : ∀ (m x y : Nat), x < b ^ m → y < b ^ m → (∀ i, i < m → dg b x i = dg b y i) → x = y
  | 0, x, y, hx, hy, _ => by
    rw [Nat.pow_zero] at hx hy
    omega
  | m + 1, x, y, hx, hy, h => by
    have h0 := h 0 (by omega)
    unfold dg at h0
    rw [Nat.pow_zero, Nat.div_one, Nat.div_one] at h0
    have hx' : x / b < b ^ m := by rw [Nat.div_lt_iff_lt_mul hb]; rw [Nat.pow_succ] at hx; exact hx
    have hy' : y / b < b ^ m := by rw [Nat.div_lt_iff_lt_mul hb]; rw [Nat.pow_succ] at hy; exact hy
    have := dg_inj hb m (x / b) (y / b) hx' hy' (fun i hi => by
      have := h (i + 1) (by omega)
      unfold dg at this ⊢
      rw [Nat.div_div_eq_div_mul, Nat.div_div_eq_div_mul, ← Nat.pow_succ']
      exact this)
    have e1 := Nat.div_add_mod x b
    have e2 := Nat.div_add_mod y b
    rw [this, h0] at e1
    omega
-- the number whose digits to the base b are given
def cd (b : Nat) : Nat → (Nat → Nat) → Nat
  | 0, _ => 0
  | m + 1, d => cd b m d + d m * b ^ m
theorem cd_lt {b : Nat} : ∀ (m : Nat) {d : Nat → Nat}, (∀ i, i < m → d i < b) → cd b m d < b ^ m
  | 0, d, _ => by show 0 < b ^ 0; rw [Nat.pow_zero]; omega
  | m + 1, d, h => by
    have h1 := cd_lt m (d := d) (fun i hi => h i (by omega))
    have h2 := h m (by omega)
    show cd b m d + d m * b ^ m < b ^ (m + 1)
    rw [Nat.pow_succ, Nat.mul_comm (b ^ m) b]
    have h3 : (d m + 1) * b ^ m ≤ b * b ^ m := Nat.mul_le_mul_right _ (by omega)
    rw [Nat.add_mul, Nat.one_mul] at h3
    omega
theorem cd_inj {b : Nat} : ∀ (m : Nat) {d e : Nat → Nat}, (∀ i, i < m → d i < b) → (∀ i, i < m → e i < b) → cd b m d = cd b m e → ∀ i, i < m → d i = e i
  | 0, d, e, _, _, _ => fun i hi => by omega
  | m + 1, d, e, hd, he, h => by
    have a1 := cd_lt m (d := d) (fun i hi => hd i (by omega))
    have a2 := cd_lt m (d := e) (fun i hi => he i (by omega))
    have h : cd b m d + d m * b ^ m = cd b m e + e m * b ^ m := h
    have hm : d m = e m := by
      have q1 : (cd b m d + d m * b ^ m) / b ^ m = d m := by
        rw [Nat.add_mul_div_right _ _ (by omega), Nat.div_eq_of_lt a1]; omega
      have q2 : (cd b m e + e m * b ^ m) / b ^ m = e m := by
        rw [Nat.add_mul_div_right _ _ (by omega), Nat.div_eq_of_lt a2]; omega
      rw [← q1, h, q2]
    have hr : cd b m d = cd b m e := by rw [hm] at h; omega
    have ih := cd_inj m (fun i hi => hd i (by omega)) (fun i hi => he i (by omega)) hr
    intro i hi
    by_cases e1 : i = m
    · rw [e1]; exact hm
    · exact ih i (by omega)
theorem sm_abs {n : Nat} {f : Nat → Int} {B : Nat} (h : ∀ i, i < n → (f i).natAbs ≤ B) : (sm n f).natAbs ≤ n * B := by
  induction n with
  | zero => show (0 : Int).natAbs ≤ _; simp
  | succ n ih =>
    show (sm n f + f n).natAbs ≤ (n + 1) * B
    have h1 := ih (fun i hi => h i (by omega))
    have h2 := h n (by omega)
    rw [Nat.add_mul, Nat.one_mul]
    have := Int.natAbs_add_le (sm n f) (f n)
    omega
/-- M equations in M + 1 unknowns, with whole numbers up to C: a solution, not 0, of whole numbers up to ((M + 1) C) ^ M -/
theorem siegel (M C : Nat) (hC : 0 < C) (E : Nat → Nat → Int) (hE : ∀ r i, r < M → i < M + 1 → (E r i).natAbs ≤ C) : ∃ y : Nat → Int, (∃ i, i < M + 1 ∧ y i ≠ 0) ∧ (∀ i, (y i).natAbs ≤ ((M + 1) * C) ^ M) ∧ ∀ r, r < M → sm (M + 1) (fun i => y i * E r i) = 0 := by
  generalize hY : ((M + 1) * C) ^ M = Y
  generalize hB : (M + 1) * C * Y + 1 = B
  have hN : 0 < (M + 1) * C := Nat.mul_pos (by omega) hC
  -- a row's value at the digits of x, moved up by what can be taken away
  let ng : Nat → Int := fun r => sm (M + 1) (fun i => ((Y * ((- E r i).toNat) : Nat) : Int))
  let val : Nat → Nat → Int := fun x r => sm (M + 1) (fun i => ((dg (Y + 1) x i : Nat) : Int) * E r i) + ng r
  have hval : ∀ x r, r < M → 0 ≤ val x r ∧ val x r < B := by
    intro x r hr
    have e1 : val x r = sm (M + 1) (fun i => ((dg (Y + 1) x i : Nat) : Int) * E r i + ((Y * ((- E r i).toNat) : Nat) : Int)) := (sm_add _ _ _).symm
    have key : ∀ i, i < M + 1 → 0 ≤ ((dg (Y + 1) x i : Nat) : Int) * E r i + ((Y * ((- E r i).toNat) : Nat) : Int) ∧ ((dg (Y + 1) x i : Nat) : Int) * E r i + ((Y * ((- E r i).toNat) : Nat) : Int) ≤ ((C * Y : Nat) : Int) := by
      intro i hi
      have hd : dg (Y + 1) x i ≤ Y := Nat.le_of_lt_succ (dg_lt (by omega))
      have hc := hE r i hr hi
      generalize dg (Y + 1) x i = d at hd
      generalize E r i = z at hc
      rcases Int.lt_or_le z 0 with hz | hz
      · obtain ⟨w, rfl⟩ : ∃ w : Nat, z = -(w : Int) := ⟨z.natAbs, by omega⟩
        have hw : w ≤ C := by omega
        have h1 : (- -(w : Int)).toNat = w := by omega
        rw [h1]
        have h2 : d * w ≤ Y * w := Nat.mul_le_mul_right _ hd
        have h3 : Y * w ≤ C * Y := by rw [Nat.mul_comm]; exact Nat.mul_le_mul_right _ hw
        have h4 : (d : Int) * -(w : Int) = -((d * w : Nat) : Int) := by rw [Int.natCast_mul, Int.mul_neg]
        rw [h4]
        omega
      · obtain ⟨w, rfl⟩ : ∃ w : Nat, z = (w : Int) := ⟨z.natAbs, by omega⟩
        have hw : w ≤ C := by omega
        have h1 : (-(w : Int)).toNat = 0 := by omega
        rw [h1]
        have h2 : d * w ≤ C * Y := by rw [Nat.mul_comm]; exact Nat.mul_le_mul hw hd
        have h4 : (d : Int) * (w : Int) = ((d * w : Nat) : Int) := by rw [Int.natCast_mul]
        rw [h4, Nat.mul_zero]
        omega
    have lo : ∀ (m : Nat) (g : Nat → Int) (K : Nat), (∀ i, i < m → 0 ≤ g i ∧ g i ≤ (K : Int)) → 0 ≤ sm m g ∧ sm m g ≤ ((m * K : Nat) : Int) := by
      intro m g K
      induction m with
      | zero => intro _; exact ⟨Int.le_refl 0, by show (0 : Int) ≤ _; omega⟩
      | succ m ih =>
        intro h
        have h1 := ih (fun i hi => h i (by omega))
        have h2 := h m (by omega)
        have h3 : ((m + 1) * K : Nat) = m * K + K := by rw [Nat.add_mul, Nat.one_mul]
        show 0 ≤ sm m g + g m ∧ sm m g + g m ≤ (((m + 1) * K : Nat) : Int)
        rw [h3]
        omega
    have := lo (M + 1) _ (C * Y) key
    rw [e1]
    have h5 : (M + 1) * (C * Y) = (M + 1) * C * Y := (Nat.mul_assoc _ _ _).symm
    rw [h5] at this
    omega
  have hhole : B ^ M < (Y + 1) ^ (M + 1) := by
    have h1 : B ≤ (M + 1) * C * (Y + 1) := by rw [Nat.mul_add, Nat.mul_one]; omega
    have h2 : B ^ M ≤ ((M + 1) * C * (Y + 1)) ^ M := Nat.pow_le_pow_left h1 M
    rw [Nat.mul_pow, hY] at h2
    have h3 : Y * (Y + 1) ^ M < (Y + 1) * (Y + 1) ^ M := Nat.mul_lt_mul_of_pos_right (by omega) (Nat.pow_pos (by omega))
    rw [Nat.pow_succ, Nat.mul_comm ((Y + 1) ^ M) (Y + 1)]
    omega
  obtain ⟨x, x', h1, h2, h3⟩ := php (B ^ M) ((Y + 1) ^ (M + 1)) (fun x => cd B M (fun r => (val x r).toNat)) hhole (fun x _ => cd_lt M (fun r hr => by have := hval x r hr; omega))
  have h4 := cd_inj M (fun r hr => by have := hval x r hr; omega) (fun r hr => by have := hval x' r hr; omega) h3
  refine ⟨fun i => ((dg (Y + 1) x i : Nat) : Int) - ((dg (Y + 1) x' i : Nat) : Int), ?_, ?_, ?_⟩
  · by_cases hex : ∃ i, i < M + 1 ∧ dg (Y + 1) x i ≠ dg (Y + 1) x' i
    · obtain ⟨i, hi, hne⟩ := hex
      exact ⟨i, hi, by show ((dg (Y + 1) x i : Nat) : Int) - ((dg (Y + 1) x' i : Nat) : Int) ≠ 0; omega⟩
    · exfalso
      have := dg_inj (b := Y + 1) (by omega) (M + 1) x x' (by omega) h2 (fun i hi => Classical.byContradiction fun hne => hex ⟨i, hi, hne⟩)
      omega
  · intro i
    have a1 : dg (Y + 1) x i ≤ Y := Nat.le_of_lt_succ (dg_lt (by omega))
    have a2 : dg (Y + 1) x' i ≤ Y := Nat.le_of_lt_succ (dg_lt (by omega))
    show (((dg (Y + 1) x i : Nat) : Int) - ((dg (Y + 1) x' i : Nat) : Int)).natAbs ≤ Y
    omega
  · intro r hr
    have a1 := hval x r hr
    have a2 := hval x' r hr
    have a3 := h4 r hr
    have a4 : val x r = val x' r := by omega
    have a5 : sm (M + 1) (fun i => ((dg (Y + 1) x i : Nat) : Int) * E r i) = sm (M + 1) (fun i => ((dg (Y + 1) x' i : Nat) : Int) * E r i) := by
      have : sm (M + 1) (fun i => ((dg (Y + 1) x i : Nat) : Int) * E r i) + ng r = sm (M + 1) (fun i => ((dg (Y + 1) x' i : Nat) : Int) * E r i) + ng r := a4
      omega
    have a6 : sm (M + 1) (fun i => (((dg (Y + 1) x i : Nat) : Int) - ((dg (Y + 1) x' i : Nat) : Int)) * E r i) = sm (M + 1) (fun i => ((dg (Y + 1) x i : Nat) : Int) * E r i) + (-1) * sm (M + 1) (fun i => ((dg (Y + 1) x' i : Nat) : Int) * E r i) := by
      rw [← sm_mul, ← sm_add]
      exact sm_congr (fun i _ => by grind)
    rw [a6, a5]
    omega
end
section
-- ===== spaces over the rationals that hold small vectors: under each vector of theirs lies one of small whole numbers =====
theorem sm_sub (n : Nat) (f g : Nat → Int) : sm n (fun i => f i - g i) = sm n f - sm n g := by
  induction n with
  | zero => rfl
  | succ n ih =>
    show sm n (fun i => f i - g i) + (f n - g n) = (sm n f + f n) - (sm n g + g n)
    rw [ih]; omega
theorem sm_upd {n k : Nat} {v : Int} {f : Nat → Int} (hk : k < n) : sm n (fun i => if i = k then v else f i) = sm n f - f k + v := by
  induction n with
  | zero => omega
  | succ n ih =>
    show sm n (fun i => if i = k then v else f i) + (if n = k then v else f n) = sm n f + f n - f k + v
    by_cases e : n = k
    · subst e
      rw [if_pos rfl, sm_congr (g := f) (fun i hi => if_neg (by omega))]
      omega
    · rw [if_neg e, ih (by omega)]
      omega
/-- the k-th goes out, the last comes in its stead -/
theorem sm_out {n k : Nat} {f : Nat → Int} (hk : k < n + 1) : sm (n + 1) f = sm n (fun i => if i = k then f n else f i) + f k := by
  show sm n f + f n = _
  by_cases e : k = n
  · subst e
    rw [sm_congr (f := fun i => if i = k then f k else f i) (g := f) (fun i hi => if_neg (by omega))]
  · rw [sm_upd (by omega)]
    omega
noncomputable def ct : Nat → (Nat → Prop) → Nat
  | 0, _ => 0
  | n + 1, P => ct n P + @ite Nat (P n) (Classical.propDecidable _) 1 0
theorem ct_t {n : Nat} {P : Nat → Prop} (h : P n) : ct (n + 1) P = ct n P + 1 := by
  show ct n P + @ite Nat (P n) (Classical.propDecidable _) 1 0 = _
  rw [if_pos h]
theorem ct_f {n : Nat} {P : Nat → Prop} (h : ¬ P n) : ct (n + 1) P = ct n P := by
  show ct n P + @ite Nat (P n) (Classical.propDecidable _) 1 0 = _
  rw [if_neg h]; omega
theorem ct_le (n : Nat) (P : Nat → Prop) : ct n P ≤ n := by
  induction n with
  | zero => exact Nat.le_refl 0
  | succ n ih =>
    by_cases h : P n
    · rw [ct_t h]; omega
    · rw [ct_f h]; omega
theorem ct_1 {n j : Nat} {P : Nat → Prop} (hj : j < n) (h : ¬ P j) : ct n P + 1 ≤ n := by
  induction n with
  | zero => omega
  | succ n ih =>
    by_cases e : j = n
    · subst e
      rw [ct_f h]
      have := ct_le j P
      omega
    · have := ih (by omega)
      by_cases hp : P n
      · rw [ct_t hp]; omega
      · rw [ct_f hp]; omega
theorem ct_2 {n i j : Nat} {P : Nat → Prop} (hij : i < j) (hj : j < n) (h : ¬ P i) (h' : ¬ P j) : ct n P + 2 ≤ n := by
  induction n with
  | zero => omega
  | succ n ih =>
    by_cases e : j = n
    · subst e
      rw [ct_f h']
      have := ct_1 (n := j) (P := P) hij h
      omega
    · have := ih (by omega)
      by_cases hp : P n
      · rw [ct_t hp]; omega
      · rw [ct_f hp]; omega
/-- of q equations in m unknowns M speak for all, and the solutions are the sums of m - M of them -/
theorem cutE (m : Nat) (E : Nat → Nat → Int) (P : Nat → Prop) (hP : ∀ r, ¬ P r → ∀ i, i < m → E r i = 0) : ∀ q : Nat, ∃ (d M : Nat) (ch : Nat → Nat) (b : Nat → Nat → Int), d + M = m ∧ M ≤ ct q P ∧ (∀ r, r < M → ch r < q) ∧ (∀ i r, i < d → r < q → sm m (fun u => b i u * E r u) = 0) ∧
    ∀ z : Nat → Int, (∀ r, r < M → sm m (fun u => z u * E (ch r) u) = 0) → ∃ (t : Int) (c : Nat → Int), t ≠ 0 ∧ ∀ u, u < m → t * z u = sm d (fun i => c i * b i u) := by
  intro q
  induction q with
  | zero =>
    refine ⟨m, 0, fun _ => 0, fun i u => if u = i then 1 else 0, by omega, Nat.zero_le _, fun r h => by omega, fun i r _ h => by omega, fun z _ => ⟨1, z, by omega, fun u hu => ?_⟩⟩
    rw [sm_one hu (fun i _ hne => by show z i * (if u = i then (1 : Int) else 0) = 0; rw [if_neg (by omega), Int.mul_zero])]
    show 1 * z u = z u * (if u = u then (1 : Int) else 0)
    rw [if_pos rfl]
    omega
  | succ q ih =>
    obtain ⟨d, M, ch, b, h1, h2, h3, h4, h5⟩ := ih
    by_cases hex : ∃ i, i < d ∧ sm m (fun u => b i u * E q u) ≠ 0
    · obtain ⟨k, hk, hne⟩ := hex
      obtain ⟨d', rfl⟩ : ∃ d', d = d' + 1 := ⟨d - 1, by omega⟩
      have hPq : P q := Classical.byContradiction fun hn => hne (sm_zero (fun u hu => by rw [hP q hn u hu, Int.mul_zero]))
      generalize hL : (fun i => sm m (fun u => b i u * E q u)) = L
      have hLk : ∀ i, sm m (fun u => b i u * E q u) = L i := fun i => by rw [← hL]
      rw [hLk] at hne
      let b' : Nat → Nat → Int := fun i u => if i = k then L k * b d' u - L d' * b k u else L k * b i u - L i * b k u
      have hb' : ∀ i r, sm m (fun u => b' i u * E r u) = if i = k then L k * sm m (fun u => b d' u * E r u) - L d' * sm m (fun u => b k u * E r u) else L k * sm m (fun u => b i u * E r u) - L i * sm m (fun u => b k u * E r u) := by
        intro i r
        by_cases e : i = k
        · rw [if_pos e, ← sm_mul, ← sm_mul, ← sm_sub]
          refine sm_congr (fun u _ => ?_)
          show (if i = k then L k * b d' u - L d' * b k u else L k * b i u - L i * b k u) * E r u = _
          rw [if_pos e]
          grind
        · rw [if_neg e, ← sm_mul, ← sm_mul, ← sm_sub]
          refine sm_congr (fun u _ => ?_)
          show (if i = k then L k * b d' u - L d' * b k u else L k * b i u - L i * b k u) * E r u = _
          rw [if_neg e]
          grind
      refine ⟨d', M + 1, fun r => if r = M then q else ch r, b', by omega, by rw [ct_t hPq]; omega, fun r hr => ?_, fun i r hi hr => ?_, fun z hz => ?_⟩
      · show (if r = M then q else ch r) < q + 1
        by_cases e : r = M
        · rw [if_pos e]; omega
        · rw [if_neg e]; have := h3 r (by omega); omega
      · rw [hb' i r]
        by_cases e : r = q
        · subst e
          rw [hLk, hLk, hLk]
          by_cases e2 : i = k
          · rw [if_pos e2, Int.mul_comm, Int.sub_self]
          · rw [if_neg e2, Int.mul_comm, Int.sub_self]
        · rw [h4 d' r (by omega) (by omega), h4 k r hk (by omega)]
          by_cases e2 : i = k
          · rw [if_pos e2]; simp
          · rw [if_neg e2, h4 i r (by omega) (by omega)]; simp
      · obtain ⟨t, c, ht, hc⟩ := h5 z (fun r hr => by
          have := hz r (by omega)
          simp only [if_neg (show r ≠ M by omega)] at this
          exact this)
        have hq := hz M (by omega)
        simp only [if_pos] at hq
        -- the new equation says that the sum of c i * L i is 0
        have hcl : sm (d' + 1) (fun i => c i * L i) = 0 := by
          have e1 : t * sm m (fun u => z u * E q u) = sm m (fun u => sm (d' + 1) (fun i => c i * b i u * E q u)) := by
            rw [← sm_mul]
            refine sm_congr (fun u hu => ?_)
            have e2 : sm (d' + 1) (fun i => c i * b i u * E q u) = E q u * sm (d' + 1) (fun i => c i * b i u) := by
              rw [← sm_mul]
              exact sm_congr (fun i _ => by grind)
            rw [e2, ← hc u hu]
            grind
          rw [hq, Int.mul_zero, sm_swap] at e1
          rw [e1]
          refine sm_congr (fun i _ => ?_)
          rw [← hLk i, ← sm_mul]
          exact sm_congr (fun u _ => by grind)
        refine ⟨L k * t, fun i => if i = k then c d' else c i, fun e => by rcases Int.mul_eq_zero.mp e with h | h; exact hne h; exact ht h, fun u hu => ?_⟩
        have e1 : L k * t * z u = L k * sm (d' + 1) (fun i => c i * b i u) - b k u * sm (d' + 1) (fun i => c i * L i) := by
          rw [hcl, Int.mul_zero, Int.sub_zero, ← hc u hu]
          grind
        have e2 : L k * sm (d' + 1) (fun i => c i * b i u) - b k u * sm (d' + 1) (fun i => c i * L i) = sm (d' + 1) (fun i => c i * (L k * b i u - L i * b k u)) := by
          rw [← sm_mul, ← sm_mul, ← sm_sub]
          exact sm_congr (fun i _ => by grind)
        have e3 : c k * (L k * b k u - L k * b k u) = 0 := by rw [Int.sub_self, Int.mul_zero]
        rw [e1, e2, sm_out hk, e3, Int.add_zero]
        refine sm_congr (fun i _ => ?_)
        show _ = (if i = k then c d' else c i) * (if i = k then L k * b d' u - L d' * b k u else L k * b i u - L i * b k u)
        by_cases e : i = k
        · rw [if_pos e, if_pos e, if_pos e]
        · rw [if_neg e, if_neg e, if_neg e]
    · refine ⟨d, M, ch, b, h1, ?_, fun r hr => by have := h3 r hr; omega, fun i r hi hr => ?_, h5⟩
      · by_cases hp : P q
        · rw [ct_t hp]; omega
        · rw [ct_f hp]; exact h2
      · by_cases e : r = q
        · subst e
          exact Classical.byContradiction fun hn => hex ⟨i, hi, hn⟩
        · exact h4 i r hi (by omega)
/-- a system with a solution has a small one -/
theorem smallE {m q C : Nat} (hC : 0 < C) {E : Nat → Nat → Int} {P : Nat → Prop} (hP : ∀ r, ¬ P r → ∀ i, i < m → E r i = 0) (hE : ∀ r i, r < q → i < m → (E r i).natAbs ≤ C) {x : Nat → Int} (hx : ∀ r, r < q → sm m (fun u => x u * E r u) = 0) (hn : ∃ i, i < m ∧ x i ≠ 0) :
    ∃ (M : Nat) (y : Nat → Int), M < m ∧ M ≤ ct q P ∧ (∃ i, i < m ∧ y i ≠ 0) ∧ (∀ i, M < i → y i = 0) ∧ (∀ i, (y i).natAbs ≤ ((M + 1) * C) ^ M) ∧ ∀ r, r < q → sm m (fun u => y u * E r u) = 0 := by
  obtain ⟨d, M, ch, b, h1, h2, h3, h4, h5⟩ := cutE m E P hP q
  have hM : M < m := by
    obtain ⟨t, c, ht, hc⟩ := h5 x (fun r hr => hx _ (h3 r hr))
    rcases Nat.eq_zero_or_pos d with h | h
    · subst h
      obtain ⟨i, hi, hne⟩ := hn
      have := hc i hi
      have h0 : sm 0 (fun i_1 => c i_1 * b i_1 i) = 0 := rfl
      rw [h0] at this
      rcases Int.mul_eq_zero.mp this with h | h
      · exact absurd h ht
      · exact absurd h hne
    · omega
  obtain ⟨y, ⟨i, hi, hne⟩, hb, hs⟩ := siegel M C hC (fun r i => E (ch r) i) (fun r i hr hi => hE _ _ (h3 r hr) (by omega))
  let y' : Nat → Int := fun i => if i < M + 1 then y i else 0
  have hy' : ∀ r, sm m (fun u => y' u * E r u) = sm (M + 1) (fun u => y u * E r u) := by
    intro r
    have : ∀ k, M + 1 + k ≤ m → sm (M + 1 + k) (fun u => y' u * E r u) = sm (M + 1) (fun u => y u * E r u) := by
      intro k
      induction k with
      | zero =>
        intro _
        refine sm_congr (fun u hu => ?_)
        show (if u < M + 1 then y u else 0) * E r u = _
        rw [if_pos hu]
      | succ k ih =>
        intro hk
        show sm (M + 1 + k) (fun u => y' u * E r u) + (if M + 1 + k < M + 1 then y (M + 1 + k) else 0) * E r (M + 1 + k) = _
        rw [ih (by omega), if_neg (by omega), Int.zero_mul, Int.add_zero]
    have h := this (m - (M + 1)) (by omega)
    rw [show M + 1 + (m - (M + 1)) = m by omega] at h
    exact h
  refine ⟨M, y', hM, h2, ⟨i, by omega, ?_⟩, fun i hi => ?_, fun i => ?_, fun r hr => ?_⟩
  · show (if i < M + 1 then y i else 0) ≠ 0
    rw [if_pos hi]; exact hne
  · show (if i < M + 1 then y i else 0) = 0
    rw [if_neg (by omega)]
  · show (if i < M + 1 then y i else 0).natAbs ≤ _
    by_cases e : i < M + 1
    · rw [if_pos e]; exact hb i
    · rw [if_neg e]; exact Nat.zero_le _
  · obtain ⟨t, c, ht, hc⟩ := h5 y' (fun r hr => by rw [hy']; exact hs r hr)
    have e1 : t * sm m (fun u => y' u * E r u) = sm m (fun u => sm d (fun i => c i * b i u * E r u)) := by
      rw [← sm_mul]
      refine sm_congr (fun u hu => ?_)
      have e2 : sm d (fun i => c i * b i u * E r u) = E r u * sm d (fun i => c i * b i u) := by
        rw [← sm_mul]
        exact sm_congr (fun i _ => by grind)
      rw [e2, ← hc u hu]
      grind
    have e3 : sm d (fun j => sm m (fun i => c j * b j i * E r i)) = 0 := sm_zero (fun i hi => by
      have : sm m (fun u => c i * b i u * E r u) = c i * sm m (fun u => b i u * E r u) := by
        rw [← sm_mul]
        exact sm_congr (fun u _ => by grind)
      rw [this, h4 i r hi hr, Int.mul_zero])
    rw [sm_swap, e3] at e1
    rcases Int.mul_eq_zero.mp e1 with h | h
    · exact absurd h ht
    · exact h
end
section
-- ===== spaces with small vectors: where they come from =====
def NB : Nat := 2 ^ 150 - 1
def nz (n : Nat) (x : Nat → Int) : Prop := ∃ j, j < n ∧ x j ≠ 0
def sml (n : Nat) (V : (Nat → Int) → Prop) : Prop := ∀ x, V x → nz n x → ∃ y, V y ∧ nz n y ∧ (∀ j, j < n → x j = 0 → y j = 0) ∧ ∀ j, j < n → (y j).natAbs ≤ NB
def og (n k : Nat) (A : Nat → Nat → Int) (y : Nat → Int) : Prop := ∀ i, i < k → sm n (fun j => y j * A i j) = 0
theorem sp0_of {n k : Nat} {A : Nat → Nat → Int} {x : Nat → Int} (h : sp 0 n k A x) : ∃ (s : Int) (c : Nat → Int), s ≠ 0 ∧ ∀ j, j < n → s * x j = sm k (fun i => c i * A i j) := by
  obtain ⟨s, c, hs, hc⟩ := h
  exact ⟨s, c, fun e => hs (by rw [e]; exact Int.dvd_refl 0), fun j hj => by have := Int.zero_dvd.mp (hc j hj); omega⟩
theorem sp0_mk {n k : Nat} {A : Nat → Nat → Int} {x : Nat → Int} {s : Int} {c : Nat → Int} (hs : s ≠ 0) (hc : ∀ j, j < n → s * x j = sm k (fun i => c i * A i j)) : sp 0 n k A x :=
  ⟨s, c, fun h => hs (Int.zero_dvd.mp h), fun j hj => by rw [hc j hj, Int.sub_self]; exact Int.dvd_refl 0⟩
theorem sm_cut {n m : Nat} {f : Nat → Int} (h : m ≤ n) (h0 : ∀ i, m ≤ i → i < n → f i = 0) : sm n f = sm m f := by
  induction n with
  | zero => rw [show m = 0 by omega]
  | succ n ih =>
    by_cases e : m = n + 1
    · rw [e]
    · show sm n f + f n = _
      rw [ih (by omega) (fun i h1 h2 => h0 i h1 (by omega)), h0 n (by omega) (by omega), Int.add_zero]
theorem bd12 {M : Nat} (h : M ≤ 11) : ((M + 1) * 999) ^ M ≤ NB := by
  have h1 : ((M + 1) * 999) ^ M ≤ (12 * 999) ^ M := Nat.pow_le_pow_left (Nat.mul_le_mul_right _ (by omega)) M
  have h2 : (12 * 999) ^ M ≤ (12 * 999) ^ 11 := Nat.pow_le_pow_right (by omega) h
  have h3 : (12 * 999) ^ 11 ≤ NB := by decide +kernel
  exact Nat.le_trans h1 (Nat.le_trans h2 h3)
theorem bd11 {M : Nat} (h : M ≤ 10) : (M + 1) * (((M + 1) * 999) ^ M * 999) ≤ NB := by
  have e : (M + 1) * (((M + 1) * 999) ^ M * 999) = ((M + 1) * 999) ^ (M + 1) := by
    rw [Nat.pow_succ, Nat.mul_comm (((M + 1) * 999) ^ M) 999, ← Nat.mul_assoc, Nat.mul_comm]
  rw [e]
  have h1 : ((M + 1) * 999) ^ (M + 1) ≤ (11 * 999) ^ (M + 1) := Nat.pow_le_pow_left (Nat.mul_le_mul_right _ (by omega)) (M + 1)
  have h2 : (11 * 999) ^ (M + 1) ≤ (11 * 999) ^ 11 := Nat.pow_le_pow_right (by omega) (by omega)
  have h3 : (11 * 999) ^ 11 ≤ NB := by decide +kernel
  exact Nat.le_trans h1 (Nat.le_trans h2 h3)
/-- what stands across small rows -/
theorem sml_og {n k : Nat} (hn : n ≤ 12) {A : Nat → Nat → Int} (hA : ∀ i j, i < k → j < n → (A i j).natAbs ≤ 999) : sml n (og n k A) := by
  intro x hx hnz
  let E : Nat → Nat → Int := fun r u => if r < k then A r u else if x (r - k) = 0 ∧ u = r - k then 1 else 0
  have hxE : ∀ r, r < k + n → sm n (fun u => x u * E r u) = 0 := by
    intro r hr
    by_cases e : r < k
    · rw [← hx r e]
      refine sm_congr (fun u _ => ?_)
      show x u * (if r < k then A r u else _) = _
      rw [if_pos e]
    · refine sm_zero (fun u hu => ?_)
      show x u * (if r < k then A r u else if x (r - k) = 0 ∧ u = r - k then 1 else 0) = 0
      rw [if_neg e]
      by_cases e2 : x (r - k) = 0 ∧ u = r - k
      · rw [if_pos e2, e2.2, e2.1]; rfl
      · rw [if_neg e2, Int.mul_zero]
  obtain ⟨M, y, hM, -, hny, -, hb, hs⟩ := smallE (m := n) (q := k + n) (C := 999) (E := E) (P := fun _ => True) (by omega) (fun r h => absurd trivial h) (fun r u hr hu => by
    show (if r < k then A r u else if x (r - k) = 0 ∧ u = r - k then (1 : Int) else 0).natAbs ≤ 999
    by_cases e : r < k
    · rw [if_pos e]; exact hA r u e hu
    · rw [if_neg e]
      by_cases e2 : x (r - k) = 0 ∧ u = r - k
      · rw [if_pos e2]; decide
      · rw [if_neg e2]; decide) hxE hnz
  refine ⟨y, fun i hi => ?_, hny, fun j hj h0 => ?_, fun j _ => Nat.le_trans (hb j) (bd12 (by omega))⟩
  · rw [← hs i (by omega)]
    refine sm_congr (fun u _ => ?_)
    show _ = y u * (if i < k then A i u else _)
    rw [if_pos hi]
  · have h1 := hs (k + j) (by omega)
    have h2 : sm n (fun u => y u * E (k + j) u) = y j * E (k + j) j := sm_one hj (fun u _ hne => by
      show y u * (if k + j < k then A (k + j) u else if x (k + j - k) = 0 ∧ u = k + j - k then 1 else 0) = 0
      rw [if_neg (by omega), if_neg (by omega), Int.mul_zero])
    rw [h2] at h1
    have h3 : E (k + j) j = 1 := by
      show (if k + j < k then A (k + j) j else if x (k + j - k) = 0 ∧ j = k + j - k then (1 : Int) else 0) = 1
      rw [if_neg (by omega), show k + j - k = j by omega, if_pos ⟨h0, rfl⟩]
    rw [h3, Int.mul_one] at h1
    exact h1
/-- the space of small rows -/
theorem sml_sp {n : Nat} (hn : n ≤ 12) : ∀ (k : Nat) (A : Nat → Nat → Int), (∀ i j, i < k → j < n → (A i j).natAbs ≤ 999) → sml n (sp 0 n k A)
  | 0, A, _ => fun x hx hnz => by
    obtain ⟨s, c, hs, hc⟩ := sp0_of hx
    obtain ⟨j, hj, hne⟩ := hnz
    have h1 := hc j hj
    have h2 : sm 0 (fun i => c i * A i j) = 0 := rfl
    rw [h2] at h1
    rcases Int.mul_eq_zero.mp h1 with h | h
    · exact absurd h hs
    · exact absurd h hne
  | k + 1, A, hA => by
    by_cases hdep : ∃ c : Nat → Int, nz (k + 1) c ∧ ∀ j, j < n → sm (k + 1) (fun i => c i * A i j) = 0
    · obtain ⟨c, ⟨i0, hi0, hne⟩, hc⟩ := hdep
      let A' : Nat → Nat → Int := fun i => if i = i0 then A k else A i
      have hA' : ∀ i, i < k → ∃ i', i' < k + 1 ∧ A' i = A i' := by
        intro i hi
        by_cases e : i = i0
        · exact ⟨k, by omega, by show (if i = i0 then A k else A i) = _; rw [if_pos e]⟩
        · exact ⟨i, by omega, by show (if i = i0 then A k else A i) = _; rw [if_neg e]⟩
      have hsub : ∀ i, i < k + 1 → sp 0 n k A' (A i) := by
        intro i hi
        by_cases e : i = i0
        · subst e
          refine sp0_mk (s := c i) (c := fun q => - (if q = i then c k else c q)) hne (fun j hj => ?_)
          have h1 := hc j hj
          rw [sm_out hi] at h1
          have h2 : sm k (fun q => -(if q = i then c k else c q) * A' q j) = - sm k (fun q => if q = i then c k * A k j else c q * A q j) := by
            have h3 : - sm k (fun q => if q = i then c k * A k j else c q * A q j) = (-1) * sm k (fun q => if q = i then c k * A k j else c q * A q j) := by omega
            rw [h3, ← sm_mul]
            refine sm_congr (fun q _ => ?_)
            show -(if q = i then c k else c q) * (if q = i then A k else A q) j = (-1) * (if q = i then c k * A k j else c q * A q j)
            by_cases e : q = i
            · rw [if_pos e, if_pos e, if_pos e]; grind
            · rw [if_neg e, if_neg e, if_neg e]; grind
          rw [h2]
          omega
        · by_cases e2 : i = k
          · have h1 : A' i0 = A i := by show (if i0 = i0 then A k else A i0) = _; rw [if_pos rfl, e2]
            rw [← h1]
            exact sp_row dm0 (by omega)
          · have h1 : A' i = A i := by show (if i = i0 then A k else A i) = _; rw [if_neg e]
            rw [← h1]
            exact sp_row dm0 (by omega)
      have ih := sml_sp hn k A' (fun i j hi hj => by
        obtain ⟨i', h1, h2⟩ := hA' i hi
        rw [h2]
        exact hA i' j h1 hj)
      intro x hx hnz
      obtain ⟨y, h1, h2⟩ := ih x (sp_trans dm0 hx hsub) hnz
      exact ⟨y, sp_trans dm0 h1 (fun i hi => by
        obtain ⟨i', g1, g2⟩ := hA' i hi
        rw [g2]
        exact sp_row dm0 g1), h2⟩
    · intro x hx hnz
      have hx' := hx
      obtain ⟨s, c, hs, hc⟩ := sp0_of hx
      obtain ⟨j0, hj0, hne0⟩ := hnz
      by_cases htwo : ∃ i j, i < j ∧ j < n ∧ x i ≠ 0 ∧ x j ≠ 0
      · obtain ⟨i, j, hij, hj, hi1, hj1⟩ := htwo
        have hcn : nz (k + 1) c := Classical.byContradiction fun hn => by
          have h0 : ∀ i, i < k + 1 → c i = 0 := fun i hi => Classical.byContradiction fun h => hn ⟨i, hi, h⟩
          have h1 := hc j0 hj0
          rw [sm_zero (fun i hi => by rw [h0 i hi, Int.zero_mul])] at h1
          rcases Int.mul_eq_zero.mp h1 with h | h
          · exact hs h
          · exact hne0 h
        let E : Nat → Nat → Int := fun r u => if x r = 0 then A u r else 0
        obtain ⟨M, y, hM, hMc, hny, hy0, hb, hsol⟩ := smallE (m := k + 1) (q := n) (C := 999) (E := E) (P := fun r => x r = 0) (by omega) (fun r h i _ => by show (if x r = 0 then A i r else 0) = 0; rw [if_neg h]) (fun r u hr hu => by
          show (if x r = 0 then A u r else 0).natAbs ≤ 999
          by_cases e : x r = 0
          · rw [if_pos e]; exact hA u r hu hr
          · rw [if_neg e]; decide) (x := c) (fun r hr => by
          by_cases e : x r = 0
          · have h1 := hc r hr
            rw [e, Int.mul_zero] at h1
            rw [h1]
            refine sm_congr (fun u _ => ?_)
            show c u * (if x r = 0 then A u r else 0) = _
            rw [if_pos e]
          · refine sm_zero (fun u _ => ?_)
            show c u * (if x r = 0 then A u r else 0) = _
            rw [if_neg e, Int.mul_zero]) hcn
        have hM10 : M ≤ 10 := by
          have := ct_2 (n := n) (P := fun r => x r = 0) hij hj hi1 hj1
          omega
        refine ⟨fun j => sm (k + 1) (fun i => y i * A i j), sp0_mk (s := 1) (c := y) (by omega) (fun j _ => by rw [Int.one_mul]), ?_, fun j hj h0 => ?_, fun j hj => ?_⟩
        · exact Classical.byContradiction fun hn => hdep ⟨y, hny, fun j hj => Classical.byContradiction fun h => hn ⟨j, hj, h⟩⟩
        · have h1 := hsol j hj
          have h2 : sm (k + 1) (fun u => y u * E j u) = sm (k + 1) (fun i => y i * A i j) := sm_congr (fun u _ => by
            show y u * (if x j = 0 then A u j else 0) = _
            rw [if_pos h0])
          rw [h2] at h1
          exact h1
        · show (sm (k + 1) (fun i => y i * A i j)).natAbs ≤ NB
          rw [sm_cut (m := M + 1) (by omega) (fun i h1 _ => by rw [hy0 i (by omega), Int.zero_mul])]
          refine Nat.le_trans (sm_abs (B := ((M + 1) * 999) ^ M * 999) (fun i hi => ?_)) (bd11 hM10)
          rw [Int.natAbs_mul]
          exact Nat.mul_le_mul (hb i) (hA i j (by omega) hj)
      · have hone : ∀ j, j < n → j ≠ j0 → x j = 0 := fun j hj hne => Classical.byContradiction fun h => htwo (by
          rcases Nat.lt_or_gt_of_ne hne with h1 | h1
          · exact ⟨j, j0, h1, hj0, h, hne0⟩
          · exact ⟨j0, j, h1, hj, hne0, h⟩)
        refine ⟨fun j => if j = j0 then 1 else 0, sp_scale (t := x j0) (a := 1) dm0 hx' (fun h => hne0 (Int.zero_dvd.mp h)) (fun j hj => ?_), ⟨j0, hj0, by show (if j0 = j0 then (1 : Int) else 0) ≠ 0; rw [if_pos rfl]; omega⟩, fun j hj h0 => ?_, fun j hj => ?_⟩
        · show 0 ∣ x j0 * (if j = j0 then 1 else 0) - 1 * x j
          by_cases e : j = j0
          · rw [if_pos e, e]; exact ⟨0, by omega⟩
          · rw [if_neg e, hone j hj e]; exact ⟨0, by omega⟩
        · show (if j = j0 then (1 : Int) else 0) = 0
          rw [if_neg (fun e => hne0 (by rw [← e]; exact h0))]
        · show (if j = j0 then (1 : Int) else 0).natAbs ≤ NB
          by_cases e : j = j0
          · rw [if_pos e]; decide +kernel
          · rw [if_neg e]; exact Nat.zero_le _
end
section
-- ===== spaces with small vectors: what is left of one without some columns, sums =====
theorem sml_iff {n : Nat} {V W : (Nat → Int) → Prop} (h : ∀ x, V x ↔ W x) (hV : sml n V) : sml n W := by
  intro x hx hn
  obtain ⟨y, h1, h2⟩ := hV x ((h x).mpr hx) hn
  exact ⟨y, (h y).mp h1, h2⟩
/-- those that are 0 in some columns -/
theorem sml_sec {n : Nat} {V W : (Nat → Int) → Prop} {Z : Nat → Prop} (h : ∀ x, W x ↔ V x ∧ ∀ j, j < n → Z j → x j = 0) (hV : sml n V) : sml n W := by
  intro x hx hn
  obtain ⟨h1, h2⟩ := (h x).mp hx
  obtain ⟨y, g1, g2, g3, g4⟩ := hV x h1 hn
  exact ⟨y, (h y).mpr ⟨g1, fun j hj hz => g3 j hj (h2 j hj hz)⟩, g2, g3, g4⟩
/-- closed under what rows do -/
def lin (n : Nat) (V : (Nat → Int) → Prop) : Prop := ∀ (x y z : Nat → Int) (t a b : Int), V x → V y → t ≠ 0 → (∀ j, j < n → t * z j = a * x j + b * y j) → V z
theorem lin_sp (n k : Nat) (A : Nat → Nat → Int) : lin n (sp 0 n k A) := fun x y z t a b hx hy ht h =>
  sp_comb (a := a) (b := b) dm0 hx hy (fun q => ht (Int.zero_dvd.mp q)) (fun j hj => by rw [h j hj, Int.sub_self]; exact Int.dvd_refl 0)
theorem lin_og (n k : Nat) (A : Nat → Nat → Int) : lin n (og n k A) := fun x y z t a b hx hy ht h => by
  intro i hi
  have h1 : t * sm n (fun j => z j * A i j) = a * sm n (fun j => x j * A i j) + b * sm n (fun j => y j * A i j) := by
    rw [← sm_mul, ← sm_mul, ← sm_mul, ← sm_add]
    refine sm_congr (fun j hj => ?_)
    have := h j hj
    rw [← Int.mul_assoc, this]
    grind
  rw [hx i hi, hy i hi] at h1
  rcases Int.mul_eq_zero.mp (h1.trans (by omega)) with q | q
  · exact absurd q ht
  · exact q
/-- what the vectors have in some columns: column j of the new ones is column g j of the old -/
def del (n n' : Nat) (g : Nat → Nat) (V : (Nat → Int) → Prop) (z : Nat → Int) : Prop := ∃ (x : Nat → Int) (t : Int), V x ∧ t ≠ 0 ∧ ∀ j, j < n' → t * z j = x (g j)
theorem ct_lt {n : Nat} {P Q : Nat → Prop} (h : ∀ j, j < n → P j → Q j) {i : Nat} (hi : i < n) (hQ : Q i) (hP : ¬ P i) : ct n P < ct n Q := by
  have le : ∀ m, m ≤ n → ct m P ≤ ct m Q := by
    intro m
    induction m with
    | zero => intro _; exact Nat.le_refl 0
    | succ m ih =>
      intro hm
      have := ih (by omega)
      by_cases hp : P m
      · rw [ct_t hp, ct_t (h m (by omega) hp)]; omega
      · rw [ct_f hp]
        by_cases hq : Q m
        · rw [ct_t hq]; omega
        · rw [ct_f hq]; omega
  have : ∀ m, i < m → m ≤ n → ct m P < ct m Q := by
    intro m
    induction m with
    | zero => omega
    | succ m ih =>
      intro h1 h2
      by_cases e : i = m
      · subst e
        rw [ct_f hP, ct_t hQ]
        have := le i (by omega)
        omega
      · have := ih (by omega) (by omega)
        by_cases hp : P m
        · rw [ct_t hp, ct_t (h m (by omega) hp)]; omega
        · rw [ct_f hp]
          by_cases hq : Q m
          · rw [ct_t hq]; omega
          · rw [ct_f hq]; omega
  exact this n hi (Nat.le_refl n)
theorem sml_del {n n' : Nat} {g : Nat → Nat} (hg : ∀ j, j < n' → g j < n) {V : (Nat → Int) → Prop} (hl : lin n V) (hV : sml n V) : sml n' (del n n' g V) := by
  have key : ∀ (d : Nat) (x : Nat → Int), ct n (fun j => x j ≠ 0) = d → V x → (∃ j, j < n' ∧ x (g j) ≠ 0) → ∃ y, V y ∧ (∃ j, j < n' ∧ y (g j) ≠ 0) ∧ (∀ j, j < n' → x (g j) = 0 → y (g j) = 0) ∧ ∀ j, j < n → (y j).natAbs ≤ NB := by
    intro d
    induction d using Nat.strongRecOn with
    | _ d ih =>
      intro x hd hx hn
      obtain ⟨j0, hj0, hne0⟩ := hn
      obtain ⟨y, h1, ⟨i, hi, hne⟩, h3, h4⟩ := hV x hx ⟨g j0, hg j0 hj0, hne0⟩
      by_cases hin : ∃ j, j < n' ∧ y (g j) ≠ 0
      · exact ⟨y, h1, hin, fun j hj h0 => h3 (g j) (hg j hj) h0, h4⟩
      · have hy0 : ∀ j, j < n' → y (g j) = 0 := fun j hj => Classical.byContradiction fun h => hin ⟨j, hj, h⟩
        have hx2 : V (fun j => y i * x j - x i * y j) := hl x y _ 1 (y i) (- x i) hx h1 (by omega) (fun j _ => by grind)
        have hxi : x i ≠ 0 := fun h => hne (h3 i hi h)
        have hlt : ct n (fun j => y i * x j - x i * y j ≠ 0) < d := by
          rw [← hd]
          refine ct_lt (fun j hj hp hx0 => hp ?_) hi hxi (fun hp => hp ?_)
          · rw [hx0, h3 j hj hx0]; simp
          · rw [Int.mul_comm, Int.sub_self]
        obtain ⟨y2, g1, g2, g3, g4⟩ := ih _ hlt _ rfl hx2 ⟨j0, hj0, fun h => by
          have h5 : y i * x (g j0) - x i * y (g j0) = 0 := h
          rw [hy0 j0 hj0, Int.mul_zero, Int.sub_zero] at h5
          rcases Int.mul_eq_zero.mp h5 with q | q
          · exact hne q
          · exact hne0 q⟩
        exact ⟨y2, g1, g2, fun j hj h0 => g3 j hj (by show y i * x (g j) - x i * y (g j) = 0; rw [h0, hy0 j hj]; simp), g4⟩
  intro z hz hn
  obtain ⟨x, t, hx, ht, hzx⟩ := hz
  obtain ⟨j0, hj0, hne0⟩ := hn
  obtain ⟨y, h1, ⟨j1, hj1, hne1⟩, h3, h4⟩ := key _ x rfl hx ⟨j0, hj0, fun h => by
    have h5 := hzx j0 hj0
    rw [h] at h5
    rcases Int.mul_eq_zero.mp h5 with q | q
    · exact ht q
    · exact hne0 q⟩
  exact ⟨fun j => y (g j), ⟨y, 1, h1, by omega, fun j _ => by rw [Int.one_mul]⟩, ⟨j1, hj1, hne1⟩, fun j hj h0 => h3 j hj (by rw [← hzx j hj, h0, Int.mul_zero]), fun j hj => h4 (g j) (hg j hj)⟩
/-- a whole row that has no divisor in common, and under whose zeros nothing else lies, is small -/
theorem sml_pm {n : Nat} {V : (Nat → Int) → Prop} (hV : sml n V) {x : Nat → Int} (hx : V x) (hp : pm n x) {c : Nat} (hc : c < n) (hxc : x c ≠ 0) (hu : ∀ y, V y → (∀ j, j < n → x j = 0 → y j = 0) → ∀ j, j < n → x c * y j = y c * x j) : ∀ j, j < n → (x j).natAbs ≤ NB := by
  obtain ⟨y, h1, ⟨i, hi, hne⟩, h3, h4⟩ := hV x hx ⟨c, hc, hxc⟩
  have hy := hu y h1 h3
  have hyc : y c ≠ 0 := fun h => by
    have := hy i hi
    rw [h, Int.zero_mul] at this
    rcases Int.mul_eq_zero.mp this with q | q
    · exact hxc q
    · exact hne q
  -- x c divides y c
  have hd : x c ∣ y c := by
    have hg : Int.gcd (x c) (y c) ≠ 0 := fun e => hxc (Int.gcd_eq_zero_iff.mp e).1
    obtain ⟨a, ha⟩ : (Int.gcd (x c) (y c) : Int) ∣ x c := Int.gcd_dvd_left ..
    obtain ⟨b, hb⟩ : (Int.gcd (x c) (y c) : Int) ∣ y c := Int.gcd_dvd_right ..
    have hco : Int.gcd a b = 1 := by
      have h5 : Int.gcd (x c) (y c) = Int.gcd ((Int.gcd (x c) (y c) : Int) * a) ((Int.gcd (x c) (y c) : Int) * b) := by rw [← ha, ← hb]
      rw [Int.gcd_mul_left, Int.natAbs_natCast] at h5
      have h6 : Int.gcd (x c) (y c) * 1 = Int.gcd (x c) (y c) * Int.gcd a b := by rw [Nat.mul_one]; exact h5
      exact (Nat.eq_of_mul_eq_mul_left (by omega) h6).symm
    generalize (Int.gcd (x c) (y c) : Int) = g at ha hb
    have hg0 : g ≠ 0 := fun e => hxc (by rw [ha, e, Int.zero_mul])
    have hax : ∀ j, j < n → a ∣ x j := by
      intro j hj
      have h5 := hy j hj
      rw [ha, hb, Int.mul_assoc, Int.mul_assoc] at h5
      have h6 := Int.eq_of_mul_eq_mul_left hg0 h5
      have h7 : a ∣ b * x j := ⟨y j, h6.symm⟩
      exact idvd hco h7
    have ha1 := hp a hax
    obtain ⟨u, hu1⟩ := ha1
    refine ⟨u * b, ?_⟩
    rw [ha, hb]
    have : g * a * (u * b) = g * b * (a * u) := by grind
    rw [this, ← hu1, Int.mul_one]
  obtain ⟨w, hw⟩ := hd
  have hw0 : w ≠ 0 := fun e => hyc (by rw [hw, e, Int.mul_zero])
  intro j hj
  have h5 := hy j hj
  rw [hw, Int.mul_assoc] at h5
  have h6 := Int.eq_of_mul_eq_mul_left hxc h5
  have h7 := h4 j hj
  rw [h6, Int.natAbs_mul] at h7
  have h8 : 1 * (x j).natAbs ≤ w.natAbs * (x j).natAbs := Nat.mul_le_mul_right _ (by omega)
  omega
end
section
-- ===== numbers as digits: carries, products, differences, the guess of a division =====
theorem cd_congr {b : Nat} : ∀ (m : Nat) {d e : Nat → Nat}, (∀ i, i < m → d i = e i) → cd b m d = cd b m e
  | 0, _, _, _ => rfl
  | m + 1, d, e, h => by
    show cd b m d + d m * b ^ m = cd b m e + e m * b ^ m
    rw [cd_congr m (fun i hi => h i (by omega)), h m (by omega)]
theorem cd_split {b : Nat} (i : Nat) : ∀ (n : Nat) (d : Nat → Nat), cd b (i + n) d = cd b i d + b ^ i * cd b n (fun t => d (i + t))
  | 0, d => by show cd b i d = _; rw [show cd b 0 (fun t => d (i + t)) = 0 from rfl]; omega
  | n + 1, d => by
    show cd b (i + n) d + d (i + n) * b ^ (i + n) = _ + b ^ i * (cd b n (fun t => d (i + t)) + d (i + n) * b ^ n)
    rw [cd_split i n d, Nat.mul_add, Nat.pow_add]
    have : d (i + n) * (b ^ i * b ^ n) = b ^ i * (d (i + n) * b ^ n) := by rw [Nat.mul_left_comm]
    omega
theorem cd_0 {b : Nat} : ∀ (n : Nat) {d : Nat → Nat}, (∀ i, i < n → d i = 0) → cd b n d = 0
  | 0, _, _ => rfl
  | n + 1, d, h => by
    show cd b n d + d n * b ^ n = 0
    rw [cd_0 n (fun i hi => h i (by omega)), h n (by omega)]; simp
/-- the digits that are 0 at the top don't count -/
theorem cd_top {b m n : Nat} {d : Nat → Nat} (hmn : m ≤ n) (h : ∀ i, m ≤ i → i < n → d i = 0) : cd b n d = cd b m d := by
  obtain ⟨k, rfl⟩ : ∃ k, n = m + k := ⟨n - m, by omega⟩
  rw [cd_split, cd_0 k (fun i hi => h (m + i) (by omega) (by omega))]; simp
theorem cd_ge {b n : Nat} {d : Nat → Nat} (h : d n ≠ 0) : b ^ n ≤ cd b (n + 1) d := by
  show b ^ n ≤ cd b n d + d n * b ^ n
  have : 1 * b ^ n ≤ d n * b ^ n := Nat.mul_le_mul_right _ (by omega)
  omega
/-- one step of a carry -/
theorem carry1 {B : Nat} (hB : 0 < B) {i : Nat} {R c w : Int} {S : Int} (h : R + c * (B : Int) ^ i = S) : (R + ((c + w) % (B : Int)) * (B : Int) ^ i) + ((c + w) / (B : Int)) * (B : Int) ^ (i + 1) = S + w * (B : Int) ^ i := by
  have h1 := Int.emod_add_mul_ediv (c + w) B
  rw [Int.pow_succ]
  generalize (c + w) % (B : Int) = r at h1 ⊢
  generalize (c + w) / (B : Int) = q at h1 ⊢
  generalize (B : Int) ^ i = P at h ⊢
  have h2 : c + w = r + (B : Int) * q := by omega
  have h3 : c = r + (B : Int) * q - w := by omega
  rw [← h, h3]
  grind
/-- which of two numbers of n digits is the larger is said by the first digit from the top in which they differ -/
theorem cd_cmp {b n k : Nat} {d e : Nat → Nat} (hd : ∀ i, i < n → d i < b) (hk : k < n) (heq : ∀ i, k < i → i < n → d i = e i) (hlt : d k < e k) : cd b n d < cd b n e := by
  obtain ⟨m, rfl⟩ : ∃ m, n = (k + 1) + m := ⟨n - (k + 1), by omega⟩
  rw [cd_split (k + 1) m d, cd_split (k + 1) m e, cd_congr m (d := fun t => d (k + 1 + t)) (e := fun t => e (k + 1 + t)) (fun i hi => heq _ (by omega) (by omega))]
  have h1 : cd b (k + 1) d < cd b (k + 1) e := by
    show cd b k d + d k * b ^ k < cd b k e + e k * b ^ k
    have a1 := cd_lt k (d := d) (fun i hi => hd i (by omega))
    have a2 : (d k + 1) * b ^ k ≤ e k * b ^ k := Nat.mul_le_mul_right _ hlt
    rw [Nat.add_mul, Nat.one_mul] at a2
    omega
  omega
theorem cd_short {b m n : Nat} {d e : Nat → Nat} (hd : ∀ i, i < m → d i < b) (hmn : m < n) (hb : 0 < b) (htop : e (n - 1) ≠ 0) : cd b m d < cd b n e := by
  have h1 := cd_lt m hd
  obtain ⟨k, rfl⟩ : ∃ k, n = k + 1 := ⟨n - 1, by omega⟩
  have h2 := cd_ge (b := b) (n := k) (d := e) htop
  have h3 : b ^ m ≤ b ^ k := Nat.pow_le_pow_right hb (by omega)
  omega
/-- the guess of a quotient's digit is never too small, and at most 2 too large -/
theorem guess {B P S D X t xt g : Nat} (hB : 2 ≤ B) (hP : 0 < P) (hD : 0 < D) (hX : X < D * B) (ht : t = S * D / P) (ht2 : B ≤ 2 * t) (hlo : S * X / P ≤ xt) (hhi : if P = 1 then xt < S * (X + 1) else xt * P ≤ S * X) (hg : g = min (xt / t) (B - 1)) : X / D ≤ g ∧ g ≤ X / D + 2 := by
  have htpos : 0 < t := by omega
  generalize hq : X / D = q
  have hq1 : q * D ≤ X := by rw [← hq]; exact Nat.div_mul_le_self X D
  have hq2 : X < (q + 1) * D := by
    have := Nat.lt_mul_div_succ X hD
    rw [hq, Nat.mul_comm] at this
    exact this
  have hqB : q ≤ B - 1 := by
    have : q < B := by rw [← hq]; exact Nat.div_lt_of_lt_mul hX
    omega
  have htP : t * P ≤ S * D := by rw [ht]; exact Nat.div_mul_le_self _ _
  refine ⟨?_, ?_⟩
  · have h1 : q * t * P ≤ S * X := by
      have a1 : q * (t * P) ≤ q * (S * D) := Nat.mul_le_mul_left _ htP
      have a2 : S * (q * D) ≤ S * X := Nat.mul_le_mul_left _ hq1
      have a3 : q * (S * D) = S * (q * D) := Nat.mul_left_comm _ _ _
      have a4 : q * t * P = q * (t * P) := Nat.mul_assoc _ _ _
      omega
    have h2 : q * t ≤ S * X / P := (Nat.le_div_iff_mul_le hP).mpr h1
    have h3 : q ≤ xt / t := (Nat.le_div_iff_mul_le htpos).mpr (by omega)
    rw [hg]
    exact Nat.le_min.mpr ⟨h3, hqB⟩
  · apply Classical.byContradiction
    intro hcon
    have hg3 : q + 3 ≤ g := by omega
    have hg4 : q + 3 ≤ xt / t := by rw [hg] at hg3; exact Nat.le_trans hg3 (Nat.min_le_left _ _)
    have hg5 : q + 3 ≤ B - 1 := by rw [hg] at hg3; exact Nat.le_trans hg3 (Nat.min_le_right _ _)
    have h1 : (q + 3) * t ≤ xt := (Nat.le_div_iff_mul_le htpos).mp hg4
    by_cases e : P = 1
    · rw [if_pos e] at hhi
      rw [e, Nat.div_one] at ht
      rw [ht] at h1
      have h2 : S * ((q + 3) * D) < S * (X + 1) := by
        have : (q + 3) * (S * D) = S * ((q + 3) * D) := Nat.mul_left_comm _ _ _
        omega
      have h3 : (q + 3) * D < X + 1 := Nat.lt_of_mul_lt_mul_left h2
      have h4 : (q + 1) * D ≤ (q + 3) * D := Nat.mul_le_mul_right _ (by omega)
      omega
    · rw [if_neg e] at hhi
      have h2 : (q + 3) * t * P ≤ xt * P := Nat.mul_le_mul_right _ h1
      have h3 : S * X < S * ((q + 1) * D) := by
        have hS : 0 < S := by
          rcases Nat.eq_zero_or_pos S with h | h
          · rw [h, Nat.zero_mul, Nat.zero_div] at ht; omega
          · exact h
        exact Nat.mul_lt_mul_of_pos_left hq2 hS
      have h4 : S * D < (t + 1) * P := by
        have := Nat.lt_mul_div_succ (S * D) hP
        rw [← ht, Nat.mul_comm P] at this
        exact this
      have h5 : (q + 1) * (S * D) ≤ (q + 1) * ((t + 1) * P) := Nat.mul_le_mul_left _ (by omega)
      have h6 : S * ((q + 1) * D) = (q + 1) * (S * D) := Nat.mul_left_comm _ _ _
      have h7 : (q + 3) * t * P < (q + 1) * (t + 1) * P := by
        have : (q + 1) * ((t + 1) * P) = (q + 1) * (t + 1) * P := (Nat.mul_assoc _ _ _).symm
        omega
      have h8 : (q + 3) * t < (q + 1) * (t + 1) := Nat.lt_of_mul_lt_mul_right h7
      have h9 : (q + 3) * t = q * t + 3 * t := Nat.add_mul _ _ _
      have h10 : (q + 1) * (t + 1) = q * t + q + (t + 1) := by rw [Nat.add_mul, Nat.mul_add, Nat.mul_one, Nat.one_mul]
      omega
end
section
-- ===== one world for all methods: the cells at the addresses of L, each holding what f says =====
def gw (D : va_G) (cl : List vw_C) (tys : List (ClassId × FieldType)) (L : List Nat) (s : State) (H0 : Heap) (f : Nat → va_E) (H : Heap) (locs : List Loc) : Prop :=
  va_K D cl tys s ∧ va_P D cl (va_pl L f) H ∧ va_D (fun q => q ∈ L) (va_pl L f) ∧ va_S (fun q => q ∈ L) H0 H locs
/-- what a method that makes nothing needs, and what it leaves -/
def mpre (D : va_G) (cl : List vw_C) (tys : List (ClassId × FieldType)) (L : List Nat) (f : Nat → va_E) (as : List Value) : Array Value → State → Prop := fun v U => v = as.toArray ∧ va_K D cl tys U ∧ va_P D cl (va_pl L f) U.heap ∧ va_D (fun q => q ∈ L) (va_pl L f)
def mst (D : va_G) (cl : List vw_C) (tys : List (ClassId × FieldType)) (L : List Nat) (f : Nat → va_E) (t : State) : Prop := va_K D cl tys t ∧ va_P D cl (va_pl L f) t.heap ∧ va_D (fun q => q ∈ L) (va_pl L f)
abbrev Mi (l : Launch) (y : MethodName) (ws : List Cond) (rm : Room) (D : va_G) (cl : List vw_C) (tys : List (ClassId × FieldType)) (L : List Nat) (f : Nat → va_E) (as : List Value) (post : Int32 → (Nat → va_E) → Prop) : Prop := Met l y ws rm (mpre D cl tys L f as) (va_Qi post (mst D cl tys L) (fun q => q ∈ L)) 0 0 (fun q => q ∈ L)
abbrev Ml (l : Launch) (y : MethodName) (ws : List Cond) (rm : Room) (D : va_G) (cl : List vw_C) (tys : List (ClassId × FieldType)) (L : List Nat) (f : Nat → va_E) (as : List Value) (post : Int64 → (Nat → va_E) → Prop) : Prop := Met l y ws rm (mpre D cl tys L f as) (va_Ql post (mst D cl tys L) (fun q => q ∈ L)) 0 0 (fun q => q ∈ L)
abbrev Mv (l : Launch) (y : MethodName) (ws : List Cond) (rm : Room) (D : va_G) (cl : List vw_C) (tys : List (ClassId × FieldType)) (L : List Nat) (f : Nat → va_E) (as : List Value) (post : (Nat → va_E) → Prop) : Prop := Met l y ws rm (mpre D cl tys L f as) (va_Qv post (mst D cl tys L) (fun q => q ∈ L)) 0 0 (fun q => q ∈ L)
abbrev Mr (l : Launch) (y : MethodName) (ws : List Cond) (rm : Room) (D : va_G) (cl : List vw_C) (tys : List (ClassId × FieldType)) (L : List Nat) (f : Nat → va_E) (as : List Value) (post : Nat → (Nat → va_E) → Prop) : Prop := Met l y ws rm (mpre D cl tys L f as) (va_Qr (fun _ : Nat → va_E => True) (fun f' a t => mst D cl tys L f' t ∧ post a f') (fun q => q ∈ L)) 0 0 (fun q => q ∈ L)
theorem mpre_blind {D : va_G} {cl : List vw_C} {tys : List (ClassId × FieldType)} {L : List Nat} {f : Nat → va_E} {as : List Value} : FrameBlind (mpre D cl tys L f as) := fun a U g mk q => ⟨q.1, va_K.moved (u := U) (U := U.calling g mk a) (Vm.Alike.refl U.vm) q.2.1, q.2.2.1, q.2.2.2⟩
theorem pl_ix {L : List Nat} {f : Nat → va_E} {a : Nat} {e : va_E} (h : a ∈ L) (he : f a = e) : ∃ k : Nat, (va_pl L f)[k]? = some (a, e) := by
  subst he
  exact va_pl_get (X := []) h
theorem pl_up {A : Nat → Prop} {L : List Nat} {f : Nat → va_E} {a k : Nat} {e e0 : va_E} (hD : va_D A (va_pl L f)) (h : a ∈ L) (he : f a = e0) (hk : (va_pl L f)[k]? = some (a, e0)) : (va_pl L f).set k (a, e) = va_pl L (va_up f a e) := by
  subst he
  exact va_pl_set (X := []) hD h hk
section MEM
variable {p : Program} {l : Launch} {e : Env} {R : Room} {s : State} {m : MethodId} {args : Array Value} {below : List Frame} {meth : Method} {c : Code} {H : Heap} {locs : List Loc} {cells slots : Nat} {Q : State → Prop}
variable {cc : ByteArray} {pc : Nat} {ls : Array Slot} {rest st0 : List Value} {D : va_G} {cl : List vw_C} {a : Nat} {tys : List (ClassId × FieldType)} {H0 : Heap} {L : List Nat} {f : Nat → va_E}
theorem g_get (hexec : p.tables.exec = Jvm.exec) (hb : c.code = cc) {own ref C : String} {T : u_T} {N ci index : Nat} {Ts : List Cond} (hts : ∀ w ∈ Ts, w.before args s = true) (hin : ∀ w ∈ u_ws C T N, w ∈ Ts) (hown : s.vm.findClass own = some m.cls) (hw : gw D cl tys L s H0 f H locs) (ha : a ∈ L) {fs : List Value} (he : f a = .inr (ci, fs)) (hc : cl[ci]? = some (C, T, N)) (k : Nat) (hk : k < N) (hlink : (Cond.fieldLink own index ref (T k).2.1 (T k).2.2.1).before args s = true) (hsame : ∀ x, s.fieldFound? (T k).1 (T k).2.1 (T k).2.2.1 = some x → s.fieldFound? ref (T k).2.1 (T k).2.2.1 = some x) {v : Value} (hv : fs[k]? = some v) (hdg : decode cc pc = .ok (.getfield index, 3))
    (kk : W p l e R s m args below meth c H locs cells slots Q (F0 m (pc + 3) ls (v :: rest))) : W p l e R s m args below meth c H locs cells slots Q (F0 m pc ls (.ref a :: rest)) := by
  obtain ⟨q0, hq⟩ := pl_ix ha he
  exact va_get hexec hb hts hin hown hw.1 hw.2.1 q0 hq hc k hk hlink hsame hv hdg kk
theorem g_put (hexec : p.tables.exec = Jvm.exec) (hb : c.code = cc) {own ref C : String} {T : u_T} {N ci index : Nat} {Ts : List Cond} (hts : ∀ w ∈ Ts, w.before args s = true) (hin : ∀ w ∈ u_ws C T N, w ∈ Ts) (ty0 : Nat → FieldType) (hty : ∀ k, k < N → parseFieldDescriptor (T k).2.2.1 = some (ty0 k)) (hnm : ∀ a, a < N → ∀ b, b < N → a ≠ b → (T a).2.1 ≠ (T b).2.1) (hown : s.vm.findClass own = some m.cls) (hw : gw D cl tys L s H0 f H locs) (ha : a ∈ L) {fs : List Value} (he : f a = .inr (ci, fs)) (hc : cl[ci]? = some (C, T, N)) (k : Nat) (hk : k < N) (hlink : (Cond.fieldLink own index ref (T k).2.1 (T k).2.2.1).before args s = true) (hsame : ∀ x, s.fieldFound? (T k).1 (T k).2.1 (T k).2.2.1 = some x → s.fieldFound? ref (T k).2.1 (T k).2.2.1 = some x) (hfin : (T k).2.2.2 = false) {ty : FieldType} {v : Value} (hd : parseFieldDescriptor (T k).2.2.1 = some ty) (hn : narrow ty v = v) (hfit : fits ty v = true) (hl : k < fs.length)
    (hdg : decode cc pc = .ok (.putfield index, 3)) (kk : ∀ (H1 : Heap) (locs1 : List Loc), gw D cl tys L s H0 (va_up f a (.inr (ci, fs.set k v))) H1 locs1 → W p l e R s m args below meth c H1 locs1 cells slots Q (F0 m (pc + 3) ls rest)) : W p l e R s m args below meth c H locs cells slots Q (F0 m pc ls (v :: .ref a :: rest)) := by
  obtain ⟨q0, hq⟩ := pl_ix ha he
  refine va_put hexec hb hts hin ty0 hty hnm hown hw.1 hw.2.1 hw.2.2.1 hw.2.2.2 q0 hq hc k hk hlink hsame hfin hd hn hfit hl hdg (fun H1 locs1 h1 h2 h3 => ?_)
  rw [pl_up hw.2.2.1 ha he hq] at h1 h2
  exact kk H1 locs1 ⟨hw.1, h1, h2, h3⟩
theorem g_iald (hexec : p.tables.exec = Jvm.exec) (hb : c.code = cc) (hw : gw D cl tys L s H0 f H locs) (ha : a ∈ L) (t0 : Nat) {cA : ClassId} {n : Nat} {z : Nat → Int32} (he : f a = .inl (cA, n, .inl z)) (ht : tys[t0]? = some (cA, .int)) {i : Int32} (k : Nat) (hi : i = nI k) (hk : k < n) (hn : n < 2 ^ 31) (hdg : decode cc pc = .ok (.iaload, 1))
    (kk : W p l e R s m args below meth c H locs cells slots Q (F0 m (pc + 1) ls (.int (z k) :: rest))) : W p l e R s m args below meth c H locs cells slots Q (F0 m pc ls (.int i :: .ref a :: rest)) := by
  obtain ⟨q0, hq⟩ := pl_ix ha he
  subst hi
  refine va_iald hexec hb hw.1 hw.2.1 q0 t0 hq ht (vp_in_nI hk hn) hdg ?_
  rw [nI_clamp (by omega)]
  exact kk
theorem g_iast (hexec : p.tables.exec = Jvm.exec) (hb : c.code = cc) (hw : gw D cl tys L s H0 f H locs) (ha : a ∈ L) (t0 : Nat) {cA : ClassId} {n : Nat} {z : Nat → Int32} (he : f a = .inl (cA, n, .inl z)) (ht : tys[t0]? = some (cA, .int)) {i x : Int32} (k : Nat) (hi : i = nI k) (hk : k < n) (hn : n < 2 ^ 31) (hdg : decode cc pc = .ok (.iastore, 1))
    (kk : ∀ (H1 : Heap) (locs1 : List Loc), gw D cl tys L s H0 (va_up f a (.inl (cA, n, .inl (upd z k x)))) H1 locs1 → W p l e R s m args below meth c H1 locs1 cells slots Q (F0 m (pc + 1) ls rest)) : W p l e R s m args below meth c H locs cells slots Q (F0 m pc ls (.int x :: .int i :: .ref a :: rest)) := by
  obtain ⟨q0, hq⟩ := pl_ix ha he
  subst hi
  refine va_iast hexec hb hw.1 hw.2.1 hw.2.2.1 hw.2.2.2 q0 t0 hq ht (vp_in_nI hk hn) hdg (fun H1 locs1 h1 h2 h3 => ?_)
  rw [nI_clamp (by omega), pl_up hw.2.2.1 ha he hq] at h1 h2
  exact kk H1 locs1 ⟨hw.1, h1, h2, h3⟩
/-- an array of objects -/
theorem g_aald (hexec : p.tables.exec = Jvm.exec) (hb : c.code = cc) (hw : gw D cl tys L s H0 f H locs) (ha : a ∈ L) (t0 : Nat) {cA : ClassId} {C : String} {n : Nat} {z : Nat → Option Nat} (he : f a = .inl (cA, n, .inr (.inr (.inr (.inr z))))) (ht : tys[t0]? = some (cA, .object C)) {i : Int32} (k : Nat) (hi : i = nI k) (hk : k < n) (hn : n < 2 ^ 31) {b : Nat} (hz : z k = some b) (hdg : decode cc pc = .ok (.aaload, 1))
    (kk : W p l e R s m args below meth c H locs cells slots Q (F0 m (pc + 1) ls (.ref b :: rest))) : W p l e R s m args below meth c H locs cells slots Q (F0 m pc ls (.int i :: .ref a :: rest)) := by
  obtain ⟨q0, hq⟩ := pl_ix ha he
  subst hi
  refine va_aldq hexec hb hw.1 hw.2.1 q0 t0 hq ht (vp_in_nI hk hn) hdg ?_
  rw [nI_clamp (by omega), hz]
  exact kk
/-- calls of methods that make nothing -/
theorem g_pre {as : List Value} (hw : gw D cl tys L s H0 f H locs) : ∀ U : State, U.heap = H → s.WarmedH U.vm → mpre D cl tys L f as as.toArray U := fun U hU hW => ⟨rfl, va_K.moved hW.alike hw.1, by rw [hU]; exact hw.2.1, hw.2.2.1⟩
theorem g_recv {b ci : Nat} {fs : List Value} {q : vw_C} (hw : gw D cl tys L s H0 f H locs) (hb : b ∈ L) (he : f b = .inr (ci, fs)) (hc : cl[ci]? = some q) : ∃ cellB : Cell, H[b]? = some cellB ∧ cellB.vm.isStatics = false ∧ s.vm.findClass q.1 = some cellB.cls := by
  obtain ⟨q0, hq⟩ := pl_ix hb he
  exact va_recv hw.1 hw.2.1 hc hq
theorem g_back {t : State} {f' : Nat → va_E} {H1 : Heap} {locs1 : List Loc} (ht : t.heap = H1) (hvm : s.vm.Alike t.vm) (hB : mst D cl tys L f' t) (hS : va_S (fun q => q ∈ L) H0 H1 locs1) : gw D cl tys L s H0 f' H1 locs1 := ⟨va_K.moved hvm.symm hB.1, by rw [← ht]; exact hB.2.1, hB.2.2, hS⟩
theorem g_oi {mc ms : Nat} {a9 : Array Value} {post : Int32 → (Nat → va_E) → Prop} (hr : va_Run p l e R s m args below meth c H locs cells slots 0 0 (F0 m pc ls st0) rest (va_Qi post (mst D cl tys L) (fun q => q ∈ L) a9) (fun q => q ∈ L)) (hw : gw D cl tys L s H0 f H locs)
    (kk : ∀ (r : Int32) (f' : Nat → va_E) (H1 : Heap) (locs1 : List Loc), post r f' → gw D cl tys L s H0 f' H1 locs1 → W p l e R s m args below meth c H1 locs1 cells slots Q (F0 m (pc + 3) ls (.int r :: rest))) : W p l e R s m args below meth c H locs cells slots Q (F0 m pc ls st0) :=
  va_calli hr hw.2.2.2 (fun _ _ h => h) (fun _ h => h) (fun r f' t H1 locs1 ht hvm hp hB _ _ hS => kk r f' H1 locs1 hp (g_back ht hvm hB hS))
theorem g_ol {a9 : Array Value} {post : Int64 → (Nat → va_E) → Prop} (hr : va_Run p l e R s m args below meth c H locs cells slots 0 0 (F0 m pc ls st0) rest (va_Ql post (mst D cl tys L) (fun q => q ∈ L) a9) (fun q => q ∈ L)) (hw : gw D cl tys L s H0 f H locs)
    (kk : ∀ (r : Int64) (f' : Nat → va_E) (H1 : Heap) (locs1 : List Loc), post r f' → gw D cl tys L s H0 f' H1 locs1 → W p l e R s m args below meth c H1 locs1 cells slots Q (F0 m (pc + 3) ls (.long r :: rest))) : W p l e R s m args below meth c H locs cells slots Q (F0 m pc ls st0) :=
  va_calll hr hw.2.2.2 (fun _ _ h => h) (fun _ h => h) (fun r f' t H1 locs1 ht hvm hp hB _ _ hS => kk r f' H1 locs1 hp (g_back ht hvm hB hS))
theorem g_ov {a9 : Array Value} {post : (Nat → va_E) → Prop} (hr : va_Run p l e R s m args below meth c H locs cells slots 0 0 (F0 m pc ls st0) rest (va_Qv post (mst D cl tys L) (fun q => q ∈ L) a9) (fun q => q ∈ L)) (hw : gw D cl tys L s H0 f H locs)
    (kk : ∀ (f' : Nat → va_E) (H1 : Heap) (locs1 : List Loc), post f' → gw D cl tys L s H0 f' H1 locs1 → W p l e R s m args below meth c H1 locs1 cells slots Q (F0 m (pc + 3) ls rest)) : W p l e R s m args below meth c H locs cells slots Q (F0 m pc ls st0) :=
  va_callv hr hw.2.2.2 (fun _ _ h => h) (fun _ h => h) (fun f' t H1 locs1 ht hvm hp hB _ _ hS => kk f' H1 locs1 hp (g_back ht hvm hB hS))
theorem g_or {a9 : Array Value} {post : Nat → (Nat → va_E) → Prop} (hr : va_Run p l e R s m args below meth c H locs cells slots 0 0 (F0 m pc ls st0) rest (va_Qr (fun _ : Nat → va_E => True) (fun f' a t => mst D cl tys L f' t ∧ post a f') (fun q => q ∈ L) a9) (fun q => q ∈ L)) (hw : gw D cl tys L s H0 f H locs)
    (kk : ∀ (r : Nat) (f' : Nat → va_E) (H1 : Heap) (locs1 : List Loc), post r f' → gw D cl tys L s H0 f' H1 locs1 → W p l e R s m args below meth c H1 locs1 cells slots Q (F0 m (pc + 3) ls (.ref r :: rest))) : W p l e R s m args below meth c H locs cells slots Q (F0 m pc ls st0) :=
  va_callr hr hw.2.2.2 (fun _ _ h => h) (fun _ h => h) (fun f' r t H1 locs1 ht hvm _ hB _ _ hS => kk r f' H1 locs1 hB.2 (g_back ht hvm hB.1 hS))
/-- ends -/
theorem g_reti {post : Int32 → (Nat → va_E) → Prop} {L' : Nat → Prop} (hexec : p.tables.exec = Jvm.exec) (hb : c.code = cc) (hr : meth.sig.returnType = some .int) (hlocks : meth.locks = false) (hw : gw D cl tys L s s.heap f H locs) {v : Int32} (hp : post v f) (hdg : decode cc pc = .ok (.ireturn, 1)) :
    W p l e R s m args below meth c H locs cells slots (MQ below (va_Qi post (mst D cl tys L) (fun q => q ∈ L)) args s cells slots (fun q => q ∈ L)) (F0 m pc ls [.int v]) :=
  W.iret hexec hb hr (fun t ht hW => ⟨⟨v, f, rfl, hp, va_K.moved hW.alike hw.1, by rw [ht]; exact hw.2.1, hw.2.2.1⟩, hw.2.2.2.F ht⟩) hw.2.2.2.2.2 hdg hlocks
theorem g_retz {post : Int32 → (Nat → va_E) → Prop} {ty : FieldType} (hexec : p.tables.exec = Jvm.exec) (hb : c.code = cc) (hr : meth.sig.returnType = some ty) (hlocks : meth.locks = false) (hw : gw D cl tys L s s.heap f H locs) {v : Int32} (hn : narrow ty (.int v) = .int v) (hp : post v f) (hdg : decode cc pc = .ok (.ireturn, 1)) :
    W p l e R s m args below meth c H locs cells slots (MQ below (va_Qi post (mst D cl tys L) (fun q => q ∈ L)) args s cells slots (fun q => q ∈ L)) (F0 m pc ls [.int v]) :=
  W.zret hexec hb hr hn (fun t ht hW => ⟨⟨v, f, rfl, hp, va_K.moved hW.alike hw.1, by rw [ht]; exact hw.2.1, hw.2.2.1⟩, hw.2.2.2.F ht⟩) hw.2.2.2.2.2 hdg hlocks
theorem g_retl {post : Int64 → (Nat → va_E) → Prop} (hexec : p.tables.exec = Jvm.exec) (hb : c.code = cc) (hr : meth.sig.returnType = some .long) (hlocks : meth.locks = false) (hw : gw D cl tys L s s.heap f H locs) {v : Int64} (hp : post v f) (hdg : decode cc pc = .ok (.lreturn, 1)) :
    W p l e R s m args below meth c H locs cells slots (MQ below (va_Ql post (mst D cl tys L) (fun q => q ∈ L)) args s cells slots (fun q => q ∈ L)) (F0 m pc ls [.long v]) :=
  W.lret hexec hb hr (fun t ht hW => ⟨⟨v, f, rfl, hp, va_K.moved hW.alike hw.1, by rw [ht]; exact hw.2.1, hw.2.2.1⟩, hw.2.2.2.F ht⟩) hw.2.2.2.2.2 hdg hlocks
theorem g_retv {post : (Nat → va_E) → Prop} (hexec : p.tables.exec = Jvm.exec) (hb : c.code = cc) (hr : meth.sig.returnType = none) (hlocks : meth.locks = false) (hw : gw D cl tys L s s.heap f H locs) (hp : post f) (hdg : decode cc pc = .ok (.return_, 1)) :
    W p l e R s m args below meth c H locs cells slots (MQ below (va_Qv post (mst D cl tys L) (fun q => q ∈ L)) args s cells slots (fun q => q ∈ L)) (F0 m pc ls []) :=
  W.vret hexec hb hr (fun t ht hW => ⟨⟨f, rfl, hp, va_K.moved hW.alike hw.1, by rw [ht]; exact hw.2.1, hw.2.2.1⟩, hw.2.2.2.F ht⟩) hw.2.2.2.2.2 hdg hlocks
/-- a method's beginning -/
theorem g_start {v : Array Value} {as : List Value} (h : mpre D cl tys L f as v s) : v = as.toArray ∧ gw D cl tys L s s.heap f s.heap [] := ⟨h.1, h.2.1, h.2.2.1, h.2.2.2, va_S.rf⟩
end MEM
end
section
-- ===== known cells: a list of addresses and what they hold; all other cells of the pool are as at f0 =====
def kn (L : List Nat) (f0 f : Nat → va_E) (ws : va_W) : Prop := (∀ (k : Nat) (q : Nat × va_E), ws[k]? = some q → q.1 ∈ L ∧ f q.1 = q.2) ∧ (∀ (i j : Nat) (x y : Nat × va_E), ws[i]? = some x → ws[j]? = some y → x.1 = y.1 → i = j) ∧ ∀ q : Nat, (∀ (k : Nat) (e : va_E), ws[k]? ≠ some (q, e)) → f q = f0 q
theorem kn_nil (L : List Nat) (f : Nat → va_E) : kn L f f [] := ⟨fun k q h => by cases h, fun i j x y h => by cases h, fun _ _ => rfl⟩
theorem kn_put {L : List Nat} {f0 f : Nat → va_E} {ws : va_W} (h : kn L f0 f ws) {i a : Nat} {e0 e : va_E} (hi : ws[i]? = some (a, e0)) : kn L f0 (va_up f a e) (ws.set i (a, e)) := by
  have hil : i < ws.length := (List.getElem?_eq_some_iff.mp hi).1
  have key : ∀ (k : Nat) (q : Nat × va_E), (ws.set i (a, e))[k]? = some q → (k = i ∧ q = (a, e)) ∨ (k ≠ i ∧ ws[k]? = some q) := by
    intro k q hk
    by_cases hki : k = i
    · subst hki
      rw [List.getElem?_set_self hil] at hk
      exact Or.inl ⟨rfl, (Option.some.inj hk).symm⟩
    · rw [List.getElem?_set_ne (Ne.symm hki)] at hk
      exact Or.inr ⟨hki, hk⟩
  have back : ∀ (k : Nat) (q : Nat × va_E), (ws.set i (a, e))[k]? = some q → ∃ e1, ws[k]? = some (q.1, e1) := by
    intro k q hk
    rcases key k q hk with ⟨h1, h2⟩ | ⟨_, h2⟩
    · subst h1; subst h2; exact ⟨e0, hi⟩
    · exact ⟨q.2, h2⟩
  refine ⟨fun k q hk => ?_, fun k j x y hk hj hxy => ?_, fun q hq => ?_⟩
  · rcases key k q hk with ⟨h1, h2⟩ | ⟨h1, h2⟩
    · subst h2
      exact ⟨(h.1 i _ hi).1, va_up_self f a e⟩
    · refine ⟨(h.1 k q h2).1, ?_⟩
      rw [va_up_ne f e (fun ha => h1 (h.2.1 k i q (a, e0) h2 hi ha))]
      exact (h.1 k q h2).2
  · obtain ⟨e1, h1⟩ := back k x hk
    obtain ⟨e2, h2⟩ := back j y hj
    exact h.2.1 k j (x.1, e1) (y.1, e2) h1 h2 hxy
  · have hqa : q ≠ a := fun ha => by
      subst ha
      exact hq i e (List.getElem?_set_self hil)
    rw [va_up_ne f e hqa]
    refine h.2.2 q (fun k e1 hk => ?_)
    by_cases hki : k = i
    · subst hki
      rw [hi] at hk
      exact hqa (congrArg Prod.fst (Option.some.inj hk)).symm
    · exact hq k e1 (by rw [List.getElem?_set_ne (Ne.symm hki)]; exact hk)
/-- one cell more is looked at -/
theorem kn_add {L : List Nat} {f0 f : Nat → va_E} {ws : va_W} (h : kn L f0 f ws) {a : Nat} {e : va_E} (ha : a ∈ L) (he : f0 a = e) (hn : ∀ (k : Nat) (q : Nat × va_E), ws[k]? = some q → q.1 ≠ a) : kn L f0 f (ws ++ [(a, e)]) := by
  have hfa : f a = f0 a := h.2.2 a (fun k e1 hk => hn k _ hk rfl)
  have key : ∀ (k : Nat) (q : Nat × va_E), (ws ++ [(a, e)])[k]? = some q → (k < ws.length ∧ ws[k]? = some q) ∨ (k = ws.length ∧ q = (a, e)) := by
    intro k q hk
    by_cases hl : k < ws.length
    · rw [List.getElem?_append_left hl] at hk
      exact Or.inl ⟨hl, hk⟩
    · rw [List.getElem?_append_right (by omega)] at hk
      have h0 : k - ws.length < 1 := (List.getElem?_eq_some_iff.mp hk).1
      rw [show k - ws.length = 0 by omega] at hk
      exact Or.inr ⟨by omega, (Option.some.inj hk).symm⟩
  refine ⟨fun k q hk => ?_, fun i j x y hi hj hxy => ?_, fun q hq => ?_⟩
  · rcases key k q hk with ⟨_, h2⟩ | ⟨_, h2⟩
    · exact h.1 k q h2
    · subst h2
      exact ⟨ha, hfa.trans he⟩
  · rcases key i x hi with ⟨h1, h2⟩ | ⟨h1, h2⟩ <;> rcases key j y hj with ⟨h3, h4⟩ | ⟨h3, h4⟩
    · exact h.2.1 i j x y h2 h4 hxy
    · exact absurd (by rw [hxy, h4]) (hn i x h2)
    · exact absurd (by rw [← hxy, h2]) (hn j y h4)
    · omega
  · refine h.2.2 q (fun k e1 hk => hq k e1 ?_)
    rw [List.getElem?_append_left (List.getElem?_eq_some_iff.mp hk).1]
    exact hk
/-- behind a call: it knew the cells at the places is, and left them as wc' -/
def kset : va_W → List Nat → va_W → va_W
  | ws, i :: is, x :: xs => kset (ws.set i x) is xs
  | ws, _, _ => ws
def kw (D : va_G) (cl : List vw_C) (tys : List (ClassId × FieldType)) (L : List Nat) (s : State) (H0 : Heap) (f0 : Nat → va_E) (ws : va_W) (H : Heap) (locs : List Loc) : Prop := ∃ f : Nat → va_E, gw D cl tys L s H0 f H locs ∧ kn L f0 f ws
section KMEM
variable {p : Program} {l : Launch} {e : Env} {R : Room} {s : State} {m : MethodId} {args : Array Value} {below : List Frame} {meth : Method} {c : Code} {H : Heap} {locs : List Loc} {cells slots : Nat} {Q : State → Prop}
variable {cc : ByteArray} {pc : Nat} {ls : Array Slot} {rest st0 : List Value} {D : va_G} {cl : List vw_C} {a : Nat} {tys : List (ClassId × FieldType)} {H0 : Heap} {L : List Nat} {f0 : Nat → va_E} {ws : va_W}
theorem k_add (hw : kw D cl tys L s H0 f0 ws H locs) {ea : va_E} (ha : a ∈ L) (he : f0 a = ea) (hn : ∀ (k : Nat) (q : Nat × va_E), ws[k]? = some q → q.1 ≠ a) : kw D cl tys L s H0 f0 (ws ++ [(a, ea)]) H locs := by
  obtain ⟨f, h1, h2⟩ := hw
  exact ⟨f, h1, kn_add h2 ha he hn⟩
theorem k_get (hexec : p.tables.exec = Jvm.exec) (hb : c.code = cc) {own ref C : String} {T : u_T} {N ci index : Nat} {Ts : List Cond} (hts : ∀ w ∈ Ts, w.before args s = true) (hin : ∀ w ∈ u_ws C T N, w ∈ Ts) (hown : s.vm.findClass own = some m.cls) (hw : kw D cl tys L s H0 f0 ws H locs) (i : Nat) {fs : List Value} (hi : ws[i]? = some (a, .inr (ci, fs))) (hc : cl[ci]? = some (C, T, N)) (k : Nat) (hk : k < N) (hlink : (Cond.fieldLink own index ref (T k).2.1 (T k).2.2.1).before args s = true) (hsame : ∀ x, s.fieldFound? (T k).1 (T k).2.1 (T k).2.2.1 = some x → s.fieldFound? ref (T k).2.1 (T k).2.2.1 = some x) {v : Value} (hv : fs[k]? = some v) (hdg : decode cc pc = .ok (.getfield index, 3))
    (kk : W p l e R s m args below meth c H locs cells slots Q (F0 m (pc + 3) ls (v :: rest))) : W p l e R s m args below meth c H locs cells slots Q (F0 m pc ls (.ref a :: rest)) := by
  obtain ⟨f, h1, h2⟩ := hw
  obtain ⟨g1, g2⟩ := h2.1 i _ hi
  exact g_get hexec hb hts hin hown h1 g1 g2 hc k hk hlink hsame hv hdg kk
theorem k_put (hexec : p.tables.exec = Jvm.exec) (hb : c.code = cc) {own ref C : String} {T : u_T} {N ci index : Nat} {Ts : List Cond} (hts : ∀ w ∈ Ts, w.before args s = true) (hin : ∀ w ∈ u_ws C T N, w ∈ Ts) (ty0 : Nat → FieldType) (hty : ∀ k, k < N → parseFieldDescriptor (T k).2.2.1 = some (ty0 k)) (hnm : ∀ a, a < N → ∀ b, b < N → a ≠ b → (T a).2.1 ≠ (T b).2.1) (hown : s.vm.findClass own = some m.cls) (hw : kw D cl tys L s H0 f0 ws H locs) (i : Nat) {fs : List Value} (hi : ws[i]? = some (a, .inr (ci, fs))) (hc : cl[ci]? = some (C, T, N)) (k : Nat) (hk : k < N) (hlink : (Cond.fieldLink own index ref (T k).2.1 (T k).2.2.1).before args s = true) (hsame : ∀ x, s.fieldFound? (T k).1 (T k).2.1 (T k).2.2.1 = some x → s.fieldFound? ref (T k).2.1 (T k).2.2.1 = some x) (hfin : (T k).2.2.2 = false) {ty : FieldType} {v : Value} (hd : parseFieldDescriptor (T k).2.2.1 = some ty) (hn : narrow ty v = v) (hfit : fits ty v = true) (hl : k < fs.length)
    (hdg : decode cc pc = .ok (.putfield index, 3)) (kk : ∀ (H1 : Heap) (locs1 : List Loc), kw D cl tys L s H0 f0 (ws.set i (a, .inr (ci, fs.set k v))) H1 locs1 → W p l e R s m args below meth c H1 locs1 cells slots Q (F0 m (pc + 3) ls rest)) : W p l e R s m args below meth c H locs cells slots Q (F0 m pc ls (v :: .ref a :: rest)) := by
  obtain ⟨f, h1, h2⟩ := hw
  obtain ⟨g1, g2⟩ := h2.1 i _ hi
  exact g_put hexec hb hts hin ty0 hty hnm hown h1 g1 g2 hc k hk hlink hsame hfin hd hn hfit hl hdg (fun H1 locs1 h => kk H1 locs1 ⟨_, h, kn_put h2 hi⟩)
theorem k_iald (hexec : p.tables.exec = Jvm.exec) (hb : c.code = cc) (hw : kw D cl tys L s H0 f0 ws H locs) (q0 t0 : Nat) {cA : ClassId} {n : Nat} {z : Nat → Int32} (hi : ws[q0]? = some (a, .inl (cA, n, .inl z))) (ht : tys[t0]? = some (cA, .int)) {i : Int32} (k : Nat) (hik : i = nI k) (hk : k < n) (hn : n < 2 ^ 31) (hdg : decode cc pc = .ok (.iaload, 1))
    (kk : W p l e R s m args below meth c H locs cells slots Q (F0 m (pc + 1) ls (.int (z k) :: rest))) : W p l e R s m args below meth c H locs cells slots Q (F0 m pc ls (.int i :: .ref a :: rest)) := by
  obtain ⟨f, h1, h2⟩ := hw
  obtain ⟨g1, g2⟩ := h2.1 q0 _ hi
  exact g_iald hexec hb h1 g1 t0 g2 ht k hik hk hn hdg kk
theorem k_iast (hexec : p.tables.exec = Jvm.exec) (hb : c.code = cc) (hw : kw D cl tys L s H0 f0 ws H locs) (q0 t0 : Nat) {cA : ClassId} {n : Nat} {z : Nat → Int32} (hi : ws[q0]? = some (a, .inl (cA, n, .inl z))) (ht : tys[t0]? = some (cA, .int)) {i x : Int32} (k : Nat) (hik : i = nI k) (hk : k < n) (hn : n < 2 ^ 31) (hdg : decode cc pc = .ok (.iastore, 1))
    (kk : ∀ (H1 : Heap) (locs1 : List Loc), kw D cl tys L s H0 f0 (ws.set q0 (a, .inl (cA, n, .inl (upd z k x)))) H1 locs1 → W p l e R s m args below meth c H1 locs1 cells slots Q (F0 m (pc + 1) ls rest)) : W p l e R s m args below meth c H locs cells slots Q (F0 m pc ls (.int x :: .int i :: .ref a :: rest)) := by
  obtain ⟨f, h1, h2⟩ := hw
  obtain ⟨g1, g2⟩ := h2.1 q0 _ hi
  exact g_iast hexec hb h1 g1 t0 g2 ht k hik hk hn hdg (fun H1 locs1 h => kk H1 locs1 ⟨_, h, kn_put h2 hi⟩)
end KMEM
end

-- ===== sums of integers, and the spaces of rows modulo p (p = 0: the rationals; p a prime: its residues) =====
def sm : Nat → (Nat → Int) → Int
  | 0, _ => 0
  | k + 1, f => sm k f + f k
theorem sm_congr {n : Nat} {f g : Nat → Int} (h : ∀ i, i < n → f i = g i) : sm n f = sm n g := by
  induction n with
  | zero => rfl
  | succ n ih =>
    show sm n f + f n = sm n g + g n
    rw [ih (fun i hi => h i (by omega)), h n (by omega)]
theorem sm_add (n : Nat) (f g : Nat → Int) : sm n (fun i => f i + g i) = sm n f + sm n g := by
  induction n with
  | zero => rfl
  | succ n ih =>
    show sm n (fun i => f i + g i) + (f n + g n) = (sm n f + f n) + (sm n g + g n)
    rw [ih]; omega
theorem sm_mul (n : Nat) (c : Int) (f : Nat → Int) : sm n (fun i => c * f i) = c * sm n f := by
  induction n with
  | zero => show (0 : Int) = c * 0; rw [Int.mul_zero]
  | succ n ih =>
    show sm n (fun i => c * f i) + c * f n = c * (sm n f + f n)
    rw [ih, Int.mul_add]
theorem sm_zero {n : Nat} {f : Nat → Int} (h : ∀ i, i < n → f i = 0) : sm n f = 0 := by
  induction n with
  | zero => rfl
  | succ n ih =>
    show sm n f + f n = 0
    rw [ih (fun i hi => h i (by omega)), h n (by omega)]; rfl
theorem sm_dvd {p : Int} {n : Nat} {f : Nat → Int} (h : ∀ i, i < n → p ∣ f i) : p ∣ sm n f := by
  induction n with
  | zero => exact Int.dvd_zero p
  | succ n ih => exact Int.dvd_add (ih (fun i hi => h i (by omega))) (h n (by omega))
theorem sm_dvd1 {p : Int} {n k : Nat} {f : Nat → Int} (hk : k < n) (h : ∀ i, i < n → i ≠ k → p ∣ f i) : p ∣ sm n f - f k := by
  induction n with
  | zero => omega
  | succ n ih =>
    show p ∣ sm n f + f n - f k
    by_cases e : k = n
    · subst e
      have : p ∣ sm k f := sm_dvd (fun i hi => h i (by omega) (by omega))
      rw [show sm k f + f k - f k = sm k f by omega]
      exact this
    · have h1 := ih (by omega) (fun i hi => h i (by omega))
      have h2 := h n (by omega) (by omega)
      rw [show sm n f + f n - f k = (sm n f - f k) + f n by omega]
      exact Int.dvd_add h1 h2
theorem sm_one {n k : Nat} {f : Nat → Int} (hk : k < n) (h : ∀ i, i < n → i ≠ k → f i = 0) : sm n f = f k := by
  have h0 : (0 : Int) ∣ sm n f - f k := sm_dvd1 hk (fun i hi hne => by rw [h i hi hne]; exact Int.dvd_refl 0)
  have := Int.zero_dvd.mp h0
  omega
theorem sm_swap (n m : Nat) (f : Nat → Nat → Int) : sm n (fun i => sm m (fun j => f i j)) = sm m (fun j => sm n (fun i => f i j)) := by
  induction n with
  | zero =>
    show (0 : Int) = sm m (fun j => 0)
    exact (sm_zero (fun _ _ => rfl)).symm
  | succ n ih =>
    show sm n (fun i => sm m (fun j => f i j)) + sm m (fun j => f n j) = sm m (fun j => sm n (fun i => f i j) + f n j)
    rw [ih, sm_add]
-- the numbers modulo p are a domain
def dm (p : Int) : Prop := ¬ p ∣ 1 ∧ ∀ a b : Int, p ∣ a * b → p ∣ a ∨ p ∣ b
theorem dm0 : dm 0 := by
  refine ⟨fun h => by have := Int.zero_dvd.mp h; omega, fun a b h => ?_⟩
  have := Int.zero_dvd.mp h
  rcases Int.mul_eq_zero.mp this with h | h
  · exact Or.inl (Int.zero_dvd.mpr h)
  · exact Or.inr (Int.zero_dvd.mpr h)
theorem dm.mul {p : Int} (h : dm p) {a b : Int} (ha : ¬ p ∣ a) (hb : ¬ p ∣ b) : ¬ p ∣ a * b := fun q => (h.2 a b q).elim ha hb
theorem dm.left {p : Int} (h : dm p) {a b : Int} (ha : ¬ p ∣ a) (hb : p ∣ a * b) : p ∣ b := (h.2 a b hb).resolve_left ha
-- the space of k rows A of n columns: x times a number that isn't 0 is a sum of multiples of rows
def sp (p : Int) (n k : Nat) (A : Nat → Nat → Int) (x : Nat → Int) : Prop := ∃ (s : Int) (c : Nat → Int), ¬ p ∣ s ∧ ∀ j, j < n → p ∣ s * x j - sm k (fun i => c i * A i j)
theorem sp_0 {p : Int} (hp : dm p) {n k : Nat} {A : Nat → Nat → Int} {x : Nat → Int} (h : ∀ j, j < n → p ∣ x j) : sp p n k A x := by
  refine ⟨1, fun _ => 0, hp.1, fun j hj => ?_⟩
  rw [sm_zero (fun i _ => by rw [Int.zero_mul]), Int.one_mul, Int.sub_zero]
  exact h j hj
theorem sp_row {p : Int} (hp : dm p) {n k : Nat} {A : Nat → Nat → Int} {r : Nat} (hr : r < k) : sp p n k A (A r) := by
  refine ⟨1, fun i => if i = r then 1 else 0, hp.1, fun j hj => ?_⟩
  rw [sm_one hr (fun i _ hne => by show (if i = r then (1 : Int) else 0) * A i j = 0; rw [if_neg hne, Int.zero_mul])]
  show p ∣ 1 * A r j - (if r = r then (1 : Int) else 0) * A r j
  rw [if_pos rfl, Int.sub_self]
  exact Int.dvd_zero p
/-- t z is a x + b y: then z is there with x and y -/
theorem sp_comb {p : Int} (hp : dm p) {n k : Nat} {A : Nat → Nat → Int} {x y z : Nat → Int} {t a b : Int} (hx : sp p n k A x) (hy : sp p n k A y) (ht : ¬ p ∣ t) (h : ∀ j, j < n → p ∣ t * z j - (a * x j + b * y j)) : sp p n k A z := by
  obtain ⟨s, c, hs, hc⟩ := hx
  obtain ⟨s', c', hs', hc'⟩ := hy
  refine ⟨s * s' * t, fun i => s' * a * c i + s * b * c' i, hp.mul (hp.mul hs hs') ht, fun j hj => ?_⟩
  have e : sm k (fun i => (s' * a * c i + s * b * c' i) * A i j) = s' * a * sm k (fun i => c i * A i j) + s * b * sm k (fun i => c' i * A i j) := by
    rw [← sm_mul, ← sm_mul, ← sm_add]
    exact sm_congr (fun i _ => by grind)
  rw [e]
  obtain ⟨u, hu⟩ := h j hj
  obtain ⟨v, hv⟩ := hc j hj
  obtain ⟨w, hw⟩ := hc' j hj
  generalize sm k (fun i => c i * A i j) = X at hv ⊢
  generalize sm k (fun i => c' i * A i j) = Y at hw ⊢
  refine ⟨s * s' * u + s' * a * v + s * b * w, ?_⟩
  grind
theorem sp_scale {p : Int} (hp : dm p) {n k : Nat} {A : Nat → Nat → Int} {x z : Nat → Int} {t a : Int} (hx : sp p n k A x) (ht : ¬ p ∣ t) (h : ∀ j, j < n → p ∣ t * z j - a * x j) : sp p n k A z :=
  sp_comb (a := a) (b := 0) hp hx hx ht (fun j hj => by rw [Int.zero_mul, Int.add_zero]; exact h j hj)
theorem sp_congr {p : Int} (hp : dm p) {n k : Nat} {A : Nat → Nat → Int} {x z : Nat → Int} (hx : sp p n k A x) (h : ∀ j, j < n → p ∣ z j - x j) : sp p n k A z :=
  sp_scale (a := 1) (t := 1) hp hx hp.1 (fun j hj => by rw [Int.one_mul, Int.one_mul]; exact h j hj)
theorem sp_sum {p : Int} (hp : dm p) {n k m : Nat} {A B : Nat → Nat → Int} {c : Nat → Int} (h : ∀ i, i < m → sp p n k A (B i)) : sp p n k A (fun j => sm m (fun i => c i * B i j)) := by
  induction m with
  | zero => exact sp_0 hp (fun j _ => Int.dvd_zero p)
  | succ m ih =>
    refine sp_comb (t := 1) (a := 1) (b := c m) hp (ih (fun i hi => h i (by omega))) (h m (by omega)) hp.1 (fun j _ => ?_)
    show p ∣ 1 * (sm m (fun i => c i * B i j) + c m * B m j) - (1 * sm m (fun i => c i * B i j) + c m * B m j)
    rw [Int.one_mul, Int.one_mul, Int.sub_self]
    exact Int.dvd_zero p
theorem sp_trans {p : Int} (hp : dm p) {n k m : Nat} {A B : Nat → Nat → Int} {x : Nat → Int} (hx : sp p n m B x) (h : ∀ i, i < m → sp p n k A (B i)) : sp p n k A x := by
  obtain ⟨s, c, hs, hc⟩ := hx
  exact sp_scale (a := 1) hp (sp_sum (c := c) hp h) hs (fun j hj => by rw [Int.one_mul]; exact hc j hj)
-- reduced: each row has a place, where all others are 0
def rd (p : Int) (n k : Nat) (T : Nat → Nat → Int) (pl : Nat → Nat) : Prop := (∀ r, r < k → pl r < n ∧ ¬ p ∣ T r (pl r)) ∧ ∀ r q, r < k → q < k → q ≠ r → p ∣ T q (pl r)
theorem rd_at {p : Int} {n k : Nat} {T : Nat → Nat → Int} {pl : Nat → Nat} (h : rd p n k T pl) {c : Nat → Int} {r : Nat} (hr : r < k) : p ∣ sm k (fun i => c i * T i (pl r)) - c r * T r (pl r) :=
  sm_dvd1 (f := fun i => c i * T i (pl r)) hr (fun i hi hne => Int.dvd_mul_of_dvd_right (h.2 r i hr hi hne))
/-- what is 0 at all places is 0 -/
theorem rd_zero {p : Int} (hp : dm p) {n k : Nat} {T : Nat → Nat → Int} {pl : Nat → Nat} {x : Nat → Int} (h : rd p n k T pl) (hx : sp p n k T x) (h0 : ∀ r, r < k → p ∣ x (pl r)) : ∀ j, j < n → p ∣ x j := by
  obtain ⟨s, c, hs, hc⟩ := hx
  have hcr : ∀ r, r < k → p ∣ c r := by
    intro r hr
    obtain ⟨hn, ht⟩ := h.1 r hr
    have h1 := hc (pl r) hn
    have h2 := rd_at (c := c) h hr
    have h3 : p ∣ s * x (pl r) := Int.dvd_mul_of_dvd_right (h0 r hr)
    have h4 : p ∣ T r (pl r) * c r := by
      obtain ⟨u, hu⟩ := h1
      obtain ⟨v, hv⟩ := h2
      obtain ⟨w, hw⟩ := h3
      refine ⟨w - u - v, ?_⟩
      generalize sm k (fun i => c i * T i (pl r)) = X at hu hv
      grind
    exact hp.left ht h4
  intro j hj
  have h1 := hc j hj
  have h2 : p ∣ sm k (fun i => c i * T i j) := sm_dvd (fun i hi => Int.dvd_mul_of_dvd_left (hcr i hi))
  have h3 : p ∣ s * x j := by
    have := Int.dvd_add h1 h2
    rwa [Int.sub_add_cancel] at this
  exact hp.left hs h3
/-- what is 0 at all places but row r's is a multiple of row r -/
theorem rd_row {p : Int} (hp : dm p) {n k : Nat} {T : Nat → Nat → Int} {pl : Nat → Nat} {x : Nat → Int} (h : rd p n k T pl) (hx : sp p n k T x) {r : Nat} (hr : r < k) (h0 : ∀ q, q < k → q ≠ r → p ∣ x (pl q)) : ∀ j, j < n → p ∣ T r (pl r) * x j - x (pl r) * T r j := by
  have hy : sp p n k T (fun j => T r (pl r) * x j - x (pl r) * T r j) := by
    refine sp_comb (t := 1) (a := T r (pl r)) (b := - x (pl r)) hp hx (sp_row hp hr) hp.1 (fun j _ => ⟨0, ?_⟩)
    grind
  refine rd_zero hp h hy (fun q hq => ?_)
  by_cases e : q = r
  · subst e
    show p ∣ T q (pl q) * x (pl q) - x (pl q) * T q (pl q)
    rw [Int.mul_comm, Int.sub_self]
    exact Int.dvd_zero p
  · exact Int.dvd_sub (Int.dvd_mul_of_dvd_right (h0 q hq e)) (Int.dvd_mul_of_dvd_right (h.2 q r hq hr (Ne.symm e)))
-- as it is told: p = 0: whole numbers with no divisor in common, above 0 at the place; else 0 .. p - 1, and 1 at the place
def pm (n : Nat) (x : Nat → Int) : Prop := ∀ d : Int, (∀ j, j < n → d ∣ x j) → d ∣ 1
def tl (p : Int) (n : Nat) (x : Nat → Int) (c : Nat) : Prop := if p = 0 then pm n x ∧ 0 < x c else x c = 1 ∧ ∀ j, j < n → 0 ≤ x j ∧ x j < p
theorem dvd1_pos {a : Int} (h : 0 < a) (h1 : a ∣ 1) : a = 1 := by
  have := Int.le_of_dvd (by omega) h1
  omega
theorem idvd {k m n : Int} (h : Int.gcd k m = 1) (h2 : k ∣ m * n) : k ∣ n := by
  have h3 : k.natAbs ∣ m.natAbs * n.natAbs := by rw [← Int.natAbs_mul]; exact Int.natAbs_dvd_natAbs.mpr h2
  exact Int.natAbs_dvd_natAbs.mp (Nat.Coprime.dvd_of_dvd_mul_left h h3)
theorem pm_eq {n : Nat} {x y : Nat → Int} {a b : Int} (ha : 0 < a) (hb : 0 < b) (hx : pm n x) (hy : pm n y) (h : ∀ j, j < n → a * x j = b * y j) : ∀ j, j < n → x j = y j := by
  -- reduce a / b to lowest terms
  have hg : 0 < (Int.gcd a b : Int) := by
    have : Int.gcd a b ≠ 0 := fun e => by have := (Int.gcd_eq_zero_iff.mp e).1; omega
    omega
  obtain ⟨a', ha'⟩ : (Int.gcd a b : Int) ∣ a := Int.gcd_dvd_left ..
  obtain ⟨b', hb'⟩ : (Int.gcd a b : Int) ∣ b := Int.gcd_dvd_right ..
  generalize hG : (Int.gcd a b : Int) = g at *
  have hco : Int.gcd a' b' = 1 := by
    have h1 : Int.gcd a b = Int.gcd (g * a') (g * b') := by rw [← ha', ← hb']
    rw [Int.gcd_mul_left] at h1
    have h2 : (Int.gcd a b : Int) = (g.natAbs * Int.gcd a' b' : Nat) := by rw [h1]
    rw [hG] at h2
    have h3 : (g.natAbs : Int) = g := Int.natAbs_of_nonneg (by omega)
    rw [Int.natCast_mul, h3] at h2
    have h4 : g * (Int.gcd a' b' : Int) = g * 1 := by rw [← h2, Int.mul_one]
    have := Int.eq_of_mul_eq_mul_left (by omega) h4
    omega
  have ha0 : 0 < a' := by
    rcases Int.lt_trichotomy a' 0 with h | h | h
    · have := Int.mul_neg_of_pos_of_neg hg h; omega
    · rw [h, Int.mul_zero] at ha'; omega
    · exact h
  have hb0 : 0 < b' := by
    rcases Int.lt_trichotomy b' 0 with h | h | h
    · have := Int.mul_neg_of_pos_of_neg hg h; omega
    · rw [h, Int.mul_zero] at hb'; omega
    · exact h
  have h' : ∀ j, j < n → a' * x j = b' * y j := by
    intro j hj
    have := h j hj
    rw [ha', hb', Int.mul_assoc, Int.mul_assoc] at this
    exact Int.eq_of_mul_eq_mul_left (by omega) this
  have hb1 : b' ∣ 1 := hx b' (fun j hj => by
    have h1 : b' ∣ a' * x j := ⟨y j, h' j hj⟩
    exact idvd (by rw [Int.gcd_comm]; exact hco) h1)
  have ha1 : a' ∣ 1 := hy a' (fun j hj => by
    have h1 : a' ∣ b' * y j := ⟨x j, (h' j hj).symm⟩
    exact idvd hco h1)
  have e1 := dvd1_pos ha0 ha1
  have e2 := dvd1_pos hb0 hb1
  intro j hj
  have := h' j hj
  rw [e1, e2, Int.one_mul, Int.one_mul] at this
  exact this

-- ===== where sweeps begin: the space in which a table's rows stand apart =====
theorem lin_del {n n' : Nat} {g : Nat → Nat} {V : (Nat → Int) → Prop} (hl : lin n V) : lin n' (del n n' g V) := by
  intro x y z t a b hx hy ht h
  obtain ⟨x', s, hx', hs, ex⟩ := hx
  obtain ⟨y', s', hy', hs', ey⟩ := hy
  refine ⟨fun j => a * s' * x' j + b * s * y' j, t * s * s', hl x' y' _ 1 (a * s') (b * s) hx' hy' (by omega) (fun j _ => by grind), ?_, fun j hj => ?_⟩
  · intro q
    rcases Int.mul_eq_zero.mp q with q | q
    · rcases Int.mul_eq_zero.mp q with q | q
      · exact ht q
      · exact hs q
    · exact hs' q
  · have h1 := h j hj
    have h2 := ex j hj
    have h3 := ey j hj
    show t * s * s' * z j = a * s' * x' (g j) + b * s * y' (g j)
    rw [← h2, ← h3]
    have : t * s * s' * z j = s * s' * (t * z j) := by grind
    rw [this, h1]
    grind
theorem lin_secV {N : Nat} {V : (Nat → Int) → Prop} (hl : lin N V) (Z : Nat → Prop) : lin N (secV N V Z) := by
  intro x y z t a b hx hy ht h
  refine ⟨hl x y z t a b hx.1 hy.1 ht h, fun j hj hz => ?_⟩
  have h1 := h j hj
  rw [hx.2 j hj hz, hy.2 j hj hz, Int.mul_zero, Int.mul_zero] at h1
  rcases Int.mul_eq_zero.mp h1 with q | q
  · exact absurd q ht
  · exact q
theorem smb_mono {b b' n : Nat} {V : (Nat → Int) → Prop} (h : b ≤ b') (hV : smb b n V) : smb b' n V := fun x hx hn => by
  obtain ⟨y, h1, h2, h3, h4⟩ := hV x hx hn
  exact ⟨y, h1, h2, h3, fun j hj => Nat.le_trans (h4 j hj) h⟩
theorem smC_of {N n : Nat} {V : (Nat → Int) → Prop} (hn : n ≤ N) (hl : lin N V) (hV : smb NB N V) : smC N n V := fun Z _ =>
  sml_del (fun j hj => by show j < N; omega) (lin_secV hl Z) (sml_sec (Z := Z) (fun x => Iff.rfl) hV)
/-- some columns of a reduced table, with all its columns behind them -/
def xg (n : Nat) (κ : Nat → Nat) (u : Nat) : Nat := if u < n then κ u else u - n
theorem xg_lt {n n0 : Nat} {κ : Nat → Nat} (hκ : ∀ j, j < n → κ j < n0) : ∀ u, u < n + n0 → xg n κ u < n0 := fun u hu => by
  unfold xg
  by_cases h : u < n
  · rw [if_pos h]; exact hκ u h
  · rw [if_neg h]; omega
theorem gh_ext {n n0 k : Nat} {κ : Nat → Nat} {V : (Nat → Int) → Prop} {T : Nat → Nat → Int} {pl : Nat → Nat} (h : gh n0 k V T pl) (hκ : ∀ j, j < n → κ j < n0) : gh (n + n0) k (del n0 (n + n0) (xg n κ) V) (fun i u => T i (xg n κ u)) (fun i => n + pl i) := by
  have hx : ∀ u, xg n κ (n + u) = u := fun u => by unfold xg; rw [if_neg (by omega)]; omega
  refine ⟨⟨fun r hr => ?_, fun r q hr hq hne => ?_⟩, fun r hr => ⟨fun d hd => (h.2.1 r hr).1 d (fun j hj => ?_), ?_⟩, fun r hr => ⟨T r, 1, h.2.2.1 r hr, by omega, fun j _ => by rw [Int.one_mul]⟩, fun x hx' => ?_⟩
  · have := h.1.1 r hr
    exact ⟨by show n + pl r < n + n0; omega, by show ¬ (0 : Int) ∣ T r (xg n κ (n + pl r)); rw [hx]; exact this.2⟩
  · show (0 : Int) ∣ T q (xg n κ (n + pl r))
    rw [hx]; exact h.1.2 r q hr hq hne
  · have this : d ∣ T r (xg n κ (n + j)) := hd (n + j) (by omega)
    rwa [hx] at this
  · show 0 < T r (xg n κ (n + pl r))
    rw [hx]; exact (h.2.1 r hr).2
  · obtain ⟨y, t, hy, ht, e⟩ := hx'
    obtain ⟨s, c, hs, hc⟩ := sp0_of (h.2.2.2 y hy)
    refine sp0_mk (s := s * t) (c := c) (fun q => ?_) (fun u hu => ?_)
    · rcases Int.mul_eq_zero.mp q with q | q
      · exact hs q
      · exact ht q
    · rw [Int.mul_assoc, e u hu]
      exact hc _ (xg_lt hκ u hu)
theorem ext_sm {b n n0 : Nat} {κ : Nat → Nat} {V : (Nat → Int) → Prop} (hκ : ∀ j, j < n → κ j < n0) (hl : lin n0 V) (hV : smb b n0 V) : smb b (n + n0) (del n0 (n + n0) (xg n κ) V) := sml_del (xg_lt hκ) hl hV
theorem ext_rcl {n k n0 : Nat} {κ : Nat → Nat} {T A B : Nat → Nat → Int} (h : ∀ i, i < k → ∃ a : Int, 0 < a ∧ ∀ j, j < n → T i (κ j) = a * B i j) : rcl n k (fun i u => T i (xg n κ u)) B := fun i hi => by
  obtain ⟨a, ha, e⟩ := h i hi
  refine ⟨a, ha, fun j hj => ?_⟩
  show T i (xg n κ j) = _
  have : xg n κ j = κ j := by unfold xg; rw [if_pos hj]
  rw [this]; exact e j hj
-- loose tables: rows of whole numbers up to 999, each with a column of its own behind them
def lR (n : Nat) (B : Nat → Nat → Int) (j u : Nat) : Int := if u < n then (if u = j then 1 else 0) else -B (u - n) j
def lV (n k : Nat) (B : Nat → Nat → Int) : (Nat → Int) → Prop := og (n + k) n (lR n B)
def lT (n : Nat) (B : Nat → Nat → Int) (i u : Nat) : Int := if u < n then B i u else if u = n + i then 1 else 0
theorem sm_split (n k : Nat) (f : Nat → Int) : sm (n + k) f = sm n f + sm k (fun i => f (n + i)) := by
  induction k with
  | zero => show sm n f = sm n f + 0; omega
  | succ k ih =>
    show sm (n + k) f + f (n + k) = sm n f + (sm k (fun i => f (n + i)) + f (n + k))
    rw [ih]; omega
theorem lV_iff {n k : Nat} {B : Nat → Nat → Int} {x : Nat → Int} : lV n k B x ↔ ∀ j, j < n → x j = sm k (fun i => x (n + i) * B i j) := by
  have key : ∀ j, j < n → sm (n + k) (fun u => x u * lR n B j u) = x j - sm k (fun i => x (n + i) * B i j) := by
    intro j hj
    rw [sm_split, sm_one (f := fun u => x u * lR n B j u) hj (fun u hu hne => by
      show x u * (if u < n then (if u = j then (1 : Int) else 0) else _) = 0
      rw [if_pos hu, if_neg hne, Int.mul_zero])]
    have e1 : x j * lR n B j j = x j := by
      show x j * (if j < n then (if j = j then (1 : Int) else 0) else _) = x j
      rw [if_pos hj, if_pos rfl, Int.mul_one]
    have e2 : sm k (fun i => x (n + i) * lR n B j (n + i)) = -sm k (fun i => x (n + i) * B i j) := by
      have : sm k (fun i => x (n + i) * lR n B j (n + i)) = sm k (fun i => (-1) * (x (n + i) * B i j)) := sm_congr (fun i _ => by
        show x (n + i) * (if n + i < n then _ else -B (n + i - n) j) = _
        rw [if_neg (by omega), show n + i - n = i by omega]
        grind)
      rw [this, sm_mul]; omega
    rw [e2]
    show x j * lR n B j j + _ = _
    rw [e1]; omega
  constructor
  · intro h j hj
    have := h j hj
    rw [key j hj] at this
    omega
  · intro h j hj
    show sm (n + k) (fun u => x u * lR n B j u) = 0
    rw [key j hj, ← h j hj, Int.sub_self]
theorem l_sm {n k : Nat} {B : Nat → Nat → Int} (hn : n ≤ 12) (hk : k ≤ 12) (hB : ∀ i j, i < k → j < n → (B i j).natAbs ≤ 999) : smb (2 ^ 336) (n + k) (lV n k B) := by
  refine smb_og (fun M hM => ?_) (fun j u hj hu => ?_)
  · have h1 : ((M + 1) * 999) ^ M ≤ (24 * 999) ^ M := Nat.pow_le_pow_left (Nat.mul_le_mul_right _ (by omega)) M
    have h2 : (24 * 999) ^ M ≤ (24 * 999) ^ 23 := Nat.pow_le_pow_right (by omega) (by omega)
    have h3 : (24 * 999) ^ 23 ≤ 2 ^ 336 := by decide +kernel
    exact Nat.le_trans h1 (Nat.le_trans h2 h3)
  · show (if u < n then (if u = j then (1 : Int) else 0) else -B (u - n) j).natAbs ≤ 999
    by_cases h : u < n
    · rw [if_pos h]
      by_cases h2 : u = j
      · rw [if_pos h2]; decide
      · rw [if_neg h2]; decide
    · rw [if_neg h, Int.natAbs_neg]; exact hB _ _ (by omega) hj
theorem l_gh {n k : Nat} {B : Nat → Nat → Int} : gh (n + k) k (lV n k B) (lT n B) (fun i => n + i) := by
  have hself : ∀ i, lT n B i (n + i) = 1 := fun i => by unfold lT; rw [if_neg (by omega), if_pos rfl]
  have hoth : ∀ i q, q ≠ i → lT n B q (n + i) = 0 := fun i q hne => by unfold lT; rw [if_neg (by omega), if_neg (by omega)]
  have hlow : ∀ i j, j < n → lT n B i j = B i j := fun i j hj => by unfold lT; rw [if_pos hj]
  refine ⟨⟨fun r hr => ⟨by show n + r < n + k; omega, by rw [hself]; exact dm0.1⟩, fun r q _ _ hne => by rw [hoth r q hne]; exact Int.dvd_refl 0⟩, fun r hr => ⟨fun d hd => ?_, by rw [hself]; omega⟩, fun r hr => lV_iff.mpr (fun j hj => ?_), fun x hx => ?_⟩
  · have := hd (n + r) (by omega)
    rwa [hself] at this
  · rw [sm_one (f := fun i => lT n B r (n + i) * B i j) hr (fun i _ hne => by
      show lT n B r (n + i) * B i j = 0
      rw [hoth i r (Ne.symm hne), Int.zero_mul])]
    show lT n B r j = lT n B r (n + r) * B r j
    rw [hself, Int.one_mul, hlow r j hj]
  · refine sp0_mk (s := 1) (c := fun i => x (n + i)) (by omega) (fun u hu => ?_)
    rw [Int.one_mul]
    by_cases h : u < n
    · rw [lV_iff.mp hx u h]
      exact sm_congr (fun i _ => by show _ = x (n + i) * lT n B i u; rw [hlow i u h])
    · rw [sm_one (f := fun i => x (n + i) * lT n B i u) (show u - n < k by omega) (fun i _ hne => by
        show x (n + i) * lT n B i u = 0
        have := hoth (u - n) i hne
        rw [show n + (u - n) = u by omega] at this
        rw [this, Int.mul_zero])]
      show x u = x (n + (u - n)) * lT n B (u - n) u
      have := hself (u - n)
      rw [show n + (u - n) = u by omega] at this ⊢
      rw [this, Int.mul_one]
theorem l_rcl {n k : Nat} {B : Nat → Nat → Int} : rcl n k (lT n B) B := fun i _ => ⟨1, by omega, fun j hj => by unfold lT; rw [if_pos hj, Int.one_mul]⟩
theorem l_smC {n k : Nat} {B : Nat → Nat → Int} (hn : n ≤ 12) (hB : ∀ i j, i < k → j < n → (B i j).natAbs ≤ 999) : smC (n + k) n (lV n k B) := by
  intro Z hZ
  classical
  have hS : sml n (sp 0 n k (fun i j => if Z (n + i) then 0 else B i j)) := sml_sp hn k _ (fun i j hi hj => by
      show (if Z (n + i) then (0 : Int) else B i j).natAbs ≤ 999
      by_cases h : Z (n + i)
      · rw [if_pos h]; decide
      · rw [if_neg h]; exact hB i j hi hj)
  refine sml_iff (fun x => ⟨fun hx => ?_, fun hx => ?_⟩) hS
  · obtain ⟨s, c, hs, hc⟩ := sp0_of hx
    refine ⟨fun u => if u < n then s * x u else if Z u then 0 else c (u - n), s, ⟨lV_iff.mpr (fun j hj => ?_), fun j _ hz => ?_⟩, hs, fun j hj => ?_⟩
    · show (if j < n then s * x j else _) = _
      rw [if_pos hj, hc j hj]
      refine sm_congr (fun i _ => ?_)
      show c i * (if Z (n + i) then 0 else B i j) = (if n + i < n then s * x (n + i) else if Z (n + i) then 0 else c (n + i - n)) * B i j
      rw [if_neg (show ¬ n + i < n by omega), show n + i - n = i by omega]
      by_cases h : Z (n + i)
      · rw [if_pos h, if_pos h]; simp
      · rw [if_neg h, if_neg h]
    · have := hZ j hz
      show (if j < n then s * x j else if Z j then 0 else c (j - n)) = 0
      rw [if_neg (show ¬ j < n by omega), if_pos hz]
    · show s * x j = if id j < n then s * x (id j) else _
      rw [if_pos (show id j < n from hj)]; rfl
  · obtain ⟨w, t, ⟨hw, hwz⟩, ht, e⟩ := hx
    refine sp0_mk (s := t) (c := fun i => w (n + i)) ht (fun j hj => ?_)
    rw [e j hj]
    show w j = _
    rw [lV_iff.mp hw j hj]
    refine sm_congr (fun i hi => ?_)
    show w (n + i) * B i j = w (n + i) * (if Z (n + i) then 0 else B i j)
    by_cases h : Z (n + i)
    · rw [if_pos h, hwz (n + i) (by omega) h]; simp
    · rw [if_neg h]

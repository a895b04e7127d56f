-- ===== a reduced table is known by its space, its places and how rows are told =====
theorem tl_eq {p : Int} (h0p : 0 ≤ p) {n : Nat} {x y : Nat → Int} {c : Nat} (hc : c < n) (hx : tl p n x c) (hy : tl p n y c) (h : ∀ j, j < n → p ∣ x c * y j - y c * x j) : ∀ j, j < n → x j = y j := by
  unfold tl at hx hy
  by_cases e : p = 0
  · rw [if_pos e] at hx hy
    subst e
    refine pm_eq hy.2 hx.2 hx.1 hy.1 (fun j hj => ?_)
    have := Int.zero_dvd.mp (h j hj)
    omega
  · rw [if_neg e] at hx hy
    intro j hj
    obtain ⟨u, hu⟩ := h j hj
    rw [hx.1, hy.1, Int.one_mul, Int.one_mul] at hu
    have h1 := hx.2 j hj
    have h2 := hy.2 j hj
    have hu0 : u = 0 := by
      rcases Int.lt_trichotomy u 0 with h | h | h
      · have : p * u ≤ p * (-1) := Int.mul_le_mul_of_nonneg_left (by omega) (by omega)
        omega
      · exact h
      · have : p * 1 ≤ p * u := Int.mul_le_mul_of_nonneg_left (by omega) (by omega)
        omega
    rw [hu0, Int.mul_zero] at hu
    omega
/-- two reduced tables of one space, with the same places, told -/
theorem rd_eq {p : Int} (hp : dm p) (h0p : 0 ≤ p) {n k : Nat} {T S : Nat → Nat → Int} {pl : Nat → Nat} (hT : rd p n k T pl) (hS : rd p n k S pl) (hTS : ∀ r, r < k → sp p n k T (S r)) (tT : ∀ r, r < k → tl p n (T r) (pl r)) (tS : ∀ r, r < k → tl p n (S r) (pl r)) : ∀ r j, r < k → j < n → T r j = S r j := by
  intro r j hr hj
  exact tl_eq h0p (hT.1 r hr).1 (tT r hr) (tS r hr) (rd_row hp hT (hTS r hr) hr (fun q hq hne => hS.2 q r hq hr (Ne.symm hne))) j hj
-- from the left: places rise, and a row is 0 ahead of its place
def lf (p : Int) (k : Nat) (T : Nat → Nat → Int) (pl : Nat → Nat) : Prop := (∀ r q, r < q → q < k → pl r < pl q) ∧ ∀ r j, r < k → j < pl r → p ∣ T r j
theorem lf_le {p : Int} (hp : dm p) {n k k' : Nat} {T S : Nat → Nat → Int} {pl pl' : Nat → Nat} (hT : rd p n k T pl) (hS : rd p n k' S pl') (lT : lf p k T pl) (lS : lf p k' S pl') (hST : ∀ r, r < k → sp p n k' S (T r)) {r : Nat} (hr : r < k) (hb : ∀ i, i < r → i < k' ∧ pl i = pl' i) : r < k' ∧ pl' r ≤ pl r := by
  obtain ⟨s, c, hs, hc⟩ := hST r hr
  obtain ⟨hn, ht⟩ := hT.1 r hr
  have hcr : ∀ i, i < r → p ∣ c i := by
    intro i hi
    obtain ⟨hi', he⟩ := hb i hi
    have h1 := hc (pl' i) (hS.1 i hi').1
    have h2 := rd_at (c := c) hS hi'
    have h3 : p ∣ T r (pl i) := hT.2 i r (by omega) hr (by omega)
    rw [he] at h3
    have h4 : p ∣ S i (pl' i) * c i := by
      obtain ⟨u, hu⟩ := h1
      obtain ⟨v, hv⟩ := h2
      obtain ⟨w, hw⟩ := h3
      refine ⟨s * w - u - v, ?_⟩
      generalize sm k' (fun i => c i * S i (pl' i)) = X at hu hv
      grind
    exact hp.left (hS.1 i hi').2 h4
  by_cases hcase : r < k' ∧ pl' r ≤ pl r
  · exact hcase
  · exfalso
    have h1 := hc (pl r) hn
    have h2 : p ∣ sm k' (fun i => c i * S i (pl r)) := by
      refine sm_dvd (fun i hi => ?_)
      by_cases hir : i < r
      · exact Int.dvd_mul_of_dvd_left (hcr i hir)
      · have hrk : r < k' := by omega
        have hlt : pl r < pl' r := by
          have : ¬ pl' r ≤ pl r := fun h => hcase ⟨hrk, h⟩
          omega
        have hle : pl' r ≤ pl' i := by
          by_cases e : r = i
          · rw [e]; exact Nat.le_refl _
          · exact Nat.le_of_lt (lS.1 r i (by omega) hi)
        exact Int.dvd_mul_of_dvd_right (lS.2 i (pl r) hi (by omega))
    have h3 : p ∣ s * T r (pl r) := by
      have := Int.dvd_add h1 h2
      rwa [Int.sub_add_cancel] at this
    exact ht (hp.left hs h3)
theorem lf_pl {p : Int} (hp : dm p) {n k k' : Nat} {T S : Nat → Nat → Int} {pl pl' : Nat → Nat} (hT : rd p n k T pl) (hS : rd p n k' S pl') (lT : lf p k T pl) (lS : lf p k' S pl') (hST : ∀ r, r < k → sp p n k' S (T r)) (hTS : ∀ r, r < k' → sp p n k T (S r)) : ∀ r, r < k → r < k' ∧ pl r = pl' r := by
  intro r
  induction r using Nat.strongRecOn with
  | _ r ih =>
    intro hr
    have hb : ∀ i, i < r → i < k' ∧ pl i = pl' i := fun i hi => ih i hi (by omega)
    obtain ⟨h1, h2⟩ := lf_le hp hT hS lT lS hST hr hb
    obtain ⟨-, h3⟩ := lf_le hp hS hT lS lT hTS h1 (fun i hi => ⟨by omega, (hb i hi).2.symm⟩)
    exact ⟨h1, by omega⟩
/-- two tables of one space, both reduced from the left, told: they are one -/
theorem lf_eq {p : Int} (hp : dm p) (h0p : 0 ≤ p) {n k k' : Nat} {T S : Nat → Nat → Int} {pl pl' : Nat → Nat} (hT : rd p n k T pl) (hS : rd p n k' S pl') (lT : lf p k T pl) (lS : lf p k' S pl') (hST : ∀ r, r < k → sp p n k' S (T r)) (hTS : ∀ r, r < k' → sp p n k T (S r)) (tT : ∀ r, r < k → tl p n (T r) (pl r)) (tS : ∀ r, r < k' → tl p n (S r) (pl' r)) : k = k' ∧ (∀ r, r < k → pl r = pl' r) ∧ ∀ r j, r < k → j < n → T r j = S r j := by
  have h1 := lf_pl hp hT hS lT lS hST hTS
  have h2 := lf_pl hp hS hT lS lT hTS hST
  have hk : k = k' := by
    rcases Nat.lt_trichotomy k k' with h | h | h
    · have := (h2 k h).1; omega
    · exact h
    · have := (h1 k' h).1; omega
  subst hk
  have hpl : ∀ r, r < k → pl r = pl' r := fun r hr => (h1 r hr).2
  refine ⟨rfl, hpl, ?_⟩
  have hS' : rd p n k S pl := ⟨fun r hr => by rw [hpl r hr]; exact hS.1 r hr, fun r q hr hq hne => by rw [hpl r hr]; exact hS.2 r q hr hq hne⟩
  exact rd_eq hp h0p hT hS' hTS tT (fun r hr => by rw [hpl r hr]; exact tS r hr)
-- a prime modulus is a domain
def prm (q : Nat) : Prop := 2 ≤ q ∧ ∀ d : Nat, d ∣ q → d = 1 ∨ d = q
theorem dmP {q : Nat} (h : prm q) : dm (q : Int) := by
  refine ⟨fun h1 => ?_, fun a b hab => ?_⟩
  · have := Int.le_of_dvd (by omega) h1
    have := h.1
    omega
  · have hg : Int.gcd (q : Int) a ∣ q := by
      have := Int.gcd_dvd_left (a := (q : Int)) (b := a)
      exact Int.natCast_dvd_natCast.mp this
    rcases h.2 _ hg with e | e
    · right
      exact idvd e hab
    · left
      have := Int.gcd_dvd_right (a := (q : Int)) (b := a)
      rw [e] at this
      exact this

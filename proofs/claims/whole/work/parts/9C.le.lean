-- ===== what is left, with the set's columns in front =====
def sk (set : Nat) : Nat → Nat
  | 0 => 0
  | j + 1 => sk set j + (if set / 2 ^ j % 2 = 0 then 0 else 1)
theorem sk_s (set j : Nat) : sk set (j + 1) = sk set j + (if set / 2 ^ j % 2 = 0 then 0 else 1) := rfl
theorem sk_kc (set : Nat) : ∀ j, sk set j + kc set j = j
  | 0 => rfl
  | j + 1 => by
    have := sk_kc set j
    rw [sk_s, kc_s]
    by_cases h : set / 2 ^ j % 2 = 0
    · rw [if_pos h, if_pos h]; omega
    · rw [if_neg h, if_neg h]; omega
def skl (set : Nat) : Nat → Nat → Nat
  | 0, _ => 0
  | n + 1, j => if set / 2 ^ n % 2 ≠ 0 ∧ sk set n = j then n else skl set n j
theorem skl_of {set j : Nat} : ∀ {n : Nat}, j < sk set n → skl set n j < n ∧ set / 2 ^ (skl set n j) % 2 ≠ 0 ∧ sk set (skl set n j) = j
  | 0, h => absurd h (Nat.not_lt_zero j)
  | n + 1, h => by
    show (if set / 2 ^ n % 2 ≠ 0 ∧ sk set n = j then n else skl set n j) < n + 1 ∧ set / 2 ^ (if set / 2 ^ n % 2 ≠ 0 ∧ sk set n = j then n else skl set n j) % 2 ≠ 0 ∧ sk set (if set / 2 ^ n % 2 ≠ 0 ∧ sk set n = j then n else skl set n j) = j
    by_cases hn : set / 2 ^ n % 2 ≠ 0 ∧ sk set n = j
    · rw [if_pos hn]; exact ⟨by omega, hn.1, hn.2⟩
    · rw [if_neg hn]
      have h1 : j < sk set n := by
        rw [sk_s] at h
        by_cases hp : set / 2 ^ n % 2 = 0
        · rw [if_pos hp] at h; omega
        · rw [if_neg hp] at h
          rcases Nat.lt_trichotomy j (sk set n) with q | q | q
          · exact q
          · exact absurd ⟨hp, q.symm⟩ hn
          · omega
      obtain ⟨a, b, c⟩ := skl_of (n := n) h1
      exact ⟨by omega, b, c⟩
theorem sk_mono (set : Nat) {a b : Nat} (h : a ≤ b) : sk set a ≤ sk set b := by
  induction b with
  | zero => rw [show a = 0 by omega]; exact Nat.le_refl _
  | succ b ih =>
    by_cases e : a = b + 1
    · rw [e]; exact Nat.le_refl _
    · have := ih (by omega)
      rw [sk_s]
      omega
theorem sk_lt {set a b : Nat} (h : a < b) (hn : set / 2 ^ a % 2 ≠ 0) : sk set a < sk set b := by
  have : sk set (a + 1) ≤ sk set b := sk_mono set h
  rw [sk_s, if_neg hn] at this
  omega
theorem sk_inj {set a b : Nat} (ha : set / 2 ^ a % 2 ≠ 0) (hb : set / 2 ^ b % 2 ≠ 0) (e : sk set a = sk set b) : a = b := by
  rcases Nat.lt_trichotomy a b with h | h | h
  · have := sk_lt h ha; omega
  · exact h
  · have := sk_lt h hb; omega
theorem skl_sk {set n c : Nat} (hc : c < n) (hn : set / 2 ^ c % 2 ≠ 0) : skl set n (sk set c) = c := by
  have h := skl_of (sk_lt hc hn)
  exact sk_inj h.2.1 hn h.2.2
/-- the column at a place of the new order, and a column's place -/
def rho (set n u : Nat) : Nat := if u < sk set n then skl set n u else kcl set n (u - sk set n)
def pos (set n j : Nat) : Nat := if set / 2 ^ j % 2 = 0 then sk set n + kc set j else sk set j
theorem pos_lt {set n j : Nat} (hj : j < n) : pos set n j < n := by
  have := sk_kc set n
  unfold pos
  by_cases h : set / 2 ^ j % 2 = 0
  · rw [if_pos h]; have := kc_lt hj h; omega
  · rw [if_neg h]; have := sk_lt hj h; omega
theorem rho_pos {set n j : Nat} (hj : j < n) : rho set n (pos set n j) = j := by
  unfold rho pos
  by_cases h : set / 2 ^ j % 2 = 0
  · rw [if_pos h, if_neg (by omega), Nat.add_sub_cancel_left]; exact kcl_kc hj h
  · rw [if_neg h, if_pos (sk_lt hj h)]; exact skl_sk hj h
theorem rho_ok {set n u : Nat} (hu : u < n) : rho set n u < n ∧ pos set n (rho set n u) = u ∧ (u < sk set n ↔ set / 2 ^ (rho set n u) % 2 = 1) := by
  have hk := sk_kc set n
  by_cases h : u < sk set n
  · have e : rho set n u = skl set n u := by unfold rho; rw [if_pos h]
    obtain ⟨a, b, c⟩ := skl_of h
    rw [e]
    refine ⟨a, ?_, fun _ => by omega, fun _ => h⟩
    unfold pos
    rw [if_neg b]; exact c
  · have e : rho set n u = kcl set n (u - sk set n) := by unfold rho; rw [if_neg h]
    obtain ⟨a, b, c⟩ := kcl_of (set := set) (n := n) (j := u - sk set n) (by omega)
    rw [e]
    refine ⟨a, ?_, fun z => absurd z h, fun z => by omega⟩
    unfold pos
    rw [if_pos b, c]; omega
theorem rho_add {set n j : Nat} : rho set n (sk set n + j) = kcl set n j := by
  unfold rho
  rw [if_neg (by omega), Nat.add_sub_cancel_left]
theorem sp_perm {p : Int} {n k set : Nat} {A : Nat → Nat → Int} (x : Nat → Int) : sp p n k A x ↔ sp p n k (fun i u => A i (rho set n u)) (fun u => x (rho set n u)) := by
  constructor
  · rintro ⟨s, c, hs, hc⟩
    exact ⟨s, c, hs, fun u hu => hc _ (rho_ok hu).1⟩
  · rintro ⟨s, c, hs, hc⟩
    refine ⟨s, c, hs, fun j hj => ?_⟩
    have this : p ∣ s * x (rho set n (pos set n j)) - sm k (fun i => c i * A i (rho set n (pos set n j))) := hc (pos set n j) (pos_lt hj)
    rw [rho_pos hj] at this
    exact this
/-- in the new order: rows from m on of a table of the space, from the left -/
theorem leave_p {p : Int} (hp : dm p) {n k set m r1 : Nat} {A A1 : Nat → Nat → Int} {pl1 : Nat → Nat} (hrd : rd p n r1 A1 pl1) (hlf : lf p r1 A1 pl1) (hV : ∀ x, sp p n k (fun i u => A i (rho set n u)) x ↔ sp p n r1 A1 x) (hm : m ≤ r1) (hm1 : ∀ i, i < m → pl1 i < sk set n) (hm2 : ∀ i, m ≤ i → i < r1 → sk set n ≤ pl1 i) (w : Nat → Int) : leaveV p n k A set true w ↔ sp p (kc set n) (r1 - m) (fun i j => A1 (i + m) (sk set n + j)) w := by
  have hk := sk_kc set n
  constructor
  · rintro ⟨x, s, hs, hx, hz, hw⟩
    obtain ⟨s2, c, hs2, hc⟩ := (hV _).mp ((sp_perm (set := set) x).mp hx)
    have hcz : ∀ i, i < m → p ∣ c i := fun i hi => by
      have hpl := (hrd.1 i (by omega)).1
      have b0 : p ∣ x (rho set n (pl1 i)) := hz rfl _ (rho_ok hpl).1 ((rho_ok hpl).2.2.mp (hm1 i hi))
      have b1 := dv_sub (hc _ hpl) (Int.dvd_mul_of_dvd_right b0)
      have b3 := dv_sub (rd_at (c := c) hrd (show i < r1 by omega)) b1
      rw [Int.mul_comm] at b3
      exact hp.left (hrd.1 i (by omega)).2 b3
    refine ⟨s2 * s, fun i => c (i + m), hp.mul hs2 hs, fun j hj => ?_⟩
    obtain ⟨a1, a2, a3⟩ := kcl_of hj
    have h1 := hw _ a1 a2
    rw [a3] at h1
    have h2 : p ∣ s2 * x (kcl set n j) - sm r1 (fun i => c i * A1 i (sk set n + j)) := by
      have this : p ∣ s2 * x (rho set n (sk set n + j)) - sm r1 (fun i => c i * A1 i (sk set n + j)) := hc (sk set n + j) (by omega)
      rw [rho_add] at this
      exact this
    have h3 := Int.dvd_add (Int.dvd_add (Int.dvd_mul_of_dvd_right (b := s2) h1) h2) (sm_low (p := p) (f := fun i => c i * A1 i (sk set n + j)) hm (fun i hi => Int.dvd_mul_of_dvd_left (hcz i hi)))
    have e : s2 * (s * w j - x (kcl set n j)) + (s2 * x (kcl set n j) - sm r1 (fun i => c i * A1 i (sk set n + j))) + (sm r1 (fun i => c i * A1 i (sk set n + j)) - sm (r1 - m) (fun i => c (i + m) * A1 (i + m) (sk set n + j))) = s2 * s * w j - sm (r1 - m) (fun i => c (i + m) * A1 (i + m) (sk set n + j)) := by
      generalize sm r1 (fun i => c i * A1 i (sk set n + j)) = X
      generalize sm (r1 - m) (fun i => c (i + m) * A1 (i + m) (sk set n + j)) = Y
      grind
    rwa [e] at h3
  · rintro ⟨s, c, hs, hc⟩
    -- the row in the old order
    let y : Nat → Int := fun u => sm (r1 - m) (fun i => c i * A1 (i + m) u)
    have hy : sp p n r1 A1 y := sp_sum (B := fun i => A1 (i + m)) hp (fun i hi => sp_row hp (by omega))
    have hy2 := (hV y).mpr hy
    refine ⟨fun j => y (pos set n j), s, hs, (sp_perm (set := set) _).mpr ?_, fun _ c' hc' hb => ?_, fun c' hc' hb => ?_⟩
    · exact sp_congr hp hy2 (fun u hu => by
        show p ∣ y (pos set n (rho set n u)) - y u
        rw [(rho_ok hu).2.1, Int.sub_self]; exact Int.dvd_zero p)
    · show p ∣ sm (r1 - m) (fun i => c i * A1 (i + m) (pos set n c'))
      have hps : pos set n c' < sk set n := by
        unfold pos
        rw [if_neg (by omega)]; exact sk_lt hc' (by omega)
      exact sm_dvd (fun i hi => Int.dvd_mul_of_dvd_right (hlf.2 (i + m) _ (by omega) (by have := hm2 (i + m) (by omega) (by omega); omega)))
    · have this : p ∣ s * w (kc set c') - sm (r1 - m) (fun i => c i * A1 (i + m) (sk set n + kc set c')) := hc _ (kc_lt hc' hb)
      show p ∣ s * w (kc set c') - sm (r1 - m) (fun i => c i * A1 (i + m) (pos set n c'))
      have : pos set n c' = sk set n + kc set c' := by unfold pos; rw [if_pos hb]
      rw [this]; assumption
/-- the ghost in the new order -/
theorem gh_perm {n k set : Nat} {V : (Nat → Int) → Prop} {T : Nat → Nat → Int} {pl : Nat → Nat} (h : gh n k V T pl) : gh n k (del n n (rho set n) V) (fun i u => T i (rho set n u)) (fun i => pos set n (pl i)) := by
  refine ⟨⟨fun r hr => ?_, fun r q hr hq hne => ?_⟩, fun r hr => ⟨fun d hd => (h.2.1 r hr).1 d (fun j hj => ?_), ?_⟩, fun r hr => ⟨T r, 1, h.2.2.1 r hr, by omega, fun j _ => by rw [Int.one_mul]⟩, fun x hx => ?_⟩
  · have := h.1.1 r hr
    exact ⟨pos_lt this.1, by show ¬ (0 : Int) ∣ T r (rho set n (pos set n (pl r))); rw [rho_pos this.1]; exact this.2⟩
  · show (0 : Int) ∣ T q (rho set n (pos set n (pl r)))
    rw [rho_pos (h.1.1 r hr).1]; exact h.1.2 r q hr hq hne
  · have this : d ∣ T r (rho set n (pos set n j)) := hd (pos set n j) (pos_lt hj)
    rwa [rho_pos hj] at this
  · show 0 < T r (rho set n (pos set n (pl r)))
    rw [rho_pos (h.1.1 r hr).1]; exact (h.2.1 r hr).2
  · obtain ⟨y, t, hy, ht, e⟩ := hx
    obtain ⟨s, c, hs, hc⟩ := sp0_of (h.2.2.2 y hy)
    refine sp0_mk (s := s * t) (c := c) (fun q => ?_) (fun u hu => ?_)
    · rcases Int.mul_eq_zero.mp q with q | q
      · exact hs q
      · exact ht q
    · rw [Int.mul_assoc, e u hu]
      exact hc _ (rho_ok hu).1
/-- the rows from m on of a reduced table from the left: those of its space that are 0 in the first columns -/
theorem sec_rows {n r1 m g : Nat} {A1 : Nat → Nat → Int} {pl1 : Nat → Nat} (hrd : rd 0 n r1 A1 pl1) (hlf : lf 0 r1 A1 pl1) (hm : m ≤ r1) (hm1 : ∀ i, i < m → pl1 i < g) (hm2 : ∀ i, m ≤ i → i < r1 → g ≤ pl1 i) (x : Nat → Int) : secV n (sp 0 n r1 A1) (fun u => u < g) x ↔ sp 0 n (r1 - m) (fun i => A1 (i + m)) x := by
  constructor
  · rintro ⟨hx, hz⟩
    obtain ⟨s, c, hs, hc⟩ := hx
    have hcz : ∀ i, i < m → (0 : Int) ∣ c i := fun i hi => by
      have hpl := (hrd.1 i (by omega)).1
      have b0 : (0 : Int) ∣ x (pl1 i) := Int.zero_dvd.mpr (hz _ hpl (hm1 i hi))
      have b1 := dv_sub (hc _ hpl) (Int.dvd_mul_of_dvd_right b0)
      have b3 := dv_sub (rd_at (c := c) hrd (show i < r1 by omega)) b1
      rw [Int.mul_comm] at b3
      exact dm0.left (hrd.1 i (by omega)).2 b3
    refine ⟨s, fun i => c (i + m), hs, fun j hj => ?_⟩
    have h3 := Int.dvd_add (hc j hj) (sm_low (p := 0) (f := fun i => c i * A1 i j) hm (fun i hi => Int.dvd_mul_of_dvd_left (hcz i hi)))
    rwa [show s * x j - sm r1 (fun i => c i * A1 i j) + (sm r1 (fun i => c i * A1 i j) - sm (r1 - m) (fun i => c (i + m) * A1 (i + m) j)) = s * x j - sm (r1 - m) (fun i => c (i + m) * A1 (i + m) j) by omega] at h3
  · intro hx
    refine ⟨sp_trans dm0 hx (fun i hi => sp_row dm0 (by omega)), fun u hu hug => ?_⟩
    obtain ⟨s, c, hs, hc⟩ := sp0_of hx
    have h1 := hc u hu
    rw [sm_zero (fun i hi => by
      show c i * A1 (i + m) u = 0
      rw [Int.zero_dvd.mp (hlf.2 (i + m) u (by omega) (by have := hm2 (i + m) (by omega) (by omega); omega)), Int.mul_zero])] at h1
    rcases Int.mul_eq_zero.mp h1 with q | q
    · exact absurd q hs
    · exact q

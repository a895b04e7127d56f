-- ===== spaces over the rationals that hold small vectors: under each vector of theirs lies one of small whole numbers =====
theorem sm_sub (n : Nat) (f g : Nat → Int) : sm n (fun i => f i - g i) = sm n f - sm n g := by
  induction n with
  | zero => rfl
  | succ n ih =>
    show sm n (fun i => f i - g i) + (f n - g n) = (sm n f + f n) - (sm n g + g n)
    rw [ih]; omega
theorem sm_upd {n k : Nat} {v : Int} {f : Nat → Int} (hk : k < n) : sm n (fun i => if i = k then v else f i) = sm n f - f k + v := by
  induction n with
  | zero => omega
  | succ n ih =>
    show sm n (fun i => if i = k then v else f i) + (if n = k then v else f n) = sm n f + f n - f k + v
    by_cases e : n = k
    · subst e
      rw [if_pos rfl, sm_congr (g := f) (fun i hi => if_neg (by omega))]
      omega
    · rw [if_neg e, ih (by omega)]
      omega
/-- the k-th goes out, the last comes in its stead -/
theorem sm_out {n k : Nat} {f : Nat → Int} (hk : k < n + 1) : sm (n + 1) f = sm n (fun i => if i = k then f n else f i) + f k := by
  show sm n f + f n = _
  by_cases e : k = n
  · subst e
    rw [sm_congr (f := fun i => if i = k then f k else f i) (g := f) (fun i hi => if_neg (by omega))]
  · rw [sm_upd (by omega)]
    omega
noncomputable def ct : Nat → (Nat → Prop) → Nat
  | 0, _ => 0
  | n + 1, P => ct n P + @ite Nat (P n) (Classical.propDecidable _) 1 0
theorem ct_t {n : Nat} {P : Nat → Prop} (h : P n) : ct (n + 1) P = ct n P + 1 := by
  show ct n P + @ite Nat (P n) (Classical.propDecidable _) 1 0 = _
  rw [if_pos h]
theorem ct_f {n : Nat} {P : Nat → Prop} (h : ¬ P n) : ct (n + 1) P = ct n P := by
  show ct n P + @ite Nat (P n) (Classical.propDecidable _) 1 0 = _
  rw [if_neg h]; omega
theorem ct_le (n : Nat) (P : Nat → Prop) : ct n P ≤ n := by
  induction n with
  | zero => exact Nat.le_refl 0
  | succ n ih =>
    by_cases h : P n
    · rw [ct_t h]; omega
    · rw [ct_f h]; omega
theorem ct_1 {n j : Nat} {P : Nat → Prop} (hj : j < n) (h : ¬ P j) : ct n P + 1 ≤ n := by
  induction n with
  | zero => omega
  | succ n ih =>
    by_cases e : j = n
    · subst e
      rw [ct_f h]
      have := ct_le j P
      omega
    · have := ih (by omega)
      by_cases hp : P n
      · rw [ct_t hp]; omega
      · rw [ct_f hp]; omega
theorem ct_2 {n i j : Nat} {P : Nat → Prop} (hij : i < j) (hj : j < n) (h : ¬ P i) (h' : ¬ P j) : ct n P + 2 ≤ n := by
  induction n with
  | zero => omega
  | succ n ih =>
    by_cases e : j = n
    · subst e
      rw [ct_f h']
      have := ct_1 (n := j) (P := P) hij h
      omega
    · have := ih (by omega)
      by_cases hp : P n
      · rw [ct_t hp]; omega
      · rw [ct_f hp]; omega
/-- of q equations in m unknowns M speak for all, and the solutions are the sums of m - M of them -/
theorem cutE (m : Nat) (E : Nat → Nat → Int) (P : Nat → Prop) (hP : ∀ r, ¬ P r → ∀ i, i < m → E r i = 0) : ∀ q : Nat, ∃ (d M : Nat) (ch : Nat → Nat) (b : Nat → Nat → Int), d + M = m ∧ M ≤ ct q P ∧ (∀ r, r < M → ch r < q) ∧ (∀ i r, i < d → r < q → sm m (fun u => b i u * E r u) = 0) ∧
    ∀ z : Nat → Int, (∀ r, r < M → sm m (fun u => z u * E (ch r) u) = 0) → ∃ (t : Int) (c : Nat → Int), t ≠ 0 ∧ ∀ u, u < m → t * z u = sm d (fun i => c i * b i u) := by
  intro q
  induction q with
  | zero =>
    refine ⟨m, 0, fun _ => 0, fun i u => if u = i then 1 else 0, by omega, Nat.zero_le _, fun r h => by omega, fun i r _ h => by omega, fun z _ => ⟨1, z, by omega, fun u hu => ?_⟩⟩
    rw [sm_one hu (fun i _ hne => by show z i * (if u = i then (1 : Int) else 0) = 0; rw [if_neg (by omega), Int.mul_zero])]
    show 1 * z u = z u * (if u = u then (1 : Int) else 0)
    rw [if_pos rfl]
    omega
  | succ q ih =>
    obtain ⟨d, M, ch, b, h1, h2, h3, h4, h5⟩ := ih
    by_cases hex : ∃ i, i < d ∧ sm m (fun u => b i u * E q u) ≠ 0
    · obtain ⟨k, hk, hne⟩ := hex
      obtain ⟨d', rfl⟩ : ∃ d', d = d' + 1 := ⟨d - 1, by omega⟩
      have hPq : P q := Classical.byContradiction fun hn => hne (sm_zero (fun u hu => by rw [hP q hn u hu, Int.mul_zero]))
      generalize hL : (fun i => sm m (fun u => b i u * E q u)) = L
      have hLk : ∀ i, sm m (fun u => b i u * E q u) = L i := fun i => by rw [← hL]
      rw [hLk] at hne
      let b' : Nat → Nat → Int := fun i u => if i = k then L k * b d' u - L d' * b k u else L k * b i u - L i * b k u
      have hb' : ∀ i r, sm m (fun u => b' i u * E r u) = if i = k then L k * sm m (fun u => b d' u * E r u) - L d' * sm m (fun u => b k u * E r u) else L k * sm m (fun u => b i u * E r u) - L i * sm m (fun u => b k u * E r u) := by
        intro i r
        by_cases e : i = k
        · rw [if_pos e, ← sm_mul, ← sm_mul, ← sm_sub]
          refine sm_congr (fun u _ => ?_)
          show (if i = k then L k * b d' u - L d' * b k u else L k * b i u - L i * b k u) * E r u = _
          rw [if_pos e]
          grind
        · rw [if_neg e, ← sm_mul, ← sm_mul, ← sm_sub]
          refine sm_congr (fun u _ => ?_)
          show (if i = k then L k * b d' u - L d' * b k u else L k * b i u - L i * b k u) * E r u = _
          rw [if_neg e]
          grind
      refine ⟨d', M + 1, fun r => if r = M then q else ch r, b', by omega, by rw [ct_t hPq]; omega, fun r hr => ?_, fun i r hi hr => ?_, fun z hz => ?_⟩
      · show (if r = M then q else ch r) < q + 1
        by_cases e : r = M
        · rw [if_pos e]; omega
        · rw [if_neg e]; have := h3 r (by omega); omega
      · rw [hb' i r]
        by_cases e : r = q
        · subst e
          rw [hLk, hLk, hLk]
          by_cases e2 : i = k
          · rw [if_pos e2, Int.mul_comm, Int.sub_self]
          · rw [if_neg e2, Int.mul_comm, Int.sub_self]
        · rw [h4 d' r (by omega) (by omega), h4 k r hk (by omega)]
          by_cases e2 : i = k
          · rw [if_pos e2]; simp
          · rw [if_neg e2, h4 i r (by omega) (by omega)]; simp
      · obtain ⟨t, c, ht, hc⟩ := h5 z (fun r hr => by
          have := hz r (by omega)
          simp only [if_neg (show r ≠ M by omega)] at this
          exact this)
        have hq := hz M (by omega)
        simp only [if_pos] at hq
        -- the new equation says that the sum of c i * L i is 0
        have hcl : sm (d' + 1) (fun i => c i * L i) = 0 := by
          have e1 : t * sm m (fun u => z u * E q u) = sm m (fun u => sm (d' + 1) (fun i => c i * b i u * E q u)) := by
            rw [← sm_mul]
            refine sm_congr (fun u hu => ?_)
            have e2 : sm (d' + 1) (fun i => c i * b i u * E q u) = E q u * sm (d' + 1) (fun i => c i * b i u) := by
              rw [← sm_mul]
              exact sm_congr (fun i _ => by grind)
            rw [e2, ← hc u hu]
            grind
          rw [hq, Int.mul_zero, sm_swap] at e1
          rw [e1]
          refine sm_congr (fun i _ => ?_)
          rw [← hLk i, ← sm_mul]
          exact sm_congr (fun u _ => by grind)
        refine ⟨L k * t, fun i => if i = k then c d' else c i, fun e => by rcases Int.mul_eq_zero.mp e with h | h; exact hne h; exact ht h, fun u hu => ?_⟩
        have e1 : L k * t * z u = L k * sm (d' + 1) (fun i => c i * b i u) - b k u * sm (d' + 1) (fun i => c i * L i) := by
          rw [hcl, Int.mul_zero, Int.sub_zero, ← hc u hu]
          grind
        have e2 : L k * sm (d' + 1) (fun i => c i * b i u) - b k u * sm (d' + 1) (fun i => c i * L i) = sm (d' + 1) (fun i => c i * (L k * b i u - L i * b k u)) := by
          rw [← sm_mul, ← sm_mul, ← sm_sub]
          exact sm_congr (fun i _ => by grind)
        have e3 : c k * (L k * b k u - L k * b k u) = 0 := by rw [Int.sub_self, Int.mul_zero]
        rw [e1, e2, sm_out hk, e3, Int.add_zero]
        refine sm_congr (fun i _ => ?_)
        show _ = (if i = k then c d' else c i) * (if i = k then L k * b d' u - L d' * b k u else L k * b i u - L i * b k u)
        by_cases e : i = k
        · rw [if_pos e, if_pos e, if_pos e]
        · rw [if_neg e, if_neg e, if_neg e]
    · refine ⟨d, M, ch, b, h1, ?_, fun r hr => by have := h3 r hr; omega, fun i r hi hr => ?_, h5⟩
      · by_cases hp : P q
        · rw [ct_t hp]; omega
        · rw [ct_f hp]; exact h2
      · by_cases e : r = q
        · subst e
          exact Classical.byContradiction fun hn => hex ⟨i, hi, hn⟩
        · exact h4 i r hi (by omega)
/-- a system with a solution has a small one -/
theorem smallE {m q C : Nat} (hC : 0 < C) {E : Nat → Nat → Int} {P : Nat → Prop} (hP : ∀ r, ¬ P r → ∀ i, i < m → E r i = 0) (hE : ∀ r i, r < q → i < m → (E r i).natAbs ≤ C) {x : Nat → Int} (hx : ∀ r, r < q → sm m (fun u => x u * E r u) = 0) (hn : ∃ i, i < m ∧ x i ≠ 0) :
    ∃ (M : Nat) (y : Nat → Int), M < m ∧ M ≤ ct q P ∧ (∃ i, i < m ∧ y i ≠ 0) ∧ (∀ i, M < i → y i = 0) ∧ (∀ i, (y i).natAbs ≤ ((M + 1) * C) ^ M) ∧ ∀ r, r < q → sm m (fun u => y u * E r u) = 0 := by
  obtain ⟨d, M, ch, b, h1, h2, h3, h4, h5⟩ := cutE m E P hP q
  have hM : M < m := by
    obtain ⟨t, c, ht, hc⟩ := h5 x (fun r hr => hx _ (h3 r hr))
    rcases Nat.eq_zero_or_pos d with h | h
    · subst h
      obtain ⟨i, hi, hne⟩ := hn
      have := hc i hi
      have h0 : sm 0 (fun i_1 => c i_1 * b i_1 i) = 0 := rfl
      rw [h0] at this
      rcases Int.mul_eq_zero.mp this with h | h
      · exact absurd h ht
      · exact absurd h hne
    · omega
  obtain ⟨y, ⟨i, hi, hne⟩, hb, hs⟩ := siegel M C hC (fun r i => E (ch r) i) (fun r i hr hi => hE _ _ (h3 r hr) (by omega))
  let y' : Nat → Int := fun i => if i < M + 1 then y i else 0
  have hy' : ∀ r, sm m (fun u => y' u * E r u) = sm (M + 1) (fun u => y u * E r u) := by
    intro r
    have : ∀ k, M + 1 + k ≤ m → sm (M + 1 + k) (fun u => y' u * E r u) = sm (M + 1) (fun u => y u * E r u) := by
      intro k
      induction k with
      | zero =>
        intro _
        refine sm_congr (fun u hu => ?_)
        show (if u < M + 1 then y u else 0) * E r u = _
        rw [if_pos hu]
      | succ k ih =>
        intro hk
        show sm (M + 1 + k) (fun u => y' u * E r u) + (if M + 1 + k < M + 1 then y (M + 1 + k) else 0) * E r (M + 1 + k) = _
        rw [ih (by omega), if_neg (by omega), Int.zero_mul, Int.add_zero]
    have h := this (m - (M + 1)) (by omega)
    rw [show M + 1 + (m - (M + 1)) = m by omega] at h
    exact h
  refine ⟨M, y', hM, h2, ⟨i, by omega, ?_⟩, fun i hi => ?_, fun i => ?_, fun r hr => ?_⟩
  · show (if i < M + 1 then y i else 0) ≠ 0
    rw [if_pos hi]; exact hne
  · show (if i < M + 1 then y i else 0) = 0
    rw [if_neg (by omega)]
  · show (if i < M + 1 then y i else 0).natAbs ≤ _
    by_cases e : i < M + 1
    · rw [if_pos e]; exact hb i
    · rw [if_neg e]; exact Nat.zero_le _
  · obtain ⟨t, c, ht, hc⟩ := h5 y' (fun r hr => by rw [hy']; exact hs r hr)
    have e1 : t * sm m (fun u => y' u * E r u) = sm m (fun u => sm d (fun i => c i * b i u * E r u)) := by
      rw [← sm_mul]
      refine sm_congr (fun u hu => ?_)
      have e2 : sm d (fun i => c i * b i u * E r u) = E r u * sm d (fun i => c i * b i u) := by
        rw [← sm_mul]
        exact sm_congr (fun i _ => by grind)
      rw [e2, ← hc u hu]
      grind
    have e3 : sm d (fun j => sm m (fun i => c j * b j i * E r i)) = 0 := sm_zero (fun i hi => by
      have : sm m (fun u => c i * b i u * E r u) = c i * sm m (fun u => b i u * E r u) := by
        rw [← sm_mul]
        exact sm_congr (fun u _ => by grind)
      rw [this, h4 i r hi hr, Int.mul_zero])
    rw [sm_swap, e3] at e1
    rcases Int.mul_eq_zero.mp e1 with h | h
    · exact absurd h ht
    · exact h

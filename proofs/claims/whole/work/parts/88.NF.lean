-- ===== a family of Nums: number i lies at adr (2 i), its digits at adr (2 i + 1) =====
def fnv (L : List Nat) (k : Nat → ClassId) (adr : Nat → Nat) (N : Nat) (f : Nat → va_E) (V : Nat → Int) : Prop := ∀ i, i < N → adr (2 * i) ∈ L ∧ adr (2 * i + 1) ∈ L ∧ ∃ (n : Nat) (mi : Bool) (d : Nat → Nat), f (adr (2 * i)) = cN (adr (2 * i + 1)) n mi ∧ f (adr (2 * i + 1)) = cE k d ∧ nr n mi d (V i)
theorem fn_two {L : List Nat} {k : Nat → ClassId} {adr : Nat → Nat} {N : Nat} {f f' : Nat → va_E} {V : Nat → Int} (inj : ∀ x y, x < 2 * N → y < 2 * N → adr x = adr y → x = y) (hf : fnv L k adr N f V) {i : Nat} (hi : i < N) {n : Nat} {mi : Bool} {d : Nat → Nat} {v : Int} (hk : kn L f f' [(adr (2 * i), cN (adr (2 * i + 1)) n mi), (adr (2 * i + 1), cE k d)]) (hv : nr n mi d v) : fnv L k adr N f' (va_up V i v) ∧ fo adr N f f' := by
  refine ⟨fun j hj => ?_, fun q hq => ?_⟩
  · obtain ⟨h1, h2, h3⟩ := hf j hj
    refine ⟨h1, h2, ?_⟩
    by_cases e : j = i
    · subst e
      exact ⟨n, mi, d, (hk.1 0 _ rfl).2, (hk.1 1 _ rfl).2, by rw [va_up_self]; exact hv⟩
    · obtain ⟨n', mi', d', e1, e2, e3⟩ := h3
      have off : ∀ x, x < 2 * N → x ≠ 2 * i → x ≠ 2 * i + 1 → f' (adr x) = f (adr x) := fun x hx a b => by
        refine kn_off hk ?_
        simp
        exact ⟨fun q => a (inj _ _ hx (by omega) q), fun q => b (inj _ _ hx (by omega) q)⟩
      exact ⟨n', mi', d', by rw [off _ (by omega) (by omega) (by omega)]; exact e1, by rw [off _ (by omega) (by omega) (by omega)]; exact e2, by rw [va_up_ne _ _ e]; exact e3⟩
  · refine kn_off hk ?_
    simp
    exact ⟨hq _ (by omega), hq _ (by omega)⟩
set_option maxRecDepth 100000 in
set_option maxHeartbeats 4000000 in
theorem nn_zero (l : Launch) (D : va_G) {k : Nat → ClassId} {L : List Nat} {f : Nat → va_E} {adr : Nat → Nat} {N : Nat} {V : Nat → Int} (inj : ∀ x y, x < 2 * N → y < 2 * N → adr x = adr y → x = y) (hf : fnv L k adr N f V) {i : Nat} (hi : i < N)  : Mv l y_N_zero (Cond.code y_N_zero c_N_zero 1 none :: G) (rmN 0) D cls (tyl k) L f [.ref (adr (2 * i))] (fun f' => fnv L k adr N f' (va_up V i 0) ∧ fo adr N f f') := by
  obtain ⟨m0, ml0, n0, g0, d0, e0, el0, w0⟩ := hf i hi
  have hk : kn L f f [(adr (2 * i), cN (adr (2 * i + 1)) n0 g0), (adr (2 * i + 1), cE k d0)] := by
    refine kn_of (fun q hq => ?_) (nd_map (l := [2 * i, 2 * i + 1]) inj (fun x hx => ?_) ?_)
    · simp only [List.mem_cons, List.not_mem_nil, or_false] at hq
      rcases hq with rfl | rfl
      · exact ⟨m0, e0⟩
      · exact ⟨ml0, el0⟩
    · simp only [List.mem_cons, List.not_mem_nil, or_false] at hx
      omega
    · simp only [List.nodup_cons, List.mem_cons, List.not_mem_nil, or_false, not_or, List.nodup_nil, not_false_eq_true, and_true]
      omega
  refine Met_mono (m_N_zero l D k L f _ _ n0 g0 (kn_sub hk [0] rfl rfl)) (fun f' hp => ?_)
  have hk2 : kn L f f' [(adr (2 * i), cN (adr (2 * i + 1)) 0 false), (adr (2 * i + 1), cE k d0)] := by
    have nd := kn_nd hk
    simp only [List.map_cons, List.map_nil, List.nodup_cons, List.mem_cons, List.not_mem_nil, or_false, not_or] at nd
    obtain ⟨n01, -⟩ := nd
    refine kn_join hk hp (by simp) rfl (fun q hq => ?_)
    simp only [List.mem_cons, List.not_mem_nil, or_false] at hq
    rcases hq with rfl | rfl
    · exact (hp.1 0 _ rfl).2
    · rw [kn_off hp (by simp; exact Ne.symm n01)]; exact (hk.1 1 _ rfl).2
  exact fn_two inj hf hi hk2 (nr_0 w0.2.1)
set_option maxRecDepth 100000 in
set_option maxHeartbeats 4000000 in
theorem nn_small (l : Launch) (D : va_G) {k : Nat → ClassId} {L : List Nat} {f : Nat → va_E} {adr : Nat → Nat} {N : Nat} {V : Nat → Int} (inj : ∀ x y, x < 2 * N → y < 2 * N → adr x = adr y → x = y) (hf : fnv L k adr N f V) {i : Nat} (hi : i < N) {v : Int} (hv : v.natAbs ≤ 65535) : Mv l y_N_small (Cond.code y_N_small c_N_small 5 none :: G) (rmN 1) D cls (tyl k) L f [.ref (adr (2 * i)), .long (zL v)] (fun f' => fnv L k adr N f' (va_up V i v) ∧ fo adr N f f') := by
  obtain ⟨m0, ml0, n0, g0, d0, e0, el0, w0⟩ := hf i hi
  have hk : kn L f f [(adr (2 * i), cN (adr (2 * i + 1)) n0 g0), (adr (2 * i + 1), cE k d0)] := by
    refine kn_of (fun q hq => ?_) (nd_map (l := [2 * i, 2 * i + 1]) inj (fun x hx => ?_) ?_)
    · simp only [List.mem_cons, List.not_mem_nil, or_false] at hq
      rcases hq with rfl | rfl
      · exact ⟨m0, e0⟩
      · exact ⟨ml0, el0⟩
    · simp only [List.mem_cons, List.not_mem_nil, or_false] at hx
      omega
    · simp only [List.nodup_cons, List.mem_cons, List.not_mem_nil, or_false, not_or, List.nodup_nil, not_false_eq_true, and_true]
      omega
  refine Met_mono (m_N_small l D k L f _ _ n0 g0 d0 v hv w0.2.1 hk) (fun f' hp => ?_)
  obtain ⟨n', mi', d', -, h1, h2⟩ := hp
  exact fn_two inj hf hi h2 h1
set_option maxRecDepth 100000 in
set_option maxHeartbeats 4000000 in
theorem nn_turn (l : Launch) (D : va_G) {k : Nat → ClassId} {L : List Nat} {f : Nat → va_E} {adr : Nat → Nat} {N : Nat} {V : Nat → Int} (inj : ∀ x y, x < 2 * N → y < 2 * N → adr x = adr y → x = y) (hf : fnv L k adr N f V) {i : Nat} (hi : i < N)  : Mv l y_N_turn (Cond.code y_N_turn c_N_turn 1 none :: G) (rmN 0) D cls (tyl k) L f [.ref (adr (2 * i))] (fun f' => fnv L k adr N f' (va_up V i (-V i)) ∧ fo adr N f f') := by
  obtain ⟨m0, ml0, n0, g0, d0, e0, el0, w0⟩ := hf i hi
  have hk : kn L f f [(adr (2 * i), cN (adr (2 * i + 1)) n0 g0), (adr (2 * i + 1), cE k d0)] := by
    refine kn_of (fun q hq => ?_) (nd_map (l := [2 * i, 2 * i + 1]) inj (fun x hx => ?_) ?_)
    · simp only [List.mem_cons, List.not_mem_nil, or_false] at hq
      rcases hq with rfl | rfl
      · exact ⟨m0, e0⟩
      · exact ⟨ml0, el0⟩
    · simp only [List.mem_cons, List.not_mem_nil, or_false] at hx
      omega
    · simp only [List.nodup_cons, List.mem_cons, List.not_mem_nil, or_false, not_or, List.nodup_nil, not_false_eq_true, and_true]
      omega
  refine Met_mono (m_N_turn l D k L f _ _ n0 g0 d0 _ w0 hk) (fun f' hp => ?_)
  obtain ⟨mi', h1, h2⟩ := hp
  exact fn_two inj hf hi h2 h1
set_option maxRecDepth 100000 in
set_option maxHeartbeats 4000000 in
theorem nn_copy (l : Launch) (D : va_G) {k : Nat → ClassId} {L : List Nat} {f : Nat → va_E} {adr : Nat → Nat} {N : Nat} {V : Nat → Int} (inj : ∀ x y, x < 2 * N → y < 2 * N → adr x = adr y → x = y) (hf : fnv L k adr N f V) {i : Nat} (hi : i < N) {a : Nat} (ha : a < N) (neia : i ≠ a)  : Mv l y_N_copy (Cond.code y_N_copy c_N_copy 3 none :: G) (rmN 0) D cls (tyl k) L f [.ref (adr (2 * i)), .ref (adr (2 * a))] (fun f' => fnv L k adr N f' (va_up V i (V a)) ∧ fo adr N f f') := by
  obtain ⟨m0, ml0, n0, g0, d0, e0, el0, w0⟩ := hf i hi
  obtain ⟨m1, ml1, n1, g1, d1, e1, el1, w1⟩ := hf a ha
  have hk : kn L f f [(adr (2 * i), cN (adr (2 * i + 1)) n0 g0), (adr (2 * i + 1), cE k d0), (adr (2 * a), cN (adr (2 * a + 1)) n1 g1), (adr (2 * a + 1), cE k d1)] := by
    refine kn_of (fun q hq => ?_) (nd_map (l := [2 * i, 2 * i + 1, 2 * a, 2 * a + 1]) inj (fun x hx => ?_) ?_)
    · simp only [List.mem_cons, List.not_mem_nil, or_false] at hq
      rcases hq with rfl | rfl | rfl | rfl
      · exact ⟨m0, e0⟩
      · exact ⟨ml0, el0⟩
      · exact ⟨m1, e1⟩
      · exact ⟨ml1, el1⟩
    · simp only [List.mem_cons, List.not_mem_nil, or_false] at hx
      omega
    · simp only [List.nodup_cons, List.mem_cons, List.not_mem_nil, or_false, not_or, List.nodup_nil, not_false_eq_true, and_true]
      omega
  refine Met_mono (m_N_copy l D k L f _ _ n0 _ _ n1 g0 g1 d0 d1 _ w0.2.1 w1 hk) (fun f' hp => ?_)
  obtain ⟨d', h1, h2⟩ := hp
  exact fn_two inj hf hi (kn_two hk h2) h1
set_option maxRecDepth 100000 in
set_option maxHeartbeats 4000000 in
theorem nn_less (l : Launch) (D : va_G) {k : Nat → ClassId} {L : List Nat} {f : Nat → va_E} {adr : Nat → Nat} {N : Nat} {V : Nat → Int} (inj : ∀ x y, x < 2 * N → y < 2 * N → adr x = adr y → x = y) (hf : fnv L k adr N f V) {i : Nat} (hi : i < N) {a : Nat} (ha : a < N) {b : Nat} (hb : b < N) (neia : i ≠ a) (neib : i ≠ b) (neab : a ≠ b) (ha9 : (V a).natAbs < D16 ^ 159) (hb9 : (V b).natAbs < D16 ^ 159) : Mv l y_N_less (Cond.code y_N_less c_N_less 10 none :: G) (rmN 1) D cls (tyl k) L f [.ref (adr (2 * i)), .ref (adr (2 * a)), .ref (adr (2 * b))] (fun f' => fnv L k adr N f' (va_up V i (V a - V b)) ∧ fo adr N f f') := by
  obtain ⟨m0, ml0, n0, g0, d0, e0, el0, w0⟩ := hf i hi
  obtain ⟨m1, ml1, n1, g1, d1, e1, el1, w1⟩ := hf a ha
  obtain ⟨m2, ml2, n2, g2, d2, e2, el2, w2⟩ := hf b hb
  have hk : kn L f f [(adr (2 * i), cN (adr (2 * i + 1)) n0 g0), (adr (2 * i + 1), cE k d0), (adr (2 * a), cN (adr (2 * a + 1)) n1 g1), (adr (2 * a + 1), cE k d1), (adr (2 * b), cN (adr (2 * b + 1)) n2 g2), (adr (2 * b + 1), cE k d2)] := by
    refine kn_of (fun q hq => ?_) (nd_map (l := [2 * i, 2 * i + 1, 2 * a, 2 * a + 1, 2 * b, 2 * b + 1]) inj (fun x hx => ?_) ?_)
    · simp only [List.mem_cons, List.not_mem_nil, or_false] at hq
      rcases hq with rfl | rfl | rfl | rfl | rfl | rfl
      · exact ⟨m0, e0⟩
      · exact ⟨ml0, el0⟩
      · exact ⟨m1, e1⟩
      · exact ⟨ml1, el1⟩
      · exact ⟨m2, e2⟩
      · exact ⟨ml2, el2⟩
    · simp only [List.mem_cons, List.not_mem_nil, or_false] at hx
      omega
    · simp only [List.nodup_cons, List.mem_cons, List.not_mem_nil, or_false, not_or, List.nodup_nil, not_false_eq_true, and_true]
      omega
  refine Met_mono (m_N_less l D k L f _ _ n0 _ _ n1 _ _ n2 g0 g1 g2 d0 d1 d2 _ _ w1 w2 (nr_cnt w1 ha9) (nr_cnt w2 hb9) w0.2.1 hk) (fun f' hp => ?_)
  obtain ⟨n', mi', d', h1, h2⟩ := hp
  exact fn_two inj hf hi h2 h1
set_option maxRecDepth 100000 in
set_option maxHeartbeats 4000000 in
theorem nn_product (l : Launch) (D : va_G) {k : Nat → ClassId} {L : List Nat} {f : Nat → va_E} {adr : Nat → Nat} {N : Nat} {V : Nat → Int} (inj : ∀ x y, x < 2 * N → y < 2 * N → adr x = adr y → x = y) (hf : fnv L k adr N f V) {i : Nat} (hi : i < N) {a : Nat} (ha : a < N) {b : Nat} (hb : b < N) (neia : i ≠ a) (neib : i ≠ b) (neab : a ≠ b) (ha9 : (V a).natAbs < D16 ^ 80) (hb9 : (V b).natAbs < D16 ^ 80) : Mv l y_N_product (Cond.code y_N_product c_N_product 7 none :: G) (rmN 1) D cls (tyl k) L f [.ref (adr (2 * i)), .ref (adr (2 * a)), .ref (adr (2 * b))] (fun f' => fnv L k adr N f' (va_up V i (V a * V b)) ∧ fo adr N f f') := by
  obtain ⟨m0, ml0, n0, g0, d0, e0, el0, w0⟩ := hf i hi
  obtain ⟨m1, ml1, n1, g1, d1, e1, el1, w1⟩ := hf a ha
  obtain ⟨m2, ml2, n2, g2, d2, e2, el2, w2⟩ := hf b hb
  have hk : kn L f f [(adr (2 * i), cN (adr (2 * i + 1)) n0 g0), (adr (2 * i + 1), cE k d0), (adr (2 * a), cN (adr (2 * a + 1)) n1 g1), (adr (2 * a + 1), cE k d1), (adr (2 * b), cN (adr (2 * b + 1)) n2 g2), (adr (2 * b + 1), cE k d2)] := by
    refine kn_of (fun q hq => ?_) (nd_map (l := [2 * i, 2 * i + 1, 2 * a, 2 * a + 1, 2 * b, 2 * b + 1]) inj (fun x hx => ?_) ?_)
    · simp only [List.mem_cons, List.not_mem_nil, or_false] at hq
      rcases hq with rfl | rfl | rfl | rfl | rfl | rfl
      · exact ⟨m0, e0⟩
      · exact ⟨ml0, el0⟩
      · exact ⟨m1, e1⟩
      · exact ⟨ml1, el1⟩
      · exact ⟨m2, e2⟩
      · exact ⟨ml2, el2⟩
    · simp only [List.mem_cons, List.not_mem_nil, or_false] at hx
      omega
    · simp only [List.nodup_cons, List.mem_cons, List.not_mem_nil, or_false, not_or, List.nodup_nil, not_false_eq_true, and_true]
      omega
  refine Met_mono (m_N_product l D k L f _ _ n0 _ _ n1 _ _ n2 g0 g1 g2 d0 d1 d2 _ _ w1 w2 (by have := nr_cnt w1 ha9; have := nr_cnt w2 hb9; omega) w0.2.1 hk) (fun f' hp => ?_)
  obtain ⟨n', mi', d', h1, h2⟩ := hp
  exact fn_two inj hf hi h2 h1
set_option maxRecDepth 100000 in
set_option maxHeartbeats 4000000 in
theorem nn_quotient (l : Launch) (D : va_G) {k : Nat → ClassId} {L : List Nat} {f : Nat → va_E} {adr : Nat → Nat} {N : Nat} {V : Nat → Int} (inj : ∀ x y, x < 2 * N → y < 2 * N → adr x = adr y → x = y) (hf : fnv L k adr N f V) {i : Nat} (hi : i < N) {a : Nat} (ha : a < N) {b : Nat} (hb : b < N) {r : Nat} (hr : r < N) (neia : i ≠ a) (neib : i ≠ b) (neir : i ≠ r) (neab : a ≠ b) (near : a ≠ r) (nebr : b ≠ r) (hb0 : V b ≠ 0) (hb9 : (V b).natAbs < D16 ^ 159) : Mv l y_N_quotient (Cond.code y_N_quotient c_N_quotient 6 none :: G) (rmN 2) D cls (tyl k) L f [.ref (adr (2 * i)), .ref (adr (2 * a)), .ref (adr (2 * b)), .ref (adr (2 * r))] (fun f' => fnv L k adr N f' (va_up (va_up V i ((V a).tdiv (V b))) r (((V a).natAbs % (V b).natAbs : Nat) : Int)) ∧ fo adr N f f') := by
  obtain ⟨m0, ml0, n0, g0, d0, e0, el0, w0⟩ := hf i hi
  obtain ⟨m1, ml1, n1, g1, d1, e1, el1, w1⟩ := hf a ha
  obtain ⟨m2, ml2, n2, g2, d2, e2, el2, w2⟩ := hf b hb
  obtain ⟨m3, ml3, n3, g3, d3, e3, el3, w3⟩ := hf r hr
  have hk : kn L f f [(adr (2 * i), cN (adr (2 * i + 1)) n0 g0), (adr (2 * i + 1), cE k d0), (adr (2 * a), cN (adr (2 * a + 1)) n1 g1), (adr (2 * a + 1), cE k d1), (adr (2 * b), cN (adr (2 * b + 1)) n2 g2), (adr (2 * b + 1), cE k d2), (adr (2 * r), cN (adr (2 * r + 1)) n3 g3), (adr (2 * r + 1), cE k d3)] := by
    refine kn_of (fun q hq => ?_) (nd_map (l := [2 * i, 2 * i + 1, 2 * a, 2 * a + 1, 2 * b, 2 * b + 1, 2 * r, 2 * r + 1]) inj (fun x hx => ?_) ?_)
    · simp only [List.mem_cons, List.not_mem_nil, or_false] at hq
      rcases hq with rfl | rfl | rfl | rfl | rfl | rfl | rfl | rfl
      · exact ⟨m0, e0⟩
      · exact ⟨ml0, el0⟩
      · exact ⟨m1, e1⟩
      · exact ⟨ml1, el1⟩
      · exact ⟨m2, e2⟩
      · exact ⟨ml2, el2⟩
      · exact ⟨m3, e3⟩
      · exact ⟨ml3, el3⟩
    · simp only [List.mem_cons, List.not_mem_nil, or_false] at hx
      omega
    · simp only [List.nodup_cons, List.mem_cons, List.not_mem_nil, or_false, not_or, List.nodup_nil, not_false_eq_true, and_true]
      omega
  refine Met_mono (m_N_quotient l D k L f _ _ n0 _ _ n1 _ _ n2 _ _ n3 g0 g1 g2 g3 d0 d1 d2 d3 _ _ w1 w2 hb0 (nr_cnt w2 hb9) w0.2.1 w3.2.1 hk) (fun f' hp => ?_)
  obtain ⟨n', mi', d', nr', mr', dr', h1, h1', h2⟩ := hp
  -- two numbers at once
  have nd := kn_nd h2
  simp only [List.map_cons, List.map_nil, List.nodup_cons, List.mem_cons, List.not_mem_nil, or_false, not_or] at nd
  have off : ∀ x, x < 2 * N → x ≠ 2 * i → x ≠ 2 * i + 1 → x ≠ 2 * r → x ≠ 2 * r + 1 → f' (adr x) = f (adr x) := fun x hx a1 a2 a3 a4 => by
    refine kn_off h2 ?_
    simp
    exact ⟨fun q => a1 (inj _ _ hx (by omega) q), fun q => a2 (inj _ _ hx (by omega) q), fun q => a3 (inj _ _ hx (by omega) q), fun q => a4 (inj _ _ hx (by omega) q)⟩
  refine ⟨fun j hj => ?_, fun q hq => ?_⟩
  · obtain ⟨q1, q2, q3⟩ := hf j hj
    refine ⟨q1, q2, ?_⟩
    by_cases er : j = r
    · subst er
      exact ⟨nr', mr', dr', (h2.1 2 _ rfl).2, (h2.1 3 _ rfl).2, by rw [va_up_self]; exact h1'⟩
    · rw [va_up_ne _ _ er]
      by_cases ei : j = i
      · subst ei
        exact ⟨n', mi', d', (h2.1 0 _ rfl).2, (h2.1 1 _ rfl).2, by rw [va_up_self]; exact h1⟩
      · obtain ⟨n9, mi9, d9, e9, e9', w9⟩ := q3
        exact ⟨n9, mi9, d9, by rw [off _ (by omega) (by omega) (by omega) (by omega) (by omega)]; exact e9, by rw [off _ (by omega) (by omega) (by omega) (by omega) (by omega)]; exact e9', by rw [va_up_ne _ _ ei]; exact w9⟩
  · refine kn_off h2 ?_
    simp
    exact ⟨hq _ (by omega), hq _ (by omega), hq _ (by omega), hq _ (by omega)⟩
-- ===== the reference's own cells =====
abbrev cI (k : Nat → ClassId) (n : Nat) (z : Nat → Int32) : va_E := .inl (k 0, n, .inl z)
abbrev cZ (k : Nat → ClassId) (z : Nat → Int32) : va_E := .inl (k 5, 8, .inl z)
abbrev cNs (k : Nat → ClassId) (adr : Nat → Nat) (b : Nat) : va_E := .inl (k 4, 144, .inr (.inr (.inr (.inr (fun i => some (adr (2 * (b + i))))))))
abbrev cM (ra adr : Nat → Nat) (pr rw cl : Int32) : va_E := .inr (5, [.ref (adr (2 * 0)), .ref (adr (2 * 1)), .ref (adr (2 * 2)), .ref (adr (2 * 3)), .ref (adr (2 * 4)), .ref (adr (2 * 5)), .ref (adr (2 * 6)), .ref (adr (2 * 7)), .ref (ra 0), .ref (ra 1), .ref (ra 2), .ref (ra 3), .ref (ra 4), .ref (ra 5), .ref (ra 6), .ref (ra 7), .ref (ra 8), .ref (ra 9), .ref (ra 10), .ref (ra 11), .int pr, .int rw, .int cl, .ref (adr (2 * 8)), .ref (adr (2 * 9))])
abbrev mc (k : Nat → ClassId) (ra adr : Nat → Nat) (ma : Nat) (pr rw cl : Int32) (F R C Lo Pl To Bo Re Sm Pc : Nat → Int32) : va_W := [(ma, cM ra adr pr rw cl), (ra 0, cI k 8 F), (ra 1, cI k 8 R), (ra 2, cI k 8 C), (ra 3, cZ k Lo), (ra 4, cI k 96 Pl), (ra 5, cI k 18432 To), (ra 6, cI k 18432 Bo), (ra 7, cI k 1152 Re), (ra 8, cNs k adr 10), (ra 9, cNs k adr 154), (ra 10, cI k 144 Sm), (ra 11, cI k 12 Pc)]
/-- where the reference's cells lie -/
def ML (L : List Nat) (own : Nat → Nat) (ma : Nat) (ra adr : Nat → Nat) : Prop := (ma ∈ L ∧ own ma = 200) ∧ (∀ i, i < 12 → ra i ∈ L ∧ own (ra i) = 200 ∧ ra i ≠ ma) ∧ (∀ i j, i < 12 → j < 12 → ra i = ra j → i = j) ∧ (∀ x, x < 596 → own (adr x) = 200 ∧ adr x ≠ ma ∧ ∀ i, i < 12 → adr x ≠ ra i) ∧ ∀ x y, x < 2 * 298 → y < 2 * 298 → adr x = adr y → x = y
def MW (L : List Nat) (own : Nat → Nat) (k : Nat → ClassId) (f : Nat → va_E) (ma : Nat) (ra adr : Nat → Nat) (pr rw cl : Int32) (F R C Lo Pl To Bo Re Sm Pc : Nat → Int32) (V : Nat → Int) : Prop := ML L own ma ra adr ∧ (∀ q ∈ (mc k ra adr ma pr rw cl F R C Lo Pl To Bo Re Sm Pc), f q.1 = q.2) ∧ fnv L k adr 298 f V
abbrev kn' := @kn
section MWS
variable {L : List Nat} {own : Nat → Nat} {k : Nat → ClassId} {f f' : Nat → va_E} {ma : Nat} {ra adr : Nat → Nat} {pr rw cl : Int32} {F R C Lo Pl To Bo Re Sm Pc : Nat → Int32} {V : Nat → Int}
theorem mc_mem (h : ML L own ma ra adr) : ∀ q ∈ (mc k ra adr ma pr rw cl F R C Lo Pl To Bo Re Sm Pc), q.1 ∈ L ∧ own q.1 = 200 ∧ ∀ x, x < 596 → adr x ≠ q.1 := by
  intro q hq
  simp only [List.mem_cons, List.not_mem_nil, or_false] at hq
  have hr := h.2.1
  have ha := h.2.2.2.1
  rcases hq with rfl | rfl | rfl | rfl | rfl | rfl | rfl | rfl | rfl | rfl | rfl | rfl | rfl
  · exact ⟨h.1.1, h.1.2, fun x hx => (ha x hx).2.1⟩
  · exact ⟨(hr 0 (by decide)).1, (hr 0 (by decide)).2.1, fun x hx => (ha x hx).2.2 0 (by decide)⟩
  · exact ⟨(hr 1 (by decide)).1, (hr 1 (by decide)).2.1, fun x hx => (ha x hx).2.2 1 (by decide)⟩
  · exact ⟨(hr 2 (by decide)).1, (hr 2 (by decide)).2.1, fun x hx => (ha x hx).2.2 2 (by decide)⟩
  · exact ⟨(hr 3 (by decide)).1, (hr 3 (by decide)).2.1, fun x hx => (ha x hx).2.2 3 (by decide)⟩
  · exact ⟨(hr 4 (by decide)).1, (hr 4 (by decide)).2.1, fun x hx => (ha x hx).2.2 4 (by decide)⟩
  · exact ⟨(hr 5 (by decide)).1, (hr 5 (by decide)).2.1, fun x hx => (ha x hx).2.2 5 (by decide)⟩
  · exact ⟨(hr 6 (by decide)).1, (hr 6 (by decide)).2.1, fun x hx => (ha x hx).2.2 6 (by decide)⟩
  · exact ⟨(hr 7 (by decide)).1, (hr 7 (by decide)).2.1, fun x hx => (ha x hx).2.2 7 (by decide)⟩
  · exact ⟨(hr 8 (by decide)).1, (hr 8 (by decide)).2.1, fun x hx => (ha x hx).2.2 8 (by decide)⟩
  · exact ⟨(hr 9 (by decide)).1, (hr 9 (by decide)).2.1, fun x hx => (ha x hx).2.2 9 (by decide)⟩
  · exact ⟨(hr 10 (by decide)).1, (hr 10 (by decide)).2.1, fun x hx => (ha x hx).2.2 10 (by decide)⟩
  · exact ⟨(hr 11 (by decide)).1, (hr 11 (by decide)).2.1, fun x hx => (ha x hx).2.2 11 (by decide)⟩
theorem mc_nd (h : ML L own ma ra adr) : ([ma, ra 0, ra 1, ra 2, ra 3, ra 4, ra 5, ra 6, ra 7, ra 8, ra 9, ra 10, ra 11] : List Nat).Nodup := by
  have e : ([ma, ra 0, ra 1, ra 2, ra 3, ra 4, ra 5, ra 6, ra 7, ra 8, ra 9, ra 10, ra 11] : List Nat) = ma :: ([0, 1, 2, 3, 4, 5, 6, 7, 8, 9, 10, 11] : List Nat).map ra := rfl
  rw [e, List.nodup_cons]
  refine ⟨fun hm => ?_, nd_map (M := 12) h.2.2.1 (by decide) (by decide)⟩
  obtain ⟨b, hb, e⟩ := List.mem_map.mp hm
  have : b < 12 := by
    simp only [List.mem_cons, List.not_mem_nil, or_false] at hb
    omega
  exact (h.2.1 b this).2.2 e
theorem MW.kn (h : MW L own k f ma ra adr pr rw cl F R C Lo Pl To Bo Re Sm Pc V) : kn L f f (mc k ra adr ma pr rw cl F R C Lo Pl To Bo Re Sm Pc) := kn_of (fun q hq => ⟨(mc_mem h.1 q hq).1, h.2.1 q hq⟩) (mc_nd h.1)
theorem MW.back {pr' rw' cl' : Int32} {F' R' C' Lo' Pl' To' Bo' Re' Sm' Pc' : Nat → Int32} (h : MW L own k f ma ra adr pr rw cl F R C Lo Pl To Bo Re Sm Pc V) (hk : kn' L f f' (mc k ra adr ma pr' rw' cl' F' R' C' Lo' Pl' To' Bo' Re' Sm' Pc')) : MW L own k f' ma ra adr pr' rw' cl' F' R' C' Lo' Pl' To' Bo' Re' Sm' Pc' V ∧ oe own [200] f f' := by
  have hoff : ∀ q, (∀ z ∈ (mc k ra adr ma pr' rw' cl' F' R' C' Lo' Pl' To' Bo' Re' Sm' Pc'), z.1 ≠ q) → f' q = f q := fun q hq => hk.2.2 q (fun j e1 hj => hq _ (List.mem_of_getElem? hj) rfl)
  refine ⟨⟨h.1, fun q hq => ?_, fun i hi => ?_⟩, fun q hq => ?_⟩
  · obtain ⟨i, hi⟩ := List.getElem?_of_mem hq
    exact (hk.1 i q hi).2
  · obtain ⟨h1, h2, n, mi, d, e1, e2, e3⟩ := h.2.2 i hi
    have o : ∀ x, x < 596 → f' (adr x) = f (adr x) := fun x hx => hoff _ (fun z hz => ((mc_mem h.1 z hz).2.2 x hx).symm)
    exact ⟨h1, h2, n, mi, d, by rw [o _ (by omega)]; exact e1, by rw [o _ (by omega)]; exact e2, e3⟩
  · refine hoff q (fun z hz e => hq ?_)
    rw [← e, (mc_mem h.1 z hz).2.1]; simp
theorem MW.num {V' : Nat → Int} (h : MW L own k f ma ra adr pr rw cl F R C Lo Pl To Bo Re Sm Pc V) (hf : fnv L k adr 298 f' V' ∧ fo adr 298 f f') : MW L own k f' ma ra adr pr rw cl F R C Lo Pl To Bo Re Sm Pc V' ∧ oe own [200] f f' := by
  refine ⟨⟨h.1, fun q hq => ?_, hf.1⟩, fun q hq => ?_⟩
  · rw [hf.2 q.1 (fun x hx => ((mc_mem h.1 q hq).2.2 x hx).symm)]; exact h.2.1 q hq
  · refine hf.2 q (fun x hx e => hq ?_)
    rw [e, (h.1.2.2.2.1 x hx).1]; simp
theorem MW.keep {S : List Nat} (h : MW L own k f ma ra adr pr rw cl F R C Lo Pl To Bo Re Sm Pc V) (ho : oe own S f f') (hs : 200 ∉ S) : MW L own k f' ma ra adr pr rw cl F R C Lo Pl To Bo Re Sm Pc V := by
  have o : ∀ q, own q = 200 → f' q = f q := fun q e => ho q (by rw [e]; exact hs)
  refine ⟨h.1, fun q hq => ?_, fun i hi => ?_⟩
  · rw [o _ (mc_mem h.1 q hq).2.1]; exact h.2.1 q hq
  · obtain ⟨h1, h2, n, mi, d, e1, e2, e3⟩ := h.2.2 i hi
    have o' : ∀ x, x < 596 → f' (adr x) = f (adr x) := fun x hx => o _ (h.1.2.2.2.1 x hx).1
    exact ⟨h1, h2, n, mi, d, by rw [o' _ (by omega)]; exact e1, by rw [o' _ (by omega)]; exact e2, e3⟩
end MWS
section ZARR
variable {p : Program} {l : Launch} {e : Env} {R : Room} {s : State} {m : MethodId} {args : Array Value} {below : List Frame} {meth : Method} {c : Code} {H : Heap} {locs : List Loc} {cells slots : Nat} {Q : State → Prop}
variable {cc : ByteArray} {pc : Nat} {ls : Array Slot} {rest : List Value} {D : va_G} {cl : List vw_C} {a : Nat} {tys : List (ClassId × FieldType)} {H0 : Heap} {L : List Nat} {f0 : Nat → va_E} {ws : va_W}
theorem k_zald (hexec : p.tables.exec = Jvm.exec) (hb : c.code = cc) (hw : kw D cl tys L s H0 f0 ws H locs) (q0 t0 : Nat) {cA : ClassId} {n : Nat} {z : Nat → Int32} (hi : ws[q0]? = some (a, .inl (cA, n, .inl z))) (ht : tys[t0]? = some (cA, .boolean)) {i : Int32} (k : Nat) (hik : i = nI k) (hk : k < n) (hn : n < 2 ^ 31) (hdg : decode cc pc = .ok (.baload, 1))
    (kk : W p l e R s m args below meth c H locs cells slots Q (F0 m (pc + 1) ls (.int (z k) :: rest))) : W p l e R s m args below meth c H locs cells slots Q (F0 m pc ls (.int i :: .ref a :: rest)) := by
  obtain ⟨f, h1, h2⟩ := hw
  obtain ⟨g1, g2⟩ := h2.1 q0 _ hi
  obtain ⟨q1, hq⟩ := pl_ix g1 g2
  subst hik
  refine va_zald hexec hb h1.1.1 h1.2.1 q1 t0 hq ht (vp_in_nI hk hn) hdg ?_
  rw [nI_clamp (by omega)]
  exact kk
theorem k_zast (hexec : p.tables.exec = Jvm.exec) (hb : c.code = cc) (hw : kw D cl tys L s H0 f0 ws H locs) (q0 t0 : Nat) {cA : ClassId} {n : Nat} {z : Nat → Int32} (hi : ws[q0]? = some (a, .inl (cA, n, .inl z))) (ht : tys[t0]? = some (cA, .boolean)) {i x : Int32} (hx : vp_nar .boolean x = x) (k : Nat) (hik : i = nI k) (hk : k < n) (hn : n < 2 ^ 31) (hdg : decode cc pc = .ok (.bastore, 1))
    (kk : ∀ (H1 : Heap) (locs1 : List Loc), kw D cl tys L s H0 f0 (ws.set q0 (a, .inl (cA, n, .inl (upd z k x)))) H1 locs1 → W p l e R s m args below meth c H1 locs1 cells slots Q (F0 m (pc + 1) ls rest)) : W p l e R s m args below meth c H locs cells slots Q (F0 m pc ls (.int x :: .int i :: .ref a :: rest)) := by
  obtain ⟨f, h1, h2⟩ := hw
  obtain ⟨g1, g2⟩ := h2.1 q0 _ hi
  obtain ⟨q1, hq⟩ := pl_ix g1 g2
  subst hik
  refine va_zast hexec hb h1.1.1 h1.2.1 h1.2.2.1 h1.2.2.2 q1 t0 hq ht (vp_in_nI hk hn) hdg (fun H1 locs1 e1 e2 e3 => ?_)
  rw [nI_clamp (by omega), hx, pl_up h1.2.2.1 g1 g2 hq] at e1 e2
  exact kk H1 locs1 ⟨_, ⟨h1.1, e1, e2, e3⟩, kn_put h2 hi⟩
end ZARR


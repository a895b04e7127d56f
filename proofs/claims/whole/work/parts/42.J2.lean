-- ===== the JDK's functions: fills, longs, signs, leading zeros =====
section FILL
variable {p : Program} {l : Launch} {e : Env} {R : Room} {s : State} {m : MethodId} {args : Array Value} {below : List Frame} {meth : Method} {c : Code} {cells slots : Nat} {Q : State → Prop} {D : va_G} {k : Nat → ClassId} {L : List Nat} {f0 : Nat → va_E} {H0 : Heap}
theorem fill_up {v : Int32} {z : Nat → Int32} {lo i : Nat} (h : lo ≤ i) : upd (fun t => if lo ≤ t ∧ t < i then v else z t) i v = fun t => if lo ≤ t ∧ t < i + 1 then v else z t := by
  funext t
  by_cases e : t = i
  · subst e
    rw [pk_us, if_pos (by omega)]
  · rw [pk_un e]
    by_cases e2 : lo ≤ t ∧ t < i
    · rw [if_pos e2, if_pos (by omega)]
    · rw [if_neg e2, if_neg (by omega)]
set_option maxRecDepth 100000 in
set_option maxHeartbeats 4000000 in
theorem w_JA_fill_0 (S : CallFix p m c c_JA_fill_0 4 s args G R_JA) {a n  : Nat} {v : Int32} {z : Nat → Int32} (hn : n < 2 ^ 31) : ∀ (j i : Nat) (H : Heap) (locs : List Loc) (ls : Array Slot), i + j = n → 0 ≤ i → lv_has ls 4 [(0, .ref a), (1, .int v), (2, .int (nI i)), (3, .int (nI n))] → kw D cls (tyl k) L s H0 f0 [(a, .inl (k 0, n, .inl (fun t => if 0 ≤ t ∧ t < i then v else z t)))] H locs →
    (∀ (H : Heap) (locs : List Loc) (ls : Array Slot), kw D cls (tyl k) L s H0 f0 [(a, .inl (k 0, n, .inl (fun t => if 0 ≤ t ∧ t < n then v else z t)))] H locs → W p l e R s m args below meth c H locs cells slots Q (F0 m 20 ls [])) →
    W p l e R s m args below meth c H locs cells slots Q (F0 m 5 ls []) := by
  have hx := S.1
  have hb := S.2.1
  have hown : s.vm.findClass R_JA = some m.cls := S.2.2.2.1
  have hG := S.2.2.2.2
  intro j
  induction j with
  | zero =>
    intro i H locs ls hij hlo hl hw kx
    have hij : i = n := by omega
    subst hij
    -- METHOD JA_fill_0 | loc 0=a 1=v 2=i 3=n | ws a
    refine lv_iload_n hx hb d_JA_fill_0_5 rfl (lv_at hl 2 rfl) ?_
    refine lv_iload_n hx hb d_JA_fill_0_6 rfl (lv_at hl 3 rfl) ?_
    refine lv_icmp_ge (tgt := 20) hx hb d_JA_fill_0_7 (by decide) (fun hc => ?_) (fun hc => ?_)
    · exact kx H locs ls hw
    · exact absurd (nI_le (Nat.le_refl _) (by omega)) hc
  | succ j ih =>
    intro i H locs ls hij hlo hl hw kx
    -- METHOD JA_fill_0 | loc 0=a 1=v 2=i 3=n | ws a
    refine lv_iload_n hx hb d_JA_fill_0_5 rfl (lv_at hl 2 rfl) ?_
    refine lv_iload_n hx hb d_JA_fill_0_6 rfl (lv_at hl 3 rfl) ?_
    refine lv_icmp_ge (tgt := 20) hx hb d_JA_fill_0_7 (by decide) (fun hc => ?_) (fun hc => ?_)
    · exact absurd hc (nI_ge (by omega) (by omega))
    · -- STK
      refine lv_aload_n hx hb d_JA_fill_0_10 rfl (lv_at hl 0 rfl) ?_
      refine lv_iload_n hx hb d_JA_fill_0_11 rfl (lv_at hl 2 rfl) ?_
      refine lv_iload_n hx hb d_JA_fill_0_12 rfl (lv_at hl 1 rfl) ?_
      refine k_iast hx hb hw 0 0 rfl rfl (i) (rfl) (by omega) (by first | decide | omega) d_JA_fill_0_13 (fun H locs hw => ?_)
      refine lv_iinc (k := 2) hx hb d_JA_fill_0_14 hl rfl (ii1 i) (by decide) rfl (fun ls hl => ?_)
      refine lv_goto (tgt := 5) hx hb d_JA_fill_0_17 (by decide) ?_
      have hl := lv_sub hl [1, 2, 0, 3] rfl
      rw [show [(a, (Sum.inl (k 0, n, Sum.inl (fun t => if 0 ≤ t ∧ t < i then v else z t)) : va_E))].set 0 (a, Sum.inl (k 0, n, Sum.inl (upd (fun t => if 0 ≤ t ∧ t < i then v else z t) i v))) = [(a, Sum.inl (k 0, n, Sum.inl (upd (fun t => if 0 ≤ t ∧ t < i then v else z t) i v)))] from rfl, fill_up hlo] at hw
      exact ih (i + 1) H locs ls (by omega) (by omega) hl hw kx
set_option maxRecDepth 100000 in
set_option maxHeartbeats 4000000 in
theorem w_JA_fill_1 (S : CallFix p m c c_JA_fill_1 5 s args G R_JA) {a n lo hi : Nat} {v : Int32} {z : Nat → Int32} (hn : n < 2 ^ 31) (hhi : hi ≤ n) : ∀ (j i : Nat) (H : Heap) (locs : List Loc) (ls : Array Slot), i + j = hi → lo ≤ i → lv_has ls 5 [(0, .ref a), (1, .int (nI lo)), (2, .int (nI hi)), (3, .int v), (4, .int (nI i))] → kw D cls (tyl k) L s H0 f0 [(a, .inl (k 0, n, .inl (fun t => if lo ≤ t ∧ t < i then v else z t)))] H locs →
    (∀ (H : Heap) (locs : List Loc) (ls : Array Slot), kw D cls (tyl k) L s H0 f0 [(a, .inl (k 0, n, .inl (fun t => if lo ≤ t ∧ t < hi then v else z t)))] H locs → W p l e R s m args below meth c H locs cells slots Q (F0 m 27 ls [])) →
    W p l e R s m args below meth c H locs cells slots Q (F0 m 10 ls []) := by
  have hx := S.1
  have hb := S.2.1
  have hown : s.vm.findClass R_JA = some m.cls := S.2.2.2.1
  have hG := S.2.2.2.2
  intro j
  induction j with
  | zero =>
    intro i H locs ls hij hlo hl hw kx
    have hij : i = hi := by omega
    subst hij
    -- METHOD JA_fill_1 | loc 0=a 1=lo 2=hi 3=v 4=i | ws a
    refine lv_iload hx hb d_JA_fill_1_10 (lv_at hl 4 rfl) ?_
    refine lv_iload_n hx hb d_JA_fill_1_12 rfl (lv_at hl 2 rfl) ?_
    refine lv_icmp_ge (tgt := 27) hx hb d_JA_fill_1_13 (by decide) (fun hc => ?_) (fun hc => ?_)
    · exact kx H locs ls hw
    · exact absurd (nI_le (Nat.le_refl _) (by omega)) hc
  | succ j ih =>
    intro i H locs ls hij hlo hl hw kx
    -- METHOD JA_fill_1 | loc 0=a 1=lo 2=hi 3=v 4=i | ws a
    refine lv_iload hx hb d_JA_fill_1_10 (lv_at hl 4 rfl) ?_
    refine lv_iload_n hx hb d_JA_fill_1_12 rfl (lv_at hl 2 rfl) ?_
    refine lv_icmp_ge (tgt := 27) hx hb d_JA_fill_1_13 (by decide) (fun hc => ?_) (fun hc => ?_)
    · exact absurd hc (nI_ge (by omega) (by omega))
    · -- STK
      refine lv_aload_n hx hb d_JA_fill_1_16 rfl (lv_at hl 0 rfl) ?_
      refine lv_iload hx hb d_JA_fill_1_17 (lv_at hl 4 rfl) ?_
      refine lv_iload_n hx hb d_JA_fill_1_19 rfl (lv_at hl 3 rfl) ?_
      refine k_iast hx hb hw 0 0 rfl rfl (i) (rfl) (by omega) (by first | decide | omega) d_JA_fill_1_20 (fun H locs hw => ?_)
      refine lv_iinc (k := 4) hx hb d_JA_fill_1_21 hl rfl (ii1 i) (by decide) rfl (fun ls hl => ?_)
      refine lv_goto (tgt := 10) hx hb d_JA_fill_1_24 (by decide) ?_
      have hl := lv_sub hl [1, 2, 3, 4, 0] rfl
      rw [show [(a, (Sum.inl (k 0, n, Sum.inl (fun t => if lo ≤ t ∧ t < i then v else z t)) : va_E))].set 0 (a, Sum.inl (k 0, n, Sum.inl (upd (fun t => if lo ≤ t ∧ t < i then v else z t) i v))) = [(a, Sum.inl (k 0, n, Sum.inl (upd (fun t => if lo ≤ t ∧ t < i then v else z t) i v)))] from rfl, fill_up hlo] at hw
      exact ih (i + 1) H locs ls (by omega) (by omega) hl hw kx
end FILL
set_option maxRecDepth 100000 in
set_option maxHeartbeats 4000000 in
theorem m_fill (l : Launch) (D : va_G) (k : Nat → ClassId) (L : List Nat) (f : Nat → va_E) (a n : Nat) (v : Int32) (z : Nat → Int32) (hn : n < 2 ^ 31) (hk : kn L f f [(a, .inl (k 0, n, .inl z))]) : Mv l y_JA_fill_0 (Cond.code y_JA_fill_0 c_JA_fill_0 4 none :: G) (rmN 0) D cls (tyl k) L f [.ref a, .int v] (fun f' => kn L f f' [(a, .inl (k 0, n, .inl (fun t => if 0 ≤ t ∧ t < n then v else z t)))]) := by
  -- METHOD JA_fill_0 | loc 0=a 1=v | ws a
  refine mk_metF (by decide +kernel) (Nat.le_of_ble_eq_true rfl) (fun p e s m below meth c ls S hr hlocks hw hl => ?_)
  have hx := S.1
  have hb := S.2.1
  have hown : s.vm.findClass R_JA = some m.cls := S.2.2.2.1
  have hG := S.2.2.2.2
  have hl : lv_has ls 4 [(0, .ref a), (1, .int v)] := hl
  have hg := hw
  have hw : kw D cls (tyl k) L s s.heap f [(a, .inl (k 0, n, .inl z))] s.heap [] := ⟨f, hw, hk⟩
  refine lv_iconst (v := 0) hx hb d_JA_fill_0_0 (by decide) ?_
  refine lv_istore_n hx hb d_JA_fill_0_1 rfl hl (by decide) rfl (fun ls hl => ?_)
  refine lv_aload_n hx hb d_JA_fill_0_2 rfl (lv_at hl 1 rfl) ?_
  refine k_alen hx hb hw 0 0 rfl rfl d_JA_fill_0_3 ?_
  refine lv_istore_n hx hb d_JA_fill_0_4 rfl hl (by decide) rfl (fun ls hl => ?_)
  have hl := lv_sub hl [2, 3, 1, 0] rfl
  have hw : kw D cls (tyl k) L s s.heap f [(a, .inl (k 0, n, .inl (fun t => if 0 ≤ t ∧ t < 0 then v else z t)))] s.heap [] := by
    rw [show (fun t => if 0 ≤ t ∧ t < 0 then v else z t) = z from funext fun t => if_neg (by omega)]
    exact hw
  refine w_JA_fill_0 S hn n 0 _ _ ls (by omega) (by omega) hl hw (fun H locs ls hw => ?_)
  obtain ⟨f', hw, hk⟩ := hw
  exact g_retv hx hb hr hlocks hw hk d_JA_fill_0_20
set_option maxRecDepth 100000 in
set_option maxHeartbeats 4000000 in
theorem m_rangeCheck (l : Launch) (D : va_G) (k : Nat → ClassId) (L : List Nat) (f : Nat → va_E) (n lo hi : Nat) (hn : n < 2 ^ 31) (h1 : lo ≤ hi) (h2 : hi ≤ n) : Mv l y_JA_rangeCheck (Cond.code y_JA_rangeCheck c_JA_rangeCheck 3 none :: G) (rmN 0) D cls (tyl k) L f [.int (nI n), .int (nI lo), .int (nI hi)] (fun f' => f' = f) := by
  -- METHOD JA_rangeCheck | loc 0=n 1=lo 2=hi | ws
  refine mk_metF (by decide +kernel) (Nat.le_of_ble_eq_true rfl) (fun p e s m below meth c ls S hr hlocks hw hl => ?_)
  have hx := S.1
  have hb := S.2.1
  have hown : s.vm.findClass R_JA = some m.cls := S.2.2.2.1
  have hG := S.2.2.2.2
  have hl : lv_has ls 3 [(0, .int (nI n)), (1, .int (nI lo)), (2, .int (nI hi))] := hl
  have hg := hw
  refine lv_iload_n hx hb d_JA_rangeCheck_0 rfl (lv_at hl 1 rfl) ?_
  refine lv_iload_n hx hb d_JA_rangeCheck_1 rfl (lv_at hl 2 rfl) ?_
  refine lv_icmp_le (tgt := 46) hx hb d_JA_rangeCheck_2 (by decide) (fun hc => ?_) (fun hc => ?_)
  · -- STK
    refine lv_iload_n hx hb d_JA_rangeCheck_46 rfl (lv_at hl 1 rfl) ?_
    refine lv_if_ge (tgt := 59) hx hb d_JA_rangeCheck_47 (by decide) (fun hc => ?_) (fun hc => ?_)
    · -- STK
      refine lv_iload_n hx hb d_JA_rangeCheck_59 rfl (lv_at hl 2 rfl) ?_
      refine lv_iload_n hx hb d_JA_rangeCheck_60 rfl (lv_at hl 0 rfl) ?_
      refine lv_icmp_le (tgt := 73) hx hb d_JA_rangeCheck_61 (by decide) (fun hc => ?_) (fun hc => ?_)
      · exact g_retv hx hb hr hlocks hg rfl d_JA_rangeCheck_73
      · exact absurd (nI_le h2 (by omega)) hc
    · exact absurd (nI_pos' (by omega)) hc
  · exact absurd (nI_le h1 (by omega)) hc
set_option maxRecDepth 100000 in
set_option maxHeartbeats 4000000 in
theorem m_fillR (l : Launch) (D : va_G) (k : Nat → ClassId) (L : List Nat) (f : Nat → va_E) (a n lo hi : Nat) (v : Int32) (z : Nat → Int32) (hn : n < 2 ^ 31) (h1 : lo ≤ hi) (h2 : hi ≤ n) (hk : kn L f f [(a, .inl (k 0, n, .inl z))]) : Mv l y_JA_fill_1 (Cond.code y_JA_fill_1 c_JA_fill_1 5 none :: G) (rmN 1) D cls (tyl k) L f [.ref a, .int (nI lo), .int (nI hi), .int v] (fun f' => kn L f f' [(a, .inl (k 0, n, .inl (fun t => if lo ≤ t ∧ t < hi then v else z t)))]) := by
  -- METHOD JA_fill_1 | loc 0=a 1=lo 2=hi 3=v | ws a
  refine mk_metF (by decide +kernel) (Nat.le_of_ble_eq_true rfl) (fun p e s m below meth c ls S hr hlocks hw hl => ?_)
  have hx := S.1
  have hb := S.2.1
  have hown : s.vm.findClass R_JA = some m.cls := S.2.2.2.1
  have hG := S.2.2.2.2
  have hl : lv_has ls 5 [(0, .ref a), (1, .int (nI lo)), (2, .int (nI hi)), (3, .int v)] := hl
  have hg := hw
  have hw : kw D cls (tyl k) L s s.heap f [(a, .inl (k 0, n, .inl z))] s.heap [] := ⟨f, hw, hk⟩
  refine lv_aload_n hx hb d_JA_fill_1_0 rfl (lv_at hl 0 rfl) ?_
  refine k_alen hx hb hw 0 0 rfl rfl d_JA_fill_1_1 ?_
  refine lv_iload_n hx hb d_JA_fill_1_2 rfl (lv_at hl 1 rfl) ?_
  refine lv_iload_n hx hb d_JA_fill_1_3 rfl (lv_at hl 2 rfl) ?_
  have hw := hg
  refine g_ov (c_X (np := 3) S (m_rangeCheck l D k L f n lo hi hn h1 h2) hw ml_JA_13 st_JA_rangeCheck in_JA co_JA_rangeCheck (by decide +kernel) rfl ⟨rfl, rfl, by decide, by decide⟩ hl.1 rfl (by simp [Value.category]) d_JA_fill_1_4 ⟨Nat.zero_le _, Nat.zero_le _⟩) hw (fun f2 H locs hp hw2 => ?_)
  rw [hp] at hw2
  have hw : kw D cls (tyl k) L s s.heap f [(a, .inl (k 0, n, .inl (fun t => if lo ≤ t ∧ t < lo then v else z t)))] H locs := by
    rw [show (fun t => if lo ≤ t ∧ t < lo then v else z t) = z from funext fun t => if_neg (by omega)]
    exact ⟨f, hw2, hk⟩
  refine lv_iload_n hx hb d_JA_fill_1_7 rfl (lv_at hl 1 rfl) ?_
  refine lv_istore hx hb d_JA_fill_1_8 hl (by decide) rfl (fun ls hl => ?_)
  have hl := lv_sub hl [1, 2, 3, 4, 0] rfl
  refine w_JA_fill_1 S hn h2 (hi - lo) lo _ _ ls (by omega) (by omega) hl hw (fun H locs ls hw => ?_)
  obtain ⟨f', hw, hk⟩ := hw
  exact g_retv hx hb hr hlocks hw hk d_JA_fill_1_27
set_option maxRecDepth 100000 in
set_option maxHeartbeats 4000000 in
theorem m_minL (l : Launch) (D : va_G) (k : Nat → ClassId) (L : List Nat) (f : Nat → va_E) (a b : Int) (ha : rL a) (hb1 : rL b) : Ml l y_JM_min_0 (Cond.code y_JM_min_0 c_JM_min_0 4 (some .long) :: G) (rmN 0) D cls (tyl k) L f [.long (zL a), .long (zL b)] (fun r f' => f' = f ∧ r = zL (min a b)) := by
  -- METHOD JM_min_0 | loc 0=x 2=y | ws
  refine mk_metF (by decide +kernel) (Nat.le_of_ble_eq_true rfl) (fun p e s m below meth c ls S hr hlocks hw hl => ?_)
  have hx := S.1
  have hb := S.2.1
  have hown : s.vm.findClass R_JM = some m.cls := S.2.2.2.1
  have hG := S.2.2.2.2
  have hl : lv_has ls 4 [(0, .long (zL a)), (2, .long (zL b))] := hl
  have hg := hw
  refine lv_lload_n hx hb d_JM_min_0_0 rfl (lv_at hl 0 rfl) ?_
  refine lv_lload_n hx hb d_JM_min_0_1 rfl (lv_at hl 1 rfl) ?_
  refine W.lcmp hx hb d_JM_min_0_2 ?_
  refine lv_if_gt (tgt := 10) hx hb d_JM_min_0_3 (by decide) (fun hc => ?_) (fun hc => ?_)
  · have h1 : b < a := (zL_lt hb1 ha).mp ((lg_cmp_gt _ _).mp hc)
    refine lv_lload_n hx hb d_JM_min_0_10 rfl (lv_at hl 1 rfl) ?_
    exact g_retl hx hb hr hlocks hg ⟨rfl, by rw [Int.min_eq_right (by omega)]⟩ d_JM_min_0_11
  · have h1 : ¬ b < a := fun h => hc ((lg_cmp_gt _ _).mpr ((zL_lt hb1 ha).mpr h))
    refine lv_lload_n hx hb d_JM_min_0_6 rfl (lv_at hl 0 rfl) ?_
    refine lv_goto (tgt := 11) hx hb d_JM_min_0_7 (by decide) ?_
    exact g_retl hx hb hr hlocks hg ⟨rfl, by rw [Int.min_eq_left (by omega)]⟩ d_JM_min_0_11
set_option maxRecDepth 100000 in
set_option maxHeartbeats 4000000 in
theorem m_maxL (l : Launch) (D : va_G) (k : Nat → ClassId) (L : List Nat) (f : Nat → va_E) (a b : Int) (ha : rL a) (hb1 : rL b) : Ml l y_JM_max_0 (Cond.code y_JM_max_0 c_JM_max_0 4 (some .long) :: G) (rmN 0) D cls (tyl k) L f [.long (zL a), .long (zL b)] (fun r f' => f' = f ∧ r = zL (max a b)) := by
  -- METHOD JM_max_0 | loc 0=x 2=y | ws
  refine mk_metF (by decide +kernel) (Nat.le_of_ble_eq_true rfl) (fun p e s m below meth c ls S hr hlocks hw hl => ?_)
  have hx := S.1
  have hb := S.2.1
  have hown : s.vm.findClass R_JM = some m.cls := S.2.2.2.1
  have hG := S.2.2.2.2
  have hl : lv_has ls 4 [(0, .long (zL a)), (2, .long (zL b))] := hl
  have hg := hw
  refine lv_lload_n hx hb d_JM_max_0_0 rfl (lv_at hl 0 rfl) ?_
  refine lv_lload_n hx hb d_JM_max_0_1 rfl (lv_at hl 1 rfl) ?_
  refine W.lcmp hx hb d_JM_max_0_2 ?_
  refine lv_if_lt (tgt := 10) hx hb d_JM_max_0_3 (by decide) (fun hc => ?_) (fun hc => ?_)
  · have h1 : a < b := (zL_lt ha hb1).mp ((lg_cmp_lt _ _).mp hc)
    refine lv_lload_n hx hb d_JM_max_0_10 rfl (lv_at hl 1 rfl) ?_
    exact g_retl hx hb hr hlocks hg ⟨rfl, by rw [Int.max_eq_right (by omega)]⟩ d_JM_max_0_11
  · have h1 : ¬ a < b := fun h => hc ((lg_cmp_lt _ _).mpr ((zL_lt ha hb1).mpr h))
    refine lv_lload_n hx hb d_JM_max_0_6 rfl (lv_at hl 0 rfl) ?_
    refine lv_goto (tgt := 11) hx hb d_JM_max_0_7 (by decide) ?_
    exact g_retl hx hb hr hlocks hg ⟨rfl, by rw [Int.max_eq_left (by omega)]⟩ d_JM_max_0_11
theorem bvI {x : Int32} {n : Nat} (h : x.toBitVec.toNat = n) (hn : n < 2 ^ 32) : x = nI n := by
  apply Int32.toBitVec_inj.mp
  apply BitVec.eq_of_toNat_eq
  rw [h, pk_tn hn]
theorem sgn_bits {a : Int} (h : -2147483648 < a ∧ a < 2147483648) : (zI a >>> ((31 : Int32) &&& 31)) ||| (((-zI a).toUInt32 >>> ((31 : Int32).toUInt32 &&& Int32.toUInt32 31)).toInt32) = zI a.sign := by
  have hr : rI a := ⟨by omega, h.2⟩
  have h1 : zI a >>> ((31 : Int32) &&& 31) = zI (a / 2147483648) := by
    apply Int32.toInt_inj.mp
    rw [pk_shr (zI a) _ 31 (by decide), zI_t hr, Int.shiftRight_eq_div_pow, zI_t ⟨by omega, by omega⟩]
    rfl
  have h2 : ((-zI a).toUInt32 >>> ((31 : Int32).toUInt32 &&& Int32.toUInt32 31)).toInt32 = nI (((-a) % 4294967296).toNat / 2147483648) := by
    apply bvI
    · rw [pk_ushr _ _ 31 (by decide), zI_neg, zI_bv]
    · omega
  rw [h1, h2]
  rcases Int.lt_trichotomy a 0 with h0 | h0 | h0
  · rw [show a / 2147483648 = -1 by omega, show ((-a) % 4294967296).toNat / 2147483648 = 0 by omega, Int.sign_eq_neg_one_of_neg h0]
    decide
  · subst h0
    decide
  · rw [show a / 2147483648 = 0 by omega, show ((-a) % 4294967296).toNat / 2147483648 = 1 by omega, Int.sign_eq_one_of_pos h0]
    decide
set_option maxRecDepth 100000 in
set_option maxHeartbeats 4000000 in
theorem m_signum (l : Launch) (D : va_G) (k : Nat → ClassId) (L : List Nat) (f : Nat → va_E) (a : Int) (ha : -2147483648 < a ∧ a < 2147483648) : Mi l y_JI_signum (Cond.code y_JI_signum c_JI_signum 1 (some .int) :: G) (rmN 0) D cls (tyl k) L f [.int (zI a)] (fun r f' => f' = f ∧ r = zI a.sign) := by
  -- METHOD JI_signum | loc 0=x | ws
  refine mk_metF (by decide +kernel) (Nat.le_of_ble_eq_true rfl) (fun p e s m below meth c ls S hr hlocks hw hl => ?_)
  have hx := S.1
  have hb := S.2.1
  have hown : s.vm.findClass R_JI = some m.cls := S.2.2.2.1
  have hG := S.2.2.2.2
  have hl : lv_has ls 1 [(0, .int (zI a))] := hl
  have hg := hw
  refine lv_iload_n hx hb d_JI_signum_0 rfl (lv_at hl 0 rfl) ?_
  refine lv_bipush (v := 31) hx hb d_JI_signum_1 (by decide) ?_
  refine lv_ishr hx hb d_JI_signum_3 ?_
  refine lv_iload_n hx hb d_JI_signum_4 rfl (lv_at hl 0 rfl) ?_
  refine lv_ineg hx hb d_JI_signum_5 ?_
  refine lv_bipush (v := 31) hx hb d_JI_signum_6 (by decide) ?_
  refine lv_iushr hx hb d_JI_signum_8 rfl ?_
  refine lv_ior hx hb d_JI_signum_9 ?_
  exact g_reti hx hb hr hlocks hg ⟨rfl, sgn_bits ha⟩ d_JI_signum_10
theorem ii_dec (n k : Nat) (h : k ≤ n) : nI n + Int32.ofInt (-(k : Int)) = nI (n - k) := by
  rw [← zI_n, ← zI_n]
  show zI _ + zI _ = _
  rw [zI_add]
  congr 1
  omega
section NLZ
variable {p : Program} {l : Launch} {e : Env} {R : Room} {s : State} {m : MethodId} {args : Array Value} {below : List Frame} {meth : Method} {c : Code} {cells slots : Nat} {Q : State → Prop}
theorem nlz_n {v t i : Nat} (k : Nat) (h : i = v / 2 ^ t) : i / 2 ^ k = v / 2 ^ (t + k) := by rw [h, Nat.div_div_eq_div_mul, Nat.pow_add]
theorem nlz_e {v t i : Nat} (h : i = v / 2 ^ t) (h1 : 1 ≤ i) (h4 : i < 4) : 2 ^ (t + i / 2) ≤ v ∧ v < 2 ^ (t + i / 2 + 1) := by
  have hp : 0 < 2 ^ t := Nat.pow_pos (by omega)
  have a1 : i * 2 ^ t ≤ v := by rw [h]; exact Nat.div_mul_le_self _ _
  have a2 : v < (i + 1) * 2 ^ t := by
    have := Nat.lt_mul_div_succ v hp
    rw [← h, Nat.mul_comm] at this
    exact this
  rcases (show i = 1 ∨ i = 2 ∨ i = 3 by omega) with rfl | rfl | rfl
  · rw [show t + 1 / 2 = t by omega, Nat.pow_succ]; omega
  · rw [show t + 2 / 2 = t + 1 by omega, Nat.pow_succ, Nat.pow_succ]; omega
  · rw [show t + 3 / 2 = t + 1 by omega, Nat.pow_succ, Nat.pow_succ]; omega
set_option maxRecDepth 100000 in
set_option maxHeartbeats 4000000 in
theorem w_nlz61 (S : CallFix p m c c_JI_numberOfLeadingZeros 2 s args G R_JI) {v : Nat} {H : Heap} {locs : List Loc} (t i : Nat) (ls : Array Slot) (ht : i = v / 2 ^ t) (h1 : 1 ≤ i) (h4 : i < 16) (h5 : t ≤ 28) (hl : lv_has ls 2 [(0, .int (nI i)), (1, .int (nI (31 - t)))])
    (kx : (∀ (t i : Nat) (ls : Array Slot), i = v / 2 ^ t → 1 ≤ i → i < 4 → t ≤ 30 → lv_has ls 2 [(0, .int (nI i)), (1, .int (nI (31 - t)))] → W p l e R s m args below meth c H locs cells slots Q (F0 m 73 ls []))) : W p l e R s m args below meth c H locs cells slots Q (F0 m 61 ls []) := by
  have hx := S.1
  have hb := S.2.1
  have hown : s.vm.findClass R_JI = some m.cls := S.2.2.2.1
  have hG := S.2.2.2.2
  -- METHOD JI_numberOfLeadingZeros | loc 0=i 1=n | ws
  refine lv_iload_n hx hb d_JI_numberOfLeadingZeros_61 rfl (lv_at hl 0 rfl) ?_
  refine lv_iconst (v := 4) hx hb d_JI_numberOfLeadingZeros_62 (by decide) ?_
  refine lv_icmp_lt (tgt := 73) hx hb d_JI_numberOfLeadingZeros_63 (by decide) (fun hc => ?_) (fun hc => ?_)
  · have hlt : i < 4 := (nI_ltI (by omega) (by omega)).mp hc
    exact kx t i ls ht h1 (by omega) (by omega) hl
  · have hge : 4 ≤ i := Nat.le_of_not_lt fun h => hc ((nI_ltI (b := 4) (by omega) (by omega)).mpr h)
    refine lv_iinc (k := 1) hx hb d_JI_numberOfLeadingZeros_66 hl rfl (ii_dec (31 - t) 2 (by omega)) (by decide) rfl (fun ls hl => ?_)
    refine lv_iload_n hx hb d_JI_numberOfLeadingZeros_69 rfl (lv_at hl 1 rfl) ?_
    refine lv_iconst (v := 2) hx hb d_JI_numberOfLeadingZeros_70 (by decide) ?_
    refine lv_iushr hx hb d_JI_numberOfLeadingZeros_71 (pk_ushrN (by omega) _ 2 (by decide)) ?_
    refine lv_istore_n hx hb d_JI_numberOfLeadingZeros_72 rfl hl (by decide) rfl (fun ls hl => ?_)
    have hl := lv_sub hl [0, 1] rfl
    rw [show 31 - t - 2 = 31 - (t + 2) by omega] at hl
    exact kx (t + 2) (i / 2 ^ 2) ls (nlz_n 2 ht) (by omega) (by omega) (by omega) hl
set_option maxRecDepth 100000 in
set_option maxHeartbeats 4000000 in
theorem w_nlz48 (S : CallFix p m c c_JI_numberOfLeadingZeros 2 s args G R_JI) {v : Nat} {H : Heap} {locs : List Loc} (t i : Nat) (ls : Array Slot) (ht : i = v / 2 ^ t) (h1 : 1 ≤ i) (h4 : i < 256) (h5 : t ≤ 24) (hl : lv_has ls 2 [(0, .int (nI i)), (1, .int (nI (31 - t)))])
    (kx : (∀ (t i : Nat) (ls : Array Slot), i = v / 2 ^ t → 1 ≤ i → i < 4 → t ≤ 30 → lv_has ls 2 [(0, .int (nI i)), (1, .int (nI (31 - t)))] → W p l e R s m args below meth c H locs cells slots Q (F0 m 73 ls []))) : W p l e R s m args below meth c H locs cells slots Q (F0 m 48 ls []) := by
  have hx := S.1
  have hb := S.2.1
  have hown : s.vm.findClass R_JI = some m.cls := S.2.2.2.1
  have hG := S.2.2.2.2
  -- METHOD JI_numberOfLeadingZeros | loc 0=i 1=n | ws
  refine lv_iload_n hx hb d_JI_numberOfLeadingZeros_48 rfl (lv_at hl 0 rfl) ?_
  refine lv_bipush (v := 16) hx hb d_JI_numberOfLeadingZeros_49 (by decide) ?_
  refine lv_icmp_lt (tgt := 61) hx hb d_JI_numberOfLeadingZeros_51 (by decide) (fun hc => ?_) (fun hc => ?_)
  · have hlt : i < 16 := (nI_ltI (by omega) (by omega)).mp hc
    exact w_nlz61 S t i ls ht h1 (by omega) (by omega) hl kx
  · have hge : 16 ≤ i := Nat.le_of_not_lt fun h => hc ((nI_ltI (b := 16) (by omega) (by omega)).mpr h)
    refine lv_iinc (k := 1) hx hb d_JI_numberOfLeadingZeros_54 hl rfl (ii_dec (31 - t) 4 (by omega)) (by decide) rfl (fun ls hl => ?_)
    refine lv_iload_n hx hb d_JI_numberOfLeadingZeros_57 rfl (lv_at hl 1 rfl) ?_
    refine lv_iconst (v := 4) hx hb d_JI_numberOfLeadingZeros_58 (by decide) ?_
    refine lv_iushr hx hb d_JI_numberOfLeadingZeros_59 (pk_ushrN (by omega) _ 4 (by decide)) ?_
    refine lv_istore_n hx hb d_JI_numberOfLeadingZeros_60 rfl hl (by decide) rfl (fun ls hl => ?_)
    have hl := lv_sub hl [0, 1] rfl
    rw [show 31 - t - 4 = 31 - (t + 4) by omega] at hl
    exact w_nlz61 S (t + 4) (i / 2 ^ 4) ls (nlz_n 4 ht) (by omega) (by omega) (by omega) hl kx
set_option maxRecDepth 100000 in
set_option maxHeartbeats 4000000 in
theorem w_nlz33 (S : CallFix p m c c_JI_numberOfLeadingZeros 2 s args G R_JI) {v : Nat} {H : Heap} {locs : List Loc} (t i : Nat) (ls : Array Slot) (ht : i = v / 2 ^ t) (h1 : 1 ≤ i) (h4 : i < 65536) (h5 : t ≤ 16) (hl : lv_has ls 2 [(0, .int (nI i)), (1, .int (nI (31 - t)))])
    (kx : (∀ (t i : Nat) (ls : Array Slot), i = v / 2 ^ t → 1 ≤ i → i < 4 → t ≤ 30 → lv_has ls 2 [(0, .int (nI i)), (1, .int (nI (31 - t)))] → W p l e R s m args below meth c H locs cells slots Q (F0 m 73 ls []))) : W p l e R s m args below meth c H locs cells slots Q (F0 m 33 ls []) := by
  have hx := S.1
  have hb := S.2.1
  have hown : s.vm.findClass R_JI = some m.cls := S.2.2.2.1
  have hG := S.2.2.2.2
  -- METHOD JI_numberOfLeadingZeros | loc 0=i 1=n | ws
  refine lv_iload_n hx hb d_JI_numberOfLeadingZeros_33 rfl (lv_at hl 0 rfl) ?_
  refine lv_sipush (v := 256) hx hb d_JI_numberOfLeadingZeros_34 (by decide) ?_
  refine lv_icmp_lt (tgt := 48) hx hb d_JI_numberOfLeadingZeros_37 (by decide) (fun hc => ?_) (fun hc => ?_)
  · have hlt : i < 256 := (nI_ltI (by omega) (by omega)).mp hc
    exact w_nlz48 S t i ls ht h1 (by omega) (by omega) hl kx
  · have hge : 256 ≤ i := Nat.le_of_not_lt fun h => hc ((nI_ltI (b := 256) (by omega) (by omega)).mpr h)
    refine lv_iinc (k := 1) hx hb d_JI_numberOfLeadingZeros_40 hl rfl (ii_dec (31 - t) 8 (by omega)) (by decide) rfl (fun ls hl => ?_)
    refine lv_iload_n hx hb d_JI_numberOfLeadingZeros_43 rfl (lv_at hl 1 rfl) ?_
    refine lv_bipush (v := 8) hx hb d_JI_numberOfLeadingZeros_44 (by decide) ?_
    refine lv_iushr hx hb d_JI_numberOfLeadingZeros_46 (pk_ushrN (by omega) _ 8 (by decide)) ?_
    refine lv_istore_n hx hb d_JI_numberOfLeadingZeros_47 rfl hl (by decide) rfl (fun ls hl => ?_)
    have hl := lv_sub hl [0, 1] rfl
    rw [show 31 - t - 8 = 31 - (t + 8) by omega] at hl
    exact w_nlz48 S (t + 8) (i / 2 ^ 8) ls (nlz_n 8 ht) (by omega) (by omega) (by omega) hl kx
set_option maxRecDepth 100000 in
set_option maxHeartbeats 4000000 in
theorem w_nlz18 (S : CallFix p m c c_JI_numberOfLeadingZeros 2 s args G R_JI) {v : Nat} {H : Heap} {locs : List Loc} (t i : Nat) (ls : Array Slot) (ht : i = v / 2 ^ t) (h1 : 1 ≤ i) (h4 : i < 2147483648) (h5 : t ≤ 0) (hl : lv_has ls 2 [(0, .int (nI i)), (1, .int (nI (31 - t)))])
    (kx : (∀ (t i : Nat) (ls : Array Slot), i = v / 2 ^ t → 1 ≤ i → i < 4 → t ≤ 30 → lv_has ls 2 [(0, .int (nI i)), (1, .int (nI (31 - t)))] → W p l e R s m args below meth c H locs cells slots Q (F0 m 73 ls []))) : W p l e R s m args below meth c H locs cells slots Q (F0 m 18 ls []) := by
  have hx := S.1
  have hb := S.2.1
  have hown : s.vm.findClass R_JI = some m.cls := S.2.2.2.1
  have hG := S.2.2.2.2
  -- METHOD JI_numberOfLeadingZeros | loc 0=i 1=n | ws
  refine lv_iload_n hx hb d_JI_numberOfLeadingZeros_18 rfl (lv_at hl 0 rfl) ?_
  refine lv_ldcw hx hb hown (hG _ ct_JI_264) d_JI_numberOfLeadingZeros_19 ?_
  refine lv_icmp_lt (tgt := 33) hx hb d_JI_numberOfLeadingZeros_22 (by decide) (fun hc => ?_) (fun hc => ?_)
  · have hlt : i < 65536 := (nI_ltI (by omega) (by omega)).mp hc
    exact w_nlz33 S t i ls ht h1 (by omega) (by omega) hl kx
  · have hge : 65536 ≤ i := Nat.le_of_not_lt fun h => hc ((nI_ltI (b := 65536) (by omega) (by omega)).mpr h)
    refine lv_iinc (k := 1) hx hb d_JI_numberOfLeadingZeros_25 hl rfl (ii_dec (31 - t) 16 (by omega)) (by decide) rfl (fun ls hl => ?_)
    refine lv_iload_n hx hb d_JI_numberOfLeadingZeros_28 rfl (lv_at hl 1 rfl) ?_
    refine lv_bipush (v := 16) hx hb d_JI_numberOfLeadingZeros_29 (by decide) ?_
    refine lv_iushr hx hb d_JI_numberOfLeadingZeros_31 (pk_ushrN (by omega) _ 16 (by decide)) ?_
    refine lv_istore_n hx hb d_JI_numberOfLeadingZeros_32 rfl hl (by decide) rfl (fun ls hl => ?_)
    have hl := lv_sub hl [0, 1] rfl
    rw [show 31 - t - 16 = 31 - (t + 16) by omega] at hl
    exact w_nlz33 S (t + 16) (i / 2 ^ 16) ls (nlz_n 16 ht) (by omega) (by omega) (by omega) hl kx
end NLZ
set_option maxRecDepth 100000 in
set_option maxHeartbeats 4000000 in
theorem m_nlz (l : Launch) (D : va_G) (k : Nat → ClassId) (L : List Nat) (f : Nat → va_E) (v : Nat) (h0 : 0 < v) (hv : v < 2147483648) : Mi l y_JI_numberOfLeadingZeros (Cond.code y_JI_numberOfLeadingZeros c_JI_numberOfLeadingZeros 2 (some .int) :: G) (rmN 0) D cls (tyl k) L f [.int (nI v)] (fun r f' => f' = f ∧ ∃ b, b ≤ 31 ∧ r = nI (31 - b) ∧ 2 ^ b ≤ v ∧ v < 2 ^ (b + 1)) := by
  -- METHOD JI_numberOfLeadingZeros | loc 0=i | ws
  refine mk_metF (by decide +kernel) (Nat.le_of_ble_eq_true rfl) (fun p e s m below meth c ls S hr hlocks hw hl => ?_)
  have hx := S.1
  have hb := S.2.1
  have hown : s.vm.findClass R_JI = some m.cls := S.2.2.2.1
  have hG := S.2.2.2.2
  have hl : lv_has ls 2 [(0, .int (nI v))] := hl
  have hg := hw
  refine lv_iload_n hx hb d_JI_numberOfLeadingZeros_0 rfl (lv_at hl 0 rfl) ?_
  refine lv_if_gt (tgt := 15) hx hb d_JI_numberOfLeadingZeros_1 (by decide) (fun hc => ?_) (fun hc => ?_)
  · -- STK
    refine lv_bipush (v := 31) hx hb d_JI_numberOfLeadingZeros_15 (by decide) ?_
    refine lv_istore_n hx hb d_JI_numberOfLeadingZeros_17 rfl hl (by decide) rfl (fun ls hl => ?_)
    have hl := lv_sub hl [1, 0] rfl
    refine w_nlz18 S 0 v ls (by rw [Nat.pow_zero, Nat.div_one]) h0 hv (by omega) hl (fun t i ls ht h1 h4 h5 hl => ?_)
    obtain ⟨e1, e2⟩ := nlz_e ht h1 h4
    refine lv_iload_n hx hb d_JI_numberOfLeadingZeros_73 rfl (lv_at hl 1 rfl) ?_
    refine lv_iload_n hx hb d_JI_numberOfLeadingZeros_74 rfl (lv_at hl 0 rfl) ?_
    refine lv_iconst (v := 1) hx hb d_JI_numberOfLeadingZeros_75 (by decide) ?_
    refine lv_iushr hx hb d_JI_numberOfLeadingZeros_76 (pk_ushrN (by omega) _ 1 (by decide)) ?_
    refine lv_isub hx hb d_JI_numberOfLeadingZeros_77 ?_
    refine l_top (pk_sub (by omega)) ?_
    exact g_reti hx hb hr hlocks hg ⟨rfl, t + i / 2, by omega, by rw [show 31 - t - i / 2 ^ 1 = 31 - (t + i / 2) by omega], e1, e2⟩ d_JI_numberOfLeadingZeros_78
  · exact absurd (by rw [← nI_0]; exact nI_lt h0 (by omega)) hc


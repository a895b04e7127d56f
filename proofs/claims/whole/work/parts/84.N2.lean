-- ===== Num: small, less =====
theorem kn_pick {L : List Nat} {f f' : Nat → va_E} {ws ws' : va_W} (h : kn L f f' ws) (hsub : ∀ q ∈ ws', q ∈ ws) (hnd : (ws'.map (fun q => q.1)).Nodup) (hold : ∀ q ∈ ws, q ∉ ws' → f q.1 = q.2) : kn L f f' ws' := by
  have hmem : ∀ q ∈ ws', q.1 ∈ L ∧ f' q.1 = q.2 := fun q hq => by
    obtain ⟨i, hi⟩ := List.getElem?_of_mem (hsub q hq)
    exact h.1 i q hi
  refine ⟨fun k q hk => hmem q (List.mem_of_getElem? hk), fun i j x y hi hj e => ?_, fun q hq => ?_⟩
  · have hi' : (ws'.map (fun q => q.1))[i]? = some x.1 := by rw [List.getElem?_map, hi]; rfl
    have hj' : (ws'.map (fun q => q.1))[j]? = some x.1 := by rw [List.getElem?_map, hj, e]; rfl
    exact (List.getElem?_inj (List.getElem?_eq_some_iff.mp hi').1 hnd).mp (hi'.trans hj'.symm)
  · by_cases hin : ∃ e, (q, e) ∈ ws
    · obtain ⟨e, he⟩ := hin
      obtain ⟨i, hi⟩ := List.getElem?_of_mem he
      have h1 := (h.1 i _ hi).2
      have h2 := hold _ he (fun hm => by
        obtain ⟨j, hj⟩ := List.getElem?_of_mem hm
        exact hq j e hj)
      exact h1.trans h2.symm
    · exact h.2.2 q (fun k e hk => hin ⟨e, List.mem_of_getElem? hk⟩)
/-- of the cells of a call the first two alone have changed -/
theorem kn_two {L : List Nat} {f f' : Nat → va_E} {c1 c1' c2 c2' : Nat × va_E} {ws : va_W} (h0 : kn L f f (c1 :: c2 :: ws)) (h : kn L f f' (c1' :: c2' :: ws)) : kn L f f' [c1', c2'] := by
  have hn := kn_nd h
  simp only [List.map_cons, List.nodup_cons, List.mem_cons, not_or] at hn
  refine kn_pick h (fun q hq => ?_) (by simp; exact hn.1.1) (fun q hq hn => ?_)
  · simp only [List.mem_cons, List.not_mem_nil, or_false] at hq
    rcases hq with rfl | rfl <;> simp
  · simp only [List.mem_cons, List.not_mem_nil, or_false, not_or] at hq hn
    rcases hq with q1 | q1 | q1
    · exact absurd q1 hn.1
    · exact absurd q1 hn.2
    · obtain ⟨i, hi⟩ := List.getElem?_of_mem q1
      exact (h0.1 (i + 2) q hi).2
set_option maxRecDepth 100000 in
set_option maxHeartbeats 4000000 in
theorem m_N_small (l : Launch) (D : va_G) (k : Nat → ClassId) (L : List Nat) (f : Nat → va_E) (x xl n : Nat) (mi : Bool) (d : Nat → Nat) (v : Int) (hv : v.natAbs ≤ 65535) (hd : ∀ i, i < 160 → d i < D16) (hk : kn L f f [(x, cN xl n mi), (xl, cE k d)]) : Mv l y_N_small (Cond.code y_N_small c_N_small 5 none :: G) (rmN 1) D cls (tyl k) L f [.ref x, .long (zL v)] (fun f' => ∃ n' mi' d', n' ≤ 1 ∧ nr n' mi' d' v ∧ kn L f f' [(x, cN xl n' mi'), (xl, cE k d')]) := by
  have rv : rL v := ⟨by omega, by omega⟩
  have r0 : rL 0 := ⟨by decide, by decide⟩
  -- METHOD N_small | loc 0=x 1=v | ws x xl | fld x.d=xl
  refine mk_met (by decide) (Nat.le_of_ble_eq_true rfl) (fun p e s m below meth c ls S hr hlocks hw hl => ?_)
  have hx := S.1
  have hb := S.2.1
  have hown : s.vm.findClass R_N = some m.cls := S.2.2.2.1
  have hG := S.2.2.2.2
  have hl : lv_has ls 5 [(0, .ref x), (1, .long (zL v))] := hl
  have hg := hw
  refine lv_aload_n hx hb d_N_small_0 rfl (lv_at hl 0 rfl) ?_
  refine g_ov (c_V (np := 0) S (m_N_zero l D k L f x xl n mi (kn_sub hk [0] rfl rfl)) hw ((hk.1 0 _ rfl).1) ((hk.1 0 _ rfl).2) rfl ml_N_21 im_N_zero se_N_N_zero in_N co_N_zero (by decide +kernel) rfl ⟨rfl, rfl, by decide, by decide⟩ hl.1 rfl (by simp [Value.category]) d_N_small_1 ⟨Nat.zero_le _, Nat.zero_le _⟩) hw (fun f1 H locs hp hg => ?_)
  have hk1 : kn L f f1 [(x, cN xl 0 false), (xl, cE k d)] := by
    have nd := kn_nd hk
    simp only [List.map_cons, List.map_nil, List.nodup_cons, List.mem_cons, List.not_mem_nil, or_false, not_or] at nd
    obtain ⟨n01, -⟩ := nd
    refine kn_join hk hp (by simp) rfl (fun q hq => ?_)
    simp only [List.mem_cons, List.not_mem_nil, or_false] at hq
    rcases hq with rfl | rfl
    · exact (hp.1 0 _ rfl).2
    · rw [kn_off hp (by simp; exact Ne.symm n01)]; exact (hk.1 1 _ rfl).2
  have hw : kw D cls (tyl k) L s s.heap f [(x, cN xl 0 false), (xl, cE k d)] H locs := ⟨f1, hg, hk1⟩
  -- the loop, with what is left
  have fin : ∀ (mi' : Bool) (r : Nat) (H : Heap) (locs : List Loc) (ls : Array Slot), r ≤ 65535 → v = (if mi' then -(r : Int) else (r : Int)) → (r = 0 → mi' = false) → lv_has ls 5 [(3, .long (lN r)), (0, .ref x)] → kw D cls (tyl k) L s s.heap f [(x, cN xl 0 mi'), (xl, cE k d)] H locs → W p l e (rmN 1) s m ([.ref x, .long (zL v)] : List Value).toArray below meth c H locs 0 0 (MQ below (va_Qv (fun f' => ∃ n' mi' d', n' ≤ 1 ∧ nr n' mi' d' v ∧ kn L f f' [(x, cN xl n' mi'), (xl, cE k d')]) (mst D cls (tyl k) L) (fun q => q ∈ L)) ([.ref x, .long (zL v)] : List Value).toArray s 0 0 (fun q => q ∈ L)) (F0 m 32 ls []) := by
    intro mi' r H locs ls hr1 hv1 hr0 hl hw
    -- METHOD N_small | loc 3=r 0=x | ws x xl | fld x.d=xl
    refine lv_lload_n hx hb d_N_small_32 rfl (lv_at hl 0 rfl) ?_
    refine lv_lconst (v := 0) hx hb d_N_small_33 (by decide) ?_
    refine W.lcmp hx hb d_N_small_34 ?_
    by_cases hz : r = 0
    · refine lv_if_le (tgt := 72) hx hb d_N_small_35 (by decide) (fun hc => ?_) (fun hc => ?_)
      · obtain ⟨f', hw, hk'⟩ := hw
        refine g_retv hx hb hr hlocks hw ⟨0, mi', d, by omega, ?_, hk'⟩ d_N_small_72
        rw [hr0 hz] at hv1 ⊢
        rw [hz] at hv1
        rw [hv1]
        exact nr_0 hd
      · exact absurd ((lg_cmp_le _ _).mpr ((pk_lLE (a := r) (b := 0) (by omega) (by omega)).mpr (by omega))) hc
    · refine lv_if_le (tgt := 72) hx hb d_N_small_35 (by decide) (fun hc => ?_) (fun hc => ?_)
      · have := (pk_lLE (a := r) (b := 0) (by omega) (by omega)).mp ((lg_cmp_le _ _).mp hc)
        omega
      refine lv_aload_n hx hb d_N_small_38 rfl (lv_at hl 1 rfl) ?_
      refine k_get hx hb hG lay_N hown hw 0 rfl rfl 0 (by decide) (hG _ fl_N_7) (fun _ h9 => h9) rfl d_N_small_39 ?_
      refine lv_aload_n hx hb d_N_small_42 rfl (lv_at hl 1 rfl) ?_
      refine k_get hx hb hG lay_N hown hw 0 rfl rfl 1 (by decide) (hG _ fl_N_13) (fun _ h9 => h9) rfl d_N_small_43 ?_
      refine lv_lload_n hx hb d_N_small_46 rfl (lv_at hl 0 rfl) ?_
      refine lv_ldc2 hx hb hown (hG _ ct_N_24) d_N_small_47 ?_
      refine lv_lrem hx hb d_N_small_50 (by decide) ?_
      refine l_topl (show lN r - lN r / 65536 * 65536 = lN r from (pk_lRem (b := 65536) (by omega) (by omega) (by omega)).trans (by rw [Nat.mod_eq_of_lt (by omega)])) ?_
      refine lv_l2i hx hb d_N_small_51 rfl ?_
      refine l_top (show (lN r).toInt32 = nI r from by rw [← zL_n, zLI]; rfl) ?_
      refine k_iast hx hb hw 1 0 rfl rfl (0) (rfl) (by omega) (by first | decide | omega) d_N_small_52 (fun H locs hw => ?_)
      rw [nD_upd] at hw
      refine lv_aload_n hx hb d_N_small_53 rfl (lv_at hl 1 rfl) ?_
      refine lv_dup hx hb d_N_small_54 rfl ?_
      refine k_get hx hb hG lay_N hown hw 0 rfl rfl 1 (by decide) (hG _ fl_N_13) (fun _ h9 => h9) rfl d_N_small_55 ?_
      refine lv_iconst (v := 1) hx hb d_N_small_58 (by decide) ?_
      refine lv_iadd hx hb d_N_small_59 ?_
      refine l_top (show nI 0 + 1 = nI 1 from rfl) ?_
      refine k_put (ty := .int) hx hb hG lay_N ft_N ft_N_ok fn_N hown hw 0 rfl rfl 1 (by decide) (hG _ fl_N_13) (fun _ h9 => h9) rfl (by decide +kernel) rfl rfl (by simp) d_N_small_60 (fun H locs hw => ?_)
      refine lv_lload_n hx hb d_N_small_63 rfl (lv_at hl 0 rfl) ?_
      refine lv_ldc2 hx hb hown (hG _ ct_N_24) d_N_small_64 ?_
      refine lv_ldiv hx hb d_N_small_67 (by decide) ?_
      refine l_topl (show lN r / 65536 = lN 0 from (pk_lDiv (b := 65536) (by omega) (by omega) (by omega)).trans (by rw [Nat.div_eq_of_lt (by omega)])) ?_
      refine lv_lstore_n hx hb d_N_small_68 rfl hl (by decide) rfl (fun ls hl => ?_)
      refine lv_goto (tgt := 32) hx hb d_N_small_69 (by decide) ?_
      refine lv_lload_n hx hb d_N_small_32 rfl (lv_at hl 0 rfl) ?_
      refine lv_lconst (v := 0) hx hb d_N_small_33 (by decide) ?_
      refine W.lcmp hx hb d_N_small_34 ?_
      refine lv_if_le (tgt := 72) hx hb d_N_small_35 (by decide) (fun hc => ?_) (fun hc => ?_)
      · obtain ⟨f', hw, hk'⟩ := hw
        refine g_retv hx hb hr hlocks hw ⟨1, mi', va_up d 0 r, by omega, ⟨by omega, fun i hi => ?_, fun _ => by rw [va_up_self]; exact hz, fun q => by omega, ?_⟩, hk'⟩ d_N_small_72
        · by_cases e : i = 0
          · rw [e, va_up_self]; unfold D16; omega
          · rw [va_up_ne _ _ e]; exact hd i hi
        · have e1 : cd D16 1 (va_up d 0 r) = r := by
            show 0 + va_up d 0 r 0 * D16 ^ 0 = r
            rw [va_up_self, Nat.pow_zero]; omega
          rw [e1]; exact hv1
      · exact absurd ((lg_cmp_le _ _).mpr ((pk_lLE (a := 0) (b := 0) (by omega) (by omega)).mpr (by omega))) hc
  refine lv_aload_n hx hb d_N_small_4 rfl (lv_at hl 0 rfl) ?_
  refine lv_lload_n hx hb d_N_small_5 rfl (lv_at hl 1 rfl) ?_
  refine lv_lconst (v := 0) hx hb d_N_small_6 (by decide) ?_
  refine W.lcmp hx hb d_N_small_7 ?_
  refine lv_if_ge (tgt := 15) hx hb d_N_small_8 (by decide) (fun hc => ?_) (fun hc => ?_)
  · have h0 : 0 ≤ v := (zL_le r0 rv).mp ((lg_cmp_ge _ _).mp hc)
    obtain ⟨r, rfl⟩ : ∃ r : Nat, v = r := ⟨v.toNat, by omega⟩
    refine lv_iconst (v := 0) hx hb d_N_small_15 (by decide) ?_
    refine k_put (ty := .boolean) hx hb hG lay_N ft_N ft_N_ok fn_N hown hw 0 rfl rfl 2 (by decide) (hG _ fl_N_17) (fun _ h9 => h9) rfl (by decide +kernel) rfl rfl (by simp) d_N_small_16 (fun H locs hw => ?_)
    refine lv_lload_n hx hb d_N_small_19 rfl (lv_at hl 1 rfl) ?_
    refine lv_lconst (v := 0) hx hb d_N_small_20 (by decide) ?_
    refine W.lcmp hx hb d_N_small_21 ?_
    refine lv_if_ge (tgt := 30) hx hb d_N_small_22 (by decide) (fun hc => ?_) (fun hc => ?_)
    · -- LOC 0=x 1=v
      refine lv_lload_n hx hb d_N_small_30 rfl (lv_at hl 1 rfl) ?_
      refine lv_lstore_n hx hb d_N_small_31 rfl hl (by decide) rfl (fun ls hl => ?_)
      have hl := lv_sub hl [0, 1] rfl
      exact fin false r H locs ls (by omega) (by rw [if_neg (by decide)]) (fun _ => rfl) hl hw
    · exact absurd ((lg_cmp_ge _ _).mpr ((zL_le r0 rv).mpr h0)) hc
  · have h0 : ¬ 0 ≤ v := fun q => hc ((lg_cmp_ge _ _).mpr ((zL_le r0 rv).mpr q))
    refine lv_iconst (v := 1) hx hb d_N_small_11 (by decide) ?_
    refine lv_goto (tgt := 16) hx hb d_N_small_12 (by decide) ?_
    refine k_put (ty := .boolean) hx hb hG lay_N ft_N ft_N_ok fn_N hown hw 0 rfl rfl 2 (by decide) (hG _ fl_N_17) (fun _ h9 => h9) rfl (by decide +kernel) rfl rfl (by simp) d_N_small_16 (fun H locs hw => ?_)
    refine lv_lload_n hx hb d_N_small_19 rfl (lv_at hl 1 rfl) ?_
    refine lv_lconst (v := 0) hx hb d_N_small_20 (by decide) ?_
    refine W.lcmp hx hb d_N_small_21 ?_
    refine lv_if_ge (tgt := 30) hx hb d_N_small_22 (by decide) (fun hc => ?_) (fun hc => ?_)
    · exact absurd ((zL_le r0 rv).mp ((lg_cmp_ge _ _).mp hc)) h0
    · -- LOC 0=x 1=v
      refine lv_lload_n hx hb d_N_small_25 rfl (lv_at hl 1 rfl) ?_
      refine lv_lneg hx hb d_N_small_26 ?_
      refine l_topl (show -zL v = lN v.natAbs from by rw [← zL_n]; show -Int64.ofInt v = _; rw [← Int64.ofInt_neg]; congr 1; omega) ?_
      refine lv_goto (tgt := 31) hx hb d_N_small_27 (by decide) ?_
      refine lv_lstore_n hx hb d_N_small_31 rfl hl (by decide) rfl (fun ls hl => ?_)
      have hl := lv_sub hl [0, 1] rfl
      exact fin true v.natAbs H locs ls (by omega) (by rw [if_pos rfl]; omega) (fun q => by omega) hl hw
theorem nr_le {n n2 : Nat} {mi mi2 : Bool} {d d2 : Nat → Nat} {v w : Int} (h : nr n mi d v) (h2 : nr n2 mi2 d2 w) (hle : v.natAbs ≤ w.natAbs) : n ≤ n2 := by
  apply Classical.byContradiction
  intro hn
  rw [nr_abs h, nr_abs h2] at hle
  have := cd_short (b := D16) (m := n2) (n := n) (d := d2) (e := d) (fun i hi => h2.2.1 i (by have := h2.1; omega)) (by omega) (by decide) (h.2.2.1 (by omega))
  omega
theorem dz_lt {n : Nat} {d : Nat → Nat} (h : ∀ i, i < n → d i < D16) (t : Nat) : dz n d t < D16 := by
  unfold dz
  by_cases q : t < n
  · rw [if_pos q]; exact h t q
  · rw [if_neg q]; decide
theorem cd_dz {b n m : Nat} {d : Nat → Nat} (h : n ≤ m) : cd b m (dz n d) = cd b n d := by
  rw [cd_top h (fun i h1 _ => by unfold dz; rw [if_neg (by omega)])]
  exact cd_congr n (fun i hi => by unfold dz; rw [if_pos hi])
/-- a digit taken away, with what is borrowed -/
theorem sub_st16 {i bo bo' a b v : Nat} {r : Nat → Nat} {S : Int} (h : (cd D16 i r : Int) - bo * (D16 : Int) ^ i = S) (hv : (v : Int) = (a : Int) - b - bo + 65536 * bo') : (cd D16 (i + 1) (va_up r i v) : Int) - bo' * (D16 : Int) ^ (i + 1) = S + ((a : Int) - b) * (D16 : Int) ^ i := by
  have e1 : (cd D16 (i + 1) (va_up r i v) : Int) = (cd D16 i r : Int) + (v : Int) * (D16 : Int) ^ i := by
    rw [cd_put, Int.natCast_add, Int.natCast_mul, Int.natCast_pow]
  have e2 : (D16 : Int) ^ (i + 1) = (D16 : Int) ^ i * 65536 := Int.pow_succ ..
  rw [e1, e2, hv, ← h]
  generalize (D16 : Int) ^ i = Y
  grind
section NLESS
variable {p : Program} {l : Launch} {e : Env} {R : Room} {s : State} {m : MethodId} {args : Array Value} {below : List Frame} {meth : Method} {c : Code} {cells slots : Nat} {Q : State → Prop} {D : va_G} {k : Nat → ClassId} {L : List Nat} {f0 : Nat → va_E} {H0 : Heap}
variable {x xl a al na b bl nb : Nat} {mi ma mb : Bool} {da db : Nat → Nat} {n : Nat}
set_option maxRecDepth 100000 in
set_option maxHeartbeats 4000000 in
theorem w_less1 (S : CallFix p m c c_N_less 10 s args G R_N) {ms : Nat} {ob : Bool} (hms : ms ≤ 159) (hna : na ≤ 160) (hnb : nb ≤ 160) (hda : ∀ i, i < 160 → da i < D16) (hdb : ∀ i, i < 160 → db i < D16)
    (kx : ∀ (cy : Nat) (d : Nat → Nat) (H : Heap) (locs : List Loc) (ls : Array Slot), cy ≤ 1 → cd D16 ms d + cy * D16 ^ ms = cd D16 ms (dz na da) + cd D16 ms (dz nb db) → (∀ i, i < 160 → d i < D16) → lv_has ls 10 [(0, .ref x), (1, .ref a), (2, .ref b), (3, .int (bI ob)), (4, .int (nI ms)), (5, .int (nI cy)), (6, .int (nI ms))] → kw D cls (tyl k) L s H0 f0 [(x, cN xl n mi), (xl, cE k d), (a, cN al na ma), (al, cE k da), (b, cN bl nb mb), (bl, cE k db)] H locs → W p l e R s m args below meth c H locs cells slots Q (F0 m 150 ls [])) :
    ∀ (i j cy : Nat) (d : Nat → Nat) (H : Heap) (locs : List Loc) (ls : Array Slot), j + i = ms → cy ≤ 1 → cd D16 j d + cy * D16 ^ j = cd D16 j (dz na da) + cd D16 j (dz nb db) → (∀ i, i < 160 → d i < D16) → lv_has ls 10 [(0, .ref x), (1, .ref a), (2, .ref b), (3, .int (bI ob)), (4, .int (nI ms)), (5, .int (nI cy)), (6, .int (nI j))] → kw D cls (tyl k) L s H0 f0 [(x, cN xl n mi), (xl, cE k d), (a, cN al na ma), (al, cE k da), (b, cN bl nb mb), (bl, cE k db)] H locs →
    W p l e R s m args below meth c H locs cells slots Q (F0 m 72 ls []) := by
  have hx := S.1
  have hb := S.2.1
  have hown : s.vm.findClass R_N = some m.cls := S.2.2.2.1
  have hG := S.2.2.2.2
  intro i
  induction i with
  | zero =>
    intro j cy d H locs ls hj hcy he hd hl hw
    have hj : j = ms := by omega
    subst hj
    -- METHOD N_less | loc 0=x 1=a 2=b 3=ob 4=ms 5=cy 6=j | ws x xl a al b bl | fld x.d=xl a.d=al b.d=bl
    refine lv_iload hx hb d_N_less_72 (lv_at hl 6 rfl) ?_
    refine lv_iload hx hb d_N_less_74 (lv_at hl 4 rfl) ?_
    refine lv_icmp_ge (tgt := 150) hx hb d_N_less_76 (by decide) (fun hc => ?_) (fun hc => ?_)
    · exact kx cy d H locs ls hcy he hd hl hw
    · exact absurd (nI_le (by omega) (by omega)) hc
  | succ i ih =>
    intro j cy d H locs ls hj hcy he hd hl hw
    have hza := dz_lt (n := na) (d := da) (fun i hi => hda i (by omega)) j
    have hzb := dz_lt (n := nb) (d := db) (fun i hi => hdb i (by omega)) j
    have hza' : dz na da j < 65536 := hza
    have hzb' : dz nb db j < 65536 := hzb
    have s2 : W p l e R s m args below meth c H locs cells slots Q (F0 m 121 ls [.int (nI (dz nb db j)), .int (nI (dz na da j)), .int (nI cy)]) := by
      -- METHOD N_less | loc 0=x 1=a 2=b 3=ob 4=ms 5=cy 6=j | ws x xl a al b bl | fld x.d=xl a.d=al b.d=bl
      refine lv_iadd hx hb d_N_less_121 ?_
      refine l_top (nI_add _ _) ?_
      refine lv_iadd hx hb d_N_less_122 ?_
      refine l_top (nI_add _ _) ?_
      refine lv_istore hx hb d_N_less_123 hl (by decide) rfl (fun ls hl => ?_)
      refine lv_aload_n hx hb d_N_less_125 rfl (lv_at hl 1 rfl) ?_
      refine k_get hx hb hG lay_N hown hw 0 rfl rfl 0 (by decide) (hG _ fl_N_7) (fun _ h9 => h9) rfl d_N_less_126 ?_
      refine lv_iload hx hb d_N_less_129 (lv_at hl 6 rfl) ?_
      refine lv_iload hx hb d_N_less_131 (lv_at hl 0 rfl) ?_
      refine lv_ldc hx hb hown (hG _ ct_N_26) d_N_less_133 ?_
      refine lv_irem hx hb d_N_less_135 (by decide) ?_
      refine l_top (show nI (cy + (dz na da j + dz nb db j)) - nI (cy + (dz na da j + dz nb db j)) / 65536 * 65536 = nI ((cy + (dz na da j + dz nb db j)) % D16) from pk_rem (d := 65536) (by omega) (by omega) (by omega)) ?_
      refine k_iast hx hb hw 1 0 rfl rfl (j) (rfl) (by omega) (by first | decide | omega) d_N_less_136 (fun H locs hw => ?_)
      rw [nD_upd] at hw
      refine lv_iload hx hb d_N_less_137 (lv_at hl 0 rfl) ?_
      refine lv_ldc hx hb hown (hG _ ct_N_26) d_N_less_139 ?_
      refine lv_idiv hx hb d_N_less_141 (by decide) ?_
      refine l_top (show nI (cy + (dz na da j + dz nb db j)) / 65536 = nI ((cy + (dz na da j + dz nb db j)) / D16) from pk_div (d := 65536) (by omega) (by omega) (by omega)) ?_
      refine lv_istore hx hb d_N_less_142 hl (by decide) rfl (fun ls hl => ?_)
      refine lv_iinc (k := 6) hx hb d_N_less_144 hl rfl (ii1 j) (by decide) rfl (fun ls hl => ?_)
      refine lv_goto (tgt := 72) hx hb d_N_less_147 (by decide) ?_
      have hl := lv_sub hl [2, 3, 4, 5, 6, 1, 0] rfl
      have h1 := add_step (B := D16) (a := dz na da j) (b := dz nb db j) he
      refine ih (j + 1) _ _ H locs ls (by omega) ?_ (h1.trans ?_) (fun t ht => ?_) hl hw
      · show (cy + (dz na da j + dz nb db j)) / 65536 ≤ 1
        omega
      · show _ = (cd D16 j (dz na da) + dz na da j * D16 ^ j) + (cd D16 j (dz nb db) + dz nb db j * D16 ^ j)
        rw [Nat.add_mul]; omega
      · by_cases e : t = j
        · rw [e, va_up_self]; exact Nat.mod_lt _ (by decide)
        · rw [va_up_ne _ _ e]; exact hd t ht
    have s1 : W p l e R s m args below meth c H locs cells slots Q (F0 m 101 ls [.int (nI (dz na da j)), .int (nI cy)]) := by
      -- METHOD N_less | loc 0=x 1=a 2=b 3=ob 4=ms 5=cy 6=j | ws x xl a al b bl | fld x.d=xl a.d=al b.d=bl
      refine lv_iload hx hb d_N_less_101 (lv_at hl 6 rfl) ?_
      refine lv_aload_n hx hb d_N_less_103 rfl (lv_at hl 2 rfl) ?_
      refine k_get hx hb hG lay_N hown hw 4 rfl rfl 1 (by decide) (hG _ fl_N_13) (fun _ h9 => h9) rfl d_N_less_104 ?_
      refine lv_icmp_ge (tgt := 120) hx hb d_N_less_107 (by decide) (fun hc => ?_) (fun hc => ?_)
      · have hge : nb ≤ j := (nI_leI (by omega) (by omega)).mp hc
        refine lv_iconst (v := 0) hx hb d_N_less_120 (by decide) ?_
        refine l_top (show (0 : Int32) = nI (dz nb db j) by unfold dz; rw [if_neg (by omega)]; rfl) s2
      · have hlt : ¬ nb ≤ j := fun q => hc ((nI_leI (by omega) (by omega)).mpr q)
        refine lv_aload_n hx hb d_N_less_110 rfl (lv_at hl 2 rfl) ?_
        refine k_get hx hb hG lay_N hown hw 4 rfl rfl 0 (by decide) (hG _ fl_N_7) (fun _ h9 => h9) rfl d_N_less_111 ?_
        refine lv_iload hx hb d_N_less_114 (lv_at hl 6 rfl) ?_
        refine k_iald hx hb hw 5 0 rfl rfl (j) (rfl) (by omega) (by first | decide | omega) d_N_less_116 ?_
        refine lv_goto (tgt := 121) hx hb d_N_less_117 (by decide) ?_
        refine l_top (show nD db j = nI (dz nb db j) by unfold dz; rw [if_pos (by omega)]; rfl) s2
    -- METHOD N_less | loc 0=x 1=a 2=b 3=ob 4=ms 5=cy 6=j | ws x xl a al b bl | fld x.d=xl a.d=al b.d=bl
    refine lv_iload hx hb d_N_less_72 (lv_at hl 6 rfl) ?_
    refine lv_iload hx hb d_N_less_74 (lv_at hl 4 rfl) ?_
    refine lv_icmp_ge (tgt := 150) hx hb d_N_less_76 (by decide) (fun hc => ?_) (fun hc => ?_)
    · exact absurd hc (nI_ge (by omega) (by omega))
    refine lv_iload hx hb d_N_less_79 (lv_at hl 5 rfl) ?_
    refine lv_iload hx hb d_N_less_81 (lv_at hl 6 rfl) ?_
    refine lv_aload_n hx hb d_N_less_83 rfl (lv_at hl 1 rfl) ?_
    refine k_get hx hb hG lay_N hown hw 2 rfl rfl 1 (by decide) (hG _ fl_N_13) (fun _ h9 => h9) rfl d_N_less_84 ?_
    refine lv_icmp_ge (tgt := 100) hx hb d_N_less_87 (by decide) (fun hc => ?_) (fun hc => ?_)
    · have hge : na ≤ j := (nI_leI (by omega) (by omega)).mp hc
      refine lv_iconst (v := 0) hx hb d_N_less_100 (by decide) ?_
      refine l_top (show (0 : Int32) = nI (dz na da j) by unfold dz; rw [if_neg (by omega)]; rfl) s1
    · have hlt : ¬ na ≤ j := fun q => hc ((nI_leI (by omega) (by omega)).mpr q)
      refine lv_aload_n hx hb d_N_less_90 rfl (lv_at hl 1 rfl) ?_
      refine k_get hx hb hG lay_N hown hw 2 rfl rfl 0 (by decide) (hG _ fl_N_7) (fun _ h9 => h9) rfl d_N_less_91 ?_
      refine lv_iload hx hb d_N_less_94 (lv_at hl 6 rfl) ?_
      refine k_iald hx hb hw 3 0 rfl rfl (j) (rfl) (by omega) (by first | decide | omega) d_N_less_96 ?_
      refine lv_goto (tgt := 101) hx hb d_N_less_97 (by decide) ?_
      refine l_top (show nD da j = nI (dz na da j) by unfold dz; rw [if_pos (by omega)]; rfl) s1
variable {u ul nu w wl nw : Nat} {mu mw : Bool} {du dw : Nat → Nat}
set_option maxRecDepth 100000 in
set_option maxHeartbeats 4000000 in
theorem w_less2 (S : CallFix p m c c_N_less 10 s args G R_N) {ob gr : Bool} (hnu : nu ≤ 160) (hnw : nw ≤ 160) (hdu : ∀ i, i < 160 → du i < D16) (hdw : ∀ i, i < 160 → dw i < D16)
    (kx : ∀ (bo : Nat) (d : Nat → Nat) (H : Heap) (locs : List Loc) (ls : Array Slot), bo ≤ 1 → (cd D16 nu d : Int) - bo * (D16 : Int) ^ nu = (cd D16 nu du : Int) - cd D16 nu (dz nw dw) → (∀ i, i < 160 → d i < D16) → lv_has ls 10 [(0, .ref x), (1, .ref a), (2, .ref b), (3, .int (bI ob)), (4, .int (bI gr)), (5, .ref u), (6, .ref w), (7, .int (nI bo)), (8, .int (nI nu))] → kw D cls (tyl k) L s H0 f0 [(x, cN xl n mi), (xl, cE k d), (u, cN ul nu mu), (ul, cE k du), (w, cN wl nw mw), (wl, cE k dw)] H locs → W p l e R s m args below meth c H locs cells slots Q (F0 m 315 ls [])) :
    ∀ (i j bo : Nat) (d : Nat → Nat) (H : Heap) (locs : List Loc) (ls : Array Slot), j + i = nu → bo ≤ 1 → (cd D16 j d : Int) - bo * (D16 : Int) ^ j = (cd D16 j du : Int) - cd D16 j (dz nw dw) → (∀ i, i < 160 → d i < D16) → lv_has ls 10 [(0, .ref x), (1, .ref a), (2, .ref b), (3, .int (bI ob)), (4, .int (bI gr)), (5, .ref u), (6, .ref w), (7, .int (nI bo)), (8, .int (nI j))] → kw D cls (tyl k) L s H0 f0 [(x, cN xl n mi), (xl, cE k d), (u, cN ul nu mu), (ul, cE k du), (w, cN wl nw mw), (wl, cE k dw)] H locs →
    W p l e R s m args below meth c H locs cells slots Q (F0 m 236 ls []) := by
  have hx := S.1
  have hb := S.2.1
  have hown : s.vm.findClass R_N = some m.cls := S.2.2.2.1
  have hG := S.2.2.2.2
  intro i
  induction i with
  | zero =>
    intro j bo d H locs ls hj hbo he hd hl hw
    have hj : j = nu := by omega
    subst hj
    -- METHOD N_less | loc 0=x 1=a 2=b 3=ob 4=gr 5=u 6=w 7=bo 8=j | ws x xl u ul w wl | fld x.d=xl u.d=ul w.d=wl
    refine lv_iload hx hb d_N_less_236 (lv_at hl 8 rfl) ?_
    refine lv_aload hx hb d_N_less_238 (lv_at hl 5 rfl) ?_
    refine k_get hx hb hG lay_N hown hw 2 rfl rfl 1 (by decide) (hG _ fl_N_13) (fun _ h9 => h9) rfl d_N_less_240 ?_
    refine lv_icmp_ge (tgt := 315) hx hb d_N_less_243 (by decide) (fun hc => ?_) (fun hc => ?_)
    · exact kx bo d H locs ls hbo he hd hl hw
    · exact absurd (nI_le (by omega) (by omega)) hc
  | succ i ih =>
    intro j bo d H locs ls hj hbo he hd hl hw
    have hzw := dz_lt (n := nw) (d := dw) (fun i hi => hdw i (by omega)) j
    have hzw' : dz nw dw j < 65536 := hzw
    have hzu' : du j < 65536 := hdu j (by omega)
    have s2 : W p l e R s m args below meth c H locs cells slots Q (F0 m 276 ls [.int (nI (dz nw dw j)), .int (nI (du j))]) := by
      -- METHOD N_less | loc 0=x 1=a 2=b 3=ob 4=gr 5=u 6=w 7=bo 8=j | ws x xl u ul w wl | fld x.d=xl u.d=ul w.d=wl
      refine lv_isub hx hb d_N_less_276 ?_
      refine l_top (show nI (du j) - nI (dz nw dw j) = zI ((du j : Int) - dz nw dw j) from zI_sub (du j : Int) (dz nw dw j : Int)) ?_
      refine lv_iload hx hb d_N_less_277 (lv_at hl 7 rfl) ?_
      refine lv_isub hx hb d_N_less_279 ?_
      refine l_top (show zI ((du j : Int) - dz nw dw j) - nI bo = zI ((du j : Int) - dz nw dw j - bo) from zI_sub ((du j : Int) - dz nw dw j) (bo : Int)) ?_
      have rv : rI ((du j : Int) - dz nw dw j - bo) := ⟨by omega, by omega⟩
      have fin : ∀ (bo' : Nat) (ls : Array Slot), bo' ≤ 1 → 0 ≤ (du j : Int) - dz nw dw j - bo + 65536 * bo' → (du j : Int) - dz nw dw j - bo + 65536 * bo' < 65536 → lv_has ls 10 [(9, .int (zI ((du j : Int) - dz nw dw j - bo))), (0, .ref x), (1, .ref a), (2, .ref b), (3, .int (bI ob)), (4, .int (bI gr)), (5, .ref u), (6, .ref w), (7, .int (nI bo)), (8, .int (nI j))] → W p l e R s m args below meth c H locs cells slots Q (F0 m 292 ls [.int (nI bo')]) := by
        intro bo' ls hb1 h1 h2 hl
        obtain ⟨v, hv⟩ : ∃ v : Nat, (v : Int) = (du j : Int) - dz nw dw j - bo + 65536 * bo' := ⟨((du j : Int) - dz nw dw j - bo + 65536 * bo').toNat, by omega⟩
        -- METHOD N_less | loc 9=v 0=x 1=a 2=b 3=ob 4=gr 5=u 6=w 7=bo 8=j | ws x xl u ul w wl | fld x.d=xl u.d=ul w.d=wl
        refine lv_istore hx hb d_N_less_292 hl (by decide) rfl (fun ls hl => ?_)
        refine lv_aload_n hx hb d_N_less_294 rfl (lv_at hl 2 rfl) ?_
        refine k_get hx hb hG lay_N hown hw 0 rfl rfl 0 (by decide) (hG _ fl_N_7) (fun _ h9 => h9) rfl d_N_less_295 ?_
        refine lv_iload hx hb d_N_less_298 (lv_at hl 9 rfl) ?_
        refine lv_iload hx hb d_N_less_300 (lv_at hl 1 rfl) ?_
        refine lv_ldc hx hb hown (hG _ ct_N_26) d_N_less_302 ?_
        refine lv_iload hx hb d_N_less_304 (lv_at hl 0 rfl) ?_
        refine lv_imul hx hb d_N_less_306 ?_
        refine lv_iadd hx hb d_N_less_307 ?_
        refine l_top (show zI ((du j : Int) - dz nw dw j - bo) + 65536 * nI bo' = nI v from ?_) ?_
        · rw [show (65536 : Int32) * nI bo' = zI (65536 * (bo' : Int)) from zI_mul 65536 (bo' : Int), zI_add, ← hv]; rfl
        refine k_iast hx hb hw 1 0 rfl rfl (j) (rfl) (by omega) (by first | decide | omega) d_N_less_308 (fun H locs hw => ?_)
        rw [nD_upd] at hw
        refine lv_iinc (k := 9) hx hb d_N_less_309 hl rfl (ii1 j) (by decide) rfl (fun ls hl => ?_)
        refine lv_goto (tgt := 236) hx hb d_N_less_312 (by decide) ?_
        have hl := lv_sub hl [3, 4, 5, 6, 7, 8, 9, 1, 0] rfl
        have h3 := sub_st16 (a := du j) (b := dz nw dw j) (bo' := bo') he hv
        refine ih (j + 1) bo' _ H locs ls (by omega) hb1 (h3.trans ?_) (fun t ht => ?_) hl hw
        · have e1 : (cd D16 (j + 1) du : Int) = (cd D16 j du : Int) + (du j : Int) * (D16 : Int) ^ j := by
            show ((cd D16 j du + du j * D16 ^ j : Nat) : Int) = _
            rw [Int.natCast_add, Int.natCast_mul, Int.natCast_pow]
          have e2 : (cd D16 (j + 1) (dz nw dw) : Int) = (cd D16 j (dz nw dw) : Int) + (dz nw dw j : Int) * (D16 : Int) ^ j := by
            show ((cd D16 j (dz nw dw) + dz nw dw j * D16 ^ j : Nat) : Int) = _
            rw [Int.natCast_add, Int.natCast_mul, Int.natCast_pow]
          rw [e1, e2, Int.sub_mul]; omega
        · by_cases e : t = j
          · rw [e, va_up_self]; unfold D16; omega
          · rw [va_up_ne _ _ e]; exact hd t ht
      refine lv_istore hx hb d_N_less_280 hl (by decide) rfl (fun ls hl => ?_)
      refine lv_iload hx hb d_N_less_282 (lv_at hl 0 rfl) ?_
      refine lv_if_ge (tgt := 291) hx hb d_N_less_284 (by decide) (fun hc => ?_) (fun hc => ?_)
      · have h0 : 0 ≤ (du j : Int) - dz nw dw j - bo := (zI_le (a := 0) ⟨by decide, by decide⟩ rv).mp hc
        refine lv_iconst (v := 0) hx hb d_N_less_291 (by decide) ?_
        exact fin 0 ls (by omega) (by omega) (by omega) hl
      · have h0 : ¬ 0 ≤ (du j : Int) - dz nw dw j - bo := fun q => hc ((zI_le (a := 0) ⟨by decide, by decide⟩ rv).mpr q)
        refine lv_iconst (v := 1) hx hb d_N_less_287 (by decide) ?_
        refine lv_goto (tgt := 292) hx hb d_N_less_288 (by decide) ?_
        exact fin 1 ls (by omega) (by omega) (by omega) hl
    -- METHOD N_less | loc 0=x 1=a 2=b 3=ob 4=gr 5=u 6=w 7=bo 8=j | ws x xl u ul w wl | fld x.d=xl u.d=ul w.d=wl
    refine lv_iload hx hb d_N_less_236 (lv_at hl 8 rfl) ?_
    refine lv_aload hx hb d_N_less_238 (lv_at hl 5 rfl) ?_
    refine k_get hx hb hG lay_N hown hw 2 rfl rfl 1 (by decide) (hG _ fl_N_13) (fun _ h9 => h9) rfl d_N_less_240 ?_
    refine lv_icmp_ge (tgt := 315) hx hb d_N_less_243 (by decide) (fun hc => ?_) (fun hc => ?_)
    · exact absurd hc (nI_ge (by omega) (by omega))
    refine lv_aload hx hb d_N_less_246 (lv_at hl 5 rfl) ?_
    refine k_get hx hb hG lay_N hown hw 2 rfl rfl 0 (by decide) (hG _ fl_N_7) (fun _ h9 => h9) rfl d_N_less_248 ?_
    refine lv_iload hx hb d_N_less_251 (lv_at hl 8 rfl) ?_
    refine k_iald hx hb hw 3 0 rfl rfl (j) (rfl) (by omega) (by first | decide | omega) d_N_less_253 ?_
    refine lv_iload hx hb d_N_less_254 (lv_at hl 8 rfl) ?_
    refine lv_aload hx hb d_N_less_256 (lv_at hl 6 rfl) ?_
    refine k_get hx hb hG lay_N hown hw 4 rfl rfl 1 (by decide) (hG _ fl_N_13) (fun _ h9 => h9) rfl d_N_less_258 ?_
    refine lv_icmp_ge (tgt := 275) hx hb d_N_less_261 (by decide) (fun hc => ?_) (fun hc => ?_)
    · have hge : nw ≤ j := (nI_leI (by omega) (by omega)).mp hc
      refine lv_iconst (v := 0) hx hb d_N_less_275 (by decide) ?_
      refine l_top (show (0 : Int32) = nI (dz nw dw j) by unfold dz; rw [if_neg (by omega)]; rfl) s2
    · have hlt : ¬ nw ≤ j := fun q => hc ((nI_leI (by omega) (by omega)).mpr q)
      refine lv_aload hx hb d_N_less_264 (lv_at hl 6 rfl) ?_
      refine k_get hx hb hG lay_N hown hw 4 rfl rfl 0 (by decide) (hG _ fl_N_7) (fun _ h9 => h9) rfl d_N_less_266 ?_
      refine lv_iload hx hb d_N_less_269 (lv_at hl 8 rfl) ?_
      refine k_iald hx hb hw 5 0 rfl rfl (j) (rfl) (by omega) (by first | decide | omega) d_N_less_271 ?_
      refine lv_goto (tgt := 276) hx hb d_N_less_272 (by decide) ?_
      refine l_top (show nD dw j = nI (dz nw dw j) by unfold dz; rw [if_pos (by omega)]; rfl) s2
end NLESS
theorem kn_tr {L : List Nat} {f f1 f2 : Nat → va_E} {ws ws' : va_W} (h : kn L f f1 ws) (h' : kn L f1 f2 ws') (e : ws.map (fun q => q.1) = ws'.map (fun q => q.1)) : kn L f f2 ws' := by
  refine ⟨h'.1, h'.2.1, fun q hq => ?_⟩
  rw [h'.2.2 q hq]
  refine h.2.2 q (fun k e1 hk => ?_)
  have h1 : (ws'.map (fun q => q.1))[k]? = some q := by rw [← e, List.getElem?_map, hk]; rfl
  rw [List.getElem?_map] at h1
  cases h2 : ws'[k]? with
  | none => rw [h2] at h1; cases h1
  | some y =>
    rw [h2] at h1
    have h3 : y.1 = q := Option.some.inj h1
    exact hq k y.2 (by rw [h2, ← h3])
theorem kn_now {L : List Nat} {f f1 : Nat → va_E} {ws : va_W} (h : kn L f f1 ws) : kn L f1 f1 ws := ⟨h.1, h.2.1, fun _ _ => rfl⟩
set_option maxRecDepth 100000 in
set_option maxHeartbeats 4000000 in
theorem m_N_less (l : Launch) (D : va_G) (k : Nat → ClassId) (L : List Nat) (f : Nat → va_E) (x xl n a al na b bl nb : Nat) (mi ma mb : Bool) (d da db : Nat → Nat) (v w : Int) (hv : nr na ma da v) (hw2 : nr nb mb db w) (hna : na ≤ 159) (hnb : nb ≤ 159) (hd : ∀ i, i < 160 → d i < D16) (hk : kn L f f [(x, cN xl n mi), (xl, cE k d), (a, cN al na ma), (al, cE k da), (b, cN bl nb mb), (bl, cE k db)]) : Mv l y_N_less (Cond.code y_N_less c_N_less 10 none :: G) (rmN 1) D cls (tyl k) L f [.ref x, .ref a, .ref b] (fun f' => ∃ n' mi' d', nr n' mi' d' (v - w) ∧ kn L f f' [(x, cN xl n' mi'), (xl, cE k d')]) := by
  have hav := nr_abs hv
  have haw := nr_abs hw2
  have hmv := nr_mi hv
  have hmw := nr_mi hw2
  refine mk_met (by decide) (Nat.le_of_ble_eq_true rfl) (fun p e s m below meth c ls S hr hlocks hw hl => ?_)
  have hx := S.1
  have hb := S.2.1
  have hown : s.vm.findClass R_N = some m.cls := S.2.2.2.1
  have hG := S.2.2.2.2
  have hl : lv_has ls 10 [(0, .ref x), (1, .ref a), (2, .ref b)] := hl
  have hg := hw
  have hw : kw D cls (tyl k) L s s.heap f [(x, cN xl n mi), (xl, cE k d), (a, cN al na ma), (al, cE k da), (b, cN bl nb mb), (bl, cE k db)] s.heap [] := ⟨f, hw, hk⟩
  -- trim, and the end
  have fin : ∀ (f1 : Nat → va_E) (n1 : Nat) (m1 : Bool) (d1 : Nat → Nat) (H : Heap) (locs : List Loc) (ls : Array Slot) (pc0 : Nat), n1 ≤ 160 → (∀ i, i < 160 → d1 i < D16) → v - w = (if m1 then -(cd D16 n1 d1 : Int) else (cd D16 n1 d1 : Int)) → kn L f f1 [(x, cN xl n1 m1), (xl, cE k d1)] → gw D cls (tyl k) L s s.heap f1 H locs → lv_has ls 10 [(0, .ref x)] → (pc0 = 186 ∨ pc0 = 341) → W p l e (rmN 1) s m ([.ref x, .ref a, .ref b] : List Value).toArray below meth c H locs 0 0 (MQ below (va_Qv (fun f' => ∃ n' mi' d', nr n' mi' d' (v - w) ∧ kn L f f' [(x, cN xl n' mi'), (xl, cE k d')]) (mst D cls (tyl k) L) (fun q => q ∈ L)) ([.ref x, .ref a, .ref b] : List Value).toArray s 0 0 (fun q => q ∈ L)) (F0 m pc0 ls []) := by
    intro f1 n1 m1 d1 H locs ls pc0 hn1 hd1 hv1 hk1 hg hl hpc
    have hkk := kn_now hk1
    rcases hpc with rfl | rfl
    · -- METHOD N_less | loc 0=x | ws x xl
      have hw := hg
      refine lv_aload_n hx hb d_N_less_186 rfl (lv_at hl 0 rfl) ?_
      refine g_ov (c_V (np := 0) S (m_N_trim l D k L f1 x xl n1 m1 d1 (v - w) hn1 hd1 hv1 hkk) hw ((hkk.1 0 _ rfl).1) ((hkk.1 0 _ rfl).2) rfl ml_N_27 im_N_trim se_N_N_trim in_N co_N_trim (by decide +kernel) rfl ⟨rfl, rfl, by decide, by decide⟩ hl.1 rfl (by simp [Value.category]) d_N_less_187 ⟨Nat.zero_le _, Nat.zero_le _⟩) hw (fun f2 H locs hp hg => ?_)
      obtain ⟨n', mi', -, h1, h2⟩ := hp
      exact g_retv hx hb hr hlocks hg ⟨n', mi', d1, h1, kn_tr hk1 h2 rfl⟩ d_N_less_190
    · -- METHOD N_less | loc 0=x | ws x xl
      have hw := hg
      refine lv_aload_n hx hb d_N_less_341 rfl (lv_at hl 0 rfl) ?_
      refine g_ov (c_V (np := 0) S (m_N_trim l D k L f1 x xl n1 m1 d1 (v - w) hn1 hd1 hv1 hkk) hw ((hkk.1 0 _ rfl).1) ((hkk.1 0 _ rfl).2) rfl ml_N_27 im_N_trim se_N_N_trim in_N co_N_trim (by decide +kernel) rfl ⟨rfl, rfl, by decide, by decide⟩ hl.1 rfl (by simp [Value.category]) d_N_less_342 ⟨Nat.zero_le _, Nat.zero_le _⟩) hw (fun f2 H locs hp hg => ?_)
      obtain ⟨n', mi', -, h1, h2⟩ := hp
      exact g_retv hx hb hr hlocks hg ⟨n', mi', d1, h1, kn_tr hk1 h2 rfl⟩ d_N_less_345
  have s42 : ∀ (ob : Bool) (H : Heap) (locs : List Loc) (ls : Array Slot), (ob = true ↔ 0 < w) → (v = 0 ∨ w = 0 ∨ ma = ob) → lv_has ls 10 [(3, .int (bI ob)), (0, .ref x), (1, .ref a), (2, .ref b)] → kw D cls (tyl k) L s s.heap f [(x, cN xl n mi), (xl, cE k d), (a, cN al na ma), (al, cE k da), (b, cN bl nb mb), (bl, cE k db)] H locs → W p l e (rmN 1) s m ([.ref x, .ref a, .ref b] : List Value).toArray below meth c H locs 0 0 (MQ below (va_Qv (fun f' => ∃ n' mi' d', nr n' mi' d' (v - w) ∧ kn L f f' [(x, cN xl n' mi'), (xl, cE k d')]) (mst D cls (tyl k) L) (fun q => q ∈ L)) ([.ref x, .ref a, .ref b] : List Value).toArray s 0 0 (fun q => q ∈ L)) (F0 m 42 ls []) := by
    intro ob H locs ls hob hadd hl hw
    have s64 : ∀ (ms : Nat) (ls : Array Slot), na ≤ ms → nb ≤ ms → ms ≤ 159 → lv_has ls 10 [(3, .int (bI ob)), (0, .ref x), (1, .ref a), (2, .ref b)] → W p l e (rmN 1) s m ([.ref x, .ref a, .ref b] : List Value).toArray below meth c H locs 0 0 (MQ below (va_Qv (fun f' => ∃ n' mi' d', nr n' mi' d' (v - w) ∧ kn L f f' [(x, cN xl n' mi'), (xl, cE k d')]) (mst D cls (tyl k) L) (fun q => q ∈ L)) ([.ref x, .ref a, .ref b] : List Value).toArray s 0 0 (fun q => q ∈ L)) (F0 m 64 ls [.int (nI ms)]) := by
      intro ms ls h1 h2 h3 hl
      -- METHOD N_less | loc 3=ob 0=x 1=a 2=b | ws x xl a al b bl | fld x.d=xl a.d=al b.d=bl
      refine lv_istore hx hb d_N_less_64 hl (by decide) rfl (fun ls hl => ?_)
      refine lv_iconst (v := 0) hx hb d_N_less_66 (by decide) ?_
      refine lv_istore hx hb d_N_less_67 hl (by decide) rfl (fun ls hl => ?_)
      refine lv_iconst (v := 0) hx hb d_N_less_69 (by decide) ?_
      refine lv_istore hx hb d_N_less_70 hl (by decide) rfl (fun ls hl => ?_)
      have hl := lv_sub hl [4, 5, 6, 3, 2, 1, 0] rfl
      refine w_less1 S h3 (by omega) (by omega) hv.2.1 hw2.2.1 (fun cy d1 H locs ls hcy he hd1 hl hw => ?_) ms 0 0 d H locs ls (by omega) (by omega) (by show 0 + 0 * _ = 0 + 0; omega) hd hl hw
      rw [cd_dz h1, cd_dz h2] at he
      refine lv_aload_n hx hb d_N_less_150 rfl (lv_at hl 0 rfl) ?_
      refine k_get hx hb hG lay_N hown hw 0 rfl rfl 0 (by decide) (hG _ fl_N_7) (fun _ h9 => h9) rfl d_N_less_151 ?_
      refine lv_iload hx hb d_N_less_154 (lv_at hl 4 rfl) ?_
      refine lv_iload hx hb d_N_less_156 (lv_at hl 5 rfl) ?_
      refine k_iast hx hb hw 1 0 rfl rfl (ms) (rfl) (by omega) (by first | decide | omega) d_N_less_158 (fun H locs hw => ?_)
      rw [nD_upd] at hw
      refine lv_aload_n hx hb d_N_less_159 rfl (lv_at hl 0 rfl) ?_
      refine lv_iload hx hb d_N_less_160 (lv_at hl 4 rfl) ?_
      refine lv_iconst (v := 1) hx hb d_N_less_162 (by decide) ?_
      refine lv_iadd hx hb d_N_less_163 ?_
      refine l_top (show nI ms + 1 = nI (ms + 1) from nI_add ms 1) ?_
      refine k_put (ty := .int) hx hb hG lay_N ft_N ft_N_ok fn_N hown hw 0 rfl rfl 1 (by decide) (hG _ fl_N_13) (fun _ h9 => h9) rfl (by decide +kernel) rfl rfl (by simp) d_N_less_164 (fun H locs hw => ?_)
      have hd2 : ∀ i, i < 160 → va_up d1 ms cy i < D16 := fun i hi => by
        by_cases e : i = ms
        · rw [e, va_up_self]; unfold D16; omega
        · rw [va_up_ne _ _ e]; exact hd1 i hi
      have hsum : cd D16 (ms + 1) (va_up d1 ms cy) = v.natAbs + w.natAbs := by rw [cd_put, hav, haw]; exact he
      refine lv_aload_n hx hb d_N_less_167 rfl (lv_at hl 0 rfl) ?_
      refine lv_aload_n hx hb d_N_less_168 rfl (lv_at hl 1 rfl) ?_
      refine k_get hx hb hG lay_N hown hw 2 rfl rfl 1 (by decide) (hG _ fl_N_13) (fun _ h9 => h9) rfl d_N_less_169 ?_
      refine lv_if_ne (tgt := 179) hx hb d_N_less_172 (by decide) (fun hc => ?_) (fun hc => ?_)
      · have hn0 : na ≠ 0 := fun q => hc (by rw [q]; rfl)
        have hv0 : v ≠ 0 := fun q => hn0 ((nr_z hv).mpr q)
        refine lv_aload_n hx hb d_N_less_179 rfl (lv_at hl 1 rfl) ?_
        refine k_get hx hb hG lay_N hown hw 2 rfl rfl 2 (by decide) (hG _ fl_N_17) (fun _ h9 => h9) rfl d_N_less_180 ?_
        refine k_put (ty := .boolean) hx hb hG lay_N ft_N ft_N_ok fn_N hown hw 0 rfl rfl 2 (by decide) (hG _ fl_N_17) (fun _ h9 => h9) rfl (by decide +kernel) (bI_narrow ma) (bI_fits ma) (by simp) d_N_less_183 (fun H locs hw => ?_)
        obtain ⟨f1, hg, hk1⟩ := hw
        refine fin f1 (ms + 1) ma _ H locs ls 186 (by omega) hd2 ?_ (kn_two hk hk1) hg (lv_sub hl [0] rfl) (Or.inl rfl)
        rw [hsum]
        cases ma with
        | true =>
          have h9 := hmv.mp rfl
          rw [if_pos rfl]
          rcases hadd with q | q | q
          · exact absurd q hv0
          · omega
          · have := hob.mp q.symm; omega
        | false =>
          rw [if_neg (by decide)]
          have h9 : ¬ v < 0 := fun q => by have := hmv.mpr q; cases this
          rcases hadd with q | q | q
          · exact absurd q hv0
          · omega
          · have : ¬ 0 < w := fun z => by have := hob.mpr z; rw [← q] at this; cases this
            omega
      · have hn0 : na = 0 := Classical.byContradiction fun q => nI_ne0 (by omega) (by omega) hc
        have hv0 : v = 0 := (nr_z hv).mp hn0
        refine lv_iload_n hx hb d_N_less_175 rfl (lv_at hl 3 rfl) ?_
        refine lv_goto (tgt := 183) hx hb d_N_less_176 (by decide) ?_
        refine k_put (ty := .boolean) hx hb hG lay_N ft_N ft_N_ok fn_N hown hw 0 rfl rfl 2 (by decide) (hG _ fl_N_17) (fun _ h9 => h9) rfl (by decide +kernel) (bI_narrow ob) (bI_fits ob) (by simp) d_N_less_183 (fun H locs hw => ?_)
        obtain ⟨f1, hg, hk1⟩ := hw
        refine fin f1 (ms + 1) ob _ H locs ls 186 (by omega) hd2 ?_ (kn_two hk hk1) hg (lv_sub hl [0] rfl) (Or.inl rfl)
        rw [hsum]
        cases ob with
        | true => have := hob.mp rfl; rw [if_pos rfl]; omega
        | false =>
          rw [if_neg (by decide)]
          have : ¬ 0 < w := fun z => by have := hob.mpr z; cases this
          omega
    -- METHOD N_less | loc 3=ob 0=x 1=a 2=b | ws x xl a al b bl | fld x.d=xl a.d=al b.d=bl
    refine lv_aload_n hx hb d_N_less_42 rfl (lv_at hl 2 rfl) ?_
    refine k_get hx hb hG lay_N hown hw 2 rfl rfl 1 (by decide) (hG _ fl_N_13) (fun _ h9 => h9) rfl d_N_less_43 ?_
    refine lv_aload_n hx hb d_N_less_46 rfl (lv_at hl 3 rfl) ?_
    refine k_get hx hb hG lay_N hown hw 4 rfl rfl 1 (by decide) (hG _ fl_N_13) (fun _ h9 => h9) rfl d_N_less_47 ?_
    refine lv_icmp_le (tgt := 60) hx hb d_N_less_50 (by decide) (fun hc => ?_) (fun hc => ?_)
    · have hle : na ≤ nb := (nI_leI (by omega) (by omega)).mp hc
      refine lv_aload_n hx hb d_N_less_60 rfl (lv_at hl 3 rfl) ?_
      refine k_get hx hb hG lay_N hown hw 4 rfl rfl 1 (by decide) (hG _ fl_N_13) (fun _ h9 => h9) rfl d_N_less_61 ?_
      exact s64 nb ls hle (Nat.le_refl _) hnb hl
    · have hle : ¬ na ≤ nb := fun q => hc ((nI_leI (by omega) (by omega)).mpr q)
      refine lv_aload_n hx hb d_N_less_53 rfl (lv_at hl 2 rfl) ?_
      refine k_get hx hb hG lay_N hown hw 2 rfl rfl 1 (by decide) (hG _ fl_N_13) (fun _ h9 => h9) rfl d_N_less_54 ?_
      refine lv_goto (tgt := 64) hx hb d_N_less_57 (by decide) ?_
      exact s64 na ls (Nat.le_refl _) (by omega) hna hl
  have s191 : ∀ (ob : Bool) (H : Heap) (locs : List Loc) (ls : Array Slot), (ob = true ↔ 0 < w) → v ≠ 0 → w ≠ 0 → ma ≠ ob → lv_has ls 10 [(3, .int (bI ob)), (0, .ref x), (1, .ref a), (2, .ref b)] → gw D cls (tyl k) L s s.heap f H locs → W p l e (rmN 1) s m ([.ref x, .ref a, .ref b] : List Value).toArray below meth c H locs 0 0 (MQ below (va_Qv (fun f' => ∃ n' mi' d', nr n' mi' d' (v - w) ∧ kn L f f' [(x, cN xl n' mi'), (xl, cE k d')]) (mst D cls (tyl k) L) (fun q => q ∈ L)) ([.ref x, .ref a, .ref b] : List Value).toArray s 0 0 (fun q => q ∈ L)) (F0 m 191 ls []) := by
    intro ob H locs ls hob hv0 hw0 hne hl hg
    -- from the loop on: more and fewer
    have s230 : ∀ (gr : Bool) (u ul nu w1 wl nw : Nat) (mu mw : Bool) (du dw : Nat → Nat) (V W1 : Nat) (H : Heap) (locs : List Loc) (_hg : gw D cls (tyl k) L s s.heap f H locs) (ls : Array Slot), nu ≤ 160 → nw ≤ nu → (∀ i, i < 160 → du i < D16) → (∀ i, i < 160 → dw i < D16) → cd D16 nu du = V → cd D16 nw dw = W1 → W1 ≤ V → v - w = (if (if gr then ma else ob) then -((V : Int) - W1) else (V : Int) - W1) → kn L f f [(x, cN xl n mi), (xl, cE k d), (u, cN ul nu mu), (ul, cE k du), (w1, cN wl nw mw), (wl, cE k dw)] → lv_has ls 10 [(6, .ref w1), (5, .ref u), (4, .int (bI gr)), (3, .int (bI ob)), (0, .ref x), (1, .ref a), (2, .ref b)] → W p l e (rmN 1) s m ([.ref x, .ref a, .ref b] : List Value).toArray below meth c H locs 0 0 (MQ below (va_Qv (fun f' => ∃ n' mi' d', nr n' mi' d' (v - w) ∧ kn L f f' [(x, cN xl n' mi'), (xl, cE k d')]) (mst D cls (tyl k) L) (fun q => q ∈ L)) ([.ref x, .ref a, .ref b] : List Value).toArray s 0 0 (fun q => q ∈ L)) (F0 m 230 ls []) := by
      intro gr u ul nu w1 wl nw mu mw du dw V W1 H locs hg ls hnu hnw hdu hdw hV hW1 hle hval hku hl
      have hw : kw D cls (tyl k) L s s.heap f [(x, cN xl n mi), (xl, cE k d), (u, cN ul nu mu), (ul, cE k du), (w1, cN wl nw mw), (wl, cE k dw)] H locs := ⟨f, hg, hku⟩
      -- METHOD N_less | loc 6=w 5=u 4=gr 3=ob 0=x 1=a 2=b | ws x xl u ul w wl | fld x.d=xl u.d=ul w.d=wl
      refine lv_iconst (v := 0) hx hb d_N_less_230 (by decide) ?_
      refine lv_istore hx hb d_N_less_231 hl (by decide) rfl (fun ls hl => ?_)
      refine lv_iconst (v := 0) hx hb d_N_less_233 (by decide) ?_
      refine lv_istore hx hb d_N_less_234 hl (by decide) rfl (fun ls hl => ?_)
      have hl := lv_sub hl [6, 7, 8, 5, 4, 3, 2, 1, 0] rfl
      refine w_less2 S hnu (by omega) hdu hdw (fun bo d1 H locs ls hbo he hd1 hl hw => ?_) nu 0 0 d H locs ls (by omega) (by omega) (by show (0 : Int) - 0 * _ = 0 - 0; omega) hd hl hw
      rw [cd_dz hnw, hV, hW1] at he
      have hb0 : bo = 0 := by
        have h1 : cd D16 nu d1 < D16 ^ nu := cd_lt nu (fun i hi => hd1 i (by omega))
        rcases (show bo = 0 ∨ bo = 1 by omega) with q | q
        · exact q
        · rw [q] at he
          have h2 : ((D16 ^ nu : Nat) : Int) = (D16 : Int) ^ nu := Int.natCast_pow ..
          have h3 : ((1 : Nat) : Int) * (D16 : Int) ^ nu = (D16 : Int) ^ nu := Int.one_mul _
          rw [h3] at he
          omega
      rw [hb0] at he
      have he : (cd D16 nu d1 : Int) = (V : Int) - W1 := by
        have h3 : ((0 : Nat) : Int) * (D16 : Int) ^ nu = 0 := Int.zero_mul _
        rw [h3] at he
        omega
      refine lv_aload_n hx hb d_N_less_315 rfl (lv_at hl 0 rfl) ?_
      refine lv_aload hx hb d_N_less_316 (lv_at hl 5 rfl) ?_
      refine k_get hx hb hG lay_N hown hw 2 rfl rfl 1 (by decide) (hG _ fl_N_13) (fun _ h9 => h9) rfl d_N_less_318 ?_
      refine k_put (ty := .int) hx hb hG lay_N ft_N ft_N_ok fn_N hown hw 0 rfl rfl 1 (by decide) (hG _ fl_N_13) (fun _ h9 => h9) rfl (by decide +kernel) rfl rfl (by simp) d_N_less_321 (fun H locs hw => ?_)
      refine lv_aload_n hx hb d_N_less_324 rfl (lv_at hl 0 rfl) ?_
      refine lv_iload hx hb d_N_less_325 (lv_at hl 4 rfl) ?_
      refine lv_if_eq (tgt := 337) hx hb d_N_less_327 (by decide) (fun hc => ?_) (fun hc => ?_)
      · have hgr : gr = false := bI_0.mp hc
        refine lv_iload_n hx hb d_N_less_337 rfl (lv_at hl 3 rfl) ?_
        refine k_put (ty := .boolean) hx hb hG lay_N ft_N ft_N_ok fn_N hown hw 0 rfl rfl 2 (by decide) (hG _ fl_N_17) (fun _ h9 => h9) rfl (by decide +kernel) (bI_narrow ob) (bI_fits ob) (by simp) d_N_less_338 (fun H locs hw => ?_)
        obtain ⟨f1, hg, hk1⟩ := hw
        refine fin f1 nu ob d1 H locs ls 341 (by omega) hd1 ?_ (kn_two hku hk1) hg (lv_sub hl [0] rfl) (Or.inr rfl)
        rw [he, hval, hgr]; rfl
      · have hgr : gr = true := by
          cases gr with
          | true => rfl
          | false => exact absurd rfl hc
        -- the sign of a is read in f
        obtain ⟨f1, hg, hk1⟩ := hw
        have hax : x ≠ a ∧ xl ≠ a := by
          have nd := kn_nd hk
          simp only [List.map_cons, List.map_nil, List.nodup_cons, List.mem_cons, List.not_mem_nil, or_false, not_or] at nd
          exact ⟨nd.1.2.1, nd.2.1.1⟩
        have hk2 := kn_two hku hk1
        have hk3 : kn L f f1 [(x, cN xl nu mi), (xl, cE k d1), (a, cN al na ma)] := kn_add hk2 (hk.1 2 _ rfl).1 (hk.1 2 _ rfl).2 (fun i q hq => by
          have := List.mem_of_getElem? hq
          simp only [List.mem_cons, List.not_mem_nil, or_false] at this
          rcases this with rfl | rfl
          · exact hax.1
          · exact hax.2)
        have hw : kw D cls (tyl k) L s s.heap f [(x, cN xl nu mi), (xl, cE k d1), (a, cN al na ma)] H locs := ⟨f1, hg, hk3⟩
        refine lv_aload_n hx hb d_N_less_330 rfl (lv_at hl 1 rfl) ?_
        refine k_get hx hb hG lay_N hown hw 2 rfl rfl 2 (by decide) (hG _ fl_N_17) (fun _ h9 => h9) rfl d_N_less_331 ?_
        refine lv_goto (tgt := 338) hx hb d_N_less_334 (by decide) ?_
        refine k_put (ty := .boolean) hx hb hG lay_N ft_N ft_N_ok fn_N hown hw 0 rfl rfl 2 (by decide) (hG _ fl_N_17) (fun _ h9 => h9) rfl (by decide +kernel) (bI_narrow ma) (bI_fits ma) (by simp) d_N_less_338 (fun H locs hw => ?_)
        obtain ⟨f2, hg, hk4⟩ := hw
        refine fin f2 nu ma d1 H locs ls 341 (by omega) hd1 ?_ (kn_two (kn_now hk3 |> fun _ => (kn_sub hk [0, 1, 2] rfl rfl)) hk4) hg (lv_sub hl [0] rfl) (Or.inr rfl)
        rw [he, hval, hgr]; rfl
    have hw := hg
    -- METHOD N_less | loc 3=ob 0=x 1=a 2=b | ws x xl a al b bl | fld x.d=xl a.d=al b.d=bl
    refine lv_aload_n hx hb d_N_less_191 rfl (lv_at hl 2 rfl) ?_
    refine lv_aload_n hx hb d_N_less_192 rfl (lv_at hl 3 rfl) ?_
    refine g_oi (c_V (np := 1) S (m_N_compareSize l D k L f a al na b bl nb ma mb da db v w hv hw2 (kn_sub hk [2, 3, 4, 5] rfl rfl)) hw ((hk.1 2 _ rfl).1) ((hk.1 2 _ rfl).2) rfl ml_N_30 im_N_compareSize se_N_N_compareSize in_N co_N_compareSize (by decide +kernel) rfl ⟨rfl, rfl, by decide, by decide⟩ hl.1 rfl (by simp [Value.category]) d_N_less_193 ⟨Nat.zero_le _, Nat.zero_le _⟩) hw (fun r1 f1 H1 locs1 hp hg1 => ?_)
    obtain ⟨e1, er⟩ := hp
    rw [e1] at hg1
    have hg := hg1
    by_cases hlt : v.natAbs < w.natAbs
    · have hle : na ≤ nb := nr_le hv hw2 (by omega)
      refine l_top (show r1 = -1 by rw [er]; unfold ord3; rw [if_pos hlt]) ?_
      refine lv_if_lt (tgt := 203) hx hb d_N_less_196 (by decide) (fun hc => ?_) (fun hc => ?_)
      rotate_left
      · exact absurd (by decide) hc
      refine lv_iconst (v := 0) hx hb d_N_less_203 (by decide) ?_
      refine lv_istore hx hb d_N_less_204 hl (by decide) rfl (fun ls hl => ?_)
      refine lv_iload hx hb d_N_less_206 (lv_at hl 0 rfl) ?_
      refine lv_if_eq (tgt := 215) hx hb d_N_less_208 (by decide) (fun hc => ?_) (fun hc => ?_)
      rotate_left
      · exact absurd rfl hc
      refine lv_aload_n hx hb d_N_less_215 rfl (lv_at hl 4 rfl) ?_
      refine lv_astore hx hb d_N_less_216 hl (by decide) rfl (fun ls hl => ?_)
      refine lv_iload hx hb d_N_less_218 (lv_at hl 1 rfl) ?_
      refine lv_if_eq (tgt := 227) hx hb d_N_less_220 (by decide) (fun hc => ?_) (fun hc => ?_)
      rotate_left
      · exact absurd rfl hc
      refine lv_aload_n hx hb d_N_less_227 rfl (lv_at hl 4 rfl) ?_
      refine lv_astore hx hb d_N_less_228 hl (by decide) rfl (fun ls hl => ?_)
      have hl := lv_sub hl [0, 1, 2, 3, 4, 5, 6] rfl
      refine s230 false b bl nb a al na mb ma db da w.natAbs v.natAbs H1 locs1 hg ls (by omega) hle hw2.2.1 hv.2.1 haw.symm hav.symm (by omega) ?_ (kn_sub hk [0, 1, 4, 5, 2, 3] rfl rfl) hl
      show v - w = if ob then _ else _
      cases ob with
      | true =>
        have h1 := hob.mp rfl
        have h2 : ¬ v < 0 := fun q => hne (hmv.mpr q)
        rw [if_pos rfl]; omega
      | false =>
        have h1 : ¬ 0 < w := fun q => by have := hob.mpr q; cases this
        have h2 : v < 0 := hmv.mp (by cases ma with | true => rfl | false => exact absurd rfl hne)
        rw [if_neg (by decide)]; omega
    · have hle : nb ≤ na := nr_le hw2 hv (by omega)
      have hr1 : ¬ r1 < 0 := by
        rw [er]; unfold ord3; rw [if_neg hlt]
        split <;> decide
      refine lv_if_lt (tgt := 203) hx hb d_N_less_196 (by decide) (fun hc => ?_) (fun hc => ?_)
      · exact absurd hc hr1
      refine lv_iconst (v := 1) hx hb d_N_less_199 (by decide) ?_
      refine lv_goto (tgt := 204) hx hb d_N_less_200 (by decide) ?_
      refine lv_istore hx hb d_N_less_204 hl (by decide) rfl (fun ls hl => ?_)
      refine lv_iload hx hb d_N_less_206 (lv_at hl 0 rfl) ?_
      refine lv_if_eq (tgt := 215) hx hb d_N_less_208 (by decide) (fun hc => ?_) (fun hc => ?_)
      · exact absurd hc (by decide)
      refine lv_aload_n hx hb d_N_less_211 rfl (lv_at hl 3 rfl) ?_
      refine lv_goto (tgt := 216) hx hb d_N_less_212 (by decide) ?_
      refine lv_astore hx hb d_N_less_216 hl (by decide) rfl (fun ls hl => ?_)
      refine lv_iload hx hb d_N_less_218 (lv_at hl 1 rfl) ?_
      refine lv_if_eq (tgt := 227) hx hb d_N_less_220 (by decide) (fun hc => ?_) (fun hc => ?_)
      · exact absurd hc (by decide)
      refine lv_aload_n hx hb d_N_less_223 rfl (lv_at hl 5 rfl) ?_
      refine lv_goto (tgt := 228) hx hb d_N_less_224 (by decide) ?_
      refine lv_astore hx hb d_N_less_228 hl (by decide) rfl (fun ls hl => ?_)
      have hl := lv_sub hl [0, 1, 2, 3, 4, 5, 6] rfl
      refine s230 true a al na b bl nb ma mb da db v.natAbs w.natAbs H1 locs1 hg ls (by omega) hle hv.2.1 hw2.2.1 hav.symm haw.symm (by omega) ?_ hk hl
      show v - w = if ma then _ else _
      cases ma with
      | true =>
        have h1 := hmv.mp rfl
        have h2 : ¬ 0 < w := fun q => hne (hob.mpr q).symm
        rw [if_pos rfl]; omega
      | false =>
        have h1 : ¬ v < 0 := fun q => by have := hmv.mpr q; cases this
        have h2 : 0 < w := hob.mp (by cases ob with | true => rfl | false => exact absurd rfl hne)
        rw [if_neg (by decide)]; omega
  have s20 : ∀ (ob : Bool) (H : Heap) (locs : List Loc) (ls : Array Slot), (ob = true ↔ 0 < w) → lv_has ls 10 [(3, .int (bI ob)), (0, .ref x), (1, .ref a), (2, .ref b)] → gw D cls (tyl k) L s s.heap f H locs → W p l e (rmN 1) s m ([.ref x, .ref a, .ref b] : List Value).toArray below meth c H locs 0 0 (MQ below (va_Qv (fun f' => ∃ n' mi' d', nr n' mi' d' (v - w) ∧ kn L f f' [(x, cN xl n' mi'), (xl, cE k d')]) (mst D cls (tyl k) L) (fun q => q ∈ L)) ([.ref x, .ref a, .ref b] : List Value).toArray s 0 0 (fun q => q ∈ L)) (F0 m 20 ls []) := by
    intro ob H locs ls hob hl hg
    have hw : kw D cls (tyl k) L s s.heap f [(x, cN xl n mi), (xl, cE k d), (a, cN al na ma), (al, cE k da), (b, cN bl nb mb), (bl, cE k db)] H locs := ⟨f, hg, hk⟩
    -- METHOD N_less | loc 3=ob 0=x 1=a 2=b | ws x xl a al b bl | fld x.d=xl a.d=al b.d=bl
    refine lv_aload_n hx hb d_N_less_20 rfl (lv_at hl 2 rfl) ?_
    refine k_get hx hb hG lay_N hown hw 2 rfl rfl 1 (by decide) (hG _ fl_N_13) (fun _ h9 => h9) rfl d_N_less_21 ?_
    refine lv_if_eq (tgt := 42) hx hb d_N_less_24 (by decide) (fun hc => ?_) (fun hc => ?_)
    · have h0 : v = 0 := (nr_z hv).mp (Classical.byContradiction fun q => nI_ne0 (by omega) (by omega) hc)
      exact s42 ob H locs ls hob (Or.inl h0) hl hw
    have hv0 : v ≠ 0 := fun q => hc (by rw [(nr_z hv).mpr q]; rfl)
    refine lv_aload_n hx hb d_N_less_27 rfl (lv_at hl 3 rfl) ?_
    refine k_get hx hb hG lay_N hown hw 4 rfl rfl 1 (by decide) (hG _ fl_N_13) (fun _ h9 => h9) rfl d_N_less_28 ?_
    refine lv_if_eq (tgt := 42) hx hb d_N_less_31 (by decide) (fun hc => ?_) (fun hc => ?_)
    · have h0 : w = 0 := (nr_z hw2).mp (Classical.byContradiction fun q => nI_ne0 (by omega) (by omega) hc)
      exact s42 ob H locs ls hob (Or.inr (Or.inl h0)) hl hw
    have hw0 : w ≠ 0 := fun q => hc (by rw [(nr_z hw2).mpr q]; rfl)
    refine lv_aload_n hx hb d_N_less_34 rfl (lv_at hl 2 rfl) ?_
    refine k_get hx hb hG lay_N hown hw 2 rfl rfl 2 (by decide) (hG _ fl_N_17) (fun _ h9 => h9) rfl d_N_less_35 ?_
    refine lv_iload_n hx hb d_N_less_38 rfl (lv_at hl 0 rfl) ?_
    refine lv_icmp_ne (tgt := 191) hx hb d_N_less_39 (by decide) (fun hc => ?_) (fun hc => ?_)
    · exact s191 ob H locs ls hob hv0 hw0 (fun q => hc (by rw [q])) hl hg
    · exact s42 ob H locs ls hob (Or.inr (Or.inr (bI_inj.mp hc))) hl hw
  -- METHOD N_less | loc 0=x 1=a 2=b | ws x xl a al b bl | fld x.d=xl a.d=al b.d=bl
  refine lv_aload_n hx hb d_N_less_0 rfl (lv_at hl 2 rfl) ?_
  refine k_get hx hb hG lay_N hown hw 4 rfl rfl 1 (by decide) (hG _ fl_N_13) (fun _ h9 => h9) rfl d_N_less_1 ?_
  refine lv_if_le (tgt := 18) hx hb d_N_less_4 (by decide) (fun hc => ?_) (fun hc => ?_)
  · have h0 : w = 0 := (nr_z hw2).mp (by
      rcases Nat.eq_zero_or_pos nb with q | q
      · exact q
      · exact absurd hc (nI_nle (by omega) (by omega)))
    refine lv_iconst (v := 0) hx hb d_N_less_18 (by decide) ?_
    refine lv_istore_n hx hb d_N_less_19 rfl hl (by decide) rfl (fun ls hl => ?_)
    exact s20 false _ _ ls ⟨fun q => (by cases q), fun q => by omega⟩ hl hg
  have hw0 : w ≠ 0 := fun q => hc (by rw [(nr_z hw2).mpr q]; decide)
  refine lv_aload_n hx hb d_N_less_7 rfl (lv_at hl 2 rfl) ?_
  refine k_get hx hb hG lay_N hown hw 4 rfl rfl 2 (by decide) (hG _ fl_N_17) (fun _ h9 => h9) rfl d_N_less_8 ?_
  refine lv_if_ne (tgt := 18) hx hb d_N_less_11 (by decide) (fun hc => ?_) (fun hc => ?_)
  · have h0 : w < 0 := hmw.mp (by cases mb with | true => rfl | false => exact absurd rfl hc)
    refine lv_iconst (v := 0) hx hb d_N_less_18 (by decide) ?_
    refine lv_istore_n hx hb d_N_less_19 rfl hl (by decide) rfl (fun ls hl => ?_)
    exact s20 false _ _ ls ⟨fun q => (by cases q), fun q => by omega⟩ hl hg
  have h0 : ¬ w < 0 := fun q => by rw [hmw.mpr q] at hc; exact absurd hc (by decide)
  refine lv_iconst (v := 1) hx hb d_N_less_14 (by decide) ?_
  refine lv_goto (tgt := 19) hx hb d_N_less_15 (by decide) ?_
  refine lv_istore_n hx hb d_N_less_19 rfl hl (by decide) rfl (fun ls hl => ?_)
  exact s20 true _ _ ls ⟨fun _ => by omega, fun _ => rfl⟩ hl hg


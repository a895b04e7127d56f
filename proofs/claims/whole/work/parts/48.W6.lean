-- ===== Whole: topBelow =====
theorem lN_shrK {a k : Nat} (hk : k < 64) (h : a < 2 ^ 62) : lN a >>> ((nI k).toInt64 &&& 63) = lN (a / 2 ^ k) := pf_shr (by rw [wb_c k hk, wb_tb, wb_sm k hk, BitVec.toNat_ofNat]; omega) h
/-- the limb at a place below an end, 0 below the lowest -/
def lb (d : Nat → Nat) (en q : Nat) : Nat := if q ≤ en then d (en - q) else 0
theorem lb_lt {d : Nat → Nat} {en q : Nat} (hd : ∀ i, i < 12 → d i < B30) (he : en ≤ 12) (hq : 0 < q) : lb d en q < B30 := by
  unfold lb
  by_cases h : q ≤ en
  · rw [if_pos h]; exact hd _ (by omega)
  · rw [if_neg h]; decide
def tb (d : Nat → Nat) (en sh : Nat) : Nat := (lb d en 1 * B30 + lb d en 2) * 2 ^ sh + lb d en 3 / 2 ^ (30 - sh)
set_option maxRecDepth 100000 in
set_option maxHeartbeats 4000000 in
theorem m_W_topBelow (l : Launch) (D : va_G) (k : Nat → ClassId) (L : List Nat) (f : Nat → va_E) (x xl n : Nat) (g : Int32) (d : Nat → Nat) (en sh : Nat) (hd : ∀ i, i < 12 → d i < B30) (hen : en ≤ 12) (hsh : sh ≤ 29) (hh : lb d en 1 < 2 ^ (30 - sh)) (hk : kn L f f [(x, cW xl n g), (xl, cD k d)]) : Ml l y_W_topBelow (Cond.code y_W_topBelow c_W_topBelow 9 (some .long) :: G) (rmN 0) D cls (tyl k) L f [.ref x, .int (nI en), .int (nI sh)] (fun r f' => f' = f ∧ r = lN (tb d en sh)) := by
  -- METHOD W_topBelow | loc 0=x 1=en 2=sh | ws x xl | fld x.limbs=xl
  refine mk_met (by decide) (Nat.le_of_ble_eq_true rfl) (fun p e s m below meth c ls S hr hlocks hw hl => ?_)
  have hx := S.1
  have hb := S.2.1
  have hown : s.vm.findClass R_W = some m.cls := S.2.2.2.1
  have hG := S.2.2.2.2
  have hl : lv_has ls 9 [(0, .ref x), (1, .int (nI en)), (2, .int (nI sh))] := hl
  have hg := hw
  have hw : kw D cls (tyl k) L s s.heap f [(x, cW xl n g), (xl, cD k d)] s.heap [] := ⟨f, hw, hk⟩
  have hB30 : B30 = 1073741824 := rfl
  have h1 := lb_lt (q := 1) hd hen (by omega)
  have h2 := lb_lt (q := 2) hd hen (by omega)
  have h3 := lb_lt (q := 3) hd hen (by omega)
  -- the end
  have hE : ∀ ls, lv_has ls 9 [(7, .long (lN (lb d en 3))), (5, .long (lN (lb d en 2))), (3, .long (lN (lb d en 1))), (0, .ref x), (1, .int (nI en)), (2, .int (nI sh))] → W p l e (rmN 0) s m [Value.ref x, .int (nI en), .int (nI sh)].toArray below meth c s.heap [] 0 0 (MQ below (va_Ql (fun r f' => f' = f ∧ r = lN (tb d en sh)) (mst D cls (tyl k) L) (fun q => q ∈ L)) [Value.ref x, .int (nI en), .int (nI sh)].toArray s 0 0 (fun q => q ∈ L)) (F0 m 59 ls []) := by
    intro ls hl
    refine lv_lload_n hx hb d_W_topBelow_59 rfl (lv_at hl 2 rfl) ?_
    refine lv_bipush (v := 30) hx hb d_W_topBelow_60 (by decide) ?_
    refine lv_lshl hx hb d_W_topBelow_62 (show lN (lb d en 1) <<< ((30 : Int32).toInt64 &&& 63) = lN (lb d en 1 * B30) from wb_shl _ (k := 30) (by decide)) ?_
    refine lv_lload hx hb d_W_topBelow_63 (lv_at hl 1 rfl) ?_
    refine lv_lor hx hb d_W_topBelow_65 ?_
    have q0 : lb d en 1 * B30 + lb d en 2 < 2 ^ 64 := by rw [hB30] at h1 h2 ⊢; omega
    refine l_topl (gl_or (k := 30) (p := B30) (by decide) h2 q0) ?_
    have hp : (lb d en 1 * B30 + lb d en 2) * 2 ^ sh < 2 ^ 60 := by
      have q1 : lb d en 1 * B30 + lb d en 2 < 2 ^ (30 - sh) * B30 := by
        have : (lb d en 1 + 1) * B30 ≤ 2 ^ (30 - sh) * B30 := Nat.mul_le_mul_right _ hh
        rw [Nat.add_mul, Nat.one_mul] at this
        omega
      have q2 : (lb d en 1 * B30 + lb d en 2) * 2 ^ sh < 2 ^ (30 - sh) * B30 * 2 ^ sh := Nat.mul_lt_mul_of_pos_right q1 (Nat.pow_pos (by omega))
      have q3 : 2 ^ (30 - sh) * B30 * 2 ^ sh = 2 ^ 60 := by
        rw [show B30 = 2 ^ 30 from rfl, Nat.mul_right_comm, ← Nat.pow_add, show 30 - sh + sh = 30 by omega, ← Nat.pow_add]
      omega
    have hbe : lb d en 3 / 2 ^ (30 - sh) < 2 ^ sh := by
      rw [Nat.div_lt_iff_lt_mul (Nat.pow_pos (by omega)), ← Nat.pow_add, show sh + (30 - sh) = 30 by omega]
      exact h3
    refine lv_iload_n hx hb d_W_topBelow_66 rfl (lv_at hl 5 rfl) ?_
    refine lv_lshl hx hb d_W_topBelow_67 (wb_shl _ (k := sh) (by omega)) ?_
    refine lv_lload hx hb d_W_topBelow_68 (lv_at hl 0 rfl) ?_
    refine lv_bipush (v := 30) hx hb d_W_topBelow_70 (by decide) ?_
    refine lv_iload_n hx hb d_W_topBelow_72 rfl (lv_at hl 5 rfl) ?_
    refine lv_isub hx hb d_W_topBelow_73 ?_
    refine l_top (show (30 : Int32) - nI sh = nI (30 - sh) from pk_sub (a := 30) (by omega)) ?_
    refine lv_lshr hx hb d_W_topBelow_74 (lN_shrK (k := 30 - sh) (by omega) (by omega)) ?_
    refine lv_lor hx hb d_W_topBelow_75 ?_
    have q5 : 2 ^ sh ≤ 2 ^ 29 := Nat.pow_le_pow_right (by omega) hsh
    have q6 : (lb d en 1 * B30 + lb d en 2) * 2 ^ sh + lb d en 3 / 2 ^ (30 - sh) < 2 ^ 64 := by omega
    refine l_topl (gl_or (k := sh) rfl hbe q6) ?_
    exact g_retl hx hb hr hlocks hg ⟨rfl, rfl⟩ d_W_topBelow_76
  -- from the third limb
  have hC : ∀ ls, lv_has ls 9 [(5, .long (lN (lb d en 2))), (3, .long (lN (lb d en 1))), (0, .ref x), (1, .int (nI en)), (2, .int (nI sh))] → W p l e (rmN 0) s m [Value.ref x, .int (nI en), .int (nI sh)].toArray below meth c s.heap [] 0 0 (MQ below (va_Ql (fun r f' => f' = f ∧ r = lN (tb d en sh)) (mst D cls (tyl k) L) (fun q => q ∈ L)) [Value.ref x, .int (nI en), .int (nI sh)].toArray s 0 0 (fun q => q ∈ L)) (F0 m 39 ls []) := by
    intro ls hl
    refine lv_iload_n hx hb d_W_topBelow_39 rfl (lv_at hl 3 rfl) ?_
    refine lv_iconst (v := 3) hx hb d_W_topBelow_40 (by decide) ?_
    refine lv_icmp_lt (tgt := 56) hx hb d_W_topBelow_41 (by decide) (fun hc => ?_) (fun hc => ?_)
    · have hlt : en < 3 := (nI_ltI (b := 3) (by omega) (by omega)).mp hc
      have e0 : lb d en 3 = 0 := if_neg (by omega)
      refine lv_lconst (v := 0) hx hb d_W_topBelow_56 (by decide) ?_
      refine l_topl (show (0 : Int64) = lN (lb d en 3) by rw [e0]; rfl) ?_
      refine lv_lstore hx hb d_W_topBelow_57 hl (by decide) rfl (fun ls hl => ?_)
      exact hE ls hl
    · have hge : 3 ≤ en := Nat.le_of_not_lt fun h => hc ((nI_ltI (b := 3) (by omega) (by omega)).mpr h)
      have e0 : lb d en 3 = d (en - 3) := if_pos hge
      refine lv_aload_n hx hb d_W_topBelow_44 rfl (lv_at hl 2 rfl) ?_
      refine k_get hx hb hG lay_W hown hw 0 rfl rfl 0 (by decide) (hG _ fl_W_11) (fun _ h9 => h9) rfl d_W_topBelow_45 ?_
      refine lv_iload_n hx hb d_W_topBelow_48 rfl (lv_at hl 3 rfl) ?_
      refine lv_iconst (v := 3) hx hb d_W_topBelow_49 (by decide) ?_
      refine lv_isub hx hb d_W_topBelow_50 ?_
      refine k_iald hx hb hw 1 0 rfl rfl ((en - 3)) ((show nI en - 3 = nI (en - 3) from pk_sub (b := 3) hge)) (by omega) (by first | decide | omega) d_W_topBelow_51 ?_
      refine lv_i2l hx hb d_W_topBelow_52 (show (nD d (en - 3)).toInt64 = lN (lb d en 3) by rw [e0]; exact nI_l (by omega)) ?_
      refine lv_goto (tgt := 57) hx hb d_W_topBelow_53 (by decide) ?_
      refine lv_lstore hx hb d_W_topBelow_57 hl (by decide) rfl (fun ls hl => ?_)
      exact hE ls hl
  have hB : ∀ ls, lv_has ls 9 [(3, .long (lN (lb d en 1))), (0, .ref x), (1, .int (nI en)), (2, .int (nI sh))] → W p l e (rmN 0) s m [Value.ref x, .int (nI en), .int (nI sh)].toArray below meth c s.heap [] 0 0 (MQ below (va_Ql (fun r f' => f' = f ∧ r = lN (tb d en sh)) (mst D cls (tyl k) L) (fun q => q ∈ L)) [Value.ref x, .int (nI en), .int (nI sh)].toArray s 0 0 (fun q => q ∈ L)) (F0 m 19 ls []) := by
    intro ls hl
    refine lv_iload_n hx hb d_W_topBelow_19 rfl (lv_at hl 2 rfl) ?_
    refine lv_iconst (v := 2) hx hb d_W_topBelow_20 (by decide) ?_
    refine lv_icmp_lt (tgt := 36) hx hb d_W_topBelow_21 (by decide) (fun hc => ?_) (fun hc => ?_)
    · have hlt : en < 2 := (nI_ltI (b := 2) (by omega) (by omega)).mp hc
      have e0 : lb d en 2 = 0 := if_neg (by omega)
      refine lv_lconst (v := 0) hx hb d_W_topBelow_36 (by decide) ?_
      refine l_topl (show (0 : Int64) = lN (lb d en 2) by rw [e0]; rfl) ?_
      refine lv_lstore hx hb d_W_topBelow_37 hl (by decide) rfl (fun ls hl => ?_)
      exact hC ls hl
    · have hge : 2 ≤ en := Nat.le_of_not_lt fun h => hc ((nI_ltI (b := 2) (by omega) (by omega)).mpr h)
      have e0 : lb d en 2 = d (en - 2) := if_pos hge
      refine lv_aload_n hx hb d_W_topBelow_24 rfl (lv_at hl 1 rfl) ?_
      refine k_get hx hb hG lay_W hown hw 0 rfl rfl 0 (by decide) (hG _ fl_W_11) (fun _ h9 => h9) rfl d_W_topBelow_25 ?_
      refine lv_iload_n hx hb d_W_topBelow_28 rfl (lv_at hl 2 rfl) ?_
      refine lv_iconst (v := 2) hx hb d_W_topBelow_29 (by decide) ?_
      refine lv_isub hx hb d_W_topBelow_30 ?_
      refine k_iald hx hb hw 1 0 rfl rfl ((en - 2)) ((show nI en - 2 = nI (en - 2) from pk_sub (b := 2) hge)) (by omega) (by first | decide | omega) d_W_topBelow_31 ?_
      refine lv_i2l hx hb d_W_topBelow_32 (show (nD d (en - 2)).toInt64 = lN (lb d en 2) by rw [e0]; exact nI_l (by omega)) ?_
      refine lv_goto (tgt := 37) hx hb d_W_topBelow_33 (by decide) ?_
      refine lv_lstore hx hb d_W_topBelow_37 hl (by decide) rfl (fun ls hl => ?_)
      exact hC ls hl
  refine lv_iload_n hx hb d_W_topBelow_0 rfl (lv_at hl 1 rfl) ?_
  refine lv_iconst (v := 1) hx hb d_W_topBelow_1 (by decide) ?_
  refine lv_icmp_lt (tgt := 17) hx hb d_W_topBelow_2 (by decide) (fun hc => ?_) (fun hc => ?_)
  · have hlt : en < 1 := (nI_ltI (b := 1) (by omega) (by omega)).mp hc
    have e0 : lb d en 1 = 0 := if_neg (by omega)
    refine lv_lconst (v := 0) hx hb d_W_topBelow_17 (by decide) ?_
    refine l_topl (show (0 : Int64) = lN (lb d en 1) by rw [e0]; rfl) ?_
    refine lv_lstore_n hx hb d_W_topBelow_18 rfl hl (by decide) rfl (fun ls hl => ?_)
    exact hB ls hl
  · have hge : 1 ≤ en := Nat.le_of_not_lt fun h => hc ((nI_ltI (b := 1) (by omega) (by omega)).mpr h)
    have e0 : lb d en 1 = d (en - 1) := if_pos hge
    refine lv_aload_n hx hb d_W_topBelow_5 rfl (lv_at hl 0 rfl) ?_
    refine k_get hx hb hG lay_W hown hw 0 rfl rfl 0 (by decide) (hG _ fl_W_11) (fun _ h9 => h9) rfl d_W_topBelow_6 ?_
    refine lv_iload_n hx hb d_W_topBelow_9 rfl (lv_at hl 1 rfl) ?_
    refine lv_iconst (v := 1) hx hb d_W_topBelow_10 (by decide) ?_
    refine lv_isub hx hb d_W_topBelow_11 ?_
    refine k_iald hx hb hw 1 0 rfl rfl ((en - 1)) ((show nI en - 1 = nI (en - 1) from pk_sub (b := 1) hge)) (by omega) (by first | decide | omega) d_W_topBelow_12 ?_
    refine lv_i2l hx hb d_W_topBelow_13 (show (nD d (en - 1)).toInt64 = lN (lb d en 1) by rw [e0]; exact nI_l (by omega)) ?_
    refine lv_goto (tgt := 18) hx hb d_W_topBelow_14 (by decide) ?_
    refine lv_lstore_n hx hb d_W_topBelow_18 rfl hl (by decide) rfl (fun ls hl => ?_)
    exact hB ls hl
/-- what topBelow says, by division -/
theorem tb_val {d : Nat → Nat} {en sh : Nat} (hd : ∀ i, i < en → d i < B30) (h1 : 1 ≤ en) (hsh : sh ≤ 30) : tb d en sh = 2 ^ sh * (B30 * cd B30 en d) / B30 ^ (en - 1) := by
  have hBp : B30 = 2 ^ sh * 2 ^ (30 - sh) := by rw [← Nat.pow_add, show sh + (30 - sh) = 30 by omega]; rfl
  have hB0 : 0 < B30 := by decide
  obtain ⟨m, rfl⟩ : ∃ m, en = m + 1 := ⟨en - 1, by omega⟩
  rw [show m + 1 - 1 = m by omega]
  have a1 : lb d (m + 1) 1 = d m := by unfold lb; rw [if_pos (by omega)]; congr 1
  unfold tb
  rw [a1]
  rcases m with _ | m
  · have a2 : lb d (0 + 1) 2 = 0 := if_neg (by omega)
    have a3 : lb d (0 + 1) 3 = 0 := if_neg (by omega)
    have a4 : cd B30 (0 + 1) d = d 0 := by show 0 + d 0 * B30 ^ 0 = d 0; rw [Nat.pow_zero]; omega
    rw [a2, a3, a4, Nat.zero_div, Nat.pow_zero, Nat.div_one, Nat.add_zero, Nat.add_zero, Nat.mul_comm, Nat.mul_comm (d 0) B30]
  · have a2 : lb d (m + 1 + 1) 2 = d m := by unfold lb; rw [if_pos (by omega)]; congr 1
    rw [a2]
    -- 2^sh * B * V / B^(m+1) = 2^sh * V / B^m
    rw [Nat.pow_succ, Nat.mul_left_comm, Nat.mul_comm (B30 ^ m) B30, Nat.mul_div_mul_left _ _ hB0]
    have hV : cd B30 (m + 1 + 1) d = cd B30 m d + (d (m + 1) * B30 + d m) * B30 ^ m := by
      show cd B30 m d + d m * B30 ^ m + d (m + 1) * B30 ^ (m + 1) = _
      rw [Nat.add_mul, Nat.pow_succ, Nat.mul_assoc, Nat.mul_comm B30 (B30 ^ m)]
      omega
    rw [hV, Nat.mul_add, ← Nat.mul_assoc (2 ^ sh), Nat.add_mul_div_right _ _ (Nat.pow_pos hB0), Nat.mul_comm (2 ^ sh) (d (m + 1) * B30 + d m), Nat.add_comm]
    congr 1
    rcases m with _ | m
    · have a3 : lb d (0 + 1 + 1) 3 = 0 := if_neg (by omega)
      rw [a3, Nat.zero_div]
      show _ = 2 ^ sh * 0 / _
      rw [Nat.mul_zero, Nat.zero_div]
    · have a3 : lb d (m + 1 + 1 + 1) 3 = d m := by unfold lb; rw [if_pos (by omega)]; congr 1
      rw [a3]
      show _ = 2 ^ sh * (cd B30 m d + d m * B30 ^ m) / B30 ^ (m + 1)
      have hlt := cd_lt m (b := B30) (d := d) (fun i hi => hd i (by omega))
      have e1 : B30 ^ (m + 1) = 2 ^ sh * (B30 ^ m * 2 ^ (30 - sh)) := by
        rw [Nat.pow_succ]
        have h9 : B30 ^ m * B30 = B30 ^ m * (2 ^ sh * 2 ^ (30 - sh)) := congrArg (B30 ^ m * ·) hBp
        rw [h9, Nat.mul_left_comm]
      rw [e1, Nat.mul_div_mul_left _ _ (Nat.pow_pos (by omega)), ← Nat.div_div_eq_div_mul, Nat.add_mul_div_right _ _ (Nat.pow_pos hB0), Nat.div_eq_of_lt hlt, Nat.zero_add]


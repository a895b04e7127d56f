-- ===== Whole: divide =====
set_option maxRecDepth 100000 in
set_option maxHeartbeats 4000000 in
/-- divide(o, q): the remainder stays here, q becomes the quotient, both as Java rounds (o is not 0) -/
theorem m_W_divide (l : Launch) (D : va_G) (k : Nat → ClassId) (L : List Nat) (f : Nat → va_E) (x xl nx o ol no q ql nq0 : Nat) (gx go gq0 : Int32) (dx dd dq : Nat → Nat) (v w : Int) (hv : wr nx gx dx v) (hw2 : wr no go dd w) (hw0 : w ≠ 0) (hnx : nx ≤ 11) (hdq : ∀ t, t < 12 → dq t < B30) (hk : kn L f f [(x, cW xl nx gx), (xl, cD k dx), (o, cW ol no go), (ol, cD k dd), (q, cW ql nq0 gq0), (ql, cD k dq)]) : Mv l y_W_divide (Cond.code y_W_divide c_W_divide 10 none :: G) (rmN 2) D cls (tyl k) L f [.ref x, .ref o, .ref q] (fun f' => ∃ (n1 : Nat) (g1 : Int32) (r : Nat → Nat) (n2 : Nat) (g2 : Int32) (rq : Nat → Nat), wr n1 g1 r (v.tmod w) ∧ wr n2 g2 rq (v.tdiv w) ∧ kn L f f' [(x, cW xl n1 g1), (xl, cD k r), (o, cW ol no go), (ol, cD k dd), (q, cW ql n2 g2), (ql, cD k rq)]) := by
  -- METHOD W_divide | loc 0=x 1=o 2=q | ws x xl o ol q ql | fld x.limbs=xl o.limbs=ol q.limbs=ql
  refine mk_met (by decide) (Nat.le_of_ble_eq_true rfl) (fun p e s m below meth c ls S hr hlocks hw hl => ?_)
  have hx := S.1
  have hb := S.2.1
  have hown : s.vm.findClass R_W = some m.cls := S.2.2.2.1
  have hG := S.2.2.2.2
  have hl : lv_has ls 10 [(0, .ref x), (1, .ref o), (2, .ref q)] := hl
  have hg := hw
  have hdx := hv.2.1
  have hdd := hw2.2.1
  have hA := wr_abs hv
  have hB := wr_abs hw2
  have eg := wr_g hv
  have eg2 := wr_g hw2
  have hno : 1 ≤ no := by
    rcases hw2.2.2 with ⟨-, -, h⟩ | ⟨h, -⟩
    · exact absurd h hw0
    · exact h
  have hno12 := hw2.1
  have hDpos : 0 < cd B30 no dd := by omega
  have hB30 : B30 = 1073741824 := rfl
  have nd := kn_nd hk
  simp only [List.map_cons, List.map_nil, List.nodup_cons, List.mem_cons, List.not_mem_nil, or_false, not_or] at nd
  obtain ⟨⟨n01, n02, n03, n04, n05⟩, ⟨n12, n13, n14, n15⟩, ⟨n23, n24, n25⟩, ⟨n34, n35⟩, n45, -⟩ := nd
  have hw : kw D cls (tyl k) L s s.heap f [(x, cW xl nx gx), (xl, cD k dx), (o, cW ol no go), (ol, cD k dd), (q, cW ql nq0 gq0), (ql, cD k dq)] s.heap [] := ⟨f, hw, hk⟩
  refine lv_aload_n hx hb d_W_divide_0 rfl (lv_at hl 1 rfl) ?_
  refine k_get hx hb hG lay_W hown hw 2 rfl rfl 1 (by decide) (hG _ fl_W_15) (fun _ h9 => h9) rfl d_W_divide_1 ?_
  refine lv_istore_n hx hb d_W_divide_4 rfl hl (by decide) rfl (fun ls hl => ?_)
  refine lv_aload_n hx hb d_W_divide_5 rfl (lv_at hl 3 rfl) ?_
  have hw := hg
  refine g_ov (c_V (np := 0) S (m_W_setZero l D k L f q ql nq0 gq0 (kn_sub hk [4] rfl rfl)) hw ((hk.1 4 _ rfl).1) ((hk.1 4 _ rfl).2) rfl ml_W_34 im_W_setZero se_W_W_setZero in_W co_W_setZero (by decide +kernel) rfl ⟨rfl, rfl, by decide, by decide⟩ hl.1 rfl (by simp [Value.category]) d_W_divide_6 ⟨Nat.zero_le _, Nat.zero_le _⟩) hw (fun f1 H locs hp hw => ?_)
  have hk1 : kn L f f1 [(x, cW xl nx gx), (xl, cD k dx), (o, cW ol no go), (ol, cD k dd), (q, cW ql 0 0), (ql, cD k dq)] := by
    refine kn_join hk hp (by simp) rfl (fun q hq => ?_)
    simp only [List.mem_cons, List.not_mem_nil, or_false] at hq
    rcases hq with rfl | rfl | rfl | rfl | rfl | rfl
    · rw [kn_off hp (by simp; exact n04)]; exact (hk.1 0 _ rfl).2
    · rw [kn_off hp (by simp; exact n14)]; exact (hk.1 1 _ rfl).2
    · rw [kn_off hp (by simp; exact n24)]; exact (hk.1 2 _ rfl).2
    · rw [kn_off hp (by simp; exact n34)]; exact (hk.1 3 _ rfl).2
    · exact (hp.1 0 _ rfl).2
    · rw [kn_off hp (by simp; exact Ne.symm n45)]; exact (hk.1 5 _ rfl).2
  have hg1 := hw
  have hw : kw D cls (tyl k) L s s.heap f [(x, cW xl nx gx), (xl, cD k dx), (o, cW ol no go), (ol, cD k dd), (q, cW ql 0 0), (ql, cD k dq)] H locs := ⟨f1, hw, hk1⟩
  refine lv_iload_n hx hb d_W_divide_9 rfl (lv_at hl 0 rfl) ?_
  refine lv_if_eq (tgt := 30) hx hb d_W_divide_10 (by decide) (fun hc => ?_) (fun hc => ?_)
  · exact absurd hc (nI_ne0 (by omega) (by omega))
  · -- STK
    refine lv_aload_n hx hb d_W_divide_13 rfl (lv_at hl 1 rfl) ?_
    refine k_get hx hb hG lay_W hown hw 0 rfl rfl 1 (by decide) (hG _ fl_W_15) (fun _ h9 => h9) rfl d_W_divide_14 ?_
    refine lv_iload_n hx hb d_W_divide_17 rfl (lv_at hl 0 rfl) ?_
    refine lv_icmp_lt (tgt := 30) hx hb d_W_divide_18 (by decide) (fun hc => ?_) (fun hc => ?_)
    · have hlt : nx < no := (nI_ltI (by have := hv.1; omega) (by omega)).mp hc
      have hVD : cd B30 nx dx < cd B30 no dd := cd_short (fun i hi => hdx i (by omega)) hlt (by decide) (wr_top hw2 (by omega))
      have e1 : v.tdiv w = 0 := by
        apply Int.natAbs_eq_zero.mp
        rw [td_abs, Nat.div_eq_of_lt (by omega)]
      have e2 : v.tmod w = v := by
        have := Int.tmod_add_mul_tdiv v w
        rw [e1, Int.mul_zero] at this
        omega
      exact g_retv hx hb hr hlocks hg1 ⟨nx, gx, dx, 0, 0, dq, by rw [e2]; exact hv, ⟨by omega, hdq, Or.inl ⟨rfl, rfl, e1⟩⟩, hk1⟩ d_W_divide_30
    · have hge : no ≤ nx := Nat.le_of_not_lt fun h => hc ((nI_ltI (by have := hv.1; omega) (by omega)).mpr h)
      refine lv_aload_n hx hb d_W_divide_21 rfl (lv_at hl 1 rfl) ?_
      refine k_get hx hb hG lay_W hown hw 0 rfl rfl 1 (by decide) (hG _ fl_W_15) (fun _ h9 => h9) rfl d_W_divide_22 ?_
      refine lv_bipush (v := 12) hx hb d_W_divide_25 (by decide) ?_
      refine lv_icmp_lt (tgt := 31) hx hb d_W_divide_27 (by decide) (fun hc => ?_) (fun hc => ?_)
      · have hvne : v ≠ 0 := by
          rcases hv.2.2 with ⟨h, -⟩ | ⟨h1, h2, -⟩
          · omega
          · intro h0
            obtain ⟨m9, rfl⟩ : ∃ m9, nx = m9 + 1 := ⟨nx - 1, by omega⟩
            have h5 := cd_ge (b := B30) (n := m9) (d := dx) h2
            have h6 : 0 < B30 ^ m9 := Nat.pow_pos (by decide)
            omega
        have htop0 : dd (no - 1) ≠ 0 := wr_top hw2 (by omega)
        have htopl : dd (no - 1) < B30 := hdd _ (by omega)
        refine lv_aload_n hx hb d_W_divide_31 rfl (lv_at hl 2 rfl) ?_
        refine k_get hx hb hG lay_W hown hw 2 rfl rfl 0 (by decide) (hG _ fl_W_11) (fun _ h9 => h9) rfl d_W_divide_32 ?_
        refine lv_iload_n hx hb d_W_divide_35 rfl (lv_at hl 0 rfl) ?_
        refine lv_iconst (v := 1) hx hb d_W_divide_36 (by decide) ?_
        refine lv_isub hx hb d_W_divide_37 ?_
        refine k_iald hx hb hw 3 0 rfl rfl ((no - 1)) (nI_m1 no (by omega)) (by omega) (by first | decide | omega) d_W_divide_38 ?_
        obtain ⟨f2, hw, hk2⟩ := hw
        refine g_oi (c_X (np := 1) S (m_nlz l D k L f2 (dd (no - 1)) (by omega) (by omega)) hw ml_W_60 st_JI_numberOfLeadingZeros in_JI co_JI_numberOfLeadingZeros (by decide +kernel) rfl ⟨rfl, rfl, by decide, by decide⟩ hl.1 rfl (by simp [Value.category]) d_W_divide_39 ⟨Nat.zero_le _, Nat.zero_le _⟩) hw (fun r1 f3 H locs hp3 hw3 => ?_)
        obtain ⟨hf3, b, hb31, hr1, hb1, hb2⟩ := hp3
        rw [hf3] at hw3
        have hw := hw3
        have hb29 : b ≤ 29 := Nat.le_of_not_lt fun h => by
          have : 2 ^ 30 ≤ 2 ^ b := Nat.pow_le_pow_right (by omega) (by omega)
          omega
        refine l_top hr1 ?_
        refine lv_iconst (v := 2) hx hb d_W_divide_42 (by decide) ?_
        refine lv_isub hx hb d_W_divide_43 ?_
        refine l_top (show nI (31 - b) - 2 = nI (29 - b) by rw [show (2 : Int32) = nI 2 from rfl, pk_sub (by omega)]; congr 1; omega) ?_
        generalize hsh : 29 - b = sh
        have hsh29 : sh ≤ 29 := by omega
        have htop : dd (no - 1) < 2 ^ (30 - sh) := by rw [show 30 - sh = b + 1 by omega]; exact hb2
        have htopb : 2 ^ 29 ≤ 2 ^ sh * dd (no - 1) := by
          have : 2 ^ sh * 2 ^ b ≤ 2 ^ sh * dd (no - 1) := Nat.mul_le_mul_left _ hb1
          rw [← Nat.pow_add, show sh + b = 29 by omega] at this
          exact this
        have hlb : lb dd no 1 < 2 ^ (30 - sh) := by
          unfold lb
          rw [if_pos (by omega)]
          exact htop
        have htf := top_facts (d := dd) (no := no) (sh := sh) (fun t ht => hdd t (by omega)) hno (by omega)
        generalize htp : 2 ^ sh * cd B30 no dd / B30 ^ (no - 1) = tp at htf
        have hP0 : 0 < B30 ^ (no - 1) := Nat.pow_pos (by decide)
        have hcdn : cd B30 no dd = cd B30 (no - 1) dd + dd (no - 1) * B30 ^ (no - 1) := by
          obtain ⟨m9, rfl⟩ : ∃ m9, no = m9 + 1 := ⟨no - 1, by omega⟩
          rfl
        have htp2 : B30 ≤ 2 * tp := by
          have : 2 ^ 29 ≤ tp := by
            rw [← htp, Nat.le_div_iff_mul_le hP0, hcdn, Nat.mul_add, ← Nat.mul_assoc]
            have : 2 ^ 29 * B30 ^ (no - 1) ≤ 2 ^ sh * dd (no - 1) * B30 ^ (no - 1) := Nat.mul_le_mul_right _ htopb
            omega
          omega
        have htp3 : tp < 1073741824 := by
          rw [← htp, Nat.div_lt_iff_lt_mul hP0, hcdn]
          have h5 := cd_lt (no - 1) (b := B30) (d := dd) (fun i hi => hdd i (by omega))
          have h6 : (dd (no - 1) + 1) * B30 ^ (no - 1) ≤ 2 ^ (30 - sh) * B30 ^ (no - 1) := Nat.mul_le_mul_right _ htop
          rw [Nat.add_mul, Nat.one_mul] at h6
          have h7 : 2 ^ sh * (cd B30 (no - 1) dd + dd (no - 1) * B30 ^ (no - 1)) < 2 ^ sh * (2 ^ (30 - sh) * B30 ^ (no - 1)) := Nat.mul_lt_mul_of_pos_left (by omega) (Nat.pow_pos (by omega))
          rw [← Nat.mul_assoc, ← Nat.pow_add, show sh + (30 - sh) = 30 by omega] at h7
          exact h7
        have htblt : tb dd no sh < 9223372036854775808 := by
          have := Nat.div_add_mod (tb dd no sh) 1073741824
          have := Nat.mod_lt (tb dd no sh) (show 1073741824 > 0 by decide)
          omega
        refine lv_istore hx hb d_W_divide_44 hl (by decide) rfl (fun ls hl => ?_)
        refine lv_lconst (v := 1) hx hb d_W_divide_46 (by decide) ?_
        refine l_topl oneL ?_
        refine lv_aload_n hx hb d_W_divide_47 rfl (lv_at hl 3 rfl) ?_
        refine lv_iload_n hx hb d_W_divide_48 rfl (lv_at hl 1 rfl) ?_
        refine lv_iload hx hb d_W_divide_49 (lv_at hl 0 rfl) ?_
        refine g_ol (c_V (np := 2) S (m_W_topBelow l D k L f2 o ol no go dd no sh hdd hno12 hsh29 hlb (kn_sub hk2 [2, 3] rfl rfl)) hw ((hk2.1 2 _ rfl).1) ((hk2.1 2 _ rfl).2) rfl ml_W_65 im_W_topBelow se_W_W_topBelow in_W co_W_topBelow (by decide +kernel) rfl ⟨rfl, rfl, by decide, by decide⟩ hl.1 rfl (by simp [Value.category]) d_W_divide_51 ⟨Nat.zero_le _, Nat.zero_le _⟩) hw (fun r4 f4 H locs hp4 hw4 => ?_)
        rw [hp4.1] at hw4
        have hw := hw4
        refine l_topl hp4.2 ?_
        refine lv_bipush (v := 30) hx hb d_W_divide_54 (by decide) ?_
        refine lv_lshr hx hb d_W_divide_56 (lN_shr30 htblt) ?_
        refine l_topl (show lN (tb dd no sh / 1073741824) = zL ((tp : Nat) : Int) by rw [htf, zL_n]) ?_
        refine g_ol (c_X (np := 2) S (m_maxL l D k L f2 ((1 : Nat) : Int) (tp : Int) (rL_n (by omega)) (rL_n (by omega))) hw ml_W_69 st_JM_max_0 in_JM co_JM_max_0 (by decide +kernel) rfl ⟨rfl, rfl, by decide, by decide⟩ hl.1 rfl (by simp [Value.category]) d_W_divide_57 ⟨Nat.zero_le _, Nat.zero_le _⟩) hw (fun r5 f5 H locs hp5 hw5 => ?_)
        rw [hp5.1] at hw5
        refine l_topl (hp5.2.trans ((pk_lMax 1 tp).trans (by rw [Nat.max_eq_right (by omega)]))) ?_
        have hw : kw D cls (tyl k) L s s.heap f [(x, cW xl nx gx), (xl, cD k dx), (o, cW ol no go), (ol, cD k dd), (q, cW ql 0 0), (ql, cD k dq)] H locs := ⟨f2, hw5, hk2⟩
        refine lv_lstore hx hb d_W_divide_60 hl (by decide) rfl (fun ls hl => ?_)
        refine lv_aload_n hx hb d_W_divide_62 rfl (lv_at hl 5 rfl) ?_
        refine lv_aload_n hx hb d_W_divide_63 rfl (lv_at hl 3 rfl) ?_
        refine k_get hx hb hG lay_W hown hw 0 rfl rfl 1 (by decide) (hG _ fl_W_15) (fun _ h9 => h9) rfl d_W_divide_64 ?_
        refine lv_iload_n hx hb d_W_divide_67 rfl (lv_at hl 2 rfl) ?_
        refine lv_isub hx hb d_W_divide_68 ?_
        refine l_top (pk_sub hge) ?_
        refine lv_iconst (v := 1) hx hb d_W_divide_69 (by decide) ?_
        refine lv_iadd hx hb d_W_divide_70 ?_
        refine l_top (nI_1 _) ?_
        refine k_put (ty := .int) hx hb hG lay_W ft_W ft_W_ok fn_W hown hw 4 rfl rfl 1 (by decide) (hG _ fl_W_15) (fun _ h9 => h9) rfl (by decide +kernel) rfl rfl (by simp) d_W_divide_71 (fun H locs hw => ?_)
        refine lv_aload_n hx hb d_W_divide_74 rfl (lv_at hl 5 rfl) ?_
        refine lv_aload_n hx hb d_W_divide_75 rfl (lv_at hl 3 rfl) ?_
        refine k_get hx hb hG lay_W hown hw 0 rfl rfl 2 (by decide) (hG _ fl_W_19) (fun _ h9 => h9) rfl d_W_divide_76 ?_
        refine lv_aload_n hx hb d_W_divide_79 rfl (lv_at hl 4 rfl) ?_
        refine k_get hx hb hG lay_W hown hw 2 rfl rfl 2 (by decide) (hG _ fl_W_19) (fun _ h9 => h9) rfl d_W_divide_80 ?_
        refine lv_imul hx hb d_W_divide_83 ?_
        refine k_put (ty := .int) hx hb hG lay_W ft_W ft_W_ok fn_W hown hw 4 rfl rfl 2 (by decide) (hG _ fl_W_19) (fun _ h9 => h9) rfl (by decide +kernel) rfl rfl (by simp) d_W_divide_84 (fun H locs hw => ?_)
        refine lv_aload_n hx hb d_W_divide_87 rfl (lv_at hl 3 rfl) ?_
        refine k_get hx hb hG lay_W hown hw 0 rfl rfl 0 (by decide) (hG _ fl_W_11) (fun _ h9 => h9) rfl d_W_divide_88 ?_
        refine lv_aload_n hx hb d_W_divide_91 rfl (lv_at hl 3 rfl) ?_
        refine k_get hx hb hG lay_W hown hw 0 rfl rfl 1 (by decide) (hG _ fl_W_15) (fun _ h9 => h9) rfl d_W_divide_92 ?_
        refine lv_iconst (v := 0) hx hb d_W_divide_95 (by decide) ?_
        refine k_iast hx hb hw 1 0 rfl rfl (nx) (rfl) (by omega) (by first | decide | omega) d_W_divide_96 (fun H locs hw => ?_)
        rw [show (0 : Int32) = nI 0 from rfl, nD_upd] at hw
        refine lv_aload_n hx hb d_W_divide_97 rfl (lv_at hl 3 rfl) ?_
        refine k_get hx hb hG lay_W hown hw 0 rfl rfl 1 (by decide) (hG _ fl_W_15) (fun _ h9 => h9) rfl d_W_divide_98 ?_
        refine lv_iload_n hx hb d_W_divide_101 rfl (lv_at hl 2 rfl) ?_
        refine lv_isub hx hb d_W_divide_102 ?_
        refine l_top (pk_sub hge) ?_
        refine lv_istore hx hb d_W_divide_103 hl (by decide) rfl (fun ls hl => ?_)
        have hl := lv_sub hl [4, 5, 6, 3, 2, 1, 0] rfl
        refine w_div (V := cd B30 nx dx) S hnx hno hge rfl hsh29 hdd hDpos htop htp.symm htp2 htp3 (nx - no + 1) (va_up dx nx 0) dq H locs ls (Nat.le_refl _) (fun t ht => ?_) hdq ⟨?_, ?_⟩ (show lv_has ls 10 [(0, .ref x), (1, .ref o), (2, .ref q), (3, .int (nI no)), (4, .int (nI sh)), (5, .long (lN tp)), (7, .int (zI (((nx - no + 1 : Nat) : Int) - 1)))] from ?_) hw (fun r rq H locs ls hrr hrq he1 he2 hl hw => ?_)
        · by_cases e : t = nx
          · rw [e, va_up_self]; decide
          · rw [va_up_ne _ _ e]; exact hdx t ht
        · rw [Nat.sub_self, show nx - no + 1 + no = nx + 1 by omega, cd_put]
          show _ = _ * (_ * 0) + _
          omega
        · rw [show nx - no + 1 + no = nx + 1 by omega, cd_put, Nat.zero_mul, Nat.add_zero]
          have h5 := cd_lt nx (b := B30) (d := dx) (fun i hi => hdx i (by omega))
          have h6 : B30 ^ (no - 1) ≤ cd B30 no dd := by
            rw [hcdn]
            have : 1 * B30 ^ (no - 1) ≤ dd (no - 1) * B30 ^ (no - 1) := Nat.mul_le_mul_right _ (by omega)
            omega
          have h7 : B30 ^ (no - 1) * B30 ^ (nx - no + 1) ≤ cd B30 no dd * B30 ^ (nx - no + 1) := Nat.mul_le_mul_right _ h6
          rw [← Nat.pow_add, show no - 1 + (nx - no + 1) = nx by omega] at h7
          omega
        · have e6 : nI (nx - no) = zI (((nx - no + 1 : Nat) : Int) - 1) := by rw [← zI_n]; congr 1; omega
          rw [← e6]; exact hl
        · have hquo : cd B30 (nx - no + 1) rq = cd B30 nx dx / cd B30 no dd := by
            rw [he1, Nat.mul_add_div hDpos, Nat.div_eq_of_lt he2]; rfl
          have hrem : cd B30 no r = cd B30 nx dx % cd B30 no dd := by
            rw [he1, Nat.mul_add_mod, Nat.mod_eq_of_lt he2]
          obtain ⟨f6, hw, hk6⟩ := hw
          -- METHOD W_divide | loc 0=x 1=o 2=q 3=no | ws x xl o ol q ql | fld x.limbs=xl o.limbs=ol q.limbs=ql
          refine lv_aload_n hx hb d_W_divide_155 rfl (lv_at hl 2 rfl) ?_
          refine g_ov (c_V (np := 0) S (m_W_trim l D k L f6 q ql (nx - no + 1) (gx * go) rq (by omega) hrq (kn_sub hk6 [4, 5] rfl rfl)) hw ((hk6.1 4 _ rfl).1) ((hk6.1 4 _ rfl).2) rfl ml_W_45 im_W_trim se_W_W_trim in_W co_W_trim (by decide +kernel) rfl ⟨rfl, rfl, by decide, by decide⟩ hl.1 rfl (by simp [Value.category]) d_W_divide_156 ⟨Nat.zero_le _, Nat.zero_le _⟩) hw (fun f7 H locs hp7 hw => ?_)
          obtain ⟨n7, h1, h2, h3, hk7⟩ := hp7
          have hk8 : kn L f f7 [(x, cW xl nx gx), (xl, cD k r), (o, cW ol no go), (ol, cD k dd), (q, cW ql n7 (if n7 = 0 then 0 else gx * go)), (ql, cD k rq)] := by
            refine kn_join hk6 hk7 (by simp) rfl (fun q hq => ?_)
            simp only [List.mem_cons, List.not_mem_nil, or_false] at hq
            rcases hq with rfl | rfl | rfl | rfl | rfl | rfl
            · rw [kn_off hk7 (by simp; exact ⟨n04, n05⟩)]; exact (hk6.1 0 _ rfl).2
            · rw [kn_off hk7 (by simp; exact ⟨n14, n15⟩)]; exact (hk6.1 1 _ rfl).2
            · rw [kn_off hk7 (by simp; exact ⟨n24, n25⟩)]; exact (hk6.1 2 _ rfl).2
            · rw [kn_off hk7 (by simp; exact ⟨n34, n35⟩)]; exact (hk6.1 3 _ rfl).2
            · exact (hk7.1 0 _ rfl).2
            · exact (hk7.1 1 _ rfl).2
          have hw : kw D cls (tyl k) L s s.heap f [(x, cW xl nx gx), (xl, cD k r), (o, cW ol no go), (ol, cD k dd), (q, cW ql n7 (if n7 = 0 then 0 else gx * go)), (ql, cD k rq)] H locs := ⟨f7, hw, hk8⟩
          refine lv_aload_n hx hb d_W_divide_159 rfl (lv_at hl 0 rfl) ?_
          refine lv_iload_n hx hb d_W_divide_160 rfl (lv_at hl 3 rfl) ?_
          refine k_put (ty := .int) hx hb hG lay_W ft_W ft_W_ok fn_W hown hw 0 rfl rfl 1 (by decide) (hG _ fl_W_15) (fun _ h9 => h9) rfl (by decide +kernel) rfl rfl (by simp) d_W_divide_161 (fun H locs hw => ?_)
          obtain ⟨f8, hw, hk9⟩ := hw
          refine lv_aload_n hx hb d_W_divide_164 rfl (lv_at hl 0 rfl) ?_
          refine g_ov (c_V (np := 0) S (m_W_trim l D k L f8 x xl no gx r hno12 hrr (kn_sub hk9 [0, 1] rfl rfl)) hw ((hk9.1 0 _ rfl).1) ((hk9.1 0 _ rfl).2) rfl ml_W_45 im_W_trim se_W_W_trim in_W co_W_trim (by decide +kernel) rfl ⟨rfl, rfl, by decide, by decide⟩ hl.1 rfl (by simp [Value.category]) d_W_divide_165 ⟨Nat.zero_le _, Nat.zero_le _⟩) hw (fun f9 H locs hp9 hw => ?_)
          obtain ⟨n9, h4, h5, h6, hk10⟩ := hp9
          refine g_retv hx hb hr hlocks hw ⟨n9, (if n9 = 0 then 0 else gx), r, n7, (if n7 = 0 then 0 else gx * go), rq, wr_trim hno12 hrr h4 h5 h6 ?_, wr_trim (by omega) hrq h1 h2 h3 ?_, ?_⟩ d_W_divide_168
          · rw [hrem, ← hA, ← hB]
            rcases Int.lt_trichotomy v 0 with h | h | h
            · exact Or.inr (Or.inl ⟨by rw [eg, Int.sign_eq_neg_one_of_neg h]; decide, tm_neg h⟩)
            · exact absurd h hvne
            · exact Or.inl ⟨by rw [eg, Int.sign_eq_one_of_pos h]; rfl, tm_pos h⟩
          · rw [hquo, ← hA, ← hB, eg, eg2, zI_mul, td_sgn]
            generalize ((v.natAbs / w.natAbs : Nat) : Int) = t
            rcases Int.lt_trichotomy v 0 with h | h | h
            · rcases Int.lt_trichotomy w 0 with h' | h' | h'
              · refine Or.inl ⟨by rw [Int.sign_eq_neg_one_of_neg h, Int.sign_eq_neg_one_of_neg h']; rfl, ?_⟩
                rw [Int.sign_eq_neg_one_of_neg h, Int.sign_eq_neg_one_of_neg h']; omega
              · exact absurd h' hw0
              · refine Or.inr (Or.inl ⟨by rw [Int.sign_eq_neg_one_of_neg h, Int.sign_eq_one_of_pos h']; decide, ?_⟩)
                rw [Int.sign_eq_neg_one_of_neg h, Int.sign_eq_one_of_pos h']; omega
            · exact absurd h hvne
            · rcases Int.lt_trichotomy w 0 with h' | h' | h'
              · refine Or.inr (Or.inl ⟨by rw [Int.sign_eq_one_of_pos h, Int.sign_eq_neg_one_of_neg h']; decide, ?_⟩)
                rw [Int.sign_eq_one_of_pos h, Int.sign_eq_neg_one_of_neg h']; omega
              · exact absurd h' hw0
              · refine Or.inl ⟨by rw [Int.sign_eq_one_of_pos h, Int.sign_eq_one_of_pos h']; rfl, ?_⟩
                rw [Int.sign_eq_one_of_pos h, Int.sign_eq_one_of_pos h']; omega
          · show kn L f f9 [(x, cW xl n9 (if n9 = 0 then 0 else gx)), (xl, cD k r), (o, cW ol no go), (ol, cD k dd), (q, cW ql n7 (if n7 = 0 then 0 else gx * go)), (ql, cD k rq)]
            refine kn_join hk9 hk10 (by simp) rfl (fun q hq => ?_)
            simp only [List.mem_cons, List.not_mem_nil, or_false] at hq
            rcases hq with rfl | rfl | rfl | rfl | rfl | rfl
            · exact (hk10.1 0 _ rfl).2
            · exact (hk10.1 1 _ rfl).2
            · rw [kn_off hk10 (by simp; exact ⟨Ne.symm n02, Ne.symm n12⟩)]; exact (hk9.1 2 _ rfl).2
            · rw [kn_off hk10 (by simp; exact ⟨Ne.symm n03, Ne.symm n13⟩)]; exact (hk9.1 3 _ rfl).2
            · rw [kn_off hk10 (by simp; exact ⟨Ne.symm n04, Ne.symm n14⟩)]; exact (hk9.1 4 _ rfl).2
            · rw [kn_off hk10 (by simp; exact ⟨Ne.symm n05, Ne.symm n15⟩)]; exact (hk9.1 5 _ rfl).2
      · exact absurd (nI_lt (b := 12) (by omega) (by omega)) hc


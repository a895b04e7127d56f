-- ===== LineTables: sum =====
def isSu (st : Nat → Tb) (a b d : Int) (i u v : Nat) : Prop := a = i ∧ i < 8 ∧ b = u ∧ u < 8 ∧ (st u).red = true ∧ d = v ∧ v < 8 ∧ (st v).red = true ∧ (st v).q = (st u).q ∧ (st u).cols + (st v).cols ≤ 12
def spSum (st : Nat → Tb) (a b d : Int) (st' : Nat → Tb) (r : Int32) : Prop := (∃ i u v : Nat, isSu st a b d i u v ∧ ∃ y, LRT (st u).q ((st u).cols + (st v).cols) (sumV (st u).q (st u).cols (st u).rows (st u).A (st v).cols (st v).rows (st v).A) y ∧ st' = va_up st i y ∧ r = nI y.rows) ∨ ((¬ ∃ i u v : Nat, isSu st a b d i u v) ∧ st' = st ∧ r = -1)
section PUB6
variable (l : Launch) (D : va_G) {L : List Nat} {own : Nat → Nat} {k : Nat → ClassId} {f : Nat → va_E} {xa ta qa pr ln : Nat} {tO tP tN adr : Nat → Nat} {zl : Nat → Option Nat} {π : Nat → Nat} {st : Nat → Tb}
set_option maxRecDepth 100000 in
set_option maxHeartbeats 4000000 in
theorem m_A_sum (h : CS L own k f xa ta qa pr ln tO tP tN adr zl π st) (hok : ∀ i, i < 8 → okT (st i)) {a b d : Int} (ha : rI a) (hb' : rI b) (hd : rI d) : Mi l y_A_sum (Cond.code y_A_sum c_A_sum 6 (some .int) :: G) (rmN 7) D cls (tyl k) L f [.ref xa, .int (zI a), .int (zI b), .int (zI d)] (fun r f' => ∃ π' st', CS L own k f' xa ta qa pr ln tO tP tN adr zl π' st' ∧ oe own CO f f' ∧ spSum st a b d st' r) := by
  have hcs := h
  obtain ⟨zt, hX, hzt, hR, hπ, hC, hsp⟩ := h
  -- METHOD A_sum | loc 0=xa 1=a 2=b 3=d | ws xa ta t pa | fld xa.tables=ta xa.spare=s0
  refine mk_met (by decide) (Nat.le_of_ble_eq_true rfl) (fun p e s m below meth c ls S hr hlocks hw hl => ?_)
  have hx := S.1
  have hb := S.2.1
  have hown : s.vm.findClass R_A = some m.cls := S.2.2.2.1
  have hG := S.2.2.2.2
  have hl : lv_has ls 6 [(0, .ref xa), (1, .int (zI a)), (2, .int (zI b)), (3, .int (zI d))] := hl
  have hg := hw
  have bad : ∀ (H : Heap) (locs : List Loc) (ls : Array Slot), (¬ ∃ i u v : Nat, isSu st a b d i u v) → lv_has ls 6 [(0, .ref xa)] → gw D cls (tyl k) L s s.heap f H locs → W p l e (rmN 7) s m ([.ref xa, .int (zI a), .int (zI b), .int (zI d)] : List Value).toArray below meth c H locs 0 0 (MQ below (va_Qi (fun r f' => ∃ π' st', CS L own k f' xa ta qa pr ln tO tP tN adr zl π' st' ∧ oe own CO f f' ∧ spSum st a b d st' r) (mst D cls (tyl k) L) (fun q => q ∈ L)) ([.ref xa, .int (zI a), .int (zI b), .int (zI d)] : List Value).toArray s 0 0 (fun q => q ∈ L)) (F0 m 23 ls []) := by
    intro H locs ls hno hl hg
    refine lv_iconst (v := (-1)) hx hb d_A_sum_23 (by decide) ?_
    exact g_reti hx hb hr hlocks hg ⟨π, st, hcs, oe.rf, Or.inr ⟨hno, rfl, rfl⟩⟩ d_A_sum_24
  have bad2 : ∀ (H : Heap) (locs : List Loc) (ls : Array Slot), (¬ ∃ i u v : Nat, isSu st a b d i u v) → lv_has ls 6 [(0, .ref xa)] → gw D cls (tyl k) L s s.heap f H locs → W p l e (rmN 7) s m ([.ref xa, .int (zI a), .int (zI b), .int (zI d)] : List Value).toArray below meth c H locs 0 0 (MQ below (va_Qi (fun r f' => ∃ π' st', CS L own k f' xa ta qa pr ln tO tP tN adr zl π' st' ∧ oe own CO f f' ∧ spSum st a b d st' r) (mst D cls (tyl k) L) (fun q => q ∈ L)) ([.ref xa, .int (zI a), .int (zI b), .int (zI d)] : List Value).toArray s 0 0 (fun q => q ∈ L)) (F0 m 70 ls []) := by
    intro H locs ls hno hl hg
    refine lv_iconst (v := (-1)) hx hb d_A_sum_70 (by decide) ?_
    exact g_reti hx hb hr hlocks hg ⟨π, st, hcs, oe.rf, Or.inr ⟨hno, rfl, rfl⟩⟩ d_A_sum_71
  refine lv_iload_n hx hb d_A_sum_0 rfl (lv_at hl 1 rfl) ?_
  refine g_oi (c_X (np := 1) S (m_A_isTable l D k L f ha) hw ml_A_34 st_A_isTable in_A co_A_isTable (by decide +kernel) rfl ⟨rfl, rfl, by decide, by decide⟩ hl.1 rfl (by simp [Value.category]) d_A_sum_1 ⟨Nat.zero_le _, Nat.zero_le _⟩) hw (fun r1 f1 H locs hp hg => ?_)
  rw [hp.1] at hg
  refine l_top hp.2 ?_
  refine lv_if_eq (tgt := 23) hx hb d_A_sum_4 (by decide) (fun hc => ?_) (fun hc => ?_)
  · have hn : ¬ (0 ≤ a ∧ a < 8) := fun q => by rw [if_pos q] at hc; exact absurd hc (by decide)
    exact bad H locs ls (fun ⟨i, j, set, q⟩ => hn (by have := q.1; have := q.2.1; omega)) (lv_sub hl [0] rfl) hg
  have hn : 0 ≤ a ∧ a < 8 := Classical.byContradiction fun q => hc (if_neg q)
  obtain ⟨i, hai⟩ : ∃ i : Nat, a = i := ⟨a.toNat, by omega⟩
  have hi : i < 8 := by omega
  have hw := hg
  refine lv_aload_n hx hb d_A_sum_7 rfl (lv_at hl 0 rfl) ?_
  refine lv_iload_n hx hb d_A_sum_8 rfl (lv_at hl 2 rfl) ?_
  refine g_oi (c_V (np := 1) S (m_A_isReduced l D hcs hb') hw (hX.2.2.2.1.1) (hX.1) rfl ml_A_88 im_A_isReduced se_A_A_isReduced in_A co_A_isReduced (by decide +kernel) rfl ⟨rfl, rfl, by decide, by decide⟩ hl.1 rfl (by simp [Value.category]) d_A_sum_9 ⟨Nat.zero_le _, Nat.zero_le _⟩) hw (fun r1 f1 H locs hp hg => ?_)
  obtain ⟨e1, hp⟩ := hp
  rw [e1] at hg
  rcases hp with ⟨er, u, h1, hu, hredu⟩ | ⟨er, hno⟩
  rotate_left
  · subst er
    refine lv_if_eq (tgt := 23) hx hb d_A_sum_12 (by decide) (fun hc => ?_) (fun hc => ?_)
    · exact bad H locs ls (fun ⟨i, u, v, q⟩ => hno ⟨u, q.2.2.1, q.2.2.2.1, q.2.2.2.2.1⟩) (lv_sub hl [0] rfl) hg
    · exact absurd rfl hc
  subst er
  refine lv_if_eq (tgt := 23) hx hb d_A_sum_12 (by decide) (fun hc => ?_) (fun hc => ?_)
  · exact absurd hc (by decide)
  have hw := hg
  refine lv_aload_n hx hb d_A_sum_15 rfl (lv_at hl 0 rfl) ?_
  refine lv_iload_n hx hb d_A_sum_16 rfl (lv_at hl 3 rfl) ?_
  refine g_oi (c_V (np := 1) S (m_A_isReduced l D hcs hd) hw (hX.2.2.2.1.1) (hX.1) rfl ml_A_88 im_A_isReduced se_A_A_isReduced in_A co_A_isReduced (by decide +kernel) rfl ⟨rfl, rfl, by decide, by decide⟩ hl.1 rfl (by simp [Value.category]) d_A_sum_17 ⟨Nat.zero_le _, Nat.zero_le _⟩) hw (fun r1 f1 H locs hp hg => ?_)
  obtain ⟨e1, hp⟩ := hp
  rw [e1] at hg
  rcases hp with ⟨er, v, h2, hv, hredv⟩ | ⟨er, hno⟩
  rotate_left
  · subst er
    refine lv_if_ne (tgt := 25) hx hb d_A_sum_20 (by decide) (fun hc => ?_) (fun hc => ?_)
    · exact absurd rfl hc
    · exact bad H locs ls (fun ⟨i, u, v, q⟩ => hno ⟨v, q.2.2.2.2.2.1, q.2.2.2.2.2.2.1, q.2.2.2.2.2.2.2.1⟩) (lv_sub hl [0] rfl) hg
  subst er
  obtain ⟨rsu, Pu, Wu, hTu, hAu, hPu⟩ := hC u hu
  obtain ⟨rsv, Pv, Wv, hTv, hAv, hPv⟩ := hC v hv
  obtain ⟨rs0, fd0, rows0, cols0, rd0, P0, W0, hS⟩ := hsp
  have hoku := hok u hu
  have hokv := hok v hv
  obtain ⟨hq, h251, hrwu, hclu, -, hRu⟩ := hok u hu
  obtain ⟨hqv, h251v, hrwv, hclv, -, hRv⟩ := hok v hv
  have hleu := rd_le (hRu hredu).1
  have hlev := rd_le (hRv hredv).1
  have hpu := hπ.1 u (by omega)
  have hpv := hπ.1 v (by omega)
  have hp8 := hπ.1 8 (by omega)
  have hneu : π u ≠ π 8 := fun e => by have := hπ.2 u 8 (by omega) (by omega) e; omega
  have hnev : π v ≠ π 8 := fun e => by have := hπ.2 v 8 (by omega) (by omega) e; omega
  refine lv_if_ne (tgt := 25) hx hb d_A_sum_20 (by decide) (fun hc => ?_) (fun hc => ?_)
  rotate_left
  · exact absurd hc (by decide)
  have hw : kw D cls (tyl k) L s s.heap f [(xa, cA ta qa pr (tO (π 8))), (ta, cTs k zt), (tO (π u), cT (nI (st u).q) (nI (st u).rows) (nI (st u).cols) (if (st u).red then 1 else 0) (tP (π u)) (tN (π u))), (tP (π u), cP k Pu)] H locs := ⟨f, hg, xa_kn4 hX hTu (by omega)⟩
  refine lv_aload_n hx hb d_A_sum_25 rfl (lv_at hl 0 rfl) ?_
  refine k_get hx hb hG lay_A hown hw 0 rfl rfl 0 (by decide) (hG _ fl_A_11) (fun _ h9 => h9) rfl d_A_sum_26 ?_
  refine lv_iload_n hx hb d_A_sum_29 rfl (lv_at hl 2 rfl) ?_
  refine k_aald hx hb hw 1 2 rfl rfl (u) (by rw [h1]; rfl) (hu) (by first | decide | omega) (hzt u hu) d_A_sum_30 ?_
  refine lv_astore hx hb d_A_sum_31 hl (by decide) rfl (fun ls hl => ?_)
  have hw : kw D cls (tyl k) L s s.heap f [(xa, cA ta qa pr (tO (π 8))), (ta, cTs k zt), (tO (π v), cT (nI (st v).q) (nI (st v).rows) (nI (st v).cols) (if (st v).red then 1 else 0) (tP (π v)) (tN (π v))), (tP (π v), cP k Pv)] H locs := ⟨f, hg, xa_kn4 hX hTv (by omega)⟩
  refine lv_aload_n hx hb d_A_sum_33 rfl (lv_at hl 1 rfl) ?_
  refine k_get hx hb hG lay_A hown hw 0 rfl rfl 0 (by decide) (hG _ fl_A_11) (fun _ h9 => h9) rfl d_A_sum_34 ?_
  refine lv_iload_n hx hb d_A_sum_37 rfl (lv_at hl 4 rfl) ?_
  refine k_aald hx hb hw 1 2 rfl rfl (v) (by rw [h2]; rfl) (hv) (by first | decide | omega) (hzt v hv) d_A_sum_38 ?_
  refine lv_astore hx hb d_A_sum_39 hl (by decide) rfl (fun ls hl => ?_)
  have hw : kw D cls (tyl k) L s s.heap f [(xa, cA ta qa pr (tO (π 8))), (ta, cTs k zt), (tO (π u), cT (nI (st u).q) (nI (st u).rows) (nI (st u).cols) (if (st u).red then 1 else 0) (tP (π u)) (tN (π u))), (tP (π u), cP k Pu)] H locs := ⟨f, hg, xa_kn4 hX hTu (by omega)⟩
  refine lv_aload hx hb d_A_sum_41 (lv_at hl 1 rfl) ?_
  refine k_get hx hb hG lay_T hown hw 2 rfl rfl 0 (by decide) (hG _ fl_A_56) (fun _ h9 => h9) rfl d_A_sum_43 ?_
  have hw : kw D cls (tyl k) L s s.heap f [(xa, cA ta qa pr (tO (π 8))), (ta, cTs k zt), (tO (π v), cT (nI (st v).q) (nI (st v).rows) (nI (st v).cols) (if (st v).red then 1 else 0) (tP (π v)) (tN (π v))), (tP (π v), cP k Pv)] H locs := ⟨f, hg, xa_kn4 hX hTv (by omega)⟩
  refine lv_aload hx hb d_A_sum_46 (lv_at hl 0 rfl) ?_
  refine k_get hx hb hG lay_T hown hw 2 rfl rfl 0 (by decide) (hG _ fl_A_56) (fun _ h9 => h9) rfl d_A_sum_48 ?_
  refine lv_icmp_ne (tgt := 70) hx hb d_A_sum_51 (by decide) (fun hc => ?_) (fun hc => ?_)
  · refine bad2 H locs ls (fun ⟨i', u', v', q⟩ => hc ?_) (lv_sub hl [2] rfl) hg
    have e1 : u' = u := by have := q.2.2.1; omega
    have e2 : v' = v := by have := q.2.2.2.2.2.1; omega
    have h9 := q.2.2.2.2.2.2.2.2.1
    rw [e1, e2] at h9
    rw [h9]
  have hqq : (st v).q = (st u).q := by
    have := (zI_eq (rI_n (show (st u).q < 2147483648 by omega)) (rI_n (show (st v).q < 2147483648 by omega))).mp hc
    omega
  have hw : kw D cls (tyl k) L s s.heap f [(xa, cA ta qa pr (tO (π 8))), (ta, cTs k zt), (tO (π u), cT (nI (st u).q) (nI (st u).rows) (nI (st u).cols) (if (st u).red then 1 else 0) (tP (π u)) (tN (π u))), (tP (π u), cP k Pu)] H locs := ⟨f, hg, xa_kn4 hX hTu (by omega)⟩
  refine lv_aload hx hb d_A_sum_54 (lv_at hl 1 rfl) ?_
  refine k_get hx hb hG lay_T hown hw 2 rfl rfl 2 (by decide) (hG _ fl_A_91) (fun _ h9 => h9) rfl d_A_sum_56 ?_
  have hw : kw D cls (tyl k) L s s.heap f [(xa, cA ta qa pr (tO (π 8))), (ta, cTs k zt), (tO (π v), cT (nI (st v).q) (nI (st v).rows) (nI (st v).cols) (if (st v).red then 1 else 0) (tP (π v)) (tN (π v))), (tP (π v), cP k Pv)] H locs := ⟨f, hg, xa_kn4 hX hTv (by omega)⟩
  refine lv_aload hx hb d_A_sum_59 (lv_at hl 0 rfl) ?_
  refine k_get hx hb hG lay_T hown hw 2 rfl rfl 2 (by decide) (hG _ fl_A_91) (fun _ h9 => h9) rfl d_A_sum_61 ?_
  refine lv_iadd hx hb d_A_sum_64 ?_
  refine l_top (nI_add (st u).cols (st v).cols) ?_
  refine lv_bipush (v := 12) hx hb d_A_sum_65 (by decide) ?_
  refine lv_icmp_le (tgt := 72) hx hb d_A_sum_67 (by decide) (fun hc => ?_) (fun hc => ?_)
  rotate_left
  · refine bad2 H locs ls (fun ⟨i', u', v', q⟩ => hc ?_) (lv_sub hl [2] rfl) hg
    have e1 : u' = u := by have := q.2.2.1; omega
    have e2 : v' = v := by have := q.2.2.2.2.2.1; omega
    have h9 := q.2.2.2.2.2.2.2.2.2
    rw [e1, e2] at h9
    exact (zI_le (rI_n (show (st u).cols + (st v).cols < 2147483648 by omega)) (b := 12) ⟨by decide, by decide⟩).mpr (by omega)
  have hcc : (st u).cols + (st v).cols ≤ 12 := by
    have := (zI_le (rI_n (show (st u).cols + (st v).cols < 2147483648 by omega)) (b := 12) ⟨by decide, by decide⟩).mp hc
    omega
  have hw : kw D cls (tyl k) L s s.heap f [(xa, cA ta qa pr (tO (π 8))), (ta, cTs k zt), (tO (π u), cT (nI (st u).q) (nI (st u).rows) (nI (st u).cols) (if (st u).red then 1 else 0) (tP (π u)) (tN (π u))), (tP (π u), cP k Pu)] H locs := ⟨f, hg, xa_kn4 hX hTu (by omega)⟩
  refine lv_aload_n hx hb d_A_sum_72 rfl (lv_at hl 2 rfl) ?_
  refine k_get hx hb hG lay_A hown hw 0 rfl rfl 3 (by decide) (hG _ fl_A_16) (fun _ h9 => h9) rfl d_A_sum_73 ?_
  refine lv_aload hx hb d_A_sum_76 (lv_at hl 1 rfl) ?_
  refine k_get hx hb hG lay_T hown hw 2 rfl rfl 0 (by decide) (hG _ fl_A_56) (fun _ h9 => h9) rfl d_A_sum_78 ?_
  refine lv_aload hx hb d_A_sum_81 (lv_at hl 1 rfl) ?_
  refine k_get hx hb hG lay_T hown hw 2 rfl rfl 1 (by decide) (hG _ fl_A_73) (fun _ h9 => h9) rfl d_A_sum_83 ?_
  have hw : kw D cls (tyl k) L s s.heap f [(xa, cA ta qa pr (tO (π 8))), (ta, cTs k zt), (tO (π v), cT (nI (st v).q) (nI (st v).rows) (nI (st v).cols) (if (st v).red then 1 else 0) (tP (π v)) (tN (π v))), (tP (π v), cP k Pv)] H locs := ⟨f, hg, xa_kn4 hX hTv (by omega)⟩
  refine lv_aload hx hb d_A_sum_86 (lv_at hl 0 rfl) ?_
  refine k_get hx hb hG lay_T hown hw 2 rfl rfl 1 (by decide) (hG _ fl_A_73) (fun _ h9 => h9) rfl d_A_sum_88 ?_
  refine lv_iadd hx hb d_A_sum_91 ?_
  refine l_top (nI_add (st u).rows (st v).rows) ?_
  have hw : kw D cls (tyl k) L s s.heap f [(xa, cA ta qa pr (tO (π 8))), (ta, cTs k zt), (tO (π u), cT (nI (st u).q) (nI (st u).rows) (nI (st u).cols) (if (st u).red then 1 else 0) (tP (π u)) (tN (π u))), (tP (π u), cP k Pu)] H locs := ⟨f, hg, xa_kn4 hX hTu (by omega)⟩
  refine lv_aload hx hb d_A_sum_92 (lv_at hl 1 rfl) ?_
  refine k_get hx hb hG lay_T hown hw 2 rfl rfl 2 (by decide) (hG _ fl_A_91) (fun _ h9 => h9) rfl d_A_sum_94 ?_
  have hw : kw D cls (tyl k) L s s.heap f [(xa, cA ta qa pr (tO (π 8))), (ta, cTs k zt), (tO (π v), cT (nI (st v).q) (nI (st v).rows) (nI (st v).cols) (if (st v).red then 1 else 0) (tP (π v)) (tN (π v))), (tP (π v), cP k Pv)] H locs := ⟨f, hg, xa_kn4 hX hTv (by omega)⟩
  refine lv_aload hx hb d_A_sum_97 (lv_at hl 0 rfl) ?_
  refine k_get hx hb hG lay_T hown hw 2 rfl rfl 2 (by decide) (hG _ fl_A_91) (fun _ h9 => h9) rfl d_A_sum_99 ?_
  refine lv_iadd hx hb d_A_sum_102 ?_
  refine l_top (nI_add (st u).cols (st v).cols) ?_
  have hw := hg
  refine g_ov (c_V (np := 3) S (tb_start l D hS (fd' := nI (st u).q) (rows' := (st u).rows + (st v).rows) (cols' := (st u).cols + (st v).cols) (by omega)) hw (hS.1.1.1) (hS.2.1) rfl ml_A_44 im_T_start se_T_T_start in_T co_T_start (by decide +kernel) rfl ⟨rfl, rfl, by decide, by decide⟩ hl.1 rfl (by simp [Value.category]) d_A_sum_103 ⟨Nat.zero_le _, Nat.zero_le _⟩) hw (fun f2 H locs hp2 hg => ?_)
  obtain ⟨W2, hT2, ho2, hz2⟩ := hp2
  have hFu2 := hTu.keep ho2 (by simp; exact hneu)
  have hFv2 := hTv.keep ho2 (by simp; exact hnev)
  have hX2 := hX.keep ho2 (by simp; omega)
  have hR2 := hR.keep ho2 (by simp; omega)
  have hw : kw D cls (tyl k) L s s.heap f2 [(xa, cA ta qa pr (tO (π 8))), (ta, cTs k zt), (tO (π u), cT (nI (st u).q) (nI (st u).rows) (nI (st u).cols) (if (st u).red then 1 else 0) (tP (π u)) (tN (π u))), (tP (π u), cP k Pu)] H locs := ⟨f2, hg, xa_kn4 hX2 hFu2 (by omega)⟩
  refine lv_aload_n hx hb d_A_sum_106 rfl (lv_at hl 2 rfl) ?_
  refine k_get hx hb hG lay_A hown hw 0 rfl rfl 3 (by decide) (hG _ fl_A_16) (fun _ h9 => h9) rfl d_A_sum_107 ?_
  refine lv_aload hx hb d_A_sum_110 (lv_at hl 1 rfl) ?_
  refine lv_iconst (v := 0) hx hb d_A_sum_112 (by decide) ?_
  refine lv_iconst (v := 0) hx hb d_A_sum_113 (by decide) ?_
  have hw := hg
  refine g_ov (c_V (np := 3) S (tb_copyNumbers l D hT2 hFu2 hneu (fr := 0) (fc := 0) (by omega) (by omega)) hw (hT2.1.1.1) (hT2.2.1) rfl ml_A_110 im_T_copyNumbers se_T_T_copyNumbers in_T co_T_copyNumbers (by decide +kernel) rfl ⟨rfl, rfl, by decide, by decide⟩ hl.1 rfl (by simp [Value.category]) d_A_sum_114 ⟨Nat.zero_le _, Nat.zero_le _⟩) hw (fun f3 H locs hp3 hg => ?_)
  obtain ⟨W3, hT3, ho3, hk3, hc3⟩ := hp3
  have hFu3 := hFu2.keep ho3 (by simp; exact hneu)
  have hFv3 := hFv2.keep ho3 (by simp; exact hnev)
  have hX3 := hX2.keep ho3 (by simp; omega)
  have hR3 := hR2.keep ho3 (by simp; omega)
  have hw : kw D cls (tyl k) L s s.heap f3 [(xa, cA ta qa pr (tO (π 8))), (ta, cTs k zt), (tO (π u), cT (nI (st u).q) (nI (st u).rows) (nI (st u).cols) (if (st u).red then 1 else 0) (tP (π u)) (tN (π u))), (tP (π u), cP k Pu)] H locs := ⟨f3, hg, xa_kn4 hX3 hFu3 (by omega)⟩
  refine lv_aload_n hx hb d_A_sum_117 rfl (lv_at hl 2 rfl) ?_
  refine k_get hx hb hG lay_A hown hw 0 rfl rfl 3 (by decide) (hG _ fl_A_16) (fun _ h9 => h9) rfl d_A_sum_118 ?_
  refine lv_aload hx hb d_A_sum_121 (lv_at hl 0 rfl) ?_
  refine lv_aload hx hb d_A_sum_123 (lv_at hl 1 rfl) ?_
  refine k_get hx hb hG lay_T hown hw 2 rfl rfl 1 (by decide) (hG _ fl_A_73) (fun _ h9 => h9) rfl d_A_sum_125 ?_
  refine lv_aload hx hb d_A_sum_128 (lv_at hl 1 rfl) ?_
  refine k_get hx hb hG lay_T hown hw 2 rfl rfl 2 (by decide) (hG _ fl_A_91) (fun _ h9 => h9) rfl d_A_sum_130 ?_
  have hw := hg
  refine g_ov (c_V (np := 3) S (tb_copyNumbers l D hT3 hFv3 hnev (fr := (st u).rows) (fc := (st u).cols) (by omega) (by omega)) hw (hT3.1.1.1) (hT3.2.1) rfl ml_A_110 im_T_copyNumbers se_T_T_copyNumbers in_T co_T_copyNumbers (by decide +kernel) rfl ⟨rfl, rfl, by decide, by decide⟩ hl.1 rfl (by simp [Value.category]) d_A_sum_133 ⟨Nat.zero_le _, Nat.zero_le _⟩) hw (fun f4 H locs hp4 hg => ?_)
  obtain ⟨W4, hT4, ho4, hk4, hc4⟩ := hp4
  have hX4 := hX3.keep ho4 (by simp; omega)
  have hR4 := hR3.keep ho4 (by simp; omega)
  have hA4 : mt W4 ((st u).rows + (st v).rows) ((st u).cols + (st v).cols) (blk (st u).cols (st u).rows (st u).A (st v).A) := by
    refine two (fun x hx => ?_) (fun x hx => ?_)
    · have e4 := hk4 x (by omega) (Or.inl hx)
      have e3 := hc3 x hx
      rw [Nat.zero_add] at e3
      rw [e4, e3]
      refine two (fun y hy => ?_) (fun y hy => ?_)
      · rw [blk11 hx hy]
        have := cpy_in (w := W2 x) (fc := 0) (hAu x hx y hy) hy
        rwa [Nat.zero_add] at this
      · rw [blk12 hx]
        exact cpy_out (nm_zero (hz2 x (by omega) _ (by omega))) (Or.inr (by omega))
    · rw [hc4 x hx]
      have e3 := hk3 ((st u).rows + x) (by omega) (Or.inr (by omega))
      rw [e3]
      refine two (fun y hy => ?_) (fun y hy => ?_)
      · rw [blk21 hy]
        exact cpy_out (nm_zero (hz2 _ (by omega) _ (by omega))) (Or.inl hy)
      · rw [blk22]
        exact cpy_in (hAv x hx y hy) hy
  obtain ⟨N, V, hXX, hI⟩ := sum_start hoku hredu hokv hredv hqq id 4095
  have hw : kw D cls (tyl k) L s s.heap f4 [(xa, cA ta qa pr (tO (π 8))), (ta, cTs k zt)] H locs := ⟨f4, hg, xa_kn2 hX4⟩
  refine lv_aload_n hx hb d_A_sum_136 rfl (lv_at hl 2 rfl) ?_
  refine lv_iload_n hx hb d_A_sum_137 rfl (lv_at hl 3 rfl) ?_
  refine lv_aload_n hx hb d_A_sum_138 rfl (lv_at hl 2 rfl) ?_
  refine lv_aload_n hx hb d_A_sum_139 rfl (lv_at hl 2 rfl) ?_
  refine k_get hx hb hG lay_A hown hw 0 rfl rfl 3 (by decide) (hG _ fl_A_16) (fun _ h9 => h9) rfl d_A_sum_140 ?_
  refine lv_sipush (v := 4095) hx hb d_A_sum_143 (by decide) ?_
  have hw := hg
  refine g_oi (c_V (np := 2) S (tb_sweepX l D (set := 4095) hX4 hT4 hR4 (by omega) (by omega) (by omega) (by decide) (by omega) hcc hXX hA4 hI) hw (hX4.2.2.2.1.1) (hX4.1) rfl ml_A_69 im_A_sweep se_A_A_sweep in_A co_A_sweep (by decide +kernel) rfl ⟨rfl, rfl, by decide, by decide⟩ hl.1 rfl (by simp [Value.category]) d_A_sum_146 ⟨Nat.zero_le _, Nat.zero_le _⟩) hw (fun r5 f5 H locs hp5 hg => ?_)
  obtain ⟨hR5, n, rs5, W5, P5, A5, pl5, er, hn5, hT5, ho5, hA5, hI5, hP5⟩ := hp5
  subst er
  have hX5 := hX4.keep ho5 (by simp; omega)
  have hw := hg
  subst hai
  refine g_oi (c_V (np := 2) S (m_A_keepSpare l D hX5 hT5 (by omega) (i := i) (n := n) hi (hzt i hi)) hw (hX5.2.2.2.1.1) (hX5.1) rfl ml_A_107 im_A_keepSpare se_A_A_keepSpare in_A co_A_keepSpare (by decide +kernel) rfl ⟨rfl, rfl, by decide, by decide⟩ hl.1 rfl (by simp [Value.category]) d_A_sum_149 ⟨Nat.zero_le _, Nat.zero_le _⟩) hw (fun r6 f6 H locs hp6 hg => ?_)
  obtain ⟨er, hX6, hT6, ho6⟩ := hp6
  subst er
  have hL := inv_LR hXX (fun j hj => bs4095 j (by omega)) hI5
  have ho : oe own [π 8, 100, 101] f f6 := (ho2.mono (fun x hx => by simp at hx ⊢; omega)).trans ((ho3.mono (fun x hx => by simp at hx ⊢; omega)).trans ((ho4.mono (fun x hx => by simp at hx ⊢; omega)).trans ((ho5.mono (fun x hx => by simp at hx ⊢; omega)).trans (ho6.mono (fun x hx => by simp at hx ⊢; omega)))))
  obtain ⟨g1, g2⟩ := CS_swap hcs hzt hi (y := mkT (st u).q n ((st u).cols + (st v).cols) true A5 pl5) hX6 ⟨rs5, P5, W5, hT6, fun x hx j hj => hA5 x (by have : x < n := hx; omega) j hj, fun _ x hx => hP5 x hx⟩ (hR5.keep ho6 (by simp; omega)) ho
  exact g_reti hx hb hr hlocks hg ⟨_, _, g1, g2, Or.inl ⟨i, u, v, ⟨rfl, hi, h1, hu, hredu, h2, hv, hredv, hqq, hcc⟩, mkT (st u).q n ((st u).cols + (st v).cols) true A5 pl5, ⟨rfl, rfl, rfl, hL.1, hL.2.1, hL.2.2.1, fun x => (sum_sp (dmX hq) x).trans (hL.2.2.2 x)⟩, rfl, rfl⟩⟩ d_A_sum_152
end PUB6


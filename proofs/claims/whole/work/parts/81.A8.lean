-- ===== LineTables: leave =====
theorem cpy_in {w w2 : Nat → Int32} {j fc n : Nat} {v : Int} (h : nm w2 j v) (hj : j < n) : nm (va_cpy w2 w 0 (fc * 6) (n * 6)) (fc + j) v := by
  refine nm_ext h (fun i hi => ?_)
  unfold va_cpy
  rw [if_pos (by omega)]
  congr 1
  omega
theorem cpy_out {w w2 : Nat → Int32} {j fc n : Nat} {v : Int} (h : nm w j v) (hj : j < fc ∨ fc + n ≤ j) : nm (va_cpy w2 w 0 (fc * 6) (n * 6)) j v := by
  refine nm_ext h (fun i hi => ?_)
  unfold va_cpy
  rw [if_neg (by omega)]
def isLv (st : Nat → Tb) (a b d : Int) (i j set : Nat) : Prop := a = i ∧ i < 8 ∧ b = j ∧ j < 8 ∧ (st j).red = true ∧ d = set ∧ set < 2 ^ (st j).cols
def spLeave (st : Nat → Tb) (a b d : Int) (z : Bool) (st' : Nat → Tb) (r : Int32) : Prop := (∃ i j set : Nat, isLv st a b d i j set ∧ ∃ y, LRT (st j).q (kc set (st j).cols) (leaveV (st j).q (st j).cols (st j).rows (st j).A set z) y ∧ st' = va_up st i y ∧ r = nI y.rows) ∨ ((¬ ∃ i j set : Nat, isLv st a b d i j set) ∧ st' = st ∧ r = -1)
theorem shr_0 {set c : Nat} (hs : set < 2 ^ 31) (hc : c < 32) : nI set >>> (nI c &&& 31) = nI (set / 2 ^ c) := pk_shrN hs _ c (bit_sm c hc)
theorem okT_up {st : Nat → Tb} {i : Nat} {y : Tb} (h : ∀ j, j < 8 → okT (st j)) (hy : okT y) : ∀ j, j < 8 → okT (va_up st i y j) := fun j hj => by
  by_cases e : j = i
  · rw [e, va_up_self]; exact hy
  · rw [va_up_ne _ _ e]; exact h j hj
section PUB5
variable (l : Launch) (D : va_G) {L : List Nat} {own : Nat → Nat} {k : Nat → ClassId} {f : Nat → va_E} {xa ta qa pr ln : Nat} {tO tP tN adr : Nat → Nat} {zl : Nat → Option Nat} {π : Nat → Nat} {st : Nat → Tb}
set_option maxRecDepth 100000 in
set_option maxHeartbeats 4000000 in
theorem m_A_leave (h : CS L own k f xa ta qa pr ln tO tP tN adr zl π st) (hok : ∀ i, i < 8 → okT (st i)) {a b d : Int} {z : Bool} (ha : rI a) (hb' : rI b) (hd : rI d) : Mi l y_A_leave (Cond.code y_A_leave c_A_leave 6 (some .int) :: G) (rmN 7) D cls (tyl k) L f [.ref xa, .int (zI a), .int (zI b), .int (zI d), .int (if z then 1 else 0)] (fun r f' => ∃ π' st', CS L own k f' xa ta qa pr ln tO tP tN adr zl π' st' ∧ oe own CO f f' ∧ spLeave st a b d z st' r ∧ ∀ i, i < 8 → okT (st' i)) := by
  have hcs := h
  have z0 : rI 0 := ⟨by decide, by decide⟩
  obtain ⟨zt, hX, hzt, hR, hπ, hC, hsp⟩ := h
  -- METHOD A_leave | loc 0=xa 1=a 2=b 3=d 4=z | ws xa ta t pa | fld xa.tables=ta xa.spare=s0
  refine mk_met (by decide) (Nat.le_of_ble_eq_true rfl) (fun p e s m below meth c ls S hr hlocks hw hl => ?_)
  have hx := S.1
  have hb := S.2.1
  have hown : s.vm.findClass R_A = some m.cls := S.2.2.2.1
  have hG := S.2.2.2.2
  have hl : lv_has ls 6 [(0, .ref xa), (1, .int (zI a)), (2, .int (zI b)), (3, .int (zI d)), (4, .int (if z then 1 else 0))] := hl
  have hg := hw
  have bad : ∀ (H : Heap) (locs : List Loc) (ls : Array Slot), (¬ ∃ i j set : Nat, isLv st a b d i j set) → lv_has ls 6 [(0, .ref xa)] → gw D cls (tyl k) L s s.heap f H locs → W p l e (rmN 7) s m ([.ref xa, .int (zI a), .int (zI b), .int (zI d), .int (if z then 1 else 0)] : List Value).toArray below meth c H locs 0 0 (MQ below (va_Qi (fun r f' => ∃ π' st', CS L own k f' xa ta qa pr ln tO tP tN adr zl π' st' ∧ oe own CO f f' ∧ spLeave st a b d z st' r ∧ ∀ i, i < 8 → okT (st' i)) (mst D cls (tyl k) L) (fun q => q ∈ L)) ([.ref xa, .int (zI a), .int (zI b), .int (zI d), .int (if z then 1 else 0)] : List Value).toArray s 0 0 (fun q => q ∈ L)) (F0 m 33 ls []) := by
    intro H locs ls hno hl hg
    refine lv_iconst (v := (-1)) hx hb d_A_leave_33 (by decide) ?_
    exact g_reti hx hb hr hlocks hg ⟨π, st, hcs, oe.rf, Or.inr ⟨hno, rfl, rfl⟩, hok⟩ d_A_leave_34
  refine lv_iload_n hx hb d_A_leave_0 rfl (lv_at hl 1 rfl) ?_
  refine g_oi (c_X (np := 1) S (m_A_isTable l D k L f ha) hw ml_A_34 st_A_isTable in_A co_A_isTable (by decide +kernel) rfl ⟨rfl, rfl, by decide, by decide⟩ hl.1 rfl (by simp [Value.category]) d_A_leave_1 ⟨Nat.zero_le _, Nat.zero_le _⟩) hw (fun r1 f1 H locs hp hg => ?_)
  rw [hp.1] at hg
  refine l_top hp.2 ?_
  refine lv_if_eq (tgt := 33) hx hb d_A_leave_4 (by decide) (fun hc => ?_) (fun hc => ?_)
  · have hn : ¬ (0 ≤ a ∧ a < 8) := fun q => by rw [if_pos q] at hc; exact absurd hc (by decide)
    exact bad H locs ls (fun ⟨i, j, set, q⟩ => hn (by have := q.1; have := q.2.1; omega)) (lv_sub hl [0] rfl) hg
  have hn : 0 ≤ a ∧ a < 8 := Classical.byContradiction fun q => hc (if_neg q)
  obtain ⟨i, hai⟩ : ∃ i : Nat, a = i := ⟨a.toNat, by omega⟩
  have hi : i < 8 := by omega
  have hw := hg
  refine lv_aload_n hx hb d_A_leave_7 rfl (lv_at hl 0 rfl) ?_
  refine lv_iload_n hx hb d_A_leave_8 rfl (lv_at hl 2 rfl) ?_
  refine g_oi (c_V (np := 1) S (m_A_isReduced l D hcs hb') hw (hX.2.2.2.1.1) (hX.1) rfl ml_A_88 im_A_isReduced se_A_A_isReduced in_A co_A_isReduced (by decide +kernel) rfl ⟨rfl, rfl, by decide, by decide⟩ hl.1 rfl (by simp [Value.category]) d_A_leave_9 ⟨Nat.zero_le _, Nat.zero_le _⟩) hw (fun r1 f1 H locs hp hg => ?_)
  obtain ⟨e1, hp⟩ := hp
  rw [e1] at hg
  rcases hp with ⟨er, j, h1, hj, hred⟩ | ⟨er, hno⟩
  rotate_left
  · subst er
    refine lv_if_eq (tgt := 33) hx hb d_A_leave_12 (by decide) (fun hc => ?_) (fun hc => ?_)
    · exact bad H locs ls (fun ⟨i, j, set, q⟩ => hno ⟨j, q.2.2.1, q.2.2.2.1, q.2.2.2.2.1⟩) (lv_sub hl [0] rfl) hg
    · exact absurd rfl hc
  subst er
  obtain ⟨rs, P, Wt, hT, hA, hP⟩ := hC j hj
  obtain ⟨rs0, fd0, rows0, cols0, rd0, P0, W0, hS⟩ := hsp
  have hokj := hok j hj
  obtain ⟨hq, h251, hrw, hcl, -, hRd⟩ := hok j hj
  obtain ⟨hrd, htl, hsm⟩ := hRd hred
  have hpj := hπ.1 j (by omega)
  have hp8 := hπ.1 8 (by omega)
  have hne : π j ≠ π 8 := fun e => by have := hπ.2 j 8 (by omega) (by omega) e; omega
  have hle := rd_le hrd
  have hw : kw D cls (tyl k) L s s.heap f [(xa, cA ta qa pr (tO (π 8))), (ta, cTs k zt), (tO (π j), cT (nI (st j).q) (nI (st j).rows) (nI (st j).cols) (if (st j).red then 1 else 0) (tP (π j)) (tN (π j))), (tP (π j), cP k P)] H locs := ⟨f, hg, xa_kn4 hX hT (by have := hπ.1 j (by omega); omega)⟩
  refine lv_if_eq (tgt := 33) hx hb d_A_leave_12 (by decide) (fun hc => ?_) (fun hc => ?_)
  · exact absurd hc (by decide)
  refine lv_iload_n hx hb d_A_leave_15 rfl (lv_at hl 3 rfl) ?_
  refine lv_if_lt (tgt := 33) hx hb d_A_leave_16 (by decide) (fun hc => ?_) (fun hc => ?_)
  · have hn2 : d < 0 := (zI_lt hd z0).mp hc
    exact bad H locs ls (fun ⟨i, j, set, q⟩ => by have := q.2.2.2.2.2.1; omega) (lv_sub hl [0] rfl) hg
  have hn2 : ¬ d < 0 := fun q => hc ((zI_lt hd z0).mpr q)
  obtain ⟨set, hds⟩ : ∃ i : Nat, d = i := ⟨d.toNat, by omega⟩
  have hset : set < 2 ^ 31 := by have := hd.2; omega
  refine lv_iload_n hx hb d_A_leave_19 rfl (lv_at hl 3 rfl) ?_
  refine lv_aload_n hx hb d_A_leave_20 rfl (lv_at hl 0 rfl) ?_
  refine k_get hx hb hG lay_A hown hw 0 rfl rfl 0 (by decide) (hG _ fl_A_11) (fun _ h9 => h9) rfl d_A_leave_21 ?_
  refine lv_iload_n hx hb d_A_leave_24 rfl (lv_at hl 2 rfl) ?_
  refine k_aald hx hb hw 1 2 rfl rfl (j) (by rw [h1]; rfl) (hj) (by first | decide | omega) (hzt j hj) d_A_leave_25 ?_
  refine k_get hx hb hG lay_T hown hw 2 rfl rfl 2 (by decide) (hG _ fl_A_91) (fun _ h9 => h9) rfl d_A_leave_26 ?_
  refine lv_ishr hx hb d_A_leave_29 ?_
  refine l_top (show zI d >>> (nI (st j).cols &&& 31) = nI (set / 2 ^ (st j).cols) by rw [hds]; exact shr_0 hset (by omega)) ?_
  refine lv_if_eq (tgt := 35) hx hb d_A_leave_30 (by decide) (fun hc => ?_) (fun hc => ?_)
  rotate_left
  · refine bad H locs ls (fun ⟨i', j', set', q⟩ => hc ?_) (lv_sub hl [0] rfl) hg
    have e1 : set' = set := by have := q.2.2.2.2.2.1; omega
    have e2 : j' = j := by have := q.2.2.1; omega
    have h9 := q.2.2.2.2.2.2
    rw [e1, e2] at h9
    rw [Nat.div_eq_of_lt h9]; rfl
  have hset2 : set < 2 ^ (st j).cols := by
    have h0 : set / 2 ^ (st j).cols = 0 := Classical.byContradiction fun q => nI_ne0 (Nat.pos_of_ne_zero q) (Nat.lt_of_le_of_lt (Nat.div_le_self _ _) hset) hc
    have := (Nat.div_eq_zero_iff).mp h0
    rcases this with q | q
    · have := Nat.pow_pos (n := (st j).cols) (show 0 < 2 by omega); omega
    · exact q
  have fin : ∀ (f1 : Nat → va_E) (rs1 : Nat → Nat) (W1 : Nat → Nat → Int32) (P1 : Nat → Int32) (m1 : Nat) (A' : Nat → Nat → Int) (pl1 : Nat → Nat) (H : Heap) (locs : List Loc) (ls : Array Slot), TB L own k f1 (π 8) (tO (π 8)) (tP (π 8)) (tN (π 8)) rs1 (nI (st j).q) ((st j).rows - m1) (st j).cols 0 P1 W1 → XA L own k f1 xa ta qa pr (tO (π 8)) zt → RQ L own k f1 adr qa ln zl → oe own [π 8, 100] f f1 → mt W1 ((st j).rows - m1) (st j).cols (fun i => A' (i + m1)) → ((z = false ∧ m1 = 0 ∧ A' = (st j).A) ∨ (z = true ∧ invX (st j).q (st j).cols (st j).cols (st j).rows (sp 0 (st j).cols (st j).rows (st j).A) (bsS set) (st j).A (st j).cols m1 A' pl1)) → lv_has ls 6 [(0, .ref xa), (1, .int (zI a)), (3, .int (zI d))] → gw D cls (tyl k) L s s.heap f1 H locs → W p l e (rmN 7) s m ([.ref xa, .int (zI a), .int (zI b), .int (zI d), .int (if z then 1 else 0)] : List Value).toArray below meth c H locs 0 0 (MQ below (va_Qi (fun r f' => ∃ π' st', CS L own k f' xa ta qa pr ln tO tP tN adr zl π' st' ∧ oe own CO f f' ∧ spLeave st a b d z st' r ∧ ∀ i, i < 8 → okT (st' i)) (mst D cls (tyl k) L) (fun q => q ∈ L)) ([.ref xa, .int (zI a), .int (zI b), .int (zI d), .int (if z then 1 else 0)] : List Value).toArray s 0 0 (fun q => q ∈ L)) (F0 m 97 ls []) := by
    intro f1 rs1 W1 P1 m1 A' pl1 H locs ls hT1 hX1 hR1 ho1 hA1 hdis hl hg
    have hw : kw D cls (tyl k) L s s.heap f1 [(xa, cA ta qa pr (tO (π 8))), (ta, cTs k zt)] H locs := ⟨f1, hg, xa_kn2 hX1⟩
    refine lv_aload_n hx hb d_A_leave_97 rfl (lv_at hl 0 rfl) ?_
    refine k_get hx hb hG lay_A hown hw 0 rfl rfl 3 (by decide) (hG _ fl_A_16) (fun _ h9 => h9) rfl d_A_leave_98 ?_
    refine lv_iload_n hx hb d_A_leave_101 rfl (lv_at hl 2 rfl) ?_
    have hw := hg
    refine l_top (show zI d = nI set by rw [hds]; rfl) ?_
    refine g_ov (c_V (np := 1) S (tb_dropColumns l D hT1 (by omega) hcl hset hA1) hw (hT1.1.1.1) (hT1.2.1) rfl ml_A_117 im_T_dropColumns se_T_T_dropColumns in_T co_T_dropColumns (by decide +kernel) rfl ⟨rfl, rfl, by decide, by decide⟩ hl.1 rfl (by simp [Value.category]) d_A_leave_102 ⟨Nat.zero_le _, Nat.zero_le _⟩) hw (fun f2 H locs hp2 hg => ?_)
    obtain ⟨W2, hT2, ho2, hA2⟩ := hp2
    have hX2 := hX1.keep ho2 (by simp; omega)
    have hR2 := hR1.keep ho2 (by simp; omega)
    have hA2' : mt W2 ((st j).rows - m1) (kc set (st j).cols) (fun i x => A' (i + m1) (kcl set (st j).cols x)) := fun x hx y hy => by
      obtain ⟨a1, a2, a3⟩ := kcl_of hy
      have := hA2 x hx _ a1 a2
      rw [a3] at this
      exact this
    obtain ⟨N, V, hXX, hI⟩ := leave_start hokj hred hdis id 4095
    have hkc := kc_le set (st j).cols
    have hw : kw D cls (tyl k) L s s.heap f2 [(xa, cA ta qa pr (tO (π 8))), (ta, cTs k zt)] H locs := ⟨f2, hg, xa_kn2 hX2⟩
    refine lv_aload_n hx hb d_A_leave_105 rfl (lv_at hl 0 rfl) ?_
    refine lv_iload_n hx hb d_A_leave_106 rfl (lv_at hl 1 rfl) ?_
    refine lv_aload_n hx hb d_A_leave_107 rfl (lv_at hl 0 rfl) ?_
    refine lv_aload_n hx hb d_A_leave_108 rfl (lv_at hl 0 rfl) ?_
    refine k_get hx hb hG lay_A hown hw 0 rfl rfl 3 (by decide) (hG _ fl_A_16) (fun _ h9 => h9) rfl d_A_leave_109 ?_
    refine lv_sipush (v := 4095) hx hb d_A_leave_112 (by decide) ?_
    have hw := hg
    refine g_oi (c_V (np := 2) S (tb_sweepX l D (set := 4095) hX2 hT2 hR2 (by omega) (by omega) (by omega) (by decide) (by omega) (by omega) hXX hA2' hI) hw (hX2.2.2.2.1.1) (hX2.1) rfl ml_A_69 im_A_sweep se_A_A_sweep in_A co_A_sweep (by decide +kernel) rfl ⟨rfl, rfl, by decide, by decide⟩ hl.1 rfl (by simp [Value.category]) d_A_leave_115 ⟨Nat.zero_le _, Nat.zero_le _⟩) hw (fun r4 f4 H locs hp4 hg => ?_)
    obtain ⟨hR4, n, rs4, W4, P4, A4, pl4, er, hn4, hT4, ho4, hA4, hI4, hP4⟩ := hp4
    subst er
    have hX4 := hX2.keep ho4 (by simp; omega)
    have hw := hg
    subst hai
    refine g_oi (c_V (np := 2) S (m_A_keepSpare l D hX4 hT4 (by omega) (i := i) (n := n) hi (hzt i hi)) hw (hX4.2.2.2.1.1) (hX4.1) rfl ml_A_107 im_A_keepSpare se_A_A_keepSpare in_A co_A_keepSpare (by decide +kernel) rfl ⟨rfl, rfl, by decide, by decide⟩ hl.1 rfl (by simp [Value.category]) d_A_leave_118 ⟨Nat.zero_le _, Nat.zero_le _⟩) hw (fun r5 f5 H locs hp5 hg => ?_)
    obtain ⟨er, hX5, hT5, ho5⟩ := hp5
    subst er
    have hL := inv_LR hXX (fun j hj => bs4095 j (by omega)) hI4
    have hV : ∀ x, leaveV (st j).q (st j).cols (st j).rows (st j).A set z x ↔ sp (st j).q (kc set (st j).cols) ((st j).rows - m1) (fun i x => A' (i + m1) (kcl set (st j).cols x)) x := fun x => by
      rcases hdis with ⟨e1, e2, e3⟩ | ⟨e1, e2⟩
      · subst e1
        subst e2
        subst e3
        exact leave_f (dmX hq) x
      · subst e1
        exact leave_t (dmX hq) (inv_swp e2) x
    have ho : oe own [π 8, 100, 101] f f5 := (ho1.mono (fun x hx => by simp at hx ⊢; omega)).trans ((ho2.mono (fun x hx => by simp at hx ⊢; omega)).trans ((ho4.mono (fun x hx => by simp at hx ⊢; omega)).trans (ho5.mono (fun x hx => by simp at hx ⊢; omega))))
    obtain ⟨g1, g2⟩ := CS_swap hcs hzt hi (y := mkT (st j).q n (kc set (st j).cols) true A4 pl4) hX5 ⟨rs4, P4, W4, hT5, fun x hx j hj => hA4 x (by have : x < n := hx; omega) j hj, fun _ x hx => hP4 x hx⟩ (hR4.keep ho5 (by simp; omega)) ho
    have hLT : LRT (st j).q (kc set (st j).cols) (leaveV (st j).q (st j).cols (st j).rows (st j).A set z) (mkT (st j).q n (kc set (st j).cols) true A4 pl4) := ⟨rfl, rfl, rfl, hL.1, hL.2.1, hL.2.2.1, fun x => (hV x).trans (hL.2.2.2 x)⟩
    have hoky := leave_ok hokj hred (fun ez => by
      rcases hdis with ⟨e1, -⟩ | ⟨-, e2⟩
      · rw [ez] at e1; cases e1
      · exact ⟨_, _, _, inv_swp e2⟩) hLT
    exact g_reti hx hb hr hlocks hg ⟨_, _, g1, g2, Or.inl ⟨i, j, set, ⟨rfl, hi, h1, hj, hred, hds, hset2⟩, _, hLT, rfl, rfl⟩, okT_up hok hoky⟩ d_A_leave_121
  refine lv_aload_n hx hb d_A_leave_35 rfl (lv_at hl 0 rfl) ?_
  refine k_get hx hb hG lay_A hown hw 0 rfl rfl 0 (by decide) (hG _ fl_A_11) (fun _ h9 => h9) rfl d_A_leave_36 ?_
  refine lv_iload_n hx hb d_A_leave_39 rfl (lv_at hl 2 rfl) ?_
  refine k_aald hx hb hw 1 2 rfl rfl (j) (by rw [h1]; rfl) (hj) (by first | decide | omega) (hzt j hj) d_A_leave_40 ?_
  refine lv_astore hx hb d_A_leave_41 hl (by decide) rfl (fun ls hl => ?_)
  refine lv_aload_n hx hb d_A_leave_43 rfl (lv_at hl 1 rfl) ?_
  refine k_get hx hb hG lay_A hown hw 0 rfl rfl 3 (by decide) (hG _ fl_A_16) (fun _ h9 => h9) rfl d_A_leave_44 ?_
  refine lv_aload hx hb d_A_leave_47 (lv_at hl 0 rfl) ?_
  refine k_get hx hb hG lay_T hown hw 2 rfl rfl 0 (by decide) (hG _ fl_A_56) (fun _ h9 => h9) rfl d_A_leave_49 ?_
  refine lv_aload hx hb d_A_leave_52 (lv_at hl 0 rfl) ?_
  refine k_get hx hb hG lay_T hown hw 2 rfl rfl 1 (by decide) (hG _ fl_A_73) (fun _ h9 => h9) rfl d_A_leave_54 ?_
  refine lv_aload hx hb d_A_leave_57 (lv_at hl 0 rfl) ?_
  refine k_get hx hb hG lay_T hown hw 2 rfl rfl 2 (by decide) (hG _ fl_A_91) (fun _ h9 => h9) rfl d_A_leave_59 ?_
  have hw := hg
  refine g_ov (c_V (np := 3) S (tb_start l D hS (fd' := nI (st j).q) (rows' := (st j).rows) (cols' := (st j).cols) (by omega)) hw (hS.1.1.1) (hS.2.1) rfl ml_A_44 im_T_start se_T_T_start in_T co_T_start (by decide +kernel) rfl ⟨rfl, rfl, by decide, by decide⟩ hl.1 rfl (by simp [Value.category]) d_A_leave_62 ⟨Nat.zero_le _, Nat.zero_le _⟩) hw (fun f2 H locs hp2 hg => ?_)
  obtain ⟨W2, hT2, ho2, hz2⟩ := hp2
  have hF2 := hT.keep ho2 (by simp; exact hne)
  have hX2 := hX.keep ho2 (by simp; omega)
  have hR2 := hR.keep ho2 (by simp; omega)
  have hw : kw D cls (tyl k) L s s.heap f2 [(xa, cA ta qa pr (tO (π 8))), (ta, cTs k zt)] H locs := ⟨f2, hg, xa_kn2 hX2⟩
  refine lv_aload_n hx hb d_A_leave_65 rfl (lv_at hl 1 rfl) ?_
  refine k_get hx hb hG lay_A hown hw 0 rfl rfl 3 (by decide) (hG _ fl_A_16) (fun _ h9 => h9) rfl d_A_leave_66 ?_
  refine lv_aload hx hb d_A_leave_69 (lv_at hl 0 rfl) ?_
  refine lv_iconst (v := 0) hx hb d_A_leave_71 (by decide) ?_
  refine lv_iconst (v := 0) hx hb d_A_leave_72 (by decide) ?_
  have hw := hg
  refine g_ov (c_V (np := 3) S (tb_copyNumbers l D hT2 hF2 hne (fr := 0) (fc := 0) (by omega) (by omega)) hw (hT2.1.1.1) (hT2.2.1) rfl ml_A_110 im_T_copyNumbers se_T_T_copyNumbers in_T co_T_copyNumbers (by decide +kernel) rfl ⟨rfl, rfl, by decide, by decide⟩ hl.1 rfl (by simp [Value.category]) d_A_leave_73 ⟨Nat.zero_le _, Nat.zero_le _⟩) hw (fun f3 H locs hp3 hg => ?_)
  obtain ⟨W3, hT3, ho3, -, hc3⟩ := hp3
  have hX3 := hX2.keep ho3 (by simp; omega)
  have hR3 := hR2.keep ho3 (by simp; omega)
  have hA3 : mt W3 (st j).rows (st j).cols (st j).A := fun x hx y hy => by
    have e := hc3 x hx
    rw [Nat.zero_add] at e
    rw [e]
    have := cpy_in (w := W2 x) (fc := 0) (hA x hx y hy) hy
    rwa [Nat.zero_add] at this
  have ho23 : oe own [π 8, 100] f f3 := (ho2.trans ho3).mono (fun x hx => by simp at hx ⊢; exact Or.inl hx)
  have hw : kw D cls (tyl k) L s s.heap f3 [(xa, cA ta qa pr (tO (π 8))), (ta, cTs k zt)] H locs := ⟨f3, hg, xa_kn2 hX3⟩
  refine lv_iload hx hb d_A_leave_76 (lv_at hl 5 rfl) ?_
  refine lv_if_eq (tgt := 97) hx hb d_A_leave_78 (by decide) (fun hc => ?_) (fun hc => ?_)
  · have hz : z = false := by
      cases z with
      | false => rfl
      | true => exact absurd hc (by decide)
    exact fin f3 rs0 W3 P0 0 (st j).A id H locs ls hT3 hX3 hR3 ho23 hA3 (Or.inl ⟨hz, rfl, rfl⟩) (lv_sub hl [1, 2, 4] rfl) hg
  have hz : z = true := by
    cases z with
    | true => rfl
    | false => exact absurd rfl hc
  obtain ⟨hXX, hI⟩ := self_start hokj hred id set
  refine lv_aload_n hx hb d_A_leave_81 rfl (lv_at hl 1 rfl) ?_
  refine k_get hx hb hG lay_A hown hw 0 rfl rfl 3 (by decide) (hG _ fl_A_16) (fun _ h9 => h9) rfl d_A_leave_82 ?_
  refine lv_aload_n hx hb d_A_leave_85 rfl (lv_at hl 1 rfl) ?_
  refine lv_aload_n hx hb d_A_leave_86 rfl (lv_at hl 1 rfl) ?_
  refine k_get hx hb hG lay_A hown hw 0 rfl rfl 3 (by decide) (hG _ fl_A_16) (fun _ h9 => h9) rfl d_A_leave_87 ?_
  refine lv_iload_n hx hb d_A_leave_90 rfl (lv_at hl 4 rfl) ?_
  have hw := hg
  refine l_top (show zI d = nI set by rw [hds]; rfl) ?_
  refine g_oi (c_V (np := 2) S (tb_sweepX l D (set := set) hX3 hT3 hR3 (by omega) (by omega) (by omega) hset hrw hcl hXX hA3 hI) hw (hX3.2.2.2.1.1) (hX3.1) rfl ml_A_69 im_A_sweep se_A_A_sweep in_A co_A_sweep (by decide +kernel) rfl ⟨rfl, rfl, by decide, by decide⟩ hl.1 rfl (by simp [Value.category]) d_A_leave_91 ⟨Nat.zero_le _, Nat.zero_le _⟩) hw (fun r4 f4 H locs hp4 hg => ?_)
  obtain ⟨hR4, n, rs4, W4, P4, A4, pl4, er, hn4, hT4, ho4, hA4, hI4, hP4⟩ := hp4
  subst er
  have hX4 := hX3.keep ho4 (by simp; omega)
  have hw := hg
  refine g_ov (c_V (np := 1) S (tb_dropFirstRows l D hT4 hrw hn4) hw (hT4.1.1.1) (hT4.2.1) rfl ml_A_113 im_T_dropFirstRows se_T_T_dropFirstRows in_T co_T_dropFirstRows (by decide +kernel) rfl ⟨rfl, rfl, by decide, by decide⟩ hl.1 rfl (by simp [Value.category]) d_A_leave_94 ⟨Nat.zero_le _, Nat.zero_le _⟩) hw (fun f5 H locs hp5 hg => ?_)
  obtain ⟨rs5, W5, hT5, ho5, hW5⟩ := hp5
  refine fin f5 rs5 W5 P4 n A4 pl4 H locs ls hT5 (hX4.keep ho5 (by simp; omega)) (hR4.keep ho5 (by simp; omega)) (ho23.trans (ho4.trans (ho5.mono (fun x hx => by simp at hx ⊢; exact Or.inl hx)))) (fun x hx y hy => ?_) (Or.inr ⟨hz, hI4⟩) (lv_sub hl [1, 2, 4] rfl) hg
  rw [hW5 x hx]
  exact hA4 (x + n) (by omega) y hy
end PUB5


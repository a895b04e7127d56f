-- ===== LineTables: begin put reduce turn =====
section PUB2
variable (l : Launch) (D : va_G) {L : List Nat} {own : Nat → Nat} {k : Nat → ClassId} {f : Nat → va_E} {xa ta qa pr ln : Nat} {tO tP tN adr : Nat → Nat} {zl : Nat → Option Nat} {π : Nat → Nat} {st : Nat → Tb}
set_option maxRecDepth 100000 in
set_option maxHeartbeats 4000000 in
theorem m_A_begin (h : CS L own k f xa ta qa pr ln tO tP tN adr zl π st) {a b c0 d : Int} (ha : rI a) (hb' : rI b) (hc' : rI c0) (hd : rI d) : Mi l y_A_begin (Cond.code y_A_begin c_A_begin 5 (some .boolean) :: G) (rmN 2) D cls (tyl k) L f [.ref xa, .int (zI a), .int (zI b), .int (zI c0), .int (zI d)] (fun r f' => ∃ st', CS L own k f' xa ta qa pr ln tO tP tN adr zl π st' ∧ oe own CO f f' ∧ spBegin st a b c0 d st' r) := by
  have hcs := h
  obtain ⟨zt, hX, hzt, hR, hπ, hC, hsp⟩ := h
  -- METHOD A_begin | loc 0=xa 1=a 2=b 3=c 4=d | ws xa ta t pa | fld xa.tables=ta
  refine mk_met (by decide) (Nat.le_of_ble_eq_true rfl) (fun p e s m below meth c ls S hr hlocks hw hl => ?_)
  have hx := S.1
  have hb := S.2.1
  have hown : s.vm.findClass R_A = some m.cls := S.2.2.2.1
  have hG := S.2.2.2.2
  have hl : lv_has ls 5 [(0, .ref xa), (1, .int (zI a)), (2, .int (zI b)), (3, .int (zI c0)), (4, .int (zI d))] := hl
  have hg := hw
  refine lv_iload_n hx hb d_A_begin_0 rfl (lv_at hl 1 rfl) ?_
  refine g_oi (c_X (np := 1) S (m_A_isTable l D k L f ha) hw ml_A_34 st_A_isTable in_A co_A_isTable (by decide +kernel) rfl ⟨rfl, rfl, by decide, by decide⟩ hl.1 rfl (by simp [Value.category]) d_A_begin_1 ⟨Nat.zero_le _, Nat.zero_le _⟩) hw (fun r1 f1 H locs hp hg => ?_)
  rw [hp.1] at hg
  refine l_top hp.2 ?_
  refine lv_if_eq (tgt := 29) hx hb d_A_begin_4 (by decide) (fun hc => ?_) (fun hc => ?_)
  · have hn : ¬ (0 ≤ a ∧ a < 8) := fun q => by rw [if_pos q] at hc; exact absurd hc (by decide)
    refine lv_iconst (v := 0) hx hb d_A_begin_29 (by decide) ?_
    exact g_retz hx hb hr hlocks hg rfl ⟨st, hcs, oe.rf, Or.inr ⟨fun q => hn ⟨q.1, q.2.1⟩, rfl, rfl⟩⟩ d_A_begin_30
  have h1 : 0 ≤ a ∧ a < 8 := Classical.byContradiction fun q => hc (if_neg q)
  have hw := hg
  refine lv_iload_n hx hb d_A_begin_7 rfl (lv_at hl 2 rfl) ?_
  refine g_oi (c_X (np := 1) S (m_A_isField l D k L f hb') hw ml_A_38 st_A_isField in_A co_A_isField (by decide +kernel) rfl ⟨rfl, rfl, by decide, by decide⟩ hl.1 rfl (by simp [Value.category]) d_A_begin_8 ⟨Nat.zero_le _, Nat.zero_le _⟩) hw (fun r1 f1 H locs hp hg => ?_)
  rw [hp.1] at hg
  rcases hp.2 with ⟨er, h2⟩ | ⟨er, h2⟩
  rotate_left
  · subst er
    refine lv_if_eq (tgt := 29) hx hb d_A_begin_11 (by decide) (fun hc => ?_) (fun hc => ?_)
    · refine lv_iconst (v := 0) hx hb d_A_begin_29 (by decide) ?_
      exact g_retz hx hb hr hlocks hg rfl ⟨st, hcs, oe.rf, Or.inr ⟨fun q => h2 q.2.2.1, rfl, rfl⟩⟩ d_A_begin_30
    · exact absurd rfl hc
  subst er
  refine lv_if_eq (tgt := 29) hx hb d_A_begin_11 (by decide) (fun hc => ?_) (fun hc => ?_)
  · exact absurd hc (by decide)
  have hw := hg
  refine lv_iload_n hx hb d_A_begin_14 rfl (lv_at hl 3 rfl) ?_
  refine g_oi (c_X (np := 1) S (m_A_isAmount l D k L f hc') hw ml_A_41 st_A_isAmount in_A co_A_isAmount (by decide +kernel) rfl ⟨rfl, rfl, by decide, by decide⟩ hl.1 rfl (by simp [Value.category]) d_A_begin_15 ⟨Nat.zero_le _, Nat.zero_le _⟩) hw (fun r1 f1 H locs hp hg => ?_)
  rw [hp.1] at hg
  refine l_top hp.2 ?_
  refine lv_if_eq (tgt := 29) hx hb d_A_begin_18 (by decide) (fun hc => ?_) (fun hc => ?_)
  · have hn : ¬ (0 ≤ c0 ∧ c0 ≤ 12) := fun q => by rw [if_pos q] at hc; exact absurd hc (by decide)
    refine lv_iconst (v := 0) hx hb d_A_begin_29 (by decide) ?_
    exact g_retz hx hb hr hlocks hg rfl ⟨st, hcs, oe.rf, Or.inr ⟨fun q => hn ⟨q.2.2.2.1, q.2.2.2.2.1⟩, rfl, rfl⟩⟩ d_A_begin_30
  have h3 : 0 ≤ c0 ∧ c0 ≤ 12 := Classical.byContradiction fun q => hc (if_neg q)
  have hw := hg
  refine lv_iload hx hb d_A_begin_21 (lv_at hl 4 rfl) ?_
  refine g_oi (c_X (np := 1) S (m_A_isAmount l D k L f hd) hw ml_A_41 st_A_isAmount in_A co_A_isAmount (by decide +kernel) rfl ⟨rfl, rfl, by decide, by decide⟩ hl.1 rfl (by simp [Value.category]) d_A_begin_23 ⟨Nat.zero_le _, Nat.zero_le _⟩) hw (fun r1 f1 H locs hp hg => ?_)
  rw [hp.1] at hg
  refine l_top hp.2 ?_
  refine lv_if_ne (tgt := 31) hx hb d_A_begin_26 (by decide) (fun hc => ?_) (fun hc => ?_)
  rotate_left
  · have hn : ¬ (0 ≤ d ∧ d ≤ 12) := fun q => by rw [if_pos q] at hc; exact absurd hc (by decide)
    refine lv_iconst (v := 0) hx hb d_A_begin_29 (by decide) ?_
    exact g_retz hx hb hr hlocks hg rfl ⟨st, hcs, oe.rf, Or.inr ⟨fun q => hn ⟨q.2.2.2.2.2.1, q.2.2.2.2.2.2⟩, rfl, rfl⟩⟩ d_A_begin_30
  have h4 : 0 ≤ d ∧ d ≤ 12 := Classical.byContradiction fun q => hc (if_neg q)
  obtain ⟨i, rfl⟩ : ∃ i : Nat, a = i := ⟨a.toNat, by omega⟩
  obtain ⟨rw0, rfl⟩ : ∃ i : Nat, c0 = i := ⟨c0.toNat, by omega⟩
  obtain ⟨cl0, rfl⟩ : ∃ i : Nat, d = i := ⟨d.toNat, by omega⟩
  obtain ⟨q, rfl, hq1, hq2⟩ := h2
  have hi : i < 8 := by omega
  obtain ⟨rs, P, Wt, hT, hA, hP⟩ := hC i hi
  have hw : kw D cls (tyl k) L s s.heap f [(xa, cA ta qa pr (tO (π 8))), (ta, cTs k zt), (tO (π i), cT (nI (st i).q) (nI (st i).rows) (nI (st i).cols) (if (st i).red then 1 else 0) (tP (π i)) (tN (π i))), (tP (π i), cP k P)] H locs := ⟨f, hg, xa_kn4 hX hT (by have := hπ.1 i (by omega); omega)⟩
  refine lv_aload_n hx hb d_A_begin_31 rfl (lv_at hl 0 rfl) ?_
  refine k_get hx hb hG lay_A hown hw 0 rfl rfl 0 (by decide) (hG _ fl_A_11) (fun _ h9 => h9) rfl d_A_begin_32 ?_
  refine lv_iload_n hx hb d_A_begin_35 rfl (lv_at hl 1 rfl) ?_
  refine k_aald hx hb hw 1 2 rfl rfl (i) (rfl) (hi) (by first | decide | omega) (hzt i hi) d_A_begin_36 ?_
  refine lv_iload_n hx hb d_A_begin_37 rfl (lv_at hl 2 rfl) ?_
  refine lv_iload_n hx hb d_A_begin_38 rfl (lv_at hl 3 rfl) ?_
  refine lv_iload hx hb d_A_begin_39 (lv_at hl 4 rfl) ?_
  have hw := hg
  refine g_ov (c_V (np := 3) S (tb_start l D hT (fd' := nI q) (rows' := rw0) (cols' := cl0) (by omega)) hw (hT.1.1.1) (hT.2.1) rfl ml_A_44 im_T_start se_T_T_start in_T co_T_start (by decide +kernel) rfl ⟨rfl, rfl, by decide, by decide⟩ hl.1 rfl (by simp [Value.category]) d_A_begin_41 ⟨Nat.zero_le _, Nat.zero_le _⟩) hw (fun f2 H locs hp hg => ?_)
  obtain ⟨W', hT', ho, hz⟩ := hp
  refine lv_iconst (v := 1) hx hb d_A_begin_44 (by decide) ?_
  have hpi := hπ.1 i (by omega)
  obtain ⟨g1, g2⟩ := CS_upd hcs hi (y := mkT q rw0 cl0 false (fun _ _ => 0) id) ⟨rs, P, W', hT', fun x hx j hj => nm_zero (hz x hx (j * 6) (by have : j < cl0 := hj; omega)), fun z => Bool.noConfusion z⟩ (hR.keep ho (by simp; omega)) (ho.mono (fun x hx => by simp at hx ⊢; exact Or.inl hx))
  exact g_retz hx hb hr hlocks hg rfl ⟨_, g1, g2, Or.inl ⟨i, q, rw0, cl0, rfl, hi, rfl, hq1, hq2, rfl, by omega, rfl, by omega, rfl, rfl⟩⟩ d_A_begin_45
set_option maxRecDepth 100000 in
set_option maxHeartbeats 4000000 in
theorem m_A_put (h : CS L own k f xa ta qa pr ln tO tP tN adr zl π st) (hok : ∀ i, i < 8 → okT (st i)) {a b c0 d : Int} (ha : rI a) (hb' : rI b) (hc' : rI c0) (hd : rI d) : Mi l y_A_put (Cond.code y_A_put c_A_put 6 (some .boolean) :: G) (rmN 2) D cls (tyl k) L f [.ref xa, .int (zI a), .int (zI b), .int (zI c0), .int (zI d)] (fun r f' => ∃ st', CS L own k f' xa ta qa pr ln tO tP tN adr zl π st' ∧ oe own CO f f' ∧ spPut st a b c0 d st' r) := by
  have hcs := h
  have z1 : (-999 : Int32) = zI (-999) := by decide
  have z2 : (999 : Int32) = zI 999 := by decide
  have r1 : rI (-999) := ⟨by decide, by decide⟩
  have r2 : rI 999 := ⟨by decide, by decide⟩
  obtain ⟨zt, hX, hzt, hR, hπ, hC, hsp⟩ := h
  -- METHOD A_put | loc 0=xa 1=a 2=b 3=c 4=d | ws xa ta t pa | fld xa.tables=ta
  refine mk_met (by decide) (Nat.le_of_ble_eq_true rfl) (fun p e s m below meth c ls S hr hlocks hw hl => ?_)
  have hx := S.1
  have hb := S.2.1
  have hown : s.vm.findClass R_A = some m.cls := S.2.2.2.1
  have hG := S.2.2.2.2
  have hl : lv_has ls 6 [(0, .ref xa), (1, .int (zI a)), (2, .int (zI b)), (3, .int (zI c0)), (4, .int (zI d))] := hl
  have hg := hw
  refine lv_aload_n hx hb d_A_put_0 rfl (lv_at hl 0 rfl) ?_
  refine lv_iload_n hx hb d_A_put_1 rfl (lv_at hl 1 rfl) ?_
  refine lv_iload_n hx hb d_A_put_2 rfl (lv_at hl 2 rfl) ?_
  refine lv_iload_n hx hb d_A_put_3 rfl (lv_at hl 3 rfl) ?_
  refine g_oi (c_V (np := 3) S (m_A_hasNumber l D hcs hok ha hb' hc') hw (hX.2.2.2.1.1) (hX.1) rfl ml_A_48 im_A_hasNumber se_A_A_hasNumber in_A co_A_hasNumber (by decide +kernel) rfl ⟨rfl, rfl, by decide, by decide⟩ hl.1 rfl (by simp [Value.category]) d_A_put_4 ⟨Nat.zero_le _, Nat.zero_le _⟩) hw (fun r1 f1 H locs hp hg => ?_)
  obtain ⟨e1, hp⟩ := hp
  rw [e1] at hg
  rcases hp with ⟨er, i, x, y, h1, hi, h2, h3, hxr, hyc⟩ | ⟨er, hno⟩
  rotate_left
  · subst er
    refine lv_if_eq (tgt := 38) hx hb d_A_put_7 (by decide) (fun hc => ?_) (fun hc => ?_)
    · refine lv_iconst (v := 0) hx hb d_A_put_38 (by decide) ?_
      exact g_retz hx hb hr hlocks hg rfl ⟨st, hcs, oe.rf, Or.inr ⟨fun ⟨⟨j, x, y, q, _⟩, _⟩ => hno ⟨j, x, y, q⟩, rfl, rfl⟩⟩ d_A_put_39
    · exact absurd rfl hc
  subst er
  subst h1
  subst h2
  subst h3
  obtain ⟨rs, P, Wt, hT, hA, hP⟩ := hC i hi
  obtain ⟨hq, h251, hrw, hcl, -⟩ := hok i hi
  have hw : kw D cls (tyl k) L s s.heap f [(xa, cA ta qa pr (tO (π 8))), (ta, cTs k zt), (tO (π i), cT (nI (st i).q) (nI (st i).rows) (nI (st i).cols) (if (st i).red then 1 else 0) (tP (π i)) (tN (π i))), (tP (π i), cP k P)] H locs := ⟨f, hg, xa_kn4 hX hT (by have := hπ.1 i (by omega); omega)⟩
  refine lv_if_eq (tgt := 38) hx hb d_A_put_7 (by decide) (fun hc => ?_) (fun hc => ?_)
  · exact absurd hc (by decide)
  refine lv_aload_n hx hb d_A_put_10 rfl (lv_at hl 0 rfl) ?_
  refine k_get hx hb hG lay_A hown hw 0 rfl rfl 0 (by decide) (hG _ fl_A_11) (fun _ h9 => h9) rfl d_A_put_11 ?_
  refine lv_iload_n hx hb d_A_put_14 rfl (lv_at hl 1 rfl) ?_
  refine k_aald hx hb hw 1 2 rfl rfl (i) (rfl) (hi) (by first | decide | omega) (hzt i hi) d_A_put_15 ?_
  refine k_get hx hb hG lay_T hown hw 2 rfl rfl 3 (by decide) (hG _ fl_A_52) (fun _ h9 => h9) rfl d_A_put_16 ?_
  refine lv_if_ne (tgt := 38) hx hb d_A_put_19 (by decide) (fun hc => ?_) (fun hc => ?_)
  · have hr0 : (st i).red = true := Classical.byContradiction fun q => hc (by rw [if_neg q])
    refine lv_iconst (v := 0) hx hb d_A_put_38 (by decide) ?_
    refine g_retz hx hb hr hlocks hg rfl ⟨st, hcs, oe.rf, Or.inr ⟨fun ⟨⟨j, x, y, q, q2⟩, _⟩ => ?_, rfl, rfl⟩⟩ d_A_put_39
    have e : i = j := by have := q.1; omega
    rw [← e, hr0] at q2
    cases q2
  have hr0 : (st i).red = false := by
    cases hh : (st i).red with
    | false => rfl
    | true => rw [hh] at hc; exact absurd hc (by decide)
  refine lv_iload hx hb d_A_put_22 (lv_at hl 4 rfl) ?_
  refine lv_sipush (v := (-999)) hx hb d_A_put_24 (by decide) ?_
  refine lv_icmp_lt (tgt := 38) hx hb d_A_put_27 (by decide) (fun hc => ?_) (fun hc => ?_)
  · rw [z1] at hc
    have hn := (zI_lt hd r1).mp hc
    refine lv_iconst (v := 0) hx hb d_A_put_38 (by decide) ?_
    exact g_retz hx hb hr hlocks hg rfl ⟨st, hcs, oe.rf, Or.inr ⟨fun ⟨_, q, _⟩ => by omega, rfl, rfl⟩⟩ d_A_put_39
  have hn1 : ¬ d < -999 := fun q => hc (by rw [z1]; exact (zI_lt hd r1).mpr q)
  refine lv_iload hx hb d_A_put_30 (lv_at hl 4 rfl) ?_
  refine lv_sipush (v := 999) hx hb d_A_put_32 (by decide) ?_
  refine lv_icmp_le (tgt := 40) hx hb d_A_put_35 (by decide) (fun hc => ?_) (fun hc => ?_)
  rotate_left
  · have hn : ¬ d ≤ 999 := fun q => hc (by rw [z2]; exact (zI_le hd r2).mpr q)
    refine lv_iconst (v := 0) hx hb d_A_put_38 (by decide) ?_
    exact g_retz hx hb hr hlocks hg rfl ⟨st, hcs, oe.rf, Or.inr ⟨fun ⟨_, _, q⟩ => hn q, rfl, rfl⟩⟩ d_A_put_39
  rw [z2] at hc
  have hn2 := (zI_le hd r2).mp hc
  refine lv_aload_n hx hb d_A_put_40 rfl (lv_at hl 0 rfl) ?_
  refine k_get hx hb hG lay_A hown hw 0 rfl rfl 0 (by decide) (hG _ fl_A_11) (fun _ h9 => h9) rfl d_A_put_41 ?_
  refine lv_iload_n hx hb d_A_put_44 rfl (lv_at hl 1 rfl) ?_
  refine k_aald hx hb hw 1 2 rfl rfl (i) (rfl) (hi) (by first | decide | omega) (hzt i hi) d_A_put_45 ?_
  refine k_get hx hb hG lay_T hown hw 2 rfl rfl 0 (by decide) (hG _ fl_A_56) (fun _ h9 => h9) rfl d_A_put_46 ?_
  refine lv_istore hx hb d_A_put_49 hl (by decide) rfl (fun ls hl => ?_)
  refine lv_aload_n hx hb d_A_put_51 rfl (lv_at hl 1 rfl) ?_
  refine k_get hx hb hG lay_A hown hw 0 rfl rfl 0 (by decide) (hG _ fl_A_11) (fun _ h9 => h9) rfl d_A_put_52 ?_
  refine lv_iload_n hx hb d_A_put_55 rfl (lv_at hl 2 rfl) ?_
  refine k_aald hx hb hw 1 2 rfl rfl (i) (rfl) (hi) (by first | decide | omega) (hzt i hi) d_A_put_56 ?_
  refine lv_iload_n hx hb d_A_put_57 rfl (lv_at hl 3 rfl) ?_
  refine lv_iload_n hx hb d_A_put_58 rfl (lv_at hl 4 rfl) ?_
  refine lv_iload hx hb d_A_put_59 (lv_at hl 0 rfl) ?_
  have fin : ∀ (f' : Nat → va_E) (H : Heap) (locs : List Loc) (ls : Array Slot) (v : Int), v = (if (st i).q = 0 then d else d % (st i).q) → (∃ w1, TB L own k f' (π i) (tO (π i)) (tP (π i)) (tN (π i)) rs (nI (st i).q) (st i).rows (st i).cols (if (st i).red then 1 else 0) P (va_up Wt x w1) ∧ oe own [π i] f f' ∧ nm w1 y v ∧ ∀ j u, j ≠ y → nm (Wt x) j u → nm w1 j u) → gw D cls (tyl k) L s s.heap f' H locs → W p l e (rmN 2) s m ([.ref xa, .int (zI i), .int (zI x), .int (zI y), .int (zI d)] : List Value).toArray below meth c H locs 0 0 (MQ below (va_Qi (fun r f' => ∃ st', CS L own k f' xa ta qa pr ln tO tP tN adr zl π st' ∧ oe own CO f f' ∧ spPut st (i : Int) (x : Int) (y : Int) d st' r) (mst D cls (tyl k) L) (fun q => q ∈ L)) ([.ref xa, .int (zI i), .int (zI x), .int (zI y), .int (zI d)] : List Value).toArray s 0 0 (fun q => q ∈ L)) (F0 m 79 ls []) := by
    intro f' H locs ls v ev hp hg
    obtain ⟨w1, hT', ho, hw1, hw2⟩ := hp
    refine lv_iconst (v := 1) hx hb d_A_put_79 (by decide) ?_
    have hpi := hπ.1 i (by omega)
    have hmt : ∀ x', x' < (st i).rows → ∀ j, j < (st i).cols → nm (va_up Wt x w1 x') j ((putT (st i) x y d).A x' j) := fun x' hx' j hj => by
      show nm (va_up Wt x w1 x') j (va_up (st i).A x (va_up ((st i).A x) y (if (st i).q = 0 then d else d % (st i).q)) x' j)
      by_cases ex : x' = x
      · rw [ex, va_up_self, va_up_self]
        by_cases ey : j = y
        · rw [ey, va_up_self, ← ev]; exact hw1
        · rw [va_up_ne _ _ ey]; exact hw2 j _ ey (hA x hxr j hj)
      · rw [va_up_ne _ _ ex, va_up_ne _ _ ex]; exact hA x' hx' j hj
    obtain ⟨g1, g2⟩ := CS_upd hcs hi (y := putT (st i) x y d) ⟨rs, P, va_up Wt x w1, by rw [hr0] at hT'; exact hT', hmt, fun z => Bool.noConfusion z⟩ (hR.keep ho (by simp; omega)) (ho.mono (fun x hx => by simp at hx ⊢; exact Or.inl hx))
    exact g_retz hx hb hr hlocks hg rfl ⟨_, g1, g2, Or.inl ⟨i, x, y, ⟨rfl, hi, rfl, rfl, hxr, hyc⟩, hr0, by omega, hn2, rfl, rfl⟩⟩ d_A_put_80
  have hsm : ∀ v : Int, v = (if (st i).q = 0 then d else d % (st i).q) → v.natAbs < B30 := fun v ev => by
    rw [ev]
    unfold B30
    by_cases h0 : (st i).q = 0
    · rw [if_pos h0]; omega
    · rw [if_neg h0]
      have := Int.emod_nonneg d (show ((st i).q : Int) ≠ 0 by omega)
      have := Int.emod_lt_of_pos d (show (0 : Int) < (st i).q by omega)
      omega
  refine lv_if_ne (tgt := 69) hx hb d_A_put_61 (by decide) (fun hc => ?_) (fun hc => ?_)
  · have h0 : (st i).q ≠ 0 := fun q => hc (by rw [q]; rfl)
    refine lv_iload hx hb d_A_put_69 (lv_at hl 5 rfl) ?_
    refine lv_iload hx hb d_A_put_71 (lv_at hl 0 rfl) ?_
    have hw := hg
    refine g_oi (c_X (np := 2) S (m_floorMod l D k L f d (st i).q hd (by omega) (rI_n (by omega))) hw ml_A_60 st_JM_floorMod in_JM co_JM_floorMod (by decide +kernel) rfl ⟨rfl, rfl, by decide, by decide⟩ hl.1 rfl (by simp [Value.category]) d_A_put_73 ⟨Nat.zero_le _, Nat.zero_le _⟩) hw (fun r3 f3 H locs hp3 hg => ?_)
    rw [hp3.1] at hg
    refine l_top hp3.2 ?_
    have hw := hg
    have ev : d % (st i).q = (if (st i).q = 0 then d else d % (st i).q) := by rw [if_neg h0]
    refine g_ov (c_V (np := 3) S (tb_setSmall l D hT (row := x) (col := y) (by omega) (by omega) (hsm _ ev)) hw (hT.1.1.1) (hT.2.1) rfl ml_A_66 im_T_setSmall se_T_T_setSmall in_T co_T_setSmall (by decide +kernel) rfl ⟨rfl, rfl, by decide, by decide⟩ hl.1 rfl (by simp [Value.category]) d_A_put_76 ⟨Nat.zero_le _, Nat.zero_le _⟩) hw (fun f4 H locs hp4 hg => ?_)
    exact fin f4 H locs ls _ ev hp4 hg
  · have h0 : (st i).q = 0 := Classical.byContradiction fun q => nI_ne0 (by omega) (by omega) hc
    have ev : d = (if (st i).q = 0 then d else d % (st i).q) := by rw [if_pos h0]
    refine lv_iload hx hb d_A_put_64 (lv_at hl 5 rfl) ?_
    refine lv_goto (tgt := 76) hx hb d_A_put_66 (by decide) ?_
    have hw := hg
    refine g_ov (c_V (np := 3) S (tb_setSmall l D hT (row := x) (col := y) (by omega) (by omega) (hsm _ ev)) hw (hT.1.1.1) (hT.2.1) rfl ml_A_66 im_T_setSmall se_T_T_setSmall in_T co_T_setSmall (by decide +kernel) rfl ⟨rfl, rfl, by decide, by decide⟩ hl.1 rfl (by simp [Value.category]) d_A_put_76 ⟨Nat.zero_le _, Nat.zero_le _⟩) hw (fun f4 H locs hp4 hg => ?_)
    exact fin f4 H locs ls _ ev hp4 hg
end PUB2


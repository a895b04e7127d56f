-- ===== LineTables: reduce turn keepSpare =====
section AST
variable {p : Program} {l : Launch} {e : Env} {R : Room} {s : State} {m : MethodId} {args : Array Value} {below : List Frame} {meth : Method} {c : Code} {H : Heap} {locs : List Loc} {cells slots : Nat} {Q : State → Prop}
variable {cc : ByteArray} {pc : Nat} {ls : Array Slot} {rest : List Value} {D : va_G} {cl : List vw_C} {a : Nat} {tys : List (ClassId × FieldType)} {H0 : Heap} {L : List Nat} {f f0 : Nat → va_E} {ws : va_W}
theorem g_aastO (hexec : p.tables.exec = Jvm.exec) (hb : c.code = cc) (hw : gw D cl tys L s H0 f H locs) (ha : a ∈ L) (t0 ci : Nat) {cA : ClassId} {r : vw_C} {n v : Nat} {vs : List Value} {z : Nat → Option Nat} (he : f a = .inl (cA, n, .inr (.inr (.inr (.inr z))))) (ht : tys[t0]? = some (cA, .object r.1)) (hv : v ∈ L) (hev : f v = .inr (ci, vs)) (hc : cl[ci]? = some r) {i : Int32} (k : Nat) (hi : i = nI k) (hk : k < n) (hn : n < 2 ^ 31) (hdg : decode cc pc = .ok (.aastore, 1))
    (kk : ∀ (H1 : Heap) (locs1 : List Loc), gw D cl tys L s H0 (va_up f a (.inl (cA, n, .inr (.inr (.inr (.inr (va_up z k (some v)))))))) H1 locs1 → W p l e R s m args below meth c H1 locs1 cells slots Q (F0 m (pc + 1) ls rest)) : W p l e R s m args below meth c H locs cells slots Q (F0 m pc ls (.ref v :: .int i :: .ref a :: rest)) := by
  obtain ⟨q0, hq⟩ := pl_ix ha he
  obtain ⟨q1, hq1⟩ := pl_ix hv hev
  subst hi
  refine va_astq hexec hb hw.1.1 hw.2.1 hw.2.2.1 hw.2.2.2 q0 t0 q1 ci hq ht hq1 hc (vp_in_nI hk hn) hdg (fun H1 locs1 h1 h2 h3 => ?_)
  rw [nI_clamp (by omega), pl_up hw.2.2.1 ha he hq] at h1 h2
  exact kk H1 locs1 ⟨hw.1, h1, h2, h3⟩
theorem k_aastO (hexec : p.tables.exec = Jvm.exec) (hb : c.code = cc) (hw : kw D cl tys L s H0 f0 ws H locs) (q0 t0 qv ci : Nat) {cA : ClassId} {r : vw_C} {n v : Nat} {vs : List Value} {z : Nat → Option Nat} (he : ws[q0]? = some (a, .inl (cA, n, .inr (.inr (.inr (.inr z)))))) (ht : tys[t0]? = some (cA, .object r.1)) (hev : ws[qv]? = some (v, .inr (ci, vs))) (hc : cl[ci]? = some r) {i : Int32} (k : Nat) (hi : i = nI k) (hk : k < n) (hn : n < 2 ^ 31) (hdg : decode cc pc = .ok (.aastore, 1))
    (kk : ∀ (H1 : Heap) (locs1 : List Loc), kw D cl tys L s H0 f0 (ws.set q0 (a, .inl (cA, n, .inr (.inr (.inr (.inr (va_up z k (some v)))))))) H1 locs1 → W p l e R s m args below meth c H1 locs1 cells slots Q (F0 m (pc + 1) ls rest)) : W p l e R s m args below meth c H locs cells slots Q (F0 m pc ls (.ref v :: .int i :: .ref a :: rest)) := by
  obtain ⟨f, h1, h2⟩ := hw
  obtain ⟨g1, g2⟩ := h2.1 q0 _ he
  obtain ⟨g3, g4⟩ := h2.1 qv _ hev
  exact g_aastO hexec hb h1 g1 t0 ci g2 ht g3 g4 hc k hi hk hn hdg (fun H1 locs1 hg => kk H1 locs1 ⟨_, hg, kn_put h2 he⟩)
end AST
def spReduce (st : Nat → Tb) (a : Int) (st' : Nat → Tb) (r : Int32) : Prop := (∃ i : Nat, a = i ∧ i < 8 ∧ (((st i).red = true ∧ st' = st ∧ r = nI (st i).rows) ∨ ((st i).red = false ∧ ∃ y, LRT (st i).q (st i).cols (sp (st i).q (st i).cols (st i).rows (st i).A) y ∧ st' = va_up st i y ∧ r = nI y.rows))) ∨ (¬ (0 ≤ a ∧ a < 8) ∧ st' = st ∧ r = -1)
def spTurn (st : Nat → Tb) (a b d : Int) (st' : Nat → Tb) (r : Int32) : Prop := (∃ i x y, isAt st a b d i x y ∧ (st i).red = true ∧ (st i).A x y ≠ 0 ∧ ∃ t, TRN (st i) x y t ∧ st' = va_up st i t ∧ r = nI ((st i).pl x)) ∨ (¬ (∃ i x y, isAt st a b d i x y ∧ (st i).red = true ∧ (st i).A x y ≠ 0) ∧ st' = st ∧ r = -1)
section PUB3
variable (l : Launch) (D : va_G) {L : List Nat} {own : Nat → Nat} {k : Nat → ClassId} {f : Nat → va_E} {xa ta qa pr ln : Nat} {tO tP tN adr : Nat → Nat} {zl : Nat → Option Nat} {π : Nat → Nat} {st : Nat → Tb}
set_option maxRecDepth 100000 in
set_option maxHeartbeats 4000000 in
theorem m_A_reduce (h : CS L own k f xa ta qa pr ln tO tP tN adr zl π st) (hok : ∀ i, i < 8 → okT (st i)) {a : Int} (ha : rI a) : Mi l y_A_reduce (Cond.code y_A_reduce c_A_reduce 3 (some .int) :: G) (rmN 7) D cls (tyl k) L f [.ref xa, .int (zI a)] (fun r f' => ∃ st', CS L own k f' xa ta qa pr ln tO tP tN adr zl π st' ∧ oe own CO f f' ∧ spReduce st a st' r) := by
  have hcs := h
  obtain ⟨zt, hX, hzt, hR, hπ, hC, hsp⟩ := h
  -- METHOD A_reduce | loc 0=xa 1=a | ws xa ta t pa | fld xa.tables=ta
  refine mk_met (by decide) (Nat.le_of_ble_eq_true rfl) (fun p e s m below meth c ls S hr hlocks hw hl => ?_)
  have hx := S.1
  have hb := S.2.1
  have hown : s.vm.findClass R_A = some m.cls := S.2.2.2.1
  have hG := S.2.2.2.2
  have hl : lv_has ls 3 [(0, .ref xa), (1, .int (zI a))] := hl
  have hg := hw
  refine lv_iload_n hx hb d_A_reduce_0 rfl (lv_at hl 1 rfl) ?_
  refine g_oi (c_X (np := 1) S (m_A_isTable l D k L f ha) hw ml_A_34 st_A_isTable in_A co_A_isTable (by decide +kernel) rfl ⟨rfl, rfl, by decide, by decide⟩ hl.1 rfl (by simp [Value.category]) d_A_reduce_1 ⟨Nat.zero_le _, Nat.zero_le _⟩) hw (fun r1 f1 H locs hp hg => ?_)
  rw [hp.1] at hg
  refine l_top hp.2 ?_
  refine lv_if_ne (tgt := 9) hx hb d_A_reduce_4 (by decide) (fun hc => ?_) (fun hc => ?_)
  rotate_left
  · have hn : ¬ (0 ≤ a ∧ a < 8) := fun q => by rw [if_pos q] at hc; exact absurd hc (by decide)
    refine lv_iconst (v := (-1)) hx hb d_A_reduce_7 (by decide) ?_
    exact g_reti hx hb hr hlocks hg ⟨st, hcs, oe.rf, Or.inr ⟨hn, rfl, rfl⟩⟩ d_A_reduce_8
  have hn : 0 ≤ a ∧ a < 8 := Classical.byContradiction fun q => hc (if_neg q)
  obtain ⟨i, rfl⟩ : ∃ i : Nat, a = i := ⟨a.toNat, by omega⟩
  have hi : i < 8 := by omega
  obtain ⟨rs, P, Wt, hT, hA, hP⟩ := hC i hi
  have hoki := hok i hi
  obtain ⟨hq, h251, hrw, hcl, -⟩ := hok i hi
  have hpi := hπ.1 i (by omega)
  have hw : kw D cls (tyl k) L s s.heap f [(xa, cA ta qa pr (tO (π 8))), (ta, cTs k zt), (tO (π i), cT (nI (st i).q) (nI (st i).rows) (nI (st i).cols) (if (st i).red then 1 else 0) (tP (π i)) (tN (π i))), (tP (π i), cP k P)] H locs := ⟨f, hg, xa_kn4 hX hT (by have := hπ.1 i (by omega); omega)⟩
  refine lv_aload_n hx hb d_A_reduce_9 rfl (lv_at hl 0 rfl) ?_
  refine k_get hx hb hG lay_A hown hw 0 rfl rfl 0 (by decide) (hG _ fl_A_11) (fun _ h9 => h9) rfl d_A_reduce_10 ?_
  refine lv_iload_n hx hb d_A_reduce_13 rfl (lv_at hl 1 rfl) ?_
  refine k_aald hx hb hw 1 2 rfl rfl (i) (rfl) (hi) (by first | decide | omega) (hzt i hi) d_A_reduce_14 ?_
  refine lv_astore_n hx hb d_A_reduce_15 rfl hl (by decide) rfl (fun ls hl => ?_)
  refine lv_aload_n hx hb d_A_reduce_16 rfl (lv_at hl 0 rfl) ?_
  refine k_get hx hb hG lay_T hown hw 2 rfl rfl 3 (by decide) (hG _ fl_A_52) (fun _ h9 => h9) rfl d_A_reduce_17 ?_
  refine lv_if_ne (tgt := 40) hx hb d_A_reduce_20 (by decide) (fun hc => ?_) (fun hc => ?_)
  · have hr0 : (st i).red = true := Classical.byContradiction fun q => hc (by rw [if_neg q])
    refine lv_aload_n hx hb d_A_reduce_40 rfl (lv_at hl 0 rfl) ?_
    refine k_get hx hb hG lay_T hown hw 2 rfl rfl 1 (by decide) (hG _ fl_A_73) (fun _ h9 => h9) rfl d_A_reduce_41 ?_
    exact g_reti hx hb hr hlocks hg ⟨st, hcs, oe.rf, Or.inl ⟨i, rfl, hi, Or.inl ⟨hr0, rfl, rfl⟩⟩⟩ d_A_reduce_44
  have hr0 : (st i).red = false := by
    cases hh : (st i).red with
    | false => rfl
    | true => rw [hh] at hc; exact absurd hc (by decide)
  obtain ⟨N, V, hXX, hI⟩ := red_start hoki hr0 id 4095
  refine lv_aload_n hx hb d_A_reduce_23 rfl (lv_at hl 0 rfl) ?_
  refine lv_aload_n hx hb d_A_reduce_24 rfl (lv_at hl 1 rfl) ?_
  refine lv_aload_n hx hb d_A_reduce_25 rfl (lv_at hl 0 rfl) ?_
  refine lv_sipush (v := 4095) hx hb d_A_reduce_26 (by decide) ?_
  have hw := hg
  refine g_oi (c_V (np := 2) S (tb_sweepX l D (set := 4095) hX hT hR (by omega) (by omega) (by omega) (by decide) hrw hcl hXX hA hI) hw (hX.2.2.2.1.1) (hX.1) rfl ml_A_69 im_A_sweep se_A_A_sweep in_A co_A_sweep (by decide +kernel) rfl ⟨rfl, rfl, by decide, by decide⟩ hl.1 rfl (by simp [Value.category]) d_A_reduce_29 ⟨Nat.zero_le _, Nat.zero_le _⟩) hw (fun r3 f3 H locs hp3 hg => ?_)
  obtain ⟨hR3, n, rs3, W3, P3, A3, pl3, er, hn3, hT3, ho3, hA3, hI3, hP3⟩ := hp3
  subst er
  have hw : kw D cls (tyl k) L s s.heap f3 [(tO (π i), cT (nI (st i).q) (nI (st i).rows) (nI (st i).cols) (if (st i).red then 1 else 0) (tP (π i)) (tN (π i)))] H locs := ⟨f3, hg, hT3.kn1⟩
  refine k_put (ty := .int) hx hb hG lay_T ft_T ft_T_ok fn_T hown hw 0 rfl rfl 1 (by decide) (hG _ fl_A_73) (fun _ h9 => h9) rfl (by decide +kernel) rfl rfl (by simp) d_A_reduce_32 (fun H locs hw => ?_)
  refine lv_aload_n hx hb d_A_reduce_35 rfl (lv_at hl 0 rfl) ?_
  refine lv_iconst (v := 1) hx hb d_A_reduce_36 (by decide) ?_
  refine k_put (ty := .boolean) hx hb hG lay_T ft_T ft_T_ok fn_T hown hw 0 rfl rfl 3 (by decide) (hG _ fl_A_52) (fun _ h9 => h9) rfl (by decide +kernel) rfl rfl (by simp) d_A_reduce_37 (fun H locs hw => ?_)
  refine lv_aload_n hx hb d_A_reduce_40 rfl (lv_at hl 0 rfl) ?_
  refine k_get hx hb hG lay_T hown hw 0 rfl rfl 1 (by decide) (hG _ fl_A_73) (fun _ h9 => h9) rfl d_A_reduce_41 ?_
  obtain ⟨f4, hg, hk4⟩ := hw
  obtain ⟨hT4, ho4⟩ := hT3.obj (rd' := 1) hk4
  have ho : oe own [π i, 100] f f4 := ho3.trans (ho4.mono (fun x hx => by simp at hx ⊢; exact Or.inl hx))
  have hL := inv_LR hXX (fun j hj => bs4095 j (by omega)) hI3
  obtain ⟨g1, g2⟩ := CS_upd hcs hi (y := mkT (st i).q n (st i).cols true A3 pl3) ⟨rs3, P3, W3, hT4, fun x hx j hj => hA3 x (by have : x < n := hx; omega) j hj, fun _ x hx => hP3 x hx⟩ (hR3.keep ho4 (by simp; omega)) ho
  exact g_reti hx hb hr hlocks hg ⟨_, g1, g2, Or.inl ⟨i, rfl, hi, Or.inr ⟨hr0, mkT (st i).q n (st i).cols true A3 pl3, ⟨rfl, rfl, rfl, hL⟩, rfl, rfl⟩⟩⟩ d_A_reduce_44
set_option maxRecDepth 100000 in
set_option maxHeartbeats 4000000 in
theorem m_A_turn (h : CS L own k f xa ta qa pr ln tO tP tN adr zl π st) (hok : ∀ i, i < 8 → okT (st i)) {a b d : Int} (ha : rI a) (hb' : rI b) (hd : rI d) : Mi l y_A_turn (Cond.code y_A_turn c_A_turn 5 (some .int) :: G) (rmN 6) D cls (tyl k) L f [.ref xa, .int (zI a), .int (zI b), .int (zI d)] (fun r f' => ∃ st', CS L own k f' xa ta qa pr ln tO tP tN adr zl π st' ∧ oe own CO f f' ∧ spTurn st a b d st' r) := by
  have hcs := h
  obtain ⟨zt, hX, hzt, hR, hπ, hC, hsp⟩ := h
  -- METHOD A_turn | loc 0=xa 1=a 2=b 3=d | ws xa ta t pa | fld xa.tables=ta t.places=pa
  refine mk_met (by decide) (Nat.le_of_ble_eq_true rfl) (fun p e s m below meth c ls S hr hlocks hw hl => ?_)
  have hx := S.1
  have hb := S.2.1
  have hown : s.vm.findClass R_A = some m.cls := S.2.2.2.1
  have hG := S.2.2.2.2
  have hl : lv_has ls 5 [(0, .ref xa), (1, .int (zI a)), (2, .int (zI b)), (3, .int (zI d))] := hl
  have hg := hw
  refine lv_aload_n hx hb d_A_turn_0 rfl (lv_at hl 0 rfl) ?_
  refine lv_iload_n hx hb d_A_turn_1 rfl (lv_at hl 1 rfl) ?_
  refine lv_iload_n hx hb d_A_turn_2 rfl (lv_at hl 2 rfl) ?_
  refine lv_iload_n hx hb d_A_turn_3 rfl (lv_at hl 3 rfl) ?_
  refine g_oi (c_V (np := 3) S (m_A_hasNumber l D hcs hok ha hb' hd) hw (hX.2.2.2.1.1) (hX.1) rfl ml_A_48 im_A_hasNumber se_A_A_hasNumber in_A co_A_hasNumber (by decide +kernel) rfl ⟨rfl, rfl, by decide, by decide⟩ hl.1 rfl (by simp [Value.category]) d_A_turn_4 ⟨Nat.zero_le _, Nat.zero_le _⟩) hw (fun r1 f1 H locs hp hg => ?_)
  obtain ⟨e1, hp⟩ := hp
  rw [e1] at hg
  rcases hp with ⟨er, i, x, y, h1, hi, h2, h3, hxr, hyc⟩ | ⟨er, hno⟩
  rotate_left
  · subst er
    refine lv_if_eq (tgt := 36) hx hb d_A_turn_7 (by decide) (fun hc => ?_) (fun hc => ?_)
    · refine lv_iconst (v := (-1)) hx hb d_A_turn_36 (by decide) ?_
      exact g_reti hx hb hr hlocks hg ⟨st, hcs, oe.rf, Or.inr ⟨fun ⟨j, x, y, q, _⟩ => hno ⟨j, x, y, q⟩, rfl, rfl⟩⟩ d_A_turn_37
    · exact absurd rfl hc
  subst er
  subst h1
  subst h2
  subst h3
  obtain ⟨rs, P, Wt, hT, hA, hP⟩ := hC i hi
  have hoki := hok i hi
  obtain ⟨hq, h251, hrw, hcl, -⟩ := hok i hi
  have hpi := hπ.1 i (by omega)
  have hw : kw D cls (tyl k) L s s.heap f [(xa, cA ta qa pr (tO (π 8))), (ta, cTs k zt), (tO (π i), cT (nI (st i).q) (nI (st i).rows) (nI (st i).cols) (if (st i).red then 1 else 0) (tP (π i)) (tN (π i))), (tP (π i), cP k P)] H locs := ⟨f, hg, xa_kn4 hX hT (by have := hπ.1 i (by omega); omega)⟩
  have hsame : ∀ {j x' y'}, isAt st (i : Int) (x : Int) (y : Int) j x' y' → j = i ∧ x' = x ∧ y' = y := fun q => ⟨by have := q.1; omega, by have := q.2.2.1; omega, by have := q.2.2.2.1; omega⟩
  refine lv_if_eq (tgt := 36) hx hb d_A_turn_7 (by decide) (fun hc => ?_) (fun hc => ?_)
  · exact absurd hc (by decide)
  refine lv_aload_n hx hb d_A_turn_10 rfl (lv_at hl 0 rfl) ?_
  refine k_get hx hb hG lay_A hown hw 0 rfl rfl 0 (by decide) (hG _ fl_A_11) (fun _ h9 => h9) rfl d_A_turn_11 ?_
  refine lv_iload_n hx hb d_A_turn_14 rfl (lv_at hl 1 rfl) ?_
  refine k_aald hx hb hw 1 2 rfl rfl (i) (rfl) (hi) (by first | decide | omega) (hzt i hi) d_A_turn_15 ?_
  refine k_get hx hb hG lay_T hown hw 2 rfl rfl 3 (by decide) (hG _ fl_A_52) (fun _ h9 => h9) rfl d_A_turn_16 ?_
  refine lv_if_eq (tgt := 36) hx hb d_A_turn_19 (by decide) (fun hc => ?_) (fun hc => ?_)
  · have hr0 : (st i).red ≠ true := fun q => by rw [q] at hc; exact absurd hc (by decide)
    refine lv_iconst (v := (-1)) hx hb d_A_turn_36 (by decide) ?_
    refine g_reti hx hb hr hlocks hg ⟨st, hcs, oe.rf, Or.inr ⟨fun ⟨j, x', y', q, q2, _⟩ => ?_, rfl, rfl⟩⟩ d_A_turn_37
    rw [(hsame q).1] at q2
    exact hr0 q2
  have hr0 : (st i).red = true := Classical.byContradiction fun q => hc (by rw [if_neg q])
  refine lv_aload_n hx hb d_A_turn_22 rfl (lv_at hl 0 rfl) ?_
  refine k_get hx hb hG lay_A hown hw 0 rfl rfl 0 (by decide) (hG _ fl_A_11) (fun _ h9 => h9) rfl d_A_turn_23 ?_
  refine lv_iload_n hx hb d_A_turn_26 rfl (lv_at hl 1 rfl) ?_
  refine k_aald hx hb hw 1 2 rfl rfl (i) (rfl) (hi) (by first | decide | omega) (hzt i hi) d_A_turn_27 ?_
  refine lv_iload_n hx hb d_A_turn_28 rfl (lv_at hl 2 rfl) ?_
  refine lv_iload_n hx hb d_A_turn_29 rfl (lv_at hl 3 rfl) ?_
  have hnv := hA x hxr y hyc
  have hw := hg
  refine g_oi (c_V (np := 2) S (tb_isZero l D hT (row := x) (col := y) (by omega) (by omega) hnv) hw (hT.1.1.1) (hT.2.1) rfl ml_A_76 im_T_isZero se_T_T_isZero in_T co_T_isZero (by decide +kernel) rfl ⟨rfl, rfl, by decide, by decide⟩ hl.1 rfl (by simp [Value.category]) d_A_turn_30 ⟨Nat.zero_le _, Nat.zero_le _⟩) hw (fun r2 f2 H locs hp2 hg => ?_)
  rw [hp2.1] at hg
  refine l_top hp2.2 ?_
  have hw : kw D cls (tyl k) L s s.heap f [(xa, cA ta qa pr (tO (π 8))), (ta, cTs k zt), (tO (π i), cT (nI (st i).q) (nI (st i).rows) (nI (st i).cols) (if (st i).red then 1 else 0) (tP (π i)) (tN (π i))), (tP (π i), cP k P)] H locs := ⟨f, hg, xa_kn4 hX hT (by have := hπ.1 i (by omega); omega)⟩
  refine lv_if_eq (tgt := 38) hx hb d_A_turn_33 (by decide) (fun hc => ?_) (fun hc => ?_)
  rotate_left
  · have hz : (st i).A x y = 0 := (nm_hz hnv).mp (Classical.byContradiction fun q => hc (by rw [if_neg q]))
    refine lv_iconst (v := (-1)) hx hb d_A_turn_36 (by decide) ?_
    refine g_reti hx hb hr hlocks hg ⟨st, hcs, oe.rf, Or.inr ⟨fun ⟨j, x', y', q, _, q2⟩ => ?_, rfl, rfl⟩⟩ d_A_turn_37
    obtain ⟨e1, e2, e3⟩ := hsame q
    rw [e1, e2, e3] at q2
    exact q2 hz
  have hz : (st i).A x y ≠ 0 := fun q => by rw [if_pos ((nm_hz hnv).mpr q)] at hc; exact absurd hc (by decide)
  obtain ⟨hpo, hpr⟩ := turn_ok hoki hr0 hxr hyc hz
  refine lv_aload_n hx hb d_A_turn_38 rfl (lv_at hl 0 rfl) ?_
  refine k_get hx hb hG lay_A hown hw 0 rfl rfl 0 (by decide) (hG _ fl_A_11) (fun _ h9 => h9) rfl d_A_turn_39 ?_
  refine lv_iload_n hx hb d_A_turn_42 rfl (lv_at hl 1 rfl) ?_
  refine k_aald hx hb hw 1 2 rfl rfl (i) (rfl) (hi) (by first | decide | omega) (hzt i hi) d_A_turn_43 ?_
  refine k_get hx hb hG lay_T hown hw 2 rfl rfl 4 (by decide) (hG _ fl_A_80) (fun _ h9 => h9) rfl d_A_turn_44 ?_
  refine lv_iload_n hx hb d_A_turn_47 rfl (lv_at hl 2 rfl) ?_
  refine k_iald hx hb hw 3 0 rfl rfl (x) (rfl) (by omega) (by first | decide | omega) d_A_turn_48 ?_
  refine lv_istore hx hb d_A_turn_49 hl (by decide) rfl (fun ls hl => ?_)
  refine lv_aload_n hx hb d_A_turn_51 rfl (lv_at hl 1 rfl) ?_
  refine lv_aload_n hx hb d_A_turn_52 rfl (lv_at hl 1 rfl) ?_
  refine k_get hx hb hG lay_A hown hw 0 rfl rfl 0 (by decide) (hG _ fl_A_11) (fun _ h9 => h9) rfl d_A_turn_53 ?_
  refine lv_iload_n hx hb d_A_turn_56 rfl (lv_at hl 2 rfl) ?_
  refine k_aald hx hb hw 1 2 rfl rfl (i) (rfl) (hi) (by first | decide | omega) (hzt i hi) d_A_turn_57 ?_
  refine lv_iload_n hx hb d_A_turn_58 rfl (lv_at hl 3 rfl) ?_
  refine lv_iload_n hx hb d_A_turn_59 rfl (lv_at hl 4 rfl) ?_
  have hw := hg
  refine g_ov (c_V (np := 3) S (tb_pivot l D hX hT hR (by omega) (by omega) (by omega) hrw hcl hxr hyc hA hpo) hw (hX.2.2.2.1.1) (hX.1) rfl ml_A_84 im_A_pivot se_A_A_pivot in_A co_A_pivot (by decide +kernel) rfl ⟨rfl, rfl, by decide, by decide⟩ hl.1 rfl (by simp [Value.category]) d_A_turn_60 ⟨Nat.zero_le _, Nat.zero_le _⟩) hw (fun f3 H locs hp3 hg => ?_)
  obtain ⟨hR3, W3, B3, hT3, ho3, hA3, hB3⟩ := hp3
  refine lv_iload hx hb d_A_turn_63 (lv_at hl 0 rfl) ?_
  have hTR := hpr B3 hB3
  have hpl : ∀ x', x' < (st i).rows → upd P x (nI y) x' = nI (va_up (st i).pl x y x') := fun x' hx' => by
    by_cases ex : x' = x
    · rw [ex, va_up_self]; exact if_pos rfl
    · rw [va_up_ne _ _ ex]; exact (if_neg ex).trans (hP hr0 x' hx')
  obtain ⟨g1, g2⟩ := CS_upd hcs hi (y := mkT (st i).q (st i).rows (st i).cols true B3 (va_up (st i).pl x y)) ⟨rs, _, W3, by rw [hr0] at hT3; exact hT3, hA3, fun _ => hpl⟩ hR3 ho3
  exact g_reti hx hb hr hlocks hg ⟨_, g1, g2, Or.inl ⟨i, x, y, ⟨rfl, hi, rfl, rfl, hxr, hyc⟩, hr0, hz, _, hTR, rfl, hP hr0 x hxr⟩⟩ d_A_turn_65
end PUB3


-- ===== Rationals: balance, fillDual =====
abbrev cP (k : Nat → ClassId) (P : Nat → Int32) : va_E := .inl (k 0, 12, .inl P)
/-- the dual's row scaled and given the number at a place -/
def bl (v x : Nat → Int) (col pl j : Nat) : Int := if j = pl then -(v col * x col) else v j * x pl
section BL
variable {p : Program} {l : Launch} {e : Env} {s : State} {m : MethodId} {args : Array Value} {below : List Frame} {meth : Method} {c : Code} {Q : State → Prop} {D : va_G} {k : Nat → ClassId} {L : List Nat} {H0 : Heap}
set_option maxRecDepth 100000 in
set_option maxHeartbeats 4000000 in
theorem w_bl (S : CallFix p m c c_Q_balance 8 s args G R_Q) {adr : Nat → Nat} {qa ln cols cc rr t pa nu ro row t2 r col pl : Nat} {fd rw rd : Int32} {z zl : Nat → Option Nat} {w : Nat → Int32} {xp xc : Int} (hxp : xp.natAbs < B30 ^ 5) (hq : qs L adr qa ln zl) (ht : qt L adr qa ln t nu ro) (hcols : cols ≤ 12) {v : Nat → Int} {f0 : Nat → va_E} (hv : ∀ j, j < cols → nm w j (v j)) (hfq0 : f0 qa = cQ ln adr cc rr) (hfl0 : f0 ln = cLn k zl) (htc0 : tc L k f0 adr 19 t pa nu ro fd rw (nI cols) rd z w row)
    (kx : ∀ (f : Nat → va_E) (cur : Nat → Int) (H : Heap) (locs : List Loc) (ls : Array Slot), fv L k adr 19 f cur → fo adr 19 f0 f → cur 15 = xc → (∀ i, i < cols → cur i = v i * xp) → lv_has ls 8 [(0, .ref qa), (1, .ref t), (2, .int (nI row)), (3, .ref t2), (4, .int (nI r)), (5, .int (nI col)), (6, .int (nI pl))] → gw D cls (tyl k) L s s.heap f H locs → W p l e (rmN 4) s m args below meth c H locs 0 0 Q (F0 m 80 ls [])) :
    ∀ (i j : Nat) (f : Nat → va_E) (cur : Nat → Int) (H : Heap) (locs : List Loc) (ls : Array Slot), j + i = cols → fv L k adr 19 f cur → fo adr 19 f0 f → cur 14 = xp → cur 15 = xc → (∀ i, i < j → cur i = v i * xp) → lv_has ls 8 [(0, .ref qa), (1, .ref t), (2, .int (nI row)), (3, .ref t2), (4, .int (nI r)), (5, .int (nI col)), (6, .int (nI pl)), (7, .int (nI j))] → gw D cls (tyl k) L s s.heap f H locs → W p l e (rmN 4) s m args below meth c H locs 0 0 Q (F0 m 36 ls []) := by
  have hx := S.1
  have hb := S.2.1
  have hown : s.vm.findClass R_Q = some m.cls := S.2.2.2.1
  have hG := S.2.2.2.2
  intro i
  induction i with
  | zero =>
    intro j f cur H locs ls hj hf ho h14 h15 hcv hl hg
    have hj : j = cols := by omega
    subst hj
    have htc := tc_fo htc0 ho
    have hfq := (ho qa (fun x hx => (hq.2.2.2.1 x hx).1)).trans hfq0
    have hfl := (ho ln (fun x hx => (hq.2.2.2.1 x hx).2)).trans hfl0
    have hw : kw D cls (tyl k) L s s.heap f [(qa, cQ ln adr cc rr), (ln, cLn k zl), (t, cT fd rw (nI j) rd pa nu)] H locs := ⟨f, hg, qt_kn hq ht hfq hfl htc.2.2.2.2.2.1⟩
    -- METHOD Q_balance | loc 0=qa 1=t 2=row 3=t2 4=r 5=col 6=pl 7=j | ws qa ln t | fld qa.line=ln
    refine lv_iload hx hb d_Q_balance_36 (lv_at hl 7 rfl) ?_
    refine lv_aload_n hx hb d_Q_balance_38 rfl (lv_at hl 1 rfl) ?_
    refine k_get hx hb hG lay_T hown hw 2 rfl rfl 2 (by decide) (hG _ fl_Q_40) (fun _ h9 => h9) rfl d_Q_balance_39 ?_
    refine lv_icmp_ge (tgt := 80) hx hb d_Q_balance_42 (by decide) (fun hc => ?_) (fun hc => ?_)
    · -- LOC 0=qa 1=t 2=row 3=t2 4=r 5=col 6=pl 7=j
      have hl := lv_sub hl [0, 1, 2, 3, 4, 5, 6] rfl
      exact kx f cur H locs ls hf ho h15 hcv hl hg
    · exact absurd (nI_le (Nat.le_refl _) (by omega)) hc
  | succ i ih =>
    intro j f cur H locs ls hj hf ho h14 h15 hcv hl hg
    have htc := tc_fo htc0 ho
    have hfq := (ho qa (fun x hx => (hq.2.2.2.1 x hx).1)).trans hfq0
    have hfl := (ho ln (fun x hx => (hq.2.2.2.1 x hx).2)).trans hfl0
    have hw : kw D cls (tyl k) L s s.heap f [(qa, cQ ln adr cc rr), (ln, cLn k zl), (t, cT fd rw (nI cols) rd pa nu)] H locs := ⟨f, hg, qt_kn hq ht hfq hfl htc.2.2.2.2.2.1⟩
    have b1 := nm_lt (hv j (by omega))
    have b56 : B30 ^ 5 < B30 ^ 6 := by decide
    -- METHOD Q_balance | loc 0=qa 1=t 2=row 3=t2 4=r 5=col 6=pl 7=j | ws qa ln t | fld qa.line=ln
    refine lv_iload hx hb d_Q_balance_36 (lv_at hl 7 rfl) ?_
    refine lv_aload_n hx hb d_Q_balance_38 rfl (lv_at hl 1 rfl) ?_
    refine k_get hx hb hG lay_T hown hw 2 rfl rfl 2 (by decide) (hG _ fl_Q_40) (fun _ h9 => h9) rfl d_Q_balance_39 ?_
    refine lv_icmp_ge (tgt := 80) hx hb d_Q_balance_42 (by decide) (fun hc => ?_) (fun hc => ?_)
    · exact absurd hc (nI_ge (by omega) (by omega))
    · -- STK
      refine lv_aload_n hx hb d_Q_balance_45 rfl (lv_at hl 1 rfl) ?_
      refine lv_iload_n hx hb d_Q_balance_46 rfl (lv_at hl 2 rfl) ?_
      refine lv_iload hx hb d_Q_balance_47 (lv_at hl 7 rfl) ?_
      refine lv_aload_n hx hb d_Q_balance_49 rfl (lv_at hl 0 rfl) ?_
      refine k_get hx hb hG lay_Q hown hw 0 rfl rfl 1 (by decide) (hG _ fl_Q_18) (fun _ h9 => h9) rfl d_Q_balance_50 ?_
      have hw := hg
      refine g_ov (c_V (np := 3) S (n_load l D k L f adr 19 cur hq.2.2.2.2.1 hf t pa nu ro fd rw (nI cols) rd z w row htc j 12 (by omega) (by omega) (v j) (hv j (by omega))) hw (htc.2.2.1) (htc.2.2.2.2.2.1) rfl ml_Q_46 im_T_load se_T_T_load in_T co_T_load (by decide +kernel) rfl ⟨rfl, rfl, by decide, by decide⟩ hl.1 rfl (by simp [Value.category]) d_Q_balance_53 ⟨Nat.zero_le _, Nat.zero_le _⟩) hw (fun f1 H locs hp1 hg => ?_)
      obtain ⟨hf1, ho1⟩ := hp1
      have ho1 := ho.trans ho1
      have hfq1 := (ho1 qa (fun x hx => (hq.2.2.2.1 x hx).1)).trans hfq0
      have hfl1 := (ho1 ln (fun x hx => (hq.2.2.2.1 x hx).2)).trans hfl0
      have hw : kw D cls (tyl k) L s s.heap f1 [(qa, cQ ln adr cc rr), (ln, cLn k zl), (t, cT fd rw (nI cols) rd pa nu)] H locs := ⟨f1, hg, qt_kn hq ht hfq1 hfl1 (tc_fo htc0 ho1).2.2.2.2.2.1⟩
      refine lv_aload_n hx hb d_Q_balance_56 rfl (lv_at hl 0 rfl) ?_
      refine k_get hx hb hG lay_Q hown hw 0 rfl rfl 0 (by decide) (hG _ fl_Q_11) (fun _ h9 => h9) rfl d_Q_balance_57 ?_
      refine lv_iload hx hb d_Q_balance_60 (lv_at hl 7 rfl) ?_
      refine k_aald hx hb hw 1 3 rfl rfl (j) (rfl) (by omega) (by first | decide | omega) (hq.2.2.2.2.2 j (by omega)) d_Q_balance_62 ?_
      refine lv_aload_n hx hb d_Q_balance_63 rfl (lv_at hl 0 rfl) ?_
      refine k_get hx hb hG lay_Q hown hw 0 rfl rfl 1 (by decide) (hG _ fl_Q_18) (fun _ h9 => h9) rfl d_Q_balance_64 ?_
      refine lv_aload_n hx hb d_Q_balance_67 rfl (lv_at hl 0 rfl) ?_
      refine k_get hx hb hG lay_Q hown hw 0 rfl rfl 3 (by decide) (hG _ fl_Q_25) (fun _ h9 => h9) rfl d_Q_balance_68 ?_
      have hw := hg
      obtain ⟨mj1, -, nj1, gj1, dj1, ej1, -⟩ := hf1 j (by omega)
      refine g_ov (c_V (np := 2) S (n_setProduct l D k L f1 adr 19 _ hq.2.2.2.2.1 hf1 j (by omega) 12 (by omega) 14 (by omega) (by omega) (by omega) (by omega) (by rw [va_up_self]; omega) (by rw [va_up_ne _ _ (by omega), h14]; omega)) hw (mj1) (ej1) rfl ml_Q_65 im_W_setProduct se_W_W_setProduct in_W co_W_setProduct (by decide +kernel) rfl ⟨rfl, rfl, by decide, by decide⟩ hl.1 rfl (by simp [Value.category]) d_Q_balance_71 ⟨Nat.zero_le _, Nat.zero_le _⟩) hw (fun f2 H locs hp2 hg => ?_)
      obtain ⟨hf2, ho2⟩ := hp2
      rw [va_up_self, va_up_ne _ _ (show 14 ≠ 12 by omega), h14] at hf2
      refine lv_iinc (k := 7) hx hb d_Q_balance_74 hl rfl (ii1 j) (by decide) rfl (fun ls hl => ?_)
      refine lv_goto (tgt := 36) hx hb d_Q_balance_77 (by decide) ?_
      have hl := lv_sub hl [1, 2, 3, 4, 5, 6, 7, 0] rfl
      refine ih (j + 1) f2 _ H locs ls (by omega) hf2 (ho1.trans ho2) ?_ ?_ (fun i hi => ?_) hl hg
      · rw [va_up_ne _ _ (by omega), va_up_ne _ _ (by omega)]; exact h14
      · rw [va_up_ne _ _ (by omega), va_up_ne _ _ (by omega)]; exact h15
      · by_cases e : i = j
        · rw [e, va_up_self]
        · rw [va_up_ne _ _ e, va_up_ne _ _ (by omega)]; exact hcv i (by omega)
end BL
set_option maxRecDepth 100000 in
set_option maxHeartbeats 4000000 in
/-- balance(to, row, from, r, column) -/
theorem m_Q_balance (l : Launch) (D : va_G) (k : Nat → ClassId) (L : List Nat) (f0 : Nat → va_E) (adr : Nat → Nat) (qa ln cols t pa nu ro row t2 pa2 nu2 ro2 r col pl : Nat) (fd rw rd fd2 rw2 cl2 rd2 : Int32) (z zl z2 : Nat → Option Nat) (w w2 P : Nat → Int32) (v x : Nat → Int) (hq : qs L adr qa ln zl) (ht : qt L adr qa ln t nu ro) (hcols : cols ≤ 12) (hst : qst L k adr qa ln zl f0) (htc : tc L k f0 adr 19 t pa nu ro fd rw (nI cols) rd z w row) (hte : tc L k f0 adr 19 t2 pa2 nu2 ro2 fd2 rw2 cl2 rd2 z2 w2 r) (hk2 : kn L f0 f0 [(t2, cT fd2 rw2 cl2 rd2 pa2 nu2), (pa2, cP k P)]) (hP : P r = nI pl) (hpl : pl < cols) (hcol : col < cols) (hv : ∀ j, j < cols → nm w j (v j)) (hv2 : ∀ j, j < cols → nm w2 j (x j)) (hbo : ∀ j, j < cols → (ou (gd (bl v x col pl) cols) (bl v x col pl j)).natAbs < B30 ^ 5) : Mv l y_Q_balance (Cond.code y_Q_balance c_Q_balance 8 none :: G) (rmN 4) D cls (tyl k) L f0 [.ref qa, .ref t, .int (nI row), .ref t2, .int (nI r), .int (nI col)] (fun f' => qst L k adr qa ln zl f' ∧ (∃ w1, f' ro = cR k w1 ∧ (∀ j, j < cols → nm w1 j (ou (gd (bl v x col pl) cols) (bl v x col pl j))) ∧ ∀ x, cols * 6 ≤ x → w1 x = w x) ∧ qo adr qa ro f0 f') := by
  obtain ⟨cc, rr, vals, hcr, hf, hfq0, hfl0⟩ := hst
  have h12 := htc.2.2.2.2.2.2.2.2.2.2.2
  -- METHOD Q_balance | loc 0=qa 1=t 2=row 3=t2 4=r 5=col | ws t2 pa2 | fld t2.places=pa2
  refine mk_met (by decide) (Nat.le_of_ble_eq_true rfl) (fun p e s m below meth c ls S hr hlocks hw hl => ?_)
  have hx := S.1
  have hb := S.2.1
  have hown : s.vm.findClass R_Q = some m.cls := S.2.2.2.1
  have hG := S.2.2.2.2
  have hl : lv_has ls 8 [(0, .ref qa), (1, .ref t), (2, .int (nI row)), (3, .ref t2), (4, .int (nI r)), (5, .int (nI col))] := hl
  have hg := hw
  have hw : kw D cls (tyl k) L s s.heap f0 [(t2, cT fd2 rw2 cl2 rd2 pa2 nu2), (pa2, cP k P)] s.heap [] := ⟨f0, hg, hk2⟩
  refine lv_aload_n hx hb d_Q_balance_0 rfl (lv_at hl 3 rfl) ?_
  refine k_get hx hb hG lay_T hown hw 0 rfl rfl 4 (by decide) (hG _ fl_Q_88) (fun _ h9 => h9) rfl d_Q_balance_1 ?_
  refine lv_iload hx hb d_Q_balance_4 (lv_at hl 4 rfl) ?_
  refine k_iald hx hb hw 1 0 rfl rfl (r) (rfl) (hte.1) (by first | decide | omega) d_Q_balance_6 ?_
  refine l_top hP ?_
  refine lv_istore hx hb d_Q_balance_7 hl (by decide) rfl (fun ls hl => ?_)
  have hl := lv_sub hl [1, 2, 3, 4, 5, 6, 0] rfl
  have hw : kw D cls (tyl k) L s s.heap f0 [(qa, cQ ln adr cc rr), (ln, cLn k zl), (t, cT fd rw (nI cols) rd pa nu)] s.heap [] := ⟨f0, hg, qt_kn hq ht hfq0 hfl0 htc.2.2.2.2.2.1⟩
  refine lv_aload_n hx hb d_Q_balance_9 rfl (lv_at hl 3 rfl) ?_
  refine lv_iload hx hb d_Q_balance_10 (lv_at hl 4 rfl) ?_
  refine lv_iload hx hb d_Q_balance_12 (lv_at hl 6 rfl) ?_
  refine lv_aload_n hx hb d_Q_balance_14 rfl (lv_at hl 0 rfl) ?_
  refine k_get hx hb hG lay_Q hown hw 0 rfl rfl 3 (by decide) (hG _ fl_Q_25) (fun _ h9 => h9) rfl d_Q_balance_15 ?_
  have hw := hg
  refine g_ov (c_V (np := 3) S (n_load l D k L f0 adr 19 vals hq.2.2.2.2.1 hf t2 pa2 nu2 ro2 fd2 rw2 cl2 rd2 z2 w2 r hte pl 14 (by omega) (by omega) (x pl) (hv2 pl hpl)) hw (hte.2.2.1) (hte.2.2.2.2.2.1) rfl ml_Q_46 im_T_load se_T_T_load in_T co_T_load (by decide +kernel) rfl ⟨rfl, rfl, by decide, by decide⟩ hl.1 rfl (by simp [Value.category]) d_Q_balance_18 ⟨Nat.zero_le _, Nat.zero_le _⟩) hw (fun f1 H locs hp1 hg => ?_)
  obtain ⟨hf1, ho1⟩ := hp1
  have hfq1 := (ho1 qa (fun x hx => (hq.2.2.2.1 x hx).1)).trans hfq0
  have hfl1 := (ho1 ln (fun x hx => (hq.2.2.2.1 x hx).2)).trans hfl0
  have hte1 := tc_fo hte ho1
  have htc1 := tc_fo htc ho1
  have hw : kw D cls (tyl k) L s s.heap f1 [(qa, cQ ln adr cc rr), (ln, cLn k zl), (t, cT fd rw (nI cols) rd pa nu)] H locs := ⟨f1, hg, qt_kn hq ht hfq1 hfl1 htc1.2.2.2.2.2.1⟩
  refine lv_aload_n hx hb d_Q_balance_21 rfl (lv_at hl 3 rfl) ?_
  refine lv_iload hx hb d_Q_balance_22 (lv_at hl 4 rfl) ?_
  refine lv_iload hx hb d_Q_balance_24 (lv_at hl 5 rfl) ?_
  refine lv_aload_n hx hb d_Q_balance_26 rfl (lv_at hl 0 rfl) ?_
  refine k_get hx hb hG lay_Q hown hw 0 rfl rfl 4 (by decide) (hG _ fl_Q_28) (fun _ h9 => h9) rfl d_Q_balance_27 ?_
  have hw := hg
  refine g_ov (c_V (np := 3) S (n_load l D k L f1 adr 19 _ hq.2.2.2.2.1 hf1 t2 pa2 nu2 ro2 fd2 rw2 cl2 rd2 z2 w2 r hte1 col 15 (by omega) (by omega) (x col) (hv2 col hcol)) hw (hte1.2.2.1) (hte1.2.2.2.2.2.1) rfl ml_Q_46 im_T_load se_T_T_load in_T co_T_load (by decide +kernel) rfl ⟨rfl, rfl, by decide, by decide⟩ hl.1 rfl (by simp [Value.category]) d_Q_balance_30 ⟨Nat.zero_le _, Nat.zero_le _⟩) hw (fun f2 H locs hp2 hg => ?_)
  obtain ⟨hf2, ho2⟩ := hp2
  have ho2 := ho1.trans ho2
  refine lv_iconst (v := 0) hx hb d_Q_balance_33 (by decide) ?_
  refine lv_istore hx hb d_Q_balance_34 hl (by decide) rfl (fun ls hl => ?_)
  have hl := lv_sub hl [1, 2, 3, 4, 5, 6, 7, 0] rfl
  refine w_bl S (xp := x pl) (xc := x col) (nm_lt (hv2 pl hpl)) hq ht hcols hv hfq0 hfl0 htc (fun f1 cur H locs ls hf1 ho1 h15 hcv hl hg => ?_) cols 0 f2 _ _ _ ls (by omega) hf2 ho2 (by rw [va_up_ne _ _ (by omega), va_up_self]) (by rw [va_up_self]) (fun i hi => by omega) hl hg
  have hfq1 := (ho1 qa (fun x hx => (hq.2.2.2.1 x hx).1)).trans hfq0
  have hfl1 := (ho1 ln (fun x hx => (hq.2.2.2.1 x hx).2)).trans hfl0
  have htc1 := tc_fo htc ho1
  have hw : kw D cls (tyl k) L s s.heap f1 [(qa, cQ ln adr cc rr), (ln, cLn k zl), (t, cT fd rw (nI cols) rd pa nu)] H locs := ⟨f1, hg, qt_kn hq ht hfq1 hfl1 htc1.2.2.2.2.2.1⟩
  have b56 : B30 ^ 5 < B30 ^ 6 := by decide
  have b101 : B30 ^ 10 < B30 ^ 11 := by decide
  have b1 := nm_lt (hv col hcol)
  have b2 := nm_lt (hv2 col hcol)
  have b3 := nm_lt (hv2 pl hpl)
  refine lv_aload_n hx hb d_Q_balance_80 rfl (lv_at hl 1 rfl) ?_
  refine lv_iload_n hx hb d_Q_balance_81 rfl (lv_at hl 2 rfl) ?_
  refine lv_iload hx hb d_Q_balance_82 (lv_at hl 5 rfl) ?_
  refine lv_aload_n hx hb d_Q_balance_84 rfl (lv_at hl 0 rfl) ?_
  refine k_get hx hb hG lay_Q hown hw 0 rfl rfl 1 (by decide) (hG _ fl_Q_18) (fun _ h9 => h9) rfl d_Q_balance_85 ?_
  have hw := hg
  refine g_ov (c_V (np := 3) S (n_load l D k L f1 adr 19 cur hq.2.2.2.2.1 hf1 t pa nu ro fd rw (nI cols) rd z w row htc1 col 12 (by omega) (by omega) (v col) (hv col (by omega))) hw (htc1.2.2.1) (htc1.2.2.2.2.2.1) rfl ml_Q_46 im_T_load se_T_T_load in_T co_T_load (by decide +kernel) rfl ⟨rfl, rfl, by decide, by decide⟩ hl.1 rfl (by simp [Value.category]) d_Q_balance_88 ⟨Nat.zero_le _, Nat.zero_le _⟩) hw (fun f2 H locs hp2 hg => ?_)
  obtain ⟨hf2, ho2⟩ := hp2
  have ho2 := ho1.trans ho2
  have hfq2 := (ho2 qa (fun x hx => (hq.2.2.2.1 x hx).1)).trans hfq0
  have hfl2 := (ho2 ln (fun x hx => (hq.2.2.2.1 x hx).2)).trans hfl0
  have hw : kw D cls (tyl k) L s s.heap f2 [(qa, cQ ln adr cc rr), (ln, cLn k zl), (t, cT fd rw (nI cols) rd pa nu)] H locs := ⟨f2, hg, qt_kn hq ht hfq2 hfl2 (tc_fo htc ho2).2.2.2.2.2.1⟩
  refine lv_aload_n hx hb d_Q_balance_91 rfl (lv_at hl 0 rfl) ?_
  refine k_get hx hb hG lay_Q hown hw 0 rfl rfl 0 (by decide) (hG _ fl_Q_11) (fun _ h9 => h9) rfl d_Q_balance_92 ?_
  refine lv_iload hx hb d_Q_balance_95 (lv_at hl 6 rfl) ?_
  refine k_aald hx hb hw 1 3 rfl rfl (pl) (rfl) (by omega) (by first | decide | omega) (hq.2.2.2.2.2 pl (by omega)) d_Q_balance_97 ?_
  refine lv_aload_n hx hb d_Q_balance_98 rfl (lv_at hl 0 rfl) ?_
  refine k_get hx hb hG lay_Q hown hw 0 rfl rfl 1 (by decide) (hG _ fl_Q_18) (fun _ h9 => h9) rfl d_Q_balance_99 ?_
  refine lv_aload_n hx hb d_Q_balance_102 rfl (lv_at hl 0 rfl) ?_
  refine k_get hx hb hG lay_Q hown hw 0 rfl rfl 4 (by decide) (hG _ fl_Q_28) (fun _ h9 => h9) rfl d_Q_balance_103 ?_
  have hw := hg
  obtain ⟨mj1, -, nj1, gj1, dj1, ej1, -⟩ := hf2 pl (by omega)
  refine g_ov (c_V (np := 2) S (n_setProduct l D k L f2 adr 19 _ hq.2.2.2.2.1 hf2 pl (by omega) 12 (by omega) 15 (by omega) (by omega) (by omega) (by omega) (by rw [va_up_self]; omega) (by rw [va_up_ne _ _ (by omega), h15]; omega)) hw (mj1) (ej1) rfl ml_Q_65 im_W_setProduct se_W_W_setProduct in_W co_W_setProduct (by decide +kernel) rfl ⟨rfl, rfl, by decide, by decide⟩ hl.1 rfl (by simp [Value.category]) d_Q_balance_106 ⟨Nat.zero_le _, Nat.zero_le _⟩) hw (fun f3 H locs hp3 hg => ?_)
  obtain ⟨hf3, ho3⟩ := hp3
  rw [va_up_self, va_up_ne _ _ (show 15 ≠ 12 by omega), h15] at hf3
  have ho3 := ho2.trans ho3
  have hfq3 := (ho3 qa (fun x hx => (hq.2.2.2.1 x hx).1)).trans hfq0
  have hfl3 := (ho3 ln (fun x hx => (hq.2.2.2.1 x hx).2)).trans hfl0
  have hw : kw D cls (tyl k) L s s.heap f3 [(qa, cQ ln adr cc rr), (ln, cLn k zl), (t, cT fd rw (nI cols) rd pa nu)] H locs := ⟨f3, hg, qt_kn hq ht hfq3 hfl3 (tc_fo htc ho3).2.2.2.2.2.1⟩
  refine lv_aload_n hx hb d_Q_balance_109 rfl (lv_at hl 0 rfl) ?_
  refine k_get hx hb hG lay_Q hown hw 0 rfl rfl 0 (by decide) (hG _ fl_Q_11) (fun _ h9 => h9) rfl d_Q_balance_110 ?_
  refine lv_iload hx hb d_Q_balance_113 (lv_at hl 6 rfl) ?_
  refine k_aald hx hb hw 1 3 rfl rfl (pl) (rfl) (by omega) (by first | decide | omega) (hq.2.2.2.2.2 pl (by omega)) d_Q_balance_115 ?_
  have hw := hg
  obtain ⟨mj2, -, nj2, gj2, dj2, ej2, -⟩ := hf3 pl (by omega)
  refine g_ov (c_V (np := 0) S (n_negate l D k L f3 adr 19 _ hq.2.2.2.2.1 hf3 pl (by omega)) hw (mj2) (ej2) rfl ml_Q_92 im_W_negate se_W_W_negate in_W co_W_negate (by decide +kernel) rfl ⟨rfl, rfl, by decide, by decide⟩ hl.1 rfl (by simp [Value.category]) d_Q_balance_116 ⟨Nat.zero_le _, Nat.zero_le _⟩) hw (fun f4 H locs hp4 hg => ?_)
  obtain ⟨hf4, ho4⟩ := hp4
  rw [va_up_self] at hf4
  have ho4 := ho3.trans ho4
  have hfq4 := (ho4 qa (fun x hx => (hq.2.2.2.1 x hx).1)).trans hfq0
  have hfl4 := (ho4 ln (fun x hx => (hq.2.2.2.1 x hx).2)).trans hfl0
  have htc4 := tc_fo htc ho4
  have hcv4 : ∀ i, i < cols → va_up (va_up (va_up cur 12 (v col)) pl (v col * x col)) pl (-(v col * x col)) i = bl v x col pl i := fun i hi => by
    unfold bl
    by_cases e : i = pl
    · rw [e, va_up_self, if_pos rfl]
    · rw [va_up_ne _ _ e, va_up_ne _ _ e, va_up_ne _ _ (by omega), if_neg e]; exact hcv i hi
  generalize va_up (va_up (va_up cur 12 (v col)) pl (v col * x col)) pl (-(v col * x col)) = cur4 at hf4 hcv4
  have hb11 : ∀ j, j < cols → (cur4 j).natAbs < B30 ^ 11 := fun j hj => by
    rw [hcv4 j hj]
    unfold bl
    by_cases e : j = pl
    · rw [if_pos e, Int.natAbs_neg]; exact Nat.lt_trans (b55 b1 b2) b101
    · rw [if_neg e]; exact Nat.lt_trans (b55 (nm_lt (hv j hj)) b3) b101
  have hw : kw D cls (tyl k) L s s.heap f4 [(qa, cQ ln adr cc rr), (ln, cLn k zl), (t, cT fd rw (nI cols) rd pa nu)] H locs := ⟨f4, hg, qt_kn hq ht hfq4 hfl4 htc4.2.2.2.2.2.1⟩
  refine lv_aload_n hx hb d_Q_balance_119 rfl (lv_at hl 0 rfl) ?_
  refine lv_aload_n hx hb d_Q_balance_120 rfl (lv_at hl 1 rfl) ?_
  refine k_get hx hb hG lay_T hown hw 2 rfl rfl 2 (by decide) (hG _ fl_Q_40) (fun _ h9 => h9) rfl d_Q_balance_121 ?_
  have hw := hg
  refine g_ov (c_V (np := 1) S (m_Q_findCommon l D k L f4 adr qa ln cols cc rr zl cur4 hq hcr hcols hf4 hfq4 hfl4 hb11) hw (hq.1) (hfq4) rfl ml_Q_50 im_Q_findCommon se_Q_Q_findCommon in_Q co_Q_findCommon (by decide +kernel) rfl ⟨rfl, rfl, by decide, by decide⟩ hl.1 rfl (by simp [Value.category]) d_Q_balance_124 ⟨Nat.zero_le _, Nat.zero_le _⟩) hw (fun f5 H locs hp hw => ?_)
  obtain ⟨c2, r2, vals2, hcr2, hf5, hfq5, hfl5, hg2, hv2', ho5⟩ := hp
  have htc5 : tc L k f5 adr 19 t pa nu ro fd rw (nI cols) rd z w row := tc_upd htc4 ((ho5 ro (Ne.symm ht.2.2.2.2.1) (fun x hx => (h12 x hx).2.2)).trans htc4.2.2.2.2.2.2.2.1) (ho5 t (Ne.symm ht.2.2.1) (fun x hx => (h12 x hx).1)) (ho5 nu (Ne.symm ht.2.2.2.1) (fun x hx => (h12 x hx).2.1))
  have hv2'' : ∀ i, i < cols → vals2 i = bl v x col pl i := fun i hi => (hv2' i (by omega) (by omega) (by omega)).trans (hcv4 i hi)
  have hgv : gd cur4 cols = gd (bl v x col pl) cols := gd_congr hcv4
  rw [hgv] at hg2
  have hg := hw
  refine lv_aload_n hx hb d_Q_balance_127 rfl (lv_at hl 0 rfl) ?_
  refine lv_aload_n hx hb d_Q_balance_128 rfl (lv_at hl 1 rfl) ?_
  refine lv_iload_n hx hb d_Q_balance_129 rfl (lv_at hl 2 rfl) ?_
  refine g_ov (c_V (np := 2) S (m_Q_storeLine l D k L f5 adr qa ln cols c2 r2 t pa nu ro row (gd (bl v x col pl) cols) fd rw rd z zl w vals2 hq ht hcr2 hcols hf5 hfq5 hfl5 htc5 hg2 (fun i hi => by rw [hv2'' i hi, ← hcv4 i hi]; exact hb11 i hi) (fun i hi => by rw [hv2'' i hi]; exact hbo i hi)) hw (hq.1) (hfq5) rfl ml_Q_54 im_Q_storeLine se_Q_Q_storeLine in_Q co_Q_storeLine (by decide +kernel) rfl ⟨rfl, rfl, by decide, by decide⟩ hl.1 rfl (by simp [Value.category]) d_Q_balance_130 ⟨Nat.zero_le _, Nat.zero_le _⟩) hw (fun f6 H locs hp3 hw => ?_)
  obtain ⟨cur3, w3, hf3, hfq3, hfl3, hr3, hn3, hwx3, ho6⟩ := hp3
  exact g_retv hx hb hr hlocks hw ⟨⟨c2, r2, cur3, hcr2, hf3, hfq3, hfl3⟩, ⟨w3, hr3, fun j hj => by have := hn3 j hj; rw [hv2'' j hj] at this; exact this, hwx3⟩, fun q h1 h2 h3 => (ho6 q h1 h3).trans ((ho5 q h2 h3).trans (ho4 q h3))⟩ d_Q_balance_133


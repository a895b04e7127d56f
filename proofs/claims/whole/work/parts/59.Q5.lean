-- ===== Rationals: clear =====
/-- a row cleared by a leader, before its common divisor is taken out -/
def cl1 (v v2 : Nat → Int) (col j : Nat) : Int := v j * v2 col - v2 j * v col
theorem b55 {a b : Int} (ha : a.natAbs < B30 ^ 5) (hb : b.natAbs < B30 ^ 5) : (a * b).natAbs < B30 ^ 10 := by
  rw [Int.natAbs_mul]
  have h1 : a.natAbs * b.natAbs < B30 ^ 5 * B30 ^ 5 := Nat.mul_lt_mul'' ha hb
  have h2 : B30 ^ 5 * B30 ^ 5 = B30 ^ 10 := by decide
  omega
theorem cl1_lt {v v2 : Nat → Int} {cols col j : Nat} (h1 : ∀ j, j < cols → (v j).natAbs < B30 ^ 5) (h2 : ∀ j, j < cols → (v2 j).natAbs < B30 ^ 5) (hc : col < cols) (hj : j < cols) : (cl1 v v2 col j).natAbs < B30 ^ 11 := by
  have q1 := b55 (h1 j hj) (h2 col hc)
  have q2 := b55 (h2 j hj) (h1 col hc)
  have q3 : B30 ^ 10 + B30 ^ 10 ≤ B30 ^ 11 := by decide
  unfold cl1
  omega
section CL
variable {p : Program} {l : Launch} {e : Env} {s : State} {m : MethodId} {args : Array Value} {below : List Frame} {meth : Method} {c : Code} {Q : State → Prop} {D : va_G} {k : Nat → ClassId} {L : List Nat} {H0 : Heap}
set_option maxRecDepth 100000 in
set_option maxHeartbeats 4000000 in
theorem w_cl (S : CallFix p m c c_Q_clear 6 s args G R_Q) {adr : Nat → Nat} {qa ln cols cc rr t pa nu ro ro2 row led col : Nat} {fd rw rd : Int32} {z zl : Nat → Option Nat} {w w2 : Nat → Int32} (hq : qs L adr qa ln zl) (ht : qt L adr qa ln t nu ro) (hcols : cols ≤ 12) (hcol : col < cols) {v v2 : Nat → Int} {f0 : Nat → va_E} (hv : ∀ j, j < cols → nm w j (v j)) (hv2 : ∀ j, j < cols → nm w2 j (v2 j)) (hfq0 : f0 qa = cQ ln adr cc rr) (hfl0 : f0 ln = cLn k zl) (htc0 : tc L k f0 adr 19 t pa nu ro fd rw (nI cols) rd z w row) (hte0 : tc L k f0 adr 19 t pa nu ro2 fd rw (nI cols) rd z w2 led)
    (kx : ∀ (f : Nat → va_E) (cur : Nat → Int) (H : Heap) (locs : List Loc) (ls : Array Slot), fv L k adr 19 f cur → fo adr 19 f0 f → (∀ i, i < cols → cur i = cl1 v v2 col i) → lv_has ls 6 [(0, .ref qa), (1, .ref t), (2, .int (nI row)), (3, .int (nI led)), (4, .int (nI col))] → gw D cls (tyl k) L s s.heap f H locs → W p l e (rmN 4) s m args below meth c H locs 0 0 Q (F0 m 109 ls [])) :
    ∀ (i j : Nat) (f : Nat → va_E) (cur : Nat → Int) (H : Heap) (locs : List Loc) (ls : Array Slot), j + i = cols → fv L k adr 19 f cur → fo adr 19 f0 f → cur 14 = v2 col → cur 15 = v col → (∀ i, i < j → cur i = cl1 v v2 col i) → lv_has ls 6 [(0, .ref qa), (1, .ref t), (2, .int (nI row)), (3, .int (nI led)), (4, .int (nI col)), (5, .int (nI j))] → gw D cls (tyl k) L s s.heap f H locs → W p l e (rmN 4) s m args below meth c H locs 0 0 Q (F0 m 25 ls []) := by
  have hx := S.1
  have hb := S.2.1
  have hown : s.vm.findClass R_Q = some m.cls := S.2.2.2.1
  have hG := S.2.2.2.2
  intro i
  induction i with
  | zero =>
    intro j f cur H locs ls hj hf ho h14 h15 hcv hl hg
    have hj : j = cols := by omega
    subst hj
    have htc := tc_fo htc0 ho
    have hfq := (ho qa (fun x hx => (hq.2.2.2.1 x hx).1)).trans hfq0
    have hfl := (ho ln (fun x hx => (hq.2.2.2.1 x hx).2)).trans hfl0
    have hw : kw D cls (tyl k) L s s.heap f [(qa, cQ ln adr cc rr), (ln, cLn k zl), (t, cT fd rw (nI j) rd pa nu)] H locs := ⟨f, hg, qt_kn hq ht hfq hfl htc.2.2.2.2.2.1⟩
    -- METHOD Q_clear | loc 0=qa 1=t 2=row 3=led 4=col 5=j | ws qa ln t | fld qa.line=ln
    refine lv_iload hx hb d_Q_clear_25 (lv_at hl 5 rfl) ?_
    refine lv_aload_n hx hb d_Q_clear_27 rfl (lv_at hl 1 rfl) ?_
    refine k_get hx hb hG lay_T hown hw 2 rfl rfl 2 (by decide) (hG _ fl_Q_40) (fun _ h9 => h9) rfl d_Q_clear_28 ?_
    refine lv_icmp_ge (tgt := 109) hx hb d_Q_clear_31 (by decide) (fun hc => ?_) (fun hc => ?_)
    · -- LOC 0=qa 1=t 2=row 3=led 4=col 5=j
      have hl := lv_sub hl [0, 1, 2, 3, 4] rfl
      exact kx f cur H locs ls hf ho hcv hl hg
    · exact absurd (nI_le (Nat.le_refl _) (by omega)) hc
  | succ i ih =>
    intro j f cur H locs ls hj hf ho h14 h15 hcv hl hg
    have htc := tc_fo htc0 ho
    have hfq := (ho qa (fun x hx => (hq.2.2.2.1 x hx).1)).trans hfq0
    have hfl := (ho ln (fun x hx => (hq.2.2.2.1 x hx).2)).trans hfl0
    have hw : kw D cls (tyl k) L s s.heap f [(qa, cQ ln adr cc rr), (ln, cLn k zl), (t, cT fd rw (nI cols) rd pa nu)] H locs := ⟨f, hg, qt_kn hq ht hfq hfl htc.2.2.2.2.2.1⟩
    have b1 := nm_lt (hv j (by omega))
    have b2 := nm_lt (hv2 j (by omega))
    have b3 := nm_lt (hv col (by omega))
    have b4 := nm_lt (hv2 col (by omega))
    have b56 : B30 ^ 5 < B30 ^ 6 := by decide
    have b101 : B30 ^ 10 < B30 ^ 11 := by decide
    -- METHOD Q_clear | loc 0=qa 1=t 2=row 3=led 4=col 5=j | ws qa ln t | fld qa.line=ln
    refine lv_iload hx hb d_Q_clear_25 (lv_at hl 5 rfl) ?_
    refine lv_aload_n hx hb d_Q_clear_27 rfl (lv_at hl 1 rfl) ?_
    refine k_get hx hb hG lay_T hown hw 2 rfl rfl 2 (by decide) (hG _ fl_Q_40) (fun _ h9 => h9) rfl d_Q_clear_28 ?_
    refine lv_icmp_ge (tgt := 109) hx hb d_Q_clear_31 (by decide) (fun hc => ?_) (fun hc => ?_)
    · exact absurd hc (nI_ge (by omega) (by omega))
    · -- STK
      refine lv_aload_n hx hb d_Q_clear_34 rfl (lv_at hl 1 rfl) ?_
      refine lv_iload_n hx hb d_Q_clear_35 rfl (lv_at hl 2 rfl) ?_
      refine lv_iload hx hb d_Q_clear_36 (lv_at hl 5 rfl) ?_
      refine lv_aload_n hx hb d_Q_clear_38 rfl (lv_at hl 0 rfl) ?_
      refine k_get hx hb hG lay_Q hown hw 0 rfl rfl 1 (by decide) (hG _ fl_Q_18) (fun _ h9 => h9) rfl d_Q_clear_39 ?_
      have hw := hg
      refine g_ov (c_V (np := 3) S (n_load l D k L f adr 19 cur hq.2.2.2.2.1 hf t pa nu ro fd rw (nI cols) rd z w row htc j 12 (by omega) (by omega) (v j) (hv j (by omega))) hw (htc.2.2.1) (htc.2.2.2.2.2.1) rfl ml_Q_46 im_T_load se_T_T_load in_T co_T_load (by decide +kernel) rfl ⟨rfl, rfl, by decide, by decide⟩ hl.1 rfl (by simp [Value.category]) d_Q_clear_42 ⟨Nat.zero_le _, Nat.zero_le _⟩) hw (fun f1 H locs hp1 hg => ?_)
      obtain ⟨hf1, ho1⟩ := hp1
      have ho1 := ho.trans ho1
      have hfq1 := (ho1 qa (fun x hx => (hq.2.2.2.1 x hx).1)).trans hfq0
      have hfl1 := (ho1 ln (fun x hx => (hq.2.2.2.1 x hx).2)).trans hfl0
      have hw : kw D cls (tyl k) L s s.heap f1 [(qa, cQ ln adr cc rr), (ln, cLn k zl), (t, cT fd rw (nI cols) rd pa nu)] H locs := ⟨f1, hg, qt_kn hq ht hfq1 hfl1 (tc_fo htc0 ho1).2.2.2.2.2.1⟩
      refine lv_aload_n hx hb d_Q_clear_45 rfl (lv_at hl 0 rfl) ?_
      refine k_get hx hb hG lay_Q hown hw 0 rfl rfl 0 (by decide) (hG _ fl_Q_11) (fun _ h9 => h9) rfl d_Q_clear_46 ?_
      refine lv_iload hx hb d_Q_clear_49 (lv_at hl 5 rfl) ?_
      refine k_aald hx hb hw 1 3 rfl rfl (j) (rfl) (by omega) (by first | decide | omega) (hq.2.2.2.2.2 j (by omega)) d_Q_clear_51 ?_
      refine lv_aload_n hx hb d_Q_clear_52 rfl (lv_at hl 0 rfl) ?_
      refine k_get hx hb hG lay_Q hown hw 0 rfl rfl 1 (by decide) (hG _ fl_Q_18) (fun _ h9 => h9) rfl d_Q_clear_53 ?_
      refine lv_aload_n hx hb d_Q_clear_56 rfl (lv_at hl 0 rfl) ?_
      refine k_get hx hb hG lay_Q hown hw 0 rfl rfl 3 (by decide) (hG _ fl_Q_25) (fun _ h9 => h9) rfl d_Q_clear_57 ?_
      have hw := hg
      obtain ⟨mj1, -, nj1, gj1, dj1, ej1, -⟩ := hf1 j (by omega)
      refine g_ov (c_V (np := 2) S (n_setProduct l D k L f1 adr 19 _ hq.2.2.2.2.1 hf1 j (by omega) 12 (by omega) 14 (by omega) (by omega) (by omega) (by omega) (by rw [va_up_self]; omega) (by rw [va_up_ne _ _ (by omega), h14]; omega)) hw (mj1) (ej1) rfl ml_Q_65 im_W_setProduct se_W_W_setProduct in_W co_W_setProduct (by decide +kernel) rfl ⟨rfl, rfl, by decide, by decide⟩ hl.1 rfl (by simp [Value.category]) d_Q_clear_60 ⟨Nat.zero_le _, Nat.zero_le _⟩) hw (fun f2 H locs hp2 hg => ?_)
      obtain ⟨hf2, ho2⟩ := hp2
      rw [va_up_self, va_up_ne _ _ (show 14 ≠ 12 by omega), h14] at hf2
      have ho2 := ho1.trans ho2
      have hfq2 := (ho2 qa (fun x hx => (hq.2.2.2.1 x hx).1)).trans hfq0
      have hfl2 := (ho2 ln (fun x hx => (hq.2.2.2.1 x hx).2)).trans hfl0
      have hte2 := tc_fo hte0 ho2
      have hw : kw D cls (tyl k) L s s.heap f2 [(qa, cQ ln adr cc rr), (ln, cLn k zl), (t, cT fd rw (nI cols) rd pa nu)] H locs := ⟨f2, hg, qt_kn hq ht hfq2 hfl2 hte2.2.2.2.2.2.1⟩
      refine lv_aload_n hx hb d_Q_clear_63 rfl (lv_at hl 1 rfl) ?_
      refine lv_iload_n hx hb d_Q_clear_64 rfl (lv_at hl 3 rfl) ?_
      refine lv_iload hx hb d_Q_clear_65 (lv_at hl 5 rfl) ?_
      refine lv_aload_n hx hb d_Q_clear_67 rfl (lv_at hl 0 rfl) ?_
      refine k_get hx hb hG lay_Q hown hw 0 rfl rfl 1 (by decide) (hG _ fl_Q_18) (fun _ h9 => h9) rfl d_Q_clear_68 ?_
      have hw := hg
      refine g_ov (c_V (np := 3) S (n_load l D k L f2 adr 19 _ hq.2.2.2.2.1 hf2 t pa nu ro2 fd rw (nI cols) rd z w2 led hte2 j 12 (by omega) (by omega) (v2 j) (hv2 j (by omega))) hw (hte2.2.2.1) (hte2.2.2.2.2.2.1) rfl ml_Q_46 im_T_load se_T_T_load in_T co_T_load (by decide +kernel) rfl ⟨rfl, rfl, by decide, by decide⟩ hl.1 rfl (by simp [Value.category]) d_Q_clear_71 ⟨Nat.zero_le _, Nat.zero_le _⟩) hw (fun f3 H locs hp3 hg => ?_)
      obtain ⟨hf3, ho3⟩ := hp3
      have ho3 := ho2.trans ho3
      have hfq3 := (ho3 qa (fun x hx => (hq.2.2.2.1 x hx).1)).trans hfq0
      have hfl3 := (ho3 ln (fun x hx => (hq.2.2.2.1 x hx).2)).trans hfl0
      have hw : kw D cls (tyl k) L s s.heap f3 [(qa, cQ ln adr cc rr), (ln, cLn k zl), (t, cT fd rw (nI cols) rd pa nu)] H locs := ⟨f3, hg, qt_kn hq ht hfq3 hfl3 (tc_fo htc0 ho3).2.2.2.2.2.1⟩
      refine lv_aload_n hx hb d_Q_clear_74 rfl (lv_at hl 0 rfl) ?_
      refine k_get hx hb hG lay_Q hown hw 0 rfl rfl 2 (by decide) (hG _ fl_Q_22) (fun _ h9 => h9) rfl d_Q_clear_75 ?_
      refine lv_aload_n hx hb d_Q_clear_78 rfl (lv_at hl 0 rfl) ?_
      refine k_get hx hb hG lay_Q hown hw 0 rfl rfl 1 (by decide) (hG _ fl_Q_18) (fun _ h9 => h9) rfl d_Q_clear_79 ?_
      refine lv_aload_n hx hb d_Q_clear_82 rfl (lv_at hl 0 rfl) ?_
      refine k_get hx hb hG lay_Q hown hw 0 rfl rfl 4 (by decide) (hG _ fl_Q_28) (fun _ h9 => h9) rfl d_Q_clear_83 ?_
      have hw := hg
      obtain ⟨mp3, -, np3, gp3, dp3, ep3, -⟩ := hf3 13 (by omega)
      refine g_ov (c_V (np := 2) S (n_setProduct l D k L f3 adr 19 _ hq.2.2.2.2.1 hf3 13 (by omega) 12 (by omega) 15 (by omega) (by omega) (by omega) (by omega) (by rw [va_up_self]; omega) (by rw [va_up_ne _ _ (by omega), va_up_ne _ _ (by omega), va_up_ne _ _ (by omega), h15]; omega)) hw (mp3) (ep3) rfl ml_Q_65 im_W_setProduct se_W_W_setProduct in_W co_W_setProduct (by decide +kernel) rfl ⟨rfl, rfl, by decide, by decide⟩ hl.1 rfl (by simp [Value.category]) d_Q_clear_86 ⟨Nat.zero_le _, Nat.zero_le _⟩) hw (fun f4 H locs hp4 hg => ?_)
      obtain ⟨hf4, ho4⟩ := hp4
      rw [va_up_self, va_up_ne _ _ (show 15 ≠ 12 by omega), va_up_ne _ _ (show 15 ≠ j by omega), va_up_ne _ _ (show 15 ≠ 12 by omega), h15] at hf4
      have ho4 := ho3.trans ho4
      have hfq4 := (ho4 qa (fun x hx => (hq.2.2.2.1 x hx).1)).trans hfq0
      have hfl4 := (ho4 ln (fun x hx => (hq.2.2.2.1 x hx).2)).trans hfl0
      have hw : kw D cls (tyl k) L s s.heap f4 [(qa, cQ ln adr cc rr), (ln, cLn k zl), (t, cT fd rw (nI cols) rd pa nu)] H locs := ⟨f4, hg, qt_kn hq ht hfq4 hfl4 (tc_fo htc0 ho4).2.2.2.2.2.1⟩
      refine lv_aload_n hx hb d_Q_clear_89 rfl (lv_at hl 0 rfl) ?_
      refine k_get hx hb hG lay_Q hown hw 0 rfl rfl 0 (by decide) (hG _ fl_Q_11) (fun _ h9 => h9) rfl d_Q_clear_90 ?_
      refine lv_iload hx hb d_Q_clear_93 (lv_at hl 5 rfl) ?_
      refine k_aald hx hb hw 1 3 rfl rfl (j) (rfl) (by omega) (by first | decide | omega) (hq.2.2.2.2.2 j (by omega)) d_Q_clear_95 ?_
      refine lv_aload_n hx hb d_Q_clear_96 rfl (lv_at hl 0 rfl) ?_
      refine k_get hx hb hG lay_Q hown hw 0 rfl rfl 2 (by decide) (hG _ fl_Q_22) (fun _ h9 => h9) rfl d_Q_clear_97 ?_
      have hw := hg
      obtain ⟨mj4, -, nj4, gj4, dj4, ej4, -⟩ := hf4 j (by omega)
      have e1 : ∀ (a b d : Int), va_up (va_up (va_up (va_up cur 12 a) j b) 12 d) 13 (v2 j * v col) j = b := fun a b d => by rw [va_up_ne _ _ (by omega), va_up_ne _ _ (by omega), va_up_self]
      refine g_ov (c_V (np := 1) S (n_subtract l D k L f4 adr 19 _ hq.2.2.2.2.1 hf4 j (by omega) 13 (by omega) (by omega) (by rw [e1]; exact Nat.lt_trans (b55 b1 b4) b101) (by rw [va_up_self]; exact Nat.lt_trans (b55 b2 b3) b101)) hw (mj4) (ej4) rfl ml_Q_69 im_W_subtract se_W_W_subtract in_W co_W_subtract (by decide +kernel) rfl ⟨rfl, rfl, by decide, by decide⟩ hl.1 rfl (by simp [Value.category]) d_Q_clear_100 ⟨Nat.zero_le _, Nat.zero_le _⟩) hw (fun f5 H locs hp5 hg => ?_)
      obtain ⟨hf5, ho5⟩ := hp5
      rw [e1, va_up_self] at hf5
      refine lv_iinc (k := 5) hx hb d_Q_clear_103 hl rfl (ii1 j) (by decide) rfl (fun ls hl => ?_)
      refine lv_goto (tgt := 25) hx hb d_Q_clear_106 (by decide) ?_
      have hl := lv_sub hl [1, 2, 3, 4, 5, 0] rfl
      refine ih (j + 1) f5 _ H locs ls (by omega) hf5 (ho4.trans ho5) ?_ ?_ (fun i hi => ?_) hl hg
      · rw [va_up_ne _ _ (by omega), va_up_ne _ _ (by omega), va_up_ne _ _ (by omega), va_up_ne _ _ (by omega), va_up_ne _ _ (by omega)]; exact h14
      · rw [va_up_ne _ _ (by omega), va_up_ne _ _ (by omega), va_up_ne _ _ (by omega), va_up_ne _ _ (by omega), va_up_ne _ _ (by omega)]; exact h15
      · by_cases e : i = j
        · rw [e, va_up_self]; rfl
        · rw [va_up_ne _ _ e, va_up_ne _ _ (by omega), va_up_ne _ _ (by omega), va_up_ne _ _ e, va_up_ne _ _ (by omega)]; exact hcv i (by omega)
end CL
set_option maxRecDepth 100000 in
set_option maxHeartbeats 4000000 in
/-- clear(table, row, leader, column) -/
theorem m_Q_clear (l : Launch) (D : va_G) (k : Nat → ClassId) (L : List Nat) (f0 : Nat → va_E) (adr : Nat → Nat) (qa ln cols t pa nu ro ro2 row led col : Nat) (fd rw rd : Int32) (z zl : Nat → Option Nat) (w w2 : Nat → Int32) (v v2 : Nat → Int) (hq : qs L adr qa ln zl) (ht : qt L adr qa ln t nu ro) (hcols : cols ≤ 12) (hst : qst L k adr qa ln zl f0) (htc : tc L k f0 adr 19 t pa nu ro fd rw (nI cols) rd z w row) (hte : tc L k f0 adr 19 t pa nu ro2 fd rw (nI cols) rd z w2 led) (hcol : col < cols) (hv : ∀ j, j < cols → nm w j (v j)) (hv2 : ∀ j, j < cols → nm w2 j (v2 j)) (hbo : ∀ j, j < cols → (ou (gd (cl1 v v2 col) cols) (cl1 v v2 col j)).natAbs < B30 ^ 5) : Mv l y_Q_clear (Cond.code y_Q_clear c_Q_clear 6 none :: G) (rmN 4) D cls (tyl k) L f0 [.ref qa, .ref t, .int (nI row), .int (nI led), .int (nI col)] (fun f' => qst L k adr qa ln zl f' ∧ (∃ w1, f' ro = cR k w1 ∧ (∀ j, j < cols → nm w1 j (ou (gd (cl1 v v2 col) cols) (cl1 v v2 col j))) ∧ ∀ x, cols * 6 ≤ x → w1 x = w x) ∧ qo adr qa ro f0 f') := by
  obtain ⟨cc, rr, vals, hcr, hf, hfq, hfl⟩ := hst
  have h12 := htc.2.2.2.2.2.2.2.2.2.2.2
  -- METHOD Q_clear | loc 0=qa 1=t 2=row 3=led 4=col | ws qa ln t | fld qa.line=ln
  refine mk_met (by decide) (Nat.le_of_ble_eq_true rfl) (fun p e s m below meth c ls S hr hlocks hw hl => ?_)
  have hx := S.1
  have hb := S.2.1
  have hown : s.vm.findClass R_Q = some m.cls := S.2.2.2.1
  have hG := S.2.2.2.2
  have hl : lv_has ls 6 [(0, .ref qa), (1, .ref t), (2, .int (nI row)), (3, .int (nI led)), (4, .int (nI col))] := hl
  have hg := hw
  have hw : kw D cls (tyl k) L s s.heap f0 [(qa, cQ ln adr cc rr), (ln, cLn k zl), (t, cT fd rw (nI cols) rd pa nu)] s.heap [] := ⟨f0, hg, qt_kn hq ht hfq hfl htc.2.2.2.2.2.1⟩
  refine lv_aload_n hx hb d_Q_clear_0 rfl (lv_at hl 1 rfl) ?_
  refine lv_iload_n hx hb d_Q_clear_1 rfl (lv_at hl 3 rfl) ?_
  refine lv_iload hx hb d_Q_clear_2 (lv_at hl 4 rfl) ?_
  refine lv_aload_n hx hb d_Q_clear_4 rfl (lv_at hl 0 rfl) ?_
  refine k_get hx hb hG lay_Q hown hw 0 rfl rfl 3 (by decide) (hG _ fl_Q_25) (fun _ h9 => h9) rfl d_Q_clear_5 ?_
  have hw := hg
  refine g_ov (c_V (np := 3) S (n_load l D k L f0 adr 19 vals hq.2.2.2.2.1 hf t pa nu ro2 fd rw (nI cols) rd z w2 led hte col 14 (by omega) (by omega) (v2 col) (hv2 col hcol)) hw (htc.2.2.1) (htc.2.2.2.2.2.1) rfl ml_Q_46 im_T_load se_T_T_load in_T co_T_load (by decide +kernel) rfl ⟨rfl, rfl, by decide, by decide⟩ hl.1 rfl (by simp [Value.category]) d_Q_clear_8 ⟨Nat.zero_le _, Nat.zero_le _⟩) hw (fun f1 H locs hp1 hg => ?_)
  obtain ⟨hf1, ho1⟩ := hp1
  have hfq1 := (ho1 qa (fun x hx => (hq.2.2.2.1 x hx).1)).trans hfq
  have hfl1 := (ho1 ln (fun x hx => (hq.2.2.2.1 x hx).2)).trans hfl
  have htc1 := tc_fo htc ho1
  have hw : kw D cls (tyl k) L s s.heap f1 [(qa, cQ ln adr cc rr), (ln, cLn k zl), (t, cT fd rw (nI cols) rd pa nu)] H locs := ⟨f1, hg, qt_kn hq ht hfq1 hfl1 htc1.2.2.2.2.2.1⟩
  refine lv_aload_n hx hb d_Q_clear_11 rfl (lv_at hl 1 rfl) ?_
  refine lv_iload_n hx hb d_Q_clear_12 rfl (lv_at hl 2 rfl) ?_
  refine lv_iload hx hb d_Q_clear_13 (lv_at hl 4 rfl) ?_
  refine lv_aload_n hx hb d_Q_clear_15 rfl (lv_at hl 0 rfl) ?_
  refine k_get hx hb hG lay_Q hown hw 0 rfl rfl 4 (by decide) (hG _ fl_Q_28) (fun _ h9 => h9) rfl d_Q_clear_16 ?_
  have hw := hg
  refine g_ov (c_V (np := 3) S (n_load l D k L f1 adr 19 _ hq.2.2.2.2.1 hf1 t pa nu ro fd rw (nI cols) rd z w row htc1 col 15 (by omega) (by omega) (v col) (hv col hcol)) hw (htc1.2.2.1) (htc1.2.2.2.2.2.1) rfl ml_Q_46 im_T_load se_T_T_load in_T co_T_load (by decide +kernel) rfl ⟨rfl, rfl, by decide, by decide⟩ hl.1 rfl (by simp [Value.category]) d_Q_clear_19 ⟨Nat.zero_le _, Nat.zero_le _⟩) hw (fun f2 H locs hp2 hg => ?_)
  obtain ⟨hf2, ho2⟩ := hp2
  have ho2 := ho1.trans ho2
  refine lv_iconst (v := 0) hx hb d_Q_clear_22 (by decide) ?_
  refine lv_istore hx hb d_Q_clear_23 hl (by decide) rfl (fun ls hl => ?_)
  have hl := lv_sub hl [1, 2, 3, 4, 5, 0] rfl
  refine w_cl S hq ht hcols hcol hv hv2 hfq hfl htc hte (fun f1 cur H locs ls hf1 ho1 hcv hl hg => ?_) cols 0 f2 _ _ _ ls (by omega) hf2 ho2 (by rw [va_up_ne _ _ (by omega), va_up_self]) (by rw [va_up_self]) (fun i hi => by omega) hl hg
  have htc1 := tc_fo htc ho1
  have hfq1 := (ho1 qa (fun x hx => (hq.2.2.2.1 x hx).1)).trans hfq
  have hfl1 := (ho1 ln (fun x hx => (hq.2.2.2.1 x hx).2)).trans hfl
  have hb11 : ∀ j, j < cols → (cur j).natAbs < B30 ^ 11 := fun j hj => by rw [hcv j hj]; exact cl1_lt (fun j hj => nm_lt (hv j hj)) (fun j hj => nm_lt (hv2 j hj)) hcol hj
  have hw : kw D cls (tyl k) L s s.heap f1 [(qa, cQ ln adr cc rr), (ln, cLn k zl), (t, cT fd rw (nI cols) rd pa nu)] H locs := ⟨f1, hg, qt_kn hq ht hfq1 hfl1 htc1.2.2.2.2.2.1⟩
  refine lv_aload_n hx hb d_Q_clear_109 rfl (lv_at hl 0 rfl) ?_
  refine lv_aload_n hx hb d_Q_clear_110 rfl (lv_at hl 1 rfl) ?_
  refine k_get hx hb hG lay_T hown hw 2 rfl rfl 2 (by decide) (hG _ fl_Q_40) (fun _ h9 => h9) rfl d_Q_clear_111 ?_
  have hw := hg
  refine g_ov (c_V (np := 1) S (m_Q_findCommon l D k L f1 adr qa ln cols cc rr zl cur hq hcr hcols hf1 hfq1 hfl1 hb11) hw (hq.1) (hfq1) rfl ml_Q_50 im_Q_findCommon se_Q_Q_findCommon in_Q co_Q_findCommon (by decide +kernel) rfl ⟨rfl, rfl, by decide, by decide⟩ hl.1 rfl (by simp [Value.category]) d_Q_clear_114 ⟨Nat.zero_le _, Nat.zero_le _⟩) hw (fun f2 H locs hp hw => ?_)
  obtain ⟨c2, r2, vals2, hcr2, hf2, hfq2, hfl2, hg2, hv2', ho2⟩ := hp
  have htc2 : tc L k f2 adr 19 t pa nu ro fd rw (nI cols) rd z w row := tc_upd htc1 ((ho2 ro (Ne.symm ht.2.2.2.2.1) (fun x hx => (h12 x hx).2.2)).trans htc1.2.2.2.2.2.2.2.1) (ho2 t (Ne.symm ht.2.2.1) (fun x hx => (h12 x hx).1)) (ho2 nu (Ne.symm ht.2.2.2.1) (fun x hx => (h12 x hx).2.1))
  have hv2'' : ∀ i, i < cols → vals2 i = cl1 v v2 col i := fun i hi => (hv2' i (by omega) (by omega) (by omega)).trans (hcv i hi)
  have hgv : gd cur cols = gd (cl1 v v2 col) cols := gd_congr hcv
  rw [hgv] at hg2
  have hg := hw
  refine lv_aload_n hx hb d_Q_clear_117 rfl (lv_at hl 0 rfl) ?_
  refine lv_aload_n hx hb d_Q_clear_118 rfl (lv_at hl 1 rfl) ?_
  refine lv_iload_n hx hb d_Q_clear_119 rfl (lv_at hl 2 rfl) ?_
  refine g_ov (c_V (np := 2) S (m_Q_storeLine l D k L f2 adr qa ln cols c2 r2 t pa nu ro row (gd (cl1 v v2 col) cols) fd rw rd z zl w vals2 hq ht hcr2 hcols hf2 hfq2 hfl2 htc2 hg2 (fun i hi => by rw [hv2'' i hi, ← hcv i hi]; exact hb11 i hi) (fun i hi => by rw [hv2'' i hi]; exact hbo i hi)) hw (hq.1) (hfq2) rfl ml_Q_54 im_Q_storeLine se_Q_Q_storeLine in_Q co_Q_storeLine (by decide +kernel) rfl ⟨rfl, rfl, by decide, by decide⟩ hl.1 rfl (by simp [Value.category]) d_Q_clear_120 ⟨Nat.zero_le _, Nat.zero_le _⟩) hw (fun f3 H locs hp3 hw => ?_)
  obtain ⟨cur3, w3, hf3, hfq3, hfl3, hr3, hn3, hwx3, ho3⟩ := hp3
  exact g_retv hx hb hr hlocks hw ⟨⟨c2, r2, cur3, hcr2, hf3, hfq3, hfl3⟩, ⟨w3, hr3, fun j hj => by have := hn3 j hj; rw [hv2'' j hj] at this; exact this, hwx3⟩, fun q h1 h2 h3 => (ho3 q h1 h3).trans ((ho2 q h2 h3).trans (ho1 q h3))⟩ d_Q_clear_123


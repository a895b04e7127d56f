-- ===== Table: start has hasPlace findRow swapRows =====
theorem TB.obj {L : List Nat} {k : Nat → ClassId} {f : Nat → va_E} {own : Nat → Nat} {τ t pa nu : Nat} {rs : Nat → Nat} {fd : Int32} {rows cols : Nat} {rd : Int32} {P : Nat → Int32} {Wt : Nat → Nat → Int32} {f' : Nat → va_E} {fd' : Int32} {rows' cols' : Nat} {rd' : Int32} (h : TB L own k f τ t pa nu rs fd rows cols rd P Wt) (hk : kn L f f' [(t, cT fd' (nI rows') (nI cols') rd' pa nu)]) : TB L own k f' τ t pa nu rs fd' rows' cols' rd' P Wt ∧ oe own [τ] f f' := by
  obtain ⟨h1, h2, h3, ⟨z, h4, h5⟩, h6⟩ := h
  have ho : ∀ q, q ≠ t → f' q = f q := fun q hq => kn_off hk (by simp; exact hq)
  refine ⟨⟨h1, (hk.1 0 _ rfl).2, (ho pa (Ne.symm h1.2.2.2.2.1)).trans h3, ⟨z, (ho nu (Ne.symm h1.2.2.2.2.2.1)).trans h4, h5⟩, fun i hi => (ho _ (Ne.symm (h1.2.2.2.1 i hi).2.2.1)).trans (h6 i hi)⟩, fun q hm => ho q (fun e => hm ?_)⟩
  rw [e]; simp; exact h1.1.2
theorem TB.plc {L : List Nat} {k : Nat → ClassId} {f : Nat → va_E} {own : Nat → Nat} {τ t pa nu : Nat} {rs : Nat → Nat} {fd : Int32} {rows cols : Nat} {rd : Int32} {P : Nat → Int32} {Wt : Nat → Nat → Int32} {f' : Nat → va_E} {P' : Nat → Int32} (h : TB L own k f τ t pa nu rs fd rows cols rd P Wt) (hk : kn L f f' [(t, cT fd (nI rows) (nI cols) rd pa nu), (pa, cP k P')]) : TB L own k f' τ t pa nu rs fd rows cols rd P' Wt ∧ oe own [τ] f f' := by
  obtain ⟨h1, h2, h3, ⟨z, h4, h5⟩, h6⟩ := h
  have ho : ∀ q, q ≠ pa → f' q = f q := fun q hq => by
    by_cases e1 : q = t
    · rw [e1, (hk.1 0 _ rfl).2, h2]
    · exact kn_off hk (by simp; exact ⟨e1, hq⟩)
  refine ⟨⟨h1, (hk.1 0 _ rfl).2, (hk.1 1 _ rfl).2, ⟨z, (ho nu (Ne.symm h1.2.2.2.2.2.2.1)).trans h4, h5⟩, fun i hi => (ho _ (Ne.symm (h1.2.2.2.1 i hi).2.2.2.1)).trans (h6 i hi)⟩, fun q hm => ho q (fun e => hm ?_)⟩
  rw [e]; simp; exact h1.2.1.2
theorem TB.knN {L : List Nat} {k : Nat → ClassId} {f : Nat → va_E} {own : Nat → Nat} {τ t pa nu : Nat} {rs : Nat → Nat} {fd : Int32} {rows cols : Nat} {rd : Int32} {P : Nat → Int32} {Wt : Nat → Nat → Int32} (h : TB L own k f τ t pa nu rs fd rows cols rd P Wt) {z : Nat → Option Nat} (hz : f nu = cO k z) : kn L f f [(t, cT fd (nI rows) (nI cols) rd pa nu), (nu, cO k z)] := kn_sub (h.kn3 hz (row := 0) (by omega)) [0, 1] rfl rfl
theorem nm_zero {w : Nat → Int32} {j : Nat} (h : w (j * 6) = 0) : nm w j 0 := ⟨0, fun _ => 0, by omega, fun i hi => by omega, fun h => by omega, h, rfl⟩
section ST
variable {p : Program} {l : Launch} {e : Env} {s : State} {m : MethodId} {args : Array Value} {below : List Frame} {meth : Method} {c : Code} {Q : State → Prop} {D : va_G} {k : Nat → ClassId} {L : List Nat} {H0 : Heap}
variable {own : Nat → Nat} {τ t pa nu : Nat} {rs : Nat → Nat} {fd : Int32} {rows cols : Nat} {rd : Int32} {P : Nat → Int32} {Wt : Nat → Nat → Int32}
set_option maxRecDepth 100000 in
set_option maxHeartbeats 4000000 in
theorem w_st (S : CallFix p m c c_T_start 5 s args G R_T) (hr : meth.sig.returnType = none) (hlocks : meth.locks = false) (hrows : rows ≤ 12) {x1 x3 : Int32} {f0 : Nat → va_E} :
    ∀ (i r : Nat) (f : Nat → va_E) (Wt : Nat → Nat → Int32) (H : Heap) (locs : List Loc) (ls : Array Slot), r + i = rows → TB L own k f τ t pa nu rs fd rows cols rd P Wt → oe own [τ] f0 f → (∀ i, i < r → ∀ x, x < 72 → Wt i x = 0) → lv_has ls 5 [(0, .ref t), (1, .int x1), (2, .int (nI rows)), (3, .int x3), (4, .int (nI r))] → gw D cls (tyl k) L s s.heap f H locs →
    W p l e (rmN 1) s m args below meth c H locs 0 0 (MQ below (va_Qv (fun f' => ∃ Wt, TB L own k f' τ t pa nu rs fd rows cols rd P Wt ∧ oe own [τ] f0 f' ∧ ∀ i, i < rows → ∀ x, x < 72 → Wt i x = 0) (mst D cls (tyl k) L) (fun q => q ∈ L)) args s 0 0 (fun q => q ∈ L)) (F0 m 23 ls []) := by
  have hx := S.1
  have hb := S.2.1
  have hown : s.vm.findClass R_T = some m.cls := S.2.2.2.1
  have hG := S.2.2.2.2
  intro i
  induction i with
  | zero =>
    intro r f Wt H locs ls hj hT ho hn hl hg
    have hj : r = rows := by omega
    subst hj
    -- METHOD T_start | loc 0=t 1=x1 2=rows 3=x3 4=r | ws t nu
    refine lv_iload hx hb d_T_start_23 (lv_at hl 4 rfl) ?_
    refine lv_iload_n hx hb d_T_start_25 rfl (lv_at hl 2 rfl) ?_
    refine lv_icmp_ge (tgt := 46) hx hb d_T_start_26 (by decide) (fun hc => ?_) (fun hc => ?_)
    · exact g_retv hx hb hr hlocks hg ⟨Wt, hT, ho, hn⟩ d_T_start_46
    · exact absurd (nI_le (Nat.le_refl _) (by omega)) hc
  | succ i ih =>
    intro r f Wt H locs ls hj hT ho hn hl hg
    obtain ⟨z, hz, hzs⟩ := hT.2.2.2.1
    have hw : kw D cls (tyl k) L s s.heap f [(t, cT fd (nI rows) (nI cols) rd pa nu), (nu, cO k z)] H locs := ⟨f, hg, hT.knN hz⟩
    -- METHOD T_start | loc 0=t 1=x1 2=rows 3=x3 4=r | ws t nu | fld t.numbers=nu
    refine lv_iload hx hb d_T_start_23 (lv_at hl 4 rfl) ?_
    refine lv_iload_n hx hb d_T_start_25 rfl (lv_at hl 2 rfl) ?_
    refine lv_icmp_ge (tgt := 46) hx hb d_T_start_26 (by decide) (fun hc => ?_) (fun hc => ?_)
    · exact absurd hc (nI_ge (by omega) (by omega))
    · -- STK
      refine lv_aload_n hx hb d_T_start_29 rfl (lv_at hl 0 rfl) ?_
      refine k_get hx hb hG lay_T hown hw 0 rfl rfl 5 (by decide) (hG _ fl_T_21) (fun _ h9 => h9) rfl d_T_start_30 ?_
      refine lv_iload hx hb d_T_start_33 (lv_at hl 4 rfl) ?_
      refine k_aaldA hx hb hw 1 1 rfl rfl (r) (rfl) (by omega) (by first | decide | omega) (hzs r (by omega)) d_T_start_35 ?_
      refine lv_iconst (v := 0) hx hb d_T_start_36 (by decide) ?_
      have hw := hg
      have hkr : kn L f f [(rs r, .inl (k 0, 72, .inl (Wt r)))] := kn_sub (hT.kn3 hz (row := r) (by omega)) [2] rfl rfl
      refine g_ov (c_X (np := 2) S (m_fill l D k L f (rs r) 72 0 (Wt r) (by decide) hkr) hw ml_T_34 st_JA_fill_0 in_JA co_JA_fill_0 (by decide +kernel) rfl ⟨rfl, rfl, by decide, by decide⟩ hl.1 rfl (by simp [Value.category]) d_T_start_37 ⟨Nat.zero_le _, Nat.zero_le _⟩) hw (fun f3 H locs hp3 hg => ?_)
      have ho3 : ∀ q, q ≠ rs r → f3 q = f q := fun q hq => kn_off hp3 (by simp; exact hq)
      have hT3 := hT.row (row := r) (by omega) (hp3.1 0 _ rfl).2 (fun q _ h => ho3 q h)
      refine lv_iinc (k := 4) hx hb d_T_start_40 hl rfl (ii1 r) (by decide) rfl (fun ls hl => ?_)
      refine lv_goto (tgt := 23) hx hb d_T_start_43 (by decide) ?_
      have hl := lv_sub hl [1, 2, 3, 4, 0] rfl
      refine ih (r + 1) f3 _ H locs ls (by omega) hT3 (ho.trans (fun q hm => ho3 q (fun e => hm (by rw [e]; simp; exact (hT.1.2.2.2.1 r (by omega)).2.1)))) (fun i hi x hx => ?_) hl hg
      by_cases e : i = r
      · rw [e, va_up_self, if_pos ⟨by omega, hx⟩]
      · rw [va_up_ne _ _ e]; exact hn i (by omega) x hx
set_option maxRecDepth 100000 in
set_option maxHeartbeats 4000000 in
theorem w_fr (S : CallFix p m c c_T_findRow 4 s args G R_T) (hr : meth.sig.returnType = some .int) (hlocks : meth.locks = false) (hrows : rows ≤ 12) {col from1 : Nat} (hcol : col < 12) {A : Nat → Nat → Int} {f : Nat → va_E} (hT : TB L own k f τ t pa nu rs fd rows cols rd P Wt) (hA : ∀ i, i < rows → nm (Wt i) col (A i col)) :
    ∀ (i r : Nat) (H : Heap) (locs : List Loc) (ls : Array Slot), r + i = rows → from1 ≤ r → (∀ x, from1 ≤ x → x < r → A x col = 0) → lv_has ls 4 [(0, .ref t), (1, .int (nI from1)), (2, .int (nI col)), (3, .int (nI r))] → gw D cls (tyl k) L s s.heap f H locs →
    W p l e (rmN 2) s m args below meth c H locs 0 0 (MQ below (va_Qi (fun r f' => f' = f ∧ ((∃ i, from1 ≤ i ∧ i < rows ∧ r = nI i ∧ A i col ≠ 0 ∧ ∀ x, from1 ≤ x → x < i → A x col = 0) ∨ (r = -1 ∧ ∀ x, from1 ≤ x → x < rows → A x col = 0))) (mst D cls (tyl k) L) (fun q => q ∈ L)) args s 0 0 (fun q => q ∈ L)) (F0 m 2 ls []) := by
  have hx := S.1
  have hb := S.2.1
  have hown : s.vm.findClass R_T = some m.cls := S.2.2.2.1
  have hG := S.2.2.2.2
  intro i
  induction i with
  | zero =>
    intro r H locs ls hj hfr hn hl hg
    have hj : r = rows := by omega
    subst hj
    have hw : kw D cls (tyl k) L s s.heap f [(t, cT fd (nI r) (nI cols) rd pa nu)] H locs := ⟨f, hg, hT.kn1⟩
    -- METHOD T_findRow | loc 0=t 1=from 2=col 3=r | ws t nu
    refine lv_iload_n hx hb d_T_findRow_2 rfl (lv_at hl 3 rfl) ?_
    refine lv_aload_n hx hb d_T_findRow_3 rfl (lv_at hl 0 rfl) ?_
    refine k_get hx hb hG lay_T hown hw 0 rfl rfl 1 (by decide) (hG _ fl_T_28) (fun _ h9 => h9) rfl d_T_findRow_4 ?_
    refine lv_icmp_ge (tgt := 27) hx hb d_T_findRow_7 (by decide) (fun hc => ?_) (fun hc => ?_)
    · -- LOC 0=t 1=from 2=col 3=r
      refine lv_iconst (v := (-1)) hx hb d_T_findRow_27 (by decide) ?_
      exact g_reti hx hb hr hlocks hg ⟨rfl, Or.inr ⟨rfl, hn⟩⟩ d_T_findRow_28
    · exact absurd (nI_le (Nat.le_refl _) (by omega)) hc
  | succ i ih =>
    intro r H locs ls hj hfr hn hl hg
    have hw : kw D cls (tyl k) L s s.heap f [(t, cT fd (nI rows) (nI cols) rd pa nu)] H locs := ⟨f, hg, hT.kn1⟩
    have hz := nm_hz (hA r (by omega))
    -- METHOD T_findRow | loc 0=t 1=from 2=col 3=r | ws t
    refine lv_iload_n hx hb d_T_findRow_2 rfl (lv_at hl 3 rfl) ?_
    refine lv_aload_n hx hb d_T_findRow_3 rfl (lv_at hl 0 rfl) ?_
    refine k_get hx hb hG lay_T hown hw 0 rfl rfl 1 (by decide) (hG _ fl_T_28) (fun _ h9 => h9) rfl d_T_findRow_4 ?_
    refine lv_icmp_ge (tgt := 27) hx hb d_T_findRow_7 (by decide) (fun hc => ?_) (fun hc => ?_)
    · exact absurd hc (nI_ge (by omega) (by omega))
    · -- STK
      refine lv_aload_n hx hb d_T_findRow_10 rfl (lv_at hl 0 rfl) ?_
      refine lv_iload_n hx hb d_T_findRow_11 rfl (lv_at hl 3 rfl) ?_
      refine lv_iload_n hx hb d_T_findRow_12 rfl (lv_at hl 2 rfl) ?_
      have hw := hg
      refine g_oi (c_V (np := 2) S (tb_isZero l D hT (row := r) (col := col) (by omega) (by omega) (hA r (by omega))) hw (hT.1.1.1) (hT.2.1) rfl ml_T_40 im_T_isZero se_T_T_isZero in_T co_T_isZero (by decide +kernel) rfl ⟨rfl, rfl, by decide, by decide⟩ hl.1 rfl (by simp [Value.category]) d_T_findRow_13 ⟨Nat.zero_le _, Nat.zero_le _⟩) hw (fun r1 f1 H locs hp hg => ?_)
      rw [hp.1] at hg
      refine l_top hp.2 ?_
      refine lv_if_ne (tgt := 21) hx hb d_T_findRow_16 (by decide) (fun hc => ?_) (fun hc => ?_)
      · have h0 : A r col = 0 := Classical.byContradiction fun h => hc (if_neg (fun q => h (hz.mp q)))
        refine lv_iinc (k := 3) hx hb d_T_findRow_21 hl rfl (ii1 r) (by decide) rfl (fun ls hl => ?_)
        refine lv_goto (tgt := 2) hx hb d_T_findRow_24 (by decide) ?_
        have hl := lv_sub hl [1, 2, 3, 0] rfl
        refine ih (r + 1) H locs ls (by omega) (by omega) (fun x h1 h2 => ?_) hl hg
        by_cases e : x = r
        · rw [e]; exact h0
        · exact hn x h1 (by omega)
      · have h0 : A r col ≠ 0 := fun h => by rw [if_pos (hz.mpr h)] at hc; exact absurd hc (by decide)
        refine lv_iload_n hx hb d_T_findRow_19 rfl (lv_at hl 3 rfl) ?_
        exact g_reti hx hb hr hlocks hg ⟨rfl, Or.inl ⟨r, hfr, by omega, rfl, h0, hn⟩⟩ d_T_findRow_20
set_option maxRecDepth 100000 in
set_option maxHeartbeats 4000000 in
theorem w_hp (S : CallFix p m c c_T_hasPlace 3 s args G R_T) (hr : meth.sig.returnType = some .boolean) (hlocks : meth.locks = false) (hrows : rows ≤ 12) {col : Nat} (hcol : col < 12) {pl : Nat → Nat} {f : Nat → va_E} (hT : TB L own k f τ t pa nu rs fd rows cols rd P Wt) (hpl : ∀ i, i < rows → P i = nI (pl i) ∧ pl i < 12) :
    ∀ (i r : Nat) (H : Heap) (locs : List Loc) (ls : Array Slot), r + i = rows → (∀ x, x < r → pl x ≠ col) → lv_has ls 3 [(0, .ref t), (1, .int (nI col)), (2, .int (nI r))] → gw D cls (tyl k) L s s.heap f H locs →
    W p l e (rmN 2) s m args below meth c H locs 0 0 (MQ below (va_Qi (fun r f' => f' = f ∧ ((r = 1 ∧ ∃ i, i < rows ∧ pl i = col) ∨ (r = 0 ∧ ∀ x, x < rows → pl x ≠ col))) (mst D cls (tyl k) L) (fun q => q ∈ L)) args s 0 0 (fun q => q ∈ L)) (F0 m 2 ls []) := by
  have hx := S.1
  have hb := S.2.1
  have hown : s.vm.findClass R_T = some m.cls := S.2.2.2.1
  have hG := S.2.2.2.2
  intro i
  induction i with
  | zero =>
    intro r H locs ls hj hn hl hg
    have hj : r = rows := by omega
    subst hj
    have hw : kw D cls (tyl k) L s s.heap f [(t, cT fd (nI r) (nI cols) rd pa nu), (pa, cP k P)] H locs := ⟨f, hg, hT.kn2⟩
    -- METHOD T_hasPlace | loc 0=t 1=col 2=r | ws t pa
    refine lv_iload_n hx hb d_T_hasPlace_2 rfl (lv_at hl 2 rfl) ?_
    refine lv_aload_n hx hb d_T_hasPlace_3 rfl (lv_at hl 0 rfl) ?_
    refine k_get hx hb hG lay_T hown hw 0 rfl rfl 1 (by decide) (hG _ fl_T_28) (fun _ h9 => h9) rfl d_T_hasPlace_4 ?_
    refine lv_icmp_ge (tgt := 28) hx hb d_T_hasPlace_7 (by decide) (fun hc => ?_) (fun hc => ?_)
    · -- LOC 0=t 1=col 2=r
      refine lv_iconst (v := 0) hx hb d_T_hasPlace_28 (by decide) ?_
      exact g_retz hx hb hr hlocks hg rfl ⟨rfl, Or.inr ⟨rfl, hn⟩⟩ d_T_hasPlace_29
    · exact absurd (nI_le (Nat.le_refl _) (by omega)) hc
  | succ i ih =>
    intro r H locs ls hj hn hl hg
    have hw : kw D cls (tyl k) L s s.heap f [(t, cT fd (nI rows) (nI cols) rd pa nu), (pa, cP k P)] H locs := ⟨f, hg, hT.kn2⟩
    -- METHOD T_hasPlace | loc 0=t 1=col 2=r | ws t pa | fld t.places=pa
    refine lv_iload_n hx hb d_T_hasPlace_2 rfl (lv_at hl 2 rfl) ?_
    refine lv_aload_n hx hb d_T_hasPlace_3 rfl (lv_at hl 0 rfl) ?_
    refine k_get hx hb hG lay_T hown hw 0 rfl rfl 1 (by decide) (hG _ fl_T_28) (fun _ h9 => h9) rfl d_T_hasPlace_4 ?_
    refine lv_icmp_ge (tgt := 28) hx hb d_T_hasPlace_7 (by decide) (fun hc => ?_) (fun hc => ?_)
    · exact absurd hc (nI_ge (by omega) (by omega))
    · -- STK
      refine lv_aload_n hx hb d_T_hasPlace_10 rfl (lv_at hl 0 rfl) ?_
      refine k_get hx hb hG lay_T hown hw 0 rfl rfl 4 (by decide) (hG _ fl_T_15) (fun _ h9 => h9) rfl d_T_hasPlace_11 ?_
      refine lv_iload_n hx hb d_T_hasPlace_14 rfl (lv_at hl 2 rfl) ?_
      refine k_iald hx hb hw 1 0 rfl rfl (r) (rfl) (by omega) (by first | decide | omega) d_T_hasPlace_15 ?_
      refine l_top (hpl r (by omega)).1 ?_
      refine lv_iload_n hx hb d_T_hasPlace_16 rfl (lv_at hl 1 rfl) ?_
      refine lv_icmp_ne (tgt := 22) hx hb d_T_hasPlace_17 (by decide) (fun hc => ?_) (fun hc => ?_)
      · have h0 : pl r ≠ col := fun h => hc (by rw [h])
        refine lv_iinc (k := 2) hx hb d_T_hasPlace_22 hl rfl (ii1 r) (by decide) rfl (fun ls hl => ?_)
        refine lv_goto (tgt := 2) hx hb d_T_hasPlace_25 (by decide) ?_
        have hl := lv_sub hl [1, 2, 0] rfl
        refine ih (r + 1) H locs ls (by omega) (fun x h2 => ?_) hl hg
        by_cases e : x = r
        · rw [e]; exact h0
        · exact hn x (by omega)
      · have h0 : pl r = col := by
          have := (zI_eq (a := (pl r : Int)) (b := (col : Int)) (rI_n (by have := (hpl r (by omega)).2; omega)) (rI_n (by omega))).mp hc
          omega
        refine lv_iconst (v := 1) hx hb d_T_hasPlace_20 (by decide) ?_
        exact g_retz hx hb hr hlocks hg rfl ⟨rfl, Or.inl ⟨rfl, r, by omega, h0⟩⟩ d_T_hasPlace_21
end ST
section STM
variable (l : Launch) (D : va_G) {L : List Nat} {k : Nat → ClassId} {f : Nat → va_E} {own : Nat → Nat} {τ t pa nu : Nat} {rs : Nat → Nat} {fd : Int32} {rows cols : Nat} {rd : Int32} {P : Nat → Int32} {Wt : Nat → Nat → Int32}
set_option maxRecDepth 100000 in
set_option maxHeartbeats 4000000 in
theorem tb_start (h : TB L own k f τ t pa nu rs fd rows cols rd P Wt) {fd' : Int32} {rows' cols' : Nat} (hrows : rows' ≤ 12) : Mv l y_T_start (Cond.code y_T_start c_T_start 5 none :: G) (rmN 1) D cls (tyl k) L f [.ref t, .int fd', .int (nI rows'), .int (nI cols')] (fun f' => ∃ Wt, TB L own k f' τ t pa nu rs fd' rows' cols' 0 P Wt ∧ oe own [τ] f f' ∧ ∀ i, i < rows' → ∀ x, x < 72 → Wt i x = 0) := by
  -- METHOD T_start | loc 0=t 1=fd 2=rows 3=cols | ws t
  refine mk_met (by decide) (Nat.le_of_ble_eq_true rfl) (fun p e s m below meth c ls S hr hlocks hw hl => ?_)
  have hx := S.1
  have hb := S.2.1
  have hown : s.vm.findClass R_T = some m.cls := S.2.2.2.1
  have hG := S.2.2.2.2
  have hl : lv_has ls 5 [(0, .ref t), (1, .int fd'), (2, .int (nI rows')), (3, .int (nI cols'))] := hl
  have hg := hw
  have hw : kw D cls (tyl k) L s s.heap f [(t, cT fd (nI rows) (nI cols) rd pa nu)] s.heap [] := ⟨f, hw, h.kn1⟩
  refine lv_aload_n hx hb d_T_start_0 rfl (lv_at hl 0 rfl) ?_
  refine lv_iload_n hx hb d_T_start_1 rfl (lv_at hl 1 rfl) ?_
  refine k_put (ty := .int) hx hb hG lay_T ft_T ft_T_ok fn_T hown hw 0 rfl rfl 0 (by decide) (hG _ fl_T_24) (fun _ h9 => h9) rfl (by decide +kernel) rfl rfl (by simp) d_T_start_2 (fun H locs hw => ?_)
  refine lv_aload_n hx hb d_T_start_5 rfl (lv_at hl 0 rfl) ?_
  refine lv_iload_n hx hb d_T_start_6 rfl (lv_at hl 2 rfl) ?_
  refine k_put (ty := .int) hx hb hG lay_T ft_T ft_T_ok fn_T hown hw 0 rfl rfl 1 (by decide) (hG _ fl_T_28) (fun _ h9 => h9) rfl (by decide +kernel) rfl rfl (by simp) d_T_start_7 (fun H locs hw => ?_)
  refine lv_aload_n hx hb d_T_start_10 rfl (lv_at hl 0 rfl) ?_
  refine lv_iload_n hx hb d_T_start_11 rfl (lv_at hl 3 rfl) ?_
  refine k_put (ty := .int) hx hb hG lay_T ft_T ft_T_ok fn_T hown hw 0 rfl rfl 2 (by decide) (hG _ fl_T_31) (fun _ h9 => h9) rfl (by decide +kernel) rfl rfl (by simp) d_T_start_12 (fun H locs hw => ?_)
  refine lv_aload_n hx hb d_T_start_15 rfl (lv_at hl 0 rfl) ?_
  refine lv_iconst (v := 0) hx hb d_T_start_16 (by decide) ?_
  refine k_put (ty := .boolean) hx hb hG lay_T ft_T ft_T_ok fn_T hown hw 0 rfl rfl 3 (by decide) (hG _ fl_T_11) (fun _ h9 => h9) rfl (by decide +kernel) rfl rfl (by simp) d_T_start_17 (fun H locs hw => ?_)
  refine lv_iconst (v := 0) hx hb d_T_start_20 (by decide) ?_
  refine lv_istore hx hb d_T_start_21 hl (by decide) rfl (fun ls hl => ?_)
  have hl := lv_sub hl [1, 2, 3, 4, 0] rfl
  obtain ⟨f1, hg, hk1⟩ := hw
  obtain ⟨hT1, ho1⟩ := h.obj (fd' := fd') (rows' := rows') (cols' := cols') (rd' := 0) hk1
  exact w_st S hr hlocks hrows rows' 0 f1 Wt _ _ ls (by omega) hT1 ho1 (fun i hi => by omega) hl hg
set_option maxRecDepth 100000 in
set_option maxHeartbeats 4000000 in
theorem tb_findRow (h : TB L own k f τ t pa nu rs fd rows cols rd P Wt) (hrows : rows ≤ 12) {col from1 : Nat} (hcol : col < 12) (hf1 : from1 ≤ rows) {A : Nat → Nat → Int} (hA : ∀ i, i < rows → nm (Wt i) col (A i col)) : Mi l y_T_findRow (Cond.code y_T_findRow c_T_findRow 4 (some .int) :: G) (rmN 2) D cls (tyl k) L f [.ref t, .int (nI from1), .int (nI col)] (fun r f' => f' = f ∧ ((∃ i, from1 ≤ i ∧ i < rows ∧ r = nI i ∧ A i col ≠ 0 ∧ ∀ x, from1 ≤ x → x < i → A x col = 0) ∨ (r = -1 ∧ ∀ x, from1 ≤ x → x < rows → A x col = 0))) := by
  -- METHOD T_findRow | loc 0=t 1=from 2=col | ws t
  refine mk_met (by decide) (Nat.le_of_ble_eq_true rfl) (fun p e s m below meth c ls S hr hlocks hw hl => ?_)
  have hx := S.1
  have hb := S.2.1
  have hown : s.vm.findClass R_T = some m.cls := S.2.2.2.1
  have hG := S.2.2.2.2
  have hl : lv_has ls 4 [(0, .ref t), (1, .int (nI from1)), (2, .int (nI col))] := hl
  have hg := hw
  refine lv_iload_n hx hb d_T_findRow_0 rfl (lv_at hl 1 rfl) ?_
  refine lv_istore_n hx hb d_T_findRow_1 rfl hl (by decide) rfl (fun ls hl => ?_)
  have hl := lv_sub hl [1, 2, 3, 0] rfl
  exact w_fr S hr hlocks hrows hcol h hA (rows - from1) from1 _ _ ls (by omega) (by omega) (fun x h1 h2 => by omega) hl hg
set_option maxRecDepth 100000 in
set_option maxHeartbeats 4000000 in
theorem tb_hasPlace (h : TB L own k f τ t pa nu rs fd rows cols rd P Wt) (hrows : rows ≤ 12) {col : Nat} (hcol : col < 12) {pl : Nat → Nat} (hpl : ∀ i, i < rows → P i = nI (pl i) ∧ pl i < 12) : Mi l y_T_hasPlace (Cond.code y_T_hasPlace c_T_hasPlace 3 (some .boolean) :: G) (rmN 2) D cls (tyl k) L f [.ref t, .int (nI col)] (fun r f' => f' = f ∧ ((r = 1 ∧ ∃ i, i < rows ∧ pl i = col) ∨ (r = 0 ∧ ∀ x, x < rows → pl x ≠ col))) := by
  -- METHOD T_hasPlace | loc 0=t 1=col | ws t
  refine mk_met (by decide) (Nat.le_of_ble_eq_true rfl) (fun p e s m below meth c ls S hr hlocks hw hl => ?_)
  have hx := S.1
  have hb := S.2.1
  have hown : s.vm.findClass R_T = some m.cls := S.2.2.2.1
  have hG := S.2.2.2.2
  have hl : lv_has ls 3 [(0, .ref t), (1, .int (nI col))] := hl
  have hg := hw
  refine lv_iconst (v := 0) hx hb d_T_hasPlace_0 (by decide) ?_
  refine lv_istore_n hx hb d_T_hasPlace_1 rfl hl (by decide) rfl (fun ls hl => ?_)
  have hl := lv_sub hl [1, 2, 0] rfl
  exact w_hp S hr hlocks hrows hcol h hpl rows 0 _ _ ls (by omega) (fun x h => by omega) hl hg
set_option maxRecDepth 100000 in
set_option maxHeartbeats 4000000 in
theorem tb_has (h : TB L own k f τ t pa nu rs fd rows cols rd P Wt) (hrows : rows ≤ 12) (hcols : cols ≤ 12) {a b : Int} (ha : rI a) (hb' : rI b) : Mi l y_T_has (Cond.code y_T_has c_T_has 3 (some .boolean) :: G) (rmN 0) D cls (tyl k) L f [.ref t, .int (zI a), .int (zI b)] (fun r f' => f' = f ∧ r = if 0 ≤ a ∧ a < rows ∧ 0 ≤ b ∧ b < cols then 1 else 0) := by
  have z0 : rI 0 := ⟨by decide, by decide⟩
  -- METHOD T_has | loc 0=t 1=a 2=b | ws t
  refine mk_met (by decide) (Nat.le_of_ble_eq_true rfl) (fun p e s m below meth c ls S hr hlocks hw hl => ?_)
  have hx := S.1
  have hb := S.2.1
  have hown : s.vm.findClass R_T = some m.cls := S.2.2.2.1
  have hG := S.2.2.2.2
  have hl : lv_has ls 3 [(0, .ref t), (1, .int (zI a)), (2, .int (zI b))] := hl
  have hg := hw
  have hw : kw D cls (tyl k) L s s.heap f [(t, cT fd (nI rows) (nI cols) rd pa nu)] s.heap [] := ⟨f, hw, h.kn1⟩
  refine lv_iload_n hx hb d_T_has_0 rfl (lv_at hl 1 rfl) ?_
  refine lv_if_lt (tgt := 28) hx hb d_T_has_1 (by decide) (fun hc => ?_) (fun hc => ?_)
  · have hn : a < 0 := (zI_lt ha z0).mp hc
    refine lv_iconst (v := 0) hx hb d_T_has_28 (by decide) ?_
    exact g_retz hx hb hr hlocks hg rfl ⟨rfl, by rw [if_neg (by omega)]⟩ d_T_has_29
  · have hn : ¬ a < 0 := fun q => hc ((zI_lt ha z0).mpr q)
    refine lv_iload_n hx hb d_T_has_4 rfl (lv_at hl 1 rfl) ?_
    refine lv_aload_n hx hb d_T_has_5 rfl (lv_at hl 0 rfl) ?_
    refine k_get hx hb hG lay_T hown hw 0 rfl rfl 1 (by decide) (hG _ fl_T_28) (fun _ h9 => h9) rfl d_T_has_6 ?_
    refine lv_icmp_ge (tgt := 28) hx hb d_T_has_9 (by decide) (fun hc => ?_) (fun hc => ?_)
    · have hn2 : (rows : Int) ≤ a := (zI_le (rI_n (by omega)) ha).mp hc
      refine lv_iconst (v := 0) hx hb d_T_has_28 (by decide) ?_
      exact g_retz hx hb hr hlocks hg rfl ⟨rfl, by rw [if_neg (by omega)]⟩ d_T_has_29
    · have hn2 : ¬ (rows : Int) ≤ a := fun q => hc ((zI_le (rI_n (by omega)) ha).mpr q)
      refine lv_iload_n hx hb d_T_has_12 rfl (lv_at hl 2 rfl) ?_
      refine lv_if_lt (tgt := 28) hx hb d_T_has_13 (by decide) (fun hc => ?_) (fun hc => ?_)
      · have hn3 : b < 0 := (zI_lt hb' z0).mp hc
        refine lv_iconst (v := 0) hx hb d_T_has_28 (by decide) ?_
        exact g_retz hx hb hr hlocks hg rfl ⟨rfl, by rw [if_neg (by omega)]⟩ d_T_has_29
      · have hn3 : ¬ b < 0 := fun q => hc ((zI_lt hb' z0).mpr q)
        refine lv_iload_n hx hb d_T_has_16 rfl (lv_at hl 2 rfl) ?_
        refine lv_aload_n hx hb d_T_has_17 rfl (lv_at hl 0 rfl) ?_
        refine k_get hx hb hG lay_T hown hw 0 rfl rfl 2 (by decide) (hG _ fl_T_31) (fun _ h9 => h9) rfl d_T_has_18 ?_
        refine lv_icmp_ge (tgt := 28) hx hb d_T_has_21 (by decide) (fun hc => ?_) (fun hc => ?_)
        · have hn4 : (cols : Int) ≤ b := (zI_le (rI_n (by omega)) hb').mp hc
          refine lv_iconst (v := 0) hx hb d_T_has_28 (by decide) ?_
          exact g_retz hx hb hr hlocks hg rfl ⟨rfl, by rw [if_neg (by omega)]⟩ d_T_has_29
        · have hn4 : ¬ (cols : Int) ≤ b := fun q => hc ((zI_le (rI_n (by omega)) hb').mpr q)
          refine lv_iconst (v := 1) hx hb d_T_has_24 (by decide) ?_
          refine lv_goto (tgt := 29) hx hb d_T_has_25 (by decide) ?_
          exact g_retz hx hb hr hlocks hg rfl ⟨rfl, by rw [if_pos (by omega)]⟩ d_T_has_29
/-- two rows change places -/
def sw {α : Type} (g : Nat → α) (a b : Nat) : Nat → α := va_up (va_up g a (g b)) b (g a)
set_option maxRecDepth 100000 in
set_option maxHeartbeats 4000000 in
theorem tb_swap (h : TB L own k f τ t pa nu rs fd rows cols rd P Wt) {a b : Nat} (ha : a < 12) (hb' : b < 12) : Mv l y_T_swapRows (Cond.code y_T_swapRows c_T_swapRows 4 none :: G) (rmN 0) D cls (tyl k) L f [.ref t, .int (nI a), .int (nI b)] (fun f' => TB L own k f' τ t pa nu (sw rs a b) fd rows cols rd P (sw Wt a b) ∧ oe own [τ] f f') := by
  obtain ⟨z, hz, hzs⟩ := h.2.2.2.1
  have ra := h.1.2.2.2.1 a ha
  have rb := h.1.2.2.2.1 b hb'
  have hsm : ∀ i, i < 12 → sw rs a b i = rs i ∨ sw rs a b i = rs a ∨ sw rs a b i = rs b := fun i hi => by
    unfold sw
    by_cases e2 : i = b
    · rw [e2, va_up_self]; exact Or.inr (Or.inl rfl)
    · rw [va_up_ne _ _ e2]
      by_cases e1 : i = a
      · rw [e1, va_up_self]; exact Or.inr (Or.inr rfl)
      · rw [va_up_ne _ _ e1]; exact Or.inl rfl
  have hinj := h.1.2.2.2.2.2.2.2
  -- METHOD T_swapRows | loc 0=t 1=a 2=b | ws t nu | fld t.numbers=nu
  refine mk_met (by decide) (Nat.le_of_ble_eq_true rfl) (fun p e s m below meth c ls S hr hlocks hw hl => ?_)
  have hx := S.1
  have hb := S.2.1
  have hown : s.vm.findClass R_T = some m.cls := S.2.2.2.1
  have hG := S.2.2.2.2
  have hl : lv_has ls 4 [(0, .ref t), (1, .int (nI a)), (2, .int (nI b))] := hl
  have hg := hw
  have hw : kw D cls (tyl k) L s s.heap f [(t, cT fd (nI rows) (nI cols) rd pa nu), (nu, cO k z)] s.heap [] := ⟨f, hw, h.knN hz⟩
  refine lv_aload_n hx hb d_T_swapRows_0 rfl (lv_at hl 0 rfl) ?_
  refine k_get hx hb hG lay_T hown hw 0 rfl rfl 5 (by decide) (hG _ fl_T_21) (fun _ h9 => h9) rfl d_T_swapRows_1 ?_
  refine lv_iload_n hx hb d_T_swapRows_4 rfl (lv_at hl 1 rfl) ?_
  refine k_aaldA hx hb hw 1 1 rfl rfl (a) (rfl) (ha) (by first | decide | omega) (hzs a ha) d_T_swapRows_5 ?_
  refine lv_astore_n hx hb d_T_swapRows_6 rfl hl (by decide) rfl (fun ls hl => ?_)
  refine lv_aload_n hx hb d_T_swapRows_7 rfl (lv_at hl 1 rfl) ?_
  refine k_get hx hb hG lay_T hown hw 0 rfl rfl 5 (by decide) (hG _ fl_T_21) (fun _ h9 => h9) rfl d_T_swapRows_8 ?_
  refine lv_iload_n hx hb d_T_swapRows_11 rfl (lv_at hl 2 rfl) ?_
  refine lv_aload_n hx hb d_T_swapRows_12 rfl (lv_at hl 1 rfl) ?_
  refine k_get hx hb hG lay_T hown hw 0 rfl rfl 5 (by decide) (hG _ fl_T_21) (fun _ h9 => h9) rfl d_T_swapRows_13 ?_
  refine lv_iload_n hx hb d_T_swapRows_16 rfl (lv_at hl 3 rfl) ?_
  refine k_aaldA hx hb hw 1 1 rfl rfl (b) (rfl) (hb') (by first | decide | omega) (hzs b hb') d_T_swapRows_17 ?_
  refine g_aastA hx hb hg h.1.2.2.1.1 1 0 hz rfl rfl rb.1 (h.2.2.2.2 b hb') a rfl ha (by decide) d_T_swapRows_18 (fun H locs hg => ?_)
  have e1 : ∀ q, q ≠ nu → va_up f nu (cO k (va_up z a (some (rs b)))) q = f q := fun q hq => va_up_ne _ _ hq
  have hw : kw D cls (tyl k) L s s.heap (va_up f nu (cO k (va_up z a (some (rs b))))) [(t, cT fd (nI rows) (nI cols) rd pa nu), (nu, cO k (va_up z a (some (rs b))))] H locs := by
    refine ⟨_, hg, kn_of (fun q hq => ?_) (by simp; exact h.1.2.2.2.2.2.1)⟩
    simp only [List.mem_cons, List.not_mem_nil, or_false] at hq
    rcases hq with rfl | rfl
    · exact ⟨h.1.1.1, (e1 t h.1.2.2.2.2.2.1).trans h.2.1⟩
    · exact ⟨h.1.2.2.1.1, va_up_self _ _ _⟩
  refine lv_aload_n hx hb d_T_swapRows_19 rfl (lv_at hl 1 rfl) ?_
  refine k_get hx hb hG lay_T hown hw 0 rfl rfl 5 (by decide) (hG _ fl_T_21) (fun _ h9 => h9) rfl d_T_swapRows_20 ?_
  refine lv_iload_n hx hb d_T_swapRows_23 rfl (lv_at hl 3 rfl) ?_
  refine lv_aload_n hx hb d_T_swapRows_24 rfl (lv_at hl 0 rfl) ?_
  refine g_aastA hx hb hg h.1.2.2.1.1 1 0 (va_up_self _ _ _) rfl rfl ra.1 ((e1 (rs a) (Ne.symm ra.2.2.2.2)).trans (h.2.2.2.2 a ha)) b rfl hb' (by decide) d_T_swapRows_25 (fun H locs hg => ?_)
  have ho : ∀ q, q ≠ nu → va_up (va_up f nu (cO k (va_up z a (some (rs b))))) nu (cO k (va_up (va_up z a (some (rs b))) b (some (rs a)))) q = f q := fun q hq => by rw [va_up_ne _ _ hq, va_up_ne _ _ hq]
  refine g_retv hx hb hr hlocks hg ⟨⟨⟨h.1.1, h.1.2.1, h.1.2.2.1, fun i hi => ?_, h.1.2.2.2.2.1, h.1.2.2.2.2.2.1, h.1.2.2.2.2.2.2.1, fun i j hi hj e => ?_⟩, (ho t h.1.2.2.2.2.2.1).trans h.2.1, (ho pa h.1.2.2.2.2.2.2.1).trans h.2.2.1, ⟨_, va_up_self _ _ _, fun i hi => ?_⟩, fun i hi => ?_⟩, fun q hm => ho q (fun e => hm ?_)⟩ d_T_swapRows_26
  · rcases hsm i hi with e | e | e <;> rw [e]
    · exact h.1.2.2.2.1 i hi
    · exact ra
    · exact rb
  · unfold sw at e
    by_cases i2 : i = b <;> by_cases j2 : j = b
    · rw [i2, j2]
    · rw [i2, va_up_self, va_up_ne _ _ j2] at e
      by_cases j1 : j = a
      · rw [j1, va_up_self] at e; have := hinj _ _ ha hb' e; rw [i2, j1, this]
      · rw [va_up_ne _ _ j1] at e; exact absurd (hinj _ _ ha hj e).symm j1
    · rw [j2, va_up_self, va_up_ne _ _ i2] at e
      by_cases i1 : i = a
      · rw [i1, va_up_self] at e; have := hinj _ _ hb' ha e; rw [j2, i1, this]
      · rw [va_up_ne _ _ i1] at e; exact absurd (hinj _ _ hi ha e) i1
    · rw [va_up_ne _ _ i2, va_up_ne _ _ j2] at e
      by_cases i1 : i = a <;> by_cases j1 : j = a
      · rw [i1, j1]
      · rw [i1, va_up_self, va_up_ne _ _ j1] at e; exact absurd (hinj _ _ hb' hj e).symm j2
      · rw [j1, va_up_self, va_up_ne _ _ i1] at e; exact absurd (hinj _ _ hi hb' e) i2
      · rw [va_up_ne _ _ i1, va_up_ne _ _ j1] at e; exact hinj _ _ hi hj e
  · unfold sw
    by_cases i2 : i = b
    · rw [i2, va_up_self, va_up_self]
    · rw [va_up_ne _ _ i2, va_up_ne _ _ i2]
      by_cases i1 : i = a
      · rw [i1, va_up_self, va_up_self]
      · rw [va_up_ne _ _ i1, va_up_ne _ _ i1]; exact hzs i hi
  · unfold sw
    by_cases i2 : i = b
    · rw [i2, va_up_self, va_up_self, ho _ (Ne.symm ra.2.2.2.2)]; exact h.2.2.2.2 a ha
    · rw [va_up_ne _ _ i2, va_up_ne _ _ i2]
      by_cases i1 : i = a
      · rw [i1, va_up_self, va_up_self, ho _ (Ne.symm rb.2.2.2.2)]; exact h.2.2.2.2 b hb'
      · rw [va_up_ne _ _ i1, va_up_ne _ _ i1, ho _ (Ne.symm (h.1.2.2.2.1 i hi).2.2.2.2)]; exact h.2.2.2.2 i hi
  · rw [e]; simp; exact h.1.2.2.1.2
end STM


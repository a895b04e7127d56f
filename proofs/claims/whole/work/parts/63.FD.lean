-- ===== fillDual =====
def fdq (A2 : Nat → Nat → Int) (col : Nat) (pl : Nat → Nat) (cols : Nat) (v0 : Nat → Int) : Nat → Nat → Int
  | 0 => va_up v0 col 1
  | r + 1 => if A2 r col = 0 then fdq A2 col pl cols v0 r else fun j => ou (gd (bl (fdq A2 col pl cols v0 r) (A2 r) col (pl r)) cols) (bl (fdq A2 col pl cols v0 r) (A2 r) col (pl r) j)
def fdp (A2 : Nat → Nat → Int) (col : Nat) (pl : Nat → Nat) (q : Nat) (v0 : Nat → Int) : Nat → Nat → Int
  | 0 => va_up v0 col 1
  | r + 1 => va_up (fdp A2 col pl q v0 r) (pl r) ((-A2 r col) % q)
section FDQ
variable {p : Program} {l : Launch} {e : Env} {s : State} {m : MethodId} {args : Array Value} {below : List Frame} {meth : Method} {c : Code} {Q : State → Prop} {D : va_G} {k : Nat → ClassId} {L : List Nat} {H0 : Heap}
variable {own : Nat → Nat} {τ t pa nu : Nat} {rs : Nat → Nat} {fd : Int32} {rows cols : Nat} {rd : Int32} {P : Nat → Int32} {Wt : Nat → Nat → Int32} {τ2 t2 pa2 nu2 : Nat} {rs2 : Nat → Nat} {fd2 : Int32} {rows2 : Nat} {rd2 : Int32} {P2 : Nat → Int32} {W2 : Nat → Nat → Int32} {A2 : Nat → Nat → Int} {pl : Nat → Nat} {row col : Nat} {v0 : Nat → Int} {adr : Nat → Nat} {qa ln : Nat} {zl : Nat → Option Nat}
set_option maxRecDepth 100000 in
set_option maxHeartbeats 4000000 in
theorem w_fdq (S : CallFix p m c c_Q_fillDual 6 s args G R_Q) (hr : meth.sig.returnType = none) (hlocks : meth.locks = false) (hrows : rows ≤ 12) (hcols : cols ≤ 12) (hrows2 : rows2 ≤ 12) (hrow : row < rows) (hcol : col < cols) (hτ : τ ≠ 100) (hτ2 : τ2 ≠ 100) (hne : τ2 ≠ τ) (hA2 : mt W2 rows2 cols A2) (hpl : ∀ r, r < rows2 → P2 r = nI (pl r) ∧ pl r < cols) (hbo : ∀ r, r < rows2 → ∀ j, j < cols → (fdq A2 col pl cols v0 (r + 1) j).natAbs < B30 ^ 5) {f0 : Nat → va_E} :
    ∀ (i r : Nat) (f : Nat → va_E) (w : Nat → Int32) (H : Heap) (locs : List Loc) (ls : Array Slot), r + i = rows2 → TB L own k f τ t pa nu rs fd rows cols rd P (va_up Wt row w) → TB L own k f τ2 t2 pa2 nu2 rs2 fd2 rows2 cols rd2 P2 W2 → RQ L own k f adr qa ln zl → oe own [τ, 100] f0 f → (∀ j, j < cols → nm w j (fdq A2 col pl cols v0 r j)) → lv_has ls 6 [(0, .ref qa), (1, .ref t), (2, .int (nI row)), (3, .ref t2), (4, .int (nI col)), (5, .int (nI r))] → gw D cls (tyl k) L s s.heap f H locs →
    W p l e (rmN 5) s m args below meth c H locs 0 0 (MQ below (va_Qv (fun f' => RQ L own k f' adr qa ln zl ∧ ∃ w, TB L own k f' τ t pa nu rs fd rows cols rd P (va_up Wt row w) ∧ oe own [τ, 100] f0 f' ∧ ∀ j, j < cols → nm w j (fdq A2 col pl cols v0 rows2 j)) (mst D cls (tyl k) L) (fun q => q ∈ L)) args s 0 0 (fun q => q ∈ L)) (F0 m 11 ls []) := by
  have hx := S.1
  have hb := S.2.1
  have hown : s.vm.findClass R_Q = some m.cls := S.2.2.2.1
  have hG := S.2.2.2.2
  intro i
  induction i with
  | zero =>
    intro r f w H locs ls hj hT hF hR ho hn hl hg
    have hj : r = rows2 := by omega
    subst hj
    have hw : kw D cls (tyl k) L s s.heap f [(t2, cT fd2 (nI r) (nI cols) rd2 pa2 nu2), (pa2, cP k P2)] H locs := ⟨f, hg, hF.kn2⟩
    -- METHOD Q_fillDual | loc 0=qa 1=t 2=row 3=t2 4=col 5=r | ws t2 pa2
    refine lv_iload hx hb d_Q_fillDual_11 (lv_at hl 5 rfl) ?_
    refine lv_aload_n hx hb d_Q_fillDual_13 rfl (lv_at hl 3 rfl) ?_
    refine k_get hx hb hG lay_T hown hw 0 rfl rfl 1 (by decide) (hG _ fl_Q_77) (fun _ h9 => h9) rfl d_Q_fillDual_14 ?_
    refine lv_icmp_ge (tgt := 48) hx hb d_Q_fillDual_17 (by decide) (fun hc => ?_) (fun hc => ?_)
    · exact g_retv hx hb hr hlocks hg ⟨hR, w, hT, ho, hn⟩ d_Q_fillDual_48
    · exact absurd (nI_le (Nat.le_refl _) (by omega)) hc
  | succ i ih =>
    intro r f w H locs ls hj hT hF hR ho hn hl hg
    have hw : kw D cls (tyl k) L s s.heap f [(t2, cT fd2 (nI rows2) (nI cols) rd2 pa2 nu2), (pa2, cP k P2)] H locs := ⟨f, hg, hF.kn2⟩
    have hz := nm_hz (hA2 r (by omega) col hcol)
    -- METHOD Q_fillDual | loc 0=qa 1=t 2=row 3=t2 4=col 5=r | ws t2 pa2
    refine lv_iload hx hb d_Q_fillDual_11 (lv_at hl 5 rfl) ?_
    refine lv_aload_n hx hb d_Q_fillDual_13 rfl (lv_at hl 3 rfl) ?_
    refine k_get hx hb hG lay_T hown hw 0 rfl rfl 1 (by decide) (hG _ fl_Q_77) (fun _ h9 => h9) rfl d_Q_fillDual_14 ?_
    refine lv_icmp_ge (tgt := 48) hx hb d_Q_fillDual_17 (by decide) (fun hc => ?_) (fun hc => ?_)
    · exact absurd hc (nI_ge (by omega) (by omega))
    · -- STK
      refine lv_aload_n hx hb d_Q_fillDual_20 rfl (lv_at hl 3 rfl) ?_
      refine lv_iload hx hb d_Q_fillDual_21 (lv_at hl 5 rfl) ?_
      refine lv_iload hx hb d_Q_fillDual_23 (lv_at hl 4 rfl) ?_
      have hw := hg
      refine g_oi (c_V (np := 2) S (tb_isZero l D hF (row := r) (col := col) (by omega) (by omega) (hA2 r (by omega) col hcol)) hw (hF.1.1.1) (hF.2.1) rfl ml_Q_80 im_T_isZero se_T_T_isZero in_T co_T_isZero (by decide +kernel) rfl ⟨rfl, rfl, by decide, by decide⟩ hl.1 rfl (by simp [Value.category]) d_Q_fillDual_25 ⟨Nat.zero_le _, Nat.zero_le _⟩) hw (fun r1 f1 H locs hp hg => ?_)
      rw [hp.1] at hg
      refine l_top hp.2 ?_
      refine lv_if_ne (tgt := 42) hx hb d_Q_fillDual_28 (by decide) (fun hc => ?_) (fun hc => ?_)
      · have h0 : A2 r col = 0 := Classical.byContradiction fun h => hc (if_neg (fun q => h (hz.mp q)))
        refine lv_iinc (k := 5) hx hb d_Q_fillDual_42 hl rfl (ii1 r) (by decide) rfl (fun ls hl => ?_)
        refine lv_goto (tgt := 11) hx hb d_Q_fillDual_45 (by decide) ?_
        have hl := lv_sub hl [1, 2, 3, 4, 5, 0] rfl
        refine ih (r + 1) f w H locs ls (by omega) hT hF hR ho (fun j hj => ?_) hl hg
        show nm w j ((if A2 r col = 0 then fdq A2 col pl cols v0 r else _) j)
        rw [if_pos h0]; exact hn j hj
      · have h0 : A2 r col ≠ 0 := fun h => by rw [if_pos (hz.mpr h)] at hc; exact absurd hc (by decide)
        have hfe : ∀ j, fdq A2 col pl cols v0 (r + 1) j = ou (gd (bl (fdq A2 col pl cols v0 r) (A2 r) col (pl r)) cols) (bl (fdq A2 col pl cols v0 r) (A2 r) col (pl r) j) := fun j => by
          show (if A2 r col = 0 then fdq A2 col pl cols v0 r else _) j = _
          rw [if_neg h0]
        obtain ⟨z, hz1, hzs⟩ := hT.2.2.2.1
        obtain ⟨z2, hz2, hzs2⟩ := hF.2.2.2.1
        have htc := hT.tc hR hτ hz1 hzs (row := row) (by omega)
        rw [va_up_self] at htc
        refine lv_aload_n hx hb d_Q_fillDual_31 rfl (lv_at hl 0 rfl) ?_
        refine lv_aload_n hx hb d_Q_fillDual_32 rfl (lv_at hl 1 rfl) ?_
        refine lv_iload_n hx hb d_Q_fillDual_33 rfl (lv_at hl 2 rfl) ?_
        refine lv_aload_n hx hb d_Q_fillDual_34 rfl (lv_at hl 3 rfl) ?_
        refine lv_iload hx hb d_Q_fillDual_35 (lv_at hl 5 rfl) ?_
        refine lv_iload hx hb d_Q_fillDual_37 (lv_at hl 4 rfl) ?_
        have hw := hg
        refine g_ov (c_V (np := 5) S (m_Q_balance l D k L f adr qa ln cols t pa nu (rs row) row t2 pa2 nu2 (rs2 r) r col (pl r) fd (nI rows) rd fd2 (nI rows2) (nI cols) rd2 z zl z2 w (W2 r) P2 (fdq A2 col pl cols v0 r) (A2 r) hR.1 (hT.qt hR hτ (by omega)) hcols hR.2.2.2.2 htc (hF.tc hR hτ2 hz2 hzs2 (by omega)) hF.kn2 (hpl r (by omega)).1 (hpl r (by omega)).2 hcol hn (hA2 r (by omega)) (fun j hj => by rw [← hfe]; exact hbo r (by omega) j hj)) hw (hR.1.1) (hR.2.2.2.2.choose_spec.choose_spec.choose_spec.2.2.1) rfl ml_Q_84 im_Q_balance se_Q_Q_balance in_Q co_Q_balance (by decide +kernel) rfl ⟨rfl, rfl, by decide, by decide⟩ hl.1 rfl (by simp [Value.category]) d_Q_fillDual_39 ⟨Nat.zero_le _, Nat.zero_le _⟩) hw (fun f3 H locs hp3 hg => ?_)
        obtain ⟨g1, ⟨w1, g2, g3, g4⟩, g5⟩ := hp3
        obtain ⟨k1, k2, k3⟩ := hT.back hR hτ (by omega) g1 g2 g5
        rw [vup2] at k2
        refine lv_iinc (k := 5) hx hb d_Q_fillDual_42 hl rfl (ii1 r) (by decide) rfl (fun ls hl => ?_)
        refine lv_goto (tgt := 11) hx hb d_Q_fillDual_45 (by decide) ?_
        have hl := lv_sub hl [1, 2, 3, 4, 5, 0] rfl
        refine ih (r + 1) f3 w1 H locs ls (by omega) k2 (hF.keep k3 (by simp; exact ⟨hne, hτ2⟩)) k1 (ho.trans k3) (fun j hj => ?_) hl hg
        rw [hfe]; exact g3 j hj
end FDQ
section FDM
variable (l : Launch) (D : va_G) {k : Nat → ClassId} {L : List Nat} {f : Nat → va_E} {own : Nat → Nat} {τ t pa nu : Nat} {rs : Nat → Nat} {fd : Int32} {rows cols : Nat} {rd : Int32} {P : Nat → Int32} {Wt : Nat → Nat → Int32} {τ2 t2 pa2 nu2 : Nat} {rs2 : Nat → Nat} {fd2 : Int32} {rows2 : Nat} {rd2 : Int32} {P2 : Nat → Int32} {W2 : Nat → Nat → Int32} {A2 : Nat → Nat → Int} {pl : Nat → Nat} {row col : Nat} {v0 : Nat → Int} {adr : Nat → Nat} {qa ln : Nat} {zl : Nat → Option Nat}
set_option maxRecDepth 100000 in
set_option maxHeartbeats 4000000 in
theorem tb_fillDualQ (hT : TB L own k f τ t pa nu rs fd rows cols rd P Wt) (hF : TB L own k f τ2 t2 pa2 nu2 rs2 fd2 rows2 cols rd2 P2 W2) (hR : RQ L own k f adr qa ln zl) (hrows : rows ≤ 12) (hcols : cols ≤ 12) (hrows2 : rows2 ≤ 12) (hrow : row < rows) (hcol : col < cols) (hτ : τ ≠ 100) (hτ2 : τ2 ≠ 100) (hne : τ2 ≠ τ) (hA2 : mt W2 rows2 cols A2) (hpl : ∀ r, r < rows2 → P2 r = nI (pl r) ∧ pl r < cols) (hv0 : ∀ j, j < cols → nm (Wt row) j (v0 j)) (hbo : ∀ r, r < rows2 → ∀ j, j < cols → (fdq A2 col pl cols v0 (r + 1) j).natAbs < B30 ^ 5) : Mv l y_Q_fillDual (Cond.code y_Q_fillDual c_Q_fillDual 6 none :: G) (rmN 5) D cls (tyl k) L f [.ref qa, .ref t, .int (nI row), .ref t2, .int (nI col)] (fun f' => RQ L own k f' adr qa ln zl ∧ ∃ w, TB L own k f' τ t pa nu rs fd rows cols rd P (va_up Wt row w) ∧ oe own [τ, 100] f f' ∧ ∀ j, j < cols → nm w j (fdq A2 col pl cols v0 rows2 j)) := by
  -- METHOD Q_fillDual | loc 0=qa 1=t 2=row 3=t2 4=col | ws t2 pa2
  refine mk_met (by decide) (Nat.le_of_ble_eq_true rfl) (fun p e s m below meth c ls S hr hlocks hw hl => ?_)
  have hx := S.1
  have hb := S.2.1
  have hown : s.vm.findClass R_Q = some m.cls := S.2.2.2.1
  have hG := S.2.2.2.2
  have hl : lv_has ls 6 [(0, .ref qa), (1, .ref t), (2, .int (nI row)), (3, .ref t2), (4, .int (nI col))] := hl
  have hg := hw
  refine lv_aload_n hx hb d_Q_fillDual_0 rfl (lv_at hl 1 rfl) ?_
  refine lv_iload_n hx hb d_Q_fillDual_1 rfl (lv_at hl 2 rfl) ?_
  refine lv_iload hx hb d_Q_fillDual_2 (lv_at hl 4 rfl) ?_
  refine lv_iconst (v := 1) hx hb d_Q_fillDual_4 (by decide) ?_
  refine l_top z_1 ?_
  refine g_ov (c_V (np := 3) S (tb_setSmall l D hT (row := row) (col := col) (v := 1) (by omega) (by omega) (by decide)) hw (hT.1.1.1) (hT.2.1) rfl ml_Q_73 im_T_setSmall se_T_T_setSmall in_T co_T_setSmall (by decide +kernel) rfl ⟨rfl, rfl, by decide, by decide⟩ hl.1 rfl (by simp [Value.category]) d_Q_fillDual_5 ⟨Nat.zero_le _, Nat.zero_le _⟩) hw (fun f3 H locs hp3 hg => ?_)
  obtain ⟨w1, hT1, ho1, hn1, hn2⟩ := hp3
  refine lv_iconst (v := 0) hx hb d_Q_fillDual_8 (by decide) ?_
  refine lv_istore hx hb d_Q_fillDual_9 hl (by decide) rfl (fun ls hl => ?_)
  have hl := lv_sub hl [1, 2, 3, 4, 5, 0] rfl
  refine w_fdq S hr hlocks hrows hcols hrows2 hrow hcol hτ hτ2 hne hA2 hpl hbo rows2 0 f3 w1 H locs ls (by omega) hT1 (hF.keep ho1 (by simp; exact hne)) (hR.keep ho1 (by simp; omega)) (ho1.mono (by simp)) (fun j hj => ?_) hl hg
  show nm w1 j (va_up v0 col 1 j)
  by_cases e : j = col
  · rw [e, va_up_self]; exact hn1
  · rw [va_up_ne _ _ e]; exact hn2 j _ e (hv0 j hj)
end FDM
section FDP
variable {p : Program} {l : Launch} {e : Env} {s : State} {m : MethodId} {args : Array Value} {below : List Frame} {meth : Method} {c : Code} {Q : State → Prop} {D : va_G} {k : Nat → ClassId} {L : List Nat} {H0 : Heap}
variable {own : Nat → Nat} {τ t pa nu : Nat} {rs : Nat → Nat} {fd : Int32} {rows cols : Nat} {rd : Int32} {P : Nat → Int32} {Wt : Nat → Nat → Int32} {τ2 t2 pa2 nu2 : Nat} {rs2 : Nat → Nat} {fd2 : Int32} {rows2 : Nat} {rd2 : Int32} {P2 : Nat → Int32} {W2 : Nat → Nat → Int32} {A2 : Nat → Nat → Int} {pl : Nat → Nat} {row col : Nat} {v0 : Nat → Int} {q : Nat}
set_option maxRecDepth 100000 in
set_option maxHeartbeats 4000000 in
theorem w_fdp (S : CallFix p m c c_P_fillDual 7 s args G R_P) (hr : meth.sig.returnType = none) (hlocks : meth.locks = false) {pr : Nat} (hrows : rows ≤ 12) (hcols : cols ≤ 12) (hrows2 : rows2 ≤ 12) (hrow : row < rows) (hcol : col < cols) (hne : τ2 ≠ τ) (hA2 : mt W2 rows2 cols A2) (hpl : ∀ r, r < rows2 → P2 r = nI (pl r) ∧ pl r < cols) (hfd : fd2 = nI q) (hq0 : 0 < q) (hq : q ≤ 251) (hres : ∀ i j, i < rows2 → j < cols → rsd q (A2 i j)) {f0 : Nat → va_E} :
    ∀ (i r : Nat) (f : Nat → va_E) (w : Nat → Int32) (H : Heap) (locs : List Loc) (ls : Array Slot), r + i = rows2 → TB L own k f τ t pa nu rs fd rows cols rd P (va_up Wt row w) → TB L own k f τ2 t2 pa2 nu2 rs2 fd2 rows2 cols rd2 P2 W2 → oe own [τ] f0 f → (∀ j, j < cols → nm w j (fdp A2 col pl q v0 r j)) → lv_has ls 7 [(0, .ref pr), (1, .ref t), (2, .int (nI row)), (3, .ref t2), (4, .int (nI col)), (5, .int (nI r))] → gw D cls (tyl k) L s s.heap f H locs →
    W p l e (rmN 2) s m args below meth c H locs 0 0 (MQ below (va_Qv (fun f' => ∃ w, TB L own k f' τ t pa nu rs fd rows cols rd P (va_up Wt row w) ∧ oe own [τ] f0 f' ∧ ∀ j, j < cols → nm w j (fdp A2 col pl q v0 rows2 j)) (mst D cls (tyl k) L) (fun q => q ∈ L)) args s 0 0 (fun q => q ∈ L)) (F0 m 11 ls []) := by
  subst hfd
  have hx := S.1
  have hb := S.2.1
  have hown : s.vm.findClass R_P = some m.cls := S.2.2.2.1
  have hG := S.2.2.2.2
  intro i
  induction i with
  | zero =>
    intro r f w H locs ls hj hT hF ho hn hl hg
    have hj : r = rows2 := by omega
    subst hj
    have hw : kw D cls (tyl k) L s s.heap f [(t2, cT (nI q) (nI r) (nI cols) rd2 pa2 nu2), (pa2, cP k P2)] H locs := ⟨f, hg, hF.kn2⟩
    -- METHOD P_fillDual | loc 0=pr 1=t 2=row 3=t2 4=col 5=r | ws t2 pa2
    refine lv_iload hx hb d_P_fillDual_11 (lv_at hl 5 rfl) ?_
    refine lv_aload_n hx hb d_P_fillDual_13 rfl (lv_at hl 3 rfl) ?_
    refine k_get hx hb hG lay_T hown hw 0 rfl rfl 1 (by decide) (hG _ fl_P_34) (fun _ h9 => h9) rfl d_P_fillDual_14 ?_
    refine lv_icmp_ge (tgt := 58) hx hb d_P_fillDual_17 (by decide) (fun hc => ?_) (fun hc => ?_)
    · exact g_retv hx hb hr hlocks hg ⟨w, hT, ho, hn⟩ d_P_fillDual_58
    · exact absurd (nI_le (Nat.le_refl _) (by omega)) hc
  | succ i ih =>
    intro r f w H locs ls hj hT hF ho hn hl hg
    have hw : kw D cls (tyl k) L s s.heap f [(t2, cT (nI q) (nI rows2) (nI cols) rd2 pa2 nu2), (pa2, cP k P2)] H locs := ⟨f, hg, hF.kn2⟩
    have hra := hres r col (by omega) hcol
    -- METHOD P_fillDual | loc 0=pr 1=t 2=row 3=t2 4=col 5=r | ws t2 pa2 | fld t2.places=pa2
    refine lv_iload hx hb d_P_fillDual_11 (lv_at hl 5 rfl) ?_
    refine lv_aload_n hx hb d_P_fillDual_13 rfl (lv_at hl 3 rfl) ?_
    refine k_get hx hb hG lay_T hown hw 0 rfl rfl 1 (by decide) (hG _ fl_P_34) (fun _ h9 => h9) rfl d_P_fillDual_14 ?_
    refine lv_icmp_ge (tgt := 58) hx hb d_P_fillDual_17 (by decide) (fun hc => ?_) (fun hc => ?_)
    · exact absurd hc (nI_ge (by omega) (by omega))
    · -- STK
      refine lv_aload_n hx hb d_P_fillDual_20 rfl (lv_at hl 3 rfl) ?_
      refine lv_iload hx hb d_P_fillDual_21 (lv_at hl 5 rfl) ?_
      refine lv_iload hx hb d_P_fillDual_23 (lv_at hl 4 rfl) ?_
      have hw := hg
      refine g_oi (c_V (np := 2) S (tb_small l D hF (row := r) (col := col) (by omega) (by omega)) hw (hF.1.1.1) (hF.2.1) rfl ml_P_7 im_T_small se_T_T_small in_T co_T_small (by decide +kernel) rfl ⟨rfl, rfl, by decide, by decide⟩ hl.1 rfl (by simp [Value.category]) d_P_fillDual_25 ⟨Nat.zero_le _, Nat.zero_le _⟩) hw (fun r1 f1 H locs hp hg => ?_)
      rw [hp.1] at hg
      refine l_top (hp.2.trans (nm_sm (hA2 r (by omega) col hcol) hra.1 (rsd_b hra hq))) ?_
      refine lv_ineg hx hb d_P_fillDual_28 ?_
      refine l_top (zI_neg _) ?_
      have hw : kw D cls (tyl k) L s s.heap f [(t2, cT (nI q) (nI rows2) (nI cols) rd2 pa2 nu2), (pa2, cP k P2)] H locs := ⟨f, hg, hF.kn2⟩
      refine lv_aload_n hx hb d_P_fillDual_29 rfl (lv_at hl 3 rfl) ?_
      refine k_get hx hb hG lay_T hown hw 0 rfl rfl 0 (by decide) (hG _ fl_P_13) (fun _ h9 => h9) rfl d_P_fillDual_30 ?_
      have hw := hg
      have h1 := hra.1
      have h2 := hra.2
      refine g_oi (c_X (np := 2) S (m_floorMod l D k L f (-A2 r col) q ⟨by omega, by omega⟩ (by omega) (rI_n (by omega))) hw ml_P_25 st_JM_floorMod in_JM co_JM_floorMod (by decide +kernel) rfl ⟨rfl, rfl, by decide, by decide⟩ hl.1 rfl (by simp [Value.category]) d_P_fillDual_33 ⟨Nat.zero_le _, Nat.zero_le _⟩) hw (fun r2 f2 H locs hp2 hg => ?_)
      rw [hp2.1] at hg
      refine l_top hp2.2 ?_
      have hm1 := Int.emod_nonneg (-A2 r col) (show (q : Int) ≠ 0 by omega)
      have hm2 := Int.emod_lt_of_pos (-A2 r col) (show (0 : Int) < q by omega)
      have hw : kw D cls (tyl k) L s s.heap f [(t2, cT (nI q) (nI rows2) (nI cols) rd2 pa2 nu2), (pa2, cP k P2)] H locs := ⟨f, hg, hF.kn2⟩
      refine lv_istore hx hb d_P_fillDual_36 hl (by decide) rfl (fun ls hl => ?_)
      refine lv_aload_n hx hb d_P_fillDual_38 rfl (lv_at hl 2 rfl) ?_
      refine lv_iload_n hx hb d_P_fillDual_39 rfl (lv_at hl 3 rfl) ?_
      refine lv_aload_n hx hb d_P_fillDual_40 rfl (lv_at hl 4 rfl) ?_
      refine k_get hx hb hG lay_T hown hw 0 rfl rfl 4 (by decide) (hG _ fl_P_37) (fun _ h9 => h9) rfl d_P_fillDual_41 ?_
      refine lv_iload hx hb d_P_fillDual_44 (lv_at hl 6 rfl) ?_
      refine k_iald hx hb hw 1 0 rfl rfl (r) (rfl) (by omega) (by first | decide | omega) d_P_fillDual_46 ?_
      refine l_top (hpl r (by omega)).1 ?_
      refine lv_iload hx hb d_P_fillDual_47 (lv_at hl 0 rfl) ?_
      have hw := hg
      refine g_ov (c_V (np := 3) S (tb_setSmall l D hT (row := row) (col := pl r) (v := (-A2 r col) % q) (by omega) (by have := (hpl r (by omega)).2; omega) (by have : B30 = 1073741824 := rfl; omega)) hw (hT.1.1.1) (hT.2.1) rfl ml_P_30 im_T_setSmall se_T_T_setSmall in_T co_T_setSmall (by decide +kernel) rfl ⟨rfl, rfl, by decide, by decide⟩ hl.1 rfl (by simp [Value.category]) d_P_fillDual_49 ⟨Nat.zero_le _, Nat.zero_le _⟩) hw (fun f4 H locs hp4 hg => ?_)
      obtain ⟨w1, hT1, ho1, hn1, hn2⟩ := hp4
      rw [vup2] at hT1
      refine lv_iinc (k := 6) hx hb d_P_fillDual_52 hl rfl (ii1 r) (by decide) rfl (fun ls hl => ?_)
      refine lv_goto (tgt := 11) hx hb d_P_fillDual_55 (by decide) ?_
      have hl := lv_sub hl [2, 3, 4, 5, 6, 0] rfl
      refine ih (r + 1) f4 w1 H locs ls (by omega) hT1 (hF.keep ho1 (by simp; exact hne)) (ho.trans ho1) (fun j hj => ?_) hl hg
      show nm w1 j (va_up (fdp A2 col pl q v0 r) (pl r) ((-A2 r col) % q) j)
      by_cases e : j = pl r
      · rw [e, va_up_self]; exact hn1
      · rw [va_up_ne _ _ e]; exact hn2 j _ e (by rw [va_up_self]; exact hn j hj)
end FDP
section FDN
variable (l : Launch) (D : va_G) {k : Nat → ClassId} {L : List Nat} {f : Nat → va_E} {own : Nat → Nat} {τ t pa nu : Nat} {rs : Nat → Nat} {fd : Int32} {rows cols : Nat} {rd : Int32} {P : Nat → Int32} {Wt : Nat → Nat → Int32} {τ2 t2 pa2 nu2 : Nat} {rs2 : Nat → Nat} {fd2 : Int32} {rows2 : Nat} {rd2 : Int32} {P2 : Nat → Int32} {W2 : Nat → Nat → Int32} {A2 : Nat → Nat → Int} {pl : Nat → Nat} {row col : Nat} {v0 : Nat → Int} {q : Nat}
set_option maxRecDepth 100000 in
set_option maxHeartbeats 4000000 in
theorem tb_fillDualP (pr : Nat) (hT : TB L own k f τ t pa nu rs fd rows cols rd P Wt) (hF : TB L own k f τ2 t2 pa2 nu2 rs2 fd2 rows2 cols rd2 P2 W2) (hrows : rows ≤ 12) (hcols : cols ≤ 12) (hrows2 : rows2 ≤ 12) (hrow : row < rows) (hcol : col < cols) (hne : τ2 ≠ τ) (hA2 : mt W2 rows2 cols A2) (hpl : ∀ r, r < rows2 → P2 r = nI (pl r) ∧ pl r < cols) (hv0 : ∀ j, j < cols → nm (Wt row) j (v0 j)) (hfd : fd2 = nI q) (hq0 : 0 < q) (hq : q ≤ 251) (hres : ∀ i j, i < rows2 → j < cols → rsd q (A2 i j)) : Mv l y_P_fillDual (Cond.code y_P_fillDual c_P_fillDual 7 none :: G) (rmN 2) D cls (tyl k) L f [.ref pr, .ref t, .int (nI row), .ref t2, .int (nI col)] (fun f' => ∃ w, TB L own k f' τ t pa nu rs fd rows cols rd P (va_up Wt row w) ∧ oe own [τ] f f' ∧ ∀ j, j < cols → nm w j (fdp A2 col pl q v0 rows2 j)) := by
  -- METHOD P_fillDual | loc 0=pr 1=t 2=row 3=t2 4=col | ws t2 pa2
  refine mk_met (by decide) (Nat.le_of_ble_eq_true rfl) (fun p e s m below meth c ls S hr hlocks hw hl => ?_)
  have hx := S.1
  have hb := S.2.1
  have hown : s.vm.findClass R_P = some m.cls := S.2.2.2.1
  have hG := S.2.2.2.2
  have hl : lv_has ls 7 [(0, .ref pr), (1, .ref t), (2, .int (nI row)), (3, .ref t2), (4, .int (nI col))] := hl
  have hg := hw
  refine lv_aload_n hx hb d_P_fillDual_0 rfl (lv_at hl 1 rfl) ?_
  refine lv_iload_n hx hb d_P_fillDual_1 rfl (lv_at hl 2 rfl) ?_
  refine lv_iload hx hb d_P_fillDual_2 (lv_at hl 4 rfl) ?_
  refine lv_iconst (v := 1) hx hb d_P_fillDual_4 (by decide) ?_
  refine l_top z_1 ?_
  refine g_ov (c_V (np := 3) S (tb_setSmall l D hT (row := row) (col := col) (v := 1) (by omega) (by omega) (by decide)) hw (hT.1.1.1) (hT.2.1) rfl ml_P_30 im_T_setSmall se_T_T_setSmall in_T co_T_setSmall (by decide +kernel) rfl ⟨rfl, rfl, by decide, by decide⟩ hl.1 rfl (by simp [Value.category]) d_P_fillDual_5 ⟨Nat.zero_le _, Nat.zero_le _⟩) hw (fun f3 H locs hp3 hg => ?_)
  obtain ⟨w1, hT1, ho1, hn1, hn2⟩ := hp3
  refine lv_iconst (v := 0) hx hb d_P_fillDual_8 (by decide) ?_
  refine lv_istore hx hb d_P_fillDual_9 hl (by decide) rfl (fun ls hl => ?_)
  have hl := lv_sub hl [1, 2, 3, 4, 5, 0] rfl
  refine w_fdp S hr hlocks hrows hcols hrows2 hrow hcol hne hA2 hpl hfd hq0 hq hres rows2 0 f3 w1 H locs ls (by omega) hT1 (hF.keep ho1 (by simp; exact hne)) (ho1.mono (by simp)) (fun j hj => ?_) hl hg
  show nm w1 j (va_up v0 col 1 j)
  by_cases e : j = col
  · rw [e, va_up_self]; exact hn1
  · rw [va_up_ne _ _ e]; exact hn2 j _ e (hv0 j hj)
end FDN


-- ===== abstract calls; LineTables: kindOf pivot =====
theorem sm_K_lead : Cond.sameMethod y_K_lead.cls R_K y_K_lead.name y_K_lead.desc ∈ G := inT 216 (by decide +kernel) rfl
theorem sm_K_clear : Cond.sameMethod y_K_clear.cls R_K y_K_clear.name y_K_clear.desc ∈ G := inT 304 (by decide +kernel) rfl
theorem sm_K_fillDual : Cond.sameMethod y_K_fillDual.cls R_K y_K_fillDual.name y_K_fillDual.desc ∈ G := inT 367 (by decide +kernel) rfl
theorem goodU {own C owner : String} {i : Nat} {x y : MethodName} {c' : ByteArray} {n' : Nat} {r' : Option FieldType} (h1 : Cond.methodLink own i x ∈ G) (hsm : Cond.sameMethod x.cls owner x.name x.desc ∈ G) (h2 : Cond.instanceMethod y ∈ G) (h3 : Cond.selects C x y ∈ G) (h4 : Cond.initialized y.cls ∈ G) (h5 : Cond.code y c' n' r' ∈ G) : GoodIn G (va_wsU own i C owner x y (Cond.code y c' n' r' :: G)) := goodG (fun w hw => by
  unfold va_wsU at hw
  rcases List.mem_append.mp hw with h | h
  · simp only [List.mem_cons, List.not_mem_nil, or_false] at h
    rcases h with rfl | rfl | rfl | rfl | rfl <;> assumption
  · rcases List.mem_cons.mp h with rfl | h
    · exact h5
    · exact h)
section CA
variable {p : Program} {l : Launch} {e : Env} {R : Room} {s : State} {m : MethodId} {args : Array Value} {below : List Frame} {meth : Method} {c : Code} {H : Heap} {locs : List Loc} {cells slots : Nat} {Q : State → Prop}
variable {cc : ByteArray} {pc nL : Nat} {ls : Array Slot} {rest st0 : List Value} {D : va_G} {cl : List vw_C} {tys : List (ClassId × FieldType)} {H0 : Heap} {L : List Nat} {f : Nat → va_E} {own : String}
/-- invokevirtual of an abstract method -/
theorem c_A {x y : MethodName} {c' : ByteArray} {n' np index ci : Nat} {r' : Option FieldType} {rm : Room} {b : Nat} {As : List Value} {Qc : Array Value → State → Outcome → State → Prop} {free : Addr → Prop} {fs : List Value} {C owner : String} {T : u_T} {N : Nat} (S : CallFix p m c cc nL s args G own)
    (hM : Met l y (Cond.code y c' n' r' :: G) rm (mpre D cl tys L f (.ref b :: As)) Qc 0 0 free) (hw : gw D cl tys L s H0 f H locs) (hbL : b ∈ L) (he : f b = .inr (ci, fs)) (hc : cl[ci]? = some (C, T, N))
    (h1 : Cond.methodLink own index x ∈ G) (hsm : Cond.sameMethod x.cls owner x.name x.desc ∈ G) (h2 : Cond.instanceMethod y ∈ G) (h3 : Cond.selects C x y ∈ G) (h4 : Cond.initialized y.cls ∈ G) (h5 : Cond.code y c' n' r' ∈ G) (hz : va_Nw (.declares ⟨owner, x.name, x.desc⟩) s)
    (hd : owner ≠ "java/lang/invoke/MethodHandle" ∧ owner ≠ "java/lang/invoke/VarHandle" ∧ (parseMethodDescriptor x.desc).map (fun d => d.parameters.length) = some np) (hn : As.length = np)
    (hrm : rm.cells = 0 ∧ rm.slots = 0 ∧ rm.frames + 1 ≤ R.frames ∧ 8 + (n' + 11) + rm.locals ≤ R.locals) (hls : ls.size = nL) (hst : st0 = As.reverse ++ .ref b :: rest) (hW : (rest.map fun v => v.category).sum ≤ 8) (hdg : decode cc pc = .ok (.invokevirtual index, 3)) (hf : cells ≤ R.cells ∧ slots ≤ R.slots) :
    va_Run p l e R s m args below meth c H locs cells slots 0 0 (F0 m pc ls st0) rest (Qc (Value.ref b :: As).toArray) free :=
  va_runU S hM (va_cwA np S.2.2.2.2 (goodU h1 hsm h2 h3 h4 h5) rfl hrm.1 hrm.2.1 hz hd hrm.2.2) ⟨mpre_blind, g_recv hw hbL he hc, g_pre hw⟩ rfl hn hls hst (lv_room hW) hdg hf
theorem g_retr {post : Nat → (Nat → va_E) → Prop} {C : String} (hexec : p.tables.exec = Jvm.exec) (hb : c.code = cc) (hr : meth.sig.returnType = some (.object C)) (hlocks : meth.locks = false) (hw : gw D cl tys L s s.heap f H locs) {v : Nat} (hp : post v f) (hdg : decode cc pc = .ok (.areturn, 1)) :
    W p l e R s m args below meth c H locs cells slots (MQ below (va_Qr (fun _ : Nat → va_E => True) (fun f' a t => mst D cl tys L f' t ∧ post a f') (fun q => q ∈ L)) args s cells slots (fun q => q ∈ L)) (F0 m pc ls [.ref v]) :=
  W.aret hexec hb hr (Or.inl ⟨C, rfl⟩) (Or.inr ⟨v, rfl⟩) (fun t ht hW => ⟨⟨f, v, rfl, trivial, ⟨xK.moved hW.alike hw.1, by rw [ht]; exact hw.2.1, hw.2.2.1⟩, hp⟩, hw.2.2.2.F ht⟩) hw.2.2.2.2.2 hdg hlocks
end CA
/-- the LineTables object, its array of tables, and the Residues -/
abbrev cA (ta qa pr sp : Nat) : va_E := .inr (0, [.ref ta, .ref qa, .ref pr, .ref sp])
abbrev cTs (k : Nat → ClassId) (zt : Nat → Option Nat) : va_E := .inl (k 2, 8, .inr (.inr (.inr (.inr zt))))
def XA (L : List Nat) (own : Nat → Nat) (k : Nat → ClassId) (f : Nat → va_E) (xa ta qa pr sp : Nat) (zt : Nat → Option Nat) : Prop := f xa = cA ta qa pr sp ∧ f ta = cTs k zt ∧ f pr = .inr (2, []) ∧ (xa ∈ L ∧ own xa = 101) ∧ (ta ∈ L ∧ own ta = 101) ∧ (pr ∈ L ∧ own pr = 101)
theorem XA.keep {L : List Nat} {own : Nat → Nat} {k : Nat → ClassId} {f f' : Nat → va_E} {xa ta qa pr sp : Nat} {zt : Nat → Option Nat} {S : List Nat} (h : XA L own k f xa ta qa pr sp zt) (ho : oe own S f f') (hs : 101 ∉ S) : XA L own k f' xa ta qa pr sp zt := by
  obtain ⟨h1, h2, h3, h4, h5, h6⟩ := h
  have hq : ∀ q, own q = 101 → f' q = f q := fun q e => ho q (by rw [e]; exact hs)
  exact ⟨(hq _ h4.2).trans h1, (hq _ h5.2).trans h2, (hq _ h6.2).trans h3, h4, h5, h6⟩
theorem XA.kn {L : List Nat} {k : Nat → ClassId} {f : Nat → va_E} {own : Nat → Nat} {τ t pa nu : Nat} {rs : Nat → Nat} {fd : Int32} {rows cols : Nat} {rd : Int32} {P : Nat → Int32} {Wt : Nat → Nat → Int32} {xa ta pr sp : Nat} {zt : Nat → Option Nat} {qa : Nat} (h : XA L own k f xa ta qa pr sp zt) (hT : TB L own k f τ t pa nu rs fd rows cols rd P Wt) (hτ : τ ≠ 101) : kn L f f [(xa, cA ta qa pr sp), (t, cT fd (nI rows) (nI cols) rd pa nu)] := by
  refine kn_of (fun q hq => ?_) (by simp; intro e; have h1 := h.2.2.2.1.2; have h2 := hT.1.1.2; rw [e] at h1; omega)
  simp only [List.mem_cons, List.not_mem_nil, or_false] at hq
  rcases hq with rfl | rfl
  · exact ⟨h.2.2.2.1.1, h.1⟩
  · exact ⟨hT.1.1.1, hT.2.1⟩
section KO
variable (l : Launch) (D : va_G) {L : List Nat} {k : Nat → ClassId} {f : Nat → va_E} {own : Nat → Nat} {τ t pa nu : Nat} {rs : Nat → Nat} {fd : Int32} {rows cols : Nat} {rd : Int32} {P : Nat → Int32} {Wt : Nat → Nat → Int32} {xa ta pr sp : Nat} {zt : Nat → Option Nat} {qa : Nat} {q : Nat}
set_option maxRecDepth 100000 in
set_option maxHeartbeats 4000000 in
theorem m_A_kindOf (hX : XA L own k f xa ta qa pr sp zt) (hT : TB L own k f τ t pa nu rs (nI q) rows cols rd P Wt) (hτ : τ ≠ 101) (hq : q < 2 ^ 31) : Mr l y_A_kindOf (Cond.code y_A_kindOf c_A_kindOf 2 (some (.object "LineTables$Kind")) :: G) (rmN 0) D cls (tyl k) L f [.ref xa, .ref t] (fun r f' => f' = f ∧ r = if q = 0 then qa else pr) := by
  -- METHOD A_kindOf | loc 0=xa 1=t | ws xa t | fld xa.rationals=qa xa.residues=pr
  refine mk_met (by decide) (Nat.le_of_ble_eq_true rfl) (fun p e s m below meth c ls S hr hlocks hw hl => ?_)
  have hx := S.1
  have hb := S.2.1
  have hown : s.vm.findClass R_A = some m.cls := S.2.2.2.1
  have hG := S.2.2.2.2
  have hl : lv_has ls 2 [(0, .ref xa), (1, .ref t)] := hl
  have hg := hw
  have hw : kw D cls (tyl k) L s s.heap f [(xa, cA ta qa pr sp), (t, cT (nI q) (nI rows) (nI cols) rd pa nu)] s.heap [] := ⟨f, hw, hX.kn hT hτ⟩
  have hz : nI q = 0 ↔ q = 0 := by
    rw [← zI_n]
    exact (zI_eq (b := 0) (rI_n (by omega)) ⟨by decide, by decide⟩).trans (by omega)
  refine lv_aload_n hx hb d_A_kindOf_0 rfl (lv_at hl 1 rfl) ?_
  refine k_get hx hb hG lay_T hown hw 1 rfl rfl 0 (by decide) (hG _ fl_A_56) (fun _ h9 => h9) rfl d_A_kindOf_1 ?_
  refine lv_if_ne (tgt := 14) hx hb d_A_kindOf_4 (by decide) (fun hc => ?_) (fun hc => ?_)
  · have h0 : q ≠ 0 := fun h => hc (hz.mpr h)
    refine lv_aload_n hx hb d_A_kindOf_14 rfl (lv_at hl 0 rfl) ?_
    refine k_get hx hb hG lay_A hown hw 0 rfl rfl 2 (by decide) (hG _ fl_A_30) (fun _ h9 => h9) rfl d_A_kindOf_15 ?_
    exact g_retr hx hb hr hlocks hg ⟨rfl, (if_neg h0).symm⟩ d_A_kindOf_18
  · have h0 : q = 0 := hz.mp hc
    refine lv_aload_n hx hb d_A_kindOf_7 rfl (lv_at hl 0 rfl) ?_
    refine k_get hx hb hG lay_A hown hw 0 rfl rfl 1 (by decide) (hG _ fl_A_23) (fun _ h9 => h9) rfl d_A_kindOf_8 ?_
    refine lv_goto (tgt := 18) hx hb d_A_kindOf_11 (by decide) ?_
    exact g_retr hx hb hr hlocks hg ⟨rfl, (if_pos h0).symm⟩ d_A_kindOf_18
end KO
/-- what pivot makes of the rows below o and of its own row -/
def pvq (A : Nat → Nat → Int) (cols row col o : Nat) : Nat → Nat → Int := fun i => if i = row then ld cols (A row) col else if i < o then (if A i col = 0 then A i else fun j => ou (gd (cl1 (A i) (ld cols (A row) col) col) cols) (cl1 (A i) (ld cols (A row) col) col j)) else A i
def pvp (A : Nat → Nat → Int) (q x row col o : Nat) : Nat → Nat → Int := fun i => if i = row then (fun j => (x * A row j) % q) else if i < o then (if A i col = 0 then A i else fun j => (A i j - A i col * ((x * A row j) % q)) % q) else A i
theorem pvq_row (A : Nat → Nat → Int) (cols row col o : Nat) : pvq A cols row col o row = ld cols (A row) col := by unfold pvq; rw [if_pos rfl]
theorem pvq_at (A : Nat → Nat → Int) {cols row col o : Nat} (h : o ≠ row) : pvq A cols row col o o = A o := by unfold pvq; rw [if_neg h, if_neg (by omega)]
theorem pvq_skip (A : Nat → Nat → Int) {cols row col o : Nat} (h : o = row ∨ A o col = 0) : pvq A cols row col (o + 1) = pvq A cols row col o := by
  funext i
  unfold pvq
  by_cases e : i = row
  · rw [if_pos e, if_pos e]
  · rw [if_neg e, if_neg e]
    by_cases e2 : i < o
    · rw [if_pos (by omega), if_pos e2]
    · rw [if_neg e2]
      by_cases e3 : i = o
      · rw [if_pos (by omega)]
        rcases h with h | h
        · omega
        · rw [if_pos (by rw [e3]; exact h)]
      · rw [if_neg (by omega)]
theorem pvq_step (A : Nat → Nat → Int) {cols row col o : Nat} (h1 : o ≠ row) (h2 : A o col ≠ 0) : va_up (pvq A cols row col o) o (fun j => ou (gd (cl1 (A o) (ld cols (A row) col) col) cols) (cl1 (A o) (ld cols (A row) col) col j)) = pvq A cols row col (o + 1) := by
  funext i
  by_cases e : i = o
  · rw [e, va_up_self]
    unfold pvq
    rw [if_neg h1, if_pos (by omega), if_neg h2]
  · rw [va_up_ne _ _ e]
    unfold pvq
    by_cases e1 : i = row
    · rw [if_pos e1, if_pos e1]
    · rw [if_neg e1, if_neg e1]
      by_cases e2 : i < o
      · rw [if_pos e2, if_pos (show i < o + 1 by omega)]
      · rw [if_neg e2, if_neg (by omega)]
theorem pvp_row (A : Nat → Nat → Int) (q x row col o : Nat) : pvp A q x row col o row = fun j => (x * A row j) % q := by unfold pvp; rw [if_pos rfl]
theorem pvp_at (A : Nat → Nat → Int) {q x row col o : Nat} (h : o ≠ row) : pvp A q x row col o o = A o := by unfold pvp; rw [if_neg h, if_neg (by omega)]
theorem pvp_skip (A : Nat → Nat → Int) {q x row col o : Nat} (h : o = row ∨ A o col = 0) : pvp A q x row col (o + 1) = pvp A q x row col o := by
  funext i
  unfold pvp
  by_cases e : i = row
  · rw [if_pos e, if_pos e]
  · rw [if_neg e, if_neg e]
    by_cases e2 : i < o
    · rw [if_pos (by omega), if_pos e2]
    · rw [if_neg e2]
      by_cases e3 : i = o
      · rw [if_pos (by omega)]
        rcases h with h | h
        · omega
        · rw [if_pos (by rw [e3]; exact h)]
      · rw [if_neg (by omega)]
theorem pvp_step (A : Nat → Nat → Int) {q x row col o : Nat} (h1 : o ≠ row) (h2 : A o col ≠ 0) : va_up (pvp A q x row col o) o (fun j => (A o j - A o col * ((x * A row j) % q)) % q) = pvp A q x row col (o + 1) := by
  funext i
  by_cases e : i = o
  · rw [e, va_up_self]
    unfold pvp
    rw [if_neg h1, if_pos (by omega), if_neg h2]
  · rw [va_up_ne _ _ e]
    unfold pvp
    by_cases e1 : i = row
    · rw [if_pos e1, if_pos e1]
    · rw [if_neg e1, if_neg e1]
      by_cases e2 : i < o
      · rw [if_pos e2, if_pos (show i < o + 1 by omega)]
      · rw [if_neg e2, if_neg (by omega)]
theorem pvp_res (A : Nat → Nat → Int) {q x row col o rows cols : Nat} (hq : 0 < q) (h : ∀ i j, i < rows → j < cols → rsd q (A i j)) : ∀ i j, i < rows → j < cols → rsd q (pvp A q x row col o i j) := by
  intro i j hi hj
  have hm : ∀ z : Int, rsd q (z % q) := fun z => ⟨Int.emod_nonneg z (by omega), Int.emod_lt_of_pos z (by omega)⟩
  unfold pvp
  by_cases e1 : i = row
  · rw [if_pos e1]; exact hm _
  · rw [if_neg e1]
    by_cases e2 : i < o
    · rw [if_pos e2]
      by_cases e3 : A i col = 0
      · rw [if_pos e3]; exact h i j hi hj
      · rw [if_neg e3]; exact hm _
    · rw [if_neg e2]; exact h i j hi hj
section PVT
variable {p : Program} {l : Launch} {e : Env} {s : State} {m : MethodId} {args : Array Value} {below : List Frame} {meth : Method} {c : Code} {Q : State → Prop} {D : va_G} {k : Nat → ClassId} {L : List Nat} {H0 : Heap}
variable {own : Nat → Nat} {τ t pa nu : Nat} {rs : Nat → Nat} {fd : Int32} {rows cols : Nat} {rd : Int32} {P : Nat → Int32} {Wt : Nat → Nat → Int32} {adr : Nat → Nat} {qa ln : Nat} {zl : Nat → Option Nat} {xa : Nat} {A : Nat → Nat → Int}
set_option maxRecDepth 100000 in
set_option maxHeartbeats 4000000 in
theorem w_pvq (S : CallFix p m c c_A_pivot 6 s args G R_A) (hr : meth.sig.returnType = none) (hlocks : meth.locks = false) {row col : Nat} (hτ : τ ≠ 100) (hrows : rows ≤ 12) (hcols : cols ≤ 12) (hrow : row < rows) (hcol : col < cols) (hbo : ∀ i j, i < rows → j < cols → (pvq A cols row col rows i j).natAbs < B30 ^ 5) {f0 : Nat → va_E} :
    ∀ (i o : Nat) (f : Nat → va_E) (Wt : Nat → Nat → Int32) (H : Heap) (locs : List Loc) (ls : Array Slot), o + i = rows → TB L own k f τ t pa nu rs (nI 0) rows cols rd P Wt → RQ L own k f adr qa ln zl → oe own [τ, 100] f0 f → mt Wt rows cols (pvq A cols row col o) → lv_has ls 6 [(0, .ref xa), (1, .ref t), (2, .int (nI row)), (3, .int (nI col)), (4, .ref qa), (5, .int (nI o))] → gw D cls (tyl k) L s s.heap f H locs →
    W p l e (rmN 5) s m args below meth c H locs 0 0 (MQ below (va_Qv (fun f' => RQ L own k f' adr qa ln zl ∧ ∃ Wt, TB L own k f' τ t pa nu rs (nI 0) rows cols rd (upd P row (nI col)) Wt ∧ oe own [τ, 100] f0 f' ∧ mt Wt rows cols (pvq A cols row col rows)) (mst D cls (tyl k) L) (fun q => q ∈ L)) args s 0 0 (fun q => q ∈ L)) (F0 m 18 ls []) := by
  have hx := S.1
  have hb := S.2.1
  have hown : s.vm.findClass R_A = some m.cls := S.2.2.2.1
  have hG := S.2.2.2.2
  intro i
  induction i with
  | zero =>
    intro o f Wt H locs ls hj hT hR ho hn hl hg
    have hj : o = rows := by omega
    subst hj
    have hw : kw D cls (tyl k) L s s.heap f [(t, cT (nI 0) (nI o) (nI cols) rd pa nu), (pa, cP k P)] H locs := ⟨f, hg, hT.kn2⟩
    -- METHOD A_pivot | loc 0=xa 1=t 2=row 3=col 4=qa 5=o | ws t pa | fld t.places=pa
    refine lv_iload hx hb d_A_pivot_18 (lv_at hl 5 rfl) ?_
    refine lv_aload_n hx hb d_A_pivot_20 rfl (lv_at hl 1 rfl) ?_
    refine k_get hx hb hG lay_T hown hw 0 rfl rfl 1 (by decide) (hG _ fl_A_73) (fun _ h9 => h9) rfl d_A_pivot_21 ?_
    refine lv_icmp_ge (tgt := 59) hx hb d_A_pivot_24 (by decide) (fun hc => ?_) (fun hc => ?_)
    · -- LOC 0=xa 1=t 2=row 3=col 4=qa 5=o
      refine lv_aload_n hx hb d_A_pivot_59 rfl (lv_at hl 1 rfl) ?_
      refine k_get hx hb hG lay_T hown hw 0 rfl rfl 4 (by decide) (hG _ fl_A_80) (fun _ h9 => h9) rfl d_A_pivot_60 ?_
      refine lv_iload_n hx hb d_A_pivot_63 rfl (lv_at hl 2 rfl) ?_
      refine lv_iload_n hx hb d_A_pivot_64 rfl (lv_at hl 3 rfl) ?_
      refine k_iast hx hb hw 1 0 rfl rfl (row) (rfl) (by omega) (by first | decide | omega) d_A_pivot_65 (fun H locs hw => ?_)
      obtain ⟨f1, hg1, hk1⟩ := hw
      obtain ⟨hT1, ho1⟩ := hT.plc hk1
      exact g_retv hx hb hr hlocks hg1 ⟨hR.keep ho1 (by simp; omega), Wt, hT1, ho.trans (ho1.mono (by simp)), hn⟩ d_A_pivot_66
    · exact absurd (nI_le (Nat.le_refl _) (by omega)) hc
  | succ i ih =>
    intro o f Wt H locs ls hj hT hR ho hn hl hg
    have hw : kw D cls (tyl k) L s s.heap f [(t, cT (nI 0) (nI rows) (nI cols) rd pa nu), (pa, cP k P)] H locs := ⟨f, hg, hT.kn2⟩
    -- METHOD A_pivot | loc 0=xa 1=t 2=row 3=col 4=qa 5=o | ws t pa | fld t.places=pa
    refine lv_iload hx hb d_A_pivot_18 (lv_at hl 5 rfl) ?_
    refine lv_aload_n hx hb d_A_pivot_20 rfl (lv_at hl 1 rfl) ?_
    refine k_get hx hb hG lay_T hown hw 0 rfl rfl 1 (by decide) (hG _ fl_A_73) (fun _ h9 => h9) rfl d_A_pivot_21 ?_
    refine lv_icmp_ge (tgt := 59) hx hb d_A_pivot_24 (by decide) (fun hc => ?_) (fun hc => ?_)
    · exact absurd hc (nI_ge (by omega) (by omega))
    · -- STK
      refine lv_iload hx hb d_A_pivot_27 (lv_at hl 5 rfl) ?_
      refine lv_iload_n hx hb d_A_pivot_29 rfl (lv_at hl 2 rfl) ?_
      refine lv_icmp_eq (tgt := 53) hx hb d_A_pivot_30 (by decide) (fun hc => ?_) (fun hc => ?_)
      · have he : o = row := by
          have := (zI_eq (a := (o : Int)) (b := (row : Int)) (rI_n (by omega)) (rI_n (by omega))).mp hc
          omega
        refine lv_iinc (k := 5) hx hb d_A_pivot_53 hl rfl (ii1 o) (by decide) rfl (fun ls hl => ?_)
        refine lv_goto (tgt := 18) hx hb d_A_pivot_56 (by decide) ?_
        have hl := lv_sub hl [1, 2, 3, 4, 5, 0] rfl
        exact ih (o + 1) f Wt H locs ls (by omega) hT hR ho (by rw [pvq_skip A (Or.inl he)]; exact hn) hl hg
      · have he : o ≠ row := fun h => hc (by rw [h])
        have hno := hn o (by omega)
        rw [pvq_at A he] at hno
        have hz := nm_hz (hno col hcol)
        refine lv_aload_n hx hb d_A_pivot_33 rfl (lv_at hl 1 rfl) ?_
        refine lv_iload hx hb d_A_pivot_34 (lv_at hl 5 rfl) ?_
        refine lv_iload_n hx hb d_A_pivot_36 rfl (lv_at hl 3 rfl) ?_
        have hw := hg
        refine g_oi (c_V (np := 2) S (tb_isZero l D hT (row := o) (col := col) (by omega) (by omega) (hno col hcol)) hw (hT.1.1.1) (hT.2.1) rfl ml_A_76 im_T_isZero se_T_T_isZero in_T co_T_isZero (by decide +kernel) rfl ⟨rfl, rfl, by decide, by decide⟩ hl.1 rfl (by simp [Value.category]) d_A_pivot_37 ⟨Nat.zero_le _, Nat.zero_le _⟩) hw (fun r1 f1 H locs hp hg => ?_)
        rw [hp.1] at hg
        refine l_top hp.2 ?_
        refine lv_if_ne (tgt := 53) hx hb d_A_pivot_40 (by decide) (fun hc => ?_) (fun hc => ?_)
        · have h0 : A o col = 0 := Classical.byContradiction fun h => hc (if_neg (fun q => h (hz.mp q)))
          refine lv_iinc (k := 5) hx hb d_A_pivot_53 hl rfl (ii1 o) (by decide) rfl (fun ls hl => ?_)
          refine lv_goto (tgt := 18) hx hb d_A_pivot_56 (by decide) ?_
          have hl := lv_sub hl [1, 2, 3, 4, 5, 0] rfl
          exact ih (o + 1) f Wt H locs ls (by omega) hT hR ho (by rw [pvq_skip A (Or.inr h0)]; exact hn) hl hg
        · have h0 : A o col ≠ 0 := fun h => by rw [if_pos (hz.mpr h)] at hc; exact absurd hc (by decide)
          refine lv_aload hx hb d_A_pivot_43 (lv_at hl 4 rfl) ?_
          refine lv_aload_n hx hb d_A_pivot_45 rfl (lv_at hl 1 rfl) ?_
          refine lv_iload hx hb d_A_pivot_46 (lv_at hl 5 rfl) ?_
          refine lv_iload_n hx hb d_A_pivot_48 rfl (lv_at hl 2 rfl) ?_
          refine lv_iload_n hx hb d_A_pivot_49 rfl (lv_at hl 3 rfl) ?_
          have hw := hg
          have hb5 : ∀ j, j < cols → (ou (gd (cl1 (pvq A cols row col o o) (pvq A cols row col o row) col) cols) (cl1 (pvq A cols row col o o) (pvq A cols row col o row) col j)).natAbs < B30 ^ 5 := fun j hj => by
            rw [pvq_at A he, pvq_row]
            have := hbo o j (by omega) hj
            unfold pvq at this
            rw [if_neg he, if_pos (by omega), if_neg h0] at this
            exact this
          refine g_ov (c_A (np := 4) S (tb_clearQ l D hT hR hτ hrows hcols (row := o) (led := row) (col := col) (by omega) hrow hcol hn hb5) hw (hR.1.1) (hR.2.2.2.2.choose_spec.choose_spec.choose_spec.2.2.1) rfl ml_A_146 sm_K_clear im_Q_clear se_Q_Q_clear in_Q co_Q_clear hw.1.2.2.2.1 (by decide +kernel) rfl ⟨rfl, rfl, by decide, by decide⟩ hl.1 rfl (by simp [Value.category]) d_A_pivot_50 ⟨Nat.zero_le _, Nat.zero_le _⟩) hw (fun f3 H locs hp3 hg => ?_)
          obtain ⟨g1, w1, g2, g3, g4⟩ := hp3
          rw [pvq_at A he, pvq_row, pvq_step A he h0] at g4
          refine lv_iinc (k := 5) hx hb d_A_pivot_53 hl rfl (ii1 o) (by decide) rfl (fun ls hl => ?_)
          refine lv_goto (tgt := 18) hx hb d_A_pivot_56 (by decide) ?_
          have hl := lv_sub hl [1, 2, 3, 4, 5, 0] rfl
          exact ih (o + 1) f3 _ H locs ls (by omega) g2 g1 (ho.trans g3) g4 hl hg
set_option maxRecDepth 100000 in
set_option maxHeartbeats 4000000 in
theorem w_pvp (S : CallFix p m c c_A_pivot 6 s args G R_A) (hr : meth.sig.returnType = none) (hlocks : meth.locks = false) {row col q x pr ta sp : Nat} {zt : Nat → Option Nat} (hτ : τ ≠ 101) (hrows : rows ≤ 12) (hcols : cols ≤ 12) (hrow : row < rows) (hcol : col < cols) (hq0 : 0 < q) (hq : q ≤ 251) (hres : ∀ i j, i < rows → j < cols → rsd q (A i j)) {f0 : Nat → va_E} {post : (Nat → va_E) → Prop} (hpost : ∀ (f' : Nat → va_E) Wt, TB L own k f' τ t pa nu rs (nI q) rows cols rd (upd P row (nI col)) Wt → oe own [τ] f0 f' → mt Wt rows cols (pvp A q x row col rows) → post f') :
    ∀ (i o : Nat) (f : Nat → va_E) (Wt : Nat → Nat → Int32) (H : Heap) (locs : List Loc) (ls : Array Slot), o + i = rows → TB L own k f τ t pa nu rs (nI q) rows cols rd P Wt → XA L own k f xa ta qa pr sp zt → oe own [τ] f0 f → mt Wt rows cols (pvp A q x row col o) → lv_has ls 6 [(0, .ref xa), (1, .ref t), (2, .int (nI row)), (3, .int (nI col)), (4, .ref pr), (5, .int (nI o))] → gw D cls (tyl k) L s s.heap f H locs →
    W p l e (rmN 5) s m args below meth c H locs 0 0 (MQ below (va_Qv post (mst D cls (tyl k) L) (fun q => q ∈ L)) args s 0 0 (fun q => q ∈ L)) (F0 m 18 ls []) := by
  have hx := S.1
  have hb := S.2.1
  have hown : s.vm.findClass R_A = some m.cls := S.2.2.2.1
  have hG := S.2.2.2.2
  intro i
  induction i with
  | zero =>
    intro o f Wt H locs ls hj hT hX ho hn hl hg
    have hj : o = rows := by omega
    subst hj
    have hw : kw D cls (tyl k) L s s.heap f [(t, cT (nI q) (nI o) (nI cols) rd pa nu), (pa, cP k P)] H locs := ⟨f, hg, hT.kn2⟩
    -- METHOD A_pivot | loc 0=xa 1=t 2=row 3=col 4=pr 5=o | ws t pa | fld t.places=pa
    refine lv_iload hx hb d_A_pivot_18 (lv_at hl 5 rfl) ?_
    refine lv_aload_n hx hb d_A_pivot_20 rfl (lv_at hl 1 rfl) ?_
    refine k_get hx hb hG lay_T hown hw 0 rfl rfl 1 (by decide) (hG _ fl_A_73) (fun _ h9 => h9) rfl d_A_pivot_21 ?_
    refine lv_icmp_ge (tgt := 59) hx hb d_A_pivot_24 (by decide) (fun hc => ?_) (fun hc => ?_)
    · -- LOC 0=xa 1=t 2=row 3=col 4=pr 5=o
      refine lv_aload_n hx hb d_A_pivot_59 rfl (lv_at hl 1 rfl) ?_
      refine k_get hx hb hG lay_T hown hw 0 rfl rfl 4 (by decide) (hG _ fl_A_80) (fun _ h9 => h9) rfl d_A_pivot_60 ?_
      refine lv_iload_n hx hb d_A_pivot_63 rfl (lv_at hl 2 rfl) ?_
      refine lv_iload_n hx hb d_A_pivot_64 rfl (lv_at hl 3 rfl) ?_
      refine k_iast hx hb hw 1 0 rfl rfl (row) (rfl) (by omega) (by first | decide | omega) d_A_pivot_65 (fun H locs hw => ?_)
      obtain ⟨f1, hg1, hk1⟩ := hw
      obtain ⟨hT1, ho1⟩ := hT.plc hk1
      exact g_retv hx hb hr hlocks hg1 (hpost _ _ hT1 (ho.trans ho1) hn) d_A_pivot_66
    · exact absurd (nI_le (Nat.le_refl _) (by omega)) hc
  | succ i ih =>
    intro o f Wt H locs ls hj hT hX ho hn hl hg
    have hw : kw D cls (tyl k) L s s.heap f [(t, cT (nI q) (nI rows) (nI cols) rd pa nu), (pa, cP k P)] H locs := ⟨f, hg, hT.kn2⟩
    -- METHOD A_pivot | loc 0=xa 1=t 2=row 3=col 4=pr 5=o | ws t pa | fld t.places=pa
    refine lv_iload hx hb d_A_pivot_18 (lv_at hl 5 rfl) ?_
    refine lv_aload_n hx hb d_A_pivot_20 rfl (lv_at hl 1 rfl) ?_
    refine k_get hx hb hG lay_T hown hw 0 rfl rfl 1 (by decide) (hG _ fl_A_73) (fun _ h9 => h9) rfl d_A_pivot_21 ?_
    refine lv_icmp_ge (tgt := 59) hx hb d_A_pivot_24 (by decide) (fun hc => ?_) (fun hc => ?_)
    · exact absurd hc (nI_ge (by omega) (by omega))
    · -- STK
      refine lv_iload hx hb d_A_pivot_27 (lv_at hl 5 rfl) ?_
      refine lv_iload_n hx hb d_A_pivot_29 rfl (lv_at hl 2 rfl) ?_
      refine lv_icmp_eq (tgt := 53) hx hb d_A_pivot_30 (by decide) (fun hc => ?_) (fun hc => ?_)
      · have he : o = row := by
          have := (zI_eq (a := (o : Int)) (b := (row : Int)) (rI_n (by omega)) (rI_n (by omega))).mp hc
          omega
        refine lv_iinc (k := 5) hx hb d_A_pivot_53 hl rfl (ii1 o) (by decide) rfl (fun ls hl => ?_)
        refine lv_goto (tgt := 18) hx hb d_A_pivot_56 (by decide) ?_
        have hl := lv_sub hl [1, 2, 3, 4, 5, 0] rfl
        exact ih (o + 1) f Wt H locs ls (by omega) hT hX ho (by rw [pvp_skip A (Or.inl he)]; exact hn) hl hg
      · have he : o ≠ row := fun h => hc (by rw [h])
        have hno := hn o (by omega)
        rw [pvp_at A he] at hno
        have hz := nm_hz (hno col hcol)
        refine lv_aload_n hx hb d_A_pivot_33 rfl (lv_at hl 1 rfl) ?_
        refine lv_iload hx hb d_A_pivot_34 (lv_at hl 5 rfl) ?_
        refine lv_iload_n hx hb d_A_pivot_36 rfl (lv_at hl 3 rfl) ?_
        have hw := hg
        refine g_oi (c_V (np := 2) S (tb_isZero l D hT (row := o) (col := col) (by omega) (by omega) (hno col hcol)) hw (hT.1.1.1) (hT.2.1) rfl ml_A_76 im_T_isZero se_T_T_isZero in_T co_T_isZero (by decide +kernel) rfl ⟨rfl, rfl, by decide, by decide⟩ hl.1 rfl (by simp [Value.category]) d_A_pivot_37 ⟨Nat.zero_le _, Nat.zero_le _⟩) hw (fun r1 f1 H locs hp hg => ?_)
        rw [hp.1] at hg
        refine l_top hp.2 ?_
        refine lv_if_ne (tgt := 53) hx hb d_A_pivot_40 (by decide) (fun hc => ?_) (fun hc => ?_)
        · have h0 : A o col = 0 := Classical.byContradiction fun h => hc (if_neg (fun q => h (hz.mp q)))
          refine lv_iinc (k := 5) hx hb d_A_pivot_53 hl rfl (ii1 o) (by decide) rfl (fun ls hl => ?_)
          refine lv_goto (tgt := 18) hx hb d_A_pivot_56 (by decide) ?_
          have hl := lv_sub hl [1, 2, 3, 4, 5, 0] rfl
          exact ih (o + 1) f Wt H locs ls (by omega) hT hX ho (by rw [pvp_skip A (Or.inr h0)]; exact hn) hl hg
        · have h0 : A o col ≠ 0 := fun h => by rw [if_pos (hz.mpr h)] at hc; exact absurd hc (by decide)
          refine lv_aload hx hb d_A_pivot_43 (lv_at hl 4 rfl) ?_
          refine lv_aload_n hx hb d_A_pivot_45 rfl (lv_at hl 1 rfl) ?_
          refine lv_iload hx hb d_A_pivot_46 (lv_at hl 5 rfl) ?_
          refine lv_iload_n hx hb d_A_pivot_48 rfl (lv_at hl 2 rfl) ?_
          refine lv_iload_n hx hb d_A_pivot_49 rfl (lv_at hl 3 rfl) ?_
          have hw := hg
          refine g_ov (c_A (np := 4) S (tb_clearP l D pr hT hrows hcols (row := o) (led := row) (col := col) (by omega) hrow (Ne.symm he) hcol hn hq0 hq (pvp_res A hq0 hres)) hw (hX.2.2.2.2.2.1) (hX.2.2.1) rfl ml_A_146 sm_K_clear im_P_clear se_P_P_clear in_P co_P_clear hw.1.2.2.2.1 (by decide +kernel) rfl ⟨rfl, rfl, by decide, by decide⟩ hl.1 rfl (by simp [Value.category]) d_A_pivot_50 ⟨Nat.zero_le _, Nat.zero_le _⟩) hw (fun f3 H locs hp3 hg => ?_)
          obtain ⟨w1, g2, g3, g4⟩ := hp3
          rw [pvp_at A he, pvp_row, pvp_step A he h0] at g4
          refine lv_iinc (k := 5) hx hb d_A_pivot_53 hl rfl (ii1 o) (by decide) rfl (fun ls hl => ?_)
          refine lv_goto (tgt := 18) hx hb d_A_pivot_56 (by decide) ?_
          have hl := lv_sub hl [1, 2, 3, 4, 5, 0] rfl
          exact ih (o + 1) f3 _ H locs ls (by omega) g2 (hX.keep g3 (by simp; omega)) (ho.trans g3) g4 hl hg
end PVT
/-- what pivot asks, and makes -/
def pvok (q : Nat) (A : Nat → Nat → Int) (rows cols row col : Nat) : Prop := A row col ≠ 0 ∧ (q = 0 → ∀ i j, i < rows → j < cols → (pvq A cols row col rows i j).natAbs < B30 ^ 5) ∧ (q ≠ 0 → q ≤ 251 ∧ (∀ i j, i < rows → j < cols → rsd q (A i j)) ∧ ∃ c0 : Nat, 1 ≤ c0 ∧ c0 < q ∧ ((c0 : Int) * A row col) % q = 1)
def pvr (q : Nat) (A : Nat → Nat → Int) (rows cols row col : Nat) (B : Nat → Nat → Int) : Prop := (q = 0 ∧ B = pvq A cols row col rows) ∨ (q ≠ 0 ∧ ∃ x : Nat, 1 ≤ x ∧ x < q ∧ ((x : Int) * A row col) % q = 1 ∧ B = pvp A q x row col rows)
section PV
variable (l : Launch) (D : va_G) {L : List Nat} {k : Nat → ClassId} {f : Nat → va_E} {own : Nat → Nat} {τ t pa nu : Nat} {rs : Nat → Nat} {fd : Int32} {rows cols : Nat} {rd : Int32} {P : Nat → Int32} {Wt : Nat → Nat → Int32} {xa ta pr sp : Nat} {zt : Nat → Option Nat} {adr : Nat → Nat} {qa ln : Nat} {zl : Nat → Option Nat} {q : Nat} {A : Nat → Nat → Int}
set_option maxRecDepth 100000 in
set_option maxHeartbeats 4000000 in
theorem tb_pivot (hX : XA L own k f xa ta qa pr sp zt) (hT : TB L own k f τ t pa nu rs (nI q) rows cols rd P Wt) (hR : RQ L own k f adr qa ln zl) (hτ0 : τ ≠ 100) (hτ : τ ≠ 101) (hq : q < 2 ^ 31) (hrows : rows ≤ 12) (hcols : cols ≤ 12) {row col : Nat} (hrow : row < rows) (hcol : col < cols) (hA : mt Wt rows cols A) (hok : pvok q A rows cols row col) : Mv l y_A_pivot (Cond.code y_A_pivot c_A_pivot 6 none :: G) (rmN 5) D cls (tyl k) L f [.ref xa, .ref t, .int (nI row), .int (nI col)] (fun f' => RQ L own k f' adr qa ln zl ∧ ∃ Wt B, TB L own k f' τ t pa nu rs (nI q) rows cols rd (upd P row (nI col)) Wt ∧ oe own [τ, 100] f f' ∧ mt Wt rows cols B ∧ pvr q A rows cols row col B) := by
  by_cases h0 : q = 0
  · subst h0
    have hbo := hok.2.1 rfl
    refine Met_mono (post := fun f' => RQ L own k f' adr qa ln zl ∧ ∃ Wt, TB L own k f' τ t pa nu rs (nI 0) rows cols rd (upd P row (nI col)) Wt ∧ oe own [τ, 100] f f' ∧ mt Wt rows cols (pvq A cols row col rows)) ?_ (fun f' hp => ?_)
    · -- METHOD A_pivot | loc 0=xa 1=t 2=row 3=col | ws t pa
      refine mk_met (by decide) (Nat.le_of_ble_eq_true rfl) (fun p e s m below meth c ls S hr hlocks hw hl => ?_)
      have hx := S.1
      have hb := S.2.1
      have hown : s.vm.findClass R_A = some m.cls := S.2.2.2.1
      have hG := S.2.2.2.2
      have hl : lv_has ls 6 [(0, .ref xa), (1, .ref t), (2, .int (nI row)), (3, .int (nI col))] := hl
      have hg := hw
      refine lv_aload_n hx hb d_A_pivot_0 rfl (lv_at hl 0 rfl) ?_
      refine lv_aload_n hx hb d_A_pivot_1 rfl (lv_at hl 1 rfl) ?_
      refine g_or (c_V (np := 1) S (m_A_kindOf l D hX hT hτ hq) hw (hX.2.2.2.1.1) (hX.1) rfl ml_A_97 im_A_kindOf se_A_A_kindOf in_A co_A_kindOf (by decide +kernel) rfl ⟨rfl, rfl, by decide, by decide⟩ hl.1 rfl (by simp [Value.category]) d_A_pivot_2 ⟨Nat.zero_le _, Nat.zero_le _⟩) hw (fun r1 f1 H locs hp hg => ?_)
      rw [hp.1] at hg
      have er : r1 = qa := hp.2
      subst er
      refine lv_astore hx hb d_A_pivot_5 hl (by decide) rfl (fun ls hl => ?_)
      refine lv_aload hx hb d_A_pivot_7 (lv_at hl 0 rfl) ?_
      refine lv_aload_n hx hb d_A_pivot_9 rfl (lv_at hl 2 rfl) ?_
      refine lv_iload_n hx hb d_A_pivot_10 rfl (lv_at hl 3 rfl) ?_
      refine lv_iload_n hx hb d_A_pivot_11 rfl (lv_at hl 4 rfl) ?_
      have hw := hg
      refine g_ov (c_A (np := 3) S (tb_leadQ l D hT hR hτ0 hrows hcols hrow hcol hA) hw (hR.1.1) (hR.2.2.2.2.choose_spec.choose_spec.choose_spec.2.2.1) rfl ml_A_143 sm_K_lead im_Q_lead se_Q_Q_lead in_Q co_Q_lead hw.1.2.2.1 (by decide +kernel) rfl ⟨rfl, rfl, by decide, by decide⟩ hl.1 rfl (by simp [Value.category]) d_A_pivot_12 ⟨Nat.zero_le _, Nat.zero_le _⟩) hw (fun f3 H locs hp3 hg => ?_)
      obtain ⟨g1, w1, g2, g3, g4⟩ := hp3
      refine lv_iconst (v := 0) hx hb d_A_pivot_15 (by decide) ?_
      refine lv_istore hx hb d_A_pivot_16 hl (by decide) rfl (fun ls hl => ?_)
      have hl := lv_sub hl [2, 3, 4, 5, 1, 0] rfl
      have e0 : va_up A row (ld cols (A row) col) = pvq A cols row col 0 := by
        funext i
        unfold pvq
        by_cases e : i = row
        · rw [e, va_up_self, if_pos rfl]
        · rw [va_up_ne _ _ e, if_neg e, if_neg (by omega)]
      rw [e0] at g4
      exact w_pvq S hr hlocks hτ0 hrows hcols hrow hcol hbo rows 0 f3 _ H locs ls (by omega) g2 g1 g3 g4 hl hg
    · obtain ⟨a1, Wt, a2, a3, a4⟩ := hp
      exact ⟨a1, Wt, _, a2, a3, a4, Or.inl ⟨rfl, rfl⟩⟩
  · obtain ⟨hq1, hres, c0, hc1, hc2, hc3⟩ := hok.2.2 h0
    refine Met_mono (post := fun f' => ∃ (x : Nat) (Wt : Nat → Nat → Int32), 1 ≤ x ∧ x < q ∧ ((x : Int) * A row col) % q = 1 ∧ TB L own k f' τ t pa nu rs (nI q) rows cols rd (upd P row (nI col)) Wt ∧ oe own [τ] f f' ∧ mt Wt rows cols (pvp A q x row col rows)) ?_ (fun f' hp => ?_)
    · -- METHOD A_pivot | loc 0=xa 1=t 2=row 3=col | ws t pa
      refine mk_met (by decide) (Nat.le_of_ble_eq_true rfl) (fun p e s m below meth c ls S hr hlocks hw hl => ?_)
      have hx := S.1
      have hb := S.2.1
      have hown : s.vm.findClass R_A = some m.cls := S.2.2.2.1
      have hG := S.2.2.2.2
      have hl : lv_has ls 6 [(0, .ref xa), (1, .ref t), (2, .int (nI row)), (3, .int (nI col))] := hl
      have hg := hw
      refine lv_aload_n hx hb d_A_pivot_0 rfl (lv_at hl 0 rfl) ?_
      refine lv_aload_n hx hb d_A_pivot_1 rfl (lv_at hl 1 rfl) ?_
      refine g_or (c_V (np := 1) S (m_A_kindOf l D hX hT hτ hq) hw (hX.2.2.2.1.1) (hX.1) rfl ml_A_97 im_A_kindOf se_A_A_kindOf in_A co_A_kindOf (by decide +kernel) rfl ⟨rfl, rfl, by decide, by decide⟩ hl.1 rfl (by simp [Value.category]) d_A_pivot_2 ⟨Nat.zero_le _, Nat.zero_le _⟩) hw (fun r1 f1 H locs hp hg => ?_)
      rw [hp.1] at hg
      have er : r1 = pr := hp.2.trans (if_neg h0)
      subst er
      refine lv_astore hx hb d_A_pivot_5 hl (by decide) rfl (fun ls hl => ?_)
      refine lv_aload hx hb d_A_pivot_7 (lv_at hl 0 rfl) ?_
      refine lv_aload_n hx hb d_A_pivot_9 rfl (lv_at hl 2 rfl) ?_
      refine lv_iload_n hx hb d_A_pivot_10 rfl (lv_at hl 3 rfl) ?_
      refine lv_iload_n hx hb d_A_pivot_11 rfl (lv_at hl 4 rfl) ?_
      have hw := hg
      refine g_ov (c_A (np := 3) S (tb_leadP l D _ hT hrows hcols hrow hcol hA hq1 hres hc1 hc2 hc3) hw (hX.2.2.2.2.2.1) (hX.2.2.1) rfl ml_A_143 sm_K_lead im_P_lead se_P_P_lead in_P co_P_lead hw.1.2.2.1 (by decide +kernel) rfl ⟨rfl, rfl, by decide, by decide⟩ hl.1 rfl (by simp [Value.category]) d_A_pivot_12 ⟨Nat.zero_le _, Nat.zero_le _⟩) hw (fun f3 H locs hp3 hg => ?_)
      obtain ⟨w1, x, hx1, hx2, hx3, g2, g3, g4⟩ := hp3
      refine lv_iconst (v := 0) hx hb d_A_pivot_15 (by decide) ?_
      refine lv_istore hx hb d_A_pivot_16 hl (by decide) rfl (fun ls hl => ?_)
      have hl := lv_sub hl [2, 3, 4, 5, 1, 0] rfl
      have e0 : va_up A row (fun j => (x * A row j) % q) = pvp A q x row col 0 := by
        funext i
        unfold pvp
        by_cases e : i = row
        · rw [e, va_up_self, if_pos rfl]
        · rw [va_up_ne _ _ e, if_neg e, if_neg (by omega)]
      rw [e0] at g4
      exact w_pvp S hr hlocks (x := x) hτ hrows hcols hrow hcol (by omega) hq1 hres (fun f' Wt a1 a2 a3 => ⟨x, Wt, hx1, hx2, hx3, a1, a2, a3⟩) rows 0 f3 _ H locs ls (by omega) g2 (hX.keep g3 (by simp; omega)) g3 g4 hl hg
    · obtain ⟨x, Wt, hx1, hx2, hx3, a2, a3, a4⟩ := hp
      exact ⟨hR.keep a3 (by simp; omega), Wt, _, a2, a3.mono (by simp), a4, Or.inr ⟨h0, x, hx1, hx2, hx3, rfl⟩⟩
end PV


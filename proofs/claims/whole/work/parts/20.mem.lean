-- ===== one world for all methods: the cells at the addresses of L, each holding what f says =====
/-- arrays of arrays of ints: their class, and what it holds -/
def ao0 (U : State) : Prop := (Cond.arrayOver (.array .int)).before #[] U = true
theorem ao_idx (vm : Vm) (comp : ClassId) : (vm.bare.classes.findIdx? fun (x : Class) => match x.kind with | .array component _ => component == comp | _ => false) = (vm.classes.findIdx? fun (x : Class) => match x.kind with | .array component _ => component == comp | _ => false) := va_idx_bare vm comp
theorem ao0.moved {u U : State} (hvm : u.vm.Alike U.vm) (h : ao0 u) : ao0 U := by
  obtain ⟨comp, c, kA, h1, h2, h3, h4, h5⟩ := arrayOverA_spec h
  obtain ⟨k', hk', he⟩ := hvm.2.2 _ _ h3
  have hi : (U.vm.classes.findIdx? fun (x : Class) => match x.kind with | .array component _ => component == comp | _ => false) = some c := by
    rw [← ao_idx]
    first | rw [hvm.bare_eq] | rw [← hvm.bare_eq]
    rw [ao_idx]
    exact h2
  have hkind : k'.kind = .array comp (.array .int) := by rw [he]; exact h4
  have f1 : U.vm.findClass (FieldType.array .int).toString = some comp := by rw [hvm.findClass]; exact h1
  have f2 : U.vm.findClass ("[" ++ (FieldType.array .int).toString) = some c := by rw [hvm.findClass]; exact h5
  unfold ao0 Cond.before Cond.holds
  simp only [Cond.value]
  rw [f1, Option.bind_some]
  refine (congrArg (fun o : Option Nat => (o.bind (fun c => (U.vm.classes[c]?).map fun (k : Class) => match k.kind with | .array _ ty => decide (ty = FieldType.array .int) && decide (U.vm.findClass ("[" ++ (FieldType.array .int).toString) = some c) | _ => false) == some true)) hi).trans ?_
  simp [hk', hkind, f2]
/-- the abstract methods that are called -/
def y_K_lead : MethodName := ⟨"LineTables$Kind", "lead", "(LLineTables$Table;II)V"⟩
def y_K_clear : MethodName := ⟨"LineTables$Kind", "clear", "(LLineTables$Table;III)V"⟩
def y_K_fillDual : MethodName := ⟨"LineTables$Kind", "fillDual", "(LLineTables$Table;ILLineTables$Table;I)V"⟩
def ao (U : State) : Prop := ao0 U ∧ va_Nw (.declares y_K_lead) U ∧ va_Nw (.declares y_K_clear) U ∧ va_Nw (.declares y_K_fillDual) U
theorem dec_moved {u U : State} {x : MethodName} (hvm : u.vm.Alike U.vm) (hZ : va_Nw (.declares x) u) : va_Nw (.declares x) U := va_tabs rfl (rfl : (u.setVm U.vm).vm = U.vm) (by rw [Cond.declares_setVm hvm]; exact hZ)
theorem ao.moved {u U : State} (hvm : u.vm.Alike U.vm) (h : ao u) : ao U := ⟨ao0.moved hvm h.1, dec_moved hvm h.2.1, dec_moved hvm h.2.2.1, dec_moved hvm h.2.2.2⟩
def xK (D : va_G) (cl : List vw_C) (tys : List (ClassId × FieldType)) (U : State) : Prop := va_K D cl tys U ∧ ao U
theorem xK.moved {D : va_G} {cl : List vw_C} {tys : List (ClassId × FieldType)} {u U : State} (hvm : u.vm.Alike U.vm) (h : xK D cl tys u) : xK D cl tys U := ⟨va_K.moved hvm h.1, ao.moved hvm h.2⟩
def gw (D : va_G) (cl : List vw_C) (tys : List (ClassId × FieldType)) (L : List Nat) (s : State) (H0 : Heap) (f : Nat → va_E) (H : Heap) (locs : List Loc) : Prop :=
  xK D cl tys s ∧ va_P D cl (va_pl L f) H ∧ va_D (fun q => q ∈ L) (va_pl L f) ∧ va_S (fun q => q ∈ L) H0 H locs
/-- what a method that makes nothing needs, and what it leaves -/
def mpre (D : va_G) (cl : List vw_C) (tys : List (ClassId × FieldType)) (L : List Nat) (f : Nat → va_E) (as : List Value) : Array Value → State → Prop := fun v U => v = as.toArray ∧ xK D cl tys U ∧ va_P D cl (va_pl L f) U.heap ∧ va_D (fun q => q ∈ L) (va_pl L f)
def mst (D : va_G) (cl : List vw_C) (tys : List (ClassId × FieldType)) (L : List Nat) (f : Nat → va_E) (t : State) : Prop := xK D cl tys t ∧ va_P D cl (va_pl L f) t.heap ∧ va_D (fun q => q ∈ L) (va_pl L f)
abbrev Mi (l : Launch) (y : MethodName) (ws : List Cond) (rm : Room) (D : va_G) (cl : List vw_C) (tys : List (ClassId × FieldType)) (L : List Nat) (f : Nat → va_E) (as : List Value) (post : Int32 → (Nat → va_E) → Prop) : Prop := Met l y ws rm (mpre D cl tys L f as) (va_Qi post (mst D cl tys L) (fun q => q ∈ L)) 0 0 (fun q => q ∈ L)
abbrev Ml (l : Launch) (y : MethodName) (ws : List Cond) (rm : Room) (D : va_G) (cl : List vw_C) (tys : List (ClassId × FieldType)) (L : List Nat) (f : Nat → va_E) (as : List Value) (post : Int64 → (Nat → va_E) → Prop) : Prop := Met l y ws rm (mpre D cl tys L f as) (va_Ql post (mst D cl tys L) (fun q => q ∈ L)) 0 0 (fun q => q ∈ L)
abbrev Mv (l : Launch) (y : MethodName) (ws : List Cond) (rm : Room) (D : va_G) (cl : List vw_C) (tys : List (ClassId × FieldType)) (L : List Nat) (f : Nat → va_E) (as : List Value) (post : (Nat → va_E) → Prop) : Prop := Met l y ws rm (mpre D cl tys L f as) (va_Qv post (mst D cl tys L) (fun q => q ∈ L)) 0 0 (fun q => q ∈ L)
abbrev Mr (l : Launch) (y : MethodName) (ws : List Cond) (rm : Room) (D : va_G) (cl : List vw_C) (tys : List (ClassId × FieldType)) (L : List Nat) (f : Nat → va_E) (as : List Value) (post : Nat → (Nat → va_E) → Prop) : Prop := Met l y ws rm (mpre D cl tys L f as) (va_Qr (fun _ : Nat → va_E => True) (fun f' a t => mst D cl tys L f' t ∧ post a f') (fun q => q ∈ L)) 0 0 (fun q => q ∈ L)
theorem mpre_blind {D : va_G} {cl : List vw_C} {tys : List (ClassId × FieldType)} {L : List Nat} {f : Nat → va_E} {as : List Value} : FrameBlind (mpre D cl tys L f as) := fun a U g mk q => ⟨q.1, xK.moved (u := U) (U := U.calling g mk a) (Vm.Alike.refl U.vm) q.2.1, q.2.2.1, q.2.2.2⟩
theorem pl_ix {L : List Nat} {f : Nat → va_E} {a : Nat} {e : va_E} (h : a ∈ L) (he : f a = e) : ∃ k : Nat, (va_pl L f)[k]? = some (a, e) := by
  subst he
  exact va_pl_get (X := []) h
theorem pl_up {A : Nat → Prop} {L : List Nat} {f : Nat → va_E} {a k : Nat} {e e0 : va_E} (hD : va_D A (va_pl L f)) (h : a ∈ L) (he : f a = e0) (hk : (va_pl L f)[k]? = some (a, e0)) : (va_pl L f).set k (a, e) = va_pl L (va_up f a e) := by
  subst he
  exact va_pl_set (X := []) hD h hk
section MEM
variable {p : Program} {l : Launch} {e : Env} {R : Room} {s : State} {m : MethodId} {args : Array Value} {below : List Frame} {meth : Method} {c : Code} {H : Heap} {locs : List Loc} {cells slots : Nat} {Q : State → Prop}
variable {cc : ByteArray} {pc : Nat} {ls : Array Slot} {rest st0 : List Value} {D : va_G} {cl : List vw_C} {a : Nat} {tys : List (ClassId × FieldType)} {H0 : Heap} {L : List Nat} {f : Nat → va_E}
theorem g_get (hexec : p.tables.exec = Jvm.exec) (hb : c.code = cc) {own ref C : String} {T : u_T} {N ci index : Nat} {Ts : List Cond} (hts : ∀ w ∈ Ts, w.before args s = true) (hin : ∀ w ∈ u_ws C T N, w ∈ Ts) (hown : s.vm.findClass own = some m.cls) (hw : gw D cl tys L s H0 f H locs) (ha : a ∈ L) {fs : List Value} (he : f a = .inr (ci, fs)) (hc : cl[ci]? = some (C, T, N)) (k : Nat) (hk : k < N) (hlink : (Cond.fieldLink own index ref (T k).2.1 (T k).2.2.1).before args s = true) (hsame : ∀ x, s.fieldFound? (T k).1 (T k).2.1 (T k).2.2.1 = some x → s.fieldFound? ref (T k).2.1 (T k).2.2.1 = some x) {v : Value} (hv : fs[k]? = some v) (hdg : decode cc pc = .ok (.getfield index, 3))
    (kk : W p l e R s m args below meth c H locs cells slots Q (F0 m (pc + 3) ls (v :: rest))) : W p l e R s m args below meth c H locs cells slots Q (F0 m pc ls (.ref a :: rest)) := by
  obtain ⟨q0, hq⟩ := pl_ix ha he
  exact va_get hexec hb hts hin hown hw.1.1 hw.2.1 q0 hq hc k hk hlink hsame hv hdg kk
theorem g_put (hexec : p.tables.exec = Jvm.exec) (hb : c.code = cc) {own ref C : String} {T : u_T} {N ci index : Nat} {Ts : List Cond} (hts : ∀ w ∈ Ts, w.before args s = true) (hin : ∀ w ∈ u_ws C T N, w ∈ Ts) (ty0 : Nat → FieldType) (hty : ∀ k, k < N → parseFieldDescriptor (T k).2.2.1 = some (ty0 k)) (hnm : ∀ a, a < N → ∀ b, b < N → a ≠ b → (T a).2.1 ≠ (T b).2.1) (hown : s.vm.findClass own = some m.cls) (hw : gw D cl tys L s H0 f H locs) (ha : a ∈ L) {fs : List Value} (he : f a = .inr (ci, fs)) (hc : cl[ci]? = some (C, T, N)) (k : Nat) (hk : k < N) (hlink : (Cond.fieldLink own index ref (T k).2.1 (T k).2.2.1).before args s = true) (hsame : ∀ x, s.fieldFound? (T k).1 (T k).2.1 (T k).2.2.1 = some x → s.fieldFound? ref (T k).2.1 (T k).2.2.1 = some x) (hfin : (T k).2.2.2 = false) {ty : FieldType} {v : Value} (hd : parseFieldDescriptor (T k).2.2.1 = some ty) (hn : narrow ty v = v) (hfit : fits ty v = true) (hl : k < fs.length)
    (hdg : decode cc pc = .ok (.putfield index, 3)) (kk : ∀ (H1 : Heap) (locs1 : List Loc), gw D cl tys L s H0 (va_up f a (.inr (ci, fs.set k v))) H1 locs1 → W p l e R s m args below meth c H1 locs1 cells slots Q (F0 m (pc + 3) ls rest)) : W p l e R s m args below meth c H locs cells slots Q (F0 m pc ls (v :: .ref a :: rest)) := by
  obtain ⟨q0, hq⟩ := pl_ix ha he
  refine va_put hexec hb hts hin ty0 hty hnm hown hw.1.1 hw.2.1 hw.2.2.1 hw.2.2.2 q0 hq hc k hk hlink hsame hfin hd hn hfit hl hdg (fun H1 locs1 h1 h2 h3 => ?_)
  rw [pl_up hw.2.2.1 ha he hq] at h1 h2
  exact kk H1 locs1 ⟨hw.1, h1, h2, h3⟩
theorem g_iald (hexec : p.tables.exec = Jvm.exec) (hb : c.code = cc) (hw : gw D cl tys L s H0 f H locs) (ha : a ∈ L) (t0 : Nat) {cA : ClassId} {n : Nat} {z : Nat → Int32} (he : f a = .inl (cA, n, .inl z)) (ht : tys[t0]? = some (cA, .int)) {i : Int32} (k : Nat) (hi : i = nI k) (hk : k < n) (hn : n < 2 ^ 31) (hdg : decode cc pc = .ok (.iaload, 1))
    (kk : W p l e R s m args below meth c H locs cells slots Q (F0 m (pc + 1) ls (.int (z k) :: rest))) : W p l e R s m args below meth c H locs cells slots Q (F0 m pc ls (.int i :: .ref a :: rest)) := by
  obtain ⟨q0, hq⟩ := pl_ix ha he
  subst hi
  refine va_iald hexec hb hw.1.1 hw.2.1 q0 t0 hq ht (vp_in_nI hk hn) hdg ?_
  rw [nI_clamp (by omega)]
  exact kk
theorem g_iast (hexec : p.tables.exec = Jvm.exec) (hb : c.code = cc) (hw : gw D cl tys L s H0 f H locs) (ha : a ∈ L) (t0 : Nat) {cA : ClassId} {n : Nat} {z : Nat → Int32} (he : f a = .inl (cA, n, .inl z)) (ht : tys[t0]? = some (cA, .int)) {i x : Int32} (k : Nat) (hi : i = nI k) (hk : k < n) (hn : n < 2 ^ 31) (hdg : decode cc pc = .ok (.iastore, 1))
    (kk : ∀ (H1 : Heap) (locs1 : List Loc), gw D cl tys L s H0 (va_up f a (.inl (cA, n, .inl (upd z k x)))) H1 locs1 → W p l e R s m args below meth c H1 locs1 cells slots Q (F0 m (pc + 1) ls rest)) : W p l e R s m args below meth c H locs cells slots Q (F0 m pc ls (.int x :: .int i :: .ref a :: rest)) := by
  obtain ⟨q0, hq⟩ := pl_ix ha he
  subst hi
  refine va_iast hexec hb hw.1.1 hw.2.1 hw.2.2.1 hw.2.2.2 q0 t0 hq ht (vp_in_nI hk hn) hdg (fun H1 locs1 h1 h2 h3 => ?_)
  rw [nI_clamp (by omega), pl_up hw.2.2.1 ha he hq] at h1 h2
  exact kk H1 locs1 ⟨hw.1, h1, h2, h3⟩
/-- an array of objects -/
theorem g_aald (hexec : p.tables.exec = Jvm.exec) (hb : c.code = cc) (hw : gw D cl tys L s H0 f H locs) (ha : a ∈ L) (t0 : Nat) {cA : ClassId} {C : String} {n : Nat} {z : Nat → Option Nat} (he : f a = .inl (cA, n, .inr (.inr (.inr (.inr z))))) (ht : tys[t0]? = some (cA, .object C)) {i : Int32} (k : Nat) (hi : i = nI k) (hk : k < n) (hn : n < 2 ^ 31) {b : Nat} (hz : z k = some b) (hdg : decode cc pc = .ok (.aaload, 1))
    (kk : W p l e R s m args below meth c H locs cells slots Q (F0 m (pc + 1) ls (.ref b :: rest))) : W p l e R s m args below meth c H locs cells slots Q (F0 m pc ls (.int i :: .ref a :: rest)) := by
  obtain ⟨q0, hq⟩ := pl_ix ha he
  subst hi
  refine va_aldq hexec hb hw.1.1 hw.2.1 q0 t0 hq ht (vp_in_nI hk hn) hdg ?_
  rw [nI_clamp (by omega), hz]
  exact kk
/-- calls of methods that make nothing -/
theorem g_pre {as : List Value} (hw : gw D cl tys L s H0 f H locs) : ∀ U : State, U.heap = H → s.WarmedH U.vm → mpre D cl tys L f as as.toArray U := fun U hU hW => ⟨rfl, xK.moved hW.alike hw.1, by rw [hU]; exact hw.2.1, hw.2.2.1⟩
theorem g_recv {b ci : Nat} {fs : List Value} {q : vw_C} (hw : gw D cl tys L s H0 f H locs) (hb : b ∈ L) (he : f b = .inr (ci, fs)) (hc : cl[ci]? = some q) : ∃ cellB : Cell, H[b]? = some cellB ∧ cellB.vm.isStatics = false ∧ s.vm.findClass q.1 = some cellB.cls := by
  obtain ⟨q0, hq⟩ := pl_ix hb he
  exact va_recv hw.1.1 hw.2.1 hc hq
theorem g_back {t : State} {f' : Nat → va_E} {H1 : Heap} {locs1 : List Loc} (ht : t.heap = H1) (hvm : s.vm.Alike t.vm) (hB : mst D cl tys L f' t) (hS : va_S (fun q => q ∈ L) H0 H1 locs1) : gw D cl tys L s H0 f' H1 locs1 := ⟨xK.moved hvm.symm hB.1, by rw [← ht]; exact hB.2.1, hB.2.2, hS⟩
theorem g_oi {a9 : Array Value} {post : Int32 → (Nat → va_E) → Prop} (hr : va_Run p l e R s m args below meth c H locs cells slots 0 0 (F0 m pc ls st0) rest (va_Qi post (mst D cl tys L) (fun q => q ∈ L) a9) (fun q => q ∈ L)) (hw : gw D cl tys L s H0 f H locs)
    (kk : ∀ (r : Int32) (f' : Nat → va_E) (H1 : Heap) (locs1 : List Loc), post r f' → gw D cl tys L s H0 f' H1 locs1 → W p l e R s m args below meth c H1 locs1 cells slots Q (F0 m (pc + 3) ls (.int r :: rest))) : W p l e R s m args below meth c H locs cells slots Q (F0 m pc ls st0) :=
  va_calli hr hw.2.2.2 (fun _ _ h => h) (fun _ h => h) (fun r f' t H1 locs1 ht hvm hp hB _ _ hS => kk r f' H1 locs1 hp (g_back ht hvm hB hS))
theorem g_ol {a9 : Array Value} {post : Int64 → (Nat → va_E) → Prop} (hr : va_Run p l e R s m args below meth c H locs cells slots 0 0 (F0 m pc ls st0) rest (va_Ql post (mst D cl tys L) (fun q => q ∈ L) a9) (fun q => q ∈ L)) (hw : gw D cl tys L s H0 f H locs)
    (kk : ∀ (r : Int64) (f' : Nat → va_E) (H1 : Heap) (locs1 : List Loc), post r f' → gw D cl tys L s H0 f' H1 locs1 → W p l e R s m args below meth c H1 locs1 cells slots Q (F0 m (pc + 3) ls (.long r :: rest))) : W p l e R s m args below meth c H locs cells slots Q (F0 m pc ls st0) :=
  va_calll hr hw.2.2.2 (fun _ _ h => h) (fun _ h => h) (fun r f' t H1 locs1 ht hvm hp hB _ _ hS => kk r f' H1 locs1 hp (g_back ht hvm hB hS))
theorem g_ov {a9 : Array Value} {post : (Nat → va_E) → Prop} (hr : va_Run p l e R s m args below meth c H locs cells slots 0 0 (F0 m pc ls st0) rest (va_Qv post (mst D cl tys L) (fun q => q ∈ L) a9) (fun q => q ∈ L)) (hw : gw D cl tys L s H0 f H locs)
    (kk : ∀ (f' : Nat → va_E) (H1 : Heap) (locs1 : List Loc), post f' → gw D cl tys L s H0 f' H1 locs1 → W p l e R s m args below meth c H1 locs1 cells slots Q (F0 m (pc + 3) ls rest)) : W p l e R s m args below meth c H locs cells slots Q (F0 m pc ls st0) :=
  va_callv hr hw.2.2.2 (fun _ _ h => h) (fun _ h => h) (fun f' t H1 locs1 ht hvm hp hB _ _ hS => kk f' H1 locs1 hp (g_back ht hvm hB hS))
theorem g_or {a9 : Array Value} {post : Nat → (Nat → va_E) → Prop} (hr : va_Run p l e R s m args below meth c H locs cells slots 0 0 (F0 m pc ls st0) rest (va_Qr (fun _ : Nat → va_E => True) (fun f' a t => mst D cl tys L f' t ∧ post a f') (fun q => q ∈ L) a9) (fun q => q ∈ L)) (hw : gw D cl tys L s H0 f H locs)
    (kk : ∀ (r : Nat) (f' : Nat → va_E) (H1 : Heap) (locs1 : List Loc), post r f' → gw D cl tys L s H0 f' H1 locs1 → W p l e R s m args below meth c H1 locs1 cells slots Q (F0 m (pc + 3) ls (.ref r :: rest))) : W p l e R s m args below meth c H locs cells slots Q (F0 m pc ls st0) :=
  va_callr hr hw.2.2.2 (fun _ _ h => h) (fun _ h => h) (fun f' r t H1 locs1 ht hvm _ hB _ _ hS => kk r f' H1 locs1 hB.2 (g_back ht hvm hB.1 hS))
/-- ends -/
theorem g_reti {post : Int32 → (Nat → va_E) → Prop} (hexec : p.tables.exec = Jvm.exec) (hb : c.code = cc) (hr : meth.sig.returnType = some .int) (hlocks : meth.locks = false) (hw : gw D cl tys L s s.heap f H locs) {v : Int32} (hp : post v f) (hdg : decode cc pc = .ok (.ireturn, 1)) :
    W p l e R s m args below meth c H locs cells slots (MQ below (va_Qi post (mst D cl tys L) (fun q => q ∈ L)) args s cells slots (fun q => q ∈ L)) (F0 m pc ls [.int v]) :=
  W.iret hexec hb hr (fun t ht hW => ⟨⟨v, f, rfl, hp, xK.moved hW.alike hw.1, by rw [ht]; exact hw.2.1, hw.2.2.1⟩, hw.2.2.2.F ht⟩) hw.2.2.2.2.2 hdg hlocks
theorem g_retz {post : Int32 → (Nat → va_E) → Prop} {ty : FieldType} (hexec : p.tables.exec = Jvm.exec) (hb : c.code = cc) (hr : meth.sig.returnType = some ty) (hlocks : meth.locks = false) (hw : gw D cl tys L s s.heap f H locs) {v : Int32} (hn : narrow ty (.int v) = .int v) (hp : post v f) (hdg : decode cc pc = .ok (.ireturn, 1)) :
    W p l e R s m args below meth c H locs cells slots (MQ below (va_Qi post (mst D cl tys L) (fun q => q ∈ L)) args s cells slots (fun q => q ∈ L)) (F0 m pc ls [.int v]) :=
  W.zret hexec hb hr hn (fun t ht hW => ⟨⟨v, f, rfl, hp, xK.moved hW.alike hw.1, by rw [ht]; exact hw.2.1, hw.2.2.1⟩, hw.2.2.2.F ht⟩) hw.2.2.2.2.2 hdg hlocks
theorem g_retl {post : Int64 → (Nat → va_E) → Prop} (hexec : p.tables.exec = Jvm.exec) (hb : c.code = cc) (hr : meth.sig.returnType = some .long) (hlocks : meth.locks = false) (hw : gw D cl tys L s s.heap f H locs) {v : Int64} (hp : post v f) (hdg : decode cc pc = .ok (.lreturn, 1)) :
    W p l e R s m args below meth c H locs cells slots (MQ below (va_Ql post (mst D cl tys L) (fun q => q ∈ L)) args s cells slots (fun q => q ∈ L)) (F0 m pc ls [.long v]) :=
  W.lret hexec hb hr (fun t ht hW => ⟨⟨v, f, rfl, hp, xK.moved hW.alike hw.1, by rw [ht]; exact hw.2.1, hw.2.2.1⟩, hw.2.2.2.F ht⟩) hw.2.2.2.2.2 hdg hlocks
theorem g_retv {post : (Nat → va_E) → Prop} (hexec : p.tables.exec = Jvm.exec) (hb : c.code = cc) (hr : meth.sig.returnType = none) (hlocks : meth.locks = false) (hw : gw D cl tys L s s.heap f H locs) (hp : post f) (hdg : decode cc pc = .ok (.return_, 1)) :
    W p l e R s m args below meth c H locs cells slots (MQ below (va_Qv post (mst D cl tys L) (fun q => q ∈ L)) args s cells slots (fun q => q ∈ L)) (F0 m pc ls []) :=
  W.vret hexec hb hr (fun t ht hW => ⟨⟨f, rfl, hp, xK.moved hW.alike hw.1, by rw [ht]; exact hw.2.1, hw.2.2.1⟩, hw.2.2.2.F ht⟩) hw.2.2.2.2.2 hdg hlocks
/-- a method's beginning -/
theorem g_start {v : Array Value} {as : List Value} (h : mpre D cl tys L f as v s) : v = as.toArray ∧ gw D cl tys L s s.heap f s.heap [] := ⟨h.1, h.2.1, h.2.2.1, h.2.2.2, va_S.rf⟩
end MEM

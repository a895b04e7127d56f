-- ===== what all walks share: classes, kinds of arrays, a method's beginning, calls =====
abbrev cls : List vw_C := [(R_A, F_A, 4), (R_Q, F_Q, 8), (R_P, F_P, 0), (R_T, F_T, 6), (R_W, F_W, 3), (R_M, F_M, 25), (R_N, F_N, 3)]
abbrev tyl (k : Nat → ClassId) : List (ClassId × FieldType) := [(k 0, .int), (k 1, .array .int), (k 2, .object "LineTables$Table"), (k 3, .object "LineTables$Whole"), (k 4, .object "LineTablesModel$Num"), (k 5, .boolean)]
abbrev rmN (k : Nat) : Room := { frames := k, cells := 0, slots := 0, locals := 30 * k }
theorem kn_of {L : List Nat} {f : Nat → va_E} {ws : va_W} (h : ∀ q ∈ ws, q.1 ∈ L ∧ f q.1 = q.2) (hn : (ws.map (fun q => q.1)).Nodup) : kn L f f ws := by
  refine ⟨fun k q hk => h q (List.mem_of_getElem? hk), fun i j x y hi hj hxy => ?_, fun _ _ => rfl⟩
  have h1 : (ws.map (fun q => q.1))[i]? = some x.1 := by rw [List.getElem?_map, hi]; rfl
  have h2 : (ws.map (fun q => q.1))[j]? = some x.1 := by rw [List.getElem?_map, hj, hxy]; rfl
  have hil := (List.getElem?_eq_some_iff.mp h1).1
  have hjl := (List.getElem?_eq_some_iff.mp h2).1
  exact (List.getElem_inj (h₀ := hil) (h₁ := hjl) hn).mp (by rw [(List.getElem?_eq_some_iff.mp h1).2, (List.getElem?_eq_some_iff.mp h2).2])
theorem kn_val {L : List Nat} {f0 f : Nat → va_E} {ws : va_W} (h : kn L f0 f ws) {q : Nat × va_E} (hq : q ∈ ws) : q.1 ∈ L ∧ f q.1 = q.2 := by
  obtain ⟨k, hk⟩ := List.getElem?_of_mem hq
  exact h.1 k q hk
theorem kn_nd {L : List Nat} {f0 f : Nat → va_E} {ws : va_W} (h : kn L f0 f ws) : (ws.map (fun q => q.1)).Nodup := by
  refine List.pairwise_iff_getElem.mpr (fun i j hi hj hij he => ?_)
  rw [List.length_map] at hi hj
  rw [List.getElem_map, List.getElem_map] at he
  have := h.2.1 i j ws[i] ws[j] (List.getElem?_eq_getElem hi) (List.getElem?_eq_getElem hj) he
  omega
theorem kn_off {L : List Nat} {f0 f : Nat → va_E} {ws : va_W} (h : kn L f0 f ws) {a : Nat} (ha : a ∉ ws.map (fun q => q.1)) : f a = f0 a :=
  h.2.2 a (fun k e hk => ha (List.mem_map.mpr ⟨(a, e), List.mem_of_getElem? hk, rfl⟩))
/-- behind a call that knew some of the cells -/
theorem kn_join {L : List Nat} {f0 f f' : Nat → va_E} {ws ws' wc : va_W} (hk : kn L f0 f ws) (h : kn L f f' wc) (hsub : ∀ q ∈ wc, q.1 ∈ ws.map (fun q => q.1)) (ha : ws'.map (fun q => q.1) = ws.map (fun q => q.1)) (hv : ∀ q ∈ ws', f' q.1 = q.2) : kn L f0 f' ws' := by
  have hnd := kn_nd hk
  refine ⟨fun k q hq => ⟨?_, hv q (List.mem_of_getElem? hq)⟩, fun i j x y hi hj hxy => ?_, fun a h9 => ?_⟩
  · have h1 : q.1 ∈ ws'.map (fun q => q.1) := List.mem_map.mpr ⟨q, List.mem_of_getElem? hq, rfl⟩
    rw [ha] at h1
    obtain ⟨q2, h2, h3⟩ := List.mem_map.mp h1
    rw [← h3]
    exact (kn_val hk h2).1
  · have h1 : (ws'.map (fun q => q.1))[i]? = some x.1 := by rw [List.getElem?_map, hi]; rfl
    have h2 : (ws'.map (fun q => q.1))[j]? = some x.1 := by rw [List.getElem?_map, hj, hxy]; rfl
    have hil := (List.getElem?_eq_some_iff.mp h1).1
    have hjl := (List.getElem?_eq_some_iff.mp h2).1
    exact (List.getElem_inj (h₀ := hil) (h₁ := hjl) (by rw [ha]; exact hnd)).mp (by rw [(List.getElem?_eq_some_iff.mp h1).2, (List.getElem?_eq_some_iff.mp h2).2])
  · have h1 : a ∉ ws.map (fun q => q.1) := fun hm => by
      rw [← ha] at hm
      obtain ⟨q, hq, e⟩ := List.mem_map.mp hm
      obtain ⟨k, hk⟩ := List.getElem?_of_mem hq
      exact h9 k q.2 (by rw [hk, ← e])
    have h2 : a ∉ wc.map (fun q => q.1) := fun hm => by
      obtain ⟨q, hq, e⟩ := List.mem_map.mp hm
      exact h1 (by rw [← e]; exact hsub q hq)
    rw [kn_off h h2, kn_off hk h1]
theorem kn_trans {L : List Nat} {f0 f f' : Nat → va_E} {ws ws' : va_W} (hk : kn L f0 f ws) (h : kn L f f' ws') (ha : ws'.map (fun q => q.1) = ws.map (fun q => q.1)) : kn L f0 f' ws' :=
  kn_join hk h (fun q hq => by rw [← ha]; exact List.mem_map.mpr ⟨q, hq, rfl⟩) ha (fun q hq => (kn_val h hq).2)
/-- some of the known cells -/
theorem kn_sub {L : List Nat} {f0 f : Nat → va_E} {ws ws' : va_W} (h : kn L f0 f ws) (is : List Nat) (hn : va_nd is = true) (hs : is.map (fun i => ws[i]?) = ws'.map some) : kn L f f ws' := by
  refine ⟨fun k q hk => ?_, (va_D.sub (A := fun _ => True) ⟨h.2.1, fun _ _ _ => trivial⟩ is hn hs).1, fun _ _ => rfl⟩
  have h1 : (is.map (fun i => ws[i]?))[k]? = some (some q) := by rw [hs, List.getElem?_map, hk]; rfl
  rw [List.getElem?_map] at h1
  cases hi : is[k]? with
  | none => rw [hi] at h1; cases h1
  | some i => rw [hi] at h1; exact h.1 i q (Option.some.inj h1)
section BASE
variable {p : Program} {l : Launch} {e : Env} {R : Room} {s : State} {m : MethodId} {args : Array Value} {below : List Frame} {meth : Method} {c : Code} {H : Heap} {locs : List Loc} {cells slots : Nat} {Q : State → Prop}
variable {cc : ByteArray} {pc nL : Nat} {ls : Array Slot} {rest st0 : List Value} {D : va_G} {cl : List vw_C} {tys : List (ClassId × FieldType)} {H0 : Heap} {L : List Nat} {f : Nat → va_E} {own : String}
theorem l_top {x y : Int32} (h : x = y) (k : W p l e R s m args below meth c H locs cells slots Q (F0 m pc ls (.int y :: rest))) : W p l e R s m args below meth c H locs cells slots Q (F0 m pc ls (.int x :: rest)) := h ▸ k
theorem l_topl {x y : Int64} (h : x = y) (k : W p l e R s m args below meth c H locs cells slots Q (F0 m pc ls (.long y :: rest))) : W p l e R s m args below meth c H locs cells slots Q (F0 m pc ls (.long x :: rest)) := h ▸ k
/-- a method that makes nothing, from its beginning -/
theorem mk_met {y : MethodName} {n : Nat} {ret : Option FieldType} {rm : Room} {as : List Value} {Qc : Array Value → State → Outcome → State → Prop} {free : Addr → Prop} (hy : plainName y.cls = true) (hlen : (lg_sl as).length ≤ n)
    (body : ∀ (p : Program) (e : Env) (s : State) (m : MethodId) (below : List Frame) (meth : Method) (c : Code) (ls : Array Slot), CallFix p m c cc n s as.toArray G y.cls → meth.sig.returnType = ret → meth.locks = false → gw D cl tys L s s.heap f s.heap [] → lv_has ls n (lv_args 0 as) →
      W p l e rm s m as.toArray below meth c s.heap [] 0 0 (MQ below Qc as.toArray s 0 0 free) (F0 m 0 ls [])) : Met l y (Cond.code y cc n ret :: G) rm (mpre D cl tys L f as) Qc 0 0 free := by
  refine Met.ofW (cc := cc) (maxL := n) (ret := ret) hy rfl ?_
  intro p e s m args below meth c s₁ B hml hv
  obtain ⟨rfl, hw⟩ := g_start hv
  have hts := atoms_spec (ws := Cond.code y cc n ret :: G) B.pre
  have hown : s.vm.findClass y.cls = some m.cls := findClass_of_methodNamed B.named
  rw [lg_entry_eq]
  exact body p e s m below meth c _ ⟨B.exec, B.bytes, hml, hown, fun w h => hts w (List.mem_cons_of_mem _ h)⟩ B.returns B.notSynchronized hw (lv_entry as hlen)
theorem goodC {own C : String} {i : Nat} {y : MethodName} {c' : ByteArray} {n' : Nat} {r' : Option FieldType} (h1 : Cond.methodLink own i y ∈ G) (h2 : Cond.instanceMethod y ∈ G) (h3 : Cond.selects C y y ∈ G) (h4 : Cond.initialized C ∈ G) (h5 : Cond.code y c' n' r' ∈ G) : GoodIn G (wsV own i C y (Cond.code y c' n' r' :: G)) := goodG (fun w hw => by
  unfold wsV at hw
  rcases List.mem_append.mp hw with h | h
  · simp only [List.mem_cons, List.not_mem_nil, or_false] at h
    rcases h with rfl | rfl | rfl | rfl <;> assumption
  · rcases List.mem_cons.mp h with rfl | h
    · exact h5
    · exact h)
theorem goodS {own : String} {i : Nat} {y : MethodName} {c' : ByteArray} {n' : Nat} {r' : Option FieldType} (h1 : Cond.methodLink own i y ∈ G) (h2 : Cond.static y ∈ G) (h4 : Cond.initialized own ∈ G) (h5 : Cond.code y c' n' r' ∈ G) : GoodIn G (wsS own i y (Cond.code y c' n' r' :: G)) := goodG (fun w hw => by
  unfold wsS at hw
  rcases List.mem_append.mp hw with h | h
  · simp only [List.mem_cons, List.not_mem_nil, or_false] at h
    rcases h with rfl | rfl | rfl <;> assumption
  · rcases List.mem_cons.mp h with rfl | h
    · exact h5
    · exact h)
/-- invokevirtual of a method that makes nothing -/
theorem c_V {y : MethodName} {c' : ByteArray} {n' np index ci : Nat} {r' : Option FieldType} {rm : Room} {b : Nat} {As : List Value} {Qc : Array Value → State → Outcome → State → Prop} {free : Addr → Prop} {fs : List Value} {C : String} {T : u_T} {N : Nat} (S : CallFix p m c cc nL s args G own)
    (hM : Met l y (Cond.code y c' n' r' :: G) rm (mpre D cl tys L f (.ref b :: As)) Qc 0 0 free) (hw : gw D cl tys L s H0 f H locs) (hbL : b ∈ L) (he : f b = .inr (ci, fs)) (hc : cl[ci]? = some (C, T, N))
    (h1 : Cond.methodLink own index y ∈ G) (h2 : Cond.instanceMethod y ∈ G) (h3 : Cond.selects C y y ∈ G) (h4 : Cond.initialized C ∈ G) (h5 : Cond.code y c' n' r' ∈ G)
    (hd : y.cls = C ∧ y.cls ≠ "java/lang/invoke/MethodHandle" ∧ y.cls ≠ "java/lang/invoke/VarHandle" ∧ (parseMethodDescriptor y.desc).map (fun d => d.parameters.length) = some np) (hn : As.length = np)
    (hrm : rm.cells = 0 ∧ rm.slots = 0 ∧ rm.frames + 1 ≤ R.frames ∧ 8 + (n' + 11) + rm.locals ≤ R.locals) (hls : ls.size = nL) (hst : st0 = As.reverse ++ .ref b :: rest) (hW : (rest.map fun v => v.category).sum ≤ 8) (hdg : decode cc pc = .ok (.invokevirtual index, 3)) (hf : cells ≤ R.cells ∧ slots ≤ R.slots) :
    va_Run p l e R s m args below meth c H locs cells slots 0 0 (F0 m pc ls st0) rest (Qc (Value.ref b :: As).toArray) free :=
  va_runV S hM (cwV np S.2.2.2.2 (goodC h1 h2 h3 h4 h5) rfl hrm.1 hrm.2.1 hd hrm.2.2) ⟨mpre_blind, g_recv hw hbL he hc, g_pre hw⟩ rfl hn hls hst (lv_room hW) hdg hf
/-- invokestatic of a method of the same class that makes nothing -/
theorem c_S {y : MethodName} {c' : ByteArray} {n' np index : Nat} {r' : Option FieldType} {rm : Room} {As : List Value} {Qc : Array Value → State → Outcome → State → Prop} {free : Addr → Prop} (S : CallFix p m c cc nL s args G own)
    (hM : Met l y (Cond.code y c' n' r' :: G) rm (mpre D cl tys L f As) Qc 0 0 free) (hw : gw D cl tys L s H0 f H locs)
    (h1 : Cond.methodLink own index y ∈ G) (h2 : Cond.static y ∈ G) (h4 : Cond.initialized own ∈ G) (h5 : Cond.code y c' n' r' ∈ G)
    (hd : y.cls = own ∧ y.cls ≠ "java/lang/invoke/MethodHandle" ∧ y.cls ≠ "java/lang/invoke/VarHandle" ∧ (parseMethodDescriptor y.desc).map (fun d => d.parameters.length) = some np) (hn : As.length = np)
    (hrm : rm.cells = 0 ∧ rm.slots = 0 ∧ rm.frames + 1 ≤ R.frames ∧ 8 + (n' + 11) + rm.locals ≤ R.locals) (hls : ls.size = nL) (hst : st0 = As.reverse ++ rest) (hW : (rest.map fun v => v.category).sum ≤ 8) (hdg : decode cc pc = .ok (.invokestatic index, 3)) (hf : cells ≤ R.cells ∧ slots ≤ R.slots) :
    va_Run p l e R s m args below meth c H locs cells slots 0 0 (F0 m pc ls st0) rest (Qc As.toArray) free :=
  va_runS S hM (cwS np S.2.2.2.2 (goodS h1 h2 h4 h5) rfl hrm.1 hrm.2.1 hd hrm.2.2) ⟨mpre_blind, g_pre hw⟩ rfl hn hls hst (lv_room hW) hdg hf
/-- a JDK's method that makes nothing, from its beginning -/
theorem mk_metF {y : MethodName} {n : Nat} {ret : Option FieldType} {rm : Room} {as : List Value} {Qc : Array Value → State → Outcome → State → Prop} {free : Addr → Prop} (hy : plainFor y = true) (hlen : (lg_sl as).length ≤ n)
    (body : ∀ (p : Program) (e : Env) (s : State) (m : MethodId) (below : List Frame) (meth : Method) (c : Code) (ls : Array Slot), CallFix p m c cc n s as.toArray G y.cls → meth.sig.returnType = ret → meth.locks = false → gw D cl tys L s s.heap f s.heap [] → lv_has ls n (lv_args 0 as) →
      W p l e rm s m as.toArray below meth c s.heap [] 0 0 (MQ below Qc as.toArray s 0 0 free) (F0 m 0 ls [])) : Met l y (Cond.code y cc n ret :: G) rm (mpre D cl tys L f as) Qc 0 0 free := by
  refine va_MetF (cc := cc) (maxL := n) (ret := ret) hy rfl ?_
  intro p e s m args below meth c s₁ B hml hv
  obtain ⟨rfl, hw⟩ := g_start hv
  have hts := atoms_spec (ws := Cond.code y cc n ret :: G) B.pre
  have hown : s.vm.findClass y.cls = some m.cls := findClass_of_methodNamed B.named
  rw [lg_entry_eq]
  exact body p e s m below meth c _ ⟨B.exec, B.bytes, hml, hown, fun w h => hts w (List.mem_cons_of_mem _ h)⟩ B.returns B.notSynchronized hw (lv_entry as hlen)
theorem goodX {own : String} {i : Nat} {y : MethodName} {c' : ByteArray} {n' : Nat} {r' : Option FieldType} (h1 : Cond.methodLink own i y ∈ G) (h2 : Cond.static y ∈ G) (h4 : Cond.initialized y.cls ∈ G) (h5 : Cond.code y c' n' r' ∈ G) : GoodIn G (va_wsS own i y (Cond.code y c' n' r' :: G)) := goodG (fun w hw => by
  unfold va_wsS at hw
  rcases List.mem_append.mp hw with h | h
  · simp only [List.mem_cons, List.not_mem_nil, or_false] at h
    rcases h with rfl | rfl | rfl <;> assumption
  · rcases List.mem_cons.mp h with rfl | h
    · exact h5
    · exact h)
/-- invokestatic of a method of any class that makes nothing -/
theorem c_X {y : MethodName} {c' : ByteArray} {n' np index : Nat} {r' : Option FieldType} {rm : Room} {As : List Value} {Qc : Array Value → State → Outcome → State → Prop} {free : Addr → Prop} (S : CallFix p m c cc nL s args G own)
    (hM : Met l y (Cond.code y c' n' r' :: G) rm (mpre D cl tys L f As) Qc 0 0 free) (hw : gw D cl tys L s H0 f H locs)
    (h1 : Cond.methodLink own index y ∈ G) (h2 : Cond.static y ∈ G) (h4 : Cond.initialized y.cls ∈ G) (h5 : Cond.code y c' n' r' ∈ G)
    (hd : y.cls ≠ "java/lang/invoke/MethodHandle" ∧ y.cls ≠ "java/lang/invoke/VarHandle" ∧ (parseMethodDescriptor y.desc).map (fun d => d.parameters.length) = some np) (hn : As.length = np)
    (hrm : rm.cells = 0 ∧ rm.slots = 0 ∧ rm.frames + 1 ≤ R.frames ∧ 8 + (n' + 11) + rm.locals ≤ R.locals) (hls : ls.size = nL) (hst : st0 = As.reverse ++ rest) (hW : (rest.map fun v => v.category).sum ≤ 8) (hdg : decode cc pc = .ok (.invokestatic index, 3)) (hf : cells ≤ R.cells ∧ slots ≤ R.slots) :
    va_Run p l e R s m args below meth c H locs cells slots 0 0 (F0 m pc ls st0) rest (Qc As.toArray) free :=
  va_runS S hM (va_cwS np S.2.2.2.2 (goodX h1 h2 h4 h5) rfl hrm.1 hrm.2.1 hd hrm.2.2) ⟨mpre_blind, g_pre hw⟩ rfl hn hls hst (lv_room hW) hdg hf
end BASE
theorem st_arraycopy : Cond.static arraycopyName ∈ G := st_X225
-- numbers: digits in arrays, whole numbers as ints and longs
def B30 : Nat := 1073741824
def nD (d : Nat → Nat) : Nat → Int32 := fun i => nI (d i)
theorem nD_upd (d : Nat → Nat) (k v : Nat) : upd (nD d) k (nI v) = nD (va_up d k v) := by
  funext j
  by_cases h : j = k
  · subst h
    show upd (nD d) j (nI v) j = nI (va_up d j v j)
    rw [pk_us, va_up_self]
  · show upd (nD d) k (nI v) j = nI (va_up d k v j)
    rw [pk_un h, va_up_ne d v h]
    rfl
theorem ii1 (a : Nat) : nI a + Int32.ofInt 1 = nI (a + 1) := nI_1 a
theorem nI_m1 (n : Nat) (h : 0 < n) : nI n - 1 = nI (n - 1) := by
  obtain ⟨k, rfl⟩ : ∃ k, n = k + 1 := ⟨n - 1, by omega⟩
  exact nI_pred k

-- ===== an array of arrays of ints, made by one instruction =====
/-- the outer array at h, when i of its rows stand; a row -/
def mg_o (c : ClassId) (N h i : Nat) : Cell := arrV c N (fun j => if j < i then .ref (h + 1 + j) else .null)
def mg_r (d : ClassId) (M : Nat) : Cell := arrV d M (fun _ => .int 0)
theorem mg_os (c : ClassId) (N h i : Nat) : (mg_o c N h i).setSlot i (.ref (h + 1 + i)) = mg_o c N h (i + 1) := by
  unfold mg_o
  rw [arrV_store]
  congr 1
  funext j
  unfold updV
  by_cases e : j = i
  · rw [if_pos e, if_pos (by omega), e]
  · rw [if_neg e]
    show (if j < i then Value.ref (h + 1 + j) else Value.null) = _
    by_cases h2 : j < i
    · rw [if_pos h2, if_pos (by omega)]
    · rw [if_neg h2, if_neg (by omega)]
theorem mg_osz (c : ClassId) (N h i : Nat) : (mg_o c N h i).slots.size = N := arrV_size _ _ _
theorem mg_rsz (d : ClassId) (M : Nat) : (mg_r d M).slots.size = M := arrV_size _ _ _
def mg (s : State) (c d : ClassId) (N M : Nat) : Nat → State
  | 0 => s.pushCell (mg_o c N s.heap.size 0)
  | i + 1 => ((mg s c d N M i).pushCell (mg_r d M)).setCell s.heap.size (mg_o c N s.heap.size (i + 1))
theorem mg_top (s : State) (g : JFrame) (c d : ClassId) (N M : Nat) : ∀ i, mg (s.setTop g) c d N M i = (mg s c d N M i).setTop g
  | 0 => rfl
  | i + 1 => by
    show ((mg (s.setTop g) c d N M i).pushCell (mg_r d M)).setCell s.heap.size (mg_o c N s.heap.size (i + 1)) = _
    rw [mg_top s g c d N M i]; rfl
theorem mg_ok (s : State) (c d : ClassId) (N M : Nat) : ∀ i, (mg s c d N M i).vm = s.vm ∧ (mg s c d N M i).slotsUsed = s.slotsUsed + N + i * M ∧ (mg s c d N M i).heap.size = s.heap.size + 1 + i ∧ (mg s c d N M i).heap[s.heap.size]? = some (mg_o c N s.heap.size i) ∧ (∀ a, a < s.heap.size → (mg s c d N M i).heap[a]? = s.heap[a]?) ∧ ∀ j, j < i → (mg s c d N M i).heap[s.heap.size + 1 + j]? = some (mg_r d M)
  | 0 => by
    have e : (mg s c d N M 0).heap = s.heap.push (mg_o c N s.heap.size 0) := rfl
    refine ⟨rfl, ?_, ?_, ?_, fun a ha => ?_, fun j hj => absurd hj (Nat.not_lt_zero j)⟩
    · show s.slotsUsed + (mg_o c N s.heap.size 0).slots.size = _
      rw [mg_osz]; omega
    · rw [e, Array.size_push]
    · rw [e, Array.getElem?_push_size]
    · rw [e, Array.getElem?_push, if_neg (by omega)]
  | i + 1 => by
    obtain ⟨h1, h2, h3, h4, h5, h6⟩ := mg_ok s c d N M i
    have e : (mg s c d N M (i + 1)).heap = ((mg s c d N M i).heap.push (mg_r d M)).setIfInBounds s.heap.size (mg_o c N s.heap.size (i + 1)) := rfl
    have sz : ((mg s c d N M i).heap.push (mg_r d M)).size = s.heap.size + 1 + i + 1 := by rw [Array.size_push, h3]
    refine ⟨h1, ?_, ?_, ?_, fun a ha => ?_, fun j hj => ?_⟩
    · show (mg s c d N M i).slotsUsed + (mg_r d M).slots.size = _
      rw [mg_rsz, h2, Nat.succ_mul]; omega
    · rw [e, Array.size_setIfInBounds, sz]; omega
    · rw [e, Array.getElem?_setIfInBounds, if_pos rfl, if_pos (by omega)]
    · rw [e, Array.getElem?_setIfInBounds, if_neg (by omega), Array.getElem?_push, if_neg (by omega)]
      exact h5 a ha
    · rw [e, Array.getElem?_setIfInBounds, if_neg (by omega), Array.getElem?_push]
      by_cases ej : j = i
      · rw [if_pos (by omega)]
      · rw [if_neg (by omega)]; exact h6 j (by omega)
section MG
variable {p : Program} {l : Launch} {e : Env} {R : Room} {s : State} {m : MethodId} {args : Array Value} {below : List Frame} {meth : Method} {c : Code} {H : Heap} {locs : List Loc} {cells slots : Nat} {Q : State → Prop}
theorem mg_st {T : State} (X : Stand p l e R s m args below meth c T locs cells slots) (cA d : ClassId) (N M : Nat) : ∀ i, Stand p l e R s m args below meth c (mg T cA d N M i) locs (cells + 1 + i) (slots + N + i * M)
  | 0 => by
    have h := X.pushed (mg_o cA N T.heap.size 0)
    rw [mg_osz] at h
    rw [Nat.zero_mul]; exact h
  | i + 1 => by
    have h := (mg_st X cA d N M i).pushed (mg_r d M)
    obtain ⟨-, -, h3, h4, -, -⟩ := mg_ok T cA d N M i
    have hc : ((mg T cA d N M i).pushCell (mg_r d M)).heap[T.heap.size]? = some (mg_o cA N T.heap.size i) := by
      show ((mg T cA d N M i).heap.push (mg_r d M))[T.heap.size]? = _
      rw [Array.getElem?_push, if_neg (by omega)]; exact h4
    have h2 := h.stored hc i (.ref (T.heap.size + 1 + i))
    rw [mg_os, mg_rsz] at h2
    have h5 := h2.dropFresh (fun x hx => by
      rw [List.mem_singleton] at hx
      rw [hx]; exact X.heapGrown)
    rw [Nat.succ_mul, ← Nat.add_assoc, ← Nat.add_assoc]
    exact h5
theorem mg_wp {E : CtlPost} {dd : Bool} {acts : List Action} {s : State} {cA d cc : ClassId} {k kd : Class} {n k2 : Int32} {N M : Nat} (hN : n.toNatClampNeg = N) (hM : k2.toNatClampNeg = M) (hk : s.vm.classes[cA]? = some k) (hkind : k.kind = .array d (.array .int)) (hkd : s.vm.classes[d]? = some kd) (hkindd : kd.kind = .array cc .int) (hn : ¬ n < 0) (hm : ¬ k2 < 0)
    (b1 : ¬ N > e.platform.arrayLengthLimit) (b2 : ¬ N * 4 > e.platform.maxHeapBytes) (b3 : ¬ M > e.platform.arrayLengthLimit) (b4 : ¬ M * 4 > e.platform.maxHeapBytes) (hc : s.heap.size + 1 + N ≤ e.platform.maxCells) (hs : s.slotsUsed + N + N * M ≤ e.platform.maxSlots)
    {Q : Addr → Pre} (hq : ∀ d' acts', Q s.heap.size d' acts' (mg s cA d N M N)) : wp (multianewarray.make cA [n, k2]) Q E e dd acts s := by
  subst hN
  subst hM
  rw [multianewarray.make]
  simp only [wp_bind', W.ite, hn, if_false, wp_pure', W.theClass, hk, hkind, Option.some.injEq, exists_eq_left']
  refine W.newArray_of hk hkind b1 b2 (by omega) (by have := Nat.zero_le (n.toNatClampNeg * k2.toNatClampNeg); omega) rfl (fun acts1 => ?_)
  have hfind : ([k2].find? (· < 0)) = none := by simp [hm]
  simp only [hfind]
  rw [ite_self, wp_bind', Std.Legacy.Range.forIn_eq_forIn_range']
  have hsz : ([:n.toNatClampNeg] : Std.Legacy.Range).size = n.toNatClampNeg := by simp [Std.Legacy.Range.size]
  rw [hsz]
  refine wp_forIn_inv (fun rest s' => ∃ i, i ≤ n.toNatClampNeg ∧ rest = List.range' i (n.toNatClampNeg - i) ∧ s' = mg s cA d n.toNatClampNeg k2.toNatClampNeg i) _ _ ⟨0, Nat.zero_le _, rfl, ?_⟩ ?_ ?_
  · show s.pushCell _ = s.pushCell _
    congr 1
    exact (arrV_new cA _ .null).trans (by unfold mg_o; congr 1)
  · rintro x rest s' d' acts' Q' ⟨i, hi, hl, rfl⟩ hnext
    have hlt : i < n.toNatClampNeg := Nat.lt_of_not_le (fun q => by
      rw [show n.toNatClampNeg - i = 0 by omega] at hl
      cases hl)
    rw [show n.toNatClampNeg - i = (n.toNatClampNeg - (i + 1)) + 1 by omega, List.range'_succ] at hl
    obtain ⟨rfl, hrest⟩ := List.cons.inj hl
    obtain ⟨h1, h2, h3, h4, -, -⟩ := mg_ok s cA d n.toNatClampNeg k2.toNatClampNeg x
    have hmul : x * k2.toNatClampNeg + k2.toNatClampNeg ≤ n.toNatClampNeg * k2.toNatClampNeg := by
      rw [← Nat.succ_mul]; exact Nat.mul_le_mul_right _ hlt
    simp only [wp_bind']
    rw [multianewarray.make]
    simp only [wp_bind', W.ite, hm, if_false, wp_pure', W.theClass, h1, hkd, hkindd, Option.some.injEq, exists_eq_left']
    refine W.newArray_of (by rw [h1]; exact hkd) hkindd b3 b4 (by rw [h3]; omega) (by rw [h2]; omega) rfl (fun acts2 => ?_)
    have hcell : ((mg s cA d n.toNatClampNeg k2.toNatClampNeg x).pushCell { cls := d, slots := Array.replicate k2.toNatClampNeg (defaultValue .int) }).heap[s.heap.size]? = some (mg_o cA n.toNatClampNeg s.heap.size x) := by
      show ((mg s cA d n.toNatClampNeg k2.toNatClampNeg x).heap.push _)[s.heap.size]? = _
      rw [Array.getElem?_push, if_neg (by omega)]; exact h4
    simp only [wp_bind', W.writeLoc, wp_pure']
    refine ⟨_, hcell, by show (VmData.none : VmData) ≠ .unknown; simp, by rw [mg_osz]; exact hlt, ?_, hnext _ _ _ ⟨x + 1, hlt, hrest, ?_⟩⟩
    · show State.fitsSlot _ cA .none x _ = true
      simp [State.fitsSlot, State.slotType?, h1, hk, hkind]
      rfl
    · show State.setCell _ _ _ = State.setCell _ _ _
      rw [h3, mg_os]
      congr 2
      exact arrV_new d _ _
  · rintro s' d' acts' ⟨i, hi, hl, rfl⟩
    have hiN : i = n.toNatClampNeg := by
      rcases Nat.lt_or_ge i n.toNatClampNeg with h | h
      · rw [show n.toNatClampNeg - i = (n.toNatClampNeg - (i + 1)) + 1 by omega, List.range'_succ] at hl; cases hl
      · omega
    subst hiN
    simp only [wp_pure']
    exact hq _ _
/-- the instruction -/
theorem mg_row (hexec : p.tables.exec = Jvm.exec) {cc : ByteArray} (hb : c.code = cc) {own : String} {index : Nat} (hown : s.vm.findClass own = some m.cls) (hclink : (Cond.classLink own index "[[I").before args s = true) (hover : (Cond.arrayOver (.array .int)).before args s = true) (harr : (Cond.arrayClass .int).before args s = true)
    {g : JFrame} (hg : g.method = m) (hdg : decode cc g.pc = .ok (.multianewarray index 2, 4)) {n k2 : Int32} {N M : Nat} (hN : n.toNatClampNeg = N) (hM : k2.toNatClampNeg = M) {rest : List Value} (hstack : g.stack = .int k2 :: .int n :: rest) (hn : ¬ n < 0) (hm : ¬ k2 < 0) (hb1 : N * 4 ≤ 536870912) (hb2 : M * 4 ≤ 536870912) (hcells : cells + (1 + N) ≤ R.cells) (hslots : slots + (N + N * M) ≤ R.slots)
    (kk : ∀ (cA d : ClassId) (H1 : Heap), s.vm.findClass "[[I" = some cA → s.vm.findClass "[I" = some d → H1.size = H.size + 1 + N → (∀ q, q < H.size → H1[q]? = H[q]?) → H1[H.size]? = some (mg_o cA N H.size N) → (∀ j, j < N → H1[H.size + 1 + j]? = some (mg_r d M)) → W p l e R s m args below meth c H1 locs (cells + 1 + N) (slots + N + N * M) Q { g with pc := g.pc + 4, stack := .ref H.size :: rest }) : W p l e R s m args below meth c H locs cells slots Q g := by
  intro T hT X
  subst hT
  subst hb
  subst hg
  have hpl : e.platform.magicAccessors = ({} : Platform).magicAccessors := by rw [X.admits.platform]
  obtain ⟨d, cA, kA, hd, -, hkA, hkindA, hnA⟩ := arrayOverA_spec hover
  obtain ⟨d', kd, cc, hd', hkd, hkindd⟩ := Cond.arrayClass_spec harr
  have ed : d' = d := Option.some.inj (hd'.symm.trans hd)
  subst ed
  obtain ⟨c0, hc0, hcl⟩ := Cond.classLink_spec hown hclink e.platform hpl
  cases hnA.symm.trans hc0
  obtain ⟨hg₁, hwarm, hready⟩ := State.classEntry (e := e) X.warmed hcl
  generalize T.vm.noted g.method.cls index (.cls cA) = vm1 at hg₁ hwarm hready
  obtain ⟨kA1, hkA1, heA⟩ := hwarm.alike.2.2 _ _ hkA
  obtain ⟨kd1, hkd1, hed⟩ := hwarm.alike.2.2 _ _ hkd
  have hkindA1 : kA1.kind = .array d' (.array .int) := by rw [heA]; exact hkindA
  have hkindd1 : kd1.kind = .array cc .int := by rw [hed]; exact hkindd
  obtain ⟨r1, r2⟩ := X.roomAbove hcells hslots
  have XF := mg_st (X.noted hwarm) cA d' N M N
  obtain ⟨-, -, z3, z4, z5, z6⟩ := mg_ok (T.setVm vm1) cA d' N M N
  obtain ⟨t, a1, a2⟩ := kk cA d' _ hnA hd z3 z5 z4 z6 (mg (T.setVm vm1) cA d' N M N) rfl XF
  refine ⟨t, ?_, a2⟩
  jvm_step X.here [hexec, hdg]
  simp only [multianewarray.sem, wp_bind', W.resolveClassAt_links (State.method?_setTop g X.here.top) hg₁]
  rw [W.popN, if_neg (by decide)]
  refine ⟨g, State.topJava?_setTop' (s := T.setVm vm1) g X.here.top, [.int n, .int k2], rest, rfl, hstack, ?_⟩
  simp only [List.mapM_cons, List.mapM_nil, wp_bind', wp_pure']
  refine mg_wp (k := kA1) (kd := kd1) (d := d') (cc := cc) hN hM hkA1 hkindA1 hkd1 hkindd1 hn hm (by rw [Launch.admits_arrayLengthLimit X.admits]; omega) (by rw [Launch.admits_maxHeapBytes X.admits]; omega) (by rw [Launch.admits_arrayLengthLimit X.admits]; omega) (by rw [Launch.admits_maxHeapBytes X.admits]; omega) (by show T.heap.size + 1 + N ≤ _; omega) (by show T.slotsUsed + N + N * M ≤ _; omega) (fun d2 acts2 => ?_)
  have eS : ((T.setTop g).setVm vm1).setTop { g with stack := rest } = (T.setVm vm1).setTop { g with stack := rest } := by
    show ((T.setVm vm1).setTop g).setTop _ = _
    rw [State.setTop_setTop]
  rw [eS, mg_top]
  simp only [wp_bind', W.mark, W.pushRef, State.topJava?_setTop' _ XF.here.top, Option.some.injEq, exists_eq_left', State.setTop_setTop, State.heap_setTop]
  intro acts3
  simp [jvm, XF.here.top]
  exact a1
end MG

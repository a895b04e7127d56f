-- ===== worlds that grow: all cells from an address on =====
/-- what constructors need of the tables beside the words for every caller -/
def aoC (U : State) : Prop := (va_AO "LineTables$Table" U ∧ va_AO "LineTables$Whole" U ∧ va_AO "LineTablesModel$Num" U) ∧ va_Nw (.methodLinkNest R_Q 3 y_K_init "LineTables") U ∧ va_Nw (.methodLinkNest R_A 29 y_P_init "LineTables") U ∧ va_Nw (.methodLinkNest R_P 1 y_K_init "LineTables") U ∧ va_Nw (.methodLinkNest R_M 40 y_N_init "LineTablesModel") U
theorem aoC.warm {s U : State} (hW : s.WarmedH U.vm) (h : aoC s) : aoC U := ⟨⟨va_AO.moved hW.alike h.1.1, va_AO.moved hW.alike h.1.2.1, va_AO.moved hW.alike h.1.2.2⟩, va_Nw.warmM hW h.2.1, va_Nw.warmM hW h.2.2.1, va_Nw.warmM hW h.2.2.2.1, va_Nw.warmM hW h.2.2.2.2⟩
theorem aoC.same {u U : State} (e : u.vm = U.vm) (h : aoC u) : aoC U := by
  have ha : u.vm.Alike U.vm := by rw [e]; exact Vm.Alike.refl _
  exact ⟨⟨va_AO.moved ha h.1.1, va_AO.moved ha h.1.2.1, va_AO.moved ha h.1.2.2⟩, va_Nw.same rfl e h.2.1, va_Nw.same rfl e h.2.2.1, va_Nw.same rfl e h.2.2.2.1, va_Nw.same rfl e h.2.2.2.2⟩
theorem rg_mem {x0 n q : Nat} : q ∈ List.range' x0 n ↔ x0 ≤ q ∧ q < x0 + n := by simp [List.mem_range'_1]
theorem rg_D {A : Nat → Prop} {x0 n : Nat} {f : Nat → va_E} (hA : ∀ q, x0 ≤ q → q < x0 + n → A q) : va_D A (va_pl (List.range' x0 n) f) := by
  have key : ∀ (i : Nat) (x : Nat × va_E), (va_pl (List.range' x0 n) f)[i]? = some x → (List.range' x0 n)[i]? = some x.1 := fun i x hi => by
    unfold va_pl at hi
    rw [List.getElem?_map] at hi
    cases hq : (List.range' x0 n)[i]? with
    | none => rw [hq] at hi; cases hi
    | some a => rw [hq] at hi; cases hi; rfl
  refine ⟨fun i j x y hi hj e => ?_, fun i q hq => ?_⟩
  · have h1 := key i x hi
    have h2 := key j y hj
    rw [← e] at h2
    have hil := (List.getElem?_eq_some_iff.mp h1).1
    have hjl := (List.getElem?_eq_some_iff.mp h2).1
    exact (List.getElem_inj (h₀ := hil) (h₁ := hjl) List.nodup_range').mp (by rw [(List.getElem?_eq_some_iff.mp h1).2, (List.getElem?_eq_some_iff.mp h2).2])
  · have := rg_mem.mp (List.mem_of_getElem? (key i q hq))
    exact hA _ this.1 this.2
theorem rg_P {D : va_G} {cl : List vw_C} {x0 n : Nat} {f : Nat → va_E} {H : Heap} (h : ∀ q, x0 ≤ q → q < x0 + n → va_at D cl (q, f q) H) : va_P D cl (va_pl (List.range' x0 n) f) H := fun i q hq => by
  obtain ⟨a, ha, rfl⟩ := List.mem_map.mp (List.mem_of_getElem? hq)
  obtain ⟨h1, h2⟩ := rg_mem.mp ha
  exact h a h1 h2
theorem rg_of {D : va_G} {cl : List vw_C} {x0 n : Nat} {f : Nat → va_E} {H : Heap} (h : va_P D cl (va_pl (List.range' x0 n) f) H) : ∀ q, x0 ≤ q → q < x0 + n → va_at D cl (q, f q) H := fun q h1 h2 => by
  obtain ⟨i, hi⟩ := pl_ix (f := f) (rg_mem.mpr ⟨h1, h2⟩) rfl
  exact h i _ hi
def gR (D : va_G) (k : Nat → ClassId) (x0 n : Nat) (s : State) (f : Nat → va_E) (H : Heap) (locs : List Loc) : Prop := xK D cls (tyl k) s ∧ H.size = x0 + n ∧ (∀ q, x0 ≤ q → q < x0 + n → va_at D cls (q, f q) H) ∧ va_S (fun q => x0 ≤ q) s.heap H locs ∧ x0 ≤ s.heap.size
theorem gR.cg {D : va_G} {k : Nat → ClassId} {x0 n : Nat} {s : State} {f g : Nat → va_E} {H : Heap} {locs : List Loc} (h : gR D k x0 n s f H locs) (e : ∀ q, x0 ≤ q → q < x0 + n → f q = g q) : gR D k x0 n s g H locs := ⟨h.1, h.2.1, fun q h1 h2 => by rw [← e q h1 h2]; exact h.2.2.1 q h1 h2, h.2.2.2⟩
theorem at_q {D : va_G} {cl : List vw_C} {q n : Nat} {c : ClassId} {z z' : Nat → Option Nat} {H : Heap} (e : ∀ j, j < n → z j = z' j) (h : va_at D cl (q, .inl (c, n, .inr (.inr (.inr (.inr z))))) H) : va_at D cl (q, .inl (c, n, .inr (.inr (.inr (.inr z'))))) H := by
  have h1 : H[q]? = some (vp_cell c (n, .inr (.inr (.inr (.inr z))))) := h
  show H[q]? = some (vp_cell c (n, .inr (.inr (.inr (.inr z')))))
  rw [h1, vp_cell_q, vp_cell_q]
  unfold arrV
  congr 3
  funext j
  show va_rf (z j.val) = va_rf (z' j.val)
  rw [e j.val j.isLt]
/-- one part of a world below x, another from x on -/
def jn (f : Nat → va_E) (x : Nat) (g : Nat → va_E) : Nat → va_E := fun q => if q < x then f q else g q
theorem jn_lo {f g : Nat → va_E} {x q : Nat} (h : q < x) : jn f x g q = f q := if_pos h
theorem jn_hi {f g : Nat → va_E} {x q : Nat} (h : x ≤ q) : jn f x g q = g q := if_neg (by omega)
section RW
variable {p : Program} {l : Launch} {e : Env} {R : Room} {s : State} {m : MethodId} {args : Array Value} {below : List Frame} {meth : Method} {c : Code} {H : Heap} {locs : List Loc} {cells slots : Nat} {Q : State → Prop}
variable {cc : ByteArray} {pc : Nat} {ls : Array Slot} {rest : List Value} {D : va_G} {a : Nat} {k : Nat → ClassId} {x0 n : Nat} {f : Nat → va_E}
theorem r_get (hexec : p.tables.exec = Jvm.exec) (hb : c.code = cc) {own ref C : String} {T : u_T} {N ci index : Nat} (hG : ∀ w ∈ G, w.before args s = true) (hin : ∀ w ∈ u_ws C T N, w ∈ G) (hown : s.vm.findClass own = some m.cls) (hw : gR D k x0 n s f H locs) (ha : x0 ≤ a ∧ a < x0 + n) {fs : List Value} (he : f a = .inr (ci, fs)) (hc : cls[ci]? = some (C, T, N)) (j : Nat) (hj : j < N) (hlink : (Cond.fieldLink own index ref (T j).2.1 (T j).2.2.1).before args s = true) (hsame : ∀ x, s.fieldFound? (T j).1 (T j).2.1 (T j).2.2.1 = some x → s.fieldFound? ref (T j).2.1 (T j).2.2.1 = some x) {v : Value} (hv : fs[j]? = some v) (hdg : decode cc pc = .ok (.getfield index, 3))
    (kk : W p l e R s m args below meth c H locs cells slots Q (F0 m (pc + 3) ls (v :: rest))) : W p l e R s m args below meth c H locs cells slots Q (F0 m pc ls (.ref a :: rest)) := by
  obtain ⟨q0, hq⟩ := pl_ix (rg_mem.mpr ha) he
  exact va_get hexec hb hG hin hown hw.1.1 (rg_P hw.2.2.1) q0 hq hc j hj hlink hsame hv hdg kk
/-- how far the heap has grown -/
theorem r_sz {g : JFrame} (kk : H.size ≤ s.heap.size + cells → W p l e R s m args below meth c H locs cells slots Q g) : W p l e R s m args below meth c H locs cells slots Q g := fun T hT X => kk (by rw [← hT]; exact X.same.2.2.1) T hT X
theorem r_up {H1 : Heap} {locs1 : List Loc} {ev : va_E} {i : Nat} (hw : gR D k x0 n s f H locs) (ha : x0 ≤ a ∧ a < x0 + n) {e0 : va_E} (he : f a = e0) (hq : (va_pl (List.range' x0 n) f)[i]? = some (a, e0)) (hsz : H1.size ≤ x0 + n) (h1 : va_P D cls ((va_pl (List.range' x0 n) f).set i (a, ev)) H1) (h3 : va_S (fun q => x0 ≤ q) s.heap H1 locs1) : gR D k x0 n s (va_up f a ev) H1 locs1 := by
  rw [pl_up (rg_D (A := fun _ => True) (fun _ _ _ => trivial)) (rg_mem.mpr ha) he hq] at h1
  have h2 := (rg_of h1 (x0 + n - 1) (by omega) (by omega)).lt
  have h2 : x0 + n - 1 < H1.size := h2
  exact ⟨hw.1, by omega, rg_of h1, h3, hw.2.2.2.2⟩
theorem r_put (hexec : p.tables.exec = Jvm.exec) (hb : c.code = cc) {own ref C : String} {T : u_T} {N ci index : Nat} (hG : ∀ w ∈ G, w.before args s = true) (hin : ∀ w ∈ u_ws C T N, w ∈ G) (ty0 : Nat → FieldType) (hty : ∀ k, k < N → parseFieldDescriptor (T k).2.2.1 = some (ty0 k)) (hnm : ∀ a, a < N → ∀ b, b < N → a ≠ b → (T a).2.1 ≠ (T b).2.1) (hown : s.vm.findClass own = some m.cls) (hinit : meth.name = "<init>") (hw : gR D k x0 n s f H locs) (hcs : s.heap.size + cells = x0 + n) (ha : x0 ≤ a ∧ a < x0 + n) {fs : List Value} (he : f a = .inr (ci, fs)) (hc : cls[ci]? = some (C, T, N)) (j : Nat) (hj : j < N) (hlink : (Cond.fieldLink own index ref (T j).2.1 (T j).2.2.1).before args s = true) (hsame : ∀ x, s.fieldFound? (T j).1 (T j).2.1 (T j).2.2.1 = some x → s.fieldFound? ref (T j).2.1 (T j).2.2.1 = some x) (hdecl : (T j).1 = own) {ty : FieldType} {v : Value} (hd : parseFieldDescriptor (T j).2.2.1 = some ty) (hn : narrow ty v = v) (hfit : fits ty v = true) (hl : j < fs.length)
    (hdg : decode cc pc = .ok (.putfield index, 3)) (kk : ∀ (H1 : Heap) (locs1 : List Loc), gR D k x0 n s (va_up f a (.inr (ci, fs.set j v))) H1 locs1 → W p l e R s m args below meth c H1 locs1 cells slots Q (F0 m (pc + 3) ls rest)) : W p l e R s m args below meth c H locs cells slots Q (F0 m pc ls (v :: .ref a :: rest)) := by
  obtain ⟨q0, hq⟩ := pl_ix (rg_mem.mpr ha) he
  cases hfin : (T j).2.2.2 with
  | true => exact va_putF hexec hb hG hin ty0 hty hnm hown hw.1.1 (rg_P hw.2.2.1) (rg_D (fun q h _ => h)) hw.2.2.2.1 q0 hq hc j hj hlink hsame hfin hinit hdecl hd hn hfit hl hdg (fun H1 locs1 h1 h2 h3 => r_sz (fun hz => kk H1 locs1 (r_up hw ha he hq (by omega) h1 h3)))
  | false => exact va_put hexec hb hG hin ty0 hty hnm hown hw.1.1 (rg_P hw.2.2.1) (rg_D (fun q h _ => h)) hw.2.2.2.1 q0 hq hc j hj hlink hsame hfin hd hn hfit hl hdg (fun H1 locs1 h1 h2 h3 => r_sz (fun hz => kk H1 locs1 (r_up hw ha he hq (by omega) h1 h3)))
/-- an object put into an array -/
theorem r_aast (hexec : p.tables.exec = Jvm.exec) (hb : c.code = cc) (hw : gR D k x0 n s f H locs) (hcs : s.heap.size + cells = x0 + n) (ha : x0 ≤ a ∧ a < x0 + n) {v : Nat} (hv : x0 ≤ v ∧ v < x0 + n) (t0 ci : Nat) {cA : ClassId} {r : vw_C} {N : Nat} {vs : List Value} {z : Nat → Option Nat} (he : f a = .inl (cA, N, .inr (.inr (.inr (.inr z))))) (ht : (tyl k)[t0]? = some (cA, .object r.1)) (hev : f v = .inr (ci, vs)) (hc : cls[ci]? = some r) (i : Nat) (hi : i < N) (hN : N < 2 ^ 31) (hdg : decode cc pc = .ok (.aastore, 1))
    (kk : ∀ (H1 : Heap) (locs1 : List Loc), gR D k x0 n s (va_up f a (.inl (cA, N, .inr (.inr (.inr (.inr (va_up z i (some v)))))))) H1 locs1 → W p l e R s m args below meth c H1 locs1 cells slots Q (F0 m (pc + 1) ls rest)) : W p l e R s m args below meth c H locs cells slots Q (F0 m pc ls (.ref v :: .int (nI i) :: .ref a :: rest)) := by
  obtain ⟨q0, hq⟩ := pl_ix (rg_mem.mpr ha) he
  obtain ⟨q1, hq1⟩ := pl_ix (rg_mem.mpr hv) hev
  refine va_astq hexec hb hw.1.1 (rg_P hw.2.2.1) (rg_D (fun q h _ => h)) hw.2.2.2.1 q0 t0 q1 ci hq ht hq1 hc (vp_in_nI hi hN) hdg (fun H1 locs1 h1 h2 h3 => r_sz (fun hz => ?_))
  rw [nI_clamp (by omega)] at h1
  exact kk H1 locs1 (r_up hw ha he hq (by omega) h1 h3)
theorem r_grow {H1 : Heap} {N : Nat} {g : Nat → va_E} (hw : gR D k x0 n s f H locs) (hz : H1.size = H.size + N) (ho : ∀ q, q < H.size → H1[q]? = H[q]?) (hn : ∀ q, x0 + n ≤ q → q < x0 + n + N → va_at D cls (q, g q) H1) : gR D k x0 (n + N) s (jn f (x0 + n) g) H1 locs := by
  refine ⟨hw.1, by rw [hz, hw.2.1, Nat.add_assoc], fun q h1 h2 => ?_, ⟨Nat.le_trans hw.2.2.2.1.1 (by omega), fun q h1 h2 => (ho q (Nat.lt_of_lt_of_le h1 hw.2.2.2.1.1)).trans (hw.2.2.2.1.2.1 q h1 h2), hw.2.2.2.1.2.2⟩, hw.2.2.2.2⟩
  by_cases hq : q < x0 + n
  · rw [jn_lo hq]
    exact (hw.2.2.1 q h1 hq).kept (ho q (by rw [hw.2.1]; exact hq))
  · rw [jn_hi (by omega)]; exact hn q (by omega) (by omega)
theorem r_new (hexec : p.tables.exec = Jvm.exec) (hb : c.code = cc) {own C : String} {T : u_T} {N ci index : Nat} (hG : ∀ w ∈ G, w.before args s = true) (hin : ∀ w ∈ u_ws C T N, w ∈ G) (ty : Nat → FieldType) (hty : ∀ k, k < N → parseFieldDescriptor (T k).2.2.1 = some (ty k)) (hown : s.vm.findClass own = some m.cls) (hcl : (Cond.classLink own index C).before args s = true) (hinst : (Cond.instantiable C N).before args s = true) (hini : (Cond.initialized C).before args s = true) (hw : gR D k x0 n s f H locs) (hc : cls[ci]? = some (C, T, N)) (fs : List Value) (hfs : ∀ j, j < N → defaultValue (ty j) = vp_V fs j) (hcells : cells + 1 ≤ R.cells) (hslots : slots + N ≤ R.slots) (hdg : decode cc pc = .ok (.new index, 3))
    (kk : ∀ (H1 : Heap), gR D k x0 (n + 1) s (jn f (x0 + n) (fun _ => .inr (ci, fs))) H1 locs → W p l e R s m args below meth c H1 locs (cells + 1) (slots + N) Q (F0 m (pc + 3) ls (.ref (x0 + n) :: rest))) : W p l e R s m args below meth c H locs cells slots Q (F0 m pc ls rest) := by
  have hKn := hw.1.1.1 ci _ hc
  refine W.newcK hexec hb hown hcl hinst hini rfl hdg hcells hslots hKn.2.1 hw.2.1 fun H1 kC hkC e1 z1 o1 => ?_
  refine kk H1 (r_grow hw (by rw [hw.2.1]; exact z1) (fun q hq => o1 q (by rw [← hw.2.1]; exact hq)) (fun q h1 h2 => ?_))
  have eq : q = x0 + n := by omega
  subst eq
  exact ⟨_, hc, (u_born ty hG hin hKn hkC e1 hty).to hfs⟩
theorem r_newI (hexec : p.tables.exec = Jvm.exec) (hb : c.code = cc) (harr : (Cond.arrayClass .int).before args s = true) (hw : gR D k x0 n s f H locs) {v : Int32} (N : Nat) (hv : v = nI N) (hN : N < 2 ^ 27) (hcells : cells + 1 ≤ R.cells) (hslots : slots + N ≤ R.slots) (hdg : decode cc pc = .ok (.newarray .int, 2))
    (kk : ∀ (H1 : Heap), gR D k x0 (n + 1) s (jn f (x0 + n) (fun _ => .inl (k 0, N, .inl (fun _ => 0)))) H1 locs → W p l e R s m args below meth c H1 locs (cells + 1) (slots + N) Q (F0 m (pc + 2) ls (.ref (x0 + n) :: rest))) : W p l e R s m args below meth c H locs cells slots Q (F0 m pc ls (.int v :: rest)) := by
  subst hv
  refine va_newaK (atype := .int) (N := N) hexec hb harr rfl hdg rfl (nI_pos (by omega)) (nI_clamp (by omega)) (by show N * 4 ≤ 536870912; omega) hcells hslots hw.2.1 fun H1 cA e1 z1 o1 hAr hNm => ?_
  refine kk H1 (r_grow hw (by rw [hw.2.1]; exact z1) (fun q hq => o1 q (by rw [← hw.2.1]; exact hq)) (fun q h1 h2 => ?_))
  have eq : q = x0 + n := by omega
  subst eq
  have e2 : s.vm.findClass ("[" ++ FieldType.int.toString) = some (k 0) := (hw.1.1.2 0 _ rfl).2
  have ec : cA = k 0 := Option.some.inj (hNm.symm.trans e2)
  subst ec
  exact e1
theorem r_newZ (hexec : p.tables.exec = Jvm.exec) (hb : c.code = cc) (harr : (Cond.arrayClass .boolean).before args s = true) (hw : gR D k x0 n s f H locs) {v : Int32} (N : Nat) (hv : v = nI N) (hN : N < 2 ^ 27) (hcells : cells + 1 ≤ R.cells) (hslots : slots + N ≤ R.slots) (hdg : decode cc pc = .ok (.newarray .boolean, 2))
    (kk : ∀ (H1 : Heap), gR D k x0 (n + 1) s (jn f (x0 + n) (fun _ => .inl (k 5, N, .inl (fun _ => 0)))) H1 locs → W p l e R s m args below meth c H1 locs (cells + 1) (slots + N) Q (F0 m (pc + 2) ls (.ref (x0 + n) :: rest))) : W p l e R s m args below meth c H locs cells slots Q (F0 m pc ls (.int v :: rest)) := by
  subst hv
  refine va_newaK (atype := .boolean) (N := N) hexec hb harr rfl hdg rfl (nI_pos (by omega)) (nI_clamp (by omega)) (by show N * 1 ≤ 536870912; omega) hcells hslots hw.2.1 fun H1 cA e1 z1 o1 hAr hNm => ?_
  refine kk H1 (r_grow hw (by rw [hw.2.1]; exact z1) (fun q hq => o1 q (by rw [← hw.2.1]; exact hq)) (fun q h1 h2 => ?_))
  have eq : q = x0 + n := by omega
  subst eq
  have e2 : s.vm.findClass ("[" ++ FieldType.boolean.toString) = some (k 5) := (hw.1.1.2 5 _ rfl).2
  have ec : cA = k 5 := Option.some.inj (hNm.symm.trans e2)
  subst ec
  exact e1
theorem r_newq (hexec : p.tables.exec = Jvm.exec) (hb : c.code = cc) {own C : String} {index : Nat} (hown : s.vm.findClass own = some m.cls) (hclink : (Cond.classLink own index C).before args s = true) (hover : va_AO C s) (hw : gR D k x0 n s f H locs) (t0 : Nat) (ht : (tyl k)[t0]? = some (k t0, .object C)) {v : Int32} (N : Nat) (hv : v = nI N) (hN : N < 2 ^ 27) (hcells : cells + 1 ≤ R.cells) (hslots : slots + N ≤ R.slots) (hdg : decode cc pc = .ok (.anewarray index, 3))
    (kk : ∀ (H1 : Heap), gR D k x0 (n + 1) s (jn f (x0 + n) (fun _ => .inl (k t0, N, .inr (.inr (.inr (.inr (fun _ => none))))))) H1 locs → W p l e R s m args below meth c H1 locs (cells + 1) (slots + N) Q (F0 m (pc + 3) ls (.ref (x0 + n) :: rest))) : W p l e R s m args below meth c H locs cells slots Q (F0 m pc ls (.int v :: rest)) := by
  subst hv
  have hcl : (nI N).toNatClampNeg = N := nI_clamp (by omega)
  refine W.anew hexec hb hown hclink (va_AO.use hover) rfl hdg rfl (nI_pos (by omega)) (by rw [hcl]; omega) hcells (by rw [hcl]; exact hslots) fun cA kA comp f1 f2 f3 f4 => ?_
  rw [hcl, hw.2.1]
  refine W.eq (g2 := F0 m (pc + 3) ls (.ref (x0 + n) :: rest)) rfl ?_
  refine kk _ (r_grow hw (by rw [Array.size_push]) (fun q hq => by rw [Array.getElem?_push, if_neg (by omega)]) (fun q h1 h2 => ?_))
  have eq : q = x0 + n := by omega
  subst eq
  obtain ⟨kA', comp', -, -, -, e2⟩ := (hw.1.1.2 t0 _ ht).2
  have ec : cA = k t0 := Option.some.inj (f1.symm.trans e2)
  subst ec
  show (H.push _)[x0 + n]? = some (vp_cell _ _)
  rw [vp_cell_q, ← hw.2.1, Array.getElem?_push_size]
  exact congrArg some (arrV_new _ _ _)
theorem r_mna (hexec : p.tables.exec = Jvm.exec) (hb : c.code = cc) {own : String} {index : Nat} (hown : s.vm.findClass own = some m.cls) (hclink : (Cond.classLink own index "[[I").before args s = true) (harr : (Cond.arrayClass .int).before args s = true) (hw : gR D k x0 n s f H locs) (hcells : cells + 13 ≤ R.cells) (hslots : slots + 876 ≤ R.slots) (hdg : decode cc pc = .ok (.multianewarray index 2, 4))
    (kk : ∀ (H1 : Heap), gR D k x0 (n + 13) s (jn f (x0 + n) (fun q => if q = x0 + n then .inl (k 1, 12, .inr (.inr (.inr (.inr (fun i => some (x0 + n + 1 + i)))))) else .inl (k 0, 72, .inl (fun _ => 0)))) H1 locs → W p l e R s m args below meth c H1 locs (cells + 13) (slots + 876) Q (F0 m (pc + 4) ls (.ref (x0 + n) :: rest))) : W p l e R s m args below meth c H locs cells slots Q (F0 m pc ls (.int 72 :: .int 12 :: rest)) := by
  refine mg_row (N := 12) (M := 72) hexec hb hown hclink hw.1.2.1 harr rfl hdg (by decide) (by decide) rfl (by decide) (by decide) (by omega) (by omega) (by omega) (by omega) fun cA d H1 n1 n2 z1 o1 e1 e2 => ?_
  rw [hw.2.1] at z1 e1 e2 ⊢
  refine W.eq (g2 := F0 m (pc + 4) ls (.ref (x0 + n) :: rest)) rfl ?_
  refine kk H1 (r_grow hw (by rw [hw.2.1]; omega) o1 (fun q h1 h2 => ?_))
  have f1 : s.vm.findClass "[[I" = some (k 1) := (hw.1.1.2 1 _ rfl).2
  have f2 : s.vm.findClass "[I" = some (k 0) := (hw.1.1.2 0 _ rfl).2
  have ec : cA = k 1 := Option.some.inj (n1.symm.trans f1)
  have ed : d = k 0 := Option.some.inj (n2.symm.trans f2)
  subst ec
  subst ed
  by_cases eq : q = x0 + n
  · subst eq
    rw [if_pos rfl]
    show H1[x0 + n]? = some (vp_cell _ _)
    rw [e1, vp_cell_q]
    unfold mg_o arrV
    congr 3
    funext j
    show (if j.val < 12 then Value.ref (x0 + n + 1 + j.val) else Value.null) = va_rf (some (x0 + n + 1 + j.val))
    rw [if_pos j.isLt]; rfl
  · rw [if_neg eq]
    obtain ⟨j, hj⟩ : ∃ j, q = x0 + n + 1 + j := ⟨q - (x0 + n + 1), by omega⟩
    subst hj
    exact e2 j (by omega)
end RW
-- ===== contracts of constructors =====
abbrev rmK (fr mc ms : Nat) : Room := { frames := fr, cells := mc, slots := ms, locals := 30 * fr }
def cpre (D : va_G) (k : Nat → ClassId) (b : Nat) (e0 : va_E) : Array Value → State → Prop := fun v U => v = ([.ref b] : List Value).toArray ∧ U.heap.size = b + 1 ∧ xK D cls (tyl k) U ∧ aoC U ∧ va_at D cls (b, e0) U.heap
def cpost (D : va_G) (b nF : Nat) (F : Nat → va_E) : Array Value → State → Outcome → State → Prop := va_Qv (fun _ : Unit => True) (fun _ t => t.heap.size = b + nF ∧ ∀ q, b ≤ q → q < b + nF → va_at D cls (q, F q) t.heap) (fun q => b ≤ q)
abbrev Mk (l : Launch) (y : MethodName) (cy : ByteArray) (nl fr mc ms : Nat) (D : va_G) (k : Nat → ClassId) (b : Nat) (e0 : va_E) (nF : Nat) (F : Nat → va_E) : Prop := Met l y (Cond.code y cy nl none :: G) (rmK fr mc ms) (cpre D k b e0) (cpost D b nF F) mc ms (fun q => b ≤ q)
theorem cpre_blind {D : va_G} {k : Nat → ClassId} {b : Nat} {e0 : va_E} : FrameBlind (cpre D k b e0) := fun a U g mk q => ⟨q.1, q.2.1, xK.moved (u := U) (U := U.calling g mk a) (Vm.Alike.refl U.vm) q.2.2.1, aoC.same rfl q.2.2.2.1, q.2.2.2.2⟩
section CT
variable {p : Program} {l : Launch} {e : Env} {R : Room} {s : State} {m : MethodId} {args : Array Value} {below : List Frame} {meth : Method} {c : Code} {H : Heap} {locs : List Loc} {cells slots : Nat} {Q : State → Prop}
variable {cc : ByteArray} {pc nL : Nat} {ls : Array Slot} {rest : List Value} {D : va_G} {k : Nat → ClassId} {x0 n : Nat} {f : Nat → va_E} {own : String}
variable {y : MethodName} {cy : ByteArray} {nl fr mc ms nF index : Nat} {F : Nat → va_E} {e0 : va_E}
theorem r_back (hw : gR D k x0 (n + 1) s f H locs) (hr : va_Run p l e R s m args below meth c H locs cells slots mc ms (F0 m pc ls (.ref (x0 + n) :: rest)) rest (cpost D (x0 + n) nF F ([.ref (x0 + n)] : List Value).toArray) (fun q => x0 + n ≤ q))
    (kk : ∀ (H1 : Heap) (locs1 : List Loc), gR D k x0 (n + nF) s (jn f (x0 + n) F) H1 locs1 → W p l e R s m args below meth c H1 locs1 (cells + mc) (slots + ms) Q (F0 m (pc + 3) ls rest)) : W p l e R s m args below meth c H locs cells slots Q (F0 m pc ls (.ref (x0 + n) :: rest)) := by
  refine va_callv hr hw.2.2.2.1 (fun q _ h => Nat.le_trans (Nat.le_add_right _ _) h) (fun q h => Nat.le_trans (Nat.le_add_right _ _) h) (fun u t H1 locs1 ht hvm _ hB hz hk hS => kk H1 locs1 ?_)
  obtain ⟨b1, b2⟩ := hB
  rw [ht] at b1 b2
  refine ⟨hw.1, by rw [b1, Nat.add_assoc], fun q h1 h2 => ?_, hS, hw.2.2.2.2⟩
  by_cases hq : q < x0 + n
  · rw [jn_lo hq]
    exact (hw.2.2.1 q h1 (by omega)).kept (hk q (by rw [hw.2.1]; omega) (by omega))
  · rw [jn_hi (by omega)]; exact b2 q (by omega) (by omega)
theorem goodK {y : MethodName} {cy : ByteArray} {nl : Nat} (h5 : Cond.code y cy nl none ∈ G) : GoodIn G (Cond.code y cy nl none :: G) := goodG (fun w hw => by
  rcases List.mem_cons.mp hw with h | h
  · rw [h]; exact h5
  · exact h)
theorem r_ctor (S : CallFix p m c cc nL s args G own) (hM : Mk l y cy nl fr mc ms D k (x0 + n) e0 nF F) (hw : gR D k x0 (n + 1) s f H locs) (hC : aoC s) (he : f (x0 + n) = e0) (h1 : Cond.methodLink own index y ∈ G) (h2 : Cond.instanceMethod y ∈ G) (h4 : Cond.initialized y.cls ∈ G) (h5 : Cond.code y cy nl none ∈ G) (hy : y.name = "<init>")
    (hd : y.cls ≠ "java/lang/invoke/MethodHandle" ∧ y.cls ≠ "java/lang/invoke/VarHandle" ∧ (parseMethodDescriptor y.desc).map (fun d => d.parameters.length) = some 0) (hrm : fr + 1 ≤ R.frames ∧ 8 + (nl + 11) + 30 * fr ≤ R.locals) (hls : ls.size = nL) (hW : (rest.map fun v => v.category).sum ≤ 8) (hdg : decode cc pc = .ok (.invokespecial index, 3)) (hf : cells + mc ≤ R.cells ∧ slots + ms ≤ R.slots)
    (kk : ∀ (H1 : Heap) (locs1 : List Loc), gR D k x0 (n + nF) s (jn f (x0 + n) F) H1 locs1 → W p l e R s m args below meth c H1 locs1 (cells + mc) (slots + ms) Q (F0 m (pc + 3) ls rest)) : W p l e R s m args below meth c H locs cells slots Q (F0 m pc ls (.ref (x0 + n) :: rest)) :=
  r_back hw (va_runI (As := []) S hM (cwI 0 S.2.2.2.2 (goodK h5) rfl rfl rfl (S.2.2.2.2 _ h4) (S.2.2.2.2 _ h1) (S.2.2.2.2 _ h2) hy hd hrm) ⟨cpre_blind, fun U hU hW => ⟨rfl, by rw [hU, hw.2.1, Nat.add_assoc], xK.moved hW.alike hw.1, hC.warm hW, by rw [hU, ← he]; exact hw.2.2.1 _ (by omega) (by omega)⟩⟩ rfl rfl hls rfl (lv_room hW) hdg hf) kk
theorem r_ctorN {host : String} (S : CallFix p m c cc nL s args G own) (hM : Mk l y cy nl fr mc ms D k (x0 + n) e0 nF F) (hw : gR D k x0 (n + 1) s f H locs) (hC : aoC s) (he : f (x0 + n) = e0) (h1 : va_Nw (.methodLinkNest own index y host) s) (h2 : Cond.instanceMethod y ∈ G) (h4 : Cond.initialized y.cls ∈ G) (h5 : Cond.code y cy nl none ∈ G) (hy : y.name = "<init>")
    (hd : y.cls ≠ "java/lang/invoke/MethodHandle" ∧ y.cls ≠ "java/lang/invoke/VarHandle" ∧ (parseMethodDescriptor y.desc).map (fun d => d.parameters.length) = some 0) (hrm : fr + 1 ≤ R.frames ∧ 8 + (nl + 11) + 30 * fr ≤ R.locals) (hls : ls.size = nL) (hW : (rest.map fun v => v.category).sum ≤ 8) (hdg : decode cc pc = .ok (.invokespecial index, 3)) (hf : cells + mc ≤ R.cells ∧ slots + ms ≤ R.slots)
    (kk : ∀ (H1 : Heap) (locs1 : List Loc), gR D k x0 (n + nF) s (jn f (x0 + n) F) H1 locs1 → W p l e R s m args below meth c H1 locs1 (cells + mc) (slots + ms) Q (F0 m (pc + 3) ls rest)) : W p l e R s m args below meth c H locs cells slots Q (F0 m pc ls (.ref (x0 + n) :: rest)) :=
  r_back hw (va_runIN (As := []) S hM ⟨va_cnB 0 S.2.2.2.2 (goodK h5) rfl rfl rfl h1 (S.2.2.2.2 _ h4) hd hrm, hy, S.2.2.2.2 _ h2⟩ ⟨cpre_blind, fun U hU hW => ⟨rfl, by rw [hU, hw.2.1, Nat.add_assoc], xK.moved hW.alike hw.1, hC.warm hW, by rw [hU, ← he]; exact hw.2.2.1 _ (by omega) (by omega)⟩⟩ rfl rfl hls rfl (lv_room hW) hdg hf) kk
theorem mk_ctor {b : Nat} (hy : plainName y.cls = true) (hyn : y.name = "<init>") (hlen : 1 ≤ nl)
    (body : ∀ (p : Program) (e : Env) (s : State) (m : MethodId) (below : List Frame) (meth : Method) (c : Code) (ls : Array Slot), CallFix p m c cy nl s ([.ref b] : List Value).toArray G y.cls → meth.sig.returnType = none → meth.locks = false → meth.name = "<init>" → aoC s → s.heap.size = b + 1 → gR D k b 1 s (fun _ => e0) s.heap [] → lv_has ls nl [(0, .ref b)] →
      W p l e (rmK fr mc ms) s m ([.ref b] : List Value).toArray below meth c s.heap [] 0 0 (MQ below (cpost D b nF F) ([.ref b] : List Value).toArray s mc ms (fun q => b ≤ q)) (F0 m 0 ls [])) : Mk l y cy nl fr mc ms D k b e0 nF F := by
  refine Met.ofW (cc := cy) (maxL := nl) (ret := none) hy rfl ?_
  intro p e s m args below meth c s₁ B hml hv
  obtain ⟨rfl, hsz, hK, hC, hat⟩ := hv
  have hts := atoms_spec (ws := Cond.code y cy nl none :: G) B.pre
  have hown : s.vm.findClass y.cls = some m.cls := findClass_of_methodNamed B.named
  rw [lg_entry_eq]
  refine body p e s m below meth c _ ⟨B.exec, B.bytes, hml, hown, fun w h => hts w (List.mem_cons_of_mem _ h)⟩ B.returns B.notSynchronized ((name_of_methodNamed B.named B.method).1.trans hyn) hC hsz ⟨hK, hsz, fun q h1 h2 => ?_, va_S.rf, by omega⟩ (lv_entry [.ref b] hlen)
  have eq : q = b := by omega
  subst eq
  exact hat
theorem r_ret {b : Nat} (hexec : p.tables.exec = Jvm.exec) (hb : c.code = cc) (hr : meth.sig.returnType = none) (hlocks : meth.locks = false) (hw : gR D k b nF s f H locs) (he : ∀ q, b ≤ q → q < b + nF → va_at D cls (q, f q) H → va_at D cls (q, F q) H) (hc : cells ≤ mc) (hs : slots ≤ ms) (hdg : decode cc pc = .ok (.return_, 1)) : W p l e R s m args below meth c H locs cells slots (MQ below (cpost D b nF F) args s mc ms (fun q => b ≤ q)) (F0 m pc ls []) := by
  refine W.widen hc hs ?_
  exact W.vret hexec hb hr (fun t ht hW => ⟨⟨(), rfl, trivial, by rw [ht]; exact hw.2.1, fun q h1 h2 => by rw [ht]; exact he q h1 h2 (hw.2.2.1 q h1 h2)⟩, hw.2.2.2.1.F ht⟩) hw.2.2.2.1.2.2 hdg hlocks
end CT

-- ===== known cells: a list of addresses and what they hold; all other cells of the pool are as at f0 =====
def kn (L : List Nat) (f0 f : Nat → va_E) (ws : va_W) : Prop := (∀ (k : Nat) (q : Nat × va_E), ws[k]? = some q → q.1 ∈ L ∧ f q.1 = q.2) ∧ (∀ (i j : Nat) (x y : Nat × va_E), ws[i]? = some x → ws[j]? = some y → x.1 = y.1 → i = j) ∧ ∀ q : Nat, (∀ (k : Nat) (e : va_E), ws[k]? ≠ some (q, e)) → f q = f0 q
theorem kn_nil (L : List Nat) (f : Nat → va_E) : kn L f f [] := ⟨(fun k q h => by cases h), (fun i j x y h => by cases h), (fun _ _ => rfl)⟩
theorem kn_put {L : List Nat} {f0 f : Nat → va_E} {ws : va_W} (h : kn L f0 f ws) {i a : Nat} {e0 e : va_E} (hi : ws[i]? = some (a, e0)) : kn L f0 (va_up f a e) (ws.set i (a, e)) := by
  have hil : i < ws.length := (List.getElem?_eq_some_iff.mp hi).1
  have key : ∀ (k : Nat) (q : Nat × va_E), (ws.set i (a, e))[k]? = some q → (k = i ∧ q = (a, e)) ∨ (k ≠ i ∧ ws[k]? = some q) := by
    intro k q hk
    by_cases hki : k = i
    · subst hki
      rw [List.getElem?_set_self hil] at hk
      exact Or.inl ⟨rfl, (Option.some.inj hk).symm⟩
    · rw [List.getElem?_set_ne (Ne.symm hki)] at hk
      exact Or.inr ⟨hki, hk⟩
  have back : ∀ (k : Nat) (q : Nat × va_E), (ws.set i (a, e))[k]? = some q → ∃ e1, ws[k]? = some (q.1, e1) := by
    intro k q hk
    rcases key k q hk with ⟨h1, h2⟩ | ⟨_, h2⟩
    · subst h1; subst h2; exact ⟨e0, hi⟩
    · exact ⟨q.2, h2⟩
  refine ⟨fun k q hk => ?_, fun k j x y hk hj hxy => ?_, fun q hq => ?_⟩
  · rcases key k q hk with ⟨h1, h2⟩ | ⟨h1, h2⟩
    · subst h2
      exact ⟨(h.1 i _ hi).1, va_up_self f a e⟩
    · refine ⟨(h.1 k q h2).1, ?_⟩
      rw [va_up_ne f e (fun ha => h1 (h.2.1 k i q (a, e0) h2 hi ha))]
      exact (h.1 k q h2).2
  · obtain ⟨e1, h1⟩ := back k x hk
    obtain ⟨e2, h2⟩ := back j y hj
    exact h.2.1 k j (x.1, e1) (y.1, e2) h1 h2 hxy
  · have hqa : q ≠ a := fun ha => by
      subst ha
      exact hq i e (List.getElem?_set_self hil)
    rw [va_up_ne f e hqa]
    refine h.2.2 q (fun k e1 hk => ?_)
    by_cases hki : k = i
    · subst hki
      rw [hi] at hk
      exact hqa (congrArg Prod.fst (Option.some.inj hk)).symm
    · exact hq k e1 (by rw [List.getElem?_set_ne (Ne.symm hki)]; exact hk)
/-- one cell more is looked at -/
theorem kn_add {L : List Nat} {f0 f : Nat → va_E} {ws : va_W} (h : kn L f0 f ws) {a : Nat} {e : va_E} (ha : a ∈ L) (he : f0 a = e) (hn : ∀ (k : Nat) (q : Nat × va_E), ws[k]? = some q → q.1 ≠ a) : kn L f0 f (ws ++ [(a, e)]) := by
  have hfa : f a = f0 a := h.2.2 a (fun k e1 hk => hn k _ hk rfl)
  have key : ∀ (k : Nat) (q : Nat × va_E), (ws ++ [(a, e)])[k]? = some q → (k < ws.length ∧ ws[k]? = some q) ∨ (k = ws.length ∧ q = (a, e)) := by
    intro k q hk
    by_cases hl : k < ws.length
    · rw [List.getElem?_append_left hl] at hk
      exact Or.inl ⟨hl, hk⟩
    · rw [List.getElem?_append_right (by omega)] at hk
      have h0 : k - ws.length < 1 := (List.getElem?_eq_some_iff.mp hk).1
      rw [show k - ws.length = 0 by omega] at hk
      exact Or.inr ⟨by omega, (Option.some.inj hk).symm⟩
  refine ⟨fun k q hk => ?_, fun i j x y hi hj hxy => ?_, fun q hq => ?_⟩
  · rcases key k q hk with ⟨_, h2⟩ | ⟨_, h2⟩
    · exact h.1 k q h2
    · subst h2
      exact ⟨ha, hfa.trans he⟩
  · rcases key i x hi with ⟨h1, h2⟩ | ⟨h1, h2⟩ <;> rcases key j y hj with ⟨h3, h4⟩ | ⟨h3, h4⟩
    · exact h.2.1 i j x y h2 h4 hxy
    · exact absurd (by rw [hxy, h4]) (hn i x h2)
    · exact absurd (by rw [← hxy, h2]) (hn j y h4)
    · omega
  · refine h.2.2 q (fun k e1 hk => hq k e1 ?_)
    rw [List.getElem?_append_left (List.getElem?_eq_some_iff.mp hk).1]
    exact hk
/-- behind a call: it knew the cells at the places is, and left them as wc' -/
def kset : va_W → List Nat → va_W → va_W
  | ws, i :: is, x :: xs => kset (ws.set i x) is xs
  | ws, _, _ => ws
def kw (D : va_G) (cl : List vw_C) (tys : List (ClassId × FieldType)) (L : List Nat) (s : State) (H0 : Heap) (f0 : Nat → va_E) (ws : va_W) (H : Heap) (locs : List Loc) : Prop := ∃ f : Nat → va_E, gw D cl tys L s H0 f H locs ∧ kn L f0 f ws
section KMEM
variable {p : Program} {l : Launch} {e : Env} {R : Room} {s : State} {m : MethodId} {args : Array Value} {below : List Frame} {meth : Method} {c : Code} {H : Heap} {locs : List Loc} {cells slots : Nat} {Q : State → Prop}
variable {cc : ByteArray} {pc : Nat} {ls : Array Slot} {rest st0 : List Value} {D : va_G} {cl : List vw_C} {a : Nat} {tys : List (ClassId × FieldType)} {H0 : Heap} {L : List Nat} {f0 : Nat → va_E} {ws : va_W}
theorem k_add (hw : kw D cl tys L s H0 f0 ws H locs) {ea : va_E} (ha : a ∈ L) (he : f0 a = ea) (hn : ∀ (k : Nat) (q : Nat × va_E), ws[k]? = some q → q.1 ≠ a) : kw D cl tys L s H0 f0 (ws ++ [(a, ea)]) H locs := by
  obtain ⟨f, h1, h2⟩ := hw
  exact ⟨f, h1, kn_add h2 ha he hn⟩
theorem k_get (hexec : p.tables.exec = Jvm.exec) (hb : c.code = cc) {own ref C : String} {T : u_T} {N ci index : Nat} {Ts : List Cond} (hts : ∀ w ∈ Ts, w.before args s = true) (hin : ∀ w ∈ u_ws C T N, w ∈ Ts) (hown : s.vm.findClass own = some m.cls) (hw : kw D cl tys L s H0 f0 ws H locs) (i : Nat) {fs : List Value} (hi : ws[i]? = some (a, .inr (ci, fs))) (hc : cl[ci]? = some (C, T, N)) (k : Nat) (hk : k < N) (hlink : (Cond.fieldLink own index ref (T k).2.1 (T k).2.2.1).before args s = true) (hsame : ∀ x, s.fieldFound? (T k).1 (T k).2.1 (T k).2.2.1 = some x → s.fieldFound? ref (T k).2.1 (T k).2.2.1 = some x) {v : Value} (hv : fs[k]? = some v) (hdg : decode cc pc = .ok (.getfield index, 3))
    (kk : W p l e R s m args below meth c H locs cells slots Q (F0 m (pc + 3) ls (v :: rest))) : W p l e R s m args below meth c H locs cells slots Q (F0 m pc ls (.ref a :: rest)) := by
  obtain ⟨f, h1, h2⟩ := hw
  obtain ⟨g1, g2⟩ := h2.1 i _ hi
  exact g_get hexec hb hts hin hown h1 g1 g2 hc k hk hlink hsame hv hdg kk
theorem k_put (hexec : p.tables.exec = Jvm.exec) (hb : c.code = cc) {own ref C : String} {T : u_T} {N ci index : Nat} {Ts : List Cond} (hts : ∀ w ∈ Ts, w.before args s = true) (hin : ∀ w ∈ u_ws C T N, w ∈ Ts) (ty0 : Nat → FieldType) (hty : ∀ k, k < N → parseFieldDescriptor (T k).2.2.1 = some (ty0 k)) (hnm : ∀ a, a < N → ∀ b, b < N → a ≠ b → (T a).2.1 ≠ (T b).2.1) (hown : s.vm.findClass own = some m.cls) (hw : kw D cl tys L s H0 f0 ws H locs) (i : Nat) {fs : List Value} (hi : ws[i]? = some (a, .inr (ci, fs))) (hc : cl[ci]? = some (C, T, N)) (k : Nat) (hk : k < N) (hlink : (Cond.fieldLink own index ref (T k).2.1 (T k).2.2.1).before args s = true) (hsame : ∀ x, s.fieldFound? (T k).1 (T k).2.1 (T k).2.2.1 = some x → s.fieldFound? ref (T k).2.1 (T k).2.2.1 = some x) (hfin : (T k).2.2.2 = false) {ty : FieldType} {v : Value} (hd : parseFieldDescriptor (T k).2.2.1 = some ty) (hn : narrow ty v = v) (hfit : fits ty v = true) (hl : k < fs.length)
    (hdg : decode cc pc = .ok (.putfield index, 3)) (kk : ∀ (H1 : Heap) (locs1 : List Loc), kw D cl tys L s H0 f0 (ws.set i (a, .inr (ci, fs.set k v))) H1 locs1 → W p l e R s m args below meth c H1 locs1 cells slots Q (F0 m (pc + 3) ls rest)) : W p l e R s m args below meth c H locs cells slots Q (F0 m pc ls (v :: .ref a :: rest)) := by
  obtain ⟨f, h1, h2⟩ := hw
  obtain ⟨g1, g2⟩ := h2.1 i _ hi
  exact g_put hexec hb hts hin ty0 hty hnm hown h1 g1 g2 hc k hk hlink hsame hfin hd hn hfit hl hdg (fun H1 locs1 h => kk H1 locs1 ⟨_, h, kn_put h2 hi⟩)
theorem k_iald (hexec : p.tables.exec = Jvm.exec) (hb : c.code = cc) (hw : kw D cl tys L s H0 f0 ws H locs) (q0 t0 : Nat) {cA : ClassId} {n : Nat} {z : Nat → Int32} (hi : ws[q0]? = some (a, .inl (cA, n, .inl z))) (ht : tys[t0]? = some (cA, .int)) {i : Int32} (k : Nat) (hik : i = nI k) (hk : k < n) (hn : n < 2 ^ 31) (hdg : decode cc pc = .ok (.iaload, 1))
    (kk : W p l e R s m args below meth c H locs cells slots Q (F0 m (pc + 1) ls (.int (z k) :: rest))) : W p l e R s m args below meth c H locs cells slots Q (F0 m pc ls (.int i :: .ref a :: rest)) := by
  obtain ⟨f, h1, h2⟩ := hw
  obtain ⟨g1, g2⟩ := h2.1 q0 _ hi
  exact g_iald hexec hb h1 g1 t0 g2 ht k hik hk hn hdg kk
theorem k_iast (hexec : p.tables.exec = Jvm.exec) (hb : c.code = cc) (hw : kw D cl tys L s H0 f0 ws H locs) (q0 t0 : Nat) {cA : ClassId} {n : Nat} {z : Nat → Int32} (hi : ws[q0]? = some (a, .inl (cA, n, .inl z))) (ht : tys[t0]? = some (cA, .int)) {i x : Int32} (k : Nat) (hik : i = nI k) (hk : k < n) (hn : n < 2 ^ 31) (hdg : decode cc pc = .ok (.iastore, 1))
    (kk : ∀ (H1 : Heap) (locs1 : List Loc), kw D cl tys L s H0 f0 (ws.set q0 (a, .inl (cA, n, .inl (upd z k x)))) H1 locs1 → W p l e R s m args below meth c H1 locs1 cells slots Q (F0 m (pc + 1) ls rest)) : W p l e R s m args below meth c H locs cells slots Q (F0 m pc ls (.int x :: .int i :: .ref a :: rest)) := by
  obtain ⟨f, h1, h2⟩ := hw
  obtain ⟨g1, g2⟩ := h2.1 q0 _ hi
  exact g_iast hexec hb h1 g1 t0 g2 ht k hik hk hn hdg (fun H1 locs1 h => kk H1 locs1 ⟨_, h, kn_put h2 hi⟩)
end KMEM

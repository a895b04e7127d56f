-- ===== further rows over the known cells: lengths, arrays of objects and of arrays, copies =====
section KM3
variable {p : Program} {l : Launch} {e : Env} {R : Room} {s : State} {m : MethodId} {args : Array Value} {below : List Frame} {meth : Method} {c : Code} {H : Heap} {locs : List Loc} {cells slots : Nat} {Q : State → Prop}
variable {cc : ByteArray} {pc : Nat} {ls : Array Slot} {rest st0 : List Value} {D : va_G} {cl : List vw_C} {a : Nat} {tys : List (ClassId × FieldType)} {H0 : Heap} {L : List Nat} {f0 f : Nat → va_E} {ws : va_W}
theorem g_alen (hexec : p.tables.exec = Jvm.exec) (hb : c.code = cc) (hw : gw D cl tys L s H0 f H locs) (ha : a ∈ L) (t0 : Nat) {cA : ClassId} {x : vp_A} (he : f a = .inl (cA, x)) {ty : FieldType} (ht : tys[t0]? = some (cA, ty)) (hdg : decode cc pc = .ok (.arraylength, 1))
    (kk : W p l e R s m args below meth c H locs cells slots Q (F0 m (pc + 1) ls (.int (nI x.1) :: rest))) : W p l e R s m args below meth c H locs cells slots Q (F0 m pc ls (.ref a :: rest)) := by
  obtain ⟨q0, hq⟩ := pl_ix ha he
  exact va_alen hexec hb hw.1.1 hw.2.1 q0 t0 hq ht rfl hdg kk
theorem k_alen (hexec : p.tables.exec = Jvm.exec) (hb : c.code = cc) (hw : kw D cl tys L s H0 f0 ws H locs) (q0 t0 : Nat) {cA : ClassId} {x : vp_A} (hi : ws[q0]? = some (a, .inl (cA, x))) {ty : FieldType} (ht : tys[t0]? = some (cA, ty)) (hdg : decode cc pc = .ok (.arraylength, 1))
    (kk : W p l e R s m args below meth c H locs cells slots Q (F0 m (pc + 1) ls (.int (nI x.1) :: rest))) : W p l e R s m args below meth c H locs cells slots Q (F0 m pc ls (.ref a :: rest)) := by
  obtain ⟨f, h1, h2⟩ := hw
  obtain ⟨g1, g2⟩ := h2.1 q0 _ hi
  exact g_alen hexec hb h1 g1 t0 g2 ht hdg kk
theorem k_aald (hexec : p.tables.exec = Jvm.exec) (hb : c.code = cc) (hw : kw D cl tys L s H0 f0 ws H locs) (q0 t0 : Nat) {cA : ClassId} {C : String} {n : Nat} {z : Nat → Option Nat} (hi : ws[q0]? = some (a, .inl (cA, n, .inr (.inr (.inr (.inr z)))))) (ht : tys[t0]? = some (cA, .object C)) {i : Int32} (k : Nat) (hik : i = nI k) (hk : k < n) (hn : n < 2 ^ 31) {b : Nat} (hz : z k = some b) (hdg : decode cc pc = .ok (.aaload, 1))
    (kk : W p l e R s m args below meth c H locs cells slots Q (F0 m (pc + 1) ls (.ref b :: rest))) : W p l e R s m args below meth c H locs cells slots Q (F0 m pc ls (.int i :: .ref a :: rest)) := by
  obtain ⟨f, h1, h2⟩ := hw
  obtain ⟨g1, g2⟩ := h2.1 q0 _ hi
  exact g_aald hexec hb h1 g1 t0 g2 ht k hik hk hn hz hdg kk
/-- a row of an array of arrays -/
theorem g_aaldA (hexec : p.tables.exec = Jvm.exec) (hb : c.code = cc) (hw : gw D cl tys L s H0 f H locs) (ha : a ∈ L) (t0 : Nat) {cA : ClassId} {t : FieldType} {n : Nat} {z : Nat → Option Nat} (he : f a = .inl (cA, n, .inr (.inr (.inr (.inr z))))) (ht : tys[t0]? = some (cA, .array t)) {i : Int32} (k : Nat) (hi : i = nI k) (hk : k < n) (hn : n < 2 ^ 31) {b : Nat} (hz : z k = some b) (hdg : decode cc pc = .ok (.aaload, 1))
    (kk : W p l e R s m args below meth c H locs cells slots Q (F0 m (pc + 1) ls (.ref b :: rest))) : W p l e R s m args below meth c H locs cells slots Q (F0 m pc ls (.int i :: .ref a :: rest)) := by
  obtain ⟨q0, hq⟩ := pl_ix ha he
  subst hi
  have hin : vp_in (nI k) n := vp_in_nI hk hn
  refine W.aald (v := .ref b) (ty := .array t) hexec hb (hw.2.1 q0 _ hq) ((hw.1.1.2 t0 _ ht).1 n (fun j => va_rf (z j))) rfl (fun q => by cases q) (by show ¬ (_ ∨ (arrV _ _ _).slots.size ≤ _); rw [arrV_size]; exact hin) ?_ rfl rfl hdg kk
  show (arrV _ _ _).slots[_]? = _
  rw [arrV_read _ _ (by rw [nI_clamp (by omega)]; exact hk), nI_clamp (by omega), hz]
  rfl
theorem k_aaldA (hexec : p.tables.exec = Jvm.exec) (hb : c.code = cc) (hw : kw D cl tys L s H0 f0 ws H locs) (q0 t0 : Nat) {cA : ClassId} {t : FieldType} {n : Nat} {z : Nat → Option Nat} (hi : ws[q0]? = some (a, .inl (cA, n, .inr (.inr (.inr (.inr z)))))) (ht : tys[t0]? = some (cA, .array t)) {i : Int32} (k : Nat) (hik : i = nI k) (hk : k < n) (hn : n < 2 ^ 31) {b : Nat} (hz : z k = some b) (hdg : decode cc pc = .ok (.aaload, 1))
    (kk : W p l e R s m args below meth c H locs cells slots Q (F0 m (pc + 1) ls (.ref b :: rest))) : W p l e R s m args below meth c H locs cells slots Q (F0 m pc ls (.int i :: .ref a :: rest)) := by
  obtain ⟨f, h1, h2⟩ := hw
  obtain ⟨g1, g2⟩ := h2.1 q0 _ hi
  exact g_aaldA hexec hb h1 g1 t0 g2 ht k hik hk hn hz hdg kk
/-- a row of ints is put into an array of arrays of ints -/
theorem g_aastA (hexec : p.tables.exec = Jvm.exec) (hb : c.code = cc) (hw : gw D cl tys L s H0 f H locs) (ha : a ∈ L) (t0 t1 : Nat) {cA cR : ClassId} {n v : Nat} {z : Nat → Option Nat} {x : vp_A} (he : f a = .inl (cA, n, .inr (.inr (.inr (.inr z))))) (ht : tys[t0]? = some (cA, .array .int)) (ht1 : tys[t1]? = some (cR, .int)) (hv : v ∈ L) (hev : f v = .inl (cR, x)) {i : Int32} (k : Nat) (hi : i = nI k) (hk : k < n) (hn : n < 2 ^ 31) (hdg : decode cc pc = .ok (.aastore, 1))
    (kk : ∀ (H1 : Heap) (locs1 : List Loc), gw D cl tys L s H0 (va_up f a (.inl (cA, n, .inr (.inr (.inr (.inr (va_up z k (some v)))))))) H1 locs1 → W p l e R s m args below meth c H1 locs1 cells slots Q (F0 m (pc + 1) ls rest)) : W p l e R s m args below meth c H locs cells slots Q (F0 m pc ls (.ref v :: .int i :: .ref a :: rest)) := by
  obtain ⟨q0, hq⟩ := pl_ix ha he
  obtain ⟨q1, hq1⟩ := pl_ix hv hev
  subst hi
  have hin : vp_in (nI k) n := vp_in_nI hk hn
  obtain ⟨comp, cA2, kA, k3, -, k1, k2, k4⟩ := arrayOverA_spec (args := args) (show (Cond.arrayOver (.array .int)).before args s = true from hw.1.2.1)
  have hR : s.vm.findClass ("[" ++ (FieldType.int).toString) = some cR := (hw.1.1.2 t1 _ ht1).2
  cases ((hw.1.1.2 t0 _ ht).2 : s.vm.findClass ("[" ++ (FieldType.array .int).toString) = some cA).symm.trans k4
  cases k3.symm.trans hR
  obtain ⟨kE, hkE, -⟩ := Vm.findClass_spec k3
  have hcv : H[v]? = some (vp_cell cR x) := hw.2.1 q1 _ hq1
  have hcls : (vp_cell cR x).cls = cR := by
    obtain ⟨n', g | g | g | g | g⟩ := x <;> rfl
  have hst : (vp_cell cR x).vm = .none := by
    obtain ⟨n', g | g | g | g | g⟩ := x <;> rfl
  refine W.aast hexec hb (hw.2.1 q0 _ hq) (fun q h => by cases h) (fun h => by cases h) k1 k2 rfl hkE ⟨fun q => hin (Or.inl q), by show _ < (arrV _ _ _).slots.size; rw [arrV_size]; exact Nat.not_le.mp fun q => hin (Or.inr q)⟩ hcv (fun q h => by rw [hst] at h; cases h) (by rw [hcls]; exact hkE) (by rw [hcls]; exact va_asg _ _) rfl rfl hdg fun H1 e1 z1 oq => ?_
  have hset : va_at D cl (a, .inl (cA, n, .inr (.inr (.inr (.inr (va_up z k (some v))))))) H1 := by
    show H1[a]? = some (vp_cell _ _)
    rw [e1, vp_cell_q, vp_cell_q, arrV_store, nI_clamp (by omega)]
    congr 2
    funext q
    by_cases hqk : q = k
    · subst hqk
      simp [updV, va_up, va_rf]
    · simp [updV, va_up, hqk]
  have h1 := hw.2.1.set hw.2.2.1 hq hset oq
  have h2 := hw.2.2.1.set (e := .inl (cA, n, .inr (.inr (.inr (.inr (va_up z k (some v))))))) hq
  rw [pl_up hw.2.2.1 ha he hq] at h1 h2
  exact kk H1 _ ⟨hw.1, h1, h2, hw.2.2.2.put z1 oq ha⟩
theorem g_copyi (hexec : p.tables.exec = Jvm.exec) (hb : c.code = cc) (hml : c.maxLocals = ls.size) {own : String} {index : Nat} (hown : s.vm.findClass own = some m.cls) (hlink : (Cond.methodLink own index arraycopyName).before args s = true) (hnat : (Cond.native arraycopyName).before args s = true) (hstat : (Cond.static arraycopyName).before args s = true) (hini : (Cond.initialized "java/lang/System").before args s = true)
    (hw : gw D cl tys L s H0 f H locs) (t0 : Nat) {a0 : Nat} {cA : ClassId} {n0 n1 : Nat} {z0 z1 : Nat → Int32} (hm0 : a0 ∈ L) (hm1 : a ∈ L) (he0 : f a0 = .inl (cA, n0, .inl z0)) (he1 : f a = .inl (cA, n1, .inl z1)) (ht : tys[t0]? = some (cA, .int)) {sp dp n : Int32} (a1 b1 k1 : Nat) (hsp : sp = nI a1) (hdp : dp = nI b1) (hnn : n = nI k1) (h4 : a1 + k1 ≤ n0) (h5 : b1 + k1 ≤ n1) (h6 : n0 < 2 ^ 31) (h7 : n1 < 2 ^ 31)
    (hframes : 1 ≤ R.frames) (hlocals : (rest.map fun v => v.category).sum + (nativeFrameWords "java/lang/System" "arraycopy" 5 + 11) ≤ R.locals) (hdg : decode cc pc = .ok (.invokestatic index, 3))
    (kk : ∀ (H1 : Heap) (locs1 : List Loc), gw D cl tys L s H0 (va_up f a (.inl (cA, n1, .inl (va_cpy z0 z1 a1 b1 k1)))) H1 locs1 → W p l e R s m args below meth c H1 locs1 cells slots Q (F0 m (pc + 3) ls rest)) : W p l e R s m args below meth c H locs cells slots Q (F0 m pc ls (.int n :: .int dp :: .ref a :: .int sp :: .ref a0 :: rest)) := by
  obtain ⟨q0, hq0⟩ := pl_ix hm0 he0
  obtain ⟨q1, hq1⟩ := pl_ix hm1 he1
  subst hsp
  subst hdp
  subst hnn
  refine va_copyi hexec hb hml hown hlink hnat hstat hini hw.1.1 hw.2.1 hw.2.2.1 hw.2.2.2 q0 q1 t0 t0 hq0 hq1 ht ht rfl (nI_pos (by omega)) (nI_pos (by omega)) (nI_pos (by omega)) (by rw [nI_clamp (by omega), nI_clamp (by omega)]; exact h4) (by rw [nI_clamp (by omega), nI_clamp (by omega)]; exact h5) (fun _ _ => rfl) hframes hlocals hdg (fun H1 locs1 h1 h2 h3 => ?_)
  rw [nI_clamp (by omega), nI_clamp (by omega), nI_clamp (by omega), pl_up hw.2.2.1 hm1 he1 hq1] at h1 h2
  exact kk H1 locs1 ⟨hw.1, h1, h2, h3⟩
theorem k_copyi (hexec : p.tables.exec = Jvm.exec) (hb : c.code = cc) (hml : c.maxLocals = ls.size) {own : String} {index : Nat} (hown : s.vm.findClass own = some m.cls) (hlink : (Cond.methodLink own index arraycopyName).before args s = true) (hnat : (Cond.native arraycopyName).before args s = true) (hstat : (Cond.static arraycopyName).before args s = true) (hini : (Cond.initialized "java/lang/System").before args s = true)
    (hw : kw D cl tys L s H0 f0 ws H locs) (q0 q1 t0 : Nat) {a0 : Nat} {cA : ClassId} {n0 n1 : Nat} {z0 z1 : Nat → Int32} (hi0 : ws[q0]? = some (a0, .inl (cA, n0, .inl z0))) (hi1 : ws[q1]? = some (a, .inl (cA, n1, .inl z1))) (ht : tys[t0]? = some (cA, .int)) {sp dp n : Int32} (a1 b1 k1 : Nat) (hsp : sp = nI a1) (hdp : dp = nI b1) (hnn : n = nI k1) (h4 : a1 + k1 ≤ n0) (h5 : b1 + k1 ≤ n1) (h6 : n0 < 2 ^ 31) (h7 : n1 < 2 ^ 31)
    (hframes : 1 ≤ R.frames) (hlocals : (rest.map fun v => v.category).sum + (nativeFrameWords "java/lang/System" "arraycopy" 5 + 11) ≤ R.locals) (hdg : decode cc pc = .ok (.invokestatic index, 3))
    (kk : ∀ (H1 : Heap) (locs1 : List Loc), kw D cl tys L s H0 f0 (ws.set q1 (a, .inl (cA, n1, .inl (va_cpy z0 z1 a1 b1 k1)))) H1 locs1 → W p l e R s m args below meth c H1 locs1 cells slots Q (F0 m (pc + 3) ls rest)) : W p l e R s m args below meth c H locs cells slots Q (F0 m pc ls (.int n :: .int dp :: .ref a :: .int sp :: .ref a0 :: rest)) := by
  obtain ⟨f, g1, g2⟩ := hw
  obtain ⟨x1, x2⟩ := g2.1 q0 _ hi0
  obtain ⟨y1, y2⟩ := g2.1 q1 _ hi1
  exact g_copyi hexec hb hml hown hlink hnat hstat hini g1 t0 x1 y1 x2 y2 ht a1 b1 k1 hsp hdp hnn h4 h5 h6 h7 hframes hlocals hdg (fun H1 locs1 h => kk H1 locs1 ⟨_, h, kn_put g2 hi1⟩)
end KM3

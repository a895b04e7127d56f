/-! THE CLAIM OUT OF ONE WALK OF THE LAW'S BODY. Your part is whole_start (and what it stands on); all else here is the same for every law, but numbers. -/
def R_law : String := "LineTablesLaw"
def lw_P (b : Addr) (xs : List Int32) (args : Array Value) (s : State) : Prop := args = #[.ref b] ∧ s.IntsAt b xs ∧ xs.length ≤ 2560 ∧ (Jvm.Cond.and given_1 narrow_1).before args s = true
def lw_Q (_ : Array Value) (s : State) (o : Outcome) (t : State) : Prop := o = .returned (some (.int 1)) ∧ Framed s o t [] 600000 7302250
def lw_Z (below : List Frame) (a : Array Value) (s : State) : State → Prop := fun t => ∃ o, t.status = .running ∧ Ended t below o ∧ lw_Q a s o t
/-- the law's own end, with 1 on the stack, nothing written that was there before, its room as the claim has it -/
theorem lw_ret {p : Program} {l : Launch} {e : Env} {s : State} {m : MethodId} {below : List Frame} {meth : Method} {c : Code} {b : Nat} (hx : p.tables.exec = Jvm.exec) (hb : c.code = code) (hr : meth.sig.returnType = ret) (hlocks : meth.locks = false) {pc : Nat} {H : Heap} {ls : Array Slot} (hdg : decode code pc = .ok (.ireturn, 1)) : W p l e room_1 s m #[Value.ref b] below meth c H [] 600000 7302250 (lw_Z below #[Value.ref b] s) (F0 m pc ls [.int 1]) := by
  intro T hT X
  obtain ⟨fs, hret, hrun, hended, hW, hframe⟩ := X.leave (v := some (.int 1)) (hlocks := hlocks) (fun h => by rw [hr] at h; cases h)
  have hmeth' : T.vm.method? m = some meth := X.method'
  refine ⟨T.setFrames fs, ?_, .returned (some (.int 1)), hrun, hended, rfl, ⟨_, rfl⟩, hW, hframe⟩
  jvm_step X.here [X.here.top, hx, hb, hdg, hmeth', hr, ret, narrow_b1]
  (try refine ⟨rfl, ?_⟩); (try refine ⟨rfl, ?_⟩)
  first | (intro acts; rw [hret _ acts rfl rfl rfl]) | rw [hret _ _ rfl rfl rfl]
  exact Steps.refl _
/-- what holds at the law's entry: the machine, the code, the tables' words (any of lw_tbl by 'hts w (by decide +kernel)'), the script of L ints xs at the cell b, what the Statement gives of the start (any of its parts by flat_of_before) -/
def lw_At (p : Program) (s : State) (m : MethodId) (meth : Method) (c : Code) (b L : Nat) (xs : Nat → Int32) : Prop :=
  p.tables.exec = Jvm.exec ∧ c.code = code ∧ meth.sig.returnType = ret ∧ c.maxLocals = 4 ∧ s.vm.findClass R_law = some m.cls ∧ (∀ w ∈ lw_tbl, w.before #[Value.ref b] s = true) ∧ va_X b L xs s s.heap ∧ b < s.heap.size ∧ meth.locks = false ∧ (Jvm.Cond.and given_1 narrow_1).before #[Value.ref b] s = true
-- ===== rows of the law =====
theorem zI_and15 (a : Int) : zI a &&& 15 = zI (a % 16) := by
  rw [pk_and (zI a) 4 (by decide), zI_bv]
  have h : ((a % 4294967296).toNat % 2 ^ 4 : Nat) = (a % 16).toNat := by omega
  rw [h, ← zI_n]
  congr 1
  omega
theorem and15 (x : Int32) : ∃ n : Nat, n < 16 ∧ x &&& 15 = nI n := by
  refine ⟨(x.toInt % 16).toNat, by omega, ?_⟩
  have h := zI_and15 x.toInt
  rw [← (zI_of x).1] at h
  rw [h, ← zI_n]
  congr 1
  omega
theorem ii5 (a : Nat) : nI a + Int32.ofInt 5 = nI (a + 5) := nI_add a 5
theorem CS.at {L : List Nat} {own : Nat → Nat} {k : Nat → ClassId} {f : Nat → va_E} {xa ta qa pr ln : Nat} {tO tP tN adr : Nat → Nat} {zl : Nat → Option Nat} {π : Nat → Nat} {st : Nat → Tb} (h : CS L own k f xa ta qa pr ln tO tP tN adr zl π st) : xa ∈ L ∧ ∃ fs, f xa = .inr (0, fs) := by
  obtain ⟨zt, hX, -⟩ := h
  exact ⟨hX.2.2.2.1.1, _, hX.1⟩
theorem RS.at {L : List Nat} {own : Nat → Nat} {k : Nat → ClassId} {f : Nat → va_E} {ma : Nat} {ra adr : Nat → Nat} {st : Nat → Tb} (h : RS L own k f ma ra adr st) : ma ∈ L ∧ ∃ fs, f ma = .inr (5, fs) := by
  obtain ⟨pr, rw, cl, F, R, C, Lo, Pl, To, Bo, Re, Sm, Pc, V, h, -⟩ := h
  exact ⟨h.1.1.1, _, h.2.1 _ (List.mem_cons_self)⟩
section LROW
variable {p : Program} {l : Launch} {e : Env} {R : Room} {s : State} {m : MethodId} {args : Array Value} {below : List Frame} {meth : Method} {c : Code} {H : Heap} {locs : List Loc} {cells slots : Nat} {Q : State → Prop}
variable {cc : ByteArray} {pc : Nat} {ls : Array Slot} {rest : List Value}
/-- script[i + t] -/
theorem l_arg {A : Nat → Prop} {b Ln i : Nat} {xs : Nat → Int32} {v1 v2 : Value} (hx : p.tables.exec = Jvm.exec) (hb : c.code = cc) (hl : lv_has ls 4 [(0, .ref b), (1, v1), (2, v2), (3, .int (nI i))]) (hX : va_X b Ln xs s s.heap) (hbl : b < s.heap.size) (hbA : ¬ A b) (hS : va_S A s.heap H locs) (hL : Ln ≤ 2560) (t : Nat) (hi : i + t < Ln) {tt : Int} (htt : Int32.ofInt tt = nI t) (d0 : decode cc pc = .ok (.aload_n 0, 1)) (d1 : decode cc (pc + 1) = .ok (.iload_n 3, 1)) (d2 : decode cc (pc + 2) = .ok (.iconst tt, 1)) (d3 : decode cc (pc + 3) = .ok (.iadd, 1)) (d4 : decode cc (pc + 4) = .ok (.iaload, 1))
    (kk : W p l e R s m args below meth c H locs cells slots Q (F0 m (pc + 5) ls (.int (zI (xs (i + t)).toInt) :: rest))) : W p l e R s m args below meth c H locs cells slots Q (F0 m pc ls rest) := by
  refine lv_aload_n hx hb d0 rfl (lv_at hl 0 rfl) ?_
  refine lv_iload_n hx hb d1 rfl (lv_at hl 3 rfl) ?_
  refine lv_iconst (v := nI t) hx hb d2 htt ?_
  refine lv_iadd hx hb d3 ?_
  refine l_top (nI_add i t) ?_
  refine va_sld hx hb hX hbl hbA hS (vp_in_nI hi (by omega)) d4 ?_
  refine l_top (show xs (nI (i + t)).toNatClampNeg = zI (xs (i + t)).toInt by rw [nI_clamp (by omega)]; exact (zI_of _).1) ?_
  exact kk
/-- .. != 0 -/
theorem l_flag {v : Int32} (hx : p.tables.exec = Jvm.exec) (hb : c.code = cc) (d0 : decode cc pc = .ok (.ifCond .eq 7, 3)) (d1 : decode cc (pc + 3) = .ok (.iconst 1, 1)) (d2 : decode cc (pc + 4) = .ok (.goto 4, 3)) (d3 : decode cc (pc + 7) = .ok (.iconst 0, 1))
    (kk : W p l e R s m args below meth c H locs cells slots Q (F0 m (pc + 8) ls (.int (if decide (v ≠ 0) then 1 else 0) :: rest))) : W p l e R s m args below meth c H locs cells slots Q (F0 m pc ls (.int v :: rest)) := by
  refine lv_if_eq (tgt := pc + 7) hx hb d0 (by omega) (fun h => ?_) (fun h => ?_)
  · refine lv_iconst (v := 0) hx hb d3 (by decide) ?_
    have e : (if decide (v ≠ 0) then (1 : Int32) else 0) = 0 := by rw [h]; rfl
    rw [e] at kk
    exact kk
  · refine lv_iconst (v := 1) hx hb d1 (by decide) ?_
    refine lv_goto (tgt := pc + 8) hx hb d2 (by omega) ?_
    have e : (if decide (v ≠ 0) then (1 : Int32) else 0) = 1 := by rw [if_pos (decide_eq_true h)]
    rw [e] at kk
    exact kk
end LROW

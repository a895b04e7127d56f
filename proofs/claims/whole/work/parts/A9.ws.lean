-- ===== the start =====
theorem lt_aT : Cond.arrayOver (.object "LineTables$Table") ∈ lw_tbl := (List.mem_append_right _ (List.mem_of_getElem? (i := 22) (by decide +kernel)))
theorem lt_aI : Cond.arrayOver (.array .int) ∈ lw_tbl := (List.mem_append_right _ (List.mem_of_getElem? (i := 29) (by decide +kernel)))
theorem lt_aW : Cond.arrayOver (.object "LineTables$Whole") ∈ lw_tbl := (List.mem_append_right _ (List.mem_of_getElem? (i := 72) (by decide +kernel)))
theorem lt_aN : Cond.arrayOver (.object "LineTablesModel$Num") ∈ lw_tbl := (List.mem_append_right _ (List.mem_of_getElem? (i := 457) (by decide +kernel)))
theorem lt_nQ : Cond.methodLinkNest R_Q 3 y_K_init "LineTables" ∈ lw_tbl := (List.mem_append_right _ (List.mem_of_getElem? (i := 67) (by decide +kernel)))
theorem lt_nA : Cond.methodLinkNest R_A 29 y_P_init "LineTables" ∈ lw_tbl := (List.mem_append_right _ (List.mem_of_getElem? (i := 119) (by decide +kernel)))
theorem lt_nP : Cond.methodLinkNest R_P 1 y_K_init "LineTables" ∈ lw_tbl := (List.mem_append_right _ (List.mem_of_getElem? (i := 122) (by decide +kernel)))
theorem lt_nM : Cond.methodLinkNest R_M 40 y_N_init "LineTablesModel" ∈ lw_tbl := (List.mem_append_right _ (List.mem_of_getElem? (i := 440) (by decide +kernel)))
theorem lt_dL : Cond.declares y_K_lead ∈ lw_tbl := (List.mem_append_right _ (List.mem_of_getElem? (i := 215) (by decide +kernel)))
theorem lt_dC : Cond.declares y_K_clear ∈ lw_tbl := (List.mem_append_right _ (List.mem_of_getElem? (i := 303) (by decide +kernel)))
theorem lt_dF : Cond.declares y_K_fillDual ∈ lw_tbl := (List.mem_append_right _ (List.mem_of_getElem? (i := 366) (by decide +kernel)))
/-- classes and kinds of arrays, as the tables have them -/
theorem ws_K {s : State} {args : Array Value} (hts : ∀ w ∈ lw_tbl, w.before args s = true) : (∃ (D : va_G) (k : Nat → ClassId), xK D cls (tyl k) s) ∧ aoC s := by
  have hG : ∀ w ∈ G, w.before args s = true := fun w hw => hts w (List.mem_filter.mp hw).1
  obtain ⟨c0, i0, u0⟩ := u_known (T := F_A) (N := 4) hG lay_A (hG _ ia_A)
  obtain ⟨c1, i1, u1⟩ := u_known (T := F_Q) (N := 8) hG lay_Q (hG _ ia_Q)
  obtain ⟨c2, i2, u2⟩ := u_known (T := F_P) (N := 0) hG lay_P (hG _ ia_P)
  obtain ⟨c3, i3, u3⟩ := u_known (T := F_T) (N := 6) hG lay_T (hG _ ia_T)
  obtain ⟨c4, i4, u4⟩ := u_known (T := F_W) (N := 3) hG lay_W (hG _ ia_W)
  obtain ⟨c5, i5, u5⟩ := u_known (T := F_M) (N := 25) hG lay_M (hG _ ia_M)
  obtain ⟨c6, i6, u6⟩ := u_known (T := F_N) (N := 3) hG lay_N (hG _ ia_N)
  obtain ⟨kI, qI, zI', fI, gI, eI⟩ := Cond.arrayClass_spec (hG _ ac_int)
  obtain ⟨kZ, qZ, zZ, fZ, gZ, eZ⟩ := Cond.arrayClass_spec (hG _ ac_boolean)
  obtain ⟨oA, kA, qA, fA, -, gA, eA, hA⟩ := arrayOverA_spec (hts _ lt_aI)
  obtain ⟨oT, kT, qT, fT, -, gT, eT, hT⟩ := Cond.arrayOver_spec (hts _ lt_aT)
  obtain ⟨oW, kW, qW, fW, -, gW, eW, hW⟩ := Cond.arrayOver_spec (hts _ lt_aW)
  obtain ⟨oN', kN, qN, fN', -, gN, eN, hN⟩ := Cond.arrayOver_spec (hts _ lt_aN)
  refine ⟨⟨(fun c => match c with | 0 => c0 | 1 => c1 | 2 => c2 | 3 => c3 | 4 => c4 | 5 => c5 | _ => c6, fun c => match c with | 0 => i0 | 1 => i1 | 2 => i2 | 3 => i3 | 4 => i4 | 5 => i5 | _ => i6), (fun j => match j with | 0 => kI | 1 => kA | 2 => kT | 3 => kW | 4 => kN | _ => kZ), ⟨fun c q hq => ?_, fun j q hj => ?_⟩, ?_⟩, ?_⟩
  · have hlt : c < 7 := (List.getElem?_eq_some_iff.mp hq).1
    rcases (show c = 0 ∨ c = 1 ∨ c = 2 ∨ c = 3 ∨ c = 4 ∨ c = 5 ∨ c = 6 by omega) with h | h | h | h | h | h | h <;> subst h <;> cases hq <;> assumption
  · have hlt : j < 6 := (List.getElem?_eq_some_iff.mp hj).1
    rcases (show j = 0 ∨ j = 1 ∨ j = 2 ∨ j = 3 ∨ j = 4 ∨ j = 5 by omega) with h | h | h | h | h | h <;> subst h <;> cases hj
    · exact ⟨fun n z => ⟨fun _ h => (by cases h), qI, gI, zI', eI⟩, fI⟩
    · exact ⟨fun n z => ⟨fun _ h => (by cases h), qA, gA, oA, eA⟩, hA⟩
    · exact ⟨fun n z => ⟨fun _ h => (by cases h), qT, gT, oT, eT⟩, qT, oT, gT, eT, fT, hT⟩
    · exact ⟨fun n z => ⟨fun _ h => (by cases h), qW, gW, oW, eW⟩, qW, oW, gW, eW, fW, hW⟩
    · exact ⟨fun n z => ⟨fun _ h => (by cases h), qN, gN, oN', eN⟩, qN, oN', gN, eN, fN', hN⟩
    · exact ⟨fun n z => ⟨fun _ h => (by cases h), qZ, gZ, zZ, eZ⟩, fZ⟩
  · exact ⟨hts _ lt_aI, va_Nw.of rfl (hts _ lt_dL), va_Nw.of rfl (hts _ lt_dC), va_Nw.of rfl (hts _ lt_dF)⟩
  · exact ⟨⟨va_AO.of (hts _ lt_aT), va_AO.of (hts _ lt_aW), va_AO.of (hts _ lt_aN)⟩, va_Nw.of rfl (hts _ lt_nQ), va_Nw.of rfl (hts _ lt_nA), va_Nw.of rfl (hts _ lt_nP), va_Nw.of rfl (hts _ lt_nM)⟩
/-- from worlds that grow to one that stays -/
theorem gR_gw {D : va_G} {k : Nat → ClassId} {x0 n : Nat} {s : State} {f : Nat → va_E} {H : Heap} {locs : List Loc} (hw : gR D k x0 n s f H locs) (hx0 : s.heap.size = x0) : gw D cls (tyl k) (List.range' x0 n) s s.heap f H [] := by
  refine ⟨hw.1, rg_P hw.2.2.1, rg_D (fun q h1 h2 => rg_mem.mpr ⟨h1, h2⟩), hw.2.2.2.1.1, fun q h1 h2 => hw.2.2.2.1.2.1 q h1 (fun h3 => ?_), fun q hq => by cases hq⟩
  omega
set_option maxRecDepth 100000 in
set_option maxHeartbeats 4000000 in
theorem whole_start {p : Program} {e : Env} {s : State} {m : MethodId} {below : List Frame} {meth : Method} {c : Code} (l : Launch) {b L : Nat} {xs : Nat → Int32} (hL : L ≤ 2560) (C0 : lw_At p s m meth c b L xs) : W p l e room_1 s m #[Value.ref b] below meth c s.heap [] 0 0 (lw_Z below #[Value.ref b] s) (entryFrame m ([Value.ref b] : List Value).toArray 4) := by
  obtain ⟨hx, hb, hr, hml, hown, hts, hX, hbl, hlocks, -⟩ := C0
  obtain ⟨⟨D, k, hK⟩, hC⟩ := ws_K hts
  have hG : ∀ w ∈ G, w.before #[Value.ref b] s = true := fun w hw => hts w (List.mem_filter.mp hw).1
  have hown : s.vm.findClass R_L = some m.cls := hown
  have S : CallFix p m c code 4 s #[Value.ref b] G R_L := ⟨hx, hb, hml, hown, hG⟩
  obtain ⟨x0, hx0⟩ : ∃ x0, s.heap.size = x0 := ⟨_, rfl⟩
  have hw : gR D k x0 0 s (fun _ => .inr (2, [])) s.heap [] := ⟨hK, hx0, fun q h1 h2 => by omega, va_S.rf, by omega⟩
  have hl := lv_entry [.ref b] (n := 4) (Nat.le_of_ble_eq_true rfl)
  rw [lg_entry_eq]
  generalize (lg_sl ([.ref b]) ++ List.replicate (4 - (lg_sl ([.ref b])).length) Slot.unset).toArray = ls at hl ⊢
  have hl : lv_has ls 4 [(0, .ref b)] := hl
  refine r_new (ci := 0) hx hb hG lay_A ft_A ft_A_ok hown (hG _ cl_L_7) (hG _ ia_A) (hG _ in_A) hw rfl [.null, .null, .null, .null] df_A (by decide) (by decide) d_L_law_0 (fun H hw => ?_)
  refine lv_dup hx hb d_L_law_3 rfl ?_
  refine r_ctor S (k_A l D k _) hw hC (jn_hi (Nat.le_refl _)) ml_L_9 im_A_init in_A co_A_init rfl (by decide +kernel) ⟨by decide, by decide⟩ hl.1 (by simp [Value.category]) d_L_law_4 ⟨by decide, by decide⟩ (fun H locs hw => ?_)
  refine lv_astore_n hx hb d_L_law_7 rfl hl (by decide) rfl (fun ls hl => ?_)
  refine r_new (ci := 5) hx hb hG lay_M ft_M ft_M_ok hown (hG _ cl_L_10) (hG _ ia_M) (hG _ in_M) hw rfl [.null, .null, .null, .null, .null, .null, .null, .null, .null, .null, .null, .null, .null, .null, .null, .null, .null, .null, .null, .null, .int 0, .int 0, .int 0, .null, .null] df_M (by decide) (by decide) d_L_law_8 (fun H hw => ?_)
  refine lv_dup hx hb d_L_law_11 rfl ?_
  refine r_ctor S (k_M l D k _) hw hC (jn_hi (Nat.le_refl _)) ml_L_12 im_M_init in_M co_M_init rfl (by decide +kernel) ⟨by decide, by decide⟩ hl.1 (by simp [Value.category]) d_L_law_12 ⟨by decide, by decide⟩ (fun H locs hw => ?_)
  refine lv_astore_n hx hb d_L_law_15 rfl hl (by decide) rfl (fun ls hl => ?_)
  refine lv_iconst (v := 0) hx hb d_L_law_16 (by decide) ?_
  refine lv_istore_n hx hb d_L_law_17 rfl hl (by decide) rfl (fun ls hl => ?_)
  have hl : lv_has ls 4 [(0, .ref b), (1, .ref x0), (2, .ref (x0 + 178)), (3, .int (nI 0))] := lv_sub hl [3, 2, 1, 0] rfl
  have hw : gR D k x0 787 s (fB k x0) H locs := hw.cg (fun q h1 h2 => by
    unfold fB
    by_cases hq : q < x0 + 178
    · rw [jn_lo (show q < x0 + (0 + 178) from hq), jn_lo (show q < x0 + (0 + 178) from hq), jn_hi (show x0 + 0 ≤ q from h1), jn_lo hq]; rfl
    · rw [jn_hi (show x0 + (0 + 178) ≤ q by omega), jn_hi (show x0 + 178 ≤ q by omega)])
  refine va_forget (fun q hq => ?_) ?_
  · have := hw.2.2.2.1.2.2 q hq
    have : x0 ≤ q.base := this
    omega
  refine W.widen (k := 787) (n := 95550) (by decide) (by decide) ?_
  exact w_law S hr hlocks hX hbl hx0 hL L 0 (fB k x0) id stB H [] ls (by omega) (by omega) CS_0 RS_0 stB_ok hl (gR_gw hw hx0)

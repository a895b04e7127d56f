-- ===== Whole: the small methods =====
abbrev cW (xl n : Nat) (g : Int32) : va_E := .inr (4, [.ref xl, .int (nI n), .int g])
abbrev cD (k : Nat → ClassId) (d : Nat → Nat) : va_E := .inl (k 0, 12, .inl (nD d))
set_option maxRecDepth 100000 in
set_option maxHeartbeats 4000000 in
/-- setZero(): count and sign become 0 -/
theorem m_W_setZero (l : Launch) (D : va_G) (k : Nat → ClassId) (L : List Nat) (f : Nat → va_E) (x xl n : Nat) (g : Int32) (hk : kn L f f [(x, cW xl n g)]) : Mv l y_W_setZero (Cond.code y_W_setZero c_W_setZero 1 none :: G) (rmN 0) D cls (tyl k) L f [.ref x] (fun f' => kn L f f' [(x, cW xl 0 0)]) := by
  -- METHOD W_setZero | loc 0=x | ws x
  refine mk_met (by decide) (Nat.le_of_ble_eq_true rfl) (fun p e s m below meth c ls S hr hlocks hw hl => ?_)
  have hx := S.1
  have hb := S.2.1
  have hown : s.vm.findClass R_W = some m.cls := S.2.2.2.1
  have hG := S.2.2.2.2
  have hl : lv_has ls 1 [(0, .ref x)] := hl
  have hg := hw
  have hw : kw D cls (tyl k) L s s.heap f [(x, cW xl n g)] s.heap [] := ⟨f, hw, hk⟩
  refine lv_aload_n hx hb d_W_setZero_0 rfl (lv_at hl 0 rfl) ?_
  refine lv_iconst (v := 0) hx hb d_W_setZero_1 (by decide) ?_
  refine k_put (ty := .int) hx hb hG lay_W ft_W ft_W_ok fn_W hown hw 0 rfl rfl 1 (by decide) (hG _ fl_W_15) (fun _ h9 => h9) rfl (by decide +kernel) rfl rfl (by simp) d_W_setZero_2 (fun H locs hw => ?_)
  refine lv_aload_n hx hb d_W_setZero_5 rfl (lv_at hl 0 rfl) ?_
  refine lv_iconst (v := 0) hx hb d_W_setZero_6 (by decide) ?_
  refine k_put (ty := .int) hx hb hG lay_W ft_W ft_W_ok fn_W hown hw 0 rfl rfl 2 (by decide) (hG _ fl_W_19) (fun _ h9 => h9) rfl (by decide +kernel) rfl rfl (by simp) d_W_setZero_7 (fun H locs hw => ?_)
  obtain ⟨f', hw, hk⟩ := hw
  exact g_retv hx hb hr hlocks hw hk d_W_setZero_10
set_option maxRecDepth 100000 in
set_option maxHeartbeats 4000000 in
/-- negate() -/
theorem m_W_negate (l : Launch) (D : va_G) (k : Nat → ClassId) (L : List Nat) (f : Nat → va_E) (x xl n : Nat) (g : Int32) (hk : kn L f f [(x, cW xl n g)]) : Mv l y_W_negate (Cond.code y_W_negate c_W_negate 1 none :: G) (rmN 0) D cls (tyl k) L f [.ref x] (fun f' => kn L f f' [(x, cW xl n (-g))]) := by
  -- METHOD W_negate | loc 0=x | ws x
  refine mk_met (by decide) (Nat.le_of_ble_eq_true rfl) (fun p e s m below meth c ls S hr hlocks hw hl => ?_)
  have hx := S.1
  have hb := S.2.1
  have hown : s.vm.findClass R_W = some m.cls := S.2.2.2.1
  have hG := S.2.2.2.2
  have hl : lv_has ls 1 [(0, .ref x)] := hl
  have hg := hw
  have hw : kw D cls (tyl k) L s s.heap f [(x, cW xl n g)] s.heap [] := ⟨f, hw, hk⟩
  refine lv_aload_n hx hb d_W_negate_0 rfl (lv_at hl 0 rfl) ?_
  refine lv_aload_n hx hb d_W_negate_1 rfl (lv_at hl 0 rfl) ?_
  refine k_get hx hb hG lay_W hown hw 0 rfl rfl 2 (by decide) (hG _ fl_W_19) (fun _ h9 => h9) rfl d_W_negate_2 ?_
  refine lv_ineg hx hb d_W_negate_5 ?_
  refine k_put (ty := .int) hx hb hG lay_W ft_W ft_W_ok fn_W hown hw 0 rfl rfl 2 (by decide) (hG _ fl_W_19) (fun _ h9 => h9) rfl (by decide +kernel) rfl rfl (by simp) d_W_negate_6 (fun H locs hw => ?_)
  obtain ⟨f', hw, hk⟩ := hw
  exact g_retv hx hb hr hlocks hw hk d_W_negate_9
set_option maxRecDepth 100000 in
set_option maxHeartbeats 4000000 in
/-- limbAt(i): the digit, 0 behind the end -/
theorem m_W_limbAt (l : Launch) (D : va_G) (k : Nat → ClassId) (L : List Nat) (f : Nat → va_E) (x xl n : Nat) (g : Int32) (d : Nat → Nat) (i : Nat) (hn : n ≤ 12) (hi : i < 2 ^ 31) (hk : kn L f f [(x, cW xl n g), (xl, cD k d)]) : Mi l y_W_limbAt (Cond.code y_W_limbAt c_W_limbAt 2 (some .int) :: G) (rmN 0) D cls (tyl k) L f [.ref x, .int (nI i)] (fun r f' => f' = f ∧ r = nI (if i < n then d i else 0)) := by
  -- METHOD W_limbAt | loc 0=x 1=i | ws x xl | fld x.limbs=xl
  refine mk_met (by decide) (Nat.le_of_ble_eq_true rfl) (fun p e s m below meth c ls S hr hlocks hw hl => ?_)
  have hx := S.1
  have hb := S.2.1
  have hown : s.vm.findClass R_W = some m.cls := S.2.2.2.1
  have hG := S.2.2.2.2
  have hl : lv_has ls 2 [(0, .ref x), (1, .int (nI i))] := hl
  have hg := hw
  have hw : kw D cls (tyl k) L s s.heap f [(x, cW xl n g), (xl, cD k d)] s.heap [] := ⟨f, hw, hk⟩
  refine lv_iload_n hx hb d_W_limbAt_0 rfl (lv_at hl 1 rfl) ?_
  refine lv_aload_n hx hb d_W_limbAt_1 rfl (lv_at hl 0 rfl) ?_
  refine k_get hx hb hG lay_W hown hw 0 rfl rfl 1 (by decide) (hG _ fl_W_15) (fun _ h9 => h9) rfl d_W_limbAt_2 ?_
  refine lv_icmp_ge (tgt := 17) hx hb d_W_limbAt_5 (by decide) (fun hc => ?_) (fun hc => ?_)
  · have hc' : n ≤ i := (nI_leI (by omega) hi).mp hc
    refine lv_iconst (v := 0) hx hb d_W_limbAt_17 (by decide) ?_
    exact g_reti hx hb hr hlocks hg ⟨rfl, by rw [if_neg (by omega)]; rfl⟩ d_W_limbAt_18
  · have hc' : i < n := Nat.lt_of_not_le fun h => hc ((nI_leI (by omega) hi).mpr h)
    refine lv_aload_n hx hb d_W_limbAt_8 rfl (lv_at hl 0 rfl) ?_
    refine k_get hx hb hG lay_W hown hw 0 rfl rfl 0 (by decide) (hG _ fl_W_11) (fun _ h9 => h9) rfl d_W_limbAt_9 ?_
    refine lv_iload_n hx hb d_W_limbAt_12 rfl (lv_at hl 1 rfl) ?_
    refine k_iald hx hb hw 1 0 rfl rfl (i) (rfl) (by omega) (by first | decide | omega) d_W_limbAt_13 ?_
    refine lv_goto (tgt := 18) hx hb d_W_limbAt_14 (by decide) ?_
    exact g_reti hx hb hr hlocks hg ⟨rfl, by rw [if_pos (by omega)]; rfl⟩ d_W_limbAt_18
section TRIM
variable {p : Program} {l : Launch} {e : Env} {R : Room} {s : State} {m : MethodId} {args : Array Value} {below : List Frame} {meth : Method} {c : Code} {cells slots : Nat} {Q : State → Prop} {D : va_G} {k : Nat → ClassId} {L : List Nat} {f0 : Nat → va_E} {H0 : Heap}
set_option maxRecDepth 100000 in
set_option maxHeartbeats 4000000 in
theorem w_trim (S : CallFix p m c c_W_trim 1 s args G R_W) {x xl : Nat} {g : Int32} {d : Nat → Nat} (hd : ∀ i, i < 12 → d i < B30) : ∀ (n : Nat) (H : Heap) (locs : List Loc) (ls : Array Slot), n ≤ 12 → lv_has ls 1 [(0, .ref x)] → kw D cls (tyl k) L s H0 f0 [(x, cW xl n g), (xl, cD k d)] H locs →
    (∀ (n' : Nat) (H : Heap) (locs : List Loc) (ls : Array Slot), n' ≤ n → (∀ i, n' ≤ i → i < n → d i = 0) → (0 < n' → d (n' - 1) ≠ 0) → lv_has ls 1 [(0, .ref x)] → kw D cls (tyl k) L s H0 f0 [(x, cW xl n' g), (xl, cD k d)] H locs → W p l e R s m args below meth c H locs cells slots Q (F0 m 34 ls [])) →
    W p l e R s m args below meth c H locs cells slots Q (F0 m 0 ls []) := by
  have hx := S.1
  have hb := S.2.1
  have hown : s.vm.findClass R_W = some m.cls := S.2.2.2.1
  have hG := S.2.2.2.2
  intro n
  induction n with
  | zero =>
    intro H locs ls _ hl hw kx
    -- METHOD W_trim | loc 0=x | ws x xl | fld x.limbs=xl
    refine lv_aload_n hx hb d_W_trim_0 rfl (lv_at hl 0 rfl) ?_
    refine k_get hx hb hG lay_W hown hw 0 rfl rfl 1 (by decide) (hG _ fl_W_15) (fun _ h9 => h9) rfl d_W_trim_1 ?_
    refine lv_if_le (tgt := 34) hx hb d_W_trim_4 (by decide) (fun hc => ?_) (fun hc => ?_)
    · exact kx 0 H locs ls (Nat.le_refl 0) (fun i h1 h2 => by omega) (fun h => by omega) hl hw
    · exact absurd (by decide) hc
  | succ n ih =>
    intro H locs ls hn hl hw kx
    refine lv_aload_n hx hb d_W_trim_0 rfl (lv_at hl 0 rfl) ?_
    refine k_get hx hb hG lay_W hown hw 0 rfl rfl 1 (by decide) (hG _ fl_W_15) (fun _ h9 => h9) rfl d_W_trim_1 ?_
    refine lv_if_le (tgt := 34) hx hb d_W_trim_4 (by decide) (fun hc => ?_) (fun hc => ?_)
    · exact absurd hc (nI_nle (by omega) (by omega))
    · -- STK
      refine lv_aload_n hx hb d_W_trim_7 rfl (lv_at hl 0 rfl) ?_
      refine k_get hx hb hG lay_W hown hw 0 rfl rfl 0 (by decide) (hG _ fl_W_11) (fun _ h9 => h9) rfl d_W_trim_8 ?_
      refine lv_aload_n hx hb d_W_trim_11 rfl (lv_at hl 0 rfl) ?_
      refine k_get hx hb hG lay_W hown hw 0 rfl rfl 1 (by decide) (hG _ fl_W_15) (fun _ h9 => h9) rfl d_W_trim_12 ?_
      refine lv_iconst (v := 1) hx hb d_W_trim_15 (by decide) ?_
      refine lv_isub hx hb d_W_trim_16 ?_
      refine l_top (nI_pred n) ?_
      refine k_iald hx hb hw 1 0 rfl rfl (n) (rfl) (by omega) (by first | decide | omega) d_W_trim_17 ?_
      refine lv_if_ne (tgt := 34) hx hb d_W_trim_18 (by decide) (fun hc => ?_) (fun hc => ?_)
      · exact kx (n + 1) H locs ls (Nat.le_refl _) (fun i h1 h2 => by omega) (fun _ h0 => hc (by show nI (d n) = 0; have h0 : d n = 0 := h0; rw [h0]; rfl)) hl hw
      · have h0 : d n = 0 := Classical.byContradiction fun h => nI_ne0 (by omega) (by have := hd n (by omega); unfold B30 at this; omega) hc
        refine lv_aload_n hx hb d_W_trim_21 rfl (lv_at hl 0 rfl) ?_
        refine lv_dup hx hb d_W_trim_22 rfl ?_
        refine k_get hx hb hG lay_W hown hw 0 rfl rfl 1 (by decide) (hG _ fl_W_15) (fun _ h9 => h9) rfl d_W_trim_23 ?_
        refine lv_iconst (v := 1) hx hb d_W_trim_26 (by decide) ?_
        refine lv_isub hx hb d_W_trim_27 ?_
        refine l_top (nI_pred n) ?_
        refine k_put (ty := .int) hx hb hG lay_W ft_W ft_W_ok fn_W hown hw 0 rfl rfl 1 (by decide) (hG _ fl_W_15) (fun _ h9 => h9) rfl (by decide +kernel) rfl rfl (by simp) d_W_trim_28 (fun H locs hw => ?_)
        refine lv_goto (tgt := 0) hx hb d_W_trim_31 (by decide) ?_
        refine ih H locs ls (by omega) hl hw (fun n' H locs ls h1 h2 h3 hl hw => kx n' H locs ls (by omega) (fun i q1 q2 => ?_) h3 hl hw)
        by_cases e : i = n
        · rw [e]; exact h0
        · exact h2 i q1 (by omega)
end TRIM
set_option maxRecDepth 100000 in
set_option maxHeartbeats 4000000 in
/-- trim(): zeros at the top go; the sign of 0 is 0 -/
theorem m_W_trim (l : Launch) (D : va_G) (k : Nat → ClassId) (L : List Nat) (f : Nat → va_E) (x xl n : Nat) (g : Int32) (d : Nat → Nat) (hn : n ≤ 12) (hd : ∀ i, i < 12 → d i < B30) (hk : kn L f f [(x, cW xl n g), (xl, cD k d)]) : Mv l y_W_trim (Cond.code y_W_trim c_W_trim 1 none :: G) (rmN 0) D cls (tyl k) L f [.ref x] (fun f' => ∃ n', n' ≤ n ∧ (∀ i, n' ≤ i → i < n → d i = 0) ∧ (0 < n' → d (n' - 1) ≠ 0) ∧ kn L f f' [(x, cW xl n' (if n' = 0 then 0 else g)), (xl, cD k d)]) := by
  refine mk_met (by decide) (Nat.le_of_ble_eq_true rfl) (fun p e s m below meth c ls S hr hlocks hw hl => ?_)
  have hx := S.1
  have hb := S.2.1
  have hown : s.vm.findClass R_W = some m.cls := S.2.2.2.1
  have hG := S.2.2.2.2
  have hl : lv_has ls 1 [(0, .ref x)] := hl
  have hg := hw
  have hw : kw D cls (tyl k) L s s.heap f [(x, cW xl n g), (xl, cD k d)] s.heap [] := ⟨f, hw, hk⟩
  refine w_trim S hd n _ _ ls hn hl hw (fun n' H locs ls h1 h2 h3 hl hw => ?_)
  -- METHOD W_trim | loc 0=x | ws x xl | fld x.limbs=xl
  refine lv_aload_n hx hb d_W_trim_34 rfl (lv_at hl 0 rfl) ?_
  refine k_get hx hb hG lay_W hown hw 0 rfl rfl 1 (by decide) (hG _ fl_W_15) (fun _ h9 => h9) rfl d_W_trim_35 ?_
  refine lv_if_ne (tgt := 46) hx hb d_W_trim_38 (by decide) (fun hc => ?_) (fun hc => ?_)
  · have hn0 : n' ≠ 0 := fun h => hc (by rw [h]; rfl)
    obtain ⟨f', hw, hk⟩ := hw
    exact g_retv hx hb hr hlocks hw ⟨n', h1, h2, h3, by rw [if_neg hn0]; exact hk⟩ d_W_trim_46
  · have hn0 : n' = 0 := Classical.byContradiction fun h => nI_ne0 (by omega) (by omega) hc
    subst hn0
    refine lv_aload_n hx hb d_W_trim_41 rfl (lv_at hl 0 rfl) ?_
    refine lv_iconst (v := 0) hx hb d_W_trim_42 (by decide) ?_
    refine k_put (ty := .int) hx hb hG lay_W ft_W ft_W_ok fn_W hown hw 0 rfl rfl 2 (by decide) (hG _ fl_W_19) (fun _ h9 => h9) rfl (by decide +kernel) rfl rfl (by simp) d_W_trim_43 (fun H locs hw => ?_)
    obtain ⟨f', hw, hk⟩ := hw
    exact g_retv hx hb hr hlocks hw ⟨0, h1, h2, h3, hk⟩ d_W_trim_46


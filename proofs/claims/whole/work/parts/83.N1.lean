-- ===== the reference's Num: values; zero copy small turn trim compareSize =====
def bI (b : Bool) : Int32 := if b then 1 else 0
theorem bI_narrow (b : Bool) : narrow .boolean (.int (bI b)) = .int (bI b) := by cases b <;> rfl
theorem bI_fits (b : Bool) : fits .boolean (.int (bI b)) = true := by cases b <;> rfl
theorem bI_0 {b : Bool} : bI b = 0 ↔ b = false := by cases b <;> decide
theorem bI_inj {a b : Bool} : bI a = bI b ↔ a = b := by cases a <;> cases b <;> decide
theorem nIj {a b : Nat} (ha : a < 2147483648) (hb : b < 2147483648) (h : nI a = nI b) : a = b := by
  have := (zI_eq (rI_n ha) (rI_n hb)).mp h
  omega
theorem nI0 {a : Nat} (h : a < 2147483648) : ¬ nI a < 0 := fun q => by
  have := (zI_lt (rI_n h) (b := 0) ⟨by decide, by decide⟩).mp q
  omega
theorem nI0' {a : Nat} (h : a < 2147483648) : 0 ≤ nI a := (zI_le (a := 0) ⟨by decide, by decide⟩ (rI_n h)).mpr (by omega)
def D16 : Nat := 65536
abbrev cN (xl n : Nat) (mi : Bool) : va_E := .inr (6, [.ref xl, .int (nI n), .int (bI mi)])
abbrev cE (k : Nat → ClassId) (d : Nat → Nat) : va_E := .inl (k 0, 160, .inl (nD d))
/-- the cells' digits are this whole number, as the reference keeps it -/
def nr (n : Nat) (mi : Bool) (d : Nat → Nat) (v : Int) : Prop := n ≤ 160 ∧ (∀ i, i < 160 → d i < D16) ∧ (0 < n → d (n - 1) ≠ 0) ∧ (n = 0 → mi = false) ∧ v = if mi then -(cd D16 n d : Int) else (cd D16 n d : Int)
theorem d16 {d : Nat → Nat} {i : Nat} (h : d i < D16) : d i < 2147483648 := by unfold D16 at h; omega
theorem nr_abs {n : Nat} {mi : Bool} {d : Nat → Nat} {v : Int} (h : nr n mi d v) : v.natAbs = cd D16 n d := by
  have e := h.2.2.2.2
  cases mi
  · rw [if_neg (by decide)] at e; omega
  · rw [if_pos rfl] at e; omega
theorem nr_pos {n : Nat} {d : Nat → Nat} (ht : 0 < n → d (n - 1) ≠ 0) (hn : 0 < n) : 0 < cd D16 n d := by
  obtain ⟨m, rfl⟩ : ∃ m, n = m + 1 := ⟨n - 1, by omega⟩
  have h5 := cd_ge (b := D16) (n := m) (d := d) (ht hn)
  have h6 : 0 < D16 ^ m := Nat.pow_pos (by decide)
  omega
theorem nr_z {n : Nat} {mi : Bool} {d : Nat → Nat} {v : Int} (h : nr n mi d v) : n = 0 ↔ v = 0 := by
  have ha := nr_abs h
  constructor
  · intro e; rw [e] at ha; have : cd D16 0 d = 0 := rfl; omega
  · intro e
    apply Classical.byContradiction
    intro hn
    have := nr_pos h.2.2.1 (by omega)
    omega
theorem nr_mi {n : Nat} {mi : Bool} {d : Nat → Nat} {v : Int} (h : nr n mi d v) : mi = true ↔ v < 0 := by
  have ha := nr_abs h
  have e := h.2.2.2.2
  cases mi with
  | false => rw [if_neg (by decide)] at e; exact ⟨fun q => (by cases q), fun q => by omega⟩
  | true =>
    rw [if_pos rfl] at e
    refine ⟨fun _ => ?_, fun _ => rfl⟩
    have hn : 0 < n := by
      rcases Nat.eq_zero_or_pos n with q | q
      · have := h.2.2.2.1 q; cases this
      · exact q
    have := nr_pos h.2.2.1 hn
    omega
/-- a number below D16 ^ m has m digits at most -/
theorem nr_cnt {n m : Nat} {mi : Bool} {d : Nat → Nat} {v : Int} (h : nr n mi d v) (hv : v.natAbs < D16 ^ m) : n ≤ m := by
  rcases Nat.eq_zero_or_pos n with q | q
  · omega
  · rw [nr_abs h] at hv
    obtain ⟨n', rfl⟩ : ∃ n', n = n' + 1 := ⟨n - 1, by omega⟩
    have h5 := cd_ge (b := D16) (n := n') (d := d) (h.2.2.1 (by omega))
    have h6 : D16 ^ n' < D16 ^ m := by omega
    have := (Nat.pow_lt_pow_iff_right (show 1 < D16 by decide)).mp h6
    omega
/-- zeros at the top taken off -/
theorem nr_trim {n n' : Nat} {mi : Bool} {d : Nat → Nat} {v : Int} (hn : n ≤ 160) (hd : ∀ i, i < 160 → d i < D16) (hn' : n' ≤ n) (h0 : ∀ i, n' ≤ i → i < n → d i = 0) (ht : 0 < n' → d (n' - 1) ≠ 0) (hv : v = if mi then -(cd D16 n d : Int) else (cd D16 n d : Int)) : nr n' (mi && decide (0 < n')) d v := by
  have e := cd_top (b := D16) hn' h0
  refine ⟨by omega, hd, ht, fun q => by rw [q]; cases mi <;> rfl, ?_⟩
  rw [e] at hv
  rw [hv]
  rcases Nat.eq_zero_or_pos n' with q | q
  · subst q
    have e0 : cd D16 0 d = 0 := rfl
    rw [e0]
    cases mi <;> rfl
  · have : decide (0 < n') = true := decide_eq_true q
    rw [this, Bool.and_true]
theorem nr_0 {d : Nat → Nat} (hd : ∀ i, i < 160 → d i < D16) : nr 0 false d 0 := ⟨by omega, hd, fun h => by omega, fun _ => rfl, rfl⟩
set_option maxRecDepth 100000 in
set_option maxHeartbeats 4000000 in
theorem m_N_zero (l : Launch) (D : va_G) (k : Nat → ClassId) (L : List Nat) (f : Nat → va_E) (x xl n : Nat) (mi : Bool) (hk : kn L f f [(x, cN xl n mi)]) : Mv l y_N_zero (Cond.code y_N_zero c_N_zero 1 none :: G) (rmN 0) D cls (tyl k) L f [.ref x] (fun f' => kn L f f' [(x, cN xl 0 false)]) := by
  -- METHOD N_zero | loc 0=x | ws x
  refine mk_met (by decide) (Nat.le_of_ble_eq_true rfl) (fun p e s m below meth c ls S hr hlocks hw hl => ?_)
  have hx := S.1
  have hb := S.2.1
  have hown : s.vm.findClass R_N = some m.cls := S.2.2.2.1
  have hG := S.2.2.2.2
  have hl : lv_has ls 1 [(0, .ref x)] := hl
  have hg := hw
  have hw : kw D cls (tyl k) L s s.heap f [(x, cN xl n mi)] s.heap [] := ⟨f, hw, hk⟩
  refine lv_aload_n hx hb d_N_zero_0 rfl (lv_at hl 0 rfl) ?_
  refine lv_iconst (v := 0) hx hb d_N_zero_1 (by decide) ?_
  refine k_put (ty := .int) hx hb hG lay_N ft_N ft_N_ok fn_N hown hw 0 rfl rfl 1 (by decide) (hG _ fl_N_13) (fun _ h9 => h9) rfl (by decide +kernel) rfl rfl (by simp) d_N_zero_2 (fun H locs hw => ?_)
  refine lv_aload_n hx hb d_N_zero_5 rfl (lv_at hl 0 rfl) ?_
  refine lv_iconst (v := 0) hx hb d_N_zero_6 (by decide) ?_
  refine k_put (ty := .boolean) hx hb hG lay_N ft_N ft_N_ok fn_N hown hw 0 rfl rfl 2 (by decide) (hG _ fl_N_17) (fun _ h9 => h9) rfl (by decide +kernel) rfl rfl (by simp) d_N_zero_7 (fun H locs hw => ?_)
  obtain ⟨f', hw, hk'⟩ := hw
  exact g_retv hx hb hr hlocks hw hk' d_N_zero_10
set_option maxRecDepth 100000 in
set_option maxHeartbeats 4000000 in
theorem m_N_turn (l : Launch) (D : va_G) (k : Nat → ClassId) (L : List Nat) (f : Nat → va_E) (x xl n : Nat) (mi : Bool) (d : Nat → Nat) (v : Int) (hv : nr n mi d v) (hk : kn L f f [(x, cN xl n mi), (xl, cE k d)]) : Mv l y_N_turn (Cond.code y_N_turn c_N_turn 1 none :: G) (rmN 0) D cls (tyl k) L f [.ref x] (fun f' => ∃ mi', nr n mi' d (-v) ∧ kn L f f' [(x, cN xl n mi'), (xl, cE k d)]) := by
  -- METHOD N_turn | loc 0=x | ws x xl
  refine mk_met (by decide) (Nat.le_of_ble_eq_true rfl) (fun p e s m below meth c ls S hr hlocks hw hl => ?_)
  have hx := S.1
  have hb := S.2.1
  have hown : s.vm.findClass R_N = some m.cls := S.2.2.2.1
  have hG := S.2.2.2.2
  have hl : lv_has ls 1 [(0, .ref x)] := hl
  have hg := hw
  have hn := hv.1
  have hw : kw D cls (tyl k) L s s.heap f [(x, cN xl n mi), (xl, cE k d)] s.heap [] := ⟨f, hw, hk⟩
  have fin : ∀ mi' : Bool, (mi' = true ↔ -v < 0) → nr n mi' d (-v) := fun mi' h => by
    have ha := nr_abs hv
    refine ⟨hv.1, hv.2.1, hv.2.2.1, fun q => ?_, ?_⟩
    · have := (nr_z hv).mp q
      cases mi' with
      | false => rfl
      | true => have := h.mp rfl; omega
    · cases mi' with
      | true => rw [if_pos rfl]; have := h.mp rfl; omega
      | false =>
        rw [if_neg (by decide)]
        have : ¬ -v < 0 := fun q => by have := h.mpr q; cases this
        omega
  refine lv_aload_n hx hb d_N_turn_0 rfl (lv_at hl 0 rfl) ?_
  refine lv_aload_n hx hb d_N_turn_1 rfl (lv_at hl 0 rfl) ?_
  refine k_get hx hb hG lay_N hown hw 0 rfl rfl 1 (by decide) (hG _ fl_N_13) (fun _ h9 => h9) rfl d_N_turn_2 ?_
  refine lv_if_le (tgt := 19) hx hb d_N_turn_5 (by decide) (fun hc => ?_) (fun hc => ?_)
  · have h0 : n = 0 := by
      rcases Nat.eq_zero_or_pos n with q | q
      · exact q
      · exact absurd hc (nI_nle (by omega) (by omega))
    refine lv_iconst (v := 0) hx hb d_N_turn_19 (by decide) ?_
    refine k_put (ty := .boolean) hx hb hG lay_N ft_N ft_N_ok fn_N hown hw 0 rfl rfl 2 (by decide) (hG _ fl_N_17) (fun _ h9 => h9) rfl (by decide +kernel) rfl rfl (by simp) d_N_turn_20 (fun H locs hw => ?_)
    obtain ⟨f', hw, hk'⟩ := hw
    have := (nr_z hv).mp h0
    exact g_retv hx hb hr hlocks hw ⟨false, fin false ⟨fun q => (by cases q), fun q => by omega⟩, hk'⟩ d_N_turn_23
  have h0 : 0 < n := by
    rcases Nat.eq_zero_or_pos n with q | q
    · rw [q] at hc; exact absurd (by decide) hc
    · exact q
  have hv0 : v ≠ 0 := fun q => by have := (nr_z hv).mpr q; omega
  refine lv_aload_n hx hb d_N_turn_8 rfl (lv_at hl 0 rfl) ?_
  refine k_get hx hb hG lay_N hown hw 0 rfl rfl 2 (by decide) (hG _ fl_N_17) (fun _ h9 => h9) rfl d_N_turn_9 ?_
  refine lv_if_ne (tgt := 19) hx hb d_N_turn_12 (by decide) (fun hc => ?_) (fun hc => ?_)
  · have hm : mi = true := by
      cases mi with
      | true => rfl
      | false => exact absurd rfl hc
    refine lv_iconst (v := 0) hx hb d_N_turn_19 (by decide) ?_
    refine k_put (ty := .boolean) hx hb hG lay_N ft_N ft_N_ok fn_N hown hw 0 rfl rfl 2 (by decide) (hG _ fl_N_17) (fun _ h9 => h9) rfl (by decide +kernel) rfl rfl (by simp) d_N_turn_20 (fun H locs hw => ?_)
    obtain ⟨f', hw, hk'⟩ := hw
    have := (nr_mi hv).mp hm
    exact g_retv hx hb hr hlocks hw ⟨false, fin false ⟨fun q => (by cases q), fun q => by omega⟩, hk'⟩ d_N_turn_23
  have hm : ¬ v < 0 := fun q => by rw [(nr_mi hv).mpr q] at hc; exact absurd hc (by decide)
  refine lv_iconst (v := 1) hx hb d_N_turn_15 (by decide) ?_
  refine lv_goto (tgt := 20) hx hb d_N_turn_16 (by decide) ?_
  refine k_put (ty := .boolean) hx hb hG lay_N ft_N ft_N_ok fn_N hown hw 0 rfl rfl 2 (by decide) (hG _ fl_N_17) (fun _ h9 => h9) rfl (by decide +kernel) rfl rfl (by simp) d_N_turn_20 (fun H locs hw => ?_)
  obtain ⟨f', hw, hk'⟩ := hw
  exact g_retv hx hb hr hlocks hw ⟨true, fin true ⟨fun _ => by omega, fun _ => rfl⟩, hk'⟩ d_N_turn_23
section NTRIM
variable {p : Program} {l : Launch} {e : Env} {R : Room} {s : State} {m : MethodId} {args : Array Value} {below : List Frame} {meth : Method} {c : Code} {cells slots : Nat} {Q : State → Prop} {D : va_G} {k : Nat → ClassId} {L : List Nat} {f0 : Nat → va_E} {H0 : Heap}
set_option maxRecDepth 100000 in
set_option maxHeartbeats 4000000 in
theorem w_ntrim (S : CallFix p m c c_N_trim 1 s args G R_N) {x xl : Nat} {mi : Bool} {d : Nat → Nat} (hd : ∀ i, i < 160 → d i < D16) : ∀ (n : Nat) (H : Heap) (locs : List Loc) (ls : Array Slot), n ≤ 160 → lv_has ls 1 [(0, .ref x)] → kw D cls (tyl k) L s H0 f0 [(x, cN xl n mi), (xl, cE k d)] H locs →
    (∀ (n' : Nat) (H : Heap) (locs : List Loc) (ls : Array Slot), n' ≤ n → (∀ i, n' ≤ i → i < n → d i = 0) → (0 < n' → d (n' - 1) ≠ 0) → lv_has ls 1 [(0, .ref x)] → kw D cls (tyl k) L s H0 f0 [(x, cN xl n' mi), (xl, cE k d)] H locs → W p l e R s m args below meth c H locs cells slots Q (F0 m 34 ls [])) →
    W p l e R s m args below meth c H locs cells slots Q (F0 m 0 ls []) := by
  have hx := S.1
  have hb := S.2.1
  have hown : s.vm.findClass R_N = some m.cls := S.2.2.2.1
  have hG := S.2.2.2.2
  intro n
  induction n with
  | zero =>
    intro H locs ls _ hl hw kx
    -- METHOD N_trim | loc 0=x | ws x xl | fld x.d=xl
    refine lv_aload_n hx hb d_N_trim_0 rfl (lv_at hl 0 rfl) ?_
    refine k_get hx hb hG lay_N hown hw 0 rfl rfl 1 (by decide) (hG _ fl_N_13) (fun _ h9 => h9) rfl d_N_trim_1 ?_
    refine lv_if_le (tgt := 34) hx hb d_N_trim_4 (by decide) (fun hc => ?_) (fun hc => ?_)
    · exact kx 0 H locs ls (Nat.le_refl 0) (fun i h1 h2 => by omega) (fun h => by omega) hl hw
    · exact absurd (by decide) hc
  | succ n ih =>
    intro H locs ls hn hl hw kx
    refine lv_aload_n hx hb d_N_trim_0 rfl (lv_at hl 0 rfl) ?_
    refine k_get hx hb hG lay_N hown hw 0 rfl rfl 1 (by decide) (hG _ fl_N_13) (fun _ h9 => h9) rfl d_N_trim_1 ?_
    refine lv_if_le (tgt := 34) hx hb d_N_trim_4 (by decide) (fun hc => ?_) (fun hc => ?_)
    · exact absurd hc (nI_nle (by omega) (by omega))
    · -- STK
      refine lv_aload_n hx hb d_N_trim_7 rfl (lv_at hl 0 rfl) ?_
      refine k_get hx hb hG lay_N hown hw 0 rfl rfl 0 (by decide) (hG _ fl_N_7) (fun _ h9 => h9) rfl d_N_trim_8 ?_
      refine lv_aload_n hx hb d_N_trim_11 rfl (lv_at hl 0 rfl) ?_
      refine k_get hx hb hG lay_N hown hw 0 rfl rfl 1 (by decide) (hG _ fl_N_13) (fun _ h9 => h9) rfl d_N_trim_12 ?_
      refine lv_iconst (v := 1) hx hb d_N_trim_15 (by decide) ?_
      refine lv_isub hx hb d_N_trim_16 ?_
      refine l_top (nI_pred n) ?_
      refine k_iald hx hb hw 1 0 rfl rfl (n) (rfl) (by omega) (by first | decide | omega) d_N_trim_17 ?_
      refine lv_if_ne (tgt := 34) hx hb d_N_trim_18 (by decide) (fun hc => ?_) (fun hc => ?_)
      · exact kx (n + 1) H locs ls (Nat.le_refl _) (fun i h1 h2 => by omega) (fun _ h0 => hc (by show nI (d n) = 0; have h0 : d n = 0 := h0; rw [h0]; rfl)) hl hw
      · have h0 : d n = 0 := Classical.byContradiction fun h => nI_ne0 (by omega) (d16 (hd n (by omega))) hc
        refine lv_aload_n hx hb d_N_trim_21 rfl (lv_at hl 0 rfl) ?_
        refine lv_dup hx hb d_N_trim_22 rfl ?_
        refine k_get hx hb hG lay_N hown hw 0 rfl rfl 1 (by decide) (hG _ fl_N_13) (fun _ h9 => h9) rfl d_N_trim_23 ?_
        refine lv_iconst (v := 1) hx hb d_N_trim_26 (by decide) ?_
        refine lv_isub hx hb d_N_trim_27 ?_
        refine l_top (nI_pred n) ?_
        refine k_put (ty := .int) hx hb hG lay_N ft_N ft_N_ok fn_N hown hw 0 rfl rfl 1 (by decide) (hG _ fl_N_13) (fun _ h9 => h9) rfl (by decide +kernel) rfl rfl (by simp) d_N_trim_28 (fun H locs hw => ?_)
        refine lv_goto (tgt := 0) hx hb d_N_trim_31 (by decide) ?_
        refine ih H locs ls (by omega) hl hw (fun n' H locs ls h1 h2 h3 hl hw => kx n' H locs ls (by omega) (fun i q1 q2 => ?_) h3 hl hw)
        by_cases e : i = n
        · rw [e]; exact h0
        · exact h2 i q1 (by omega)
end NTRIM
set_option maxRecDepth 100000 in
set_option maxHeartbeats 4000000 in
theorem m_N_trim (l : Launch) (D : va_G) (k : Nat → ClassId) (L : List Nat) (f : Nat → va_E) (x xl n : Nat) (mi : Bool) (d : Nat → Nat) (v : Int) (hn : n ≤ 160) (hd : ∀ i, i < 160 → d i < D16) (hv : v = if mi then -(cd D16 n d : Int) else (cd D16 n d : Int)) (hk : kn L f f [(x, cN xl n mi), (xl, cE k d)]) : Mv l y_N_trim (Cond.code y_N_trim c_N_trim 1 none :: G) (rmN 0) D cls (tyl k) L f [.ref x] (fun f' => ∃ n' mi', n' ≤ n ∧ nr n' mi' d v ∧ kn L f f' [(x, cN xl n' mi'), (xl, cE k d)]) := by
  refine mk_met (by decide) (Nat.le_of_ble_eq_true rfl) (fun p e s m below meth c ls S hr hlocks hw hl => ?_)
  have hx := S.1
  have hb := S.2.1
  have hown : s.vm.findClass R_N = some m.cls := S.2.2.2.1
  have hG := S.2.2.2.2
  have hl : lv_has ls 1 [(0, .ref x)] := hl
  have hg := hw
  have hw : kw D cls (tyl k) L s s.heap f [(x, cN xl n mi), (xl, cE k d)] s.heap [] := ⟨f, hw, hk⟩
  refine w_ntrim S hd n _ _ ls hn hl hw (fun n' H locs ls h1 h2 h3 hl hw => ?_)
  have hfin := nr_trim hn hd h1 h2 h3 hv
  -- METHOD N_trim | loc 0=x | ws x xl | fld x.d=xl
  refine lv_aload_n hx hb d_N_trim_34 rfl (lv_at hl 0 rfl) ?_
  refine lv_aload_n hx hb d_N_trim_35 rfl (lv_at hl 0 rfl) ?_
  refine k_get hx hb hG lay_N hown hw 0 rfl rfl 2 (by decide) (hG _ fl_N_17) (fun _ h9 => h9) rfl d_N_trim_36 ?_
  refine lv_if_eq (tgt := 53) hx hb d_N_trim_39 (by decide) (fun hc => ?_) (fun hc => ?_)
  · have hm : mi = false := bI_0.mp hc
    refine lv_iconst (v := 0) hx hb d_N_trim_53 (by decide) ?_
    refine k_put (ty := .boolean) hx hb hG lay_N ft_N ft_N_ok fn_N hown hw 0 rfl rfl 2 (by decide) (hG _ fl_N_17) (fun _ h9 => h9) rfl (by decide +kernel) rfl rfl (by simp) d_N_trim_54 (fun H locs hw => ?_)
    obtain ⟨f', hw, hk'⟩ := hw
    exact g_retv hx hb hr hlocks hw ⟨n', _, h1, hfin, by rw [hm]; exact hk'⟩ d_N_trim_57
  have hm : mi = true := by
    cases mi with
    | true => rfl
    | false => exact absurd rfl hc
  refine lv_aload_n hx hb d_N_trim_42 rfl (lv_at hl 0 rfl) ?_
  refine k_get hx hb hG lay_N hown hw 0 rfl rfl 1 (by decide) (hG _ fl_N_13) (fun _ h9 => h9) rfl d_N_trim_43 ?_
  refine lv_if_le (tgt := 53) hx hb d_N_trim_46 (by decide) (fun hc => ?_) (fun hc => ?_)
  · have h0 : n' = 0 := by
      rcases Nat.eq_zero_or_pos n' with q | q
      · exact q
      · exact absurd hc (nI_nle (by omega) (by omega))
    refine lv_iconst (v := 0) hx hb d_N_trim_53 (by decide) ?_
    refine k_put (ty := .boolean) hx hb hG lay_N ft_N ft_N_ok fn_N hown hw 0 rfl rfl 2 (by decide) (hG _ fl_N_17) (fun _ h9 => h9) rfl (by decide +kernel) rfl rfl (by simp) d_N_trim_54 (fun H locs hw => ?_)
    obtain ⟨f', hw, hk'⟩ := hw
    exact g_retv hx hb hr hlocks hw ⟨n', _, h1, hfin, by rw [hm, h0]; rw [h0] at hk'; exact hk'⟩ d_N_trim_57
  have h0 : 0 < n' := by
    rcases Nat.eq_zero_or_pos n' with q | q
    · rw [q] at hc; exact absurd (by decide) hc
    · exact q
  refine lv_iconst (v := 1) hx hb d_N_trim_49 (by decide) ?_
  refine lv_goto (tgt := 54) hx hb d_N_trim_50 (by decide) ?_
  refine k_put (ty := .boolean) hx hb hG lay_N ft_N ft_N_ok fn_N hown hw 0 rfl rfl 2 (by decide) (hG _ fl_N_17) (fun _ h9 => h9) rfl (by decide +kernel) rfl rfl (by simp) d_N_trim_54 (fun H locs hw => ?_)
  obtain ⟨f', hw, hk'⟩ := hw
  refine g_retv hx hb hr hlocks hw ⟨n', _, h1, hfin, ?_⟩ d_N_trim_57
  have : decide (0 < n') = true := decide_eq_true h0
  rw [this, hm]; exact hk'
/-- compareSize: the sizes' order -/
def ord3 (a b : Nat) : Int32 := if a < b then -1 else if a = b then 0 else 1
section NCMP
variable {p : Program} {l : Launch} {e : Env} {R : Room} {s : State} {m : MethodId} {args : Array Value} {below : List Frame} {meth : Method} {c : Code} {cells slots : Nat} {Q : State → Prop} {D : va_G} {k : Nat → ClassId} {L : List Nat} {f0 : Nat → va_E} {H0 : Heap}
set_option maxRecDepth 100000 in
set_option maxHeartbeats 4000000 in
theorem w_ncmp (S : CallFix p m c c_N_compareSize 3 s args G R_N) {x xl o ol n : Nat} {mi mi2 : Bool} {d d2 : Nat → Nat} (hn : n ≤ 160) (hd : ∀ i, i < 160 → d i < D16) (hd2 : ∀ i, i < 160 → d2 i < D16) {H : Heap} {locs : List Loc} (hw : kw D cls (tyl k) L s H0 f0 [(x, cN xl n mi), (xl, cE k d), (o, cN ol n mi2), (ol, cE k d2)] H locs)
    (kx : ∀ (ls : Array Slot) (r : Int32), r = ord3 (cd D16 n d) (cd D16 n d2) → W p l e R s m args below meth c H locs cells slots Q (F0 m 88 ls [.int r])) : ∀ (j : Nat) (ls : Array Slot), j ≤ n → (∀ i, j ≤ i → i < n → d i = d2 i) → lv_has ls 3 [(0, .ref x), (1, .ref o), (2, .int (zI ((j : Int) - 1)))] →
    W p l e R s m args below meth c H locs cells slots Q (F0 m 35 ls []) := by
  have hx := S.1
  have hb := S.2.1
  have hown : s.vm.findClass R_N = some m.cls := S.2.2.2.1
  have hG := S.2.2.2.2
  intro j
  induction j with
  | zero =>
    intro ls _ heq hl
    -- METHOD N_compareSize | loc 0=x 1=o 2=j | ws x xl o ol | fld x.d=xl o.d=ol
    refine lv_iload_n hx hb d_N_compareSize_35 rfl (lv_at hl 2 rfl) ?_
    refine lv_if_lt (tgt := 60) hx hb d_N_compareSize_36 (by decide) (fun hc => ?_) (fun hc => ?_)
    · -- LOC 0=x 1=o 2=j
      refine lv_iload_n hx hb d_N_compareSize_60 rfl (lv_at hl 2 rfl) ?_
      refine lv_if_ge (tgt := 68) hx hb d_N_compareSize_61 (by decide) (fun hc => ?_) (fun hc => ?_)
      · exact absurd hc (by decide)
      refine lv_iconst (v := 0) hx hb d_N_compareSize_64 (by decide) ?_
      refine lv_goto (tgt := 88) hx hb d_N_compareSize_65 (by decide) ?_
      refine kx ls _ ?_
      rw [cd_congr (b := D16) n (fun i hi => heq i (by omega) hi)]
      unfold ord3
      rw [if_neg (by omega), if_pos rfl]
    · exact absurd (by decide) hc
  | succ j ih =>
    intro ls hj heq hl
    have e1 : zI (((j + 1 : Nat) : Int) - 1) = nI j := by rw [← zI_n]; congr 1; omega
    rw [e1] at hl
    -- METHOD N_compareSize | loc 0=x 1=o 2=j | ws x xl o ol | fld x.d=xl o.d=ol
    refine lv_iload_n hx hb d_N_compareSize_35 rfl (lv_at hl 2 rfl) ?_
    refine lv_if_lt (tgt := 60) hx hb d_N_compareSize_36 (by decide) (fun hc => ?_) (fun hc => ?_)
    · exact absurd hc (nI0 (by omega))
    refine lv_aload_n hx hb d_N_compareSize_39 rfl (lv_at hl 0 rfl) ?_
    refine k_get hx hb hG lay_N hown hw 0 rfl rfl 0 (by decide) (hG _ fl_N_7) (fun _ h9 => h9) rfl d_N_compareSize_40 ?_
    refine lv_iload_n hx hb d_N_compareSize_43 rfl (lv_at hl 2 rfl) ?_
    refine k_iald hx hb hw 1 0 rfl rfl (j) (rfl) (by omega) (by first | decide | omega) d_N_compareSize_44 ?_
    refine lv_aload_n hx hb d_N_compareSize_45 rfl (lv_at hl 1 rfl) ?_
    refine k_get hx hb hG lay_N hown hw 2 rfl rfl 0 (by decide) (hG _ fl_N_7) (fun _ h9 => h9) rfl d_N_compareSize_46 ?_
    refine lv_iload_n hx hb d_N_compareSize_49 rfl (lv_at hl 2 rfl) ?_
    refine k_iald hx hb hw 3 0 rfl rfl (j) (rfl) (by omega) (by first | decide | omega) d_N_compareSize_50 ?_
    refine lv_icmp_ne (tgt := 60) hx hb d_N_compareSize_51 (by decide) (fun hc => ?_) (fun hc => ?_)
    · have hne : d j ≠ d2 j := fun q => hc (by show nI (d j) = nI (d2 j); rw [q])
      refine lv_iload_n hx hb d_N_compareSize_60 rfl (lv_at hl 2 rfl) ?_
      refine lv_if_ge (tgt := 68) hx hb d_N_compareSize_61 (by decide) (fun hc => ?_) (fun hc => ?_)
      rotate_left
      · exact absurd (nI0' (by omega)) hc
      refine lv_aload_n hx hb d_N_compareSize_68 rfl (lv_at hl 0 rfl) ?_
      refine k_get hx hb hG lay_N hown hw 0 rfl rfl 0 (by decide) (hG _ fl_N_7) (fun _ h9 => h9) rfl d_N_compareSize_69 ?_
      refine lv_iload_n hx hb d_N_compareSize_72 rfl (lv_at hl 2 rfl) ?_
      refine k_iald hx hb hw 1 0 rfl rfl (j) (rfl) (by omega) (by first | decide | omega) d_N_compareSize_73 ?_
      refine lv_aload_n hx hb d_N_compareSize_74 rfl (lv_at hl 1 rfl) ?_
      refine k_get hx hb hG lay_N hown hw 2 rfl rfl 0 (by decide) (hG _ fl_N_7) (fun _ h9 => h9) rfl d_N_compareSize_75 ?_
      refine lv_iload_n hx hb d_N_compareSize_78 rfl (lv_at hl 2 rfl) ?_
      refine k_iald hx hb hw 3 0 rfl rfl (j) (rfl) (by omega) (by first | decide | omega) d_N_compareSize_79 ?_
      refine lv_icmp_ge (tgt := 87) hx hb d_N_compareSize_80 (by decide) (fun hc => ?_) (fun hc => ?_)
      · have hge : d2 j ≤ d j := (nI_leI (d16 (hd2 j (by omega))) (d16 (hd j (by omega)))).mp hc
        refine lv_iconst (v := 1) hx hb d_N_compareSize_87 (by decide) ?_
        refine kx ls _ ?_
        have := cd_cmp (b := D16) (n := n) (k := j) (d := d2) (e := d) (fun i hi => hd2 i (by omega)) (by omega) (fun i h1 h2 => (heq i (by omega) h2).symm) (by omega)
        unfold ord3
        rw [if_neg (by omega), if_neg (by omega)]
      · have hlt : ¬ d2 j ≤ d j := fun q => hc ((nI_leI (d16 (hd2 j (by omega))) (d16 (hd j (by omega)))).mpr q)
        refine lv_iconst (v := (-1)) hx hb d_N_compareSize_83 (by decide) ?_
        refine lv_goto (tgt := 88) hx hb d_N_compareSize_84 (by decide) ?_
        refine kx ls _ ?_
        have := cd_cmp (b := D16) (n := n) (k := j) (d := d) (e := d2) (fun i hi => hd i (by omega)) (by omega) (fun i h1 h2 => heq i (by omega) h2) (by omega)
        unfold ord3
        rw [if_pos (by omega)]
    · have he : d j = d2 j := by
        exact nIj (d16 (hd j (by omega))) (d16 (hd2 j (by omega))) hc
      refine lv_iinc (k := 2) hx hb d_N_compareSize_54 hl rfl (show nI j + Int32.ofInt (-1) = zI ((j : Int) - 1) from (zI_add (j : Int) (-1)).trans (by congr 1)) (by decide) rfl (fun ls hl => ?_)
      refine lv_goto (tgt := 35) hx hb d_N_compareSize_57 (by decide) ?_
      have hl := lv_sub hl [1, 2, 0] rfl
      exact ih ls (by omega) (fun i h1 h2 => by
        by_cases e : i = j
        · rw [e]; exact he
        · exact heq i (by omega) h2) hl
end NCMP
set_option maxRecDepth 100000 in
set_option maxHeartbeats 4000000 in
theorem m_N_compareSize (l : Launch) (D : va_G) (k : Nat → ClassId) (L : List Nat) (f : Nat → va_E) (x xl n o ol n2 : Nat) (mi mi2 : Bool) (d d2 : Nat → Nat) (v w : Int) (hv : nr n mi d v) (hw2 : nr n2 mi2 d2 w) (hk : kn L f f [(x, cN xl n mi), (xl, cE k d), (o, cN ol n2 mi2), (ol, cE k d2)]) : Mi l y_N_compareSize (Cond.code y_N_compareSize c_N_compareSize 3 (some .int) :: G) (rmN 0) D cls (tyl k) L f [.ref x, .ref o] (fun r f' => f' = f ∧ r = ord3 v.natAbs w.natAbs) := by
  have hn := hv.1
  have hn2 := hw2.1
  rw [nr_abs hv, nr_abs hw2]
  -- METHOD N_compareSize | loc 0=x 1=o | ws x xl o ol | fld x.d=xl o.d=ol
  refine mk_met (by decide) (Nat.le_of_ble_eq_true rfl) (fun p e s m below meth c ls S hr hlocks hw hl => ?_)
  have hx := S.1
  have hb := S.2.1
  have hown : s.vm.findClass R_N = some m.cls := S.2.2.2.1
  have hG := S.2.2.2.2
  have hl : lv_has ls 3 [(0, .ref x), (1, .ref o)] := hl
  have hg := hw
  have hw : kw D cls (tyl k) L s s.heap f [(x, cN xl n mi), (xl, cE k d), (o, cN ol n2 mi2), (ol, cE k d2)] s.heap [] := ⟨f, hw, hk⟩
  refine lv_aload_n hx hb d_N_compareSize_0 rfl (lv_at hl 0 rfl) ?_
  refine k_get hx hb hG lay_N hown hw 0 rfl rfl 1 (by decide) (hG _ fl_N_13) (fun _ h9 => h9) rfl d_N_compareSize_1 ?_
  refine lv_aload_n hx hb d_N_compareSize_4 rfl (lv_at hl 1 rfl) ?_
  refine k_get hx hb hG lay_N hown hw 2 rfl rfl 1 (by decide) (hG _ fl_N_13) (fun _ h9 => h9) rfl d_N_compareSize_5 ?_
  refine lv_icmp_eq (tgt := 28) hx hb d_N_compareSize_8 (by decide) (fun hc => ?_) (fun hc => ?_)
  · have hnn : n = n2 := nIj (by omega) (by omega) hc
    subst hnn
    refine lv_aload_n hx hb d_N_compareSize_28 rfl (lv_at hl 0 rfl) ?_
    refine k_get hx hb hG lay_N hown hw 0 rfl rfl 1 (by decide) (hG _ fl_N_13) (fun _ h9 => h9) rfl d_N_compareSize_29 ?_
    refine lv_iconst (v := 1) hx hb d_N_compareSize_32 (by decide) ?_
    refine lv_isub hx hb d_N_compareSize_33 ?_
    refine l_top (show nI n - 1 = zI ((n : Int) - 1) from zI_sub (n : Int) 1) ?_
    refine lv_istore_n hx hb d_N_compareSize_34 rfl hl (by decide) rfl (fun ls hl => ?_)
    have hl := lv_sub hl [1, 2, 0] rfl
    refine w_ncmp S hn hv.2.1 hw2.2.1 hw (fun ls r er => ?_) n ls (Nat.le_refl _) (fun i h1 h2 => by omega) hl
    exact g_reti hx hb hr hlocks hg ⟨rfl, er⟩ d_N_compareSize_88
  have hne : n ≠ n2 := fun q => hc (by rw [q])
  refine lv_aload_n hx hb d_N_compareSize_11 rfl (lv_at hl 0 rfl) ?_
  refine k_get hx hb hG lay_N hown hw 0 rfl rfl 1 (by decide) (hG _ fl_N_13) (fun _ h9 => h9) rfl d_N_compareSize_12 ?_
  refine lv_aload_n hx hb d_N_compareSize_15 rfl (lv_at hl 1 rfl) ?_
  refine k_get hx hb hG lay_N hown hw 2 rfl rfl 1 (by decide) (hG _ fl_N_13) (fun _ h9 => h9) rfl d_N_compareSize_16 ?_
  refine lv_icmp_ge (tgt := 26) hx hb d_N_compareSize_19 (by decide) (fun hc => ?_) (fun hc => ?_)
  · have hge : n2 ≤ n := (nI_leI (by omega) (by omega)).mp hc
    refine lv_iconst (v := 1) hx hb d_N_compareSize_26 (by decide) ?_
    refine g_reti hx hb hr hlocks hg ⟨rfl, ?_⟩ d_N_compareSize_27
    have := cd_short (b := D16) (m := n2) (n := n) (d := d2) (e := d) (fun i hi => hw2.2.1 i (by omega)) (by omega) (by decide) (hv.2.2.1 (by omega))
    unfold ord3
    rw [if_neg (by omega), if_neg (by omega)]
  · have hlt : ¬ n2 ≤ n := fun q => hc ((nI_leI (by omega) (by omega)).mpr q)
    refine lv_iconst (v := (-1)) hx hb d_N_compareSize_22 (by decide) ?_
    refine lv_goto (tgt := 27) hx hb d_N_compareSize_23 (by decide) ?_
    refine g_reti hx hb hr hlocks hg ⟨rfl, ?_⟩ d_N_compareSize_27
    have := cd_short (b := D16) (m := n) (n := n2) (d := d) (e := d2) (fun i hi => hv.2.1 i (by omega)) (by omega) (by decide) (hw2.2.2.1 (by omega))
    unfold ord3
    rw [if_pos (by omega)]
section NCPY
variable {p : Program} {l : Launch} {e : Env} {R : Room} {s : State} {m : MethodId} {args : Array Value} {below : List Frame} {meth : Method} {c : Code} {cells slots : Nat} {Q : State → Prop} {D : va_G} {k : Nat → ClassId} {L : List Nat} {f0 : Nat → va_E} {H0 : Heap}
set_option maxRecDepth 100000 in
set_option maxHeartbeats 4000000 in
theorem w_ncopy (S : CallFix p m c c_N_copy 3 s args G R_N) {x xl o ol n2 : Nat} {mi mi2 : Bool} {d2 : Nat → Nat} (hn2 : n2 ≤ 160)
    (kx : ∀ (d : Nat → Nat) (H : Heap) (locs : List Loc) (ls : Array Slot), (∀ i, i < n2 → d i = d2 i) → (∀ i, i < 160 → d i < D16) → kw D cls (tyl k) L s H0 f0 [(x, cN xl n2 mi), (xl, cE k d), (o, cN ol n2 mi2), (ol, cE k d2)] H locs → W p l e R s m args below meth c H locs cells slots Q (F0 m 44 ls [])) (hd2 : ∀ i, i < 160 → d2 i < D16) : ∀ (i j : Nat) (d : Nat → Nat) (H : Heap) (locs : List Loc) (ls : Array Slot), j + i = n2 → (∀ i, i < j → d i = d2 i) → (∀ i, i < 160 → d i < D16) → lv_has ls 3 [(0, .ref x), (1, .ref o), (2, .int (nI j))] → kw D cls (tyl k) L s H0 f0 [(x, cN xl n2 mi), (xl, cE k d), (o, cN ol n2 mi2), (ol, cE k d2)] H locs →
    W p l e R s m args below meth c H locs cells slots Q (F0 m 18 ls []) := by
  have hx := S.1
  have hb := S.2.1
  have hown : s.vm.findClass R_N = some m.cls := S.2.2.2.1
  have hG := S.2.2.2.2
  intro i
  induction i with
  | zero =>
    intro j d H locs ls hj he hd hl hw
    -- METHOD N_copy | loc 0=x 1=o 2=j | ws x xl o ol | fld x.d=xl o.d=ol
    refine lv_iload_n hx hb d_N_copy_18 rfl (lv_at hl 2 rfl) ?_
    refine lv_aload_n hx hb d_N_copy_19 rfl (lv_at hl 0 rfl) ?_
    refine k_get hx hb hG lay_N hown hw 0 rfl rfl 1 (by decide) (hG _ fl_N_13) (fun _ h9 => h9) rfl d_N_copy_20 ?_
    refine lv_icmp_ge (tgt := 44) hx hb d_N_copy_23 (by decide) (fun hc => ?_) (fun hc => ?_)
    · exact kx d H locs ls (fun i hi => he i (by omega)) hd hw
    · exact absurd (nI_le (by omega) (by omega)) hc
  | succ i ih =>
    intro j d H locs ls hj he hd hl hw
    -- METHOD N_copy | loc 0=x 1=o 2=j | ws x xl o ol | fld x.d=xl o.d=ol
    refine lv_iload_n hx hb d_N_copy_18 rfl (lv_at hl 2 rfl) ?_
    refine lv_aload_n hx hb d_N_copy_19 rfl (lv_at hl 0 rfl) ?_
    refine k_get hx hb hG lay_N hown hw 0 rfl rfl 1 (by decide) (hG _ fl_N_13) (fun _ h9 => h9) rfl d_N_copy_20 ?_
    refine lv_icmp_ge (tgt := 44) hx hb d_N_copy_23 (by decide) (fun hc => ?_) (fun hc => ?_)
    · exact absurd hc (nI_ge (by omega) (by omega))
    refine lv_aload_n hx hb d_N_copy_26 rfl (lv_at hl 0 rfl) ?_
    refine k_get hx hb hG lay_N hown hw 0 rfl rfl 0 (by decide) (hG _ fl_N_7) (fun _ h9 => h9) rfl d_N_copy_27 ?_
    refine lv_iload_n hx hb d_N_copy_30 rfl (lv_at hl 2 rfl) ?_
    refine lv_aload_n hx hb d_N_copy_31 rfl (lv_at hl 1 rfl) ?_
    refine k_get hx hb hG lay_N hown hw 2 rfl rfl 0 (by decide) (hG _ fl_N_7) (fun _ h9 => h9) rfl d_N_copy_32 ?_
    refine lv_iload_n hx hb d_N_copy_35 rfl (lv_at hl 2 rfl) ?_
    refine k_iald hx hb hw 3 0 rfl rfl (j) (rfl) (by omega) (by first | decide | omega) d_N_copy_36 ?_
    refine k_iast hx hb hw 1 0 rfl rfl (j) (rfl) (by omega) (by first | decide | omega) d_N_copy_37 (fun H locs hw => ?_)
    rw [show nD d2 j = nI (d2 j) from rfl, nD_upd] at hw
    refine lv_iinc (k := 2) hx hb d_N_copy_38 hl rfl (ii1 j) (by decide) rfl (fun ls hl => ?_)
    refine lv_goto (tgt := 18) hx hb d_N_copy_41 (by decide) ?_
    have hl := lv_sub hl [1, 2, 0] rfl
    refine ih (j + 1) _ H locs ls (by omega) (fun i hi => ?_) (fun i hi => ?_) hl hw
    · by_cases e : i = j
      · rw [e, va_up_self]
      · rw [va_up_ne _ _ e]; exact he i (by omega)
    · by_cases e : i = j
      · rw [e, va_up_self]; exact hd2 j (by omega)
      · rw [va_up_ne _ _ e]; exact hd i hi
end NCPY
set_option maxRecDepth 100000 in
set_option maxHeartbeats 4000000 in
theorem m_N_copy (l : Launch) (D : va_G) (k : Nat → ClassId) (L : List Nat) (f : Nat → va_E) (x xl n o ol n2 : Nat) (mi mi2 : Bool) (d d2 : Nat → Nat) (w : Int) (hd : ∀ i, i < 160 → d i < D16) (hw2 : nr n2 mi2 d2 w) (hk : kn L f f [(x, cN xl n mi), (xl, cE k d), (o, cN ol n2 mi2), (ol, cE k d2)]) : Mv l y_N_copy (Cond.code y_N_copy c_N_copy 3 none :: G) (rmN 0) D cls (tyl k) L f [.ref x, .ref o] (fun f' => ∃ d', nr n2 mi2 d' w ∧ kn L f f' [(x, cN xl n2 mi2), (xl, cE k d'), (o, cN ol n2 mi2), (ol, cE k d2)]) := by
  -- METHOD N_copy | loc 0=x 1=o | ws x xl o ol | fld x.d=xl o.d=ol
  refine mk_met (by decide) (Nat.le_of_ble_eq_true rfl) (fun p e s m below meth c ls S hr hlocks hw hl => ?_)
  have hx := S.1
  have hb := S.2.1
  have hown : s.vm.findClass R_N = some m.cls := S.2.2.2.1
  have hG := S.2.2.2.2
  have hl : lv_has ls 3 [(0, .ref x), (1, .ref o)] := hl
  have hg := hw
  have hw : kw D cls (tyl k) L s s.heap f [(x, cN xl n mi), (xl, cE k d), (o, cN ol n2 mi2), (ol, cE k d2)] s.heap [] := ⟨f, hw, hk⟩
  refine lv_aload_n hx hb d_N_copy_0 rfl (lv_at hl 0 rfl) ?_
  refine lv_aload_n hx hb d_N_copy_1 rfl (lv_at hl 1 rfl) ?_
  refine k_get hx hb hG lay_N hown hw 2 rfl rfl 1 (by decide) (hG _ fl_N_13) (fun _ h9 => h9) rfl d_N_copy_2 ?_
  refine k_put (ty := .int) hx hb hG lay_N ft_N ft_N_ok fn_N hown hw 0 rfl rfl 1 (by decide) (hG _ fl_N_13) (fun _ h9 => h9) rfl (by decide +kernel) rfl rfl (by simp) d_N_copy_5 (fun H locs hw => ?_)
  refine lv_aload_n hx hb d_N_copy_8 rfl (lv_at hl 0 rfl) ?_
  refine lv_aload_n hx hb d_N_copy_9 rfl (lv_at hl 1 rfl) ?_
  refine k_get hx hb hG lay_N hown hw 2 rfl rfl 2 (by decide) (hG _ fl_N_17) (fun _ h9 => h9) rfl d_N_copy_10 ?_
  refine k_put (ty := .boolean) hx hb hG lay_N ft_N ft_N_ok fn_N hown hw 0 rfl rfl 2 (by decide) (hG _ fl_N_17) (fun _ h9 => h9) rfl (by decide +kernel) (bI_narrow mi2) (bI_fits mi2) (by simp) d_N_copy_13 (fun H locs hw => ?_)
  refine lv_iconst (v := 0) hx hb d_N_copy_16 (by decide) ?_
  refine lv_istore_n hx hb d_N_copy_17 rfl hl (by decide) rfl (fun ls hl => ?_)
  have hl := lv_sub hl [1, 2, 0] rfl
  refine w_ncopy S hw2.1 (fun d' H locs ls he hd' hw => ?_) hw2.2.1 n2 0 d _ _ ls (by omega) (fun i hi => by omega) hd hl hw
  obtain ⟨f', hw, hk'⟩ := hw
  refine g_retv hx hb hr hlocks hw ⟨d', ⟨hw2.1, hd', fun h => ?_, hw2.2.2.2.1, ?_⟩, hk'⟩ d_N_copy_44
  · rw [he _ (by omega)]; exact hw2.2.2.1 h
  · rw [cd_congr (b := D16) n2 he]; exact hw2.2.2.2.2


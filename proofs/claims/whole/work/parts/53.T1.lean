-- ===== Table: one number =====
abbrev cT (fd rw cl rd : Int32) (pa nu : Nat) : va_E := .inr (3, [.int fd, .int rw, .int cl, .int rd, .ref pa, .ref nu])
abbrev cO (k : Nat → ClassId) (z : Nat → Option Nat) : va_E := .inl (k 1, 12, .inr (.inr (.inr (.inr z))))
abbrev cR (k : Nat → ClassId) (w : Nat → Int32) : va_E := .inl (k 0, 72, .inl w)
/-- the number in a column of a row of ints -/
def nm (w : Nat → Int32) (j : Nat) (v : Int) : Prop := ∃ (n : Nat) (d : Nat → Nat), n ≤ 5 ∧ (∀ i, i < n → w (j * 6 + 1 + i) = nI (d i) ∧ d i < B30) ∧ (0 < n → d (n - 1) ≠ 0) ∧ w (j * 6) = zI (v.sign * n) ∧ v.natAbs = cd B30 n d
theorem abs_zI {a : Int} (h : -2147483648 < a ∧ a < 2147483648) : (if 0 ≤ zI a then zI a else -zI a) = zI (a.natAbs : Int) := by
  have hle : (0 : Int32) ≤ zI a ↔ 0 ≤ a := zI_le (a := 0) ⟨by decide, by decide⟩ ⟨by omega, by omega⟩
  by_cases h0 : 0 ≤ a
  · rw [if_pos (hle.mpr h0)]; congr 1; omega
  · rw [if_neg (fun q => h0 (hle.mp q)), zI_neg]; congr 1; omega
theorem six (a : Nat) : nI a * 6 = nI (a * 6) := pk_mul a 6
set_option maxRecDepth 100000 in
set_option maxHeartbeats 4000000 in
theorem m_T_head (l : Launch) (D : va_G) (k : Nat → ClassId) (L : List Nat) (f : Nat → va_E) (t pa nu rr : Nat) (fd rw cl rd : Int32) (z : Nat → Option Nat) (w : Nat → Int32) (row col : Nat) (hrow : row < 12) (hcol : col < 12) (hz : z row = some rr) (hk : kn L f f [(t, cT fd rw cl rd pa nu), (nu, cO k z), (rr, cR k w)]) : Mi l y_T_head (Cond.code y_T_head c_T_head 3 (some .int) :: G) (rmN 0) D cls (tyl k) L f [.ref t, .int (nI row), .int (nI col)] (fun r f' => f' = f ∧ r = w (col * 6)) := by
  -- METHOD T_head | loc 0=t 1=row 2=col | ws t nu rr | fld t.numbers=nu
  refine mk_met (by decide) (Nat.le_of_ble_eq_true rfl) (fun p e s m below meth c ls S hr hlocks hw hl => ?_)
  have hx := S.1
  have hb := S.2.1
  have hown : s.vm.findClass R_T = some m.cls := S.2.2.2.1
  have hG := S.2.2.2.2
  have hl : lv_has ls 3 [(0, .ref t), (1, .int (nI row)), (2, .int (nI col))] := hl
  have hg := hw
  have hw : kw D cls (tyl k) L s s.heap f [(t, cT fd rw cl rd pa nu), (nu, cO k z), (rr, cR k w)] s.heap [] := ⟨f, hw, hk⟩
  refine lv_aload_n hx hb d_T_head_0 rfl (lv_at hl 0 rfl) ?_
  refine k_get hx hb hG lay_T hown hw 0 rfl rfl 5 (by decide) (hG _ fl_T_21) (fun _ h9 => h9) rfl d_T_head_1 ?_
  refine lv_iload_n hx hb d_T_head_4 rfl (lv_at hl 1 rfl) ?_
  refine k_aaldA hx hb hw 1 1 rfl rfl (row) (rfl) (hrow) (by first | decide | omega) (hz) d_T_head_5 ?_
  refine lv_iload_n hx hb d_T_head_6 rfl (lv_at hl 2 rfl) ?_
  refine lv_bipush (v := 6) hx hb d_T_head_7 (by decide) ?_
  refine lv_imul hx hb d_T_head_9 ?_
  refine k_iald hx hb hw 2 0 rfl rfl ((col * 6)) (six col) (by omega) (by first | decide | omega) d_T_head_10 ?_
  exact g_reti hx hb hr hlocks hg ⟨rfl, rfl⟩ d_T_head_11
set_option maxRecDepth 100000 in
set_option maxHeartbeats 4000000 in
theorem m_T_isZero (l : Launch) (D : va_G) (k : Nat → ClassId) (L : List Nat) (f : Nat → va_E) (t pa nu rr : Nat) (fd rw cl rd : Int32) (z : Nat → Option Nat) (w : Nat → Int32) (row col : Nat) (hrow : row < 12) (hcol : col < 12) (hz : z row = some rr) (hk : kn L f f [(t, cT fd rw cl rd pa nu), (nu, cO k z), (rr, cR k w)]) : Mi l y_T_isZero (Cond.code y_T_isZero c_T_isZero 3 (some .boolean) :: G) (rmN 1) D cls (tyl k) L f [.ref t, .int (nI row), .int (nI col)] (fun r f' => f' = f ∧ r = if w (col * 6) = 0 then 1 else 0) := by
  -- METHOD T_isZero | loc 0=t 1=row 2=col | ws t nu rr | fld t.numbers=nu
  refine mk_met (by decide) (Nat.le_of_ble_eq_true rfl) (fun p e s m below meth c ls S hr hlocks hw hl => ?_)
  have hx := S.1
  have hb := S.2.1
  have hown : s.vm.findClass R_T = some m.cls := S.2.2.2.1
  have hG := S.2.2.2.2
  have hl : lv_has ls 3 [(0, .ref t), (1, .int (nI row)), (2, .int (nI col))] := hl
  have hg := hw
  refine lv_aload_n hx hb d_T_isZero_0 rfl (lv_at hl 0 rfl) ?_
  refine lv_iload_n hx hb d_T_isZero_1 rfl (lv_at hl 1 rfl) ?_
  refine lv_iload_n hx hb d_T_isZero_2 rfl (lv_at hl 2 rfl) ?_
  refine g_oi (c_V (np := 2) S (m_T_head l D k L f t pa nu rr fd rw cl rd z w row col hrow hcol hz hk) hw ((hk.1 0 _ rfl).1) ((hk.1 0 _ rfl).2) rfl ml_T_44 im_T_head se_T_T_head in_T co_T_head (by decide +kernel) rfl ⟨rfl, rfl, by decide, by decide⟩ hl.1 rfl (by simp [Value.category]) d_T_isZero_3 ⟨Nat.zero_le _, Nat.zero_le _⟩) hw (fun r1 f1 H locs hp hw2 => ?_)
  rw [hp.1] at hw2
  refine l_top hp.2 ?_
  refine lv_if_ne (tgt := 13) hx hb d_T_isZero_6 (by decide) (fun hc => ?_) (fun hc => ?_)
  · -- STK
    refine lv_iconst (v := 0) hx hb d_T_isZero_13 (by decide) ?_
    exact g_retz hx hb hr hlocks hw2 rfl ⟨rfl, by rw [if_neg hc]⟩ d_T_isZero_14
  · -- STK
    refine lv_iconst (v := 1) hx hb d_T_isZero_9 (by decide) ?_
    refine lv_goto (tgt := 14) hx hb d_T_isZero_10 (by decide) ?_
    exact g_retz hx hb hr hlocks hw2 rfl ⟨rfl, by rw [if_pos hc]⟩ d_T_isZero_14
set_option maxRecDepth 100000 in
set_option maxHeartbeats 4000000 in
theorem m_T_small (l : Launch) (D : va_G) (k : Nat → ClassId) (L : List Nat) (f : Nat → va_E) (t pa nu rr : Nat) (fd rw cl rd : Int32) (z : Nat → Option Nat) (w : Nat → Int32) (row col : Nat) (hrow : row < 12) (hcol : col < 12) (hz : z row = some rr) (hk : kn L f f [(t, cT fd rw cl rd pa nu), (nu, cO k z), (rr, cR k w)]) : Mi l y_T_small (Cond.code y_T_small c_T_small 3 (some .int) :: G) (rmN 1) D cls (tyl k) L f [.ref t, .int (nI row), .int (nI col)] (fun r f' => f' = f ∧ r = w (col * 6) * w (col * 6 + 1)) := by
  -- METHOD T_small | loc 0=t 1=row 2=col | ws t nu rr | fld t.numbers=nu
  refine mk_met (by decide) (Nat.le_of_ble_eq_true rfl) (fun p e s m below meth c ls S hr hlocks hw hl => ?_)
  have hx := S.1
  have hb := S.2.1
  have hown : s.vm.findClass R_T = some m.cls := S.2.2.2.1
  have hG := S.2.2.2.2
  have hl : lv_has ls 3 [(0, .ref t), (1, .int (nI row)), (2, .int (nI col))] := hl
  have hg := hw
  refine lv_aload_n hx hb d_T_small_0 rfl (lv_at hl 0 rfl) ?_
  refine lv_iload_n hx hb d_T_small_1 rfl (lv_at hl 1 rfl) ?_
  refine lv_iload_n hx hb d_T_small_2 rfl (lv_at hl 2 rfl) ?_
  refine g_oi (c_V (np := 2) S (m_T_head l D k L f t pa nu rr fd rw cl rd z w row col hrow hcol hz hk) hw ((hk.1 0 _ rfl).1) ((hk.1 0 _ rfl).2) rfl ml_T_44 im_T_head se_T_T_head in_T co_T_head (by decide +kernel) rfl ⟨rfl, rfl, by decide, by decide⟩ hl.1 rfl (by simp [Value.category]) d_T_small_3 ⟨Nat.zero_le _, Nat.zero_le _⟩) hw (fun r1 f1 H locs hp hw2 => ?_)
  rw [hp.1] at hw2
  refine l_top hp.2 ?_
  have hw : kw D cls (tyl k) L s s.heap f [(t, cT fd rw cl rd pa nu), (nu, cO k z), (rr, cR k w)] H locs := ⟨f, hw2, hk⟩
  refine lv_aload_n hx hb d_T_small_6 rfl (lv_at hl 0 rfl) ?_
  refine k_get hx hb hG lay_T hown hw 0 rfl rfl 5 (by decide) (hG _ fl_T_21) (fun _ h9 => h9) rfl d_T_small_7 ?_
  refine lv_iload_n hx hb d_T_small_10 rfl (lv_at hl 1 rfl) ?_
  refine k_aaldA hx hb hw 1 1 rfl rfl (row) (rfl) (hrow) (by first | decide | omega) (hz) d_T_small_11 ?_
  refine lv_iload_n hx hb d_T_small_12 rfl (lv_at hl 2 rfl) ?_
  refine lv_bipush (v := 6) hx hb d_T_small_13 (by decide) ?_
  refine lv_imul hx hb d_T_small_15 ?_
  refine l_top (six col) ?_
  refine lv_iconst (v := 1) hx hb d_T_small_16 (by decide) ?_
  refine lv_iadd hx hb d_T_small_17 ?_
  refine k_iald hx hb hw 2 0 rfl rfl ((col * 6 + 1)) (nI_1 _) (by omega) (by first | decide | omega) d_T_small_18 ?_
  refine lv_imul hx hb d_T_small_19 ?_
  exact g_reti hx hb hr hlocks hw2 ⟨rfl, rfl⟩ d_T_small_20
set_option maxRecDepth 100000 in
set_option maxHeartbeats 4000000 in
theorem m_T_setSmall (l : Launch) (D : va_G) (k : Nat → ClassId) (L : List Nat) (f : Nat → va_E) (t pa nu rr : Nat) (fd rw cl rd : Int32) (z : Nat → Option Nat) (w : Nat → Int32) (row col : Nat) (hrow : row < 12) (hcol : col < 12) (hz : z row = some rr) (v : Int) (hv : -2147483648 < v ∧ v < 2147483648) (hk : kn L f f [(t, cT fd rw cl rd pa nu), (nu, cO k z), (rr, cR k w)]) : Mv l y_T_setSmall (Cond.code y_T_setSmall c_T_setSmall 4 none :: G) (rmN 1) D cls (tyl k) L f [.ref t, .int (nI row), .int (nI col), .int (zI v)] (fun f' => kn L f f' [(t, cT fd rw cl rd pa nu), (nu, cO k z), (rr, cR k (upd (upd w (col * 6) (zI v.sign)) (col * 6 + 1) (zI v.natAbs)))]) := by
  -- METHOD T_setSmall | loc 0=t 1=row 2=col 3=v | ws t nu rr | fld t.numbers=nu
  refine mk_met (by decide) (Nat.le_of_ble_eq_true rfl) (fun p e s m below meth c ls S hr hlocks hw hl => ?_)
  have hx := S.1
  have hb := S.2.1
  have hown : s.vm.findClass R_T = some m.cls := S.2.2.2.1
  have hG := S.2.2.2.2
  have hl : lv_has ls 4 [(0, .ref t), (1, .int (nI row)), (2, .int (nI col)), (3, .int (zI v))] := hl
  have hg := hw
  have hw : kw D cls (tyl k) L s s.heap f [(t, cT fd rw cl rd pa nu), (nu, cO k z), (rr, cR k w)] s.heap [] := ⟨f, hw, hk⟩
  refine lv_aload_n hx hb d_T_setSmall_0 rfl (lv_at hl 0 rfl) ?_
  refine k_get hx hb hG lay_T hown hw 0 rfl rfl 5 (by decide) (hG _ fl_T_21) (fun _ h9 => h9) rfl d_T_setSmall_1 ?_
  refine lv_iload_n hx hb d_T_setSmall_4 rfl (lv_at hl 1 rfl) ?_
  refine k_aaldA hx hb hw 1 1 rfl rfl (row) (rfl) (hrow) (by first | decide | omega) (hz) d_T_setSmall_5 ?_
  refine lv_iload_n hx hb d_T_setSmall_6 rfl (lv_at hl 2 rfl) ?_
  refine lv_bipush (v := 6) hx hb d_T_setSmall_7 (by decide) ?_
  refine lv_imul hx hb d_T_setSmall_9 ?_
  refine l_top (six col) ?_
  refine lv_iload_n hx hb d_T_setSmall_10 rfl (lv_at hl 3 rfl) ?_
  obtain ⟨f1, hw, hk1⟩ := hw
  refine g_oi (c_X (np := 1) S (m_signum l D k L f1 v hv) hw ml_T_48 st_JI_signum in_JI co_JI_signum (by decide +kernel) rfl ⟨rfl, rfl, by decide, by decide⟩ hl.1 rfl (by simp [Value.category]) d_T_setSmall_11 ⟨Nat.zero_le _, Nat.zero_le _⟩) hw (fun r1 f2 H locs hp hw2 => ?_)
  rw [hp.1] at hw2
  refine l_top hp.2 ?_
  have hw : kw D cls (tyl k) L s s.heap f [(t, cT fd rw cl rd pa nu), (nu, cO k z), (rr, cR k w)] H locs := ⟨f1, hw2, hk1⟩
  refine k_iast hx hb hw 2 0 rfl rfl ((col * 6)) (rfl) (by omega) (by first | decide | omega) d_T_setSmall_14 (fun H locs hw => ?_)
  refine lv_aload_n hx hb d_T_setSmall_15 rfl (lv_at hl 0 rfl) ?_
  refine k_get hx hb hG lay_T hown hw 0 rfl rfl 5 (by decide) (hG _ fl_T_21) (fun _ h9 => h9) rfl d_T_setSmall_16 ?_
  refine lv_iload_n hx hb d_T_setSmall_19 rfl (lv_at hl 1 rfl) ?_
  refine k_aaldA hx hb hw 1 1 rfl rfl (row) (rfl) (hrow) (by first | decide | omega) (hz) d_T_setSmall_20 ?_
  refine lv_iload_n hx hb d_T_setSmall_21 rfl (lv_at hl 2 rfl) ?_
  refine lv_bipush (v := 6) hx hb d_T_setSmall_22 (by decide) ?_
  refine lv_imul hx hb d_T_setSmall_24 ?_
  refine l_top (six col) ?_
  refine lv_iconst (v := 1) hx hb d_T_setSmall_25 (by decide) ?_
  refine lv_iadd hx hb d_T_setSmall_26 ?_
  refine l_top (nI_1 _) ?_
  refine lv_iload_n hx hb d_T_setSmall_27 rfl (lv_at hl 3 rfl) ?_
  obtain ⟨f3, hw, hk3⟩ := hw
  refine g_oi (c_X (np := 1) S (m_abs l D k L f3 (zI v)) hw ml_T_54 st_JM_abs in_JM co_JM_abs (by decide +kernel) rfl ⟨rfl, rfl, by decide, by decide⟩ hl.1 rfl (by simp [Value.category]) d_T_setSmall_28 ⟨Nat.zero_le _, Nat.zero_le _⟩) hw (fun r4 f4 H locs hp4 hw4 => ?_)
  rw [hp4.1] at hw4
  have e4 : r4 = zI v.natAbs := by rw [hp4.2]; exact abs_zI hv
  refine l_top e4 ?_
  have hw : kw D cls (tyl k) L s s.heap f [(t, cT fd rw cl rd pa nu), (nu, cO k z), (rr, cR k (upd w (col * 6) (zI v.sign)))] H locs := ⟨f3, hw4, hk3⟩
  refine k_iast hx hb hw 2 0 rfl rfl ((col * 6 + 1)) (rfl) (by omega) (by first | decide | omega) d_T_setSmall_31 (fun H locs hw => ?_)
  obtain ⟨f5, hw, hk5⟩ := hw
  exact g_retv hx hb hr hlocks hw hk5 d_T_setSmall_32
theorem nm_small {w : Nat → Int32} {j : Nat} {v : Int} (h1 : w (j * 6) = zI v.sign) (h2 : w (j * 6 + 1) = zI v.natAbs) (hv : v.natAbs < B30) : nm w j v := by
  by_cases h : v = 0
  · subst h
    exact ⟨0, fun _ => 0, by omega, fun i hi => by omega, fun h => by omega, h1, rfl⟩
  · have hd1 : ∀ i, i < 1 → w (j * 6 + 1 + i) = nI ((fun _ : Nat => v.natAbs) i) ∧ (fun _ : Nat => v.natAbs) i < B30 := by
      intro i hi
      have e0 : i = 0 := by omega
      subst e0
      exact ⟨h2, hv⟩
    refine ⟨1, fun _ => v.natAbs, by omega, hd1, fun _ => by show v.natAbs ≠ 0; omega, by rw [h1, Int.natCast_one, Int.mul_one], ?_⟩
    show v.natAbs = 0 + v.natAbs * B30 ^ 0
    rw [Nat.pow_zero]; omega
set_option maxRecDepth 100000 in
set_option maxHeartbeats 4000000 in
/-- load(row, column, o): o becomes the number -/
theorem m_T_load (l : Launch) (D : va_G) (k : Nat → ClassId) (L : List Nat) (f : Nat → va_E) (t pa nu rr : Nat) (fd rw cl rd : Int32) (z : Nat → Option Nat) (w : Nat → Int32) (row col : Nat) (hrow : row < 12) (hcol : col < 12) (hz : z row = some rr) (o ol n2 : Nat) (g2 : Int32) (d2 : Nat → Nat) (v : Int) (hv : nm w col v) (hd2 : ∀ i, i < 12 → d2 i < B30) (hk : kn L f f [(t, cT fd rw cl rd pa nu), (nu, cO k z), (rr, cR k w), (o, cW ol n2 g2), (ol, cD k d2)]) : Mv l y_T_load (Cond.code y_T_load c_T_load 5 none :: G) (rmN 1) D cls (tyl k) L f [.ref t, .int (nI row), .int (nI col), .ref o] (fun f' => ∃ (n' : Nat) (g' : Int32) (d' : Nat → Nat), wr n' g' d' v ∧ n' ≤ 5 ∧ kn L f f' [(t, cT fd rw cl rd pa nu), (nu, cO k z), (rr, cR k w), (o, cW ol n' g'), (ol, cD k d')]) := by
  obtain ⟨n, d, hn, hdg, htop, hhd, habs⟩ := hv
  have hs1 : -1 ≤ v.sign ∧ v.sign ≤ 1 := by rcases Int.lt_trichotomy v 0 with h | h | h <;> simp [Int.sign_eq_neg_one_of_neg, Int.sign_eq_one_of_pos, h]
  have hn0 : n = 0 ↔ v = 0 := by
    constructor
    · intro h; rw [h] at habs; have : cd B30 0 d = 0 := rfl; omega
    · intro h
      apply Classical.byContradiction
      intro h0
      obtain ⟨m9, rfl⟩ : ∃ m9, n = m9 + 1 := ⟨n - 1, by omega⟩
      have h5 := cd_ge (b := B30) (n := m9) (d := d) (htop (by omega))
      have h6 : 0 < B30 ^ m9 := Nat.pow_pos (by decide)
      omega
  have hab : (v.sign * (n : Int)).natAbs = n := by
    rcases Int.lt_trichotomy v 0 with h | h | h
    · rw [Int.sign_eq_neg_one_of_neg h]; omega
    · have e0 := hn0.mpr h
      subst e0; simp
    · rw [Int.sign_eq_one_of_pos h]; omega
  have hsn : (v.sign * (n : Int)).sign = v.sign := by
    rw [Int.sign_mul, Int.sign_sign]
    by_cases h : n = 0
    · rw [hn0.mp h]; simp
    · rw [Int.sign_eq_one_of_pos (show (0 : Int) < n by omega), Int.mul_one]
  have hrng : -5 ≤ v.sign * (n : Int) ∧ v.sign * (n : Int) ≤ 5 := by omega
  -- METHOD T_load | loc 0=t 1=row 2=col 3=o | ws t nu rr o ol | fld t.numbers=nu o.limbs=ol
  refine mk_met (by decide) (Nat.le_of_ble_eq_true rfl) (fun p e s m below meth c ls S hr hlocks hw hl => ?_)
  have hx := S.1
  have hb := S.2.1
  have hown : s.vm.findClass R_T = some m.cls := S.2.2.2.1
  have hG := S.2.2.2.2
  have hl : lv_has ls 5 [(0, .ref t), (1, .int (nI row)), (2, .int (nI col)), (3, .ref o)] := hl
  have hg := hw
  refine lv_aload_n hx hb d_T_load_0 rfl (lv_at hl 0 rfl) ?_
  refine lv_iload_n hx hb d_T_load_1 rfl (lv_at hl 1 rfl) ?_
  refine lv_iload_n hx hb d_T_load_2 rfl (lv_at hl 2 rfl) ?_
  refine g_oi (c_V (np := 2) S (m_T_head l D k L f t pa nu rr fd rw cl rd z w row col hrow hcol hz (kn_sub hk [0, 1, 2] rfl rfl)) hw ((hk.1 0 _ rfl).1) ((hk.1 0 _ rfl).2) rfl ml_T_44 im_T_head se_T_T_head in_T co_T_head (by decide +kernel) rfl ⟨rfl, rfl, by decide, by decide⟩ hl.1 rfl (by simp [Value.category]) d_T_load_3 ⟨Nat.zero_le _, Nat.zero_le _⟩) hw (fun r1 f1 H locs hp hw2 => ?_)
  rw [hp.1] at hw2
  have hw := hw2
  refine l_top (hp.2.trans hhd) ?_
  refine lv_istore hx hb d_T_load_6 hl (by decide) rfl (fun ls hl => ?_)
  refine lv_aload_n hx hb d_T_load_8 rfl (lv_at hl 4 rfl) ?_
  refine lv_iload hx hb d_T_load_9 (lv_at hl 0 rfl) ?_
  refine g_oi (c_X (np := 1) S (m_abs l D k L f (zI (v.sign * (n : Int)))) hw ml_T_54 st_JM_abs in_JM co_JM_abs (by decide +kernel) rfl ⟨rfl, rfl, by decide, by decide⟩ hl.1 rfl (by simp [Value.category]) d_T_load_11 ⟨Nat.zero_le _, Nat.zero_le _⟩) hw (fun r4 f4 H locs hp4 hw4 => ?_)
  rw [hp4.1] at hw4
  have e4 : r4 = nI n := by
    rw [hp4.2, abs_zI ⟨by omega, by omega⟩, hab, zI_n]
  refine l_top e4 ?_
  have hw : kw D cls (tyl k) L s s.heap f [(t, cT fd rw cl rd pa nu), (nu, cO k z), (rr, cR k w), (o, cW ol n2 g2), (ol, cD k d2)] H locs := ⟨f, hw4, hk⟩
  refine k_put (ty := .int) hx hb hG lay_W ft_W ft_W_ok fn_W hown hw 3 rfl rfl 1 (by decide) (hG _ fl_T_59) (fun _ h9 => h9) rfl (by decide +kernel) rfl rfl (by simp) d_T_load_14 (fun H locs hw => ?_)
  refine lv_aload_n hx hb d_T_load_17 rfl (lv_at hl 4 rfl) ?_
  refine lv_iload hx hb d_T_load_18 (lv_at hl 0 rfl) ?_
  obtain ⟨f5, hw, hk5⟩ := hw
  refine g_oi (c_X (np := 1) S (m_signum l D k L f5 (v.sign * (n : Int)) ⟨by omega, by omega⟩) hw ml_T_48 st_JI_signum in_JI co_JI_signum (by decide +kernel) rfl ⟨rfl, rfl, by decide, by decide⟩ hl.1 rfl (by simp [Value.category]) d_T_load_20 ⟨Nat.zero_le _, Nat.zero_le _⟩) hw (fun r6 f6 H locs hp6 hw6 => ?_)
  rw [hp6.1] at hw6
  refine l_top (hp6.2.trans (by rw [hsn])) ?_
  have hw : kw D cls (tyl k) L s s.heap f [(t, cT fd rw cl rd pa nu), (nu, cO k z), (rr, cR k w), (o, cW ol n g2), (ol, cD k d2)] H locs := ⟨f5, hw6, hk5⟩
  refine k_put (ty := .int) hx hb hG lay_W ft_W ft_W_ok fn_W hown hw 3 rfl rfl 2 (by decide) (hG _ fl_T_64) (fun _ h9 => h9) rfl (by decide +kernel) rfl rfl (by simp) d_T_load_23 (fun H locs hw => ?_)
  refine lv_aload_n hx hb d_T_load_26 rfl (lv_at hl 1 rfl) ?_
  refine k_get hx hb hG lay_T hown hw 0 rfl rfl 5 (by decide) (hG _ fl_T_21) (fun _ h9 => h9) rfl d_T_load_27 ?_
  refine lv_iload_n hx hb d_T_load_30 rfl (lv_at hl 2 rfl) ?_
  refine k_aaldA hx hb hw 1 1 rfl rfl (row) (rfl) (hrow) (by first | decide | omega) (hz) d_T_load_31 ?_
  refine lv_iload_n hx hb d_T_load_32 rfl (lv_at hl 3 rfl) ?_
  refine lv_bipush (v := 6) hx hb d_T_load_33 (by decide) ?_
  refine lv_imul hx hb d_T_load_35 ?_
  refine l_top (six col) ?_
  refine lv_iconst (v := 1) hx hb d_T_load_36 (by decide) ?_
  refine lv_iadd hx hb d_T_load_37 ?_
  refine l_top (nI_1 _) ?_
  refine lv_aload_n hx hb d_T_load_38 rfl (lv_at hl 4 rfl) ?_
  refine k_get hx hb hG lay_W hown hw 3 rfl rfl 0 (by decide) (hG _ fl_T_66) (fun _ h9 => h9) rfl d_T_load_39 ?_
  refine lv_iconst (v := 0) hx hb d_T_load_42 (by decide) ?_
  refine lv_aload_n hx hb d_T_load_43 rfl (lv_at hl 4 rfl) ?_
  refine k_get hx hb hG lay_W hown hw 3 rfl rfl 1 (by decide) (hG _ fl_T_59) (fun _ h9 => h9) rfl d_T_load_44 ?_
  refine k_copyi hx hb (by rw [S.2.2.1]; exact hl.1.symm) hown (hG _ ml_T_69) (hG _ nv_arraycopy) (hG _ st_arraycopy) (hG _ in_JS) hw 2 4 0 rfl rfl rfl (col * 6 + 1) 0 n rfl rfl rfl (by omega) (by omega) (by decide) (by decide) (by decide) (by simp [Value.category]; decide) d_T_load_47 (fun H locs hw => ?_)
  have ecp : va_cpy w (nD d2) (col * 6 + 1) 0 n = nD (va_cpy d d2 0 0 n) := by
    funext i
    by_cases h : i < n
    · rw [pk_cpy_in (by omega) (by omega)]
      show w _ = nI (va_cpy d d2 0 0 n i)
      rw [pk_cpy_in (by omega) (by omega), ← (hdg (0 + (i - 0)) (by omega)).1]
      congr 1
      omega
    · rw [pk_cpy_out (by omega)]
      show nI (d2 i) = nI (va_cpy d d2 0 0 n i)
      rw [pk_cpy_out (by omega)]
  rw [ecp] at hw
  obtain ⟨f7, hw, hk7⟩ := hw
  have hcd : cd B30 n (va_cpy d d2 0 0 n) = cd B30 n d := cd_congr n (fun i hi => by rw [pk_cpy_in (by omega) (by omega)]; congr 1; omega)
  refine g_retv hx hb hr hlocks hw ⟨n, zI v.sign, va_cpy d d2 0 0 n, ⟨by omega, fun i hi => ?_, ?_⟩, hn, hk7⟩ d_T_load_50
  · by_cases h : i < n
    · rw [pk_cpy_in (by omega) (by omega)]; exact (hdg _ (by omega)).2
    · rw [pk_cpy_out (by omega)]; exact hd2 i hi
  · rcases Int.lt_trichotomy v 0 with h | h | h
    · have hne : n ≠ 0 := fun q => by have := hn0.mp q; omega
      refine Or.inr ⟨by omega, by rw [pk_cpy_in (by omega) (by omega), show 0 + (n - 1 - 0) = n - 1 by omega]; exact htop (by omega), Or.inr ⟨by rw [Int.sign_eq_neg_one_of_neg h]; decide, by rw [hcd]; omega⟩⟩
    · exact Or.inl ⟨hn0.mpr h, by rw [h]; rfl, h⟩
    · have hne : n ≠ 0 := fun q => by have := hn0.mp q; omega
      refine Or.inr ⟨by omega, by rw [pk_cpy_in (by omega) (by omega), show 0 + (n - 1 - 0) = n - 1 by omega]; exact htop (by omega), Or.inl ⟨by rw [Int.sign_eq_one_of_pos h]; rfl, by rw [hcd]; omega⟩⟩
set_option maxRecDepth 100000 in
set_option maxHeartbeats 4000000 in
/-- store(row, column, o): the number becomes o's, if that has 5 limbs at most -/
theorem m_T_store (l : Launch) (D : va_G) (k : Nat → ClassId) (L : List Nat) (f : Nat → va_E) (t pa nu rr : Nat) (fd rw cl rd : Int32) (z : Nat → Option Nat) (w : Nat → Int32) (row col : Nat) (hrow : row < 12) (hcol : col < 12) (hz : z row = some rr) (o ol n2 : Nat) (g2 : Int32) (d2 : Nat → Nat) (v : Int) (hv : wr n2 g2 d2 v) (hn5 : n2 ≤ 5) (hk : kn L f f [(t, cT fd rw cl rd pa nu), (nu, cO k z), (rr, cR k w), (o, cW ol n2 g2), (ol, cD k d2)]) : Mv l y_T_store (Cond.code y_T_store c_T_store 5 none :: G) (rmN 1) D cls (tyl k) L f [.ref t, .int (nI row), .int (nI col), .ref o] (fun f' => ∃ w' : Nat → Int32, nm w' col v ∧ (∀ i, i < col * 6 ∨ col * 6 + 6 ≤ i → w' i = w i) ∧ kn L f f' [(t, cT fd rw cl rd pa nu), (nu, cO k z), (rr, cR k w'), (o, cW ol n2 g2), (ol, cD k d2)]) := by
  have eg := wr_g hv
  have habs := wr_abs hv
  -- METHOD T_store | loc 0=t 1=row 2=col 3=o | ws t nu rr o ol | fld t.numbers=nu o.limbs=ol
  refine mk_met (by decide) (Nat.le_of_ble_eq_true rfl) (fun p e s m below meth c ls S hr hlocks hw hl => ?_)
  have hx := S.1
  have hb := S.2.1
  have hown : s.vm.findClass R_T = some m.cls := S.2.2.2.1
  have hG := S.2.2.2.2
  have hl : lv_has ls 5 [(0, .ref t), (1, .int (nI row)), (2, .int (nI col)), (3, .ref o)] := hl
  have hg := hw
  have hw : kw D cls (tyl k) L s s.heap f [(t, cT fd rw cl rd pa nu), (nu, cO k z), (rr, cR k w), (o, cW ol n2 g2), (ol, cD k d2)] s.heap [] := ⟨f, hw, hk⟩
  refine lv_aload_n hx hb d_T_store_0 rfl (lv_at hl 3 rfl) ?_
  refine k_get hx hb hG lay_W hown hw 3 rfl rfl 1 (by decide) (hG _ fl_T_59) (fun _ h9 => h9) rfl d_T_store_1 ?_
  refine lv_iconst (v := 5) hx hb d_T_store_4 (by decide) ?_
  have hw := hg
  refine g_oi (c_X (np := 2) S (m_min l D k L f (nI n2) 5) hw ml_T_75 st_JM_min_1 in_JM co_JM_min_1 (by decide +kernel) rfl ⟨rfl, rfl, by decide, by decide⟩ hl.1 rfl (by simp [Value.category]) d_T_store_5 ⟨Nat.zero_le _, Nat.zero_le _⟩) hw (fun r1 f1 H locs hp hw2 => ?_)
  rw [hp.1] at hw2
  refine l_top (show r1 = nI n2 from hp.2.trans (if_neg (show ¬ (5 : Int32) < nI n2 from nI_nlt (a := 5) hn5 (by omega)))) ?_
  have hw : kw D cls (tyl k) L s s.heap f [(t, cT fd rw cl rd pa nu), (nu, cO k z), (rr, cR k w), (o, cW ol n2 g2), (ol, cD k d2)] H locs := ⟨f, hw2, hk⟩
  refine lv_istore hx hb d_T_store_8 hl (by decide) rfl (fun ls hl => ?_)
  refine lv_aload_n hx hb d_T_store_10 rfl (lv_at hl 1 rfl) ?_
  refine k_get hx hb hG lay_T hown hw 0 rfl rfl 5 (by decide) (hG _ fl_T_21) (fun _ h9 => h9) rfl d_T_store_11 ?_
  refine lv_iload_n hx hb d_T_store_14 rfl (lv_at hl 2 rfl) ?_
  refine k_aaldA hx hb hw 1 1 rfl rfl (row) (rfl) (hrow) (by first | decide | omega) (hz) d_T_store_15 ?_
  refine lv_iload_n hx hb d_T_store_16 rfl (lv_at hl 3 rfl) ?_
  refine lv_bipush (v := 6) hx hb d_T_store_17 (by decide) ?_
  refine lv_imul hx hb d_T_store_19 ?_
  refine l_top (six col) ?_
  refine lv_aload_n hx hb d_T_store_20 rfl (lv_at hl 4 rfl) ?_
  refine k_get hx hb hG lay_W hown hw 3 rfl rfl 2 (by decide) (hG _ fl_T_64) (fun _ h9 => h9) rfl d_T_store_21 ?_
  refine lv_iload hx hb d_T_store_24 (lv_at hl 0 rfl) ?_
  refine lv_imul hx hb d_T_store_26 ?_
  refine l_top (show g2 * nI n2 = zI (v.sign * n2) by rw [eg, ← zI_n, zI_mul]) ?_
  refine k_iast hx hb hw 2 0 rfl rfl ((col * 6)) (rfl) (by omega) (by first | decide | omega) d_T_store_27 (fun H locs hw => ?_)
  refine lv_aload_n hx hb d_T_store_28 rfl (lv_at hl 4 rfl) ?_
  refine k_get hx hb hG lay_W hown hw 3 rfl rfl 0 (by decide) (hG _ fl_T_66) (fun _ h9 => h9) rfl d_T_store_29 ?_
  refine lv_iconst (v := 0) hx hb d_T_store_32 (by decide) ?_
  refine lv_aload_n hx hb d_T_store_33 rfl (lv_at hl 1 rfl) ?_
  refine k_get hx hb hG lay_T hown hw 0 rfl rfl 5 (by decide) (hG _ fl_T_21) (fun _ h9 => h9) rfl d_T_store_34 ?_
  refine lv_iload_n hx hb d_T_store_37 rfl (lv_at hl 2 rfl) ?_
  refine k_aaldA hx hb hw 1 1 rfl rfl (row) (rfl) (hrow) (by first | decide | omega) (hz) d_T_store_38 ?_
  refine lv_iload_n hx hb d_T_store_39 rfl (lv_at hl 3 rfl) ?_
  refine lv_bipush (v := 6) hx hb d_T_store_40 (by decide) ?_
  refine lv_imul hx hb d_T_store_42 ?_
  refine l_top (six col) ?_
  refine lv_iconst (v := 1) hx hb d_T_store_43 (by decide) ?_
  refine lv_iadd hx hb d_T_store_44 ?_
  refine l_top (nI_1 _) ?_
  refine lv_iload hx hb d_T_store_45 (lv_at hl 0 rfl) ?_
  refine k_copyi hx hb (by rw [S.2.2.1]; exact hl.1.symm) hown (hG _ ml_T_69) (hG _ nv_arraycopy) (hG _ st_arraycopy) (hG _ in_JS) hw 4 2 0 rfl rfl rfl 0 (col * 6 + 1) n2 rfl rfl rfl (by omega) (by omega) (by decide) (by decide) (by decide) (by simp [Value.category]; decide) d_T_store_47 (fun H locs hw => ?_)
  obtain ⟨f7, hw, hk7⟩ := hw
  refine g_retv hx hb hr hlocks hw ⟨_, ⟨n2, d2, hn5, fun i hi => ⟨?_, hv.2.1 i (by omega)⟩, wr_top hv, ?_, habs⟩, fun i hi => ?_, hk7⟩ d_T_store_50
  · rw [pk_cpy_in (by omega) (by omega)]
    show nI (d2 _) = _
    congr 2
    omega
  · rw [pk_cpy_out (by omega), pk_us]
  · rw [pk_cpy_out (by omega), pk_un (by omega)]


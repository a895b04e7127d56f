-- ===== Whole: values; isOne, setSize, compareSize =====
/-- the cells' numbers are this whole number, as the class keeps it -/
def wr (n : Nat) (g : Int32) (d : Nat → Nat) (v : Int) : Prop := n ≤ 12 ∧ (∀ i, i < 12 → d i < B30) ∧ ((n = 0 ∧ g = 0 ∧ v = 0) ∨ (0 < n ∧ d (n - 1) ≠ 0 ∧ ((g = 1 ∧ v = (cd B30 n d : Int)) ∨ (g = -1 ∧ v = -(cd B30 n d : Int)))))
theorem wr_abs {n : Nat} {g : Int32} {d : Nat → Nat} {v : Int} (h : wr n g d v) : v.natAbs = cd B30 n d := by
  rcases h.2.2 with ⟨h1, -, h3⟩ | ⟨-, -, ⟨-, h3⟩ | ⟨-, h3⟩⟩
  · rw [h3, h1]; rfl
  · omega
  · omega
theorem wr_top {n : Nat} {g : Int32} {d : Nat → Nat} {v : Int} (h : wr n g d v) : 0 < n → d (n - 1) ≠ 0 := by
  intro hn
  rcases h.2.2 with ⟨h1, -⟩ | ⟨-, h2, -⟩
  · omega
  · exact h2
/-- zeros at the top taken off -/
theorem wr_trim {n n' : Nat} {g : Int32} {d : Nat → Nat} {v : Int} (hn : n ≤ 12) (hd : ∀ i, i < 12 → d i < B30) (hn' : n' ≤ n) (h0 : ∀ i, n' ≤ i → i < n → d i = 0) (ht : 0 < n' → d (n' - 1) ≠ 0) (hg : (g = 1 ∧ v = (cd B30 n d : Int)) ∨ (g = -1 ∧ v = -(cd B30 n d : Int)) ∨ (v = 0 ∧ cd B30 n d = 0)) : wr n' (if n' = 0 then 0 else g) d v := by
  have e := cd_top (b := B30) hn' h0
  refine ⟨by omega, hd, ?_⟩
  by_cases hz : n' = 0
  · subst hz
    have e0 : cd B30 n d = 0 := e
    refine Or.inl ⟨rfl, if_pos rfl, ?_⟩
    rcases hg with ⟨-, h⟩ | ⟨-, h⟩ | ⟨h, -⟩ <;> omega
  · rw [if_neg hz]
    refine Or.inr ⟨by omega, ht (by omega), ?_⟩
    rcases hg with h | h | ⟨-, h⟩
    · rw [e] at h; exact Or.inl h
    · rw [e] at h; exact Or.inr h
    · exfalso
      obtain ⟨m, rfl⟩ : ∃ m, n' = m + 1 := ⟨n' - 1, by omega⟩
      have h1 := cd_ge (b := B30) (n := m) (d := d) (ht (by omega))
      have h2 : 0 < B30 ^ m := Nat.pow_pos (by decide)
      omega
theorem dI {d : Nat → Nat} {i : Nat} (h : d i < B30) : d i < 2147483648 := by unfold B30 at h; omega
theorem wr_one {n : Nat} {g : Int32} {d : Nat → Nat} {v : Int} (h : wr n g d v) : v = 1 ↔ n = 1 ∧ d 0 = 1 ∧ g = 1 := by
  constructor
  · intro hv
    rcases h.2.2 with ⟨-, -, h3⟩ | ⟨h1, h2, ⟨h3, h4⟩ | ⟨-, h4⟩⟩
    · omega
    · obtain ⟨m, rfl⟩ : ∃ m, n = m + 1 := ⟨n - 1, by omega⟩
      have e1 : cd B30 (m + 1) d = 1 := by omega
      have h5 := cd_ge (b := B30) (n := m) (d := d) h2
      have hm : m = 0 := by
        rcases Nat.eq_zero_or_pos m with h | h
        · exact h
        · have : B30 ^ 1 ≤ B30 ^ m := Nat.pow_le_pow_right (by decide) h
          rw [Nat.pow_one] at this
          have : B30 = 1073741824 := rfl
          omega
      subst hm
      have e1 : cd B30 1 d = 1 := e1
      have e2 : cd B30 1 d = 0 + d 0 * B30 ^ 0 := rfl
      rw [Nat.pow_zero] at e2
      exact ⟨rfl, by omega, h3⟩
    · omega
  · rintro ⟨rfl, h2, h3⟩
    have e2 : cd B30 1 d = 0 + d 0 * B30 ^ 0 := rfl
    rw [Nat.pow_zero] at e2
    rcases h.2.2 with ⟨h1, -⟩ | ⟨-, -, ⟨-, h4⟩ | ⟨h4, -⟩⟩
    · omega
    · omega
    · rw [h3] at h4; exact absurd h4 (by decide)
set_option maxRecDepth 100000 in
set_option maxHeartbeats 4000000 in
theorem m_W_isOne (l : Launch) (D : va_G) (k : Nat → ClassId) (L : List Nat) (f : Nat → va_E) (x xl n : Nat) (g : Int32) (d : Nat → Nat) (v : Int) (hk : kn L f f [(x, cW xl n g), (xl, cD k d)]) (hv : wr n g d v) : Mi l y_W_isOne (Cond.code y_W_isOne c_W_isOne 1 (some .boolean) :: G) (rmN 0) D cls (tyl k) L f [.ref x] (fun r f' => f' = f ∧ r = if v = 1 then 1 else 0) := by
  -- METHOD W_isOne | loc 0=x | ws x xl | fld x.limbs=xl
  refine mk_met (by decide) (Nat.le_of_ble_eq_true rfl) (fun p e s m below meth c ls S hr hlocks hw hl => ?_)
  have hx := S.1
  have hb := S.2.1
  have hown : s.vm.findClass R_W = some m.cls := S.2.2.2.1
  have hG := S.2.2.2.2
  have hl : lv_has ls 1 [(0, .ref x)] := hl
  have hg := hw
  have hn := hv.1
  have hd := hv.2.1
  have hw : kw D cls (tyl k) L s s.heap f [(x, cW xl n g), (xl, cD k d)] s.heap [] := ⟨f, hw, hk⟩
  refine lv_aload_n hx hb d_W_isOne_0 rfl (lv_at hl 0 rfl) ?_
  refine k_get hx hb hG lay_W hown hw 0 rfl rfl 1 (by decide) (hG _ fl_W_15) (fun _ h9 => h9) rfl d_W_isOne_1 ?_
  refine lv_iconst (v := 1) hx hb d_W_isOne_4 (by decide) ?_
  refine lv_icmp_ne (tgt := 30) hx hb d_W_isOne_5 (by decide) (fun hc => ?_) (fun hc => ?_)
  · have h1 : ¬ v = 1 := fun h => hc (by rw [((wr_one hv).mp h).1]; rfl)
    refine lv_iconst (v := 0) hx hb d_W_isOne_30 (by decide) ?_
    exact g_retz hx hb hr hlocks hg rfl ⟨rfl, by rw [if_neg h1]⟩ d_W_isOne_31
  · have hn1 : n = 1 := (nI_eq (b := 1) (by omega) (by omega)).mp hc
    refine lv_aload_n hx hb d_W_isOne_8 rfl (lv_at hl 0 rfl) ?_
    refine k_get hx hb hG lay_W hown hw 0 rfl rfl 0 (by decide) (hG _ fl_W_11) (fun _ h9 => h9) rfl d_W_isOne_9 ?_
    refine lv_iconst (v := 0) hx hb d_W_isOne_12 (by decide) ?_
    refine k_iald hx hb hw 1 0 rfl rfl (0) (rfl) (by decide) (by first | decide | omega) d_W_isOne_13 ?_
    refine lv_iconst (v := 1) hx hb d_W_isOne_14 (by decide) ?_
    refine lv_icmp_ne (tgt := 30) hx hb d_W_isOne_15 (by decide) (fun hc => ?_) (fun hc => ?_)
    · have h1 : ¬ v = 1 := fun h => hc (by show nI (d 0) = 1; rw [((wr_one hv).mp h).2.1]; rfl)
      refine lv_iconst (v := 0) hx hb d_W_isOne_30 (by decide) ?_
      exact g_retz hx hb hr hlocks hg rfl ⟨rfl, by rw [if_neg h1]⟩ d_W_isOne_31
    · have hd0 : d 0 = 1 := (nI_eq (b := 1) (dI (hd 0 (by omega))) (by omega)).mp hc
      refine lv_aload_n hx hb d_W_isOne_18 rfl (lv_at hl 0 rfl) ?_
      refine k_get hx hb hG lay_W hown hw 0 rfl rfl 2 (by decide) (hG _ fl_W_19) (fun _ h9 => h9) rfl d_W_isOne_19 ?_
      refine lv_iconst (v := 1) hx hb d_W_isOne_22 (by decide) ?_
      refine lv_icmp_ne (tgt := 30) hx hb d_W_isOne_23 (by decide) (fun hc => ?_) (fun hc => ?_)
      · have h1 : ¬ v = 1 := fun h => hc ((wr_one hv).mp h).2.2
        refine lv_iconst (v := 0) hx hb d_W_isOne_30 (by decide) ?_
        exact g_retz hx hb hr hlocks hg rfl ⟨rfl, by rw [if_neg h1]⟩ d_W_isOne_31
      · have h1 : v = 1 := (wr_one hv).mpr ⟨hn1, hd0, hc⟩
        refine lv_iconst (v := 1) hx hb d_W_isOne_26 (by decide) ?_
        refine lv_goto (tgt := 31) hx hb d_W_isOne_27 (by decide) ?_
        exact g_retz hx hb hr hlocks hg rfl ⟨rfl, by rw [if_pos h1]⟩ d_W_isOne_31
theorem nD_cpy (d e : Nat → Nat) (a b n : Nat) : va_cpy (nD d) (nD e) a b n = nD (va_cpy d e a b n) := by
  funext t
  by_cases h : b ≤ t ∧ t < b + n
  · rw [pk_cpy_in h.1 h.2]
    show nI (d _) = nI (va_cpy d e a b n t)
    rw [pk_cpy_in h.1 h.2]
  · have h' : t < b ∨ b + n ≤ t := by omega
    rw [pk_cpy_out h']
    show nI (e _) = nI (va_cpy d e a b n t)
    rw [pk_cpy_out h']
theorem wr_g {n : Nat} {g : Int32} {d : Nat → Nat} {v : Int} (h : wr n g d v) : g = zI v.sign := by
  rcases h.2.2 with ⟨-, h2, h3⟩ | ⟨h1, h2, h3⟩
  · rw [h2, h3]; rfl
  · have hpos : 0 < cd B30 n d := by
      obtain ⟨m, rfl⟩ : ∃ m, n = m + 1 := ⟨n - 1, by omega⟩
      have h5 := cd_ge (b := B30) (n := m) (d := d) h2
      have h6 : 0 < B30 ^ m := Nat.pow_pos (by decide)
      omega
    rcases h3 with ⟨h3, h4⟩ | ⟨h3, h4⟩
    · rw [h3, Int.sign_eq_one_of_pos (by omega)]; rfl
    · rw [h3, Int.sign_eq_neg_one_of_neg (by omega)]; decide
set_option maxRecDepth 100000 in
set_option maxHeartbeats 4000000 in
/-- setSize(o): the size of another number -/
theorem m_W_setSize (l : Launch) (D : va_G) (k : Nat → ClassId) (L : List Nat) (f : Nat → va_E) (x xl n o ol n2 : Nat) (g g2 : Int32) (d d2 : Nat → Nat) (v : Int) (hd : ∀ i, i < 12 → d i < B30) (hk : kn L f f [(x, cW xl n g), (xl, cD k d), (o, cW ol n2 g2), (ol, cD k d2)]) (hv : wr n2 g2 d2 v) : Mv l y_W_setSize (Cond.code y_W_setSize c_W_setSize 2 none :: G) (rmN 1) D cls (tyl k) L f [.ref x, .ref o] (fun f' => ∃ (g' : Int32) (d' : Nat → Nat), wr n2 g' d' v.natAbs ∧ kn L f f' [(x, cW xl n2 g'), (xl, cD k d'), (o, cW ol n2 g2), (ol, cD k d2)]) := by
  -- METHOD W_setSize | loc 0=x 1=o | ws x xl o ol | fld x.limbs=xl o.limbs=ol
  refine mk_met (by decide) (Nat.le_of_ble_eq_true rfl) (fun p e s m below meth c ls S hr hlocks hw hl => ?_)
  have hx := S.1
  have hb := S.2.1
  have hown : s.vm.findClass R_W = some m.cls := S.2.2.2.1
  have hG := S.2.2.2.2
  have hl : lv_has ls 2 [(0, .ref x), (1, .ref o)] := hl
  have hg := hw
  have hn2 := hv.1
  have hd2 := hv.2.1
  have hw : kw D cls (tyl k) L s s.heap f [(x, cW xl n g), (xl, cD k d), (o, cW ol n2 g2), (ol, cD k d2)] s.heap [] := ⟨f, hw, hk⟩
  refine lv_aload_n hx hb d_W_setSize_0 rfl (lv_at hl 1 rfl) ?_
  refine k_get hx hb hG lay_W hown hw 2 rfl rfl 0 (by decide) (hG _ fl_W_11) (fun _ h9 => h9) rfl d_W_setSize_1 ?_
  refine lv_iconst (v := 0) hx hb d_W_setSize_4 (by decide) ?_
  refine lv_aload_n hx hb d_W_setSize_5 rfl (lv_at hl 0 rfl) ?_
  refine k_get hx hb hG lay_W hown hw 0 rfl rfl 0 (by decide) (hG _ fl_W_11) (fun _ h9 => h9) rfl d_W_setSize_6 ?_
  refine lv_iconst (v := 0) hx hb d_W_setSize_9 (by decide) ?_
  refine lv_aload_n hx hb d_W_setSize_10 rfl (lv_at hl 1 rfl) ?_
  refine k_get hx hb hG lay_W hown hw 2 rfl rfl 1 (by decide) (hG _ fl_W_15) (fun _ h9 => h9) rfl d_W_setSize_11 ?_
  refine k_copyi hx hb (by rw [S.2.2.1]; exact hl.1.symm) hown (hG _ ml_W_22) (hG _ nv_arraycopy) (hG _ st_arraycopy) (hG _ in_JS) hw 3 1 0 rfl rfl rfl 0 0 n2 rfl rfl rfl (by omega) (by omega) (by decide) (by decide) (by decide) (by simp [Value.category]; decide) d_W_setSize_14 (fun H locs hw => ?_)
  rw [nD_cpy] at hw
  refine lv_aload_n hx hb d_W_setSize_17 rfl (lv_at hl 0 rfl) ?_
  refine lv_aload_n hx hb d_W_setSize_18 rfl (lv_at hl 1 rfl) ?_
  refine k_get hx hb hG lay_W hown hw 2 rfl rfl 1 (by decide) (hG _ fl_W_15) (fun _ h9 => h9) rfl d_W_setSize_19 ?_
  refine k_put (ty := .int) hx hb hG lay_W ft_W ft_W_ok fn_W hown hw 0 rfl rfl 1 (by decide) (hG _ fl_W_15) (fun _ h9 => h9) rfl (by decide +kernel) rfl rfl (by simp) d_W_setSize_22 (fun H locs hw => ?_)
  refine lv_aload_n hx hb d_W_setSize_25 rfl (lv_at hl 0 rfl) ?_
  refine lv_aload_n hx hb d_W_setSize_26 rfl (lv_at hl 1 rfl) ?_
  refine k_get hx hb hG lay_W hown hw 2 rfl rfl 2 (by decide) (hG _ fl_W_19) (fun _ h9 => h9) rfl d_W_setSize_27 ?_
  obtain ⟨f1, hw, hk1⟩ := hw
  refine g_oi (c_X (np := 1) S (m_abs l D k L f1 g2) hw ml_W_28 st_JM_abs in_JM co_JM_abs (by decide +kernel) rfl ⟨rfl, rfl, by decide, by decide⟩ hl.1 rfl (by simp [Value.category]) d_W_setSize_30 ⟨Nat.zero_le _, Nat.zero_le _⟩) hw (fun r f2 H locs hp hw2 => ?_)
  rw [hp.1] at hw2
  have hw : kw D cls (tyl k) L s s.heap f [(x, cW xl n2 g), (xl, cD k (va_cpy d2 d 0 0 n2)), (o, cW ol n2 g2), (ol, cD k d2)] H locs := ⟨f1, hw2, hk1⟩
  refine k_put (ty := .int) hx hb hG lay_W ft_W ft_W_ok fn_W hown hw 0 rfl rfl 2 (by decide) (hG _ fl_W_19) (fun _ h9 => h9) rfl (by decide +kernel) rfl rfl (by simp) d_W_setSize_33 (fun H locs hw => ?_)
  obtain ⟨f3, hw, hk3⟩ := hw
  refine g_retv hx hb hr hlocks hw ⟨r, va_cpy d2 d 0 0 n2, ?_, hk3⟩ d_W_setSize_36
  have hc : cd B30 n2 (va_cpy d2 d 0 0 n2) = cd B30 n2 d2 := cd_congr n2 (fun i hi => by rw [pk_cpy_in (by omega) (by omega)]; congr 1; omega)
  have hdig : ∀ i, i < 12 → va_cpy d2 d 0 0 n2 i < B30 := fun i hi => by
    by_cases h : i < n2
    · rw [pk_cpy_in (by omega) (by omega)]; exact hd2 _ (by omega)
    · rw [pk_cpy_out (by omega)]; exact hd i hi
  have ha := wr_abs hv
  refine ⟨hn2, hdig, ?_⟩
  rcases hv.2.2 with ⟨h1, h2, h3⟩ | ⟨h1, h2, h3⟩
  · exact Or.inl ⟨h1, by rw [hp.2, h2]; rfl, by omega⟩
  · refine Or.inr ⟨h1, by rw [pk_cpy_in (by omega) (by omega)]; rw [show 0 + (n2 - 1 - 0) = n2 - 1 by omega]; exact h2, Or.inl ⟨?_, by rw [hc]; omega⟩⟩
    rcases h3 with ⟨h3, -⟩ | ⟨h3, -⟩
    · rw [hp.2, h3]; rfl
    · rw [hp.2, h3]; decide


-- ===== constructors =====
theorem df_T : ∀ j, j < 6 → defaultValue (ft_T j) = vp_V [.int 0, .int 0, .int 0, .int 0, .null, .null] j := by decide +kernel
theorem df_W : ∀ j, j < 3 → defaultValue (ft_W j) = vp_V [.null, .int 0, .int 0] j := by decide +kernel
theorem df_N : ∀ j, j < 3 → defaultValue (ft_N j) = vp_V [.null, .int 0, .int 0] j := by decide +kernel
theorem df_Q : ∀ j, j < 8 → defaultValue (ft_Q j) = vp_V [.null, .null, .null, .null, .null, .null, .null, .null] j := by decide +kernel
theorem df_P : ∀ j, j < 0 → defaultValue (ft_P j) = vp_V [] j := by decide +kernel
theorem df_A : ∀ j, j < 4 → defaultValue (ft_A j) = vp_V [.null, .null, .null, .null] j := by decide +kernel
theorem df_M : ∀ j, j < 25 → defaultValue (ft_M j) = vp_V [.null, .null, .null, .null, .null, .null, .null, .null, .null, .null, .null, .null, .null, .null, .null, .null, .null, .null, .null, .null, .int 0, .int 0, .int 0, .null, .null] j := by decide +kernel
def FN (k : Nat → ClassId) (b : Nat) : Nat → va_E := fun q => if q = b then cN (b + 1) 0 false else cE k (fun _ => 0)
def FW (k : Nat → ClassId) (b : Nat) : Nat → va_E := fun q => if q = b then cW (b + 1) 0 0 else cD k (fun _ => 0)
def FT (k : Nat → ClassId) (b : Nat) : Nat → va_E := fun q => if q = b then cT 0 (nI 0) (nI 0) 1 (b + 1) (b + 2) else if q = b + 1 then cP k (fun _ => 0) else if q = b + 2 then cO k (fun i => some (b + 3 + i)) else cR k (fun _ => 0)
theorem cg_obj {G FW : Nat → va_E} {b x q : Nat} {o o' e1 : va_E} (hbx : b < x) (h : x ≤ q → G q = FW q) : va_up (jn (jn (va_up G b o) x (fun _ => e1)) x FW) b o' q = va_up G b o' q := by
  by_cases e : q = b
  · rw [e, va_up_self, va_up_self]
  · rw [va_up_ne _ _ e, va_up_ne _ _ e]
    by_cases hq : q < x
    · rw [jn_lo hq, jn_lo hq, va_up_ne _ _ e]
    · rw [jn_hi (by omega)]; exact (h (by omega)).symm
theorem cg_arr {G : Nat → va_E} {b x q : Nat} {o o' e1 : va_E} (hbx : b < x) (h : x ≤ q → G q = e1) : va_up (jn (va_up G b o) x (fun _ => e1)) b o' q = va_up G b o' q := by
  by_cases e : q = b
  · rw [e, va_up_self, va_up_self]
  · rw [va_up_ne _ _ e, va_up_ne _ _ e]
    by_cases hq : q < x
    · rw [jn_lo hq, va_up_ne _ _ e]
    · rw [jn_hi (by omega)]; exact (h (by omega)).symm
theorem up_com {G : Nat → va_E} {a b : Nat} {x y : va_E} (h : a ≠ b) : va_up (va_up G a x) b y = va_up (va_up G b y) a x := by
  funext q
  by_cases e1 : q = a
  · rw [e1, va_up_self, va_up_ne _ _ h, va_up_self]
  · by_cases e2 : q = b
    · rw [e2, va_up_self, va_up_ne _ _ (fun z => h z.symm), va_up_self]
    · rw [va_up_ne _ _ e2, va_up_ne _ _ e1, va_up_ne _ _ e1, va_up_ne _ _ e2]
set_option maxRecDepth 100000 in
set_option maxHeartbeats 4000000 in
theorem k_K (l : Launch) (D : va_G) (k : Nat → ClassId) (b : Nat) (e0 : va_E) : Mk l y_K_init c_K_init 1 1 0 0 D k b e0 1 (fun _ => e0) := by
  refine mk_ctor (by decide) rfl (by decide) ?_
  intro p e s m below meth c ls S hr hlocks hin hC hsz hw hl
  have hx := S.1
  have hb := S.2.1
  have hml := S.2.2.1
  have hown := S.2.2.2.1
  have hG := S.2.2.2.2
  refine lv_aload_n hx hb d_K_init_0 rfl (lv_at hl 0 rfl) ?_
  refine W.objInit hx hb hown (hG _ ml_K_1) (hG _ im_objectInit) (hG _ co_objectInit) rfl (by rw [hml]; exact hl.1) rfl d_K_init_1 (Nat.le_of_ble_eq_true rfl) (Nat.le_of_ble_eq_true rfl) ?_
  refine W.eq (g2 := F0 m 4 ls []) rfl ?_
  exact r_ret hx hb hr hlocks hw (fun q _ _ h => h) (by decide) (by decide) d_K_init_4
set_option maxRecDepth 100000 in
set_option maxHeartbeats 4000000 in
theorem k_N (l : Launch) (D : va_G) (k : Nat → ClassId) (b : Nat) : Mk l y_N_init c_N_init 1 1 1 160 D k b (.inr (6, [.null, .int 0, .int 0])) 2 (FN k b) := by
  refine mk_ctor (by decide) rfl (by decide) ?_
  intro p e s m below meth c ls S hr hlocks hin hC hsz hw hl
  have hx := S.1
  have hb := S.2.1
  have hml := S.2.2.1
  have hown := S.2.2.2.1
  have hG := S.2.2.2.2
  refine lv_aload_n hx hb d_N_init_0 rfl (lv_at hl 0 rfl) ?_
  refine W.objInit hx hb hown (hG _ ml_N_1) (hG _ im_objectInit) (hG _ co_objectInit) rfl (by rw [hml]; exact hl.1) rfl d_N_init_1 (Nat.le_of_ble_eq_true rfl) (Nat.le_of_ble_eq_true rfl) ?_
  refine W.eq (g2 := F0 m 4 ls []) rfl ?_
  refine lv_aload_n hx hb d_N_init_4 rfl (lv_at hl 0 rfl) ?_
  refine lv_sipush (v := 160) hx hb d_N_init_5 (by decide) ?_
  refine r_newI hx hb (hG _ ac_int) hw 160 (by decide) (by decide) (Nat.le_trans (show _ ≤ 1 by omega) (Nat.le_refl _)) (Nat.le_trans (show _ ≤ 160 by omega) (Nat.le_refl _)) d_N_init_8 (fun H hw => ?_)
  refine r_put (ty := .array .int) (ci := 6) (fs := [.null, .int 0, .int 0]) hx hb hG lay_N ft_N ft_N_ok fn_N hown hin hw (by omega) ⟨by omega, by omega⟩ (jn_lo (by omega)) rfl 0 (by decide) (hG _ fl_N_7) (fun _ h9 => h9) rfl (by decide +kernel) rfl rfl (by simp) d_N_init_10 (fun H locs hw => ?_)
  refine r_ret hx hb hr hlocks hw (fun q h1 h2 h => ?_) (by decide) (by decide) d_N_init_13
  by_cases e1 : q = b
  · rw [e1, va_up_self] at h
    rw [e1, show FN k b b = _ from if_pos rfl]; exact h
  · rw [va_up_ne _ _ e1, jn_hi (by omega)] at h
    rw [show FN k b q = _ from if_neg e1]; exact h
set_option maxRecDepth 100000 in
set_option maxHeartbeats 4000000 in
theorem k_W (l : Launch) (D : va_G) (k : Nat → ClassId) (b : Nat) : Mk l y_W_init c_W_init 1 1 1 12 D k b (.inr (4, [.null, .int 0, .int 0])) 2 (FW k b) := by
  refine mk_ctor (by decide) rfl (by decide) ?_
  intro p e s m below meth c ls S hr hlocks hin hC hsz hw hl
  have hx := S.1
  have hb := S.2.1
  have hml := S.2.2.1
  have hown := S.2.2.2.1
  have hG := S.2.2.2.2
  refine lv_aload_n hx hb d_W_init_0 rfl (lv_at hl 0 rfl) ?_
  refine W.objInit hx hb hown (hG _ ml_W_5) (hG _ im_objectInit) (hG _ co_objectInit) rfl (by rw [hml]; exact hl.1) rfl d_W_init_1 (Nat.le_of_ble_eq_true rfl) (Nat.le_of_ble_eq_true rfl) ?_
  refine W.eq (g2 := F0 m 4 ls []) rfl ?_
  refine lv_aload_n hx hb d_W_init_4 rfl (lv_at hl 0 rfl) ?_
  refine lv_bipush (v := 12) hx hb d_W_init_5 (by decide) ?_
  refine r_newI hx hb (hG _ ac_int) hw 12 (by decide) (by decide) (Nat.le_trans (show _ ≤ 1 by omega) (Nat.le_refl _)) (Nat.le_trans (show _ ≤ 12 by omega) (Nat.le_refl _)) d_W_init_7 (fun H hw => ?_)
  refine r_put (ty := .array .int) (ci := 4) (fs := [.null, .int 0, .int 0]) hx hb hG lay_W ft_W ft_W_ok fn_W hown hin hw (by omega) ⟨by omega, by omega⟩ (jn_lo (by omega)) rfl 0 (by decide) (hG _ fl_W_11) (fun _ h9 => h9) rfl (by decide +kernel) rfl rfl (by simp) d_W_init_9 (fun H locs hw => ?_)
  refine r_ret hx hb hr hlocks hw (fun q h1 h2 h => ?_) (by decide) (by decide) d_W_init_12
  by_cases e1 : q = b
  · rw [e1, va_up_self] at h
    rw [e1, show FW k b b = _ from if_pos rfl]; exact h
  · rw [va_up_ne _ _ e1, jn_hi (by omega)] at h
    rw [show FW k b q = _ from if_neg e1]; exact h
set_option maxRecDepth 100000 in
set_option maxHeartbeats 4000000 in
theorem k_T (l : Launch) (D : va_G) (k : Nat → ClassId) (b : Nat) : Mk l y_T_init c_T_init 1 1 14 888 D k b (.inr (3, [.int 0, .int 0, .int 0, .int 0, .null, .null])) 15 (FT k b) := by
  refine mk_ctor (by decide) rfl (by decide) ?_
  intro p e s m below meth c ls S hr hlocks hin hC hsz hw hl
  have hx := S.1
  have hb := S.2.1
  have hml := S.2.2.1
  have hown := S.2.2.2.1
  have hG := S.2.2.2.2
  refine lv_aload_n hx hb d_T_init_0 rfl (lv_at hl 0 rfl) ?_
  refine W.objInit hx hb hown (hG _ ml_T_5) (hG _ im_objectInit) (hG _ co_objectInit) rfl (by rw [hml]; exact hl.1) rfl d_T_init_1 (Nat.le_of_ble_eq_true rfl) (Nat.le_of_ble_eq_true rfl) ?_
  refine W.eq (g2 := F0 m 4 ls []) rfl ?_
  refine lv_aload_n hx hb d_T_init_4 rfl (lv_at hl 0 rfl) ?_
  refine lv_iconst (v := 1) hx hb d_T_init_5 (by decide) ?_
  refine r_put (ty := .boolean) (ci := 3) (fs := [.int 0, .int 0, .int 0, .int 0, .null, .null]) hx hb hG lay_T ft_T ft_T_ok fn_T hown hin hw (by omega) ⟨by omega, by omega⟩ rfl rfl 3 (by decide) (hG _ fl_T_11) (fun _ h9 => h9) rfl (by decide +kernel) rfl rfl (by simp) d_T_init_6 (fun H locs hw => ?_)
  refine lv_aload_n hx hb d_T_init_9 rfl (lv_at hl 0 rfl) ?_
  refine lv_bipush (v := 12) hx hb d_T_init_10 (by decide) ?_
  refine r_newI hx hb (hG _ ac_int) hw 12 (by decide) (by decide) (Nat.le_trans (show _ ≤ 14 by omega) (Nat.le_refl _)) (Nat.le_trans (show _ ≤ 888 by omega) (Nat.le_refl _)) d_T_init_12 (fun H hw => ?_)
  refine r_put (ty := .array .int) (ci := 3) (fs := [.int 0, .int 0, .int 0, .int 1, .null, .null]) hx hb hG lay_T ft_T ft_T_ok fn_T hown hin hw (by omega) ⟨by omega, by omega⟩ (by rw [jn_lo (by omega), va_up_self]; rfl) rfl 4 (by decide) (hG _ fl_T_15) (fun _ h9 => h9) rfl (by decide +kernel) rfl rfl (by simp) d_T_init_14 (fun H locs hw => ?_)
  refine lv_aload_n hx hb d_T_init_17 rfl (lv_at hl 0 rfl) ?_
  refine lv_bipush (v := 12) hx hb d_T_init_18 (by decide) ?_
  refine lv_bipush (v := 72) hx hb d_T_init_20 (by decide) ?_
  refine r_mna hx hb hown (hG _ cl_T_19) (hG _ ac_int) hw (Nat.le_trans (show _ ≤ 14 by omega) (Nat.le_refl _)) (Nat.le_trans (show _ ≤ 888 by omega) (Nat.le_refl _)) d_T_init_22 (fun H hw => ?_)
  refine r_put (ty := .array (.array .int)) (ci := 3) (fs := [.int 0, .int 0, .int 0, .int 1, .ref (b + 1), .null]) hx hb hG lay_T ft_T ft_T_ok fn_T hown hin hw (by omega) ⟨by omega, by omega⟩ (by rw [jn_lo (by omega), va_up_self]; rfl) rfl 5 (by decide) (hG _ fl_T_21) (fun _ h9 => h9) rfl (by decide +kernel) rfl rfl (by simp) d_T_init_26 (fun H locs hw => ?_)
  refine r_ret hx hb hr hlocks hw (fun q h1 h2 h => ?_) (by decide) (by decide) d_T_init_29
  unfold FT
  by_cases e1 : q = b
  · rw [e1, va_up_self] at h
    rw [e1, if_pos rfl]; exact h
  rw [va_up_ne _ _ e1] at h
  rw [if_neg e1]
  by_cases e2 : q = b + 1
  · rw [e2, jn_lo (by omega), va_up_ne _ _ (by omega), jn_hi (by omega)] at h
    rw [e2, if_pos rfl]; exact h
  rw [if_neg e2]
  rw [jn_hi (by omega)] at h
  by_cases e3 : q = b + 2
  · rw [e3, if_pos rfl] at h
    rw [e3, if_pos rfl]; exact h
  · rw [if_neg (by omega)] at h
    rw [if_neg e3]; exact h
set_option maxRecDepth 100000 in
set_option maxHeartbeats 4000000 in
theorem k_P (l : Launch) (D : va_G) (k : Nat → ClassId) (b : Nat) : Mk l y_P_init c_P_init 1 2 0 0 D k b (.inr (2, [])) 1 (fun _ => (.inr (2, []))) := by
  refine mk_ctor (by decide) rfl (by decide) ?_
  intro p e s m below meth c ls S hr hlocks hin hC hsz hw hl
  have hx := S.1
  have hb := S.2.1
  have hml := S.2.2.1
  have hown := S.2.2.2.1
  have hG := S.2.2.2.2
  refine lv_aload_n hx hb d_P_init_0 rfl (lv_at hl 0 rfl) ?_
  refine r_ctorN (x0 := b) (n := 0) S (k_K l D k b (.inr (2, []))) hw hC rfl hC.2.2.2.1 im_K_init in_K co_K_init rfl (by decide +kernel) ⟨by decide, by decide⟩ hl.1 (by simp) d_P_init_1 ⟨by decide, by decide⟩ (fun H locs hw => ?_)
  refine r_ret (nF := 1) hx hb hr hlocks hw (fun q h1 h2 h => ?_) (by decide) (by decide) d_P_init_4
  rw [jn_hi (by omega)] at h; exact h

-- ===== the constructor of the reference =====
/-- where the numbers of the reference lie -/
def mA (b x : Nat) : Nat := (if x / 2 < 8 then b + 1 + 2 * (x / 2) else if x / 2 < 10 then b + 29 + 2 * (x / 2 - 8) else if x / 2 < 154 then b + 33 + 4 * (x / 2 - 10) else b + 35 + 4 * (x / 2 - 154)) + x % 2
def mR (b i : Nat) : Nat := b + 17 + i
def mAr (k : Nat → ClassId) (b j : Nat) : va_E := match j with
  | 0 => cI k 8 (fun _ => 0)
  | 1 => cI k 8 (fun _ => 0)
  | 2 => cI k 8 (fun _ => 0)
  | 3 => cZ k (fun _ => 0)
  | 4 => cI k 96 (fun _ => 0)
  | 5 => cI k 18432 (fun _ => 0)
  | 6 => cI k 18432 (fun _ => 0)
  | 7 => cI k 1152 (fun _ => 0)
  | 8 => cNs k (mA b) 10
  | 9 => cNs k (mA b) 154
  | 10 => cI k 144 (fun _ => 0)
  | _ => cI k 12 (fun _ => 0)
def FM (k : Nat → ClassId) (b : Nat) : Nat → va_E := fun q => if q = b then cM (mR b) (mA b) 0 0 0 else if q < b + 17 then FN k (b + 1 + 2 * ((q - b - 1) / 2)) q else if q < b + 29 then mAr k b (q - b - 17) else FN k (b + 29 + 2 * ((q - b - 29) / 2)) q
theorem FM_1 {k : Nat → ClassId} {b q : Nat} (i : Nat) (hi : i < 8) (h1 : b + 1 + 2 * i ≤ q) (h2 : q < b + 1 + 2 * i + 2) : FM k b q = FN k (b + 1 + 2 * i) q := by
  unfold FM
  rw [if_neg (by omega), if_pos (by omega), show (q - b - 1) / 2 = i by omega]
theorem FM_2 {k : Nat → ClassId} {b q : Nat} (i : Nat) (h1 : b + 29 + 2 * i ≤ q) (h2 : q < b + 29 + 2 * i + 2) : FM k b q = FN k (b + 29 + 2 * i) q := by
  unfold FM
  rw [if_neg (by omega), if_neg (by omega), if_neg (by omega), show (q - b - 29) / 2 = i by omega]
theorem FM_r {k : Nat → ClassId} {b : Nat} (i : Nat) (hi : i < 12) : FM k b (b + 17 + i) = mAr k b i := by
  unfold FM
  rw [if_neg (by omega), if_neg (by omega), if_pos (by omega), show b + 17 + i - b - 17 = i by omega]
theorem mA_t {b j : Nat} (hj : j < 144) : mA b (2 * (10 + j)) = b + 33 + 4 * j := by
  unfold mA
  rw [show 2 * (10 + j) / 2 = 10 + j by omega, show 2 * (10 + j) % 2 = 0 by omega, if_neg (by omega), if_neg (by omega), if_pos (by omega)]
  omega
theorem mA_b {b j : Nat} (hj : j < 144) : mA b (2 * (154 + j)) = b + 35 + 4 * j := by
  unfold mA
  rw [show 2 * (154 + j) / 2 = 154 + j by omega, show 2 * (154 + j) % 2 = 0 by omega, if_neg (by omega), if_neg (by omega), if_neg (by omega)]
  omega
set_option maxRecDepth 100000 in
set_option maxHeartbeats 4000000 in
theorem k_M (l : Launch) (D : va_G) (k : Nat → ClassId) (b : Nat) : Mk l y_M_init c_M_init 2 2 608 87162 D k b (.inr (5, [.null, .null, .null, .null, .null, .null, .null, .null, .null, .null, .null, .null, .null, .null, .null, .null, .null, .null, .null, .null, .int 0, .int 0, .int 0, .null, .null])) 609 (FM k b) := by
  refine mk_ctor (by decide) rfl (by decide) ?_
  intro p e s m below meth c ls S hr hlocks hin hC hsz hw hl
  have hx := S.1
  have hb := S.2.1
  have hml := S.2.2.1
  have hown := S.2.2.2.1
  have hG := S.2.2.2.2
  refine lv_aload_n hx hb d_M_init_0 rfl (lv_at hl 0 rfl) ?_
  refine W.objInit hx hb hown (hG _ ml_M_34) (hG _ im_objectInit) (hG _ co_objectInit) rfl (by rw [hml]; exact hl.1) rfl d_M_init_1 (Nat.le_of_ble_eq_true rfl) (Nat.le_of_ble_eq_true rfl) ?_
  refine W.eq (g2 := F0 m 4 ls []) rfl ?_
  have hw : gR D k b 1 s (va_up (va_up (va_up (FM k b) (b + 25) (arO (k 4) 144 (b + 33) 4 0)) (b + 26) (arO (k 4) 144 (b + 35) 4 0)) b (.inr (5, [.null, .null, .null, .null, .null, .null, .null, .null, .null, .null, .null, .null, .null, .null, .null, .null, .null, .null, .null, .null, .int 0, .int 0, .int 0, .null, .null]))) s.heap [] := hw.cg (fun q h1 h2 => by rw [show q = b by omega, va_up_self])
  refine lv_aload_n hx hb d_M_init_4 rfl (lv_at hl 0 rfl) ?_
  refine r_new (ci := 6) hx hb hG lay_N ft_N ft_N_ok hown (hG _ cl_M_8) (hG _ ia_N) (hG _ in_N) hw rfl [.null, .int 0, .int 0] df_N (Nat.le_trans (show _ ≤ 608 by omega) (Nat.le_refl _)) (Nat.le_trans (show _ ≤ 87162 by omega) (Nat.le_refl _)) d_M_init_5 (fun H hw => ?_)
  refine lv_dup hx hb d_M_init_8 rfl ?_
  refine r_ctorN S (k_N l D k _) hw hC (jn_hi (Nat.le_refl _)) hC.2.2.2.2 im_N_init in_N co_N_init rfl (by decide +kernel) ⟨by decide, by decide⟩ hl.1 (by simp [Value.category]) d_M_init_9 ⟨(Nat.le_trans (show _ ≤ 608 by omega) (Nat.le_refl _)), (Nat.le_trans (show _ ≤ 87162 by omega) (Nat.le_refl _))⟩ (fun H locs hw => ?_)
  refine r_put (ty := .object "LineTablesModel$Num") (ci := 5) (fs := [.null, .null, .null, .null, .null, .null, .null, .null, .null, .null, .null, .null, .null, .null, .null, .null, .null, .null, .null, .null, .int 0, .int 0, .int 0, .null, .null]) hx hb hG lay_M ft_M ft_M_ok fn_M hown hin hw (by omega) ⟨by omega, by omega⟩ (by rw [jn_lo (by omega), jn_lo (by omega), va_up_self]) rfl 0 (by decide) (hG _ fl_M_41) (fun _ h9 => h9) rfl (by decide +kernel) rfl rfl (by simp) d_M_init_12 (fun H locs hw => ?_)
  have hw : gR D k b 3 s (va_up (va_up (va_up (FM k b) (b + 25) (arO (k 4) 144 (b + 33) 4 0)) (b + 26) (arO (k 4) 144 (b + 35) 4 0)) b (.inr (5, [.ref (b + 1), .null, .null, .null, .null, .null, .null, .null, .null, .null, .null, .null, .null, .null, .null, .null, .null, .null, .null, .null, .int 0, .int 0, .int 0, .null, .null]))) H locs := hw.cg (fun q h1 h2 => cg_obj (by omega) (fun h3 => by
    rw [va_up_ne _ _ (by omega), va_up_ne _ _ (by omega)]; exact FM_1 0 (by omega) (by omega) (by omega)))
  refine lv_aload_n hx hb d_M_init_15 rfl (lv_at hl 0 rfl) ?_
  refine r_new (ci := 6) hx hb hG lay_N ft_N ft_N_ok hown (hG _ cl_M_8) (hG _ ia_N) (hG _ in_N) hw rfl [.null, .int 0, .int 0] df_N (Nat.le_trans (show _ ≤ 608 by omega) (Nat.le_refl _)) (Nat.le_trans (show _ ≤ 87162 by omega) (Nat.le_refl _)) d_M_init_16 (fun H hw => ?_)
  refine lv_dup hx hb d_M_init_19 rfl ?_
  refine r_ctorN S (k_N l D k _) hw hC (jn_hi (Nat.le_refl _)) hC.2.2.2.2 im_N_init in_N co_N_init rfl (by decide +kernel) ⟨by decide, by decide⟩ hl.1 (by simp [Value.category]) d_M_init_20 ⟨(Nat.le_trans (show _ ≤ 608 by omega) (Nat.le_refl _)), (Nat.le_trans (show _ ≤ 87162 by omega) (Nat.le_refl _))⟩ (fun H locs hw => ?_)
  refine r_put (ty := .object "LineTablesModel$Num") (ci := 5) (fs := [.ref (b + 1), .null, .null, .null, .null, .null, .null, .null, .null, .null, .null, .null, .null, .null, .null, .null, .null, .null, .null, .null, .int 0, .int 0, .int 0, .null, .null]) hx hb hG lay_M ft_M ft_M_ok fn_M hown hin hw (by omega) ⟨by omega, by omega⟩ (by rw [jn_lo (by omega), jn_lo (by omega), va_up_self]) rfl 1 (by decide) (hG _ fl_M_27) (fun _ h9 => h9) rfl (by decide +kernel) rfl rfl (by simp) d_M_init_23 (fun H locs hw => ?_)
  have hw : gR D k b 5 s (va_up (va_up (va_up (FM k b) (b + 25) (arO (k 4) 144 (b + 33) 4 0)) (b + 26) (arO (k 4) 144 (b + 35) 4 0)) b (.inr (5, [.ref (b + 1), .ref (b + 3), .null, .null, .null, .null, .null, .null, .null, .null, .null, .null, .null, .null, .null, .null, .null, .null, .null, .null, .int 0, .int 0, .int 0, .null, .null]))) H locs := hw.cg (fun q h1 h2 => cg_obj (by omega) (fun h3 => by
    rw [va_up_ne _ _ (by omega), va_up_ne _ _ (by omega)]; exact FM_1 1 (by omega) (by omega) (by omega)))
  refine lv_aload_n hx hb d_M_init_26 rfl (lv_at hl 0 rfl) ?_
  refine r_new (ci := 6) hx hb hG lay_N ft_N ft_N_ok hown (hG _ cl_M_8) (hG _ ia_N) (hG _ in_N) hw rfl [.null, .int 0, .int 0] df_N (Nat.le_trans (show _ ≤ 608 by omega) (Nat.le_refl _)) (Nat.le_trans (show _ ≤ 87162 by omega) (Nat.le_refl _)) d_M_init_27 (fun H hw => ?_)
  refine lv_dup hx hb d_M_init_30 rfl ?_
  refine r_ctorN S (k_N l D k _) hw hC (jn_hi (Nat.le_refl _)) hC.2.2.2.2 im_N_init in_N co_N_init rfl (by decide +kernel) ⟨by decide, by decide⟩ hl.1 (by simp [Value.category]) d_M_init_31 ⟨(Nat.le_trans (show _ ≤ 608 by omega) (Nat.le_refl _)), (Nat.le_trans (show _ ≤ 87162 by omega) (Nat.le_refl _))⟩ (fun H locs hw => ?_)
  refine r_put (ty := .object "LineTablesModel$Num") (ci := 5) (fs := [.ref (b + 1), .ref (b + 3), .null, .null, .null, .null, .null, .null, .null, .null, .null, .null, .null, .null, .null, .null, .null, .null, .null, .null, .int 0, .int 0, .int 0, .null, .null]) hx hb hG lay_M ft_M ft_M_ok fn_M hown hin hw (by omega) ⟨by omega, by omega⟩ (by rw [jn_lo (by omega), jn_lo (by omega), va_up_self]) rfl 2 (by decide) (hG _ fl_M_24) (fun _ h9 => h9) rfl (by decide +kernel) rfl rfl (by simp) d_M_init_34 (fun H locs hw => ?_)
  have hw : gR D k b 7 s (va_up (va_up (va_up (FM k b) (b + 25) (arO (k 4) 144 (b + 33) 4 0)) (b + 26) (arO (k 4) 144 (b + 35) 4 0)) b (.inr (5, [.ref (b + 1), .ref (b + 3), .ref (b + 5), .null, .null, .null, .null, .null, .null, .null, .null, .null, .null, .null, .null, .null, .null, .null, .null, .null, .int 0, .int 0, .int 0, .null, .null]))) H locs := hw.cg (fun q h1 h2 => cg_obj (by omega) (fun h3 => by
    rw [va_up_ne _ _ (by omega), va_up_ne _ _ (by omega)]; exact FM_1 2 (by omega) (by omega) (by omega)))
  refine lv_aload_n hx hb d_M_init_37 rfl (lv_at hl 0 rfl) ?_
  refine r_new (ci := 6) hx hb hG lay_N ft_N ft_N_ok hown (hG _ cl_M_8) (hG _ ia_N) (hG _ in_N) hw rfl [.null, .int 0, .int 0] df_N (Nat.le_trans (show _ ≤ 608 by omega) (Nat.le_refl _)) (Nat.le_trans (show _ ≤ 87162 by omega) (Nat.le_refl _)) d_M_init_38 (fun H hw => ?_)
  refine lv_dup hx hb d_M_init_41 rfl ?_
  refine r_ctorN S (k_N l D k _) hw hC (jn_hi (Nat.le_refl _)) hC.2.2.2.2 im_N_init in_N co_N_init rfl (by decide +kernel) ⟨by decide, by decide⟩ hl.1 (by simp [Value.category]) d_M_init_42 ⟨(Nat.le_trans (show _ ≤ 608 by omega) (Nat.le_refl _)), (Nat.le_trans (show _ ≤ 87162 by omega) (Nat.le_refl _))⟩ (fun H locs hw => ?_)
  refine r_put (ty := .object "LineTablesModel$Num") (ci := 5) (fs := [.ref (b + 1), .ref (b + 3), .ref (b + 5), .null, .null, .null, .null, .null, .null, .null, .null, .null, .null, .null, .null, .null, .null, .null, .null, .null, .int 0, .int 0, .int 0, .null, .null]) hx hb hG lay_M ft_M ft_M_ok fn_M hown hin hw (by omega) ⟨by omega, by omega⟩ (by rw [jn_lo (by omega), jn_lo (by omega), va_up_self]) rfl 3 (by decide) (hG _ fl_M_17) (fun _ h9 => h9) rfl (by decide +kernel) rfl rfl (by simp) d_M_init_45 (fun H locs hw => ?_)
  have hw : gR D k b 9 s (va_up (va_up (va_up (FM k b) (b + 25) (arO (k 4) 144 (b + 33) 4 0)) (b + 26) (arO (k 4) 144 (b + 35) 4 0)) b (.inr (5, [.ref (b + 1), .ref (b + 3), .ref (b + 5), .ref (b + 7), .null, .null, .null, .null, .null, .null, .null, .null, .null, .null, .null, .null, .null, .null, .null, .null, .int 0, .int 0, .int 0, .null, .null]))) H locs := hw.cg (fun q h1 h2 => cg_obj (by omega) (fun h3 => by
    rw [va_up_ne _ _ (by omega), va_up_ne _ _ (by omega)]; exact FM_1 3 (by omega) (by omega) (by omega)))
  refine lv_aload_n hx hb d_M_init_48 rfl (lv_at hl 0 rfl) ?_
  refine r_new (ci := 6) hx hb hG lay_N ft_N ft_N_ok hown (hG _ cl_M_8) (hG _ ia_N) (hG _ in_N) hw rfl [.null, .int 0, .int 0] df_N (Nat.le_trans (show _ ≤ 608 by omega) (Nat.le_refl _)) (Nat.le_trans (show _ ≤ 87162 by omega) (Nat.le_refl _)) d_M_init_49 (fun H hw => ?_)
  refine lv_dup hx hb d_M_init_52 rfl ?_
  refine r_ctorN S (k_N l D k _) hw hC (jn_hi (Nat.le_refl _)) hC.2.2.2.2 im_N_init in_N co_N_init rfl (by decide +kernel) ⟨by decide, by decide⟩ hl.1 (by simp [Value.category]) d_M_init_53 ⟨(Nat.le_trans (show _ ≤ 608 by omega) (Nat.le_refl _)), (Nat.le_trans (show _ ≤ 87162 by omega) (Nat.le_refl _))⟩ (fun H locs hw => ?_)
  refine r_put (ty := .object "LineTablesModel$Num") (ci := 5) (fs := [.ref (b + 1), .ref (b + 3), .ref (b + 5), .ref (b + 7), .null, .null, .null, .null, .null, .null, .null, .null, .null, .null, .null, .null, .null, .null, .null, .null, .int 0, .int 0, .int 0, .null, .null]) hx hb hG lay_M ft_M ft_M_ok fn_M hown hin hw (by omega) ⟨by omega, by omega⟩ (by rw [jn_lo (by omega), jn_lo (by omega), va_up_self]) rfl 4 (by decide) (hG _ fl_M_1) (fun _ h9 => h9) rfl (by decide +kernel) rfl rfl (by simp) d_M_init_56 (fun H locs hw => ?_)
  have hw : gR D k b 11 s (va_up (va_up (va_up (FM k b) (b + 25) (arO (k 4) 144 (b + 33) 4 0)) (b + 26) (arO (k 4) 144 (b + 35) 4 0)) b (.inr (5, [.ref (b + 1), .ref (b + 3), .ref (b + 5), .ref (b + 7), .ref (b + 9), .null, .null, .null, .null, .null, .null, .null, .null, .null, .null, .null, .null, .null, .null, .null, .int 0, .int 0, .int 0, .null, .null]))) H locs := hw.cg (fun q h1 h2 => cg_obj (by omega) (fun h3 => by
    rw [va_up_ne _ _ (by omega), va_up_ne _ _ (by omega)]; exact FM_1 4 (by omega) (by omega) (by omega)))
  refine lv_aload_n hx hb d_M_init_59 rfl (lv_at hl 0 rfl) ?_
  refine r_new (ci := 6) hx hb hG lay_N ft_N ft_N_ok hown (hG _ cl_M_8) (hG _ ia_N) (hG _ in_N) hw rfl [.null, .int 0, .int 0] df_N (Nat.le_trans (show _ ≤ 608 by omega) (Nat.le_refl _)) (Nat.le_trans (show _ ≤ 87162 by omega) (Nat.le_refl _)) d_M_init_60 (fun H hw => ?_)
  refine lv_dup hx hb d_M_init_63 rfl ?_
  refine r_ctorN S (k_N l D k _) hw hC (jn_hi (Nat.le_refl _)) hC.2.2.2.2 im_N_init in_N co_N_init rfl (by decide +kernel) ⟨by decide, by decide⟩ hl.1 (by simp [Value.category]) d_M_init_64 ⟨(Nat.le_trans (show _ ≤ 608 by omega) (Nat.le_refl _)), (Nat.le_trans (show _ ≤ 87162 by omega) (Nat.le_refl _))⟩ (fun H locs hw => ?_)
  refine r_put (ty := .object "LineTablesModel$Num") (ci := 5) (fs := [.ref (b + 1), .ref (b + 3), .ref (b + 5), .ref (b + 7), .ref (b + 9), .null, .null, .null, .null, .null, .null, .null, .null, .null, .null, .null, .null, .null, .null, .null, .int 0, .int 0, .int 0, .null, .null]) hx hb hG lay_M ft_M ft_M_ok fn_M hown hin hw (by omega) ⟨by omega, by omega⟩ (by rw [jn_lo (by omega), jn_lo (by omega), va_up_self]) rfl 5 (by decide) (hG _ fl_M_44) (fun _ h9 => h9) rfl (by decide +kernel) rfl rfl (by simp) d_M_init_67 (fun H locs hw => ?_)
  have hw : gR D k b 13 s (va_up (va_up (va_up (FM k b) (b + 25) (arO (k 4) 144 (b + 33) 4 0)) (b + 26) (arO (k 4) 144 (b + 35) 4 0)) b (.inr (5, [.ref (b + 1), .ref (b + 3), .ref (b + 5), .ref (b + 7), .ref (b + 9), .ref (b + 11), .null, .null, .null, .null, .null, .null, .null, .null, .null, .null, .null, .null, .null, .null, .int 0, .int 0, .int 0, .null, .null]))) H locs := hw.cg (fun q h1 h2 => cg_obj (by omega) (fun h3 => by
    rw [va_up_ne _ _ (by omega), va_up_ne _ _ (by omega)]; exact FM_1 5 (by omega) (by omega) (by omega)))
  refine lv_aload_n hx hb d_M_init_70 rfl (lv_at hl 0 rfl) ?_
  refine r_new (ci := 6) hx hb hG lay_N ft_N ft_N_ok hown (hG _ cl_M_8) (hG _ ia_N) (hG _ in_N) hw rfl [.null, .int 0, .int 0] df_N (Nat.le_trans (show _ ≤ 608 by omega) (Nat.le_refl _)) (Nat.le_trans (show _ ≤ 87162 by omega) (Nat.le_refl _)) d_M_init_71 (fun H hw => ?_)
  refine lv_dup hx hb d_M_init_74 rfl ?_
  refine r_ctorN S (k_N l D k _) hw hC (jn_hi (Nat.le_refl _)) hC.2.2.2.2 im_N_init in_N co_N_init rfl (by decide +kernel) ⟨by decide, by decide⟩ hl.1 (by simp [Value.category]) d_M_init_75 ⟨(Nat.le_trans (show _ ≤ 608 by omega) (Nat.le_refl _)), (Nat.le_trans (show _ ≤ 87162 by omega) (Nat.le_refl _))⟩ (fun H locs hw => ?_)
  refine r_put (ty := .object "LineTablesModel$Num") (ci := 5) (fs := [.ref (b + 1), .ref (b + 3), .ref (b + 5), .ref (b + 7), .ref (b + 9), .ref (b + 11), .null, .null, .null, .null, .null, .null, .null, .null, .null, .null, .null, .null, .null, .null, .int 0, .int 0, .int 0, .null, .null]) hx hb hG lay_M ft_M ft_M_ok fn_M hown hin hw (by omega) ⟨by omega, by omega⟩ (by rw [jn_lo (by omega), jn_lo (by omega), va_up_self]) rfl 6 (by decide) (hG _ fl_M_47) (fun _ h9 => h9) rfl (by decide +kernel) rfl rfl (by simp) d_M_init_78 (fun H locs hw => ?_)
  have hw : gR D k b 15 s (va_up (va_up (va_up (FM k b) (b + 25) (arO (k 4) 144 (b + 33) 4 0)) (b + 26) (arO (k 4) 144 (b + 35) 4 0)) b (.inr (5, [.ref (b + 1), .ref (b + 3), .ref (b + 5), .ref (b + 7), .ref (b + 9), .ref (b + 11), .ref (b + 13), .null, .null, .null, .null, .null, .null, .null, .null, .null, .null, .null, .null, .null, .int 0, .int 0, .int 0, .null, .null]))) H locs := hw.cg (fun q h1 h2 => cg_obj (by omega) (fun h3 => by
    rw [va_up_ne _ _ (by omega), va_up_ne _ _ (by omega)]; exact FM_1 6 (by omega) (by omega) (by omega)))
  refine lv_aload_n hx hb d_M_init_81 rfl (lv_at hl 0 rfl) ?_
  refine r_new (ci := 6) hx hb hG lay_N ft_N ft_N_ok hown (hG _ cl_M_8) (hG _ ia_N) (hG _ in_N) hw rfl [.null, .int 0, .int 0] df_N (Nat.le_trans (show _ ≤ 608 by omega) (Nat.le_refl _)) (Nat.le_trans (show _ ≤ 87162 by omega) (Nat.le_refl _)) d_M_init_82 (fun H hw => ?_)
  refine lv_dup hx hb d_M_init_85 rfl ?_
  refine r_ctorN S (k_N l D k _) hw hC (jn_hi (Nat.le_refl _)) hC.2.2.2.2 im_N_init in_N co_N_init rfl (by decide +kernel) ⟨by decide, by decide⟩ hl.1 (by simp [Value.category]) d_M_init_86 ⟨(Nat.le_trans (show _ ≤ 608 by omega) (Nat.le_refl _)), (Nat.le_trans (show _ ≤ 87162 by omega) (Nat.le_refl _))⟩ (fun H locs hw => ?_)
  refine r_put (ty := .object "LineTablesModel$Num") (ci := 5) (fs := [.ref (b + 1), .ref (b + 3), .ref (b + 5), .ref (b + 7), .ref (b + 9), .ref (b + 11), .ref (b + 13), .null, .null, .null, .null, .null, .null, .null, .null, .null, .null, .null, .null, .null, .int 0, .int 0, .int 0, .null, .null]) hx hb hG lay_M ft_M ft_M_ok fn_M hown hin hw (by omega) ⟨by omega, by omega⟩ (by rw [jn_lo (by omega), jn_lo (by omega), va_up_self]) rfl 7 (by decide) (hG _ fl_M_50) (fun _ h9 => h9) rfl (by decide +kernel) rfl rfl (by simp) d_M_init_89 (fun H locs hw => ?_)
  have hw : gR D k b 17 s (va_up (va_up (va_up (FM k b) (b + 25) (arO (k 4) 144 (b + 33) 4 0)) (b + 26) (arO (k 4) 144 (b + 35) 4 0)) b (.inr (5, [.ref (b + 1), .ref (b + 3), .ref (b + 5), .ref (b + 7), .ref (b + 9), .ref (b + 11), .ref (b + 13), .ref (b + 15), .null, .null, .null, .null, .null, .null, .null, .null, .null, .null, .null, .null, .int 0, .int 0, .int 0, .null, .null]))) H locs := hw.cg (fun q h1 h2 => cg_obj (by omega) (fun h3 => by
    rw [va_up_ne _ _ (by omega), va_up_ne _ _ (by omega)]; exact FM_1 7 (by omega) (by omega) (by omega)))
  refine lv_aload_n hx hb d_M_init_92 rfl (lv_at hl 0 rfl) ?_
  refine lv_bipush (v := 8) hx hb d_M_init_93 (by decide) ?_
  refine r_newI hx hb (hG _ ac_int) hw 8 (by decide) (by decide) (Nat.le_trans (show _ ≤ 608 by omega) (Nat.le_refl _)) (Nat.le_trans (show _ ≤ 87162 by omega) (Nat.le_refl _)) d_M_init_95 (fun H hw => ?_)
  refine r_put (ty := .array .int) (ci := 5) (fs := [.ref (b + 1), .ref (b + 3), .ref (b + 5), .ref (b + 7), .ref (b + 9), .ref (b + 11), .ref (b + 13), .ref (b + 15), .null, .null, .null, .null, .null, .null, .null, .null, .null, .null, .null, .null, .int 0, .int 0, .int 0, .null, .null]) hx hb hG lay_M ft_M ft_M_ok fn_M hown hin hw (by omega) ⟨by omega, by omega⟩ (by rw [jn_lo (by omega), va_up_self]) rfl 8 (by decide) (hG _ fl_M_53) (fun _ h9 => h9) rfl (by decide +kernel) rfl rfl (by simp) d_M_init_97 (fun H locs hw => ?_)
  have hw : gR D k b 18 s (va_up (va_up (va_up (FM k b) (b + 25) (arO (k 4) 144 (b + 33) 4 0)) (b + 26) (arO (k 4) 144 (b + 35) 4 0)) b (.inr (5, [.ref (b + 1), .ref (b + 3), .ref (b + 5), .ref (b + 7), .ref (b + 9), .ref (b + 11), .ref (b + 13), .ref (b + 15), .ref (b + 17), .null, .null, .null, .null, .null, .null, .null, .null, .null, .null, .null, .int 0, .int 0, .int 0, .null, .null]))) H locs := hw.cg (fun q h1 h2 => cg_arr (by omega) (fun h3 => by
    rw [show q = b + 17 + 0 by omega, va_up_ne _ _ (by omega), va_up_ne _ _ (by omega), FM_r 0 (by omega)]; rfl))
  refine lv_aload_n hx hb d_M_init_100 rfl (lv_at hl 0 rfl) ?_
  refine lv_bipush (v := 8) hx hb d_M_init_101 (by decide) ?_
  refine r_newI hx hb (hG _ ac_int) hw 8 (by decide) (by decide) (Nat.le_trans (show _ ≤ 608 by omega) (Nat.le_refl _)) (Nat.le_trans (show _ ≤ 87162 by omega) (Nat.le_refl _)) d_M_init_103 (fun H hw => ?_)
  refine r_put (ty := .array .int) (ci := 5) (fs := [.ref (b + 1), .ref (b + 3), .ref (b + 5), .ref (b + 7), .ref (b + 9), .ref (b + 11), .ref (b + 13), .ref (b + 15), .ref (b + 17), .null, .null, .null, .null, .null, .null, .null, .null, .null, .null, .null, .int 0, .int 0, .int 0, .null, .null]) hx hb hG lay_M ft_M ft_M_ok fn_M hown hin hw (by omega) ⟨by omega, by omega⟩ (by rw [jn_lo (by omega), va_up_self]) rfl 9 (by decide) (hG _ fl_M_57) (fun _ h9 => h9) rfl (by decide +kernel) rfl rfl (by simp) d_M_init_105 (fun H locs hw => ?_)
  have hw : gR D k b 19 s (va_up (va_up (va_up (FM k b) (b + 25) (arO (k 4) 144 (b + 33) 4 0)) (b + 26) (arO (k 4) 144 (b + 35) 4 0)) b (.inr (5, [.ref (b + 1), .ref (b + 3), .ref (b + 5), .ref (b + 7), .ref (b + 9), .ref (b + 11), .ref (b + 13), .ref (b + 15), .ref (b + 17), .ref (b + 18), .null, .null, .null, .null, .null, .null, .null, .null, .null, .null, .int 0, .int 0, .int 0, .null, .null]))) H locs := hw.cg (fun q h1 h2 => cg_arr (by omega) (fun h3 => by
    rw [show q = b + 17 + 1 by omega, va_up_ne _ _ (by omega), va_up_ne _ _ (by omega), FM_r 1 (by omega)]; rfl))
  refine lv_aload_n hx hb d_M_init_108 rfl (lv_at hl 0 rfl) ?_
  refine lv_bipush (v := 8) hx hb d_M_init_109 (by decide) ?_
  refine r_newI hx hb (hG _ ac_int) hw 8 (by decide) (by decide) (Nat.le_trans (show _ ≤ 608 by omega) (Nat.le_refl _)) (Nat.le_trans (show _ ≤ 87162 by omega) (Nat.le_refl _)) d_M_init_111 (fun H hw => ?_)
  refine r_put (ty := .array .int) (ci := 5) (fs := [.ref (b + 1), .ref (b + 3), .ref (b + 5), .ref (b + 7), .ref (b + 9), .ref (b + 11), .ref (b + 13), .ref (b + 15), .ref (b + 17), .ref (b + 18), .null, .null, .null, .null, .null, .null, .null, .null, .null, .null, .int 0, .int 0, .int 0, .null, .null]) hx hb hG lay_M ft_M ft_M_ok fn_M hown hin hw (by omega) ⟨by omega, by omega⟩ (by rw [jn_lo (by omega), va_up_self]) rfl 10 (by decide) (hG _ fl_M_60) (fun _ h9 => h9) rfl (by decide +kernel) rfl rfl (by simp) d_M_init_113 (fun H locs hw => ?_)
  have hw : gR D k b 20 s (va_up (va_up (va_up (FM k b) (b + 25) (arO (k 4) 144 (b + 33) 4 0)) (b + 26) (arO (k 4) 144 (b + 35) 4 0)) b (.inr (5, [.ref (b + 1), .ref (b + 3), .ref (b + 5), .ref (b + 7), .ref (b + 9), .ref (b + 11), .ref (b + 13), .ref (b + 15), .ref (b + 17), .ref (b + 18), .ref (b + 19), .null, .null, .null, .null, .null, .null, .null, .null, .null, .int 0, .int 0, .int 0, .null, .null]))) H locs := hw.cg (fun q h1 h2 => cg_arr (by omega) (fun h3 => by
    rw [show q = b + 17 + 2 by omega, va_up_ne _ _ (by omega), va_up_ne _ _ (by omega), FM_r 2 (by omega)]; rfl))
  refine lv_aload_n hx hb d_M_init_116 rfl (lv_at hl 0 rfl) ?_
  refine lv_bipush (v := 8) hx hb d_M_init_117 (by decide) ?_
  refine r_newZ hx hb (hG _ ac_boolean) hw 8 (by decide) (by decide) (Nat.le_trans (show _ ≤ 608 by omega) (Nat.le_refl _)) (Nat.le_trans (show _ ≤ 87162 by omega) (Nat.le_refl _)) d_M_init_119 (fun H hw => ?_)
  refine r_put (ty := .array .boolean) (ci := 5) (fs := [.ref (b + 1), .ref (b + 3), .ref (b + 5), .ref (b + 7), .ref (b + 9), .ref (b + 11), .ref (b + 13), .ref (b + 15), .ref (b + 17), .ref (b + 18), .ref (b + 19), .null, .null, .null, .null, .null, .null, .null, .null, .null, .int 0, .int 0, .int 0, .null, .null]) hx hb hG lay_M ft_M ft_M_ok fn_M hown hin hw (by omega) ⟨by omega, by omega⟩ (by rw [jn_lo (by omega), va_up_self]) rfl 11 (by decide) (hG _ fl_M_63) (fun _ h9 => h9) rfl (by decide +kernel) rfl rfl (by simp) d_M_init_121 (fun H locs hw => ?_)
  have hw : gR D k b 21 s (va_up (va_up (va_up (FM k b) (b + 25) (arO (k 4) 144 (b + 33) 4 0)) (b + 26) (arO (k 4) 144 (b + 35) 4 0)) b (.inr (5, [.ref (b + 1), .ref (b + 3), .ref (b + 5), .ref (b + 7), .ref (b + 9), .ref (b + 11), .ref (b + 13), .ref (b + 15), .ref (b + 17), .ref (b + 18), .ref (b + 19), .ref (b + 20), .null, .null, .null, .null, .null, .null, .null, .null, .int 0, .int 0, .int 0, .null, .null]))) H locs := hw.cg (fun q h1 h2 => cg_arr (by omega) (fun h3 => by
    rw [show q = b + 17 + 3 by omega, va_up_ne _ _ (by omega), va_up_ne _ _ (by omega), FM_r 3 (by omega)]; rfl))
  refine lv_aload_n hx hb d_M_init_124 rfl (lv_at hl 0 rfl) ?_
  refine lv_bipush (v := 96) hx hb d_M_init_125 (by decide) ?_
  refine r_newI hx hb (hG _ ac_int) hw 96 (by decide) (by decide) (Nat.le_trans (show _ ≤ 608 by omega) (Nat.le_refl _)) (Nat.le_trans (show _ ≤ 87162 by omega) (Nat.le_refl _)) d_M_init_127 (fun H hw => ?_)
  refine r_put (ty := .array .int) (ci := 5) (fs := [.ref (b + 1), .ref (b + 3), .ref (b + 5), .ref (b + 7), .ref (b + 9), .ref (b + 11), .ref (b + 13), .ref (b + 15), .ref (b + 17), .ref (b + 18), .ref (b + 19), .ref (b + 20), .null, .null, .null, .null, .null, .null, .null, .null, .int 0, .int 0, .int 0, .null, .null]) hx hb hG lay_M ft_M ft_M_ok fn_M hown hin hw (by omega) ⟨by omega, by omega⟩ (by rw [jn_lo (by omega), va_up_self]) rfl 12 (by decide) (hG _ fl_M_67) (fun _ h9 => h9) rfl (by decide +kernel) rfl rfl (by simp) d_M_init_129 (fun H locs hw => ?_)
  have hw : gR D k b 22 s (va_up (va_up (va_up (FM k b) (b + 25) (arO (k 4) 144 (b + 33) 4 0)) (b + 26) (arO (k 4) 144 (b + 35) 4 0)) b (.inr (5, [.ref (b + 1), .ref (b + 3), .ref (b + 5), .ref (b + 7), .ref (b + 9), .ref (b + 11), .ref (b + 13), .ref (b + 15), .ref (b + 17), .ref (b + 18), .ref (b + 19), .ref (b + 20), .ref (b + 21), .null, .null, .null, .null, .null, .null, .null, .int 0, .int 0, .int 0, .null, .null]))) H locs := hw.cg (fun q h1 h2 => cg_arr (by omega) (fun h3 => by
    rw [show q = b + 17 + 4 by omega, va_up_ne _ _ (by omega), va_up_ne _ _ (by omega), FM_r 4 (by omega)]; rfl))
  refine lv_aload_n hx hb d_M_init_132 rfl (lv_at hl 0 rfl) ?_
  refine lv_sipush (v := 18432) hx hb d_M_init_133 (by decide) ?_
  refine r_newI hx hb (hG _ ac_int) hw 18432 (by decide) (by decide) (Nat.le_trans (show _ ≤ 608 by omega) (Nat.le_refl _)) (Nat.le_trans (show _ ≤ 87162 by omega) (Nat.le_refl _)) d_M_init_136 (fun H hw => ?_)
  refine r_put (ty := .array .int) (ci := 5) (fs := [.ref (b + 1), .ref (b + 3), .ref (b + 5), .ref (b + 7), .ref (b + 9), .ref (b + 11), .ref (b + 13), .ref (b + 15), .ref (b + 17), .ref (b + 18), .ref (b + 19), .ref (b + 20), .ref (b + 21), .null, .null, .null, .null, .null, .null, .null, .int 0, .int 0, .int 0, .null, .null]) hx hb hG lay_M ft_M ft_M_ok fn_M hown hin hw (by omega) ⟨by omega, by omega⟩ (by rw [jn_lo (by omega), va_up_self]) rfl 13 (by decide) (hG _ fl_M_70) (fun _ h9 => h9) rfl (by decide +kernel) rfl rfl (by simp) d_M_init_138 (fun H locs hw => ?_)
  have hw : gR D k b 23 s (va_up (va_up (va_up (FM k b) (b + 25) (arO (k 4) 144 (b + 33) 4 0)) (b + 26) (arO (k 4) 144 (b + 35) 4 0)) b (.inr (5, [.ref (b + 1), .ref (b + 3), .ref (b + 5), .ref (b + 7), .ref (b + 9), .ref (b + 11), .ref (b + 13), .ref (b + 15), .ref (b + 17), .ref (b + 18), .ref (b + 19), .ref (b + 20), .ref (b + 21), .ref (b + 22), .null, .null, .null, .null, .null, .null, .int 0, .int 0, .int 0, .null, .null]))) H locs := hw.cg (fun q h1 h2 => cg_arr (by omega) (fun h3 => by
    rw [show q = b + 17 + 5 by omega, va_up_ne _ _ (by omega), va_up_ne _ _ (by omega), FM_r 5 (by omega)]; rfl))
  refine lv_aload_n hx hb d_M_init_141 rfl (lv_at hl 0 rfl) ?_
  refine lv_sipush (v := 18432) hx hb d_M_init_142 (by decide) ?_
  refine r_newI hx hb (hG _ ac_int) hw 18432 (by decide) (by decide) (Nat.le_trans (show _ ≤ 608 by omega) (Nat.le_refl _)) (Nat.le_trans (show _ ≤ 87162 by omega) (Nat.le_refl _)) d_M_init_145 (fun H hw => ?_)
  refine r_put (ty := .array .int) (ci := 5) (fs := [.ref (b + 1), .ref (b + 3), .ref (b + 5), .ref (b + 7), .ref (b + 9), .ref (b + 11), .ref (b + 13), .ref (b + 15), .ref (b + 17), .ref (b + 18), .ref (b + 19), .ref (b + 20), .ref (b + 21), .ref (b + 22), .null, .null, .null, .null, .null, .null, .int 0, .int 0, .int 0, .null, .null]) hx hb hG lay_M ft_M ft_M_ok fn_M hown hin hw (by omega) ⟨by omega, by omega⟩ (by rw [jn_lo (by omega), va_up_self]) rfl 14 (by decide) (hG _ fl_M_73) (fun _ h9 => h9) rfl (by decide +kernel) rfl rfl (by simp) d_M_init_147 (fun H locs hw => ?_)
  have hw : gR D k b 24 s (va_up (va_up (va_up (FM k b) (b + 25) (arO (k 4) 144 (b + 33) 4 0)) (b + 26) (arO (k 4) 144 (b + 35) 4 0)) b (.inr (5, [.ref (b + 1), .ref (b + 3), .ref (b + 5), .ref (b + 7), .ref (b + 9), .ref (b + 11), .ref (b + 13), .ref (b + 15), .ref (b + 17), .ref (b + 18), .ref (b + 19), .ref (b + 20), .ref (b + 21), .ref (b + 22), .ref (b + 23), .null, .null, .null, .null, .null, .int 0, .int 0, .int 0, .null, .null]))) H locs := hw.cg (fun q h1 h2 => cg_arr (by omega) (fun h3 => by
    rw [show q = b + 17 + 6 by omega, va_up_ne _ _ (by omega), va_up_ne _ _ (by omega), FM_r 6 (by omega)]; rfl))
  refine lv_aload_n hx hb d_M_init_150 rfl (lv_at hl 0 rfl) ?_
  refine lv_sipush (v := 1152) hx hb d_M_init_151 (by decide) ?_
  refine r_newI hx hb (hG _ ac_int) hw 1152 (by decide) (by decide) (Nat.le_trans (show _ ≤ 608 by omega) (Nat.le_refl _)) (Nat.le_trans (show _ ≤ 87162 by omega) (Nat.le_refl _)) d_M_init_154 (fun H hw => ?_)
  refine r_put (ty := .array .int) (ci := 5) (fs := [.ref (b + 1), .ref (b + 3), .ref (b + 5), .ref (b + 7), .ref (b + 9), .ref (b + 11), .ref (b + 13), .ref (b + 15), .ref (b + 17), .ref (b + 18), .ref (b + 19), .ref (b + 20), .ref (b + 21), .ref (b + 22), .ref (b + 23), .null, .null, .null, .null, .null, .int 0, .int 0, .int 0, .null, .null]) hx hb hG lay_M ft_M ft_M_ok fn_M hown hin hw (by omega) ⟨by omega, by omega⟩ (by rw [jn_lo (by omega), va_up_self]) rfl 15 (by decide) (hG _ fl_M_76) (fun _ h9 => h9) rfl (by decide +kernel) rfl rfl (by simp) d_M_init_156 (fun H locs hw => ?_)
  have hw : gR D k b 25 s (va_up (va_up (va_up (FM k b) (b + 25) (arO (k 4) 144 (b + 33) 4 0)) (b + 26) (arO (k 4) 144 (b + 35) 4 0)) b (.inr (5, [.ref (b + 1), .ref (b + 3), .ref (b + 5), .ref (b + 7), .ref (b + 9), .ref (b + 11), .ref (b + 13), .ref (b + 15), .ref (b + 17), .ref (b + 18), .ref (b + 19), .ref (b + 20), .ref (b + 21), .ref (b + 22), .ref (b + 23), .ref (b + 24), .null, .null, .null, .null, .int 0, .int 0, .int 0, .null, .null]))) H locs := hw.cg (fun q h1 h2 => cg_arr (by omega) (fun h3 => by
    rw [show q = b + 17 + 7 by omega, va_up_ne _ _ (by omega), va_up_ne _ _ (by omega), FM_r 7 (by omega)]; rfl))
  refine lv_aload_n hx hb d_M_init_159 rfl (lv_at hl 0 rfl) ?_
  refine lv_sipush (v := 144) hx hb d_M_init_160 (by decide) ?_
  refine r_newq hx hb hown (hG _ cl_M_8) hC.1.2.2 hw 4 rfl 144 (by decide) (by decide) (Nat.le_trans (show _ ≤ 608 by omega) (Nat.le_refl _)) (Nat.le_trans (show _ ≤ 87162 by omega) (Nat.le_refl _)) d_M_init_163 (fun H hw => ?_)
  refine r_put (ty := .array (.object "LineTablesModel$Num")) (ci := 5) (fs := [.ref (b + 1), .ref (b + 3), .ref (b + 5), .ref (b + 7), .ref (b + 9), .ref (b + 11), .ref (b + 13), .ref (b + 15), .ref (b + 17), .ref (b + 18), .ref (b + 19), .ref (b + 20), .ref (b + 21), .ref (b + 22), .ref (b + 23), .ref (b + 24), .null, .null, .null, .null, .int 0, .int 0, .int 0, .null, .null]) hx hb hG lay_M ft_M ft_M_ok fn_M hown hin hw (by omega) ⟨by omega, by omega⟩ (by rw [jn_lo (by omega), va_up_self]) rfl 16 (by decide) (hG _ fl_M_79) (fun _ h9 => h9) rfl (by decide +kernel) rfl rfl (by simp) d_M_init_166 (fun H locs hw => ?_)
  have hw : gR D k b 26 s (va_up (va_up (va_up (FM k b) (b + 25) (arO (k 4) 144 (b + 33) 4 0)) (b + 26) (arO (k 4) 144 (b + 35) 4 0)) b (.inr (5, [.ref (b + 1), .ref (b + 3), .ref (b + 5), .ref (b + 7), .ref (b + 9), .ref (b + 11), .ref (b + 13), .ref (b + 15), .ref (b + 17), .ref (b + 18), .ref (b + 19), .ref (b + 20), .ref (b + 21), .ref (b + 22), .ref (b + 23), .ref (b + 24), .ref (b + 25), .null, .null, .null, .int 0, .int 0, .int 0, .null, .null]))) H locs := hw.cg (fun q h1 h2 => cg_arr (by omega) (fun h3 => by
    rw [show q = b + 25 by omega, va_up_ne _ _ (by omega), va_up_self]; exact arO_0.symm))
  refine lv_aload_n hx hb d_M_init_169 rfl (lv_at hl 0 rfl) ?_
  refine lv_sipush (v := 144) hx hb d_M_init_170 (by decide) ?_
  refine r_newq hx hb hown (hG _ cl_M_8) hC.1.2.2 hw 4 rfl 144 (by decide) (by decide) (Nat.le_trans (show _ ≤ 608 by omega) (Nat.le_refl _)) (Nat.le_trans (show _ ≤ 87162 by omega) (Nat.le_refl _)) d_M_init_173 (fun H hw => ?_)
  refine r_put (ty := .array (.object "LineTablesModel$Num")) (ci := 5) (fs := [.ref (b + 1), .ref (b + 3), .ref (b + 5), .ref (b + 7), .ref (b + 9), .ref (b + 11), .ref (b + 13), .ref (b + 15), .ref (b + 17), .ref (b + 18), .ref (b + 19), .ref (b + 20), .ref (b + 21), .ref (b + 22), .ref (b + 23), .ref (b + 24), .ref (b + 25), .null, .null, .null, .int 0, .int 0, .int 0, .null, .null]) hx hb hG lay_M ft_M ft_M_ok fn_M hown hin hw (by omega) ⟨by omega, by omega⟩ (by rw [jn_lo (by omega), va_up_self]) rfl 17 (by decide) (hG _ fl_M_83) (fun _ h9 => h9) rfl (by decide +kernel) rfl rfl (by simp) d_M_init_176 (fun H locs hw => ?_)
  have hw : gR D k b 27 s (va_up (va_up (va_up (FM k b) (b + 25) (arO (k 4) 144 (b + 33) 4 0)) (b + 26) (arO (k 4) 144 (b + 35) 4 0)) b (.inr (5, [.ref (b + 1), .ref (b + 3), .ref (b + 5), .ref (b + 7), .ref (b + 9), .ref (b + 11), .ref (b + 13), .ref (b + 15), .ref (b + 17), .ref (b + 18), .ref (b + 19), .ref (b + 20), .ref (b + 21), .ref (b + 22), .ref (b + 23), .ref (b + 24), .ref (b + 25), .ref (b + 26), .null, .null, .int 0, .int 0, .int 0, .null, .null]))) H locs := hw.cg (fun q h1 h2 => cg_arr (by omega) (fun h3 => by
    rw [show q = b + 26 by omega, va_up_self]; exact arO_0.symm))
  refine lv_aload_n hx hb d_M_init_179 rfl (lv_at hl 0 rfl) ?_
  refine lv_sipush (v := 144) hx hb d_M_init_180 (by decide) ?_
  refine r_newI hx hb (hG _ ac_int) hw 144 (by decide) (by decide) (Nat.le_trans (show _ ≤ 608 by omega) (Nat.le_refl _)) (Nat.le_trans (show _ ≤ 87162 by omega) (Nat.le_refl _)) d_M_init_183 (fun H hw => ?_)
  refine r_put (ty := .array .int) (ci := 5) (fs := [.ref (b + 1), .ref (b + 3), .ref (b + 5), .ref (b + 7), .ref (b + 9), .ref (b + 11), .ref (b + 13), .ref (b + 15), .ref (b + 17), .ref (b + 18), .ref (b + 19), .ref (b + 20), .ref (b + 21), .ref (b + 22), .ref (b + 23), .ref (b + 24), .ref (b + 25), .ref (b + 26), .null, .null, .int 0, .int 0, .int 0, .null, .null]) hx hb hG lay_M ft_M ft_M_ok fn_M hown hin hw (by omega) ⟨by omega, by omega⟩ (by rw [jn_lo (by omega), va_up_self]) rfl 18 (by decide) (hG _ fl_M_86) (fun _ h9 => h9) rfl (by decide +kernel) rfl rfl (by simp) d_M_init_185 (fun H locs hw => ?_)
  have hw : gR D k b 28 s (va_up (va_up (va_up (FM k b) (b + 25) (arO (k 4) 144 (b + 33) 4 0)) (b + 26) (arO (k 4) 144 (b + 35) 4 0)) b (.inr (5, [.ref (b + 1), .ref (b + 3), .ref (b + 5), .ref (b + 7), .ref (b + 9), .ref (b + 11), .ref (b + 13), .ref (b + 15), .ref (b + 17), .ref (b + 18), .ref (b + 19), .ref (b + 20), .ref (b + 21), .ref (b + 22), .ref (b + 23), .ref (b + 24), .ref (b + 25), .ref (b + 26), .ref (b + 27), .null, .int 0, .int 0, .int 0, .null, .null]))) H locs := hw.cg (fun q h1 h2 => cg_arr (by omega) (fun h3 => by
    rw [show q = b + 17 + 10 by omega, va_up_ne _ _ (by omega), va_up_ne _ _ (by omega), FM_r 10 (by omega)]; rfl))
  refine lv_aload_n hx hb d_M_init_188 rfl (lv_at hl 0 rfl) ?_
  refine lv_bipush (v := 12) hx hb d_M_init_189 (by decide) ?_
  refine r_newI hx hb (hG _ ac_int) hw 12 (by decide) (by decide) (Nat.le_trans (show _ ≤ 608 by omega) (Nat.le_refl _)) (Nat.le_trans (show _ ≤ 87162 by omega) (Nat.le_refl _)) d_M_init_191 (fun H hw => ?_)
  refine r_put (ty := .array .int) (ci := 5) (fs := [.ref (b + 1), .ref (b + 3), .ref (b + 5), .ref (b + 7), .ref (b + 9), .ref (b + 11), .ref (b + 13), .ref (b + 15), .ref (b + 17), .ref (b + 18), .ref (b + 19), .ref (b + 20), .ref (b + 21), .ref (b + 22), .ref (b + 23), .ref (b + 24), .ref (b + 25), .ref (b + 26), .ref (b + 27), .null, .int 0, .int 0, .int 0, .null, .null]) hx hb hG lay_M ft_M ft_M_ok fn_M hown hin hw (by omega) ⟨by omega, by omega⟩ (by rw [jn_lo (by omega), va_up_self]) rfl 19 (by decide) (hG _ fl_M_89) (fun _ h9 => h9) rfl (by decide +kernel) rfl rfl (by simp) d_M_init_193 (fun H locs hw => ?_)
  have hw : gR D k b 29 s (va_up (va_up (va_up (FM k b) (b + 25) (arO (k 4) 144 (b + 33) 4 0)) (b + 26) (arO (k 4) 144 (b + 35) 4 0)) b (.inr (5, [.ref (b + 1), .ref (b + 3), .ref (b + 5), .ref (b + 7), .ref (b + 9), .ref (b + 11), .ref (b + 13), .ref (b + 15), .ref (b + 17), .ref (b + 18), .ref (b + 19), .ref (b + 20), .ref (b + 21), .ref (b + 22), .ref (b + 23), .ref (b + 24), .ref (b + 25), .ref (b + 26), .ref (b + 27), .ref (b + 28), .int 0, .int 0, .int 0, .null, .null]))) H locs := hw.cg (fun q h1 h2 => cg_arr (by omega) (fun h3 => by
    rw [show q = b + 17 + 11 by omega, va_up_ne _ _ (by omega), va_up_ne _ _ (by omega), FM_r 11 (by omega)]; rfl))
  refine lv_aload_n hx hb d_M_init_196 rfl (lv_at hl 0 rfl) ?_
  refine r_new (ci := 6) hx hb hG lay_N ft_N ft_N_ok hown (hG _ cl_M_8) (hG _ ia_N) (hG _ in_N) hw rfl [.null, .int 0, .int 0] df_N (Nat.le_trans (show _ ≤ 608 by omega) (Nat.le_refl _)) (Nat.le_trans (show _ ≤ 87162 by omega) (Nat.le_refl _)) d_M_init_197 (fun H hw => ?_)
  refine lv_dup hx hb d_M_init_200 rfl ?_
  refine r_ctorN S (k_N l D k _) hw hC (jn_hi (Nat.le_refl _)) hC.2.2.2.2 im_N_init in_N co_N_init rfl (by decide +kernel) ⟨by decide, by decide⟩ hl.1 (by simp [Value.category]) d_M_init_201 ⟨(Nat.le_trans (show _ ≤ 608 by omega) (Nat.le_refl _)), (Nat.le_trans (show _ ≤ 87162 by omega) (Nat.le_refl _))⟩ (fun H locs hw => ?_)
  refine r_put (ty := .object "LineTablesModel$Num") (ci := 5) (fs := [.ref (b + 1), .ref (b + 3), .ref (b + 5), .ref (b + 7), .ref (b + 9), .ref (b + 11), .ref (b + 13), .ref (b + 15), .ref (b + 17), .ref (b + 18), .ref (b + 19), .ref (b + 20), .ref (b + 21), .ref (b + 22), .ref (b + 23), .ref (b + 24), .ref (b + 25), .ref (b + 26), .ref (b + 27), .ref (b + 28), .int 0, .int 0, .int 0, .null, .null]) hx hb hG lay_M ft_M ft_M_ok fn_M hown hin hw (by omega) ⟨by omega, by omega⟩ (by rw [jn_lo (by omega), jn_lo (by omega), va_up_self]) rfl 23 (by decide) (hG _ fl_M_92) (fun _ h9 => h9) rfl (by decide +kernel) rfl rfl (by simp) d_M_init_204 (fun H locs hw => ?_)
  have hw : gR D k b 31 s (va_up (va_up (va_up (FM k b) (b + 25) (arO (k 4) 144 (b + 33) 4 0)) (b + 26) (arO (k 4) 144 (b + 35) 4 0)) b (.inr (5, [.ref (b + 1), .ref (b + 3), .ref (b + 5), .ref (b + 7), .ref (b + 9), .ref (b + 11), .ref (b + 13), .ref (b + 15), .ref (b + 17), .ref (b + 18), .ref (b + 19), .ref (b + 20), .ref (b + 21), .ref (b + 22), .ref (b + 23), .ref (b + 24), .ref (b + 25), .ref (b + 26), .ref (b + 27), .ref (b + 28), .int 0, .int 0, .int 0, .ref (b + 29), .null]))) H locs := hw.cg (fun q h1 h2 => cg_obj (by omega) (fun h3 => by
    rw [va_up_ne _ _ (by omega), va_up_ne _ _ (by omega)]; exact FM_2 0 (by omega) (by omega)))
  refine lv_aload_n hx hb d_M_init_207 rfl (lv_at hl 0 rfl) ?_
  refine r_new (ci := 6) hx hb hG lay_N ft_N ft_N_ok hown (hG _ cl_M_8) (hG _ ia_N) (hG _ in_N) hw rfl [.null, .int 0, .int 0] df_N (Nat.le_trans (show _ ≤ 608 by omega) (Nat.le_refl _)) (Nat.le_trans (show _ ≤ 87162 by omega) (Nat.le_refl _)) d_M_init_208 (fun H hw => ?_)
  refine lv_dup hx hb d_M_init_211 rfl ?_
  refine r_ctorN S (k_N l D k _) hw hC (jn_hi (Nat.le_refl _)) hC.2.2.2.2 im_N_init in_N co_N_init rfl (by decide +kernel) ⟨by decide, by decide⟩ hl.1 (by simp [Value.category]) d_M_init_212 ⟨(Nat.le_trans (show _ ≤ 608 by omega) (Nat.le_refl _)), (Nat.le_trans (show _ ≤ 87162 by omega) (Nat.le_refl _))⟩ (fun H locs hw => ?_)
  refine r_put (ty := .object "LineTablesModel$Num") (ci := 5) (fs := [.ref (b + 1), .ref (b + 3), .ref (b + 5), .ref (b + 7), .ref (b + 9), .ref (b + 11), .ref (b + 13), .ref (b + 15), .ref (b + 17), .ref (b + 18), .ref (b + 19), .ref (b + 20), .ref (b + 21), .ref (b + 22), .ref (b + 23), .ref (b + 24), .ref (b + 25), .ref (b + 26), .ref (b + 27), .ref (b + 28), .int 0, .int 0, .int 0, .ref (b + 29), .null]) hx hb hG lay_M ft_M ft_M_ok fn_M hown hin hw (by omega) ⟨by omega, by omega⟩ (by rw [jn_lo (by omega), jn_lo (by omega), va_up_self]) rfl 24 (by decide) (hG _ fl_M_95) (fun _ h9 => h9) rfl (by decide +kernel) rfl rfl (by simp) d_M_init_215 (fun H locs hw => ?_)
  have hw : gR D k b 33 s (va_up (va_up (va_up (FM k b) (b + 25) (arO (k 4) 144 (b + 33) 4 0)) (b + 26) (arO (k 4) 144 (b + 35) 4 0)) b (.inr (5, [.ref (b + 1), .ref (b + 3), .ref (b + 5), .ref (b + 7), .ref (b + 9), .ref (b + 11), .ref (b + 13), .ref (b + 15), .ref (b + 17), .ref (b + 18), .ref (b + 19), .ref (b + 20), .ref (b + 21), .ref (b + 22), .ref (b + 23), .ref (b + 24), .ref (b + 25), .ref (b + 26), .ref (b + 27), .ref (b + 28), .int 0, .int 0, .int 0, .ref (b + 29), .ref (b + 31)]))) H locs := hw.cg (fun q h1 h2 => cg_obj (by omega) (fun h3 => by
    rw [va_up_ne _ _ (by omega), va_up_ne _ _ (by omega)]; exact FM_2 1 (by omega) (by omega)))
  refine lv_iconst (v := 0) hx hb d_M_init_218 (by decide) ?_
  refine lv_istore_n hx hb d_M_init_219 rfl hl (by decide) rfl (fun ls hl => ?_)
  have hl := lv_sub hl [1, 0] rfl
  have hw : gR D k b 33 s (va_up (va_up (va_up (FM k b) b (.inr (5, [.ref (b + 1), .ref (b + 3), .ref (b + 5), .ref (b + 7), .ref (b + 9), .ref (b + 11), .ref (b + 13), .ref (b + 15), .ref (b + 17), .ref (b + 18), .ref (b + 19), .ref (b + 20), .ref (b + 21), .ref (b + 22), .ref (b + 23), .ref (b + 24), .ref (b + 25), .ref (b + 26), .ref (b + 27), .ref (b + 28), .int 0, .int 0, .int 0, .ref (b + 29), .ref (b + 31)]))) (b + 26) (arO (k 4) 144 (b + 35) 4 0)) (b + 25) (arO (k 4) 144 (b + 33) 4 0)) H locs := hw.cg (fun q h1 h2 => by
    rw [up_com (a := b + 26) (b := b) (by omega), up_com (a := b + 25) (b := b) (by omega), up_com (a := b + 25) (b := b + 26) (by omega)])
  have loop : ∀ (d i n cells slots : Nat) (H : Heap) (locs : List Loc) (ls : Array Slot), i + d = 144 → n = 33 + 4 * i → cells = 32 + 4 * i → slots = 40218 + 326 * i → gR D k b n s (va_up (va_up (va_up (FM k b) b (.inr (5, [.ref (b + 1), .ref (b + 3), .ref (b + 5), .ref (b + 7), .ref (b + 9), .ref (b + 11), .ref (b + 13), .ref (b + 15), .ref (b + 17), .ref (b + 18), .ref (b + 19), .ref (b + 20), .ref (b + 21), .ref (b + 22), .ref (b + 23), .ref (b + 24), .ref (b + 25), .ref (b + 26), .ref (b + 27), .ref (b + 28), .int 0, .int 0, .int 0, .ref (b + 29), .ref (b + 31)]))) (b + 26) (arO (k 4) 144 (b + 35) 4 i)) (b + 25) (arO (k 4) 144 (b + 33) 4 i)) H locs → lv_has ls 2 [(0, .ref b), (1, .int (nI i))] → W p l e (rmK 2 608 87162) s m ([.ref b] : List Value).toArray below meth c H locs cells slots (MQ below (cpost D b 609 (FM k b)) ([.ref b] : List Value).toArray s 608 87162 (fun q => b ≤ q)) (F0 m 220 ls []) := by
    clear hw hl
    intro d
    induction d with
    | zero =>
      intro i n cells slots H locs ls hd hn hcl hsl hw hl
      refine lv_iload_n hx hb d_M_init_220 rfl (lv_at hl 1 rfl) ?_
      refine lv_sipush (v := 144) hx hb d_M_init_221 (by decide) ?_
      refine l_top (show (144 : Int32) = nI 144 by decide) ?_
      refine lv_icmp_ge (tgt := 259) hx hb d_M_init_224 (by decide) (fun hc => ?_) (fun hc => ?_)
      rotate_left
      · exact absurd (nI_le (by omega) (by omega)) hc
      obtain rfl : i = 144 := by omega
      obtain rfl : n = 609 := by omega
      refine r_ret hx hb hr hlocks hw (fun q h1 h2 h => ?_) (by omega) (by omega) d_M_init_259
      by_cases e1 : q = b + 25
      · rw [e1, va_up_self] at h
        rw [e1, show (FM k b) (b + 25) = mAr k b 8 from FM_r 8 (by omega)]
        exact arO_at (fun j hj => by rw [mA_t hj]) h
      rw [va_up_ne _ _ e1] at h
      by_cases e2 : q = b + 26
      · rw [e2, va_up_self] at h
        rw [e2, show (FM k b) (b + 26) = mAr k b 9 from FM_r 9 (by omega)]
        exact arO_at (fun j hj => by rw [mA_b hj]) h
      rw [va_up_ne _ _ e2] at h
      by_cases e3 : q = b
      · rw [e3, va_up_self] at h
        rw [e3, show (FM k b) b = _ from if_pos rfl]; exact h
      · rw [va_up_ne _ _ e3] at h; exact h
    | succ d ih =>
      intro i n cells slots H locs ls hd hn hcl hsl hw hl
      refine lv_iload_n hx hb d_M_init_220 rfl (lv_at hl 1 rfl) ?_
      refine lv_sipush (v := 144) hx hb d_M_init_221 (by decide) ?_
      refine l_top (show (144 : Int32) = nI 144 by decide) ?_
      refine lv_icmp_ge (tgt := 259) hx hb d_M_init_224 (by decide) (fun hc => ?_) (fun hc => ?_)
      · exact absurd hc (nI_ge (by omega) (by omega))
      refine lv_aload_n hx hb d_M_init_227 rfl (lv_at hl 0 rfl) ?_
      refine r_get (ci := 5) (fs := [.ref (b + 1), .ref (b + 3), .ref (b + 5), .ref (b + 7), .ref (b + 9), .ref (b + 11), .ref (b + 13), .ref (b + 15), .ref (b + 17), .ref (b + 18), .ref (b + 19), .ref (b + 20), .ref (b + 21), .ref (b + 22), .ref (b + 23), .ref (b + 24), .ref (b + 25), .ref (b + 26), .ref (b + 27), .ref (b + 28), .int 0, .int 0, .int 0, .ref (b + 29), .ref (b + 31)]) hx hb hG lay_M hown hw ⟨by omega, by omega⟩ (by rw [va_up_ne _ _ (by omega), va_up_ne _ _ (by omega), va_up_self]) rfl 16 (by decide) (hG _ fl_M_79) (fun _ h9 => h9) rfl d_M_init_228 ?_
      refine lv_iload_n hx hb d_M_init_231 rfl (lv_at hl 1 rfl) ?_
      refine r_new (ci := 6) hx hb hG lay_N ft_N ft_N_ok hown (hG _ cl_M_8) (hG _ ia_N) (hG _ in_N) hw rfl [.null, .int 0, .int 0] df_N (Nat.le_trans (show _ ≤ 608 by omega) (Nat.le_refl _)) (Nat.le_trans (show _ ≤ 87162 by omega) (Nat.le_refl _)) d_M_init_232 (fun H hw => ?_)
      refine lv_dup hx hb d_M_init_235 rfl ?_
      refine r_ctorN S (k_N l D k _) hw hC (jn_hi (Nat.le_refl _)) hC.2.2.2.2 im_N_init in_N co_N_init rfl (by decide +kernel) ⟨by decide, by decide⟩ hl.1 (by simp [Value.category]) d_M_init_236 ⟨(Nat.le_trans (show _ ≤ 608 by omega) (Nat.le_refl _)), (Nat.le_trans (show _ ≤ 87162 by omega) (Nat.le_refl _))⟩ (fun H locs hw => ?_)
      refine r_aast (cA := k 4) (N := 144) (z := fun j => if j < i then some (b + 33 + 4 * j) else none) hx hb hw (by omega) ⟨by omega, by omega⟩ ⟨by omega, by omega⟩ 4 6 (by rw [jn_lo (by omega), jn_lo (by omega), va_up_self]; rfl) rfl (by rw [jn_hi (Nat.le_refl _)]; exact if_pos rfl) rfl i (by omega) (by decide) d_M_init_239 (fun H locs hw => ?_)
      have hw : gR D k b (n + 2) s (va_up (va_up (va_up (FM k b) b (.inr (5, [.ref (b + 1), .ref (b + 3), .ref (b + 5), .ref (b + 7), .ref (b + 9), .ref (b + 11), .ref (b + 13), .ref (b + 15), .ref (b + 17), .ref (b + 18), .ref (b + 19), .ref (b + 20), .ref (b + 21), .ref (b + 22), .ref (b + 23), .ref (b + 24), .ref (b + 25), .ref (b + 26), .ref (b + 27), .ref (b + 28), .int 0, .int 0, .int 0, .ref (b + 29), .ref (b + 31)]))) (b + 26) (arO (k 4) 144 (b + 35) 4 i)) (b + 25) (arO (k 4) 144 (b + 33) 4 (i + 1))) H locs := hw.cg (fun q h1 h2 => by
        rw [arO_s (by omega)]
        refine cg_obj (by omega) (fun h3 => ?_)
        rw [va_up_ne _ _ (by omega), va_up_ne _ _ (by omega), show b + n = b + 29 + 2 * (2 + 2 * i) by omega]; exact FM_2 (2 + 2 * i) (by omega) (by omega))
      rw [up_com (a := b + 26) (b := b + 25) (by omega)] at hw
      refine lv_aload_n hx hb d_M_init_240 rfl (lv_at hl 0 rfl) ?_
      refine r_get (ci := 5) (fs := [.ref (b + 1), .ref (b + 3), .ref (b + 5), .ref (b + 7), .ref (b + 9), .ref (b + 11), .ref (b + 13), .ref (b + 15), .ref (b + 17), .ref (b + 18), .ref (b + 19), .ref (b + 20), .ref (b + 21), .ref (b + 22), .ref (b + 23), .ref (b + 24), .ref (b + 25), .ref (b + 26), .ref (b + 27), .ref (b + 28), .int 0, .int 0, .int 0, .ref (b + 29), .ref (b + 31)]) hx hb hG lay_M hown hw ⟨by omega, by omega⟩ (by rw [va_up_ne _ _ (by omega), va_up_ne _ _ (by omega), va_up_self]) rfl 17 (by decide) (hG _ fl_M_83) (fun _ h9 => h9) rfl d_M_init_241 ?_
      refine lv_iload_n hx hb d_M_init_244 rfl (lv_at hl 1 rfl) ?_
      refine r_new (ci := 6) hx hb hG lay_N ft_N ft_N_ok hown (hG _ cl_M_8) (hG _ ia_N) (hG _ in_N) hw rfl [.null, .int 0, .int 0] df_N (Nat.le_trans (show _ ≤ 608 by omega) (Nat.le_refl _)) (Nat.le_trans (show _ ≤ 87162 by omega) (Nat.le_refl _)) d_M_init_245 (fun H hw => ?_)
      refine lv_dup hx hb d_M_init_248 rfl ?_
      refine r_ctorN S (k_N l D k _) hw hC (jn_hi (Nat.le_refl _)) hC.2.2.2.2 im_N_init in_N co_N_init rfl (by decide +kernel) ⟨by decide, by decide⟩ hl.1 (by simp [Value.category]) d_M_init_249 ⟨(Nat.le_trans (show _ ≤ 608 by omega) (Nat.le_refl _)), (Nat.le_trans (show _ ≤ 87162 by omega) (Nat.le_refl _))⟩ (fun H locs hw => ?_)
      refine r_aast (cA := k 4) (N := 144) (z := fun j => if j < i then some (b + 35 + 4 * j) else none) hx hb hw (by omega) ⟨by omega, by omega⟩ ⟨by omega, by omega⟩ 4 6 (by rw [jn_lo (by omega), jn_lo (by omega), va_up_self]; rfl) rfl (by rw [jn_hi (Nat.le_refl _)]; exact if_pos rfl) rfl i (by omega) (by decide) d_M_init_252 (fun H locs hw => ?_)
      have hw : gR D k b (n + 2 + 2) s (va_up (va_up (va_up (FM k b) b (.inr (5, [.ref (b + 1), .ref (b + 3), .ref (b + 5), .ref (b + 7), .ref (b + 9), .ref (b + 11), .ref (b + 13), .ref (b + 15), .ref (b + 17), .ref (b + 18), .ref (b + 19), .ref (b + 20), .ref (b + 21), .ref (b + 22), .ref (b + 23), .ref (b + 24), .ref (b + 25), .ref (b + 26), .ref (b + 27), .ref (b + 28), .int 0, .int 0, .int 0, .ref (b + 29), .ref (b + 31)]))) (b + 25) (arO (k 4) 144 (b + 33) 4 (i + 1))) (b + 26) (arO (k 4) 144 (b + 35) 4 (i + 1))) H locs := hw.cg (fun q h1 h2 => by
        rw [arO_s (by omega)]
        refine cg_obj (by omega) (fun h3 => ?_)
        rw [va_up_ne _ _ (by omega), va_up_ne _ _ (by omega), show b + (n + 2) = b + 29 + 2 * (3 + 2 * i) by omega]; exact FM_2 (3 + 2 * i) (by omega) (by omega))
      rw [up_com (a := b + 25) (b := b + 26) (by omega)] at hw
      refine lv_iinc (k := 1) hx hb d_M_init_253 hl rfl (ii1 i) (by decide) rfl (fun ls hl => ?_)
      have hl := lv_sub hl [1, 0] rfl
      refine lv_goto (tgt := 220) hx hb d_M_init_256 (by decide) ?_
      exact ih (i + 1) (n + 2 + 2) _ _ H locs ls (by omega) (by omega) (by omega) (by omega) hw hl
  exact loop 144 0 33 _ _ H locs ls (by omega) (by omega) (by omega) (by omega) hw hl

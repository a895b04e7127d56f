-- ===== constructors of Rationals and of the class =====
theorem lay_P : ∀ w ∈ u_ws R_P F_P 0, w ∈ G := by
  intro w hw
  simp [u_ws] at hw
def arO (c : ClassId) (N b0 st i : Nat) : va_E := .inl (c, N, .inr (.inr (.inr (.inr (fun j => if j < i then some (b0 + st * j) else none)))))
theorem arO_s {c : ClassId} {N b0 st i v : Nat} (hv : v = b0 + st * i) : (.inl (c, N, .inr (.inr (.inr (.inr (va_up (fun j => if j < i then some (b0 + st * j) else none) i (some v)))))) : va_E) = arO c N b0 st (i + 1) := by
  unfold arO
  have : va_up (fun j => if j < i then some (b0 + st * j) else none) i (some v) = (fun j => if j < i + 1 then some (b0 + st * j) else none) := by
    funext j
    by_cases e : j = i
    · rw [e, va_up_self, if_pos (by omega), hv]
    · rw [va_up_ne _ _ e]
      by_cases h : j < i
      · rw [if_pos h, if_pos (by omega)]
      · rw [if_neg h, if_neg (by omega)]
  rw [this]
theorem arO_0 {c : ClassId} {N b0 st : Nat} : (.inl (c, N, .inr (.inr (.inr (.inr (fun _ => none))))) : va_E) = arO c N b0 st 0 := by
  unfold arO
  have : (fun _ : Nat => (none : Option Nat)) = (fun j => if j < 0 then some (b0 + st * j) else none) := by
    funext j
    rw [if_neg (by omega)]
  rw [this]
theorem arO_at {D : va_G} {cl : List vw_C} {q N b0 st : Nat} {c : ClassId} {z : Nat → Option Nat} {H : Heap} (e : ∀ j, j < N → some (b0 + st * j) = z j) (h : va_at D cl (q, arO c N b0 st N) H) : va_at D cl (q, .inl (c, N, .inr (.inr (.inr (.inr z))))) H := at_q (z := fun j => if j < N then some (b0 + st * j) else none) (fun j hj => by
  rw [if_pos hj]; exact e j hj) h
def FQ (k : Nat → ClassId) (b : Nat) : Nat → va_E := fun q => if q = b then cQ (b + 1) (fun x => b + 2 + x) 17 18 else if q = b + 1 then cLn k (fun i => some (b + 2 + 2 * i)) else FW k (b + 2 + 2 * ((q - b - 2) / 2)) q
theorem FQ_hi {k : Nat → ClassId} {b q : Nat} (i : Nat) (h1 : b + 2 + 2 * i ≤ q) (h2 : q < b + 2 + 2 * i + 2) : FQ k b q = FW k (b + 2 + 2 * i) q := by
  unfold FQ
  rw [if_neg (by omega), if_neg (by omega), show (q - b - 2) / 2 = i by omega]
def FA (k : Nat → ClassId) (b : Nat) : Nat → va_E := fun q => if q = b then cA (b + 1) (b + 137) (b + 177) (b + 122) else if q = b + 1 then cTs k (fun i => some (b + 2 + 15 * i)) else if q < b + 137 then FT k (b + 2 + 15 * ((q - b - 2) / 15)) q else if q < b + 177 then FQ k (b + 137) q else .inr (2, [])
theorem FA_T {k : Nat → ClassId} {b q : Nat} (i : Nat) (hi : i < 9) (h1 : b + 2 + 15 * i ≤ q) (h2 : q < b + 2 + 15 * i + 15) : FA k b q = FT k (b + 2 + 15 * i) q := by
  unfold FA
  rw [if_neg (by omega), if_neg (by omega), if_pos (by omega), show (q - b - 2) / 15 = i by omega]
theorem FA_Q {k : Nat → ClassId} {b q : Nat} (h1 : b + 137 ≤ q) (h2 : q < b + 177) : FA k b q = FQ k (b + 137) q := by
  unfold FA
  rw [if_neg (by omega), if_neg (by omega), if_neg (by omega), if_pos h2]
theorem FA_P {k : Nat → ClassId} {b q : Nat} (h1 : b + 177 ≤ q) : FA k b q = .inr (2, []) := by
  unfold FA
  rw [if_neg (by omega), if_neg (by omega), if_neg (by omega), if_neg (by omega)]
set_option maxRecDepth 100000 in
set_option maxHeartbeats 4000000 in
theorem k_Q (l : Launch) (D : va_G) (k : Nat → ClassId) (b : Nat) : Mk l y_Q_init c_Q_init 2 2 39 297 D k b (.inr (1, [.null, .null, .null, .null, .null, .null, .null, .null])) 40 (FQ k b) := by
  refine mk_ctor (by decide) rfl (by decide) ?_
  intro p e s m below meth c ls S hr hlocks hin hC hsz hw hl
  have hx := S.1
  have hb := S.2.1
  have hml := S.2.2.1
  have hown := S.2.2.2.1
  have hG := S.2.2.2.2
  refine lv_aload_n hx hb d_Q_init_0 rfl (lv_at hl 0 rfl) ?_
  refine r_ctorN (x0 := b) (n := 0) S (k_K l D k b (.inr (1, [.null, .null, .null, .null, .null, .null, .null, .null]))) hw hC rfl hC.2.1 im_K_init in_K co_K_init rfl (by decide +kernel) ⟨by decide, by decide⟩ hl.1 (by simp) d_Q_init_1 ⟨by decide, by decide⟩ (fun H locs hw => ?_)
  have hw : gR D k b 1 s (fun _ => (.inr (1, [.null, .null, .null, .null, .null, .null, .null, .null]))) H locs := hw.cg (fun q h1 h2 => jn_hi (by omega))
  refine lv_aload_n hx hb d_Q_init_4 rfl (lv_at hl 0 rfl) ?_
  refine lv_bipush (v := 12) hx hb d_Q_init_5 (by decide) ?_
  refine r_newq hx hb hown (hG _ cl_Q_9) hC.1.2.1 hw 3 rfl 12 (by decide) (by decide) (Nat.le_trans (show _ ≤ 39 by omega) (Nat.le_refl _)) (Nat.le_trans (show _ ≤ 297 by omega) (Nat.le_refl _)) d_Q_init_7 (fun H hw => ?_)
  refine r_put (ty := .array (.object "LineTables$Whole")) (ci := 1) (fs := [.null, .null, .null, .null, .null, .null, .null, .null]) hx hb hG lay_Q ft_Q ft_Q_ok fn_Q hown hin hw (by omega) ⟨by omega, by omega⟩ (jn_lo (by omega)) rfl 0 (by decide) (hG _ fl_Q_11) (fun _ h9 => h9) rfl (by decide +kernel) rfl rfl (by simp) d_Q_init_10 (fun H locs hw => ?_)
  refine lv_iconst (v := 0) hx hb d_Q_init_13 (by decide) ?_
  refine lv_istore_n hx hb d_Q_init_14 rfl hl (by decide) rfl (fun ls hl => ?_)
  have hl := lv_sub hl [1, 0] rfl
  have hw : gR D k b 2 s (va_up (va_up (FQ k b) b (.inr (1, [.ref (b + 1), .null, .null, .null, .null, .null, .null, .null]))) (b + 1) (arO (k 3) 12 (b + 2) 2 0)) H locs := hw.cg (fun q h1 h2 => by
    by_cases e : q = b
    · subst e
      exact ((va_up_self _ _ _).trans rfl).trans ((va_up_ne _ _ (by omega)).trans (va_up_self _ _ _)).symm
    · rw [va_up_ne _ _ e, jn_hi (by omega), show q = b + 1 by omega, va_up_self]; exact arO_0)
  have loop : ∀ (d i n cells slots : Nat) (H : Heap) (locs : List Loc) (ls : Array Slot), i + d = 12 → n = 2 + 2 * i → cells = 1 + 2 * i → slots = 12 + 15 * i → gR D k b n s (va_up (va_up (FQ k b) b (.inr (1, [.ref (b + 1), .null, .null, .null, .null, .null, .null, .null]))) (b + 1) (arO (k 3) 12 (b + 2) 2 i)) H locs → lv_has ls 2 [(0, .ref b), (1, .int (nI i))] → W p l e (rmK 2 39 297) s m ([.ref b] : List Value).toArray below meth c H locs cells slots (MQ below (cpost D b 40 (FQ k b)) ([.ref b] : List Value).toArray s 39 297 (fun q => b ≤ q)) (F0 m 15 ls []) := by
    clear hw hl
    intro d
    induction d with
    | zero =>
      intro i n cells slots H locs ls hd hn hcl hsl hw hl
      refine lv_iload_n hx hb d_Q_init_15 rfl (lv_at hl 1 rfl) ?_
      refine lv_bipush (v := 12) hx hb d_Q_init_16 (by decide) ?_
      refine l_top (show (12 : Int32) = nI 12 by decide) ?_
      refine lv_icmp_ge (tgt := 40) hx hb d_Q_init_18 (by decide) (fun hc => ?_) (fun hc => ?_)
      rotate_left
      · exact absurd (nI_le (by omega) (by omega)) hc
      obtain rfl : i = 12 := by omega
      obtain rfl : n = 26 := by omega
      obtain rfl : cells = 25 := by omega
      obtain rfl : slots = 192 := by omega
      rw [up_com (by omega)] at hw
      refine lv_aload_n hx hb d_Q_init_40 rfl (lv_at hl 0 rfl) ?_
      refine r_new (ci := 4) hx hb hG lay_W ft_W ft_W_ok hown (hG _ cl_Q_9) (hG _ ia_W) (hG _ in_W) hw rfl [.null, .int 0, .int 0] df_W (Nat.le_trans (show _ ≤ 39 by omega) (Nat.le_refl _)) (Nat.le_trans (show _ ≤ 297 by omega) (Nat.le_refl _)) d_Q_init_41 (fun H hw => ?_)
      refine lv_dup hx hb d_Q_init_44 rfl ?_
      refine r_ctor S (k_W l D k _) hw hC (jn_hi (Nat.le_refl _)) ml_Q_17 im_W_init in_W co_W_init rfl (by decide +kernel) ⟨by decide, by decide⟩ hl.1 (by simp [Value.category]) d_Q_init_45 ⟨(Nat.le_trans (show _ ≤ 39 by omega) (Nat.le_refl _)), (Nat.le_trans (show _ ≤ 297 by omega) (Nat.le_refl _))⟩ (fun H locs hw => ?_)
      refine r_put (ty := .object "LineTables$Whole") (ci := 1) (fs := [.ref (b + 1), .null, .null, .null, .null, .null, .null, .null]) hx hb hG lay_Q ft_Q ft_Q_ok fn_Q hown hin hw (by omega) ⟨by omega, by omega⟩ (by rw [jn_lo (by omega), jn_lo (by omega), va_up_self]) rfl 1 (by decide) (hG _ fl_Q_18) (fun _ h9 => h9) rfl (by decide +kernel) rfl rfl (by simp) d_Q_init_48 (fun H locs hw => ?_)
      have hw : gR D k b 28 s (va_up (va_up (FQ k b) (b + 1) (arO (k 3) 12 (b + 2) 2 12)) b (.inr (1, [.ref (b + 1), .ref (b + 26), .null, .null, .null, .null, .null, .null]))) H locs := hw.cg (fun q h1 h2 => cg_obj (by omega) (fun h3 => by
        rw [va_up_ne _ _ (by omega)]; exact FQ_hi 12 (by omega) (by omega)))
      refine lv_aload_n hx hb d_Q_init_51 rfl (lv_at hl 0 rfl) ?_
      refine r_new (ci := 4) hx hb hG lay_W ft_W ft_W_ok hown (hG _ cl_Q_9) (hG _ ia_W) (hG _ in_W) hw rfl [.null, .int 0, .int 0] df_W (Nat.le_trans (show _ ≤ 39 by omega) (Nat.le_refl _)) (Nat.le_trans (show _ ≤ 297 by omega) (Nat.le_refl _)) d_Q_init_52 (fun H hw => ?_)
      refine lv_dup hx hb d_Q_init_55 rfl ?_
      refine r_ctor S (k_W l D k _) hw hC (jn_hi (Nat.le_refl _)) ml_Q_17 im_W_init in_W co_W_init rfl (by decide +kernel) ⟨by decide, by decide⟩ hl.1 (by simp [Value.category]) d_Q_init_56 ⟨(Nat.le_trans (show _ ≤ 39 by omega) (Nat.le_refl _)), (Nat.le_trans (show _ ≤ 297 by omega) (Nat.le_refl _))⟩ (fun H locs hw => ?_)
      refine r_put (ty := .object "LineTables$Whole") (ci := 1) (fs := [.ref (b + 1), .ref (b + 26), .null, .null, .null, .null, .null, .null]) hx hb hG lay_Q ft_Q ft_Q_ok fn_Q hown hin hw (by omega) ⟨by omega, by omega⟩ (by rw [jn_lo (by omega), jn_lo (by omega), va_up_self]) rfl 2 (by decide) (hG _ fl_Q_22) (fun _ h9 => h9) rfl (by decide +kernel) rfl rfl (by simp) d_Q_init_59 (fun H locs hw => ?_)
      have hw : gR D k b 30 s (va_up (va_up (FQ k b) (b + 1) (arO (k 3) 12 (b + 2) 2 12)) b (.inr (1, [.ref (b + 1), .ref (b + 26), .ref (b + 28), .null, .null, .null, .null, .null]))) H locs := hw.cg (fun q h1 h2 => cg_obj (by omega) (fun h3 => by
        rw [va_up_ne _ _ (by omega)]; exact FQ_hi 13 (by omega) (by omega)))
      refine lv_aload_n hx hb d_Q_init_62 rfl (lv_at hl 0 rfl) ?_
      refine r_new (ci := 4) hx hb hG lay_W ft_W ft_W_ok hown (hG _ cl_Q_9) (hG _ ia_W) (hG _ in_W) hw rfl [.null, .int 0, .int 0] df_W (Nat.le_trans (show _ ≤ 39 by omega) (Nat.le_refl _)) (Nat.le_trans (show _ ≤ 297 by omega) (Nat.le_refl _)) d_Q_init_63 (fun H hw => ?_)
      refine lv_dup hx hb d_Q_init_66 rfl ?_
      refine r_ctor S (k_W l D k _) hw hC (jn_hi (Nat.le_refl _)) ml_Q_17 im_W_init in_W co_W_init rfl (by decide +kernel) ⟨by decide, by decide⟩ hl.1 (by simp [Value.category]) d_Q_init_67 ⟨(Nat.le_trans (show _ ≤ 39 by omega) (Nat.le_refl _)), (Nat.le_trans (show _ ≤ 297 by omega) (Nat.le_refl _))⟩ (fun H locs hw => ?_)
      refine r_put (ty := .object "LineTables$Whole") (ci := 1) (fs := [.ref (b + 1), .ref (b + 26), .ref (b + 28), .null, .null, .null, .null, .null]) hx hb hG lay_Q ft_Q ft_Q_ok fn_Q hown hin hw (by omega) ⟨by omega, by omega⟩ (by rw [jn_lo (by omega), jn_lo (by omega), va_up_self]) rfl 3 (by decide) (hG _ fl_Q_25) (fun _ h9 => h9) rfl (by decide +kernel) rfl rfl (by simp) d_Q_init_70 (fun H locs hw => ?_)
      have hw : gR D k b 32 s (va_up (va_up (FQ k b) (b + 1) (arO (k 3) 12 (b + 2) 2 12)) b (.inr (1, [.ref (b + 1), .ref (b + 26), .ref (b + 28), .ref (b + 30), .null, .null, .null, .null]))) H locs := hw.cg (fun q h1 h2 => cg_obj (by omega) (fun h3 => by
        rw [va_up_ne _ _ (by omega)]; exact FQ_hi 14 (by omega) (by omega)))
      refine lv_aload_n hx hb d_Q_init_73 rfl (lv_at hl 0 rfl) ?_
      refine r_new (ci := 4) hx hb hG lay_W ft_W ft_W_ok hown (hG _ cl_Q_9) (hG _ ia_W) (hG _ in_W) hw rfl [.null, .int 0, .int 0] df_W (Nat.le_trans (show _ ≤ 39 by omega) (Nat.le_refl _)) (Nat.le_trans (show _ ≤ 297 by omega) (Nat.le_refl _)) d_Q_init_74 (fun H hw => ?_)
      refine lv_dup hx hb d_Q_init_77 rfl ?_
      refine r_ctor S (k_W l D k _) hw hC (jn_hi (Nat.le_refl _)) ml_Q_17 im_W_init in_W co_W_init rfl (by decide +kernel) ⟨by decide, by decide⟩ hl.1 (by simp [Value.category]) d_Q_init_78 ⟨(Nat.le_trans (show _ ≤ 39 by omega) (Nat.le_refl _)), (Nat.le_trans (show _ ≤ 297 by omega) (Nat.le_refl _))⟩ (fun H locs hw => ?_)
      refine r_put (ty := .object "LineTables$Whole") (ci := 1) (fs := [.ref (b + 1), .ref (b + 26), .ref (b + 28), .ref (b + 30), .null, .null, .null, .null]) hx hb hG lay_Q ft_Q ft_Q_ok fn_Q hown hin hw (by omega) ⟨by omega, by omega⟩ (by rw [jn_lo (by omega), jn_lo (by omega), va_up_self]) rfl 4 (by decide) (hG _ fl_Q_28) (fun _ h9 => h9) rfl (by decide +kernel) rfl rfl (by simp) d_Q_init_81 (fun H locs hw => ?_)
      have hw : gR D k b 34 s (va_up (va_up (FQ k b) (b + 1) (arO (k 3) 12 (b + 2) 2 12)) b (.inr (1, [.ref (b + 1), .ref (b + 26), .ref (b + 28), .ref (b + 30), .ref (b + 32), .null, .null, .null]))) H locs := hw.cg (fun q h1 h2 => cg_obj (by omega) (fun h3 => by
        rw [va_up_ne _ _ (by omega)]; exact FQ_hi 15 (by omega) (by omega)))
      refine lv_aload_n hx hb d_Q_init_84 rfl (lv_at hl 0 rfl) ?_
      refine r_new (ci := 4) hx hb hG lay_W ft_W ft_W_ok hown (hG _ cl_Q_9) (hG _ ia_W) (hG _ in_W) hw rfl [.null, .int 0, .int 0] df_W (Nat.le_trans (show _ ≤ 39 by omega) (Nat.le_refl _)) (Nat.le_trans (show _ ≤ 297 by omega) (Nat.le_refl _)) d_Q_init_85 (fun H hw => ?_)
      refine lv_dup hx hb d_Q_init_88 rfl ?_
      refine r_ctor S (k_W l D k _) hw hC (jn_hi (Nat.le_refl _)) ml_Q_17 im_W_init in_W co_W_init rfl (by decide +kernel) ⟨by decide, by decide⟩ hl.1 (by simp [Value.category]) d_Q_init_89 ⟨(Nat.le_trans (show _ ≤ 39 by omega) (Nat.le_refl _)), (Nat.le_trans (show _ ≤ 297 by omega) (Nat.le_refl _))⟩ (fun H locs hw => ?_)
      refine r_put (ty := .object "LineTables$Whole") (ci := 1) (fs := [.ref (b + 1), .ref (b + 26), .ref (b + 28), .ref (b + 30), .ref (b + 32), .null, .null, .null]) hx hb hG lay_Q ft_Q ft_Q_ok fn_Q hown hin hw (by omega) ⟨by omega, by omega⟩ (by rw [jn_lo (by omega), jn_lo (by omega), va_up_self]) rfl 5 (by decide) (hG _ fl_Q_31) (fun _ h9 => h9) rfl (by decide +kernel) rfl rfl (by simp) d_Q_init_92 (fun H locs hw => ?_)
      have hw : gR D k b 36 s (va_up (va_up (FQ k b) (b + 1) (arO (k 3) 12 (b + 2) 2 12)) b (.inr (1, [.ref (b + 1), .ref (b + 26), .ref (b + 28), .ref (b + 30), .ref (b + 32), .ref (b + 34), .null, .null]))) H locs := hw.cg (fun q h1 h2 => cg_obj (by omega) (fun h3 => by
        rw [va_up_ne _ _ (by omega)]; exact FQ_hi 16 (by omega) (by omega)))
      refine lv_aload_n hx hb d_Q_init_95 rfl (lv_at hl 0 rfl) ?_
      refine r_new (ci := 4) hx hb hG lay_W ft_W ft_W_ok hown (hG _ cl_Q_9) (hG _ ia_W) (hG _ in_W) hw rfl [.null, .int 0, .int 0] df_W (Nat.le_trans (show _ ≤ 39 by omega) (Nat.le_refl _)) (Nat.le_trans (show _ ≤ 297 by omega) (Nat.le_refl _)) d_Q_init_96 (fun H hw => ?_)
      refine lv_dup hx hb d_Q_init_99 rfl ?_
      refine r_ctor S (k_W l D k _) hw hC (jn_hi (Nat.le_refl _)) ml_Q_17 im_W_init in_W co_W_init rfl (by decide +kernel) ⟨by decide, by decide⟩ hl.1 (by simp [Value.category]) d_Q_init_100 ⟨(Nat.le_trans (show _ ≤ 39 by omega) (Nat.le_refl _)), (Nat.le_trans (show _ ≤ 297 by omega) (Nat.le_refl _))⟩ (fun H locs hw => ?_)
      refine r_put (ty := .object "LineTables$Whole") (ci := 1) (fs := [.ref (b + 1), .ref (b + 26), .ref (b + 28), .ref (b + 30), .ref (b + 32), .ref (b + 34), .null, .null]) hx hb hG lay_Q ft_Q ft_Q_ok fn_Q hown hin hw (by omega) ⟨by omega, by omega⟩ (by rw [jn_lo (by omega), jn_lo (by omega), va_up_self]) rfl 6 (by decide) (hG _ fl_Q_34) (fun _ h9 => h9) rfl (by decide +kernel) rfl rfl (by simp) d_Q_init_103 (fun H locs hw => ?_)
      have hw : gR D k b 38 s (va_up (va_up (FQ k b) (b + 1) (arO (k 3) 12 (b + 2) 2 12)) b (.inr (1, [.ref (b + 1), .ref (b + 26), .ref (b + 28), .ref (b + 30), .ref (b + 32), .ref (b + 34), .ref (b + 36), .null]))) H locs := hw.cg (fun q h1 h2 => cg_obj (by omega) (fun h3 => by
        rw [va_up_ne _ _ (by omega)]; exact FQ_hi 17 (by omega) (by omega)))
      refine lv_aload_n hx hb d_Q_init_106 rfl (lv_at hl 0 rfl) ?_
      refine r_new (ci := 4) hx hb hG lay_W ft_W ft_W_ok hown (hG _ cl_Q_9) (hG _ ia_W) (hG _ in_W) hw rfl [.null, .int 0, .int 0] df_W (Nat.le_trans (show _ ≤ 39 by omega) (Nat.le_refl _)) (Nat.le_trans (show _ ≤ 297 by omega) (Nat.le_refl _)) d_Q_init_107 (fun H hw => ?_)
      refine lv_dup hx hb d_Q_init_110 rfl ?_
      refine r_ctor S (k_W l D k _) hw hC (jn_hi (Nat.le_refl _)) ml_Q_17 im_W_init in_W co_W_init rfl (by decide +kernel) ⟨by decide, by decide⟩ hl.1 (by simp [Value.category]) d_Q_init_111 ⟨(Nat.le_trans (show _ ≤ 39 by omega) (Nat.le_refl _)), (Nat.le_trans (show _ ≤ 297 by omega) (Nat.le_refl _))⟩ (fun H locs hw => ?_)
      refine r_put (ty := .object "LineTables$Whole") (ci := 1) (fs := [.ref (b + 1), .ref (b + 26), .ref (b + 28), .ref (b + 30), .ref (b + 32), .ref (b + 34), .ref (b + 36), .null]) hx hb hG lay_Q ft_Q ft_Q_ok fn_Q hown hin hw (by omega) ⟨by omega, by omega⟩ (by rw [jn_lo (by omega), jn_lo (by omega), va_up_self]) rfl 7 (by decide) (hG _ fl_Q_37) (fun _ h9 => h9) rfl (by decide +kernel) rfl rfl (by simp) d_Q_init_114 (fun H locs hw => ?_)
      have hw : gR D k b 40 s (va_up (va_up (FQ k b) (b + 1) (arO (k 3) 12 (b + 2) 2 12)) b (.inr (1, [.ref (b + 1), .ref (b + 26), .ref (b + 28), .ref (b + 30), .ref (b + 32), .ref (b + 34), .ref (b + 36), .ref (b + 38)]))) H locs := hw.cg (fun q h1 h2 => cg_obj (by omega) (fun h3 => by
        rw [va_up_ne _ _ (by omega)]; exact FQ_hi 18 (by omega) (by omega)))
      refine r_ret hx hb hr hlocks hw (fun q h1 h2 h => ?_) (by decide) (by decide) d_Q_init_117
      by_cases e1 : q = b
      · rw [e1, va_up_self] at h
        rw [e1, show (FQ k b) b = _ from if_pos rfl]; exact h
      rw [va_up_ne _ _ e1] at h
      by_cases e2 : q = b + 1
      · rw [e2, va_up_self] at h
        rw [e2, show (FQ k b) (b + 1) = _ from (if_neg (by omega)).trans (if_pos rfl)]; exact arO_at (fun j hj => rfl) h
      · rw [va_up_ne _ _ e2] at h; exact h
    | succ d ih =>
      intro i n cells slots H locs ls hd hn hcl hsl hw hl
      refine lv_iload_n hx hb d_Q_init_15 rfl (lv_at hl 1 rfl) ?_
      refine lv_bipush (v := 12) hx hb d_Q_init_16 (by decide) ?_
      refine l_top (show (12 : Int32) = nI 12 by decide) ?_
      refine lv_icmp_ge (tgt := 40) hx hb d_Q_init_18 (by decide) (fun hc => ?_) (fun hc => ?_)
      · exact absurd hc (nI_ge (by omega) (by omega))
      refine lv_aload_n hx hb d_Q_init_21 rfl (lv_at hl 0 rfl) ?_
      refine r_get (ci := 1) (fs := [.ref (b + 1), .null, .null, .null, .null, .null, .null, .null]) hx hb hG lay_Q hown hw ⟨by omega, by omega⟩ (by rw [va_up_ne _ _ (by omega), va_up_self]) rfl 0 (by decide) (hG _ fl_Q_11) (fun _ h9 => h9) rfl d_Q_init_22 ?_
      refine lv_iload_n hx hb d_Q_init_25 rfl (lv_at hl 1 rfl) ?_
      refine r_new (ci := 4) hx hb hG lay_W ft_W ft_W_ok hown (hG _ cl_Q_9) (hG _ ia_W) (hG _ in_W) hw rfl [.null, .int 0, .int 0] df_W (Nat.le_trans (show _ ≤ 39 by omega) (Nat.le_refl _)) (Nat.le_trans (show _ ≤ 297 by omega) (Nat.le_refl _)) d_Q_init_26 (fun H hw => ?_)
      refine lv_dup hx hb d_Q_init_29 rfl ?_
      refine r_ctor S (k_W l D k _) hw hC (jn_hi (Nat.le_refl _)) ml_Q_17 im_W_init in_W co_W_init rfl (by decide +kernel) ⟨by decide, by decide⟩ hl.1 (by simp [Value.category]) d_Q_init_30 ⟨(Nat.le_trans (show _ ≤ 39 by omega) (Nat.le_refl _)), (Nat.le_trans (show _ ≤ 297 by omega) (Nat.le_refl _))⟩ (fun H locs hw => ?_)
      refine r_aast (cA := k 3) (N := 12) (z := fun j => if j < i then some (b + 2 + 2 * j) else none) hx hb hw (by omega) ⟨by omega, by omega⟩ ⟨by omega, by omega⟩ 3 4 (by rw [jn_lo (by omega), jn_lo (by omega), va_up_self]; rfl) rfl (by rw [jn_hi (Nat.le_refl _)]; exact if_pos rfl) rfl i (by omega) (by decide) d_Q_init_33 (fun H locs hw => ?_)
      refine lv_iinc (k := 1) hx hb d_Q_init_34 hl rfl (ii1 i) (by decide) rfl (fun ls hl => ?_)
      have hl := lv_sub hl [1, 0] rfl
      refine lv_goto (tgt := 15) hx hb d_Q_init_37 (by decide) ?_
      refine ih (i + 1) (n + 2) _ _ H locs ls (by omega) (by omega) (by omega) (by omega) (hw.cg (fun q h1 h2 => ?_)) hl
      by_cases e1 : q = b + 1
      · rw [e1, va_up_self, va_up_self]; exact arO_s (by omega)
      · rw [va_up_ne _ _ e1, va_up_ne _ _ e1]
        by_cases e2 : q < b + n
        · rw [jn_lo e2, jn_lo e2, va_up_ne _ _ e1]
        · rw [jn_hi (by omega), va_up_ne _ _ (by omega), show b + n = b + 2 + 2 * i by omega]; exact (FQ_hi i (by omega) (by omega)).symm
  exact loop 12 0 2 _ _ H locs ls (by omega) (by omega) (by omega) (by omega) hw hl
set_option maxRecDepth 100000 in
set_option maxHeartbeats 4000000 in
theorem k_A (l : Launch) (D : va_G) (k : Nat → ClassId) (b : Nat) : Mk l y_A_init c_A_init 2 3 177 8359 D k b (.inr (0, [.null, .null, .null, .null])) 178 (FA k b) := by
  refine mk_ctor (by decide) rfl (by decide) ?_
  intro p e s m below meth c ls S hr hlocks hin hC hsz hw hl
  have hx := S.1
  have hb := S.2.1
  have hml := S.2.2.1
  have hown := S.2.2.2.1
  have hG := S.2.2.2.2
  refine lv_aload_n hx hb d_A_init_0 rfl (lv_at hl 0 rfl) ?_
  refine W.objInit hx hb hown (hG _ ml_A_3) (hG _ im_objectInit) (hG _ co_objectInit) rfl (by rw [hml]; exact hl.1) rfl d_A_init_1 (Nat.le_of_ble_eq_true rfl) (Nat.le_of_ble_eq_true rfl) ?_
  refine W.eq (g2 := F0 m 4 ls []) rfl ?_
  refine lv_aload_n hx hb d_A_init_4 rfl (lv_at hl 0 rfl) ?_
  refine lv_bipush (v := 8) hx hb d_A_init_5 (by decide) ?_
  refine r_newq hx hb hown (hG _ cl_A_9) hC.1.1 hw 2 rfl 8 (by decide) (by decide) (Nat.le_trans (show _ ≤ 177 by omega) (Nat.le_refl _)) (Nat.le_trans (show _ ≤ 8359 by omega) (Nat.le_refl _)) d_A_init_7 (fun H hw => ?_)
  refine r_put (ty := .array (.object "LineTables$Table")) (ci := 0) (fs := [.null, .null, .null, .null]) hx hb hG lay_A ft_A ft_A_ok fn_A hown hin hw (by omega) ⟨by omega, by omega⟩ (jn_lo (by omega)) rfl 0 (by decide) (hG _ fl_A_11) (fun _ h9 => h9) rfl (by decide +kernel) rfl rfl (by simp) d_A_init_10 (fun H locs hw => ?_)
  refine lv_iconst (v := 0) hx hb d_A_init_13 (by decide) ?_
  refine lv_istore_n hx hb d_A_init_14 rfl hl (by decide) rfl (fun ls hl => ?_)
  have hl := lv_sub hl [1, 0] rfl
  have hw : gR D k b 2 s (va_up (va_up (FA k b) b (.inr (0, [.ref (b + 1), .null, .null, .null]))) (b + 1) (arO (k 2) 8 (b + 2) 15 0)) H locs := hw.cg (fun q h1 h2 => by
    by_cases e : q = b
    · subst e
      exact ((va_up_self _ _ _).trans rfl).trans ((va_up_ne _ _ (by omega)).trans (va_up_self _ _ _)).symm
    · rw [va_up_ne _ _ e, jn_hi (by omega), show q = b + 1 by omega, va_up_self]; exact arO_0)
  have loop : ∀ (d i n cells slots : Nat) (H : Heap) (locs : List Loc) (ls : Array Slot), i + d = 8 → n = 2 + 15 * i → cells = 1 + 15 * i → slots = 8 + 894 * i → gR D k b n s (va_up (va_up (FA k b) b (.inr (0, [.ref (b + 1), .null, .null, .null]))) (b + 1) (arO (k 2) 8 (b + 2) 15 i)) H locs → lv_has ls 2 [(0, .ref b), (1, .int (nI i))] → W p l e (rmK 3 177 8359) s m ([.ref b] : List Value).toArray below meth c H locs cells slots (MQ below (cpost D b 178 (FA k b)) ([.ref b] : List Value).toArray s 177 8359 (fun q => b ≤ q)) (F0 m 15 ls []) := by
    clear hw hl
    intro d
    induction d with
    | zero =>
      intro i n cells slots H locs ls hd hn hcl hsl hw hl
      refine lv_iload_n hx hb d_A_init_15 rfl (lv_at hl 1 rfl) ?_
      refine lv_bipush (v := 8) hx hb d_A_init_16 (by decide) ?_
      refine l_top (show (8 : Int32) = nI 8 by decide) ?_
      refine lv_icmp_ge (tgt := 40) hx hb d_A_init_18 (by decide) (fun hc => ?_) (fun hc => ?_)
      rotate_left
      · exact absurd (nI_le (by omega) (by omega)) hc
      obtain rfl : i = 8 := by omega
      obtain rfl : n = 122 := by omega
      obtain rfl : cells = 121 := by omega
      obtain rfl : slots = 7160 := by omega
      rw [up_com (by omega)] at hw
      refine lv_aload_n hx hb d_A_init_40 rfl (lv_at hl 0 rfl) ?_
      refine r_new (ci := 3) hx hb hG lay_T ft_T ft_T_ok hown (hG _ cl_A_9) (hG _ ia_T) (hG _ in_T) hw rfl [.int 0, .int 0, .int 0, .int 0, .null, .null] df_T (Nat.le_trans (show _ ≤ 177 by omega) (Nat.le_refl _)) (Nat.le_trans (show _ ≤ 8359 by omega) (Nat.le_refl _)) d_A_init_41 (fun H hw => ?_)
      refine lv_dup hx hb d_A_init_44 rfl ?_
      refine r_ctor S (k_T l D k _) hw hC (jn_hi (Nat.le_refl _)) ml_A_15 im_T_init in_T co_T_init rfl (by decide +kernel) ⟨by decide, by decide⟩ hl.1 (by simp [Value.category]) d_A_init_45 ⟨(Nat.le_trans (show _ ≤ 177 by omega) (Nat.le_refl _)), (Nat.le_trans (show _ ≤ 8359 by omega) (Nat.le_refl _))⟩ (fun H locs hw => ?_)
      refine r_put (ty := .object "LineTables$Table") (ci := 0) (fs := [.ref (b + 1), .null, .null, .null]) hx hb hG lay_A ft_A ft_A_ok fn_A hown hin hw (by omega) ⟨by omega, by omega⟩ (by rw [jn_lo (by omega), jn_lo (by omega), va_up_self]) rfl 3 (by decide) (hG _ fl_A_16) (fun _ h9 => h9) rfl (by decide +kernel) rfl rfl (by simp) d_A_init_48 (fun H locs hw => ?_)
      have hw : gR D k b 137 s (va_up (va_up (FA k b) (b + 1) (arO (k 2) 8 (b + 2) 15 8)) b (.inr (0, [.ref (b + 1), .null, .null, .ref (b + 122)]))) H locs := hw.cg (fun q h1 h2 => cg_obj (by omega) (fun h3 => by
        rw [va_up_ne _ _ (by omega)]; exact FA_T 8 (by omega) (by omega) (by omega)))
      refine lv_aload_n hx hb d_A_init_51 rfl (lv_at hl 0 rfl) ?_
      refine r_new (ci := 1) hx hb hG lay_Q ft_Q ft_Q_ok hown (hG _ cl_A_20) (hG _ ia_Q) (hG _ in_Q) hw rfl [.null, .null, .null, .null, .null, .null, .null, .null] df_Q (Nat.le_trans (show _ ≤ 177 by omega) (Nat.le_refl _)) (Nat.le_trans (show _ ≤ 8359 by omega) (Nat.le_refl _)) d_A_init_52 (fun H hw => ?_)
      refine lv_dup hx hb d_A_init_55 rfl ?_
      refine r_ctor S (k_Q l D k _) hw hC (jn_hi (Nat.le_refl _)) ml_A_22 im_Q_init in_Q co_Q_init rfl (by decide +kernel) ⟨by decide, by decide⟩ hl.1 (by simp [Value.category]) d_A_init_56 ⟨(Nat.le_trans (show _ ≤ 177 by omega) (Nat.le_refl _)), (Nat.le_trans (show _ ≤ 8359 by omega) (Nat.le_refl _))⟩ (fun H locs hw => ?_)
      refine r_put (ty := .object "LineTables$Rationals") (ci := 0) (fs := [.ref (b + 1), .null, .null, .ref (b + 122)]) hx hb hG lay_A ft_A ft_A_ok fn_A hown hin hw (by omega) ⟨by omega, by omega⟩ (by rw [jn_lo (by omega), jn_lo (by omega), va_up_self]) rfl 1 (by decide) (hG _ fl_A_23) (fun _ h9 => h9) rfl (by decide +kernel) rfl rfl (by simp) d_A_init_59 (fun H locs hw => ?_)
      have hw : gR D k b 177 s (va_up (va_up (FA k b) (b + 1) (arO (k 2) 8 (b + 2) 15 8)) b (.inr (0, [.ref (b + 1), .ref (b + 137), .null, .ref (b + 122)]))) H locs := hw.cg (fun q h1 h2 => cg_obj (by omega) (fun h3 => by
        rw [va_up_ne _ _ (by omega)]; exact FA_Q (by omega) (by omega)))
      refine lv_aload_n hx hb d_A_init_62 rfl (lv_at hl 0 rfl) ?_
      refine r_new (ci := 2) hx hb hG lay_P ft_P ft_P_ok hown (hG _ cl_A_27) (hG _ ia_P) (hG _ in_P) hw rfl [] df_P (Nat.le_trans (show _ ≤ 177 by omega) (Nat.le_refl _)) (Nat.le_trans (show _ ≤ 8359 by omega) (Nat.le_refl _)) d_A_init_63 (fun H hw => ?_)
      refine lv_dup hx hb d_A_init_66 rfl ?_
      refine r_ctorN S (k_P l D k _) hw hC (jn_hi (Nat.le_refl _)) hC.2.2.1 im_P_init in_P co_P_init rfl (by decide +kernel) ⟨by decide, by decide⟩ hl.1 (by simp [Value.category]) d_A_init_67 ⟨(Nat.le_trans (show _ ≤ 177 by omega) (Nat.le_refl _)), (Nat.le_trans (show _ ≤ 8359 by omega) (Nat.le_refl _))⟩ (fun H locs hw => ?_)
      refine r_put (ty := .object "LineTables$Residues") (ci := 0) (fs := [.ref (b + 1), .ref (b + 137), .null, .ref (b + 122)]) hx hb hG lay_A ft_A ft_A_ok fn_A hown hin hw (by omega) ⟨by omega, by omega⟩ (by rw [jn_lo (by omega), jn_lo (by omega), va_up_self]) rfl 2 (by decide) (hG _ fl_A_30) (fun _ h9 => h9) rfl (by decide +kernel) rfl rfl (by simp) d_A_init_70 (fun H locs hw => ?_)
      have hw : gR D k b 178 s (va_up (va_up (FA k b) (b + 1) (arO (k 2) 8 (b + 2) 15 8)) b (.inr (0, [.ref (b + 1), .ref (b + 137), .ref (b + 177), .ref (b + 122)]))) H locs := hw.cg (fun q h1 h2 => cg_obj (by omega) (fun h3 => by
        rw [va_up_ne _ _ (by omega)]; exact FA_P (by omega)))
      refine r_ret hx hb hr hlocks hw (fun q h1 h2 h => ?_) (by decide) (by decide) d_A_init_73
      by_cases e1 : q = b
      · rw [e1, va_up_self] at h
        rw [e1, show (FA k b) b = _ from if_pos rfl]; exact h
      rw [va_up_ne _ _ e1] at h
      by_cases e2 : q = b + 1
      · rw [e2, va_up_self] at h
        rw [e2, show (FA k b) (b + 1) = _ from (if_neg (by omega)).trans (if_pos rfl)]; exact arO_at (fun j hj => rfl) h
      · rw [va_up_ne _ _ e2] at h; exact h
    | succ d ih =>
      intro i n cells slots H locs ls hd hn hcl hsl hw hl
      refine lv_iload_n hx hb d_A_init_15 rfl (lv_at hl 1 rfl) ?_
      refine lv_bipush (v := 8) hx hb d_A_init_16 (by decide) ?_
      refine l_top (show (8 : Int32) = nI 8 by decide) ?_
      refine lv_icmp_ge (tgt := 40) hx hb d_A_init_18 (by decide) (fun hc => ?_) (fun hc => ?_)
      · exact absurd hc (nI_ge (by omega) (by omega))
      refine lv_aload_n hx hb d_A_init_21 rfl (lv_at hl 0 rfl) ?_
      refine r_get (ci := 0) (fs := [.ref (b + 1), .null, .null, .null]) hx hb hG lay_A hown hw ⟨by omega, by omega⟩ (by rw [va_up_ne _ _ (by omega), va_up_self]) rfl 0 (by decide) (hG _ fl_A_11) (fun _ h9 => h9) rfl d_A_init_22 ?_
      refine lv_iload_n hx hb d_A_init_25 rfl (lv_at hl 1 rfl) ?_
      refine r_new (ci := 3) hx hb hG lay_T ft_T ft_T_ok hown (hG _ cl_A_9) (hG _ ia_T) (hG _ in_T) hw rfl [.int 0, .int 0, .int 0, .int 0, .null, .null] df_T (Nat.le_trans (show _ ≤ 177 by omega) (Nat.le_refl _)) (Nat.le_trans (show _ ≤ 8359 by omega) (Nat.le_refl _)) d_A_init_26 (fun H hw => ?_)
      refine lv_dup hx hb d_A_init_29 rfl ?_
      refine r_ctor S (k_T l D k _) hw hC (jn_hi (Nat.le_refl _)) ml_A_15 im_T_init in_T co_T_init rfl (by decide +kernel) ⟨by decide, by decide⟩ hl.1 (by simp [Value.category]) d_A_init_30 ⟨(Nat.le_trans (show _ ≤ 177 by omega) (Nat.le_refl _)), (Nat.le_trans (show _ ≤ 8359 by omega) (Nat.le_refl _))⟩ (fun H locs hw => ?_)
      refine r_aast (cA := k 2) (N := 8) (z := fun j => if j < i then some (b + 2 + 15 * j) else none) hx hb hw (by omega) ⟨by omega, by omega⟩ ⟨by omega, by omega⟩ 2 3 (by rw [jn_lo (by omega), jn_lo (by omega), va_up_self]; rfl) rfl (by rw [jn_hi (Nat.le_refl _)]; exact if_pos rfl) rfl i (by omega) (by decide) d_A_init_33 (fun H locs hw => ?_)
      refine lv_iinc (k := 1) hx hb d_A_init_34 hl rfl (ii1 i) (by decide) rfl (fun ls hl => ?_)
      have hl := lv_sub hl [1, 0] rfl
      refine lv_goto (tgt := 15) hx hb d_A_init_37 (by decide) ?_
      refine ih (i + 1) (n + 15) _ _ H locs ls (by omega) (by omega) (by omega) (by omega) (hw.cg (fun q h1 h2 => ?_)) hl
      by_cases e1 : q = b + 1
      · rw [e1, va_up_self, va_up_self]; exact arO_s (by omega)
      · rw [va_up_ne _ _ e1, va_up_ne _ _ e1]
        by_cases e2 : q < b + n
        · rw [jn_lo e2, jn_lo e2, va_up_ne _ _ e1]
        · rw [jn_hi (by omega), va_up_ne _ _ (by omega), show b + n = b + 2 + 15 * i by omega]; exact (FA_T i (by omega) (by omega) (by omega)).symm
  exact loop 8 0 2 _ _ H locs ls (by omega) (by omega) (by omega) (by omega) hw hl

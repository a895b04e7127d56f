-- ===== Whole: takeAway =====
theorem sub_stepS {i q : Nat} {cy w : Int} {r : Nat → Nat} {S : Int} (h : (cd B30 i (fun t => r (q + t)) : Int) + cy * (B30 : Int) ^ i = S) : (cd B30 (i + 1) (fun t => va_up r (q + i) ((cy + w) % 1073741824).toNat (q + t)) : Int) + (cy + w) / 1073741824 * (B30 : Int) ^ (i + 1) = S + w * (B30 : Int) ^ i := by
  have h0 : cd B30 (i + 1) (fun t => va_up r (q + i) ((cy + w) % 1073741824).toNat (q + t)) = cd B30 (i + 1) (va_up (fun t => r (q + t)) i ((cy + w) % 1073741824).toNat) := cd_congr (i + 1) (fun t ht => by
    by_cases e : t = i
    · subst e; rw [va_up_self, va_up_self]
    · rw [va_up_ne _ _ (by omega), va_up_ne _ _ e])
  rw [h0]
  exact sub_step h
theorem zL_dig {d : Nat → Nat} {i : Nat} (h : d i < B30) : (nD d i).toInt64 = zL ((d i : Nat) : Int) := nI_l (by unfold B30 at h; omega)
theorem zL_lowI (w : Int) : (zL (w % 1073741824)).toInt32 = nI (w % 1073741824).toNat := by
  rw [zLI, ← zI_n]
  congr 1
  omega
section TAKE
variable {p : Program} {l : Launch} {e : Env} {s : State} {m : MethodId} {args : Array Value} {below : List Frame} {meth : Method} {c : Code} {Q : State → Prop} {D : va_G} {k : Nat → ClassId} {L : List Nat} {f0 : Nat → va_E} {H0 : Heap} {R : Room} {cells slots : Nat}
set_option maxRecDepth 100000 in
set_option maxHeartbeats 4000000 in
theorem w_ta1 (S : CallFix p m c c_W_takeAway 12 s args G R_W) {x xl n o ol n2 at0 G0 : Nat} {g g2 : Int32} {d d2 : Nat → Nat} (hat : at0 + n2 < 12) (hG0 : G0 ≤ 1073741823) (hd2 : ∀ t, t < 12 → d2 t < B30) :
    ∀ (j i : Nat) (cy : Int) (r : Nat → Nat) (H : Heap) (locs : List Loc) (ls : Array Slot), i + j = n2 → (-1073741824 ≤ cy ∧ cy ≤ 0) → (∀ t, t < 12 → r t < B30) → (∀ t, t < at0 ∨ at0 + i ≤ t → r t = d t) → (cd B30 i (fun t => r (at0 + t)) : Int) + cy * (B30 : Int) ^ i = (cd B30 i (fun t => d (at0 + t)) : Int) - (G0 : Int) * (cd B30 i d2 : Int) →
    lv_has ls 12 [(0, .ref x), (1, .ref o), (2, .long (zL (G0 : Int))), (4, .int (nI at0)), (5, .int (nI (at0 + n2))), (6, .long (zL cy)), (8, .int (nI i))] → kw D cls (tyl k) L s H0 f0 [(x, cW xl n g), (xl, cD k r), (o, cW ol n2 g2), (ol, cD k d2)] H locs →
    (∀ (cy : Int) (r : Nat → Nat) (H : Heap) (locs : List Loc) (ls : Array Slot), (-1073741824 ≤ cy ∧ cy ≤ 0) → (∀ t, t < 12 → r t < B30) → (∀ t, t < at0 ∨ at0 + n2 ≤ t → r t = d t) → (cd B30 n2 (fun t => r (at0 + t)) : Int) + cy * (B30 : Int) ^ n2 = (cd B30 n2 (fun t => d (at0 + t)) : Int) - (G0 : Int) * (cd B30 n2 d2 : Int) → lv_has ls 12 [(0, .ref x), (1, .ref o), (2, .long (zL (G0 : Int))), (4, .int (nI at0)), (5, .int (nI (at0 + n2))), (6, .long (zL cy)), (8, .int (nI n2))] → kw D cls (tyl k) L s H0 f0 [(x, cW xl n g), (xl, cD k r), (o, cW ol n2 g2), (ol, cD k d2)] H locs → W p l e R s m args below meth c H locs cells slots Q (F0 m 81 ls [])) →
    W p l e R s m args below meth c H locs cells slots Q (F0 m 15 ls []) := by
  have hx := S.1
  have hb := S.2.1
  have hown : s.vm.findClass R_W = some m.cls := S.2.2.2.1
  have hG := S.2.2.2.2
  intro j
  induction j with
  | zero =>
    intro i cy r H locs ls hij hcy hrr hr0 he hl hw kx
    have hij : i = n2 := by omega
    subst hij
    -- METHOD W_takeAway | loc 0=x 1=o 2=Q 4=at 5=en 6=cy 8=i | ws x xl o ol | fld x.limbs=xl o.limbs=ol
    refine lv_iload hx hb d_W_takeAway_15 (lv_at hl 6 rfl) ?_
    refine lv_aload_n hx hb d_W_takeAway_17 rfl (lv_at hl 1 rfl) ?_
    refine k_get hx hb hG lay_W hown hw 2 rfl rfl 1 (by decide) (hG _ fl_W_15) (fun _ h9 => h9) rfl d_W_takeAway_18 ?_
    refine lv_icmp_ge (tgt := 81) hx hb d_W_takeAway_21 (by decide) (fun hc => ?_) (fun hc => ?_)
    · exact kx cy r H locs ls hcy hrr hr0 he hl hw
    · exact absurd (nI_le (Nat.le_refl _) (by omega)) hc
  | succ j ih =>
    intro i cy r H locs ls hij hcy hrr hr0 he hl hw kx
    -- METHOD W_takeAway | loc 0=x 1=o 2=Q 4=at 5=en 6=cy 8=i | ws x xl o ol | fld x.limbs=xl o.limbs=ol
    refine lv_iload hx hb d_W_takeAway_15 (lv_at hl 6 rfl) ?_
    refine lv_aload_n hx hb d_W_takeAway_17 rfl (lv_at hl 1 rfl) ?_
    refine k_get hx hb hG lay_W hown hw 2 rfl rfl 1 (by decide) (hG _ fl_W_15) (fun _ h9 => h9) rfl d_W_takeAway_18 ?_
    refine lv_icmp_ge (tgt := 81) hx hb d_W_takeAway_21 (by decide) (fun hc => ?_) (fun hc => ?_)
    · exact absurd hc (nI_ge (by omega) (by omega))
    · have hr1 : r (at0 + i) < B30 := hrr _ (by omega)
      have hd1 : d2 i < B30 := hd2 _ (by omega)
      have hB30 : B30 = 1073741824 := rfl
      have hprod : G0 * d2 i ≤ 1073741823 * 1073741823 := Nat.mul_le_mul hG0 (by omega)
      have hpI : (G0 : Int) * (d2 i : Int) = ((G0 * d2 i : Nat) : Int) := (Int.natCast_mul _ _).symm
      have hrd : r (at0 + i) = d (at0 + i) := hr0 _ (by omega)
      refine lv_lload hx hb d_W_takeAway_24 (lv_at hl 5 rfl) ?_
      refine lv_aload_n hx hb d_W_takeAway_26 rfl (lv_at hl 0 rfl) ?_
      refine k_get hx hb hG lay_W hown hw 0 rfl rfl 0 (by decide) (hG _ fl_W_11) (fun _ h9 => h9) rfl d_W_takeAway_27 ?_
      refine lv_iload hx hb d_W_takeAway_30 (lv_at hl 3 rfl) ?_
      refine lv_iload hx hb d_W_takeAway_32 (lv_at hl 6 rfl) ?_
      refine lv_iadd hx hb d_W_takeAway_34 ?_
      refine k_iald hx hb hw 1 0 rfl rfl ((at0 + i)) (nI_add at0 i) (by omega) (by first | decide | omega) d_W_takeAway_35 ?_
      refine lv_i2l hx hb d_W_takeAway_36 (zL_dig hr1) ?_
      refine lv_lload_n hx hb d_W_takeAway_37 rfl (lv_at hl 2 rfl) ?_
      refine lv_aload_n hx hb d_W_takeAway_38 rfl (lv_at hl 1 rfl) ?_
      refine k_get hx hb hG lay_W hown hw 2 rfl rfl 0 (by decide) (hG _ fl_W_11) (fun _ h9 => h9) rfl d_W_takeAway_39 ?_
      refine lv_iload hx hb d_W_takeAway_42 (lv_at hl 6 rfl) ?_
      refine k_iald hx hb hw 3 0 rfl rfl (i) (rfl) (by omega) (by first | decide | omega) d_W_takeAway_44 ?_
      refine lv_i2l hx hb d_W_takeAway_45 (zL_dig hd1) ?_
      refine lv_lmul hx hb d_W_takeAway_46 ?_
      refine l_topl (zL_mul _ _) ?_
      refine lv_lsub hx hb d_W_takeAway_47 ?_
      refine l_topl (zL_sub _ _) ?_
      refine lv_ladd hx hb d_W_takeAway_48 ?_
      refine l_topl (zL_add _ _) ?_
      refine lv_lstore hx hb d_W_takeAway_49 hl (by decide) rfl (fun ls hl => ?_)
      refine lv_aload_n hx hb d_W_takeAway_51 rfl (lv_at hl 1 rfl) ?_
      refine k_get hx hb hG lay_W hown hw 0 rfl rfl 0 (by decide) (hG _ fl_W_11) (fun _ h9 => h9) rfl d_W_takeAway_52 ?_
      refine lv_iload hx hb d_W_takeAway_55 (lv_at hl 4 rfl) ?_
      refine lv_iload hx hb d_W_takeAway_57 (lv_at hl 6 rfl) ?_
      refine lv_iadd hx hb d_W_takeAway_59 ?_
      refine lv_lload hx hb d_W_takeAway_60 (lv_at hl 0 rfl) ?_
      refine lv_ldc2 hx hb hown (hG _ ct_W_43) d_W_takeAway_62 ?_
      refine lv_land hx hb d_W_takeAway_65 ?_
      refine l_topl (zL_and30 _) ?_
      refine lv_l2i hx hb d_W_takeAway_66 (zL_lowI _) ?_
      refine k_iast hx hb hw 1 0 rfl rfl ((at0 + i)) (nI_add at0 i) (by omega) (by first | decide | omega) d_W_takeAway_67 (fun H locs hw => ?_)
      rw [nD_upd] at hw
      refine lv_lload hx hb d_W_takeAway_68 (lv_at hl 0 rfl) ?_
      refine lv_bipush (v := 30) hx hb d_W_takeAway_70 (by decide) ?_
      refine lv_lshr hx hb d_W_takeAway_72 (zL_shr30 ⟨by rw [hpI]; omega, by rw [hpI]; omega⟩) ?_
      refine lv_lstore hx hb d_W_takeAway_73 hl (by decide) rfl (fun ls hl => ?_)
      refine lv_iinc (k := 6) hx hb d_W_takeAway_75 hl rfl (ii1 i) (by decide) rfl (fun ls hl => ?_)
      refine lv_goto (tgt := 15) hx hb d_W_takeAway_78 (by decide) ?_
      have hl := lv_sub hl [2, 3, 4, 5, 6, 1, 0] rfl
      refine ih (i + 1) ((cy + ((r (at0 + i) : Int) - (G0 : Int) * (d2 i : Int))) / 1073741824) (va_up r (at0 + i) ((cy + ((r (at0 + i) : Int) - (G0 : Int) * (d2 i : Int))) % 1073741824).toNat) H locs ls (by omega) (by rw [hpI]; omega) (fun t ht => ?_) (fun t ht => ?_) ?_ hl hw kx
      · by_cases e : t = at0 + i
        · rw [e, va_up_self, hB30]; omega
        · rw [va_up_ne _ _ e]; exact hrr t ht
      · rw [va_up_ne _ _ (by omega)]; exact hr0 t (by omega)
      · rw [sub_stepS he, cd_int_succ, cd_int_succ, hrd, Int.sub_mul, Int.mul_add, Int.mul_assoc]
        omega
set_option maxRecDepth 100000 in
set_option maxHeartbeats 4000000 in
theorem w_ta3 (S : CallFix p m c c_W_takeAway 12 s args G R_W) {x xl n o ol n2 at0 G0 a : Nat} {g g2 : Int32} {d d2 : Nat → Nat} {hi T : Int} (hat : at0 + n2 < 12) (hd2 : ∀ t, t < 12 → d2 t < B30) :
    ∀ (j i : Nat) (cy : Int) (r : Nat → Nat) (H : Heap) (locs : List Loc) (ls : Array Slot), i + j = n2 → (0 ≤ cy ∧ cy ≤ 1) → (∀ t, t < 12 → r t < B30) → (∀ t, t < at0 ∨ at0 + i ≤ t → r t = d t) → (cd B30 i (fun t => r (at0 + t)) : Int) + cy * (B30 : Int) ^ i = (cd B30 i (fun t => d (at0 + t)) : Int) + (cd B30 i d2 : Int) →
    lv_has ls 12 [(0, .ref x), (1, .ref o), (2, .long (zL (G0 : Int))), (4, .int (nI at0)), (5, .int (nI (at0 + n2))), (6, .long (zL cy)), (8, .int (zI hi)), (9, .int (zI T)), (10, .int (nI a)), (11, .int (nI i))] → kw D cls (tyl k) L s H0 f0 [(x, cW xl n g), (xl, cD k r), (o, cW ol n2 g2), (ol, cD k d2)] H locs →
    (∀ (cy : Int) (r : Nat → Nat) (H : Heap) (locs : List Loc) (ls : Array Slot), (0 ≤ cy ∧ cy ≤ 1) → (∀ t, t < 12 → r t < B30) → (∀ t, t < at0 ∨ at0 + n2 ≤ t → r t = d t) → (cd B30 n2 (fun t => r (at0 + t)) : Int) + cy * (B30 : Int) ^ n2 = (cd B30 n2 (fun t => d (at0 + t)) : Int) + (cd B30 n2 d2 : Int) → lv_has ls 12 [(0, .ref x), (1, .ref o), (2, .long (zL (G0 : Int))), (4, .int (nI at0)), (5, .int (nI (at0 + n2))), (6, .long (zL cy)), (8, .int (zI hi)), (9, .int (zI T)), (10, .int (nI a)), (11, .int (nI n2))] → kw D cls (tyl k) L s H0 f0 [(x, cW xl n g), (xl, cD k r), (o, cW ol n2 g2), (ol, cD k d2)] H locs → W p l e R s m args below meth c H locs cells slots Q (F0 m 182 ls [])) →
    W p l e R s m args below meth c H locs cells slots Q (F0 m 119 ls []) := by
  have hx := S.1
  have hb := S.2.1
  have hown : s.vm.findClass R_W = some m.cls := S.2.2.2.1
  have hG := S.2.2.2.2
  intro j
  induction j with
  | zero =>
    intro i cy r H locs ls hij hcy hrr hr0 he hl hw kx
    have hij : i = n2 := by omega
    subst hij
    -- METHOD W_takeAway | loc 0=x 1=o 2=Q 4=at 5=en 6=cy 8=hi 9=T 10=a 11=i | ws x xl o ol | fld x.limbs=xl o.limbs=ol
    refine lv_iload hx hb d_W_takeAway_119 (lv_at hl 9 rfl) ?_
    refine lv_aload_n hx hb d_W_takeAway_121 rfl (lv_at hl 1 rfl) ?_
    refine k_get hx hb hG lay_W hown hw 2 rfl rfl 1 (by decide) (hG _ fl_W_15) (fun _ h9 => h9) rfl d_W_takeAway_122 ?_
    refine lv_icmp_ge (tgt := 182) hx hb d_W_takeAway_125 (by decide) (fun hc => ?_) (fun hc => ?_)
    · exact kx cy r H locs ls hcy hrr hr0 he hl hw
    · exact absurd (nI_le (Nat.le_refl _) (by omega)) hc
  | succ j ih =>
    intro i cy r H locs ls hij hcy hrr hr0 he hl hw kx
    -- METHOD W_takeAway | loc 0=x 1=o 2=Q 4=at 5=en 6=cy 8=hi 9=T 10=a 11=i | ws x xl o ol | fld x.limbs=xl o.limbs=ol
    refine lv_iload hx hb d_W_takeAway_119 (lv_at hl 9 rfl) ?_
    refine lv_aload_n hx hb d_W_takeAway_121 rfl (lv_at hl 1 rfl) ?_
    refine k_get hx hb hG lay_W hown hw 2 rfl rfl 1 (by decide) (hG _ fl_W_15) (fun _ h9 => h9) rfl d_W_takeAway_122 ?_
    refine lv_icmp_ge (tgt := 182) hx hb d_W_takeAway_125 (by decide) (fun hc => ?_) (fun hc => ?_)
    · exact absurd hc (nI_ge (by omega) (by omega))
    · have hr1 : r (at0 + i) < B30 := hrr _ (by omega)
      have hd1 : d2 i < B30 := hd2 _ (by omega)
      have hB30 : B30 = 1073741824 := rfl
      have hrd : r (at0 + i) = d (at0 + i) := hr0 _ (by omega)
      refine lv_lload hx hb d_W_takeAway_128 (lv_at hl 5 rfl) ?_
      refine lv_aload_n hx hb d_W_takeAway_130 rfl (lv_at hl 0 rfl) ?_
      refine k_get hx hb hG lay_W hown hw 0 rfl rfl 0 (by decide) (hG _ fl_W_11) (fun _ h9 => h9) rfl d_W_takeAway_131 ?_
      refine lv_iload hx hb d_W_takeAway_134 (lv_at hl 3 rfl) ?_
      refine lv_iload hx hb d_W_takeAway_136 (lv_at hl 9 rfl) ?_
      refine lv_iadd hx hb d_W_takeAway_138 ?_
      refine k_iald hx hb hw 1 0 rfl rfl ((at0 + i)) (nI_add at0 i) (by omega) (by first | decide | omega) d_W_takeAway_139 ?_
      refine lv_aload_n hx hb d_W_takeAway_140 rfl (lv_at hl 1 rfl) ?_
      refine k_get hx hb hG lay_W hown hw 2 rfl rfl 0 (by decide) (hG _ fl_W_11) (fun _ h9 => h9) rfl d_W_takeAway_141 ?_
      refine lv_iload hx hb d_W_takeAway_144 (lv_at hl 9 rfl) ?_
      refine k_iald hx hb hw 3 0 rfl rfl (i) (rfl) (by omega) (by first | decide | omega) d_W_takeAway_146 ?_
      refine lv_iadd hx hb d_W_takeAway_147 ?_
      refine l_top (show nD r (at0 + i) + nD d2 i = nI (r (at0 + i) + d2 i) from nI_add _ _) ?_
      refine lv_i2l hx hb d_W_takeAway_148 (show (nI (r (at0 + i) + d2 i)).toInt64 = zL ((r (at0 + i) : Int) + (d2 i : Int)) from nI_l (by omega)) ?_
      refine lv_ladd hx hb d_W_takeAway_149 ?_
      refine l_topl (zL_add _ _) ?_
      refine lv_lstore hx hb d_W_takeAway_150 hl (by decide) rfl (fun ls hl => ?_)
      refine lv_aload_n hx hb d_W_takeAway_152 rfl (lv_at hl 1 rfl) ?_
      refine k_get hx hb hG lay_W hown hw 0 rfl rfl 0 (by decide) (hG _ fl_W_11) (fun _ h9 => h9) rfl d_W_takeAway_153 ?_
      refine lv_iload hx hb d_W_takeAway_156 (lv_at hl 4 rfl) ?_
      refine lv_iload hx hb d_W_takeAway_158 (lv_at hl 9 rfl) ?_
      refine lv_iadd hx hb d_W_takeAway_160 ?_
      refine lv_lload hx hb d_W_takeAway_161 (lv_at hl 0 rfl) ?_
      refine lv_ldc2 hx hb hown (hG _ ct_W_43) d_W_takeAway_163 ?_
      refine lv_land hx hb d_W_takeAway_166 ?_
      refine l_topl (zL_and30 _) ?_
      refine lv_l2i hx hb d_W_takeAway_167 (zL_lowI _) ?_
      refine k_iast hx hb hw 1 0 rfl rfl ((at0 + i)) (nI_add at0 i) (by omega) (by first | decide | omega) d_W_takeAway_168 (fun H locs hw => ?_)
      rw [nD_upd] at hw
      refine lv_lload hx hb d_W_takeAway_169 (lv_at hl 0 rfl) ?_
      refine lv_bipush (v := 30) hx hb d_W_takeAway_171 (by decide) ?_
      refine lv_lshr hx hb d_W_takeAway_173 (zL_shr30 ⟨by omega, by omega⟩) ?_
      refine lv_lstore hx hb d_W_takeAway_174 hl (by decide) rfl (fun ls hl => ?_)
      refine lv_iinc (k := 9) hx hb d_W_takeAway_176 hl rfl (ii1 i) (by decide) rfl (fun ls hl => ?_)
      refine lv_goto (tgt := 119) hx hb d_W_takeAway_179 (by decide) ?_
      have hl := lv_sub hl [2, 3, 4, 5, 6, 1, 7, 8, 9, 0] rfl
      refine ih (i + 1) ((cy + ((r (at0 + i) : Int) + (d2 i : Int))) / 1073741824) (va_up r (at0 + i) ((cy + ((r (at0 + i) : Int) + (d2 i : Int))) % 1073741824).toNat) H locs ls (by omega) (by omega) (fun t ht => ?_) (fun t ht => ?_) ?_ hl hw kx
      · by_cases e : t = at0 + i
        · rw [e, va_up_self, hB30]; omega
        · rw [va_up_ne _ _ e]; exact hrr t ht
      · rw [va_up_ne _ _ (by omega)]; exact hr0 t (by omega)
      · rw [sub_stepS he, cd_int_succ, cd_int_succ, hrd, Int.add_mul]
        omega
set_option maxRecDepth 100000 in
set_option maxHeartbeats 4000000 in
theorem w_ta2 (S : CallFix p m c c_W_takeAway 12 s args G R_W) {x xl n o ol n2 at0 G0 X : Nat} {g g2 : Int32} {d d2 : Nat → Nat} (hat : at0 + n2 < 12) (hG0 : G0 ≤ 1073741823) (hd2 : ∀ t, t < 12 → d2 t < B30) (hD : 0 < cd B30 n2 d2) (hq : G0 ≤ X / cd B30 n2 d2 + 2) :
    ∀ (j a : Nat) (hi T : Int) (r : Nat → Nat) (H : Heap) (locs : List Loc) (ls : Array Slot), a + j = 2 → (-1073741824 ≤ hi ∧ hi ≤ 1073741824) → T = (G0 : Int) - a → ((X / cd B30 n2 d2 : Nat) : Int) ≤ T → (∀ t, t < 12 → r t < B30) → (∀ t, t < at0 ∨ at0 + n2 ≤ t → r t = d t) → (cd B30 n2 (fun t => r (at0 + t)) : Int) + hi * (B30 : Int) ^ n2 = (X : Int) - T * (cd B30 n2 d2 : Int) →
    lv_has ls 12 [(0, .ref x), (1, .ref o), (2, .long (zL (G0 : Int))), (4, .int (nI at0)), (5, .int (nI (at0 + n2))), (8, .int (zI hi)), (9, .int (zI T)), (10, .int (nI a))] → kw D cls (tyl k) L s H0 f0 [(x, cW xl n g), (xl, cD k r), (o, cW ol n2 g2), (ol, cD k d2)] H locs →
    (∀ (hi T : Int) (r : Nat → Nat) (H : Heap) (locs : List Loc) (ls : Array Slot) (a : Nat), 0 ≤ hi → hi ≤ 1073741824 → (-2 ≤ T ∧ T ≤ 1073741823) → ((X / cd B30 n2 d2 : Nat) : Int) ≤ T → (∀ t, t < 12 → r t < B30) → (∀ t, t < at0 ∨ at0 + n2 ≤ t → r t = d t) → (cd B30 n2 (fun t => r (at0 + t)) : Int) + hi * (B30 : Int) ^ n2 = (X : Int) - T * (cd B30 n2 d2 : Int) → lv_has ls 12 [(0, .ref x), (1, .ref o), (2, .long (zL (G0 : Int))), (4, .int (nI at0)), (5, .int (nI (at0 + n2))), (8, .int (zI hi)), (9, .int (zI T)), (10, .int (nI a))] → kw D cls (tyl k) L s H0 f0 [(x, cW xl n g), (xl, cD k r), (o, cW ol n2 g2), (ol, cD k d2)] H locs → W p l e R s m args below meth c H locs cells slots Q (F0 m 199 ls [])) →
    W p l e R s m args below meth c H locs cells slots Q (F0 m 102 ls []) := by
  have hx := S.1
  have hb := S.2.1
  have hown : s.vm.findClass R_W = some m.cls := S.2.2.2.1
  have hG := S.2.2.2.2
  have neg : ∀ (hi T : Int) (r : Nat → Nat), (∀ t, t < 12 → r t < B30) → (cd B30 n2 (fun t => r (at0 + t)) : Int) + hi * (B30 : Int) ^ n2 = (X : Int) - T * (cd B30 n2 d2 : Int) → hi < 0 → ((X / cd B30 n2 d2 : Nat) : Int) + 1 ≤ T := by
    intro hi T r hrr he hneg
    have hlt := cd_lt n2 (b := B30) (d := fun t => r (at0 + t)) (fun i hi => hrr _ (by omega))
    have hP : (B30 : Int) ^ n2 = ((B30 ^ n2 : Nat) : Int) := (Int.natCast_pow _ _).symm
    rw [hP] at he
    have h1 : hi * ((B30 ^ n2 : Nat) : Int) ≤ (-1) * ((B30 ^ n2 : Nat) : Int) := Int.mul_le_mul_of_nonneg_right (by omega) (by omega)
    have h2 : (X : Int) < T * (cd B30 n2 d2 : Int) := by omega
    have h3 : ((X / cd B30 n2 d2 * cd B30 n2 d2 : Nat) : Int) ≤ (X : Int) := by have := Nat.div_mul_le_self X (cd B30 n2 d2); omega
    rw [Int.natCast_mul] at h3
    have h4 : ((X / cd B30 n2 d2 : Nat) : Int) * (cd B30 n2 d2 : Int) < T * (cd B30 n2 d2 : Int) := by omega
    have := Int.lt_of_mul_lt_mul_right h4 (by omega)
    omega
  intro j
  induction j with
  | zero =>
    intro a hi T r H locs ls haj hh hT hTq hrr hr0 he hl hw kx
    have ha2 : a = 2 := by omega
    subst ha2
    -- METHOD W_takeAway | loc 0=x 1=o 2=Q 4=at 5=en 8=hi 9=T 10=a | ws x xl o ol | fld x.limbs=xl o.limbs=ol
    refine lv_iload hx hb d_W_takeAway_102 (lv_at hl 7 rfl) ?_
    refine lv_iconst (v := 2) hx hb d_W_takeAway_104 (by decide) ?_
    refine lv_icmp_ge (tgt := 199) hx hb d_W_takeAway_105 (by decide) (fun hc => ?_) (fun hc => ?_)
    · have hnn : 0 ≤ hi := Int.not_lt.mp fun h => by
        have := neg hi T r hrr he h
        omega
      exact kx hi T r H locs ls 2 hnn hh.2 (by omega) hTq hrr hr0 he hl hw
    · exact absurd (by decide) hc
  | succ j ih =>
    intro a hi T r H locs ls haj hh hT hTq hrr hr0 he hl hw kx
    -- METHOD W_takeAway | loc 0=x 1=o 2=Q 4=at 5=en 8=hi 9=T 10=a | ws x xl o ol | fld x.limbs=xl o.limbs=ol
    refine lv_iload hx hb d_W_takeAway_102 (lv_at hl 7 rfl) ?_
    refine lv_iconst (v := 2) hx hb d_W_takeAway_104 (by decide) ?_
    refine lv_icmp_ge (tgt := 199) hx hb d_W_takeAway_105 (by decide) (fun hc => ?_) (fun hc => ?_)
    · exact absurd hc (nI_ge (b := 2) (by omega) (by omega))
    · -- STK
      refine lv_iload hx hb d_W_takeAway_108 (lv_at hl 5 rfl) ?_
      refine lv_if_ge (tgt := 199) hx hb d_W_takeAway_110 (by decide) (fun hc => ?_) (fun hc => ?_)
      · have hnn : 0 ≤ hi := (zI_le (a := 0) ⟨by decide, by decide⟩ ⟨by omega, by omega⟩).mp hc
        exact kx hi T r H locs ls a hnn hh.2 (by omega) hTq hrr hr0 he hl hw
      · have hneg : hi < 0 := Int.not_le.mp fun h => hc ((zI_le (a := 0) ⟨by decide, by decide⟩ ⟨by omega, by omega⟩).mpr h)
        have hTn := neg hi T r hrr he hneg
        refine lv_lconst (v := 0) hx hb d_W_takeAway_113 (by decide) ?_
        refine lv_lstore hx hb d_W_takeAway_114 hl (by decide) rfl (fun ls hl => ?_)
        refine lv_iconst (v := 0) hx hb d_W_takeAway_116 (by decide) ?_
        refine lv_istore hx hb d_W_takeAway_117 hl (by decide) rfl (fun ls hl => ?_)
        have hl := lv_sub hl [2, 3, 4, 5, 6, 1, 7, 8, 9, 0] rfl
        refine w_ta3 (d := r) (hi := hi) (T := T) (a := a) (G0 := G0) S hat hd2 n2 0 0 r H locs ls (by omega) (by omega) hrr (fun _ _ => rfl) rfl hl hw (fun cy r1 H locs ls hcy hrr1 hr1 he1 hl hw => ?_)
        -- METHOD W_takeAway | loc 0=x 1=o 2=Q 4=at 5=en 6=cy 8=hi 9=T 10=a 11=i | ws x xl o ol | fld x.limbs=xl o.limbs=ol
        refine lv_iload hx hb d_W_takeAway_182 (lv_at hl 6 rfl) ?_
        refine lv_lload hx hb d_W_takeAway_184 (lv_at hl 5 rfl) ?_
        refine lv_l2i hx hb d_W_takeAway_186 (zLI _) ?_
        refine lv_iadd hx hb d_W_takeAway_187 ?_
        refine l_top (zI_add _ _) ?_
        refine lv_istore hx hb d_W_takeAway_188 hl (by decide) rfl (fun ls hl => ?_)
        refine lv_iinc (k := 7) hx hb d_W_takeAway_190 hl rfl (show zI T + Int32.ofInt (-1) = zI (T - 1) from zI_add T (-1)) (by decide) rfl (fun ls hl => ?_)
        refine lv_iinc (k := 8) hx hb d_W_takeAway_193 hl rfl (ii1 a) (by decide) rfl (fun ls hl => ?_)
        refine lv_goto (tgt := 102) hx hb d_W_takeAway_196 (by decide) ?_
        have hl := lv_sub hl [3, 4, 5, 6, 7, 2, 1, 0] rfl
        refine ih (a + 1) (hi + cy) (T - 1) r1 H locs ls (by omega) (by omega) (by omega) (by omega) hrr1 (fun t ht => (hr1 t (by omega)).trans (hr0 t ht)) ?_ hl hw kx
        rw [Int.add_mul, Int.sub_mul, Int.one_mul]
        omega
end TAKE
set_option maxRecDepth 100000 in
set_option maxHeartbeats 4000000 in
/-- takeAway(o, guess, at): the quotient's digit, and what is left in its place -/
theorem m_W_takeAway (l : Launch) (D : va_G) (k : Nat → ClassId) (L : List Nat) (f : Nat → va_E) (x xl n o ol n2 at0 G0 : Nat) (g g2 : Int32) (d d2 : Nat → Nat) (hat : at0 + n2 < 12) (hG0 : G0 ≤ 1073741823) (hd : ∀ t, t < 12 → d t < B30) (hd2 : ∀ t, t < 12 → d2 t < B30) (hD : 0 < cd B30 n2 d2) (hq1 : cd B30 (n2 + 1) (fun t => d (at0 + t)) / cd B30 n2 d2 ≤ G0) (hq : G0 ≤ cd B30 (n2 + 1) (fun t => d (at0 + t)) / cd B30 n2 d2 + 2) (hk : kn L f f [(x, cW xl n g), (xl, cD k d), (o, cW ol n2 g2), (ol, cD k d2)]) : Mi l y_W_takeAway (Cond.code y_W_takeAway c_W_takeAway 12 (some .int) :: G) (rmN 0) D cls (tyl k) L f [.ref x, .ref o, .long (lN G0), .int (nI at0)] (fun r f' => r = nI (cd B30 (n2 + 1) (fun t => d (at0 + t)) / cd B30 n2 d2) ∧ ∃ d' : Nat → Nat, (∀ t, t < 12 → d' t < B30) ∧ (∀ t, t < at0 ∨ at0 + n2 < t → d' t = d t) ∧ d' (at0 + n2) = 0 ∧ cd B30 n2 (fun t => d' (at0 + t)) = cd B30 (n2 + 1) (fun t => d (at0 + t)) % cd B30 n2 d2 ∧ kn L f f' [(x, cW xl n g), (xl, cD k d'), (o, cW ol n2 g2), (ol, cD k d2)]) := by
  generalize hX : cd B30 (n2 + 1) (fun t => d (at0 + t)) = X at hq1 hq ⊢
  -- METHOD W_takeAway | loc 0=x 1=o 2=Q 4=at | ws x xl o ol | fld x.limbs=xl o.limbs=ol
  refine mk_met (by decide) (Nat.le_of_ble_eq_true rfl) (fun p e s m below meth c ls S hr hlocks hw hl => ?_)
  have hx := S.1
  have hb := S.2.1
  have hown : s.vm.findClass R_W = some m.cls := S.2.2.2.1
  have hG := S.2.2.2.2
  have hl : lv_has ls 12 [(0, .ref x), (1, .ref o), (2, .long (zL (G0 : Int))), (4, .int (nI at0))] := hl
  have hg := hw
  have hw : kw D cls (tyl k) L s s.heap f [(x, cW xl n g), (xl, cD k d), (o, cW ol n2 g2), (ol, cD k d2)] s.heap [] := ⟨f, hw, hk⟩
  have hB30 : B30 = 1073741824 := rfl
  refine lv_iload hx hb d_W_takeAway_0 (lv_at hl 3 rfl) ?_
  refine lv_aload_n hx hb d_W_takeAway_2 rfl (lv_at hl 1 rfl) ?_
  refine k_get hx hb hG lay_W hown hw 2 rfl rfl 1 (by decide) (hG _ fl_W_15) (fun _ h9 => h9) rfl d_W_takeAway_3 ?_
  refine lv_iadd hx hb d_W_takeAway_6 ?_
  refine l_top (nI_add _ _) ?_
  refine lv_istore hx hb d_W_takeAway_7 hl (by decide) rfl (fun ls hl => ?_)
  refine lv_lconst (v := 0) hx hb d_W_takeAway_9 (by decide) ?_
  refine lv_lstore hx hb d_W_takeAway_10 hl (by decide) rfl (fun ls hl => ?_)
  refine lv_iconst (v := 0) hx hb d_W_takeAway_12 (by decide) ?_
  refine lv_istore hx hb d_W_takeAway_13 hl (by decide) rfl (fun ls hl => ?_)
  have hl := lv_sub hl [3, 4, 5, 6, 2, 1, 0] rfl
  refine w_ta1 (d := d) S hat hG0 hd2 n2 0 0 d _ _ ls (by omega) (by omega) hd (fun _ _ => rfl) (by show (0 : Int) + 0 * _ = 0 - _ * 0; omega) hl hw (fun cy r H locs ls hcy hrr hr0 he hl hw => ?_)
  have htop : r (at0 + n2) = d (at0 + n2) := hr0 _ (by omega)
  have htl : d (at0 + n2) < B30 := hd _ hat
  -- METHOD W_takeAway | loc 0=x 1=o 2=Q 4=at 5=en 6=cy 8=i | ws x xl o ol | fld x.limbs=xl o.limbs=ol
  refine lv_aload_n hx hb d_W_takeAway_81 rfl (lv_at hl 0 rfl) ?_
  refine k_get hx hb hG lay_W hown hw 0 rfl rfl 0 (by decide) (hG _ fl_W_11) (fun _ h9 => h9) rfl d_W_takeAway_82 ?_
  refine lv_iload hx hb d_W_takeAway_85 (lv_at hl 4 rfl) ?_
  refine k_iald hx hb hw 1 0 rfl rfl ((at0 + n2)) (rfl) (hat) (by first | decide | omega) d_W_takeAway_87 ?_
  refine lv_i2l hx hb d_W_takeAway_88 (show (nD r (at0 + n2)).toInt64 = zL ((d (at0 + n2) : Nat) : Int) by rw [← htop]; exact zL_dig (hrr _ hat)) ?_
  refine lv_lload hx hb d_W_takeAway_89 (lv_at hl 5 rfl) ?_
  refine lv_ladd hx hb d_W_takeAway_91 ?_
  refine l_topl (zL_add _ _) ?_
  refine lv_l2i hx hb d_W_takeAway_92 (zLI _) ?_
  refine lv_istore hx hb d_W_takeAway_93 hl (by decide) rfl (fun ls hl => ?_)
  refine lv_lload_n hx hb d_W_takeAway_95 rfl (lv_at hl 3 rfl) ?_
  refine lv_l2i hx hb d_W_takeAway_96 (zLI _) ?_
  refine lv_istore hx hb d_W_takeAway_97 hl (by decide) rfl (fun ls hl => ?_)
  refine lv_iconst (v := 0) hx hb d_W_takeAway_99 (by decide) ?_
  refine lv_istore hx hb d_W_takeAway_100 hl (by decide) rfl (fun ls hl => ?_)
  have hl := lv_sub hl [3, 4, 5, 6, 7, 2, 1, 0] rfl
  refine w_ta2 (d := d) (X := X) S hat hG0 hd2 hD hq 2 0 ((d (at0 + n2) : Int) + cy) (G0 : Int) r H locs ls (by omega) (by omega) (by omega) (by omega) hrr hr0 ?_ hl hw (fun hi T r H locs ls a h0 h1 hTr hTq hrr hr0 he hl hw => ?_)
  · rw [← hX, cd_int_succ, Int.add_mul]
    omega
  · have hTeq : T = ((X / cd B30 n2 d2 : Nat) : Int) := by
      have hlt : (0 : Int) ≤ (X : Int) - T * (cd B30 n2 d2 : Int) := by
        rw [← he]
        have : 0 ≤ hi * (B30 : Int) ^ n2 := Int.mul_nonneg h0 (Int.pow_nonneg (by omega))
        omega
      have h3 : (X : Int) < (((X / cd B30 n2 d2 + 1) * cd B30 n2 d2 : Nat) : Int) := by
        have := Nat.lt_mul_div_succ X hD
        rw [Nat.mul_comm] at this
        omega
      rw [Int.natCast_mul] at h3
      have h4 : T * (cd B30 n2 d2 : Int) < ((X / cd B30 n2 d2 + 1 : Nat) : Int) * (cd B30 n2 d2 : Int) := by omega
      have := Int.lt_of_mul_lt_mul_right h4 (by omega)
      omega
    subst hTeq
    have hmod : (X : Int) - ((X / cd B30 n2 d2 : Nat) : Int) * (cd B30 n2 d2 : Int) = ((X % cd B30 n2 d2 : Nat) : Int) := by
      have h5 := Nat.mod_add_div X (cd B30 n2 d2)
      rw [Nat.mul_comm] at h5
      rw [← Int.natCast_mul]
      omega
    rw [hmod] at he
    have hml := Nat.mod_lt X hD
    have hDl := cd_lt n2 (b := B30) (d := d2) (fun i hi => hd2 i (by omega))
    have hP : (B30 : Int) ^ n2 = ((B30 ^ n2 : Nat) : Int) := (Int.natCast_pow _ _).symm
    have hz : hi = 0 := by
      rcases Int.lt_or_le 0 hi with h | h
      · exfalso
        have h6 : 1 * ((B30 ^ n2 : Nat) : Int) ≤ hi * ((B30 ^ n2 : Nat) : Int) := Int.mul_le_mul_of_nonneg_right (by omega) (by omega)
        rw [hP] at he
        omega
      · omega
    subst hz
    rw [Int.zero_mul, Int.add_zero] at he
    -- METHOD W_takeAway | loc 0=x 1=o 2=Q 4=at 5=en 8=hi 9=T 10=a | ws x xl o ol | fld x.limbs=xl o.limbs=ol
    refine lv_aload_n hx hb d_W_takeAway_199 rfl (lv_at hl 0 rfl) ?_
    refine k_get hx hb hG lay_W hown hw 0 rfl rfl 0 (by decide) (hG _ fl_W_11) (fun _ h9 => h9) rfl d_W_takeAway_200 ?_
    refine lv_iload hx hb d_W_takeAway_203 (lv_at hl 4 rfl) ?_
    refine lv_iload hx hb d_W_takeAway_205 (lv_at hl 5 rfl) ?_
    refine l_top (show zI 0 = nI 0 from rfl) ?_
    refine k_iast hx hb hw 1 0 rfl rfl ((at0 + n2)) (rfl) (hat) (by first | decide | omega) d_W_takeAway_207 (fun H locs hw => ?_)
    rw [nD_upd] at hw
    refine lv_iload hx hb d_W_takeAway_208 (lv_at hl 6 rfl) ?_
    obtain ⟨f', hw, hk'⟩ := hw
    refine g_reti hx hb hr hlocks hw ⟨rfl, va_up r (at0 + n2) 0, fun t ht => ?_, fun t ht => ?_, va_up_self _ _ _, ?_, hk'⟩ d_W_takeAway_210
    · by_cases e : t = at0 + n2
      · rw [e, va_up_self]; decide
      · rw [va_up_ne _ _ e]; exact hrr t ht
    · rw [va_up_ne _ _ (by omega)]; exact hr0 t (by omega)
    · rw [cd_congr n2 (d := fun t => va_up r (at0 + n2) 0 (at0 + t)) (e := fun t => r (at0 + t)) (fun t ht => va_up_ne _ _ (by omega))]
      omega


-- ===== Num: product =====
section NMUL
variable {p : Program} {l : Launch} {e : Env} {R : Room} {s : State} {m : MethodId} {args : Array Value} {below : List Frame} {meth : Method} {c : Code} {cells slots : Nat} {Q : State → Prop} {D : va_G} {k : Nat → ClassId} {L : List Nat} {f0 : Nat → va_E} {H0 : Heap}
variable {x xl n a al na b bl nb : Nat} {mi ma mb : Bool} {da db : Nat → Nat}
set_option maxRecDepth 100000 in
set_option maxHeartbeats 4000000 in
theorem w_nmul0 (S : CallFix p m c c_N_product 7 s args G R_N) (hn : n ≤ 160)
    (kx : ∀ (r : Nat → Nat) (H : Heap) (locs : List Loc) (ls : Array Slot), (∀ t, t < 160 → r t < D16) → (∀ t, t < n → r t = 0) → lv_has ls 7 [(0, .ref x), (1, .ref a), (2, .ref b)] → kw D cls (tyl k) L s H0 f0 [(x, cN xl n mi), (xl, cE k r), (a, cN al na ma), (al, cE k da), (b, cN bl nb mb), (bl, cE k db)] H locs → W p l e R s m args below meth c H locs cells slots Q (F0 m 36 ls [])) :
    ∀ (q i : Nat) (r : Nat → Nat) (H : Heap) (locs : List Loc) (ls : Array Slot), i + q = n → (∀ t, t < 160 → r t < D16) → (∀ t, t < i → r t = 0) → lv_has ls 7 [(0, .ref x), (1, .ref a), (2, .ref b), (3, .int (nI i))] → kw D cls (tyl k) L s H0 f0 [(x, cN xl n mi), (xl, cE k r), (a, cN al na ma), (al, cE k da), (b, cN bl nb mb), (bl, cE k db)] H locs →
    W p l e R s m args below meth c H locs cells slots Q (F0 m 15 ls []) := by
  have hx := S.1
  have hb := S.2.1
  have hown : s.vm.findClass R_N = some m.cls := S.2.2.2.1
  have hG := S.2.2.2.2
  intro q
  induction q with
  | zero =>
    intro i r H locs ls hij hrr hr0 hl hw
    -- METHOD N_product | loc 0=x 1=a 2=b 3=i | ws x xl a al b bl | fld x.d=xl a.d=al b.d=bl
    refine lv_iload_n hx hb d_N_product_15 rfl (lv_at hl 3 rfl) ?_
    refine lv_aload_n hx hb d_N_product_16 rfl (lv_at hl 0 rfl) ?_
    refine k_get hx hb hG lay_N hown hw 0 rfl rfl 1 (by decide) (hG _ fl_N_13) (fun _ h9 => h9) rfl d_N_product_17 ?_
    refine lv_icmp_ge (tgt := 36) hx hb d_N_product_20 (by decide) (fun hc => ?_) (fun hc => ?_)
    · exact kx r H locs ls hrr (fun t ht => hr0 t (by omega)) (lv_sub hl [0, 1, 2] rfl) hw
    · exact absurd (nI_le (by omega) (by omega)) hc
  | succ q ih =>
    intro i r H locs ls hij hrr hr0 hl hw
    -- METHOD N_product | loc 0=x 1=a 2=b 3=i | ws x xl a al b bl | fld x.d=xl a.d=al b.d=bl
    refine lv_iload_n hx hb d_N_product_15 rfl (lv_at hl 3 rfl) ?_
    refine lv_aload_n hx hb d_N_product_16 rfl (lv_at hl 0 rfl) ?_
    refine k_get hx hb hG lay_N hown hw 0 rfl rfl 1 (by decide) (hG _ fl_N_13) (fun _ h9 => h9) rfl d_N_product_17 ?_
    refine lv_icmp_ge (tgt := 36) hx hb d_N_product_20 (by decide) (fun hc => ?_) (fun hc => ?_)
    · exact absurd hc (nI_ge (by omega) (by omega))
    refine lv_aload_n hx hb d_N_product_23 rfl (lv_at hl 0 rfl) ?_
    refine k_get hx hb hG lay_N hown hw 0 rfl rfl 0 (by decide) (hG _ fl_N_7) (fun _ h9 => h9) rfl d_N_product_24 ?_
    refine lv_iload_n hx hb d_N_product_27 rfl (lv_at hl 3 rfl) ?_
    refine lv_iconst (v := 0) hx hb d_N_product_28 (by decide) ?_
    refine k_iast hx hb hw 1 0 rfl rfl (i) (rfl) (by omega) (by first | decide | omega) d_N_product_29 (fun H locs hw => ?_)
    rw [show (0 : Int32) = nI 0 from rfl, nD_upd] at hw
    refine lv_iinc (k := 3) hx hb d_N_product_30 hl rfl (ii1 i) (by decide) rfl (fun ls hl => ?_)
    refine lv_goto (tgt := 15) hx hb d_N_product_33 (by decide) ?_
    have hl := lv_sub hl [1, 2, 3, 0] rfl
    refine ih (i + 1) _ H locs ls (by omega) (fun t ht => ?_) (fun t ht => ?_) hl hw
    · by_cases e : t = i
      · rw [e, va_up_self]; decide
      · rw [va_up_ne _ _ e]; exact hrr t ht
    · by_cases e : t = i
      · rw [e, va_up_self]
      · rw [va_up_ne _ _ e]; exact hr0 t (by omega)
set_option maxRecDepth 100000 in
set_option maxHeartbeats 4000000 in
theorem w_nmulI (S : CallFix p m c c_N_product 7 s args G R_N) {i : Nat} {r0 : Nat → Nat} (hin : i + nb < 160) (hi : i < na) (hna : na ≤ 160) (hda : ∀ t, t < 160 → da t < D16) (hdb : ∀ t, t < 160 → db t < D16)
    (kx : ∀ (cy : Nat) (r : Nat → Nat) (H : Heap) (locs : List Loc) (ls : Array Slot), cy < D16 → (∀ t, t < 160 → r t < D16) → (∀ t, t < i ∨ i + nb ≤ t → r t = r0 t) → cd D16 nb (fun t => r (i + t)) + cy * D16 ^ nb = cd D16 nb (fun t => r0 (i + t)) + da i * cd D16 nb db → lv_has ls 7 [(0, .ref x), (1, .ref a), (2, .ref b), (3, .int (nI i)), (4, .long (lN cy)), (6, .int (nI nb))] → kw D cls (tyl k) L s H0 f0 [(x, cN xl n mi), (xl, cE k r), (a, cN al na ma), (al, cE k da), (b, cN bl nb mb), (bl, cE k db)] H locs → W p l e R s m args below meth c H locs cells slots Q (F0 m 123 ls [])) :
    ∀ (q j cy : Nat) (r : Nat → Nat) (H : Heap) (locs : List Loc) (ls : Array Slot), j + q = nb → cy < D16 → (∀ t, t < 160 → r t < D16) → (∀ t, t < i ∨ i + j ≤ t → r t = r0 t) → cd D16 j (fun t => r (i + t)) + cy * D16 ^ j = cd D16 j (fun t => r0 (i + t)) + da i * cd D16 j db →
    lv_has ls 7 [(0, .ref x), (1, .ref a), (2, .ref b), (3, .int (nI i)), (4, .long (lN cy)), (6, .int (nI j))] → kw D cls (tyl k) L s H0 f0 [(x, cN xl n mi), (xl, cE k r), (a, cN al na ma), (al, cE k da), (b, cN bl nb mb), (bl, cE k db)] H locs →
    W p l e R s m args below meth c H locs cells slots Q (F0 m 52 ls []) := by
  have hx := S.1
  have hb := S.2.1
  have hown : s.vm.findClass R_N = some m.cls := S.2.2.2.1
  have hG := S.2.2.2.2
  intro q
  induction q with
  | zero =>
    intro j cy r H locs ls hij hcy hrr hr0 he hl hw
    have hij : j = nb := by omega
    subst hij
    -- METHOD N_product | loc 0=x 1=a 2=b 3=i 4=cy 6=j | ws x xl a al b bl | fld x.d=xl a.d=al b.d=bl
    refine lv_iload hx hb d_N_product_52 (lv_at hl 5 rfl) ?_
    refine lv_aload_n hx hb d_N_product_54 rfl (lv_at hl 2 rfl) ?_
    refine k_get hx hb hG lay_N hown hw 4 rfl rfl 1 (by decide) (hG _ fl_N_13) (fun _ h9 => h9) rfl d_N_product_55 ?_
    refine lv_icmp_ge (tgt := 123) hx hb d_N_product_58 (by decide) (fun hc => ?_) (fun hc => ?_)
    · exact kx cy r H locs ls hcy hrr hr0 he hl hw
    · exact absurd (nI_le (Nat.le_refl _) (by omega)) hc
  | succ q ih =>
    intro j cy r H locs ls hij hcy hrr hr0 he hl hw
    -- METHOD N_product | loc 0=x 1=a 2=b 3=i 4=cy 6=j | ws x xl a al b bl | fld x.d=xl a.d=al b.d=bl
    refine lv_iload hx hb d_N_product_52 (lv_at hl 5 rfl) ?_
    refine lv_aload_n hx hb d_N_product_54 rfl (lv_at hl 2 rfl) ?_
    refine k_get hx hb hG lay_N hown hw 4 rfl rfl 1 (by decide) (hG _ fl_N_13) (fun _ h9 => h9) rfl d_N_product_55 ?_
    refine lv_icmp_ge (tgt := 123) hx hb d_N_product_58 (by decide) (fun hc => ?_) (fun hc => ?_)
    · exact absurd hc (nI_ge (by omega) (by omega))
    · have hr1 : r (i + j) < 65536 := hrr _ (by omega)
      have hd1 : db j < 65536 := hdb _ (by omega)
      have hd2 : da i < 65536 := hda _ (by omega)
      have hcy' : cy < 65536 := hcy
      have hprod : da i * db j ≤ 65535 * 65535 := Nat.mul_le_mul (by omega) (by omega)
      refine lv_lload hx hb d_N_product_61 (lv_at hl 4 rfl) ?_
      refine lv_aload_n hx hb d_N_product_63 rfl (lv_at hl 1 rfl) ?_
      refine k_get hx hb hG lay_N hown hw 2 rfl rfl 0 (by decide) (hG _ fl_N_7) (fun _ h9 => h9) rfl d_N_product_64 ?_
      refine lv_iload_n hx hb d_N_product_67 rfl (lv_at hl 3 rfl) ?_
      refine k_iald hx hb hw 3 0 rfl rfl (i) (rfl) (by omega) (by first | decide | omega) d_N_product_68 ?_
      refine lv_i2l hx hb d_N_product_69 (show (nD da i).toInt64 = lN (da i) from nI_l (by omega)) ?_
      refine lv_aload_n hx hb d_N_product_70 rfl (lv_at hl 2 rfl) ?_
      refine k_get hx hb hG lay_N hown hw 4 rfl rfl 0 (by decide) (hG _ fl_N_7) (fun _ h9 => h9) rfl d_N_product_71 ?_
      refine lv_iload hx hb d_N_product_74 (lv_at hl 5 rfl) ?_
      refine k_iald hx hb hw 5 0 rfl rfl (j) (rfl) (by omega) (by first | decide | omega) d_N_product_76 ?_
      refine lv_i2l hx hb d_N_product_77 (show (nD db j).toInt64 = lN (db j) from nI_l (by omega)) ?_
      refine lv_lmul hx hb d_N_product_78 ?_
      refine l_topl (lN_mul _ _) ?_
      refine lv_aload_n hx hb d_N_product_79 rfl (lv_at hl 0 rfl) ?_
      refine k_get hx hb hG lay_N hown hw 0 rfl rfl 0 (by decide) (hG _ fl_N_7) (fun _ h9 => h9) rfl d_N_product_80 ?_
      refine lv_iload_n hx hb d_N_product_83 rfl (lv_at hl 3 rfl) ?_
      refine lv_iload hx hb d_N_product_84 (lv_at hl 5 rfl) ?_
      refine lv_iadd hx hb d_N_product_86 ?_
      refine k_iald hx hb hw 1 0 rfl rfl ((i + j)) (nI_add i j) (by omega) (by first | decide | omega) d_N_product_87 ?_
      refine lv_i2l hx hb d_N_product_88 (show (nD r (i + j)).toInt64 = lN (r (i + j)) from nI_l (by omega)) ?_
      refine lv_ladd hx hb d_N_product_89 ?_
      refine l_topl (lN_add _ _) ?_
      refine lv_ladd hx hb d_N_product_90 ?_
      refine l_topl (lN_add _ _) ?_
      refine l_topl (show lN (cy + (da i * db j + r (i + j))) = lN (cy + (r (i + j) + da i * db j)) by rw [Nat.add_comm (da i * db j)]) ?_
      refine lv_lstore hx hb d_N_product_91 hl (by decide) rfl (fun ls hl => ?_)
      refine lv_aload_n hx hb d_N_product_93 rfl (lv_at hl 1 rfl) ?_
      refine k_get hx hb hG lay_N hown hw 0 rfl rfl 0 (by decide) (hG _ fl_N_7) (fun _ h9 => h9) rfl d_N_product_94 ?_
      refine lv_iload_n hx hb d_N_product_97 rfl (lv_at hl 4 rfl) ?_
      refine lv_iload hx hb d_N_product_98 (lv_at hl 5 rfl) ?_
      refine lv_iadd hx hb d_N_product_100 ?_
      refine lv_lload hx hb d_N_product_101 (lv_at hl 0 rfl) ?_
      refine lv_ldc2 hx hb hown (hG _ ct_N_24) d_N_product_103 ?_
      refine lv_lrem hx hb d_N_product_106 (by decide) ?_
      refine l_topl (show lN (cy + (r (i + j) + da i * db j)) - lN (cy + (r (i + j) + da i * db j)) / 65536 * 65536 = lN ((cy + (r (i + j) + da i * db j)) % 65536) from pk_lRem (b := 65536) (by omega) (by omega) (by omega)) ?_
      refine lv_l2i hx hb d_N_product_107 (lN_i _) ?_
      refine k_iast hx hb hw 1 0 rfl rfl ((i + j)) (nI_add i j) (by omega) (by first | decide | omega) d_N_product_108 (fun H locs hw => ?_)
      rw [nD_upd] at hw
      refine lv_lload hx hb d_N_product_109 (lv_at hl 0 rfl) ?_
      refine lv_ldc2 hx hb hown (hG _ ct_N_24) d_N_product_111 ?_
      refine lv_ldiv hx hb d_N_product_114 (by decide) ?_
      refine l_topl (show lN (cy + (r (i + j) + da i * db j)) / 65536 = lN ((cy + (r (i + j) + da i * db j)) / 65536) from pk_lDiv (b := 65536) (by omega) (by omega) (by omega)) ?_
      refine lv_lstore hx hb d_N_product_115 hl (by decide) rfl (fun ls hl => ?_)
      refine lv_iinc (k := 5) hx hb d_N_product_117 hl rfl (ii1 j) (by decide) rfl (fun ls hl => ?_)
      refine lv_goto (tgt := 52) hx hb d_N_product_120 (by decide) ?_
      have hl := lv_sub hl [2, 3, 4, 5, 1, 0] rfl
      have hwlt : cy + (r (i + j) + da i * db j) < 65536 * 65536 := by omega
      refine ih (j + 1) ((cy + (r (i + j) + da i * db j)) / 65536) (va_up r (i + j) ((cy + (r (i + j) + da i * db j)) % 65536)) H locs ls (by omega) ?_ (fun t ht => ?_) (fun t ht => ?_) ?_ hl hw
      · show _ < 65536
        omega
      · by_cases e : t = i + j
        · rw [e, va_up_self]; exact Nat.mod_lt _ (by decide)
        · rw [va_up_ne _ _ e]; exact hrr t ht
      · rw [va_up_ne _ _ (by omega)]; exact hr0 t (by omega)
      · have h5 := mul_step (B := D16) (i := i) (j := j) (cy := cy) (A := da i) (r := r) (db := db) (S := cd D16 j (fun t => r0 (i + t))) he
        have h6 : cd D16 (j + 1) (fun t => r0 (i + t)) = cd D16 j (fun t => r0 (i + t)) + r (i + j) * D16 ^ j := by
          rw [hr0 (i + j) (by omega)]; rfl
        rw [h6]
        exact h5
set_option maxRecDepth 100000 in
set_option maxHeartbeats 4000000 in
theorem w_nmulO (S : CallFix p m c c_N_product 7 s args G R_N) (hin : na + nb ≤ 160) (hda : ∀ t, t < 160 → da t < D16) (hdb : ∀ t, t < 160 → db t < D16)
    (kx : ∀ (r : Nat → Nat) (H : Heap) (locs : List Loc) (ls : Array Slot), (∀ t, t < 160 → r t < D16) → cd D16 (na + nb) r = cd D16 na da * cd D16 nb db → lv_has ls 7 [(0, .ref x), (1, .ref a), (2, .ref b), (3, .int (nI na))] → kw D cls (tyl k) L s H0 f0 [(x, cN xl n mi), (xl, cE k r), (a, cN al na ma), (al, cE k da), (b, cN bl nb mb), (bl, cE k db)] H locs → W p l e R s m args below meth c H locs cells slots Q (F0 m 143 ls [])) :
    ∀ (q i : Nat) (r : Nat → Nat) (H : Heap) (locs : List Loc) (ls : Array Slot), i + q = na → (∀ t, t < 160 → r t < D16) → (∀ t, i + nb ≤ t → t < na + nb → r t = 0) → cd D16 (i + nb) r = cd D16 i da * cd D16 nb db →
    lv_has ls 7 [(0, .ref x), (1, .ref a), (2, .ref b), (3, .int (nI i))] → kw D cls (tyl k) L s H0 f0 [(x, cN xl n mi), (xl, cE k r), (a, cN al na ma), (al, cE k da), (b, cN bl nb mb), (bl, cE k db)] H locs →
    W p l e R s m args below meth c H locs cells slots Q (F0 m 38 ls []) := by
  have hx := S.1
  have hb := S.2.1
  have hown : s.vm.findClass R_N = some m.cls := S.2.2.2.1
  have hG := S.2.2.2.2
  intro q
  induction q with
  | zero =>
    intro i r H locs ls hij hrr hr0 he hl hw
    have hij : i = na := by omega
    subst hij
    -- METHOD N_product | loc 0=x 1=a 2=b 3=i | ws x xl a al b bl | fld x.d=xl a.d=al b.d=bl
    refine lv_iload_n hx hb d_N_product_38 rfl (lv_at hl 3 rfl) ?_
    refine lv_aload_n hx hb d_N_product_39 rfl (lv_at hl 1 rfl) ?_
    refine k_get hx hb hG lay_N hown hw 2 rfl rfl 1 (by decide) (hG _ fl_N_13) (fun _ h9 => h9) rfl d_N_product_40 ?_
    refine lv_icmp_ge (tgt := 143) hx hb d_N_product_43 (by decide) (fun hc => ?_) (fun hc => ?_)
    · exact kx r H locs ls hrr he hl hw
    · exact absurd (nI_le (Nat.le_refl _) (by omega)) hc
  | succ q ih =>
    intro i r H locs ls hij hrr hr0 he hl hw
    -- METHOD N_product | loc 0=x 1=a 2=b 3=i | ws x xl a al b bl | fld x.d=xl a.d=al b.d=bl
    refine lv_iload_n hx hb d_N_product_38 rfl (lv_at hl 3 rfl) ?_
    refine lv_aload_n hx hb d_N_product_39 rfl (lv_at hl 1 rfl) ?_
    refine k_get hx hb hG lay_N hown hw 2 rfl rfl 1 (by decide) (hG _ fl_N_13) (fun _ h9 => h9) rfl d_N_product_40 ?_
    refine lv_icmp_ge (tgt := 143) hx hb d_N_product_43 (by decide) (fun hc => ?_) (fun hc => ?_)
    · exact absurd hc (nI_ge (by omega) (by omega))
    · -- STK
      refine lv_lconst (v := 0) hx hb d_N_product_46 (by decide) ?_
      refine lv_lstore hx hb d_N_product_47 hl (by decide) rfl (fun ls hl => ?_)
      refine lv_iconst (v := 0) hx hb d_N_product_49 (by decide) ?_
      refine lv_istore hx hb d_N_product_50 hl (by decide) rfl (fun ls hl => ?_)
      have hl := lv_sub hl [2, 3, 4, 5, 1, 0] rfl
      refine w_nmulI (r0 := r) S (i := i) (by omega) (by omega) (by omega) hda hdb (fun cy r1 H locs ls hcy hrr1 hr1 he1 hl hw => ?_) nb 0 0 r H locs ls (by omega) (by decide) hrr (fun _ _ => rfl) rfl hl hw
      refine lv_aload_n hx hb d_N_product_123 rfl (lv_at hl 0 rfl) ?_
      refine k_get hx hb hG lay_N hown hw 0 rfl rfl 0 (by decide) (hG _ fl_N_7) (fun _ h9 => h9) rfl d_N_product_124 ?_
      refine lv_iload_n hx hb d_N_product_127 rfl (lv_at hl 3 rfl) ?_
      refine lv_aload_n hx hb d_N_product_128 rfl (lv_at hl 2 rfl) ?_
      refine k_get hx hb hG lay_N hown hw 4 rfl rfl 1 (by decide) (hG _ fl_N_13) (fun _ h9 => h9) rfl d_N_product_129 ?_
      refine lv_iadd hx hb d_N_product_132 ?_
      refine lv_lload hx hb d_N_product_133 (lv_at hl 4 rfl) ?_
      refine lv_l2i hx hb d_N_product_135 (lN_i _) ?_
      refine k_iast hx hb hw 1 0 rfl rfl ((i + nb)) (nI_add i nb) (by omega) (by first | decide | omega) d_N_product_136 (fun H locs hw => ?_)
      rw [nD_upd] at hw
      refine lv_iinc (k := 3) hx hb d_N_product_137 hl rfl (ii1 i) (by decide) rfl (fun ls hl => ?_)
      refine lv_goto (tgt := 38) hx hb d_N_product_140 (by decide) ?_
      have hl := lv_sub hl [1, 2, 3, 0] rfl
      refine ih (i + 1) (va_up r1 (i + nb) cy) H locs ls (by omega) (fun t ht => ?_) (fun t h1 h2 => ?_) ?_ hl hw
      · by_cases e : t = i + nb
        · rw [e, va_up_self]; exact hcy
        · rw [va_up_ne _ _ e]; exact hrr1 t ht
      · rw [va_up_ne _ _ (by omega), hr1 t (by omega)]; exact hr0 t (by omega) h2
      · rw [show i + 1 + nb = i + (nb + 1) by omega, cd_split i (nb + 1)]
        have e1 : cd D16 i (va_up r1 (i + nb) cy) = cd D16 i r := cd_congr i (fun t ht => by rw [va_up_ne _ _ (by omega)]; exact hr1 t (by omega))
        have e2 : cd D16 (nb + 1) (fun t => va_up r1 (i + nb) cy (i + t)) = cd D16 nb (fun t => r1 (i + t)) + cy * D16 ^ nb := by
          show cd D16 nb _ + va_up r1 (i + nb) cy (i + nb) * D16 ^ nb = _
          rw [va_up_self, cd_congr nb (d := fun t => va_up r1 (i + nb) cy (i + t)) (e := fun t => r1 (i + t)) (fun t ht => va_up_ne _ _ (by omega))]
        rw [e1, e2, he1, Nat.mul_add, ← Nat.add_assoc, ← cd_split i nb r, he]
        show _ = (cd D16 i da + da i * D16 ^ i) * cd D16 nb db
        rw [Nat.add_mul]
        congr 1
        rw [Nat.mul_left_comm, Nat.mul_assoc]
end NMUL
theorem nr_mul {na nb : Nat} {ma mb : Bool} {da db : Nat → Nat} {v w : Int} (hv : nr na ma da v) (hw : nr nb mb db w) : v * w = if (ma != mb) then -((cd D16 na da * cd D16 nb db : Nat) : Int) else ((cd D16 na da * cd D16 nb db : Nat) : Int) := by
  rw [hv.2.2.2.2, hw.2.2.2.2, Int.natCast_mul]
  cases ma <;> cases mb
  · rfl
  · show (cd D16 na da : Int) * -(cd D16 nb db : Int) = -((cd D16 na da : Int) * (cd D16 nb db : Int))
    rw [Int.mul_neg]
  · show -(cd D16 na da : Int) * (cd D16 nb db : Int) = -((cd D16 na da : Int) * (cd D16 nb db : Int))
    rw [Int.neg_mul]
  · show -(cd D16 na da : Int) * -(cd D16 nb db : Int) = (cd D16 na da : Int) * (cd D16 nb db : Int)
    rw [Int.neg_mul, Int.mul_neg, Int.neg_neg]
set_option maxRecDepth 100000 in
set_option maxHeartbeats 4000000 in
theorem m_N_product (l : Launch) (D : va_G) (k : Nat → ClassId) (L : List Nat) (f : Nat → va_E) (x xl n a al na b bl nb : Nat) (mi ma mb : Bool) (r da db : Nat → Nat) (v w : Int) (hv : nr na ma da v) (hw2 : nr nb mb db w) (hnn : na + nb ≤ 160) (hd : ∀ i, i < 160 → r i < D16) (hk : kn L f f [(x, cN xl n mi), (xl, cE k r), (a, cN al na ma), (al, cE k da), (b, cN bl nb mb), (bl, cE k db)]) : Mv l y_N_product (Cond.code y_N_product c_N_product 7 none :: G) (rmN 1) D cls (tyl k) L f [.ref x, .ref a, .ref b] (fun f' => ∃ n' mi' d', nr n' mi' d' (v * w) ∧ kn L f f' [(x, cN xl n' mi'), (xl, cE k d')]) := by
  -- METHOD N_product | loc 0=x 1=a 2=b | ws x xl a al b bl | fld x.d=xl a.d=al b.d=bl
  refine mk_met (by decide) (Nat.le_of_ble_eq_true rfl) (fun p e s m below meth c ls S hr hlocks hw hl => ?_)
  have hx := S.1
  have hb := S.2.1
  have hown : s.vm.findClass R_N = some m.cls := S.2.2.2.1
  have hG := S.2.2.2.2
  have hl : lv_has ls 7 [(0, .ref x), (1, .ref a), (2, .ref b)] := hl
  have hg := hw
  have hw : kw D cls (tyl k) L s s.heap f [(x, cN xl n mi), (xl, cE k r), (a, cN al na ma), (al, cE k da), (b, cN bl nb mb), (bl, cE k db)] s.heap [] := ⟨f, hw, hk⟩
  have fin : ∀ (m1 : Bool) (r1 : Nat → Nat) (H : Heap) (locs : List Loc) (ls : Array Slot), (ma != mb) = m1 → (∀ t, t < 160 → r1 t < D16) → cd D16 (na + nb) r1 = cd D16 na da * cd D16 nb db → lv_has ls 7 [(0, .ref x)] → kw D cls (tyl k) L s s.heap f [(x, cN xl (na + nb) m1), (xl, cE k r1), (a, cN al na ma), (al, cE k da), (b, cN bl nb mb), (bl, cE k db)] H locs → W p l e (rmN 1) s m ([.ref x, .ref a, .ref b] : List Value).toArray below meth c H locs 0 0 (MQ below (va_Qv (fun f' => ∃ n' mi' d', nr n' mi' d' (v * w) ∧ kn L f f' [(x, cN xl n' mi'), (xl, cE k d')]) (mst D cls (tyl k) L) (fun q => q ∈ L)) ([.ref x, .ref a, .ref b] : List Value).toArray s 0 0 (fun q => q ∈ L)) (F0 m 163 ls []) := by
    intro m1 r1 H locs ls hm1 hr1 hc1 hl hw
    obtain ⟨f1, hg, hk1⟩ := hw
    have hk2 := kn_two hk hk1
    have hkk := kn_now hk2
    have hval : v * w = if m1 then -(cd D16 (na + nb) r1 : Int) else (cd D16 (na + nb) r1 : Int) := by rw [hc1, ← hm1]; exact nr_mul hv hw2
    have hw := hg
    -- METHOD N_product | loc 0=x | ws x xl
    refine lv_aload_n hx hb d_N_product_163 rfl (lv_at hl 0 rfl) ?_
    refine g_ov (c_V (np := 0) S (m_N_trim l D k L f1 x xl (na + nb) m1 r1 (v * w) hnn hr1 hval hkk) hw ((hkk.1 0 _ rfl).1) ((hkk.1 0 _ rfl).2) rfl ml_N_27 im_N_trim se_N_N_trim in_N co_N_trim (by decide +kernel) rfl ⟨rfl, rfl, by decide, by decide⟩ hl.1 rfl (by simp [Value.category]) d_N_product_164 ⟨Nat.zero_le _, Nat.zero_le _⟩) hw (fun f2 H locs hp hg => ?_)
    obtain ⟨n', mi', -, h1, h2⟩ := hp
    exact g_retv hx hb hr hlocks hg ⟨n', mi', r1, h1, kn_tr hk2 h2 rfl⟩ d_N_product_167
  -- METHOD N_product | loc 0=x 1=a 2=b | ws x xl a al b bl | fld x.d=xl a.d=al b.d=bl
  refine lv_aload_n hx hb d_N_product_0 rfl (lv_at hl 0 rfl) ?_
  refine lv_aload_n hx hb d_N_product_1 rfl (lv_at hl 1 rfl) ?_
  refine k_get hx hb hG lay_N hown hw 2 rfl rfl 1 (by decide) (hG _ fl_N_13) (fun _ h9 => h9) rfl d_N_product_2 ?_
  refine lv_aload_n hx hb d_N_product_5 rfl (lv_at hl 2 rfl) ?_
  refine k_get hx hb hG lay_N hown hw 4 rfl rfl 1 (by decide) (hG _ fl_N_13) (fun _ h9 => h9) rfl d_N_product_6 ?_
  refine lv_iadd hx hb d_N_product_9 ?_
  refine l_top (nI_add na nb) ?_
  refine k_put (ty := .int) hx hb hG lay_N ft_N ft_N_ok fn_N hown hw 0 rfl rfl 1 (by decide) (hG _ fl_N_13) (fun _ h9 => h9) rfl (by decide +kernel) rfl rfl (by simp) d_N_product_10 (fun H locs hw => ?_)
  refine lv_iconst (v := 0) hx hb d_N_product_13 (by decide) ?_
  refine lv_istore_n hx hb d_N_product_14 rfl hl (by decide) rfl (fun ls hl => ?_)
  have hl := lv_sub hl [1, 2, 3, 0] rfl
  refine w_nmul0 S hnn (fun r1 H locs ls hr1 hz hl hw => ?_) (na + nb) 0 r _ _ ls (by omega) hd (fun t ht => by omega) hl hw
  refine lv_iconst (v := 0) hx hb d_N_product_36 (by decide) ?_
  refine lv_istore_n hx hb d_N_product_37 rfl hl (by decide) rfl (fun ls hl => ?_)
  have hl := lv_sub hl [1, 2, 3, 0] rfl
  refine w_nmulO S hnn hv.2.1 hw2.2.1 (fun r2 H locs ls hr2 he hl hw => ?_) na 0 r1 H locs ls (by omega) hr1 (fun t _ h2 => hz t h2) (by show cd D16 (0 + nb) r1 = 0 * _; rw [Nat.zero_mul]; exact cd_0 _ (fun i hi => hz i (by omega))) hl hw
  refine lv_aload_n hx hb d_N_product_143 rfl (lv_at hl 0 rfl) ?_
  refine lv_aload_n hx hb d_N_product_144 rfl (lv_at hl 1 rfl) ?_
  refine k_get hx hb hG lay_N hown hw 2 rfl rfl 2 (by decide) (hG _ fl_N_17) (fun _ h9 => h9) rfl d_N_product_145 ?_
  refine lv_aload_n hx hb d_N_product_148 rfl (lv_at hl 2 rfl) ?_
  refine k_get hx hb hG lay_N hown hw 4 rfl rfl 2 (by decide) (hG _ fl_N_17) (fun _ h9 => h9) rfl d_N_product_149 ?_
  refine lv_icmp_eq (tgt := 159) hx hb d_N_product_152 (by decide) (fun hc => ?_) (fun hc => ?_)
  · have hm : ma = mb := bI_inj.mp hc
    refine lv_iconst (v := 0) hx hb d_N_product_159 (by decide) ?_
    refine k_put (ty := .boolean) hx hb hG lay_N ft_N ft_N_ok fn_N hown hw 0 rfl rfl 2 (by decide) (hG _ fl_N_17) (fun _ h9 => h9) rfl (by decide +kernel) rfl rfl (by simp) d_N_product_160 (fun H locs hw => ?_)
    exact fin false r2 H locs ls (by rw [hm]; cases mb <;> rfl) hr2 he (lv_sub hl [0] rfl) hw
  · have hm : ma ≠ mb := fun q => hc (by rw [q])
    refine lv_iconst (v := 1) hx hb d_N_product_155 (by decide) ?_
    refine lv_goto (tgt := 160) hx hb d_N_product_156 (by decide) ?_
    refine k_put (ty := .boolean) hx hb hG lay_N ft_N ft_N_ok fn_N hown hw 0 rfl rfl 2 (by decide) (hG _ fl_N_17) (fun _ h9 => h9) rfl (by decide +kernel) rfl rfl (by simp) d_N_product_160 (fun H locs hw => ?_)
    exact fin true r2 H locs ls (by cases ma <;> cases mb <;> first | rfl | exact absurd rfl hm) hr2 he (lv_sub hl [0] rfl) hw


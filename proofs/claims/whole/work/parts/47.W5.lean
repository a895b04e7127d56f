-- ===== Whole: setProduct =====
theorem lN_and30 (n : Nat) : lN n &&& 1073741823 = lN (n % 1073741824) := by
  rw [← zL_n, zL_and30, ← zL_n]
  congr 1
theorem lN_shr30 {n : Nat} (h : n < 9223372036854775808) : lN n >>> ((30 : Int32).toInt64 &&& 63) = lN (n / 1073741824) := by
  rw [← zL_n, zL_shr30 ⟨by omega, by omega⟩, ← zL_n]
  congr 1
theorem mul_step {B i j cy A S : Nat} {r db : Nat → Nat} (h : cd B j (fun t => r (i + t)) + cy * B ^ j = S + A * cd B j db) : cd B (j + 1) (fun t => va_up r (i + j) ((cy + (r (i + j) + A * db j)) % B) (i + t)) + (cy + (r (i + j) + A * db j)) / B * B ^ (j + 1) = (S + r (i + j) * B ^ j) + A * cd B (j + 1) db := by
  have h0 : cd B (j + 1) (fun t => va_up r (i + j) ((cy + (r (i + j) + A * db j)) % B) (i + t)) = cd B j (fun t => r (i + t)) + (cy + (r (i + j) + A * db j)) % B * B ^ j := by
    show cd B j _ + va_up r (i + j) ((cy + (r (i + j) + A * db j)) % B) (i + j) * B ^ j = _
    rw [va_up_self, cd_congr j (d := fun t => va_up r (i + j) ((cy + (r (i + j) + A * db j)) % B) (i + t)) (e := fun t => r (i + t)) (fun t ht => va_up_ne _ _ (by omega))]
  have h9 : A * cd B (j + 1) db = A * cd B j db + A * db j * B ^ j := by
    show A * (cd B j db + db j * B ^ j) = _
    rw [Nat.mul_add, Nat.mul_assoc]
  rw [h0, h9, Nat.pow_succ]
  have h1 := Nat.mod_add_div (cy + (r (i + j) + A * db j)) B
  generalize (cy + (r (i + j) + A * db j)) % B = u at h1 ⊢
  generalize (cy + (r (i + j) + A * db j)) / B = w at h1 ⊢
  generalize B ^ j = P at h ⊢
  have h2 : (u + B * w) * P = (cy + (r (i + j) + A * db j)) * P := by rw [h1]
  rw [Nat.add_mul, Nat.add_mul, Nat.add_mul] at h2
  have h3 : w * (P * B) = B * w * P := by rw [Nat.mul_comm B w, Nat.mul_assoc, Nat.mul_comm P B]
  omega
section MUL
variable {p : Program} {l : Launch} {e : Env} {s : State} {m : MethodId} {args : Array Value} {below : List Frame} {meth : Method} {c : Code} {Q : State → Prop} {D : va_G} {k : Nat → ClassId} {L : List Nat} {f0 : Nat → va_E} {H0 : Heap}
set_option maxRecDepth 100000 in
set_option maxHeartbeats 4000000 in
theorem w_mulI (S : CallFix p m c c_W_setProduct 9 s args G R_W) {x xl n a al na b bl nb i : Nat} {g ga gb : Int32} {da db r0 : Nat → Nat} (hin : i + nb < 12) (hi : i < na) (hna : na ≤ 12) (hda : ∀ t, t < 12 → da t < B30) (hdb : ∀ t, t < 12 → db t < B30) :
    ∀ (q j cy : Nat) (r : Nat → Nat) (H : Heap) (locs : List Loc) (ls : Array Slot), j + q = nb → cy < B30 → (∀ t, t < 12 → r t < B30) → (∀ t, t < i ∨ i + j ≤ t → r t = r0 t) → cd B30 j (fun t => r (i + t)) + cy * B30 ^ j = cd B30 j (fun t => r0 (i + t)) + da i * cd B30 j db →
    lv_has ls 9 [(0, .ref x), (1, .ref a), (2, .ref b), (3, .int (nI i)), (4, .long (lN (da i))), (6, .long (lN cy)), (8, .int (nI j))] → kw D cls (tyl k) L s H0 f0 [(x, cW xl n g), (xl, cD k r), (a, cW al na ga), (al, cD k da), (b, cW bl nb gb), (bl, cD k db)] H locs →
    (∀ (cy : Nat) (r : Nat → Nat) (H : Heap) (locs : List Loc) (ls : Array Slot), cy < B30 → (∀ t, t < 12 → r t < B30) → (∀ t, t < i ∨ i + nb ≤ t → r t = r0 t) → cd B30 nb (fun t => r (i + t)) + cy * B30 ^ nb = cd B30 nb (fun t => r0 (i + t)) + da i * cd B30 nb db → lv_has ls 9 [(0, .ref x), (1, .ref a), (2, .ref b), (3, .int (nI i)), (4, .long (lN (da i))), (6, .long (lN cy)), (8, .int (nI nb))] → kw D cls (tyl k) L s H0 f0 [(x, cW xl n g), (xl, cD k r), (a, cW al na ga), (al, cD k da), (b, cW bl nb gb), (bl, cD k db)] H locs → W p l e (rmN 2) s m args below meth c H locs 0 0 Q (F0 m 162 ls [])) →
    W p l e (rmN 2) s m args below meth c H locs 0 0 Q (F0 m 97 ls []) := by
  have hx := S.1
  have hb := S.2.1
  have hown : s.vm.findClass R_W = some m.cls := S.2.2.2.1
  have hG := S.2.2.2.2
  intro q
  induction q with
  | zero =>
    intro j cy r H locs ls hij hcy hrr hr0 he hl hw kx
    have hij : j = nb := by omega
    subst hij
    -- METHOD W_setProduct | loc 0=x 1=a 2=b 3=i 4=A 6=cy 8=j | ws x xl a al b bl | fld x.limbs=xl a.limbs=al b.limbs=bl
    refine lv_iload hx hb d_W_setProduct_97 (lv_at hl 6 rfl) ?_
    refine lv_aload_n hx hb d_W_setProduct_99 rfl (lv_at hl 2 rfl) ?_
    refine k_get hx hb hG lay_W hown hw 4 rfl rfl 1 (by decide) (hG _ fl_W_15) (fun _ h9 => h9) rfl d_W_setProduct_100 ?_
    refine lv_icmp_ge (tgt := 162) hx hb d_W_setProduct_103 (by decide) (fun hc => ?_) (fun hc => ?_)
    · exact kx cy r H locs ls hcy hrr hr0 he hl hw
    · exact absurd (nI_le (Nat.le_refl _) (by omega)) hc
  | succ q ih =>
    intro j cy r H locs ls hij hcy hrr hr0 he hl hw kx
    -- METHOD W_setProduct | loc 0=x 1=a 2=b 3=i 4=A 6=cy 8=j | ws x xl a al b bl | fld x.limbs=xl a.limbs=al b.limbs=bl
    refine lv_iload hx hb d_W_setProduct_97 (lv_at hl 6 rfl) ?_
    refine lv_aload_n hx hb d_W_setProduct_99 rfl (lv_at hl 2 rfl) ?_
    refine k_get hx hb hG lay_W hown hw 4 rfl rfl 1 (by decide) (hG _ fl_W_15) (fun _ h9 => h9) rfl d_W_setProduct_100 ?_
    refine lv_icmp_ge (tgt := 162) hx hb d_W_setProduct_103 (by decide) (fun hc => ?_) (fun hc => ?_)
    · exact absurd hc (nI_ge (by omega) (by omega))
    · have hr1 : r (i + j) < B30 := hrr _ (by omega)
      have hd1 : db j < B30 := hdb _ (by omega)
      have hd2 : da i < B30 := hda _ (by omega)
      have hB30 : B30 = 1073741824 := rfl
      have hprod : da i * db j ≤ 1073741823 * 1073741823 := Nat.mul_le_mul (by omega) (by omega)
      refine lv_lload hx hb d_W_setProduct_106 (lv_at hl 5 rfl) ?_
      refine lv_aload_n hx hb d_W_setProduct_108 rfl (lv_at hl 0 rfl) ?_
      refine k_get hx hb hG lay_W hown hw 0 rfl rfl 0 (by decide) (hG _ fl_W_11) (fun _ h9 => h9) rfl d_W_setProduct_109 ?_
      refine lv_iload_n hx hb d_W_setProduct_112 rfl (lv_at hl 3 rfl) ?_
      refine lv_iload hx hb d_W_setProduct_113 (lv_at hl 6 rfl) ?_
      refine lv_iadd hx hb d_W_setProduct_115 ?_
      refine k_iald hx hb hw 1 0 rfl rfl ((i + j)) (nI_add i j) (by omega) (by first | decide | omega) d_W_setProduct_116 ?_
      refine lv_i2l hx hb d_W_setProduct_117 (show (nD r (i + j)).toInt64 = lN (r (i + j)) from nI_l (by omega)) ?_
      refine lv_lload hx hb d_W_setProduct_118 (lv_at hl 4 rfl) ?_
      refine lv_aload_n hx hb d_W_setProduct_120 rfl (lv_at hl 2 rfl) ?_
      refine k_get hx hb hG lay_W hown hw 4 rfl rfl 0 (by decide) (hG _ fl_W_11) (fun _ h9 => h9) rfl d_W_setProduct_121 ?_
      refine lv_iload hx hb d_W_setProduct_124 (lv_at hl 6 rfl) ?_
      refine k_iald hx hb hw 5 0 rfl rfl (j) (rfl) (by omega) (by first | decide | omega) d_W_setProduct_126 ?_
      refine lv_i2l hx hb d_W_setProduct_127 (show (nD db j).toInt64 = lN (db j) from nI_l (by omega)) ?_
      refine lv_lmul hx hb d_W_setProduct_128 ?_
      refine l_topl (lN_mul _ _) ?_
      refine lv_ladd hx hb d_W_setProduct_129 ?_
      refine l_topl (lN_add _ _) ?_
      refine lv_ladd hx hb d_W_setProduct_130 ?_
      refine l_topl (lN_add _ _) ?_
      refine lv_lstore hx hb d_W_setProduct_131 hl (by decide) rfl (fun ls hl => ?_)
      refine lv_aload_n hx hb d_W_setProduct_133 rfl (lv_at hl 1 rfl) ?_
      refine k_get hx hb hG lay_W hown hw 0 rfl rfl 0 (by decide) (hG _ fl_W_11) (fun _ h9 => h9) rfl d_W_setProduct_134 ?_
      refine lv_iload_n hx hb d_W_setProduct_137 rfl (lv_at hl 4 rfl) ?_
      refine lv_iload hx hb d_W_setProduct_138 (lv_at hl 6 rfl) ?_
      refine lv_iadd hx hb d_W_setProduct_140 ?_
      refine lv_lload hx hb d_W_setProduct_141 (lv_at hl 0 rfl) ?_
      refine lv_ldc2 hx hb hown (hG _ ct_W_43) d_W_setProduct_143 ?_
      refine lv_land hx hb d_W_setProduct_146 ?_
      refine l_topl (lN_and30 _) ?_
      refine lv_l2i hx hb d_W_setProduct_147 (lN_i _) ?_
      refine k_iast hx hb hw 1 0 rfl rfl ((i + j)) (nI_add i j) (by omega) (by first | decide | omega) d_W_setProduct_148 (fun H locs hw => ?_)
      rw [nD_upd] at hw
      refine lv_lload hx hb d_W_setProduct_149 (lv_at hl 0 rfl) ?_
      refine lv_bipush (v := 30) hx hb d_W_setProduct_151 (by decide) ?_
      refine lv_lshr hx hb d_W_setProduct_153 (lN_shr30 (by omega)) ?_
      refine lv_lstore hx hb d_W_setProduct_154 hl (by decide) rfl (fun ls hl => ?_)
      refine lv_iinc (k := 6) hx hb d_W_setProduct_156 hl rfl (ii1 j) (by decide) rfl (fun ls hl => ?_)
      refine lv_goto (tgt := 97) hx hb d_W_setProduct_159 (by decide) ?_
      have hl := lv_sub hl [2, 3, 4, 5, 6, 1, 0] rfl
      have hwlt : cy + (r (i + j) + da i * db j) < B30 * B30 := by rw [hB30] at hcy hr1 ⊢; omega
      refine ih (j + 1) ((cy + (r (i + j) + da i * db j)) / 1073741824) (va_up r (i + j) ((cy + (r (i + j) + da i * db j)) % 1073741824)) H locs ls (by omega) ?_ (fun t ht => ?_) (fun t ht => ?_) ?_ hl hw kx
      · rw [Nat.div_lt_iff_lt_mul (by decide)]; exact hwlt
      · by_cases e : t = i + j
        · rw [e, va_up_self]; exact Nat.mod_lt _ (by decide)
        · rw [va_up_ne _ _ e]; exact hrr t ht
      · rw [va_up_ne _ _ (by omega)]; exact hr0 t (by omega)
      · have h5 := mul_step (B := B30) (i := i) (j := j) (cy := cy) (A := da i) (r := r) (db := db) (S := cd B30 j (fun t => r0 (i + t))) he
        have h6 : cd B30 (j + 1) (fun t => r0 (i + t)) = cd B30 j (fun t => r0 (i + t)) + r (i + j) * B30 ^ j := by
          rw [hr0 (i + j) (by omega)]; rfl
        rw [h6]
        exact h5
set_option maxRecDepth 100000 in
set_option maxHeartbeats 4000000 in
theorem w_mulO (S : CallFix p m c c_W_setProduct 9 s args G R_W) {x xl n a al na b bl nb : Nat} {g ga gb : Int32} {da db : Nat → Nat} (hin : na + nb ≤ 12) (hda : ∀ t, t < 12 → da t < B30) (hdb : ∀ t, t < 12 → db t < B30) :
    ∀ (q i : Nat) (r : Nat → Nat) (H : Heap) (locs : List Loc) (ls : Array Slot), i + q = na → (∀ t, t < 12 → r t < B30) → (∀ t, i + nb ≤ t → t < na + nb → r t = 0) → cd B30 (i + nb) r = cd B30 i da * cd B30 nb db →
    lv_has ls 9 [(0, .ref x), (1, .ref a), (2, .ref b), (3, .int (nI i))] → kw D cls (tyl k) L s H0 f0 [(x, cW xl n g), (xl, cD k r), (a, cW al na ga), (al, cD k da), (b, cW bl nb gb), (bl, cD k db)] H locs →
    (∀ (r : Nat → Nat) (H : Heap) (locs : List Loc) (ls : Array Slot), (∀ t, t < 12 → r t < B30) → cd B30 (na + nb) r = cd B30 na da * cd B30 nb db → lv_has ls 9 [(0, .ref x), (1, .ref a), (2, .ref b), (3, .int (nI na))] → kw D cls (tyl k) L s H0 f0 [(x, cW xl n g), (xl, cD k r), (a, cW al na ga), (al, cD k da), (b, cW bl nb gb), (bl, cD k db)] H locs → W p l e (rmN 2) s m args below meth c H locs 0 0 Q (F0 m 182 ls [])) →
    W p l e (rmN 2) s m args below meth c H locs 0 0 Q (F0 m 74 ls []) := by
  have hx := S.1
  have hb := S.2.1
  have hown : s.vm.findClass R_W = some m.cls := S.2.2.2.1
  have hG := S.2.2.2.2
  intro q
  induction q with
  | zero =>
    intro i r H locs ls hij hrr hr0 he hl hw kx
    have hij : i = na := by omega
    subst hij
    -- METHOD W_setProduct | loc 0=x 1=a 2=b 3=i | ws x xl a al b bl | fld x.limbs=xl a.limbs=al b.limbs=bl
    refine lv_iload_n hx hb d_W_setProduct_74 rfl (lv_at hl 3 rfl) ?_
    refine lv_aload_n hx hb d_W_setProduct_75 rfl (lv_at hl 1 rfl) ?_
    refine k_get hx hb hG lay_W hown hw 2 rfl rfl 1 (by decide) (hG _ fl_W_15) (fun _ h9 => h9) rfl d_W_setProduct_76 ?_
    refine lv_icmp_ge (tgt := 182) hx hb d_W_setProduct_79 (by decide) (fun hc => ?_) (fun hc => ?_)
    · exact kx r H locs ls hrr he hl hw
    · exact absurd (nI_le (Nat.le_refl _) (by omega)) hc
  | succ q ih =>
    intro i r H locs ls hij hrr hr0 he hl hw kx
    -- METHOD W_setProduct | loc 0=x 1=a 2=b 3=i | ws x xl a al b bl | fld x.limbs=xl a.limbs=al b.limbs=bl
    refine lv_iload_n hx hb d_W_setProduct_74 rfl (lv_at hl 3 rfl) ?_
    refine lv_aload_n hx hb d_W_setProduct_75 rfl (lv_at hl 1 rfl) ?_
    refine k_get hx hb hG lay_W hown hw 2 rfl rfl 1 (by decide) (hG _ fl_W_15) (fun _ h9 => h9) rfl d_W_setProduct_76 ?_
    refine lv_icmp_ge (tgt := 182) hx hb d_W_setProduct_79 (by decide) (fun hc => ?_) (fun hc => ?_)
    · exact absurd hc (nI_ge (by omega) (by omega))
    · have hd2 : da i < B30 := hda _ (by omega)
      have hB30 : B30 = 1073741824 := rfl
      refine lv_aload_n hx hb d_W_setProduct_82 rfl (lv_at hl 1 rfl) ?_
      refine k_get hx hb hG lay_W hown hw 2 rfl rfl 0 (by decide) (hG _ fl_W_11) (fun _ h9 => h9) rfl d_W_setProduct_83 ?_
      refine lv_iload_n hx hb d_W_setProduct_86 rfl (lv_at hl 3 rfl) ?_
      refine k_iald hx hb hw 3 0 rfl rfl (i) (rfl) (by omega) (by first | decide | omega) d_W_setProduct_87 ?_
      refine lv_i2l hx hb d_W_setProduct_88 (show (nD da i).toInt64 = lN (da i) from nI_l (by omega)) ?_
      refine lv_lstore hx hb d_W_setProduct_89 hl (by decide) rfl (fun ls hl => ?_)
      refine lv_lconst (v := 0) hx hb d_W_setProduct_91 (by decide) ?_
      refine lv_lstore hx hb d_W_setProduct_92 hl (by decide) rfl (fun ls hl => ?_)
      refine lv_iconst (v := 0) hx hb d_W_setProduct_94 (by decide) ?_
      refine lv_istore hx hb d_W_setProduct_95 hl (by decide) rfl (fun ls hl => ?_)
      have hl := lv_sub hl [3, 4, 5, 6, 2, 1, 0] rfl
      refine w_mulI (r0 := r) S (i := i) (by omega) (by omega) (by omega) hda hdb nb 0 0 r H locs ls (by omega) (by decide) hrr (fun _ _ => rfl) rfl hl hw (fun cy r1 H locs ls hcy hrr1 hr1 he1 hl hw => ?_)
      refine lv_aload_n hx hb d_W_setProduct_162 rfl (lv_at hl 0 rfl) ?_
      refine k_get hx hb hG lay_W hown hw 0 rfl rfl 0 (by decide) (hG _ fl_W_11) (fun _ h9 => h9) rfl d_W_setProduct_163 ?_
      refine lv_iload_n hx hb d_W_setProduct_166 rfl (lv_at hl 3 rfl) ?_
      refine lv_aload_n hx hb d_W_setProduct_167 rfl (lv_at hl 2 rfl) ?_
      refine k_get hx hb hG lay_W hown hw 4 rfl rfl 1 (by decide) (hG _ fl_W_15) (fun _ h9 => h9) rfl d_W_setProduct_168 ?_
      refine lv_iadd hx hb d_W_setProduct_171 ?_
      refine lv_lload hx hb d_W_setProduct_172 (lv_at hl 5 rfl) ?_
      refine lv_l2i hx hb d_W_setProduct_174 (lN_i _) ?_
      refine k_iast hx hb hw 1 0 rfl rfl ((i + nb)) (nI_add i nb) (by omega) (by first | decide | omega) d_W_setProduct_175 (fun H locs hw => ?_)
      rw [nD_upd] at hw
      refine lv_iinc (k := 3) hx hb d_W_setProduct_176 hl rfl (ii1 i) (by decide) rfl (fun ls hl => ?_)
      refine lv_goto (tgt := 74) hx hb d_W_setProduct_179 (by decide) ?_
      have hl := lv_sub hl [1, 2, 3, 0] rfl
      refine ih (i + 1) (va_up r1 (i + nb) cy) H locs ls (by omega) (fun t ht => ?_) (fun t h1 h2 => ?_) ?_ hl hw kx
      · by_cases e : t = i + nb
        · rw [e, va_up_self]; exact hcy
        · rw [va_up_ne _ _ e]; exact hrr1 t ht
      · rw [va_up_ne _ _ (by omega), hr1 t (by omega)]; exact hr0 t (by omega) h2
      · rw [show i + 1 + nb = i + (nb + 1) by omega, cd_split i (nb + 1)]
        have e1 : cd B30 i (va_up r1 (i + nb) cy) = cd B30 i r := cd_congr i (fun t ht => by rw [va_up_ne _ _ (by omega)]; exact hr1 t (by omega))
        have e2 : cd B30 (nb + 1) (fun t => va_up r1 (i + nb) cy (i + t)) = cd B30 nb (fun t => r1 (i + t)) + cy * B30 ^ nb := by
          show cd B30 nb _ + va_up r1 (i + nb) cy (i + nb) * B30 ^ nb = _
          rw [va_up_self, cd_congr nb (d := fun t => va_up r1 (i + nb) cy (i + t)) (e := fun t => r1 (i + t)) (fun t ht => va_up_ne _ _ (by omega))]
        rw [e1, e2, he1, Nat.mul_add, ← Nat.add_assoc, ← cd_split i nb r, he]
        show _ = (cd B30 i da + da i * B30 ^ i) * cd B30 nb db
        rw [Nat.add_mul]
        congr 1
        rw [Nat.mul_left_comm, Nat.mul_assoc]
end MUL
set_option maxRecDepth 100000 in
set_option maxHeartbeats 4000000 in
/-- setProduct(a, b): the product of two other numbers -/
theorem m_W_setProduct (l : Launch) (D : va_G) (k : Nat → ClassId) (L : List Nat) (f : Nat → va_E) (x xl n a al na b bl nb : Nat) (g ga gb : Int32) (d da db : Nat → Nat) (v w : Int) (hv : wr na ga da v) (hw2 : wr nb gb db w) (hd : ∀ i, i < 12 → d i < B30) (hnn : na + nb ≤ 12) (hk : kn L f f [(x, cW xl n g), (xl, cD k d), (a, cW al na ga), (al, cD k da), (b, cW bl nb gb), (bl, cD k db)]) : Mv l y_W_setProduct (Cond.code y_W_setProduct c_W_setProduct 9 none :: G) (rmN 2) D cls (tyl k) L f [.ref x, .ref a, .ref b] (fun f' => ∃ (n' : Nat) (g' : Int32) (r : Nat → Nat), wr n' g' r (v * w) ∧ kn L f f' [(x, cW xl n' g'), (xl, cD k r), (a, cW al na ga), (al, cD k da), (b, cW bl nb gb), (bl, cD k db)]) := by
  -- METHOD W_setProduct | loc 0=x 1=a 2=b | ws x xl a al b bl | fld x.limbs=xl a.limbs=al b.limbs=bl
  refine mk_met (by decide) (Nat.le_of_ble_eq_true rfl) (fun p e s m below meth c ls S hr hlocks hw hl => ?_)
  have hx := S.1
  have hb := S.2.1
  have hown : s.vm.findClass R_W = some m.cls := S.2.2.2.1
  have hG := S.2.2.2.2
  have hl : lv_has ls 9 [(0, .ref x), (1, .ref a), (2, .ref b)] := hl
  have hg := hw
  have hda := hv.2.1
  have hdb := hw2.2.1
  have eg := wr_g hv
  have eg2 := wr_g hw2
  have nd := kn_nd hk
  simp only [List.map_cons, List.map_nil, List.nodup_cons, List.mem_cons, List.not_mem_nil, or_false, not_or] at nd
  obtain ⟨⟨nx1, nx2, nx3, nx4, nx5⟩, ⟨nl2, nl3, nl4, nl5⟩, ⟨na1, na2, na3⟩, ⟨nal1, nal2⟩, nb1, -⟩ := nd
  refine lv_aload_n hx hb d_W_setProduct_0 rfl (lv_at hl 0 rfl) ?_
  refine g_ov (c_V (np := 0) S (m_W_setZero l D k L f x xl n g (kn_sub hk [0] rfl rfl)) hw ((hk.1 0 _ rfl).1) ((hk.1 0 _ rfl).2) rfl ml_W_34 im_W_setZero se_W_W_setZero in_W co_W_setZero (by decide +kernel) rfl ⟨rfl, rfl, by decide, by decide⟩ hl.1 rfl (by simp [Value.category]) d_W_setProduct_1 ⟨Nat.zero_le _, Nat.zero_le _⟩) hw (fun f1 H locs hp hw => ?_)
  have hk1 : kn L f f1 [(x, cW xl 0 0), (xl, cD k d), (a, cW al na ga), (al, cD k da), (b, cW bl nb gb), (bl, cD k db)] := by
    refine kn_join hk hp (by simp) rfl (fun q hq => ?_)
    simp only [List.mem_cons, List.not_mem_nil, or_false] at hq
    rcases hq with rfl | rfl | rfl | rfl | rfl | rfl
    · exact (hp.1 0 _ rfl).2
    · rw [kn_off hp (by simp; exact Ne.symm nx1)]; exact (hk.1 1 _ rfl).2
    · rw [kn_off hp (by simp; exact Ne.symm nx2)]; exact (hk.1 2 _ rfl).2
    · rw [kn_off hp (by simp; exact Ne.symm nx3)]; exact (hk.1 3 _ rfl).2
    · rw [kn_off hp (by simp; exact Ne.symm nx4)]; exact (hk.1 4 _ rfl).2
    · rw [kn_off hp (by simp; exact Ne.symm nx5)]; exact (hk.1 5 _ rfl).2
  have hg1 := hw
  have hw : kw D cls (tyl k) L s s.heap f [(x, cW xl 0 0), (xl, cD k d), (a, cW al na ga), (al, cD k da), (b, cW bl nb gb), (bl, cD k db)] H locs := ⟨f1, hw, hk1⟩
  refine lv_aload_n hx hb d_W_setProduct_4 rfl (lv_at hl 1 rfl) ?_
  refine k_get hx hb hG lay_W hown hw 2 rfl rfl 2 (by decide) (hG _ fl_W_19) (fun _ h9 => h9) rfl d_W_setProduct_5 ?_
  refine lv_if_eq (tgt := 32) hx hb d_W_setProduct_8 (by decide) (fun hc => ?_) (fun hc => ?_)
  · have hv0 : v = 0 := by
      rw [eg] at hc
      rcases Int.lt_trichotomy v 0 with h | h | h
      · rw [Int.sign_eq_neg_one_of_neg h] at hc; exact absurd hc (by decide)
      · exact h
      · rw [Int.sign_eq_one_of_pos h] at hc; exact absurd hc (by decide)
    exact g_retv hx hb hr hlocks hg1 ⟨0, 0, d, ⟨by omega, hd, Or.inl ⟨rfl, rfl, by rw [hv0, Int.zero_mul]⟩⟩, hk1⟩ d_W_setProduct_32
  · -- STK
    refine lv_aload_n hx hb d_W_setProduct_11 rfl (lv_at hl 2 rfl) ?_
    refine k_get hx hb hG lay_W hown hw 4 rfl rfl 2 (by decide) (hG _ fl_W_19) (fun _ h9 => h9) rfl d_W_setProduct_12 ?_
    refine lv_if_eq (tgt := 32) hx hb d_W_setProduct_15 (by decide) (fun hc => ?_) (fun hc => ?_)
    · have hv0 : w = 0 := by
        rw [eg2] at hc
        rcases Int.lt_trichotomy w 0 with h | h | h
        · rw [Int.sign_eq_neg_one_of_neg h] at hc; exact absurd hc (by decide)
        · exact h
        · rw [Int.sign_eq_one_of_pos h] at hc; exact absurd hc (by decide)
      exact g_retv hx hb hr hlocks hg1 ⟨0, 0, d, ⟨by omega, hd, Or.inl ⟨rfl, rfl, by rw [hv0, Int.mul_zero]⟩⟩, hk1⟩ d_W_setProduct_32
    · -- STK
      refine lv_aload_n hx hb d_W_setProduct_18 rfl (lv_at hl 1 rfl) ?_
      refine k_get hx hb hG lay_W hown hw 2 rfl rfl 1 (by decide) (hG _ fl_W_15) (fun _ h9 => h9) rfl d_W_setProduct_19 ?_
      refine lv_aload_n hx hb d_W_setProduct_22 rfl (lv_at hl 2 rfl) ?_
      refine k_get hx hb hG lay_W hown hw 4 rfl rfl 1 (by decide) (hG _ fl_W_15) (fun _ h9 => h9) rfl d_W_setProduct_23 ?_
      refine lv_iadd hx hb d_W_setProduct_26 ?_
      refine l_top (nI_add _ _) ?_
      refine lv_bipush (v := 12) hx hb d_W_setProduct_27 (by decide) ?_
      refine lv_icmp_le (tgt := 33) hx hb d_W_setProduct_29 (by decide) (fun hc => ?_) (fun hc => ?_)
      · -- STK
        refine lv_aload_n hx hb d_W_setProduct_33 rfl (lv_at hl 0 rfl) ?_
        refine lv_aload_n hx hb d_W_setProduct_34 rfl (lv_at hl 1 rfl) ?_
        refine k_get hx hb hG lay_W hown hw 2 rfl rfl 1 (by decide) (hG _ fl_W_15) (fun _ h9 => h9) rfl d_W_setProduct_35 ?_
        refine lv_aload_n hx hb d_W_setProduct_38 rfl (lv_at hl 2 rfl) ?_
        refine k_get hx hb hG lay_W hown hw 4 rfl rfl 1 (by decide) (hG _ fl_W_15) (fun _ h9 => h9) rfl d_W_setProduct_39 ?_
        refine lv_iadd hx hb d_W_setProduct_42 ?_
        refine l_top (nI_add _ _) ?_
        refine k_put (ty := .int) hx hb hG lay_W ft_W ft_W_ok fn_W hown hw 0 rfl rfl 1 (by decide) (hG _ fl_W_15) (fun _ h9 => h9) rfl (by decide +kernel) rfl rfl (by simp) d_W_setProduct_43 (fun H locs hw => ?_)
        refine lv_aload_n hx hb d_W_setProduct_46 rfl (lv_at hl 0 rfl) ?_
        refine lv_aload_n hx hb d_W_setProduct_47 rfl (lv_at hl 1 rfl) ?_
        refine k_get hx hb hG lay_W hown hw 2 rfl rfl 2 (by decide) (hG _ fl_W_19) (fun _ h9 => h9) rfl d_W_setProduct_48 ?_
        refine lv_aload_n hx hb d_W_setProduct_51 rfl (lv_at hl 2 rfl) ?_
        refine k_get hx hb hG lay_W hown hw 4 rfl rfl 2 (by decide) (hG _ fl_W_19) (fun _ h9 => h9) rfl d_W_setProduct_52 ?_
        refine lv_imul hx hb d_W_setProduct_55 ?_
        refine k_put (ty := .int) hx hb hG lay_W ft_W ft_W_ok fn_W hown hw 0 rfl rfl 2 (by decide) (hG _ fl_W_19) (fun _ h9 => h9) rfl (by decide +kernel) rfl rfl (by simp) d_W_setProduct_56 (fun H locs hw => ?_)
        refine lv_aload_n hx hb d_W_setProduct_59 rfl (lv_at hl 0 rfl) ?_
        refine k_get hx hb hG lay_W hown hw 0 rfl rfl 0 (by decide) (hG _ fl_W_11) (fun _ h9 => h9) rfl d_W_setProduct_60 ?_
        refine lv_iconst (v := 0) hx hb d_W_setProduct_63 (by decide) ?_
        refine lv_aload_n hx hb d_W_setProduct_64 rfl (lv_at hl 0 rfl) ?_
        refine k_get hx hb hG lay_W hown hw 0 rfl rfl 1 (by decide) (hG _ fl_W_15) (fun _ h9 => h9) rfl d_W_setProduct_65 ?_
        refine lv_iconst (v := 0) hx hb d_W_setProduct_68 (by decide) ?_
        obtain ⟨f2, hw, hk2⟩ := hw
        refine g_ov (c_X (np := 4) S (m_fillR l D k L f2 xl 12 0 (na + nb) 0 (nD d) (by decide) (Nat.zero_le _) hnn (kn_sub hk2 [1] rfl rfl)) hw ml_W_37 st_JA_fill_1 in_JA co_JA_fill_1 (by decide +kernel) rfl ⟨rfl, rfl, by decide, by decide⟩ hl.1 rfl (by simp [Value.category]) d_W_setProduct_69 ⟨Nat.zero_le _, Nat.zero_le _⟩) hw (fun f3 H locs hp3 hw => ?_)
        have ez : (fun t => if 0 ≤ t ∧ t < na + nb then (0 : Int32) else nD d t) = nD (fun t => if t < na + nb then 0 else d t) := by
          funext t
          by_cases h : t < na + nb
          · rw [if_pos ⟨Nat.zero_le _, h⟩]
            show 0 = nI (if t < na + nb then 0 else d t)
            rw [if_pos h]; rfl
          · rw [if_neg (fun q => h q.2)]
            show nI (d t) = nI (if t < na + nb then 0 else d t)
            rw [if_neg h]
        rw [ez] at hp3
        have hk3 : kn L f f3 [(x, cW xl (na + nb) (ga * gb)), (xl, cD k (fun t => if t < na + nb then 0 else d t)), (a, cW al na ga), (al, cD k da), (b, cW bl nb gb), (bl, cD k db)] := by
          refine kn_join hk2 hp3 (by simp) rfl (fun q hq => ?_)
          simp only [List.mem_cons, List.not_mem_nil, or_false] at hq
          rcases hq with rfl | rfl | rfl | rfl | rfl | rfl
          · rw [kn_off hp3 (by simp; exact nx1)]; exact (hk2.1 0 _ rfl).2
          · exact (hp3.1 0 _ rfl).2
          · rw [kn_off hp3 (by simp; exact Ne.symm nl2)]; exact (hk2.1 2 _ rfl).2
          · rw [kn_off hp3 (by simp; exact Ne.symm nl3)]; exact (hk2.1 3 _ rfl).2
          · rw [kn_off hp3 (by simp; exact Ne.symm nl4)]; exact (hk2.1 4 _ rfl).2
          · rw [kn_off hp3 (by simp; exact Ne.symm nl5)]; exact (hk2.1 5 _ rfl).2
        have hw : kw D cls (tyl k) L s s.heap f [(x, cW xl (na + nb) (ga * gb)), (xl, cD k (fun t => if t < na + nb then 0 else d t)), (a, cW al na ga), (al, cD k da), (b, cW bl nb gb), (bl, cD k db)] H locs := ⟨f3, hw, hk3⟩
        refine lv_iconst (v := 0) hx hb d_W_setProduct_72 (by decide) ?_
        refine lv_istore_n hx hb d_W_setProduct_73 rfl hl (by decide) rfl (fun ls hl => ?_)
        have hl := lv_sub hl [1, 2, 3, 0] rfl
        refine w_mulO S hnn hda hdb na 0 _ H locs ls (by omega) (fun t ht => ?_) (fun t h1 h2 => if_pos h2) ?_ hl hw (fun r H locs ls hrr he hl hw => ?_)
        · show (if t < na + nb then 0 else d t) < B30
          by_cases h : t < na + nb
          · rw [if_pos h]; decide
          · rw [if_neg h]; exact hd t ht
        · rw [cd_0 (0 + nb) (fun t ht => if_pos (by omega))]
          show 0 = 0 * _
          rw [Nat.zero_mul]
        · obtain ⟨f4, hw, hk4⟩ := hw
          refine lv_aload_n hx hb d_W_setProduct_182 rfl (lv_at hl 0 rfl) ?_
          refine g_ov (c_V (np := 0) S (m_W_trim l D k L f4 x xl (na + nb) (ga * gb) r hnn hrr (kn_sub hk4 [0, 1] rfl rfl)) hw ((hk4.1 0 _ rfl).1) ((hk4.1 0 _ rfl).2) rfl ml_W_45 im_W_trim se_W_W_trim in_W co_W_trim (by decide +kernel) rfl ⟨rfl, rfl, by decide, by decide⟩ hl.1 rfl (by simp [Value.category]) d_W_setProduct_183 ⟨Nat.zero_le _, Nat.zero_le _⟩) hw (fun f5 H locs hp5 hw => ?_)
          obtain ⟨n3, h1, h2, h3, hk5⟩ := hp5
          refine g_retv hx hb hr hlocks hw ⟨n3, (if n3 = 0 then 0 else ga * gb), r, wr_trim hnn hrr h1 h2 h3 ?_, ?_⟩ d_W_setProduct_186
          · have hA := wr_abs hv
            have hB := wr_abs hw2
            rw [he, ← hA, ← hB, ← Int.natAbs_mul]
            rcases Int.lt_trichotomy (v * w) 0 with h | h | h
            · refine Or.inr (Or.inl ⟨?_, by omega⟩)
              rw [eg, eg2, zI_mul, ← Int.sign_mul, Int.sign_eq_neg_one_of_neg h]; decide
            · exact Or.inr (Or.inr ⟨h, by omega⟩)
            · refine Or.inl ⟨?_, by omega⟩
              rw [eg, eg2, zI_mul, ← Int.sign_mul, Int.sign_eq_one_of_pos h]; rfl
          · refine kn_join hk4 hk5 (by simp) rfl (fun q hq => ?_)
            simp only [List.mem_cons, List.not_mem_nil, or_false] at hq
            rcases hq with rfl | rfl | rfl | rfl | rfl | rfl
            · exact (hk5.1 0 _ rfl).2
            · exact (hk5.1 1 _ rfl).2
            · rw [kn_off hk5 (by simp; exact ⟨Ne.symm nx2, Ne.symm nl2⟩)]; exact (hk4.1 2 _ rfl).2
            · rw [kn_off hk5 (by simp; exact ⟨Ne.symm nx3, Ne.symm nl3⟩)]; exact (hk4.1 3 _ rfl).2
            · rw [kn_off hk5 (by simp; exact ⟨Ne.symm nx4, Ne.symm nl4⟩)]; exact (hk4.1 4 _ rfl).2
            · rw [kn_off hk5 (by simp; exact ⟨Ne.symm nx5, Ne.symm nl5⟩)]; exact (hk4.1 5 _ rfl).2
      · exact absurd (nI_le (b := 12) hnn (by omega)) hc


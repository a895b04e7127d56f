-- ===== Whole: setDifference, subtract =====
theorem sub_step {i : Nat} {cy w : Int} {r : Nat → Nat} {S : Int} (h : (cd B30 i r : Int) + cy * (B30 : Int) ^ i = S) : (cd B30 (i + 1) (va_up r i ((cy + w) % 1073741824).toNat) : Int) + (cy + w) / 1073741824 * (B30 : Int) ^ (i + 1) = S + w * (B30 : Int) ^ i := by
  have h1 := carry1 (B := B30) (by decide) (w := w) h
  rw [cd_put, Int.natCast_add, Int.natCast_mul, Int.natCast_pow]
  have e1 : (((cy + w) % 1073741824).toNat : Int) = (cy + w) % (B30 : Int) := by
    have : (B30 : Int) = 1073741824 := rfl
    rw [this]; omega
  have e2 : (cy + w) / 1073741824 = (cy + w) / (B30 : Int) := rfl
  rw [e1, e2]
  exact h1
theorem cd_int_succ (i : Nat) (d : Nat → Nat) : (cd B30 (i + 1) d : Int) = (cd B30 i d : Int) + (d i : Int) * (B30 : Int) ^ i := by
  show ((cd B30 i d + d i * B30 ^ i : Nat) : Int) = _
  rw [Int.natCast_add, Int.natCast_mul, Int.natCast_pow]
section DIFF
variable {p : Program} {l : Launch} {e : Env} {s : State} {m : MethodId} {args : Array Value} {below : List Frame} {meth : Method} {c : Code} {Q : State → Prop} {D : va_G} {k : Nat → ClassId} {L : List Nat} {f0 : Nat → va_E} {H0 : Heap}
set_option maxRecDepth 100000 in
set_option maxHeartbeats 4000000 in
theorem w_diffA (S : CallFix p m c c_W_setDifference 5 s args G R_W) {x xl o ol n n2 : Nat} {g g2 : Int32} {d d2 : Nat → Nat} (hn : n ≤ 12) (hn2 : n2 ≤ 12) (hd2 : ∀ i, i < 12 → d2 i < B30) :
    ∀ (j i : Nat) (cy : Int) (r : Nat → Nat) (H : Heap) (locs : List Loc) (ls : Array Slot), i + j = n → (cy = 0 ∨ cy = -1) → (∀ t, t < 12 → r t < B30) → (∀ t, i ≤ t → r t = d t) → (cd B30 i r : Int) + cy * (B30 : Int) ^ i = (cd B30 i d : Int) - (cd B30 i (fun t => if t < n2 then d2 t else 0) : Int) →
    lv_has ls 5 [(0, .ref x), (1, .ref x), (2, .ref o), (3, .int (zI cy)), (4, .int (nI i))] → kw D cls (tyl k) L s H0 f0 [(x, cW xl n g), (xl, cD k r), (o, cW ol n2 g2), (ol, cD k d2)] H locs →
    (∀ (cy : Int) (r : Nat → Nat) (H : Heap) (locs : List Loc) (ls : Array Slot), (cy = 0 ∨ cy = -1) → (∀ t, t < 12 → r t < B30) → (cd B30 n r : Int) + cy * (B30 : Int) ^ n = (cd B30 n d : Int) - (cd B30 n (fun t => if t < n2 then d2 t else 0) : Int) → lv_has ls 5 [(0, .ref x), (1, .ref x), (2, .ref o), (3, .int (zI cy)), (4, .int (nI n))] → kw D cls (tyl k) L s H0 f0 [(x, cW xl n g), (xl, cD k r), (o, cW ol n2 g2), (ol, cD k d2)] H locs → W p l e (rmN 1) s m args below meth c H locs 0 0 Q (F0 m 53 ls [])) →
    W p l e (rmN 1) s m args below meth c H locs 0 0 Q (F0 m 5 ls []) := by
  have hx := S.1
  have hb := S.2.1
  have hown : s.vm.findClass R_W = some m.cls := S.2.2.2.1
  have hG := S.2.2.2.2
  intro j
  induction j with
  | zero =>
    intro i cy r H locs ls hij hcy hrr hrd he hl hw kx
    have hij : i = n := by omega
    subst hij
    -- METHOD W_setDifference | loc 0=x 1=x 2=o 3=cy 4=i | ws x xl o ol | fld x.limbs=xl o.limbs=ol
    refine lv_iload hx hb d_W_setDifference_5 (lv_at hl 4 rfl) ?_
    refine lv_aload_n hx hb d_W_setDifference_7 rfl (lv_at hl 1 rfl) ?_
    refine k_get hx hb hG lay_W hown hw 0 rfl rfl 1 (by decide) (hG _ fl_W_15) (fun _ h9 => h9) rfl d_W_setDifference_8 ?_
    refine lv_icmp_ge (tgt := 53) hx hb d_W_setDifference_11 (by decide) (fun hc => ?_) (fun hc => ?_)
    · exact kx cy r H locs ls hcy hrr he hl hw
    · exact absurd (nI_le (Nat.le_refl _) (by omega)) hc
  | succ j ih =>
    intro i cy r H locs ls hij hcy hrr hrd he hl hw kx
    -- METHOD W_setDifference | loc 0=x 1=x 2=o 3=cy 4=i | ws x xl o ol | fld x.limbs=xl o.limbs=ol
    refine lv_iload hx hb d_W_setDifference_5 (lv_at hl 4 rfl) ?_
    refine lv_aload_n hx hb d_W_setDifference_7 rfl (lv_at hl 1 rfl) ?_
    refine k_get hx hb hG lay_W hown hw 0 rfl rfl 1 (by decide) (hG _ fl_W_15) (fun _ h9 => h9) rfl d_W_setDifference_8 ?_
    refine lv_icmp_ge (tgt := 53) hx hb d_W_setDifference_11 (by decide) (fun hc => ?_) (fun hc => ?_)
    · exact absurd hc (nI_ge (by omega) (by omega))
    · -- STK
      refine lv_iload_n hx hb d_W_setDifference_14 rfl (lv_at hl 3 rfl) ?_
      refine lv_aload_n hx hb d_W_setDifference_15 rfl (lv_at hl 1 rfl) ?_
      refine k_get hx hb hG lay_W hown hw 0 rfl rfl 0 (by decide) (hG _ fl_W_11) (fun _ h9 => h9) rfl d_W_setDifference_16 ?_
      refine lv_iload hx hb d_W_setDifference_19 (lv_at hl 4 rfl) ?_
      refine k_iald hx hb hw 1 0 rfl rfl (i) (rfl) (by omega) (by first | decide | omega) d_W_setDifference_21 ?_
      refine l_top (show nD r i = nI (d i) from by rw [← hrd i (Nat.le_refl _)]; rfl) ?_
      obtain ⟨f, hw, hk⟩ := hw
      refine lv_aload_n hx hb d_W_setDifference_22 rfl (lv_at hl 2 rfl) ?_
      refine lv_iload hx hb d_W_setDifference_23 (lv_at hl 4 rfl) ?_
      refine g_oi (c_V (np := 1) S (m_W_limbAt l D k L f o ol n2 g2 d2 i hn2 (by omega) (kn_sub hk [2, 3] rfl rfl)) hw ((hk.1 2 _ rfl).1) ((hk.1 2 _ rfl).2) rfl ml_W_88 im_W_limbAt se_W_W_limbAt in_W co_W_limbAt (by decide +kernel) rfl ⟨rfl, rfl, by decide, by decide⟩ hl.1 rfl (by simp [Value.category]) d_W_setDifference_25 ⟨Nat.zero_le _, Nat.zero_le _⟩) hw (fun r1 f1 H locs hp hw2 => ?_)
      rw [hp.1] at hw2
      have hw : kw D cls (tyl k) L s H0 f0 [(x, cW xl n g), (xl, cD k r), (o, cW ol n2 g2), (ol, cD k d2)] H locs := ⟨f, hw2, hk⟩
      refine l_top hp.2 ?_
      have ha : d i < B30 := hrd i (Nat.le_refl _) ▸ hrr i (by omega)
      have hb2 : (if i < n2 then d2 i else 0) < B30 := by
        by_cases h : i < n2
        · rw [if_pos h]; exact hd2 i (by omega)
        · rw [if_neg h]; decide
      generalize hA : d i = A at ha ⊢
      generalize hB : (if i < n2 then d2 i else 0) = B at hb2 ⊢
      have hB30 : B30 = 1073741824 := rfl
      have hcr : -1 ≤ cy ∧ cy ≤ 0 := by omega
      refine lv_isub hx hb d_W_setDifference_28 ?_
      refine l_top (show nI A - nI B = zI ((A : Int) - B) by rw [← zI_n, ← zI_n, zI_sub]) ?_
      refine lv_iadd hx hb d_W_setDifference_29 ?_
      refine l_top (zI_add _ _) ?_
      refine lv_istore_n hx hb d_W_setDifference_30 rfl hl (by decide) rfl (fun ls hl => ?_)
      refine lv_aload_n hx hb d_W_setDifference_31 rfl (lv_at hl 1 rfl) ?_
      refine k_get hx hb hG lay_W hown hw 0 rfl rfl 0 (by decide) (hG _ fl_W_11) (fun _ h9 => h9) rfl d_W_setDifference_32 ?_
      refine lv_iload hx hb d_W_setDifference_35 (lv_at hl 4 rfl) ?_
      refine lv_iload_n hx hb d_W_setDifference_37 rfl (lv_at hl 0 rfl) ?_
      refine lv_ldc hx hb hown (hG _ ct_W_91) d_W_setDifference_38 ?_
      refine lv_iand hx hb d_W_setDifference_40 ?_
      refine l_top (zI_and30 _) ?_
      refine l_top (show zI ((cy + ((A : Int) - B)) % 1073741824) = nI ((cy + ((A : Int) - B)) % 1073741824).toNat by rw [← zI_n]; congr 1; omega) ?_
      refine k_iast hx hb hw 1 0 rfl rfl (i) (rfl) (by omega) (by first | decide | omega) d_W_setDifference_41 (fun H locs hw => ?_)
      rw [nD_upd] at hw
      refine lv_iload_n hx hb d_W_setDifference_42 rfl (lv_at hl 0 rfl) ?_
      refine lv_bipush (v := 30) hx hb d_W_setDifference_43 (by decide) ?_
      refine lv_ishr hx hb d_W_setDifference_45 ?_
      refine l_top (zI_shr30 ⟨by omega, by omega⟩) ?_
      refine lv_istore_n hx hb d_W_setDifference_46 rfl hl (by decide) rfl (fun ls hl => ?_)
      refine lv_iinc (k := 4) hx hb d_W_setDifference_47 hl rfl (ii1 i) (by decide) rfl (fun ls hl => ?_)
      refine lv_goto (tgt := 5) hx hb d_W_setDifference_50 (by decide) ?_
      have hl := lv_sub hl [2, 3, 4, 1, 0] rfl
      refine ih (i + 1) ((cy + ((A : Int) - B)) / 1073741824) (va_up r i ((cy + ((A : Int) - B)) % 1073741824).toNat) H locs ls (by omega) (by omega) (fun t ht => ?_) (fun t ht => ?_) ?_ hl hw kx
      · by_cases e : t = i
        · rw [e, va_up_self, hB30]; omega
        · rw [va_up_ne _ _ e]; exact hrr t ht
      · rw [va_up_ne _ _ (by omega)]; exact hrd t (by omega)
      · rw [sub_step he, cd_int_succ, cd_int_succ]
        show _ = _ - (_ + ((if i < n2 then d2 i else 0 : Nat) : Int) * _)
        rw [hA, hB, Int.sub_mul]
        omega
set_option maxRecDepth 100000 in
set_option maxHeartbeats 4000000 in
theorem w_diffB (S : CallFix p m c c_W_setDifference 5 s args G R_W) {x xl o ol n n2 : Nat} {g g2 : Int32} {d d2 : Nat → Nat} (hn : n ≤ 12) (hn2 : n2 ≤ 12) (hd2 : ∀ i, i < 12 → d2 i < B30) :
    ∀ (j i : Nat) (cy : Int) (r : Nat → Nat) (H : Heap) (locs : List Loc) (ls : Array Slot), i + j = n2 → (cy = 0 ∨ cy = -1) → (∀ t, t < 12 → r t < B30) → (∀ t, i ≤ t → r t = d t) → (cd B30 i r : Int) + cy * (B30 : Int) ^ i = (cd B30 i d2 : Int) - (cd B30 i (fun t => if t < n then d t else 0) : Int) →
    lv_has ls 5 [(0, .ref x), (1, .ref o), (2, .ref x), (3, .int (zI cy)), (4, .int (nI i))] → kw D cls (tyl k) L s H0 f0 [(x, cW xl n g), (xl, cD k r), (o, cW ol n2 g2), (ol, cD k d2)] H locs →
    (∀ (cy : Int) (r : Nat → Nat) (H : Heap) (locs : List Loc) (ls : Array Slot), (cy = 0 ∨ cy = -1) → (∀ t, t < 12 → r t < B30) → (cd B30 n2 r : Int) + cy * (B30 : Int) ^ n2 = (cd B30 n2 d2 : Int) - (cd B30 n2 (fun t => if t < n then d t else 0) : Int) → lv_has ls 5 [(0, .ref x), (1, .ref o), (2, .ref x), (3, .int (zI cy)), (4, .int (nI n2))] → kw D cls (tyl k) L s H0 f0 [(x, cW xl n g), (xl, cD k r), (o, cW ol n2 g2), (ol, cD k d2)] H locs → W p l e (rmN 1) s m args below meth c H locs 0 0 Q (F0 m 53 ls [])) →
    W p l e (rmN 1) s m args below meth c H locs 0 0 Q (F0 m 5 ls []) := by
  have hx := S.1
  have hb := S.2.1
  have hown : s.vm.findClass R_W = some m.cls := S.2.2.2.1
  have hG := S.2.2.2.2
  intro j
  induction j with
  | zero =>
    intro i cy r H locs ls hij hcy hrr hrd he hl hw kx
    have hij : i = n2 := by omega
    subst hij
    -- METHOD W_setDifference | loc 0=x 1=o 2=x 3=cy 4=i | ws x xl o ol | fld x.limbs=xl o.limbs=ol
    refine lv_iload hx hb d_W_setDifference_5 (lv_at hl 4 rfl) ?_
    refine lv_aload_n hx hb d_W_setDifference_7 rfl (lv_at hl 1 rfl) ?_
    refine k_get hx hb hG lay_W hown hw 2 rfl rfl 1 (by decide) (hG _ fl_W_15) (fun _ h9 => h9) rfl d_W_setDifference_8 ?_
    refine lv_icmp_ge (tgt := 53) hx hb d_W_setDifference_11 (by decide) (fun hc => ?_) (fun hc => ?_)
    · exact kx cy r H locs ls hcy hrr he hl hw
    · exact absurd (nI_le (Nat.le_refl _) (by omega)) hc
  | succ j ih =>
    intro i cy r H locs ls hij hcy hrr hrd he hl hw kx
    -- METHOD W_setDifference | loc 0=x 1=o 2=x 3=cy 4=i | ws x xl o ol | fld x.limbs=xl o.limbs=ol
    refine lv_iload hx hb d_W_setDifference_5 (lv_at hl 4 rfl) ?_
    refine lv_aload_n hx hb d_W_setDifference_7 rfl (lv_at hl 1 rfl) ?_
    refine k_get hx hb hG lay_W hown hw 2 rfl rfl 1 (by decide) (hG _ fl_W_15) (fun _ h9 => h9) rfl d_W_setDifference_8 ?_
    refine lv_icmp_ge (tgt := 53) hx hb d_W_setDifference_11 (by decide) (fun hc => ?_) (fun hc => ?_)
    · exact absurd hc (nI_ge (by omega) (by omega))
    · -- STK
      refine lv_iload_n hx hb d_W_setDifference_14 rfl (lv_at hl 3 rfl) ?_
      refine lv_aload_n hx hb d_W_setDifference_15 rfl (lv_at hl 1 rfl) ?_
      refine k_get hx hb hG lay_W hown hw 2 rfl rfl 0 (by decide) (hG _ fl_W_11) (fun _ h9 => h9) rfl d_W_setDifference_16 ?_
      refine lv_iload hx hb d_W_setDifference_19 (lv_at hl 4 rfl) ?_
      refine k_iald hx hb hw 3 0 rfl rfl (i) (rfl) (by omega) (by first | decide | omega) d_W_setDifference_21 ?_
      refine l_top (show nD d2 i = nI (d2 i) from rfl) ?_
      obtain ⟨f, hw, hk⟩ := hw
      refine lv_aload_n hx hb d_W_setDifference_22 rfl (lv_at hl 2 rfl) ?_
      refine lv_iload hx hb d_W_setDifference_23 (lv_at hl 4 rfl) ?_
      refine g_oi (c_V (np := 1) S (m_W_limbAt l D k L f x xl n g r i hn (by omega) (kn_sub hk [0, 1] rfl rfl)) hw ((hk.1 0 _ rfl).1) ((hk.1 0 _ rfl).2) rfl ml_W_88 im_W_limbAt se_W_W_limbAt in_W co_W_limbAt (by decide +kernel) rfl ⟨rfl, rfl, by decide, by decide⟩ hl.1 rfl (by simp [Value.category]) d_W_setDifference_25 ⟨Nat.zero_le _, Nat.zero_le _⟩) hw (fun r1 f1 H locs hp hw2 => ?_)
      rw [hp.1] at hw2
      have hw : kw D cls (tyl k) L s H0 f0 [(x, cW xl n g), (xl, cD k r), (o, cW ol n2 g2), (ol, cD k d2)] H locs := ⟨f, hw2, hk⟩
      refine l_top hp.2 ?_
      rw [show (if i < n then r i else 0) = (if i < n then d i else 0) by rw [hrd i (Nat.le_refl _)]]
      have ha : d2 i < B30 := hd2 i (by omega)
      have hb2 : (if i < n then d i else 0) < B30 := by
        by_cases h : i < n
        · rw [if_pos h, ← hrd i (Nat.le_refl _)]; exact hrr i (by omega)
        · rw [if_neg h]; decide
      generalize hA : d2 i = A at ha ⊢
      generalize hB : (if i < n then d i else 0) = B at hb2 ⊢
      have hB30 : B30 = 1073741824 := rfl
      have hcr : -1 ≤ cy ∧ cy ≤ 0 := by omega
      refine lv_isub hx hb d_W_setDifference_28 ?_
      refine l_top (show nI A - nI B = zI ((A : Int) - B) by rw [← zI_n, ← zI_n, zI_sub]) ?_
      refine lv_iadd hx hb d_W_setDifference_29 ?_
      refine l_top (zI_add _ _) ?_
      refine lv_istore_n hx hb d_W_setDifference_30 rfl hl (by decide) rfl (fun ls hl => ?_)
      refine lv_aload_n hx hb d_W_setDifference_31 rfl (lv_at hl 1 rfl) ?_
      refine k_get hx hb hG lay_W hown hw 0 rfl rfl 0 (by decide) (hG _ fl_W_11) (fun _ h9 => h9) rfl d_W_setDifference_32 ?_
      refine lv_iload hx hb d_W_setDifference_35 (lv_at hl 4 rfl) ?_
      refine lv_iload_n hx hb d_W_setDifference_37 rfl (lv_at hl 0 rfl) ?_
      refine lv_ldc hx hb hown (hG _ ct_W_91) d_W_setDifference_38 ?_
      refine lv_iand hx hb d_W_setDifference_40 ?_
      refine l_top (zI_and30 _) ?_
      refine l_top (show zI ((cy + ((A : Int) - B)) % 1073741824) = nI ((cy + ((A : Int) - B)) % 1073741824).toNat by rw [← zI_n]; congr 1; omega) ?_
      refine k_iast hx hb hw 1 0 rfl rfl (i) (rfl) (by omega) (by first | decide | omega) d_W_setDifference_41 (fun H locs hw => ?_)
      rw [nD_upd] at hw
      refine lv_iload_n hx hb d_W_setDifference_42 rfl (lv_at hl 0 rfl) ?_
      refine lv_bipush (v := 30) hx hb d_W_setDifference_43 (by decide) ?_
      refine lv_ishr hx hb d_W_setDifference_45 ?_
      refine l_top (zI_shr30 ⟨by omega, by omega⟩) ?_
      refine lv_istore_n hx hb d_W_setDifference_46 rfl hl (by decide) rfl (fun ls hl => ?_)
      refine lv_iinc (k := 4) hx hb d_W_setDifference_47 hl rfl (ii1 i) (by decide) rfl (fun ls hl => ?_)
      refine lv_goto (tgt := 5) hx hb d_W_setDifference_50 (by decide) ?_
      have hl := lv_sub hl [2, 3, 4, 1, 0] rfl
      refine ih (i + 1) ((cy + ((A : Int) - B)) / 1073741824) (va_up r i ((cy + ((A : Int) - B)) % 1073741824).toNat) H locs ls (by omega) (by omega) (fun t ht => ?_) (fun t ht => ?_) ?_ hl hw kx
      · by_cases e : t = i
        · rw [e, va_up_self, hB30]; omega
        · rw [va_up_ne _ _ e]; exact hrr t ht
      · rw [va_up_ne _ _ (by omega)]; exact hrd t (by omega)
      · rw [sub_step he, cd_int_succ, cd_int_succ]
        show _ = _ - (_ + ((if i < n then d i else 0 : Nat) : Int) * _)
        rw [hA, hB, Int.sub_mul]
        omega
end DIFF
set_option maxRecDepth 100000 in
set_option maxHeartbeats 4000000 in
theorem m_W_diffA (l : Launch) (D : va_G) (k : Nat → ClassId) (L : List Nat) (f : Nat → va_E) (x xl n o ol n2 : Nat) (g g2 : Int32) (d d2 : Nat → Nat) (hn : n ≤ 12) (hn2 : n2 ≤ 12) (hd : ∀ i, i < 12 → d i < B30) (hd2 : ∀ i, i < 12 → d2 i < B30) (hle : cd B30 n2 d2 ≤ cd B30 n d) (hnn : n2 ≤ n) (hk : kn L f f [(x, cW xl n g), (xl, cD k d), (o, cW ol n2 g2), (ol, cD k d2)]) : Mv l y_W_setDifference (Cond.code y_W_setDifference c_W_setDifference 5 none :: G) (rmN 1) D cls (tyl k) L f [.ref x, .ref x, .ref o] (fun f' => ∃ (r : Nat → Nat), (∀ i, i < 12 → r i < B30) ∧ cd B30 n r + cd B30 n2 d2 = cd B30 n d ∧ kn L f f' [(x, cW xl n g), (xl, cD k r), (o, cW ol n2 g2), (ol, cD k d2)]) := by
  -- METHOD W_setDifference | loc 0=x 1=x 2=o | ws x xl o ol | fld x.limbs=xl o.limbs=ol
  refine mk_met (by decide) (Nat.le_of_ble_eq_true rfl) (fun p e s m below meth c ls S hr hlocks hw hl => ?_)
  have hx := S.1
  have hb := S.2.1
  have hown : s.vm.findClass R_W = some m.cls := S.2.2.2.1
  have hG := S.2.2.2.2
  have hl : lv_has ls 5 [(0, .ref x), (1, .ref x), (2, .ref o)] := hl
  have hg := hw
  have hw : kw D cls (tyl k) L s s.heap f [(x, cW xl n g), (xl, cD k d), (o, cW ol n2 g2), (ol, cD k d2)] s.heap [] := ⟨f, hw, hk⟩
  refine lv_iconst (v := 0) hx hb d_W_setDifference_0 (by decide) ?_
  refine lv_istore_n hx hb d_W_setDifference_1 rfl hl (by decide) rfl (fun ls hl => ?_)
  refine lv_iconst (v := 0) hx hb d_W_setDifference_2 (by decide) ?_
  refine lv_istore hx hb d_W_setDifference_3 hl (by decide) rfl (fun ls hl => ?_)
  have hl := lv_sub hl [2, 3, 4, 1, 0] rfl
  refine w_diffA (d := d) S hn hn2 hd2 n 0 0 d _ _ ls (by omega) (Or.inl rfl) hd (fun _ _ => rfl) rfl hl hw (fun cy r H locs ls hcy hrr he hl hw => ?_)
  -- METHOD W_setDifference | loc 0=x 1=x 2=o 3=cy 4=i | ws x xl o ol | fld x.limbs=xl o.limbs=ol
  refine lv_aload_n hx hb d_W_setDifference_53 rfl (lv_at hl 0 rfl) ?_
  refine lv_aload_n hx hb d_W_setDifference_54 rfl (lv_at hl 1 rfl) ?_
  refine k_get hx hb hG lay_W hown hw 0 rfl rfl 1 (by decide) (hG _ fl_W_15) (fun _ h9 => h9) rfl d_W_setDifference_55 ?_
  refine k_put (ty := .int) hx hb hG lay_W ft_W ft_W_ok fn_W hown hw 0 rfl rfl 1 (by decide) (hG _ fl_W_15) (fun _ h9 => h9) rfl (by decide +kernel) rfl rfl (by simp) d_W_setDifference_58 (fun H locs hw => ?_)
  obtain ⟨f', hw, hk'⟩ := hw
  refine g_retv hx hb hr hlocks hw ⟨r, hrr, ?_, hk'⟩ d_W_setDifference_61
  have q2 : cd B30 n (fun t => if t < n2 then d2 t else 0) = cd B30 n2 d2 := by
    rw [cd_top (m := n2) hnn (fun i h1 _ => if_neg (by omega))]
    exact cd_congr n2 (fun i hi => if_pos hi)
  rw [q2] at he
  have hlt := cd_lt n (b := B30) (d := r) (fun i hi => hrr i (by omega))
  have hP : (B30 : Int) ^ n = ((B30 ^ n : Nat) : Int) := (Int.natCast_pow _ _).symm
  rw [hP] at he
  rcases hcy with h | h
  · rw [h, Int.zero_mul] at he; omega
  · rw [h] at he; omega
set_option maxRecDepth 100000 in
set_option maxHeartbeats 4000000 in
theorem m_W_diffB (l : Launch) (D : va_G) (k : Nat → ClassId) (L : List Nat) (f : Nat → va_E) (x xl n o ol n2 : Nat) (g g2 : Int32) (d d2 : Nat → Nat) (hn : n ≤ 12) (hn2 : n2 ≤ 12) (hd : ∀ i, i < 12 → d i < B30) (hd2 : ∀ i, i < 12 → d2 i < B30) (hle : cd B30 n d ≤ cd B30 n2 d2) (hnn : n ≤ n2) (hk : kn L f f [(x, cW xl n g), (xl, cD k d), (o, cW ol n2 g2), (ol, cD k d2)]) : Mv l y_W_setDifference (Cond.code y_W_setDifference c_W_setDifference 5 none :: G) (rmN 1) D cls (tyl k) L f [.ref x, .ref o, .ref x] (fun f' => ∃ (r : Nat → Nat), (∀ i, i < 12 → r i < B30) ∧ cd B30 n2 r + cd B30 n d = cd B30 n2 d2 ∧ kn L f f' [(x, cW xl n2 g), (xl, cD k r), (o, cW ol n2 g2), (ol, cD k d2)]) := by
  -- METHOD W_setDifference | loc 0=x 1=o 2=x | ws x xl o ol | fld x.limbs=xl o.limbs=ol
  refine mk_met (by decide) (Nat.le_of_ble_eq_true rfl) (fun p e s m below meth c ls S hr hlocks hw hl => ?_)
  have hx := S.1
  have hb := S.2.1
  have hown : s.vm.findClass R_W = some m.cls := S.2.2.2.1
  have hG := S.2.2.2.2
  have hl : lv_has ls 5 [(0, .ref x), (1, .ref o), (2, .ref x)] := hl
  have hg := hw
  have hw : kw D cls (tyl k) L s s.heap f [(x, cW xl n g), (xl, cD k d), (o, cW ol n2 g2), (ol, cD k d2)] s.heap [] := ⟨f, hw, hk⟩
  refine lv_iconst (v := 0) hx hb d_W_setDifference_0 (by decide) ?_
  refine lv_istore_n hx hb d_W_setDifference_1 rfl hl (by decide) rfl (fun ls hl => ?_)
  refine lv_iconst (v := 0) hx hb d_W_setDifference_2 (by decide) ?_
  refine lv_istore hx hb d_W_setDifference_3 hl (by decide) rfl (fun ls hl => ?_)
  have hl := lv_sub hl [2, 3, 4, 1, 0] rfl
  refine w_diffB (d := d) S hn hn2 hd2 n2 0 0 d _ _ ls (by omega) (Or.inl rfl) hd (fun _ _ => rfl) rfl hl hw (fun cy r H locs ls hcy hrr he hl hw => ?_)
  -- METHOD W_setDifference | loc 0=x 1=o 2=x 3=cy 4=i | ws x xl o ol | fld x.limbs=xl o.limbs=ol
  refine lv_aload_n hx hb d_W_setDifference_53 rfl (lv_at hl 0 rfl) ?_
  refine lv_aload_n hx hb d_W_setDifference_54 rfl (lv_at hl 1 rfl) ?_
  refine k_get hx hb hG lay_W hown hw 2 rfl rfl 1 (by decide) (hG _ fl_W_15) (fun _ h9 => h9) rfl d_W_setDifference_55 ?_
  refine k_put (ty := .int) hx hb hG lay_W ft_W ft_W_ok fn_W hown hw 0 rfl rfl 1 (by decide) (hG _ fl_W_15) (fun _ h9 => h9) rfl (by decide +kernel) rfl rfl (by simp) d_W_setDifference_58 (fun H locs hw => ?_)
  obtain ⟨f', hw, hk'⟩ := hw
  refine g_retv hx hb hr hlocks hw ⟨r, hrr, ?_, hk'⟩ d_W_setDifference_61
  have q2 : cd B30 n2 (fun t => if t < n then d t else 0) = cd B30 n d := by
    rw [cd_top (m := n) hnn (fun i h1 _ => if_neg (by omega))]
    exact cd_congr n (fun i hi => if_pos hi)
  rw [q2] at he
  have hlt := cd_lt n2 (b := B30) (d := r) (fun i hi => hrr i (by omega))
  have hP : (B30 : Int) ^ n2 = ((B30 ^ n2 : Nat) : Int) := (Int.natCast_pow _ _).symm
  rw [hP] at he
  rcases hcy with h | h
  · rw [h, Int.zero_mul] at he; omega
  · rw [h] at he; omega
set_option maxRecDepth 100000 in
set_option maxHeartbeats 4000000 in
/-- subtract(o): the difference -/
theorem m_W_subtract (l : Launch) (D : va_G) (k : Nat → ClassId) (L : List Nat) (f : Nat → va_E) (x xl n o ol n2 : Nat) (g g2 : Int32) (d d2 : Nat → Nat) (v w : Int) (hv : wr n g d v) (hv2 : wr n2 g2 d2 w) (hn : n ≤ 11) (hn2 : n2 ≤ 11) (hk : kn L f f [(x, cW xl n g), (xl, cD k d), (o, cW ol n2 g2), (ol, cD k d2)]) : Mv l y_W_subtract (Cond.code y_W_subtract c_W_subtract 2 none :: G) (rmN 2) D cls (tyl k) L f [.ref x, .ref o] (fun f' => ∃ (n' : Nat) (g' : Int32) (r : Nat → Nat), wr n' g' r (v - w) ∧ kn L f f' [(x, cW xl n' g'), (xl, cD k r), (o, cW ol n2 g2), (ol, cD k d2)]) := by
  -- METHOD W_subtract | loc 0=x 1=o | ws x xl o ol | fld x.limbs=xl o.limbs=ol
  refine mk_met (by decide) (Nat.le_of_ble_eq_true rfl) (fun p e s m below meth c ls S hr hlocks hw hl => ?_)
  have hx := S.1
  have hb := S.2.1
  have hown : s.vm.findClass R_W = some m.cls := S.2.2.2.1
  have hG := S.2.2.2.2
  have hl : lv_has ls 2 [(0, .ref x), (1, .ref o)] := hl
  have hg := hw
  have hd := hv.2.1
  have hd2 := hv2.2.1
  have hA := wr_abs hv
  have hB := wr_abs hv2
  have eg := wr_g hv
  have eg2 := wr_g hv2
  have hs1 : -1 ≤ v.sign ∧ v.sign ≤ 1 := by rcases Int.lt_trichotomy v 0 with h | h | h <;> simp [Int.sign_eq_neg_one_of_neg, Int.sign_eq_one_of_pos, h]
  have hs2 : -1 ≤ w.sign ∧ w.sign ≤ 1 := by rcases Int.lt_trichotomy w 0 with h | h | h <;> simp [Int.sign_eq_neg_one_of_neg, Int.sign_eq_one_of_pos, h]
  have hend : ∀ (n' : Nat) (g' : Int32) (r : Nat → Nat) (f1 : Nat → va_E) (H : Heap) (locs : List Loc) (ls : Array Slot), n' ≤ 12 → (∀ i, i < 12 → r i < B30) → ((g' = 1 ∧ v - w = (cd B30 n' r : Int)) ∨ (g' = -1 ∧ v - w = -(cd B30 n' r : Int)) ∨ (v - w = 0 ∧ cd B30 n' r = 0)) → lv_has ls 2 [(0, .ref x), (1, .ref o)] → gw D cls (tyl k) L s s.heap f1 H locs → kn L f f1 [(x, cW xl n' g'), (xl, cD k r), (o, cW ol n2 g2), (ol, cD k d2)] → W p l e (rmN 2) s m [Value.ref x, .ref o].toArray below meth c H locs 0 0 (MQ below (va_Qv (fun f' => ∃ (n' : Nat) (g' : Int32) (r : Nat → Nat), wr n' g' r (v - w) ∧ kn L f f' [(x, cW xl n' g'), (xl, cD k r), (o, cW ol n2 g2), (ol, cD k d2)]) (mst D cls (tyl k) L) (fun q => q ∈ L)) [Value.ref x, .ref o].toArray s 0 0 (fun q => q ∈ L)) (F0 m 52 ls []) := by
    intro n' g' r f1 H locs ls hn' hr' hval hl hw hk1
    refine lv_aload_n hx hb d_W_subtract_52 rfl (lv_at hl 0 rfl) ?_
    refine g_ov (c_V (np := 0) S (m_W_trim l D k L f1 x xl n' g' r hn' hr' (kn_sub hk1 [0, 1] rfl rfl)) hw ((hk1.1 0 _ rfl).1) ((hk1.1 0 _ rfl).2) rfl ml_W_45 im_W_trim se_W_W_trim in_W co_W_trim (by decide +kernel) rfl ⟨rfl, rfl, by decide, by decide⟩ hl.1 rfl (by simp [Value.category]) d_W_subtract_53 ⟨Nat.zero_le _, Nat.zero_le _⟩) hw (fun f2 H locs hp hw => ?_)
    obtain ⟨n3, h1, h2, h3, hk2⟩ := hp
    refine g_retv hx hb hr hlocks hw ⟨n3, _, r, wr_trim hn' hr' h1 h2 h3 hval, ?_⟩ d_W_subtract_56
    refine kn_join hk1 hk2 (by simp) rfl (fun q hq => ?_)
    simp only [List.mem_cons, List.not_mem_nil, or_false] at hq
    have nd := kn_nd hk1
    simp only [List.map_cons, List.map_nil, List.nodup_cons, List.mem_cons, List.not_mem_nil, or_false, not_or] at nd
    rcases hq with rfl | rfl | rfl | rfl
    · exact (hk2.1 0 _ rfl).2
    · exact (hk2.1 1 _ rfl).2
    · rw [kn_off hk2 (by simp; exact ⟨Ne.symm nd.1.2.1, Ne.symm nd.2.1.1⟩)]; exact (hk1.1 2 _ rfl).2
    · rw [kn_off hk2 (by simp; exact ⟨Ne.symm nd.1.2.2, Ne.symm nd.2.1.2⟩)]; exact (hk1.1 3 _ rfl).2
  have hw : kw D cls (tyl k) L s s.heap f [(x, cW xl n g), (xl, cD k d), (o, cW ol n2 g2), (ol, cD k d2)] s.heap [] := ⟨f, hw, hk⟩
  -- METHOD W_subtract | loc 0=x 1=o | ws x xl o ol | fld x.limbs=xl o.limbs=ol
  refine lv_aload_n hx hb d_W_subtract_0 rfl (lv_at hl 0 rfl) ?_
  refine k_get hx hb hG lay_W hown hw 0 rfl rfl 2 (by decide) (hG _ fl_W_19) (fun _ h9 => h9) rfl d_W_subtract_1 ?_
  refine lv_aload_n hx hb d_W_subtract_4 rfl (lv_at hl 1 rfl) ?_
  refine k_get hx hb hG lay_W hown hw 2 rfl rfl 2 (by decide) (hG _ fl_W_19) (fun _ h9 => h9) rfl d_W_subtract_5 ?_
  refine lv_imul hx hb d_W_subtract_8 ?_
  refine l_top (show g * g2 = zI (v.sign * w.sign) by rw [eg, eg2, zI_mul]) ?_
  have hrng : rI (v.sign * w.sign) := by
    rcases Int.lt_trichotomy v 0 with h | h | h <;> rcases Int.lt_trichotomy w 0 with h' | h' | h' <;> simp [Int.sign_eq_neg_one_of_neg, Int.sign_eq_one_of_pos, h, h'] <;> exact ⟨by decide, by decide⟩
  refine lv_if_ge (tgt := 20) hx hb d_W_subtract_9 (by decide) (fun hc => ?_) (fun hc => ?_)
  · have hc' : 0 ≤ v.sign * w.sign := (zI_le (a := 0) ⟨by decide, by decide⟩ hrng).mp hc
    have hw := hg
    refine lv_aload_n hx hb d_W_subtract_20 rfl (lv_at hl 0 rfl) ?_
    refine lv_aload_n hx hb d_W_subtract_21 rfl (lv_at hl 1 rfl) ?_
    refine g_oi (c_V (np := 1) S (m_W_compareSize l D k L f x xl n o ol n2 g g2 d d2 (by omega) (by omega) hd hd2 (wr_top hv) (wr_top hv2) hk) hw ((hk.1 0 _ rfl).1) ((hk.1 0 _ rfl).2) rfl ml_W_52 im_W_compareSize se_W_W_compareSize in_W co_W_compareSize (by decide +kernel) rfl ⟨rfl, rfl, by decide, by decide⟩ hl.1 rfl (by simp [Value.category]) d_W_subtract_22 ⟨Nat.zero_le _, Nat.zero_le _⟩) hw (fun r1 f1 H locs hp hw2 => ?_)
    rw [hp.1] at hw2
    have hw := hw2
    have hcm := hp.2
    refine lv_if_lt (tgt := 37) hx hb d_W_subtract_25 (by decide) (fun hc => ?_) (fun hc => ?_)
    · have hlt : cd B30 n d < cd B30 n2 d2 := by
        rcases hcm with ⟨-, h⟩ | ⟨h, -⟩ | ⟨h, -⟩
        · exact h
        · rw [h] at hc; exact absurd hc (by decide)
        · rw [h] at hc; exact absurd hc (by decide)
      have hnn : n ≤ n2 := Nat.le_of_not_lt fun h => by
        have := cd_short (b := B30) (d := d2) (e := d) (fun i hi => hd2 i (by omega)) h (by decide) (wr_top hv (by omega))
        omega
      refine lv_aload_n hx hb d_W_subtract_37 rfl (lv_at hl 0 rfl) ?_
      refine lv_aload_n hx hb d_W_subtract_38 rfl (lv_at hl 1 rfl) ?_
      refine lv_aload_n hx hb d_W_subtract_39 rfl (lv_at hl 0 rfl) ?_
      refine g_ov (c_V (np := 2) S (m_W_diffB l D k L f x xl n o ol n2 g g2 d d2 (by omega) (by omega) hd hd2 (by omega) hnn hk) hw ((hk.1 0 _ rfl).1) ((hk.1 0 _ rfl).2) rfl ml_W_56 im_W_setDifference se_W_W_setDifference in_W co_W_setDifference (by decide +kernel) rfl ⟨rfl, rfl, by decide, by decide⟩ hl.1 rfl (by simp [Value.category]) d_W_subtract_40 ⟨Nat.zero_le _, Nat.zero_le _⟩) hw (fun f3 H locs hp3 hw => ?_)
      obtain ⟨r, hr1, hr2, hk3⟩ := hp3
      have hw : kw D cls (tyl k) L s s.heap f [(x, cW xl n2 g), (xl, cD k r), (o, cW ol n2 g2), (ol, cD k d2)] H locs := ⟨f3, hw, hk3⟩
      refine lv_aload_n hx hb d_W_subtract_43 rfl (lv_at hl 0 rfl) ?_
      refine lv_aload_n hx hb d_W_subtract_44 rfl (lv_at hl 1 rfl) ?_
      refine k_get hx hb hG lay_W hown hw 2 rfl rfl 2 (by decide) (hG _ fl_W_19) (fun _ h9 => h9) rfl d_W_subtract_45 ?_
      refine lv_ineg hx hb d_W_subtract_48 ?_
      refine k_put (ty := .int) hx hb hG lay_W ft_W ft_W_ok fn_W hown hw 0 rfl rfl 2 (by decide) (hG _ fl_W_19) (fun _ h9 => h9) rfl (by decide +kernel) rfl rfl (by simp) d_W_subtract_49 (fun H locs hw => ?_)
      obtain ⟨f4, hw, hk4⟩ := hw
      refine hend n2 (-g2) r f4 H locs ls (by omega) hr1 ?_ hl hw hk4
      rcases Int.lt_trichotomy w 0 with h | h | h
      · refine Or.inl ⟨by rw [eg2, Int.sign_eq_neg_one_of_neg h]; decide, ?_⟩
        have : v ≤ 0 := Int.le_of_not_gt fun h' => by rw [Int.sign_eq_one_of_pos h', Int.sign_eq_neg_one_of_neg h] at hc'; omega
        omega
      · omega
      · refine Or.inr (Or.inl ⟨by rw [eg2, Int.sign_eq_one_of_pos h]; decide, ?_⟩)
        have : 0 ≤ v := Int.le_of_not_gt fun h' => by rw [Int.sign_eq_neg_one_of_neg h', Int.sign_eq_one_of_pos h] at hc'; omega
        omega
    · have hge : cd B30 n2 d2 ≤ cd B30 n d := by
        rcases hcm with ⟨h, -⟩ | ⟨-, h⟩ | ⟨-, h⟩
        · rw [h] at hc; exact absurd (by decide) hc
        · omega
        · omega
      have hnn : n2 ≤ n := Nat.le_of_not_lt fun h => by
        have := cd_short (b := B30) (d := d) (e := d2) (fun i hi => hd i (by omega)) h (by decide) (wr_top hv2 (by omega))
        omega
      refine lv_aload_n hx hb d_W_subtract_28 rfl (lv_at hl 0 rfl) ?_
      refine lv_aload_n hx hb d_W_subtract_29 rfl (lv_at hl 0 rfl) ?_
      refine lv_aload_n hx hb d_W_subtract_30 rfl (lv_at hl 1 rfl) ?_
      refine g_ov (c_V (np := 2) S (m_W_diffA l D k L f x xl n o ol n2 g g2 d d2 (by omega) (by omega) hd hd2 hge hnn hk) hw ((hk.1 0 _ rfl).1) ((hk.1 0 _ rfl).2) rfl ml_W_56 im_W_setDifference se_W_W_setDifference in_W co_W_setDifference (by decide +kernel) rfl ⟨rfl, rfl, by decide, by decide⟩ hl.1 rfl (by simp [Value.category]) d_W_subtract_31 ⟨Nat.zero_le _, Nat.zero_le _⟩) hw (fun f3 H locs hp3 hw => ?_)
      refine lv_goto (tgt := 52) hx hb d_W_subtract_34 (by decide) ?_
      obtain ⟨r, hr1, hr2, hk3⟩ := hp3
      refine hend n g r f3 H locs ls (by omega) hr1 ?_ hl hw hk3
      rcases Int.lt_trichotomy v 0 with h | h | h
      · refine Or.inr (Or.inl ⟨by rw [eg, Int.sign_eq_neg_one_of_neg h]; decide, ?_⟩)
        have : w ≤ 0 := Int.le_of_not_gt fun h' => by rw [Int.sign_eq_one_of_pos h', Int.sign_eq_neg_one_of_neg h] at hc'; omega
        omega
      · exact Or.inr (Or.inr ⟨by omega, by omega⟩)
      · refine Or.inl ⟨by rw [eg, Int.sign_eq_one_of_pos h]; rfl, ?_⟩
        have : 0 ≤ w := Int.le_of_not_gt fun h' => by rw [Int.sign_eq_neg_one_of_neg h', Int.sign_eq_one_of_pos h] at hc'; omega
        omega
  · have hc' : v.sign * w.sign < 0 := Int.not_le.mp fun h => hc ((zI_le (a := 0) ⟨by decide, by decide⟩ hrng).mpr h)
    have hw := hg
    refine lv_aload_n hx hb d_W_subtract_12 rfl (lv_at hl 0 rfl) ?_
    refine lv_aload_n hx hb d_W_subtract_13 rfl (lv_at hl 1 rfl) ?_
    refine g_ov (c_V (np := 1) S (m_W_addSize l D k L f x xl n o ol n2 g g2 d d2 hn hn2 hd hd2 hk) hw ((hk.1 0 _ rfl).1) ((hk.1 0 _ rfl).2) rfl ml_W_48 im_W_addSize se_W_W_addSize in_W co_W_addSize (by decide +kernel) rfl ⟨rfl, rfl, by decide, by decide⟩ hl.1 rfl (by simp [Value.category]) d_W_subtract_14 ⟨Nat.zero_le _, Nat.zero_le _⟩) hw (fun f3 H locs hp3 hw => ?_)
    refine lv_goto (tgt := 52) hx hb d_W_subtract_17 (by decide) ?_
    obtain ⟨n', r, hn', hr1, hr2, hk3⟩ := hp3
    refine hend n' g r f3 H locs ls hn' hr1 ?_ hl hw hk3
    rcases Int.lt_trichotomy v 0 with h | h | h
    · refine Or.inr (Or.inl ⟨by rw [eg, Int.sign_eq_neg_one_of_neg h]; decide, ?_⟩)
      have : 0 < w := Int.lt_of_not_ge fun h' => by
        rw [Int.sign_eq_neg_one_of_neg h] at hc'
        rcases Int.lt_trichotomy w 0 with h2 | h2 | h2
        · rw [Int.sign_eq_neg_one_of_neg h2] at hc'; omega
        · rw [h2] at hc'; exact absurd hc' (by decide)
        · omega
      omega
    · rw [h] at hc'; simp at hc'
    · refine Or.inl ⟨by rw [eg, Int.sign_eq_one_of_pos h]; rfl, ?_⟩
      have : w < 0 := Int.lt_of_not_ge fun h' => by
        rw [Int.sign_eq_one_of_pos h] at hc'
        rcases Int.lt_trichotomy w 0 with h2 | h2 | h2
        · omega
        · rw [h2] at hc'; exact absurd hc' (by decide)
        · rw [Int.sign_eq_one_of_pos h2] at hc'; omega
      omega


-- ===== Whole: compareSize, addSize, setDifference =====
/-- how two sizes compare -/
def cmpR (r : Int32) (A B : Nat) : Prop := (r = -1 ∧ A < B) ∨ (r = 0 ∧ A = B) ∨ (r = 1 ∧ B < A)
theorem cmpR_of {a b : Nat} (ha : a < 2147483648) (hb : b < 2147483648) {A B : Nat} (h1 : a < b → A < B) (h2 : b < a → B < A) (h3 : a ≠ b) : cmpR (if nI a < nI b then -1 else if nI a = nI b then 0 else 1) A B := by
  by_cases h : a < b
  · rw [if_pos (nI_lt h (by omega))]; exact Or.inl ⟨rfl, h1 h⟩
  · rw [if_neg (nI_nlt (by omega) (by omega)), if_neg (fun e => h3 ((nI_eq (by omega) (by omega)).mp e))]
    exact Or.inr (Or.inr ⟨rfl, h2 (by omega)⟩)
section CMP
variable {p : Program} {l : Launch} {e : Env} {R : Room} {s : State} {m : MethodId} {args : Array Value} {below : List Frame} {meth : Method} {c : Code} {cells slots : Nat} {Q : State → Prop} {D : va_G} {k : Nat → ClassId} {L : List Nat} {f0 : Nat → va_E} {H0 : Heap}
set_option maxRecDepth 100000 in
set_option maxHeartbeats 4000000 in
theorem w_cmp (S : CallFix p m c c_W_compareSize 3 s args G R_W) (hrR : (30 : Nat) * 1 ≤ R.locals ∧ 1 ≤ R.frames) (hr : meth.sig.returnType = some .int) (hlocks : meth.locks = false) {x xl o ol n : Nat} {g g2 : Int32} {d d2 : Nat → Nat} (hn : n ≤ 12) (hd : ∀ i, i < 12 → d i < B30) (hd2 : ∀ i, i < 12 → d2 i < B30) (hg : gw D cls (tyl k) L s s.heap f0 s.heap []) (hk : kn L f0 f0 [(x, cW xl n g), (xl, cD k d), (o, cW ol n g2), (ol, cD k d2)]) :
    ∀ (j : Nat) (ls : Array Slot), j ≤ n → (∀ i, j ≤ i → i < n → d i = d2 i) → lv_has ls 3 [(0, .ref x), (1, .ref o), (2, .int (zI ((j : Int) - 1)))] →
    W p l e R s m args below meth c s.heap [] 0 0 (MQ below (va_Qi (fun r f' => f' = f0 ∧ cmpR r (cd B30 n d) (cd B30 n d2)) (mst D cls (tyl k) L) (fun q => q ∈ L)) args s 0 0 (fun q => q ∈ L)) (F0 m 30 ls []) := by
  have hx := S.1
  have hb := S.2.1
  have hown : s.vm.findClass R_W = some m.cls := S.2.2.2.1
  have hG := S.2.2.2.2
  intro j
  induction j with
  | zero =>
    intro ls _ he hl
    have hw : kw D cls (tyl k) L s s.heap f0 [(x, cW xl n g), (xl, cD k d), (o, cW ol n g2), (ol, cD k d2)] s.heap [] := ⟨f0, hg, hk⟩
    -- METHOD W_compareSize | loc 0=x 1=o 2=i | ws x xl o ol | fld x.limbs=xl o.limbs=ol
    refine lv_iload_n hx hb d_W_compareSize_30 rfl (lv_at hl 2 rfl) ?_
    refine lv_if_lt (tgt := 71) hx hb d_W_compareSize_31 (by decide) (fun hc => ?_) (fun hc => ?_)
    · -- STK
      refine lv_iconst (v := 0) hx hb d_W_compareSize_71 (by decide) ?_
      exact g_reti hx hb hr hlocks hg ⟨rfl, Or.inr (Or.inl ⟨rfl, cd_congr n (fun i hi => he i (by omega) hi)⟩)⟩ d_W_compareSize_72
    · exact absurd (by decide) hc
  | succ j ih =>
    intro ls hj he hl
    have hw : kw D cls (tyl k) L s s.heap f0 [(x, cW xl n g), (xl, cD k d), (o, cW ol n g2), (ol, cD k d2)] s.heap [] := ⟨f0, hg, hk⟩
    have ej : zI (((j + 1 : Nat) : Int) - 1) = nI j := by rw [← zI_n]; congr 1; omega
    rw [ej] at hl
    -- METHOD W_compareSize | loc 0=x 1=o 2=i | ws x xl o ol | fld x.limbs=xl o.limbs=ol
    refine lv_iload_n hx hb d_W_compareSize_30 rfl (lv_at hl 2 rfl) ?_
    refine lv_if_lt (tgt := 71) hx hb d_W_compareSize_31 (by decide) (fun hc => ?_) (fun hc => ?_)
    · exact absurd hc (nI_pos (by omega))
    · -- STK
      refine lv_aload_n hx hb d_W_compareSize_34 rfl (lv_at hl 0 rfl) ?_
      refine k_get hx hb hG lay_W hown hw 0 rfl rfl 0 (by decide) (hG _ fl_W_11) (fun _ h9 => h9) rfl d_W_compareSize_35 ?_
      refine lv_iload_n hx hb d_W_compareSize_38 rfl (lv_at hl 2 rfl) ?_
      refine k_iald hx hb hw 1 0 rfl rfl (j) (rfl) (by omega) (by first | decide | omega) d_W_compareSize_39 ?_
      refine lv_aload_n hx hb d_W_compareSize_40 rfl (lv_at hl 1 rfl) ?_
      refine k_get hx hb hG lay_W hown hw 2 rfl rfl 0 (by decide) (hG _ fl_W_11) (fun _ h9 => h9) rfl d_W_compareSize_41 ?_
      refine lv_iload_n hx hb d_W_compareSize_44 rfl (lv_at hl 2 rfl) ?_
      refine k_iald hx hb hw 3 0 rfl rfl (j) (rfl) (by omega) (by first | decide | omega) d_W_compareSize_45 ?_
      refine lv_icmp_eq (tgt := 65) hx hb d_W_compareSize_46 (by decide) (fun hc => ?_) (fun hc => ?_)
      · have hdj : d j = d2 j := (nI_eq (dI (hd j (by omega))) (dI (hd2 j (by omega)))).mp hc
        refine lv_iinc (k := 2) hx hb d_W_compareSize_65 hl rfl rfl (by decide) rfl (fun ls hl => ?_)
        refine lv_goto (tgt := 30) hx hb d_W_compareSize_68 (by decide) ?_
        have hl := lv_sub hl [1, 2, 0] rfl
        refine ih ls (by omega) (fun i h1 h2 => ?_) (show lv_has ls 3 [(0, .ref x), (1, .ref o), (2, .int (zI ((j : Int) - 1)))] from ?_)
        · by_cases e : i = j
          · rw [e]; exact hdj
          · exact he i (by omega) h2
        · have e2 : nI j + Int32.ofInt (-1) = zI ((j : Int) - 1) := by rw [← zI_n]; show zI _ + zI _ = _; rw [zI_add]; congr 1
          rw [← e2]; exact hl
      · have hne : d j ≠ d2 j := fun h => hc (by show nI (d j) = nI (d2 j); rw [h])
        refine lv_aload_n hx hb d_W_compareSize_49 rfl (lv_at hl 0 rfl) ?_
        refine k_get hx hb hG lay_W hown hw 0 rfl rfl 0 (by decide) (hG _ fl_W_11) (fun _ h9 => h9) rfl d_W_compareSize_50 ?_
        refine lv_iload_n hx hb d_W_compareSize_53 rfl (lv_at hl 2 rfl) ?_
        refine k_iald hx hb hw 1 0 rfl rfl (j) (rfl) (by omega) (by first | decide | omega) d_W_compareSize_54 ?_
        refine lv_aload_n hx hb d_W_compareSize_55 rfl (lv_at hl 1 rfl) ?_
        refine k_get hx hb hG lay_W hown hw 2 rfl rfl 0 (by decide) (hG _ fl_W_11) (fun _ h9 => h9) rfl d_W_compareSize_56 ?_
        refine lv_iload_n hx hb d_W_compareSize_59 rfl (lv_at hl 2 rfl) ?_
        refine k_iald hx hb hw 3 0 rfl rfl (j) (rfl) (by omega) (by first | decide | omega) d_W_compareSize_60 ?_
        have hw := hg
        refine g_oi (c_X (np := 2) S (m_compare l D k L f0 (nI (d j)) (nI (d2 j))) hw ml_W_80 st_JI_compare in_JI co_JI_compare (by decide +kernel) rfl ⟨rfl, rfl, by have := hrR.2; show 0 + 1 ≤ R.frames; omega, by have := hrR.1; show 8 + (2 + 11) + 30 * 0 ≤ R.locals; omega⟩ hl.1 rfl (by simp) d_W_compareSize_61 ⟨Nat.zero_le _, Nat.zero_le _⟩) hw (fun r f2 H2 locs2 hp hw2 => ?_)
        refine g_reti hx hb hr hlocks hw2 ⟨hp.1, ?_⟩ d_W_compareSize_64
        rw [hp.2]
        exact cmpR_of (dI (hd j (by omega))) (dI (hd2 j (by omega))) (fun h => cd_cmp (fun i hi => hd i (by omega)) (show j < n by omega) (fun i h1 h2 => he i (by omega) h2) h) (fun h => cd_cmp (fun i hi => hd2 i (by omega)) (show j < n by omega) (fun i h1 h2 => (he i (by omega) h2).symm) h) hne
end CMP
set_option maxRecDepth 100000 in
set_option maxHeartbeats 4000000 in
theorem m_W_compareSize (l : Launch) (D : va_G) (k : Nat → ClassId) (L : List Nat) (f : Nat → va_E) (x xl n o ol n2 : Nat) (g g2 : Int32) (d d2 : Nat → Nat) (hn : n ≤ 12) (hn2 : n2 ≤ 12) (hd : ∀ i, i < 12 → d i < B30) (hd2 : ∀ i, i < 12 → d2 i < B30) (ht : 0 < n → d (n - 1) ≠ 0) (ht2 : 0 < n2 → d2 (n2 - 1) ≠ 0) (hk : kn L f f [(x, cW xl n g), (xl, cD k d), (o, cW ol n2 g2), (ol, cD k d2)]) : Mi l y_W_compareSize (Cond.code y_W_compareSize c_W_compareSize 3 (some .int) :: G) (rmN 1) D cls (tyl k) L f [.ref x, .ref o] (fun r f' => f' = f ∧ cmpR r (cd B30 n d) (cd B30 n2 d2)) := by
  -- METHOD W_compareSize | loc 0=x 1=o | ws x xl o ol | fld x.limbs=xl o.limbs=ol
  refine mk_met (by decide) (Nat.le_of_ble_eq_true rfl) (fun p e s m below meth c ls S hr hlocks hw hl => ?_)
  have hx := S.1
  have hb := S.2.1
  have hown : s.vm.findClass R_W = some m.cls := S.2.2.2.1
  have hG := S.2.2.2.2
  have hl : lv_has ls 3 [(0, .ref x), (1, .ref o)] := hl
  have hg := hw
  have hw : kw D cls (tyl k) L s s.heap f [(x, cW xl n g), (xl, cD k d), (o, cW ol n2 g2), (ol, cD k d2)] s.heap [] := ⟨f, hw, hk⟩
  refine lv_aload_n hx hb d_W_compareSize_0 rfl (lv_at hl 0 rfl) ?_
  refine k_get hx hb hG lay_W hown hw 0 rfl rfl 1 (by decide) (hG _ fl_W_15) (fun _ h9 => h9) rfl d_W_compareSize_1 ?_
  refine lv_aload_n hx hb d_W_compareSize_4 rfl (lv_at hl 1 rfl) ?_
  refine k_get hx hb hG lay_W hown hw 2 rfl rfl 1 (by decide) (hG _ fl_W_15) (fun _ h9 => h9) rfl d_W_compareSize_5 ?_
  refine lv_icmp_eq (tgt := 23) hx hb d_W_compareSize_8 (by decide) (fun hc => ?_) (fun hc => ?_)
  · have hnn : n = n2 := (nI_eq (by omega) (by omega)).mp hc
    subst hnn
    refine lv_aload_n hx hb d_W_compareSize_23 rfl (lv_at hl 0 rfl) ?_
    refine k_get hx hb hG lay_W hown hw 0 rfl rfl 1 (by decide) (hG _ fl_W_15) (fun _ h9 => h9) rfl d_W_compareSize_24 ?_
    refine lv_iconst (v := 1) hx hb d_W_compareSize_27 (by decide) ?_
    refine lv_isub hx hb d_W_compareSize_28 ?_
    refine lv_istore_n hx hb d_W_compareSize_29 rfl hl (by decide) rfl (fun ls hl => ?_)
    have hl := lv_sub hl [1, 2, 0] rfl
    refine w_cmp S ⟨by decide, by decide⟩ hr hlocks hn hd hd2 hg hk n ls (Nat.le_refl _) (fun i h1 h2 => by omega) ?_
    have e2 : nI n - 1 = zI ((n : Int) - 1) := by rw [← zI_n, z_1, zI_sub]
    rw [← e2]; exact hl
  · have hne : n ≠ n2 := fun h => hc (by rw [h])
    refine lv_aload_n hx hb d_W_compareSize_11 rfl (lv_at hl 0 rfl) ?_
    refine k_get hx hb hG lay_W hown hw 0 rfl rfl 1 (by decide) (hG _ fl_W_15) (fun _ h9 => h9) rfl d_W_compareSize_12 ?_
    refine lv_aload_n hx hb d_W_compareSize_15 rfl (lv_at hl 1 rfl) ?_
    refine k_get hx hb hG lay_W hown hw 2 rfl rfl 1 (by decide) (hG _ fl_W_15) (fun _ h9 => h9) rfl d_W_compareSize_16 ?_
    have hw := hg
    refine g_oi (c_X (np := 2) S (m_compare l D k L f (nI n) (nI n2)) hw ml_W_80 st_JI_compare in_JI co_JI_compare (by decide +kernel) rfl ⟨rfl, rfl, by decide, by decide⟩ hl.1 rfl (by simp [Value.category]) d_W_compareSize_19 ⟨Nat.zero_le _, Nat.zero_le _⟩) hw (fun r f2 H2 locs2 hp hw2 => ?_)
    refine g_reti hx hb hr hlocks hw2 ⟨hp.1, ?_⟩ d_W_compareSize_22
    rw [hp.2]
    exact cmpR_of (by omega) (by omega) (fun h => cd_short (fun i hi => hd i (by omega)) h (by decide) (ht2 (by omega))) (fun h => cd_short (fun i hi => hd2 i (by omega)) h (by decide) (ht (by omega))) hne
theorem cd_put {b : Nat} (i v : Nat) (d : Nat → Nat) : cd b (i + 1) (va_up d i v) = cd b i d + v * b ^ i := by
  show cd b i (va_up d i v) + va_up d i v i * b ^ i = _
  rw [va_up_self, cd_congr i (fun t ht => va_up_ne d v (by omega))]
theorem add_step {B i cy a b S : Nat} {r : Nat → Nat} (h : cd B i r + cy * B ^ i = S) : cd B (i + 1) (va_up r i ((cy + (a + b)) % B)) + (cy + (a + b)) / B * B ^ (i + 1) = S + (a + b) * B ^ i := by
  rw [cd_put, Nat.pow_succ]
  have h1 := Nat.mod_add_div (cy + (a + b)) B
  generalize (cy + (a + b)) % B = u at h1 ⊢
  generalize (cy + (a + b)) / B = w at h1 ⊢
  generalize B ^ i = P at h ⊢
  have h2 : (u + B * w) * P = (cy + (a + b)) * P := by rw [h1]
  rw [Nat.add_mul, Nat.add_mul] at h2
  have h3 : w * (P * B) = B * w * P := by rw [Nat.mul_comm B w, Nat.mul_assoc, Nat.mul_comm P B]
  omega
section ADD
variable {p : Program} {l : Launch} {e : Env} {s : State} {m : MethodId} {args : Array Value} {below : List Frame} {meth : Method} {c : Code} {Q : State → Prop} {D : va_G} {k : Nat → ClassId} {L : List Nat} {f0 : Nat → va_E} {H0 : Heap}
set_option maxRecDepth 100000 in
set_option maxHeartbeats 4000000 in
theorem w_add (S : CallFix p m c c_W_addSize 5 s args G R_W) {x xl o ol n n2 en : Nat} {g g2 : Int32} {d d2 : Nat → Nat} (hn : n ≤ 12) (hn2 : n2 ≤ 12) (hen : en ≤ 11) (hd2 : ∀ i, i < 12 → d2 i < B30) :
    ∀ (j i cy : Nat) (r : Nat → Nat) (H : Heap) (locs : List Loc) (ls : Array Slot), i + j = en → cy ≤ 1 → (∀ t, t < 12 → r t < B30) → (∀ t, i ≤ t → r t = d t) → cd B30 i r + cy * B30 ^ i = cd B30 i (fun t => if t < n then d t else 0) + cd B30 i (fun t => if t < n2 then d2 t else 0) →
    lv_has ls 5 [(0, .ref x), (1, .ref o), (2, .int (nI en)), (3, .int (nI cy)), (4, .int (nI i))] → kw D cls (tyl k) L s H0 f0 [(x, cW xl n g), (xl, cD k r), (o, cW ol n2 g2), (ol, cD k d2)] H locs →
    (∀ (cy : Nat) (r : Nat → Nat) (H : Heap) (locs : List Loc) (ls : Array Slot), cy ≤ 1 → (∀ t, t < 12 → r t < B30) → cd B30 en r + cy * B30 ^ en = cd B30 en (fun t => if t < n then d t else 0) + cd B30 en (fun t => if t < n2 then d2 t else 0) → lv_has ls 5 [(0, .ref x), (1, .ref o), (2, .int (nI en)), (3, .int (nI cy)), (4, .int (nI en))] → kw D cls (tyl k) L s H0 f0 [(x, cW xl n g), (xl, cD k r), (o, cW ol n2 g2), (ol, cD k d2)] H locs → W p l e (rmN 1) s m args below meth c H locs 0 0 Q (F0 m 66 ls [])) →
    W p l e (rmN 1) s m args below meth c H locs 0 0 Q (F0 m 22 ls []) := by
  have hx := S.1
  have hb := S.2.1
  have hown : s.vm.findClass R_W = some m.cls := S.2.2.2.1
  have hG := S.2.2.2.2
  intro j
  induction j with
  | zero =>
    intro i cy r H locs ls hij hcy hrr hrd he hl hw kx
    have hij : i = en := by omega
    subst hij
    -- METHOD W_addSize | loc 0=x 1=o 2=en 3=cy 4=i | ws x xl o ol | fld x.limbs=xl o.limbs=ol
    refine lv_iload hx hb d_W_addSize_22 (lv_at hl 4 rfl) ?_
    refine lv_iload_n hx hb d_W_addSize_24 rfl (lv_at hl 2 rfl) ?_
    refine lv_icmp_ge (tgt := 66) hx hb d_W_addSize_25 (by decide) (fun hc => ?_) (fun hc => ?_)
    · exact kx cy r H locs ls hcy hrr he hl hw
    · exact absurd (nI_le (Nat.le_refl _) (by omega)) hc
  | succ j ih =>
    intro i cy r H locs ls hij hcy hrr hrd he hl hw kx
    -- METHOD W_addSize | loc 0=x 1=o 2=en 3=cy 4=i | ws x xl o ol | fld x.limbs=xl o.limbs=ol
    refine lv_iload hx hb d_W_addSize_22 (lv_at hl 4 rfl) ?_
    refine lv_iload_n hx hb d_W_addSize_24 rfl (lv_at hl 2 rfl) ?_
    refine lv_icmp_ge (tgt := 66) hx hb d_W_addSize_25 (by decide) (fun hc => ?_) (fun hc => ?_)
    · exact absurd hc (nI_ge (by omega) (by omega))
    · obtain ⟨f, hw, hk⟩ := hw
      refine lv_iload_n hx hb d_W_addSize_28 rfl (lv_at hl 3 rfl) ?_
      refine lv_aload_n hx hb d_W_addSize_29 rfl (lv_at hl 0 rfl) ?_
      refine lv_iload hx hb d_W_addSize_30 (lv_at hl 4 rfl) ?_
      refine g_oi (c_V (np := 1) S (m_W_limbAt l D k L f x xl n g r i hn (by omega) (kn_sub hk [0, 1] rfl rfl)) hw ((hk.1 0 _ rfl).1) ((hk.1 0 _ rfl).2) rfl ml_W_88 im_W_limbAt se_W_W_limbAt in_W co_W_limbAt (by decide +kernel) rfl ⟨rfl, rfl, by decide, by decide⟩ hl.1 rfl (by simp [Value.category]) d_W_addSize_32 ⟨Nat.zero_le _, Nat.zero_le _⟩) hw (fun r1 f1 H locs hp hw2 => ?_)
      rw [hp.1] at hw2
      have hw := hw2
      refine l_top hp.2 ?_
      refine lv_aload_n hx hb d_W_addSize_35 rfl (lv_at hl 1 rfl) ?_
      refine lv_iload hx hb d_W_addSize_36 (lv_at hl 4 rfl) ?_
      refine g_oi (c_V (np := 1) S (m_W_limbAt l D k L f o ol n2 g2 d2 i hn2 (by omega) (kn_sub hk [2, 3] rfl rfl)) hw ((hk.1 2 _ rfl).1) ((hk.1 2 _ rfl).2) rfl ml_W_88 im_W_limbAt se_W_W_limbAt in_W co_W_limbAt (by decide +kernel) rfl ⟨rfl, rfl, by decide, by decide⟩ hl.1 rfl (by simp [Value.category]) d_W_addSize_38 ⟨Nat.zero_le _, Nat.zero_le _⟩) hw (fun r2 f2 H locs hp2 hw3 => ?_)
      rw [hp2.1] at hw3
      have hw : kw D cls (tyl k) L s H0 f0 [(x, cW xl n g), (xl, cD k r), (o, cW ol n2 g2), (ol, cD k d2)] H locs := ⟨f, hw3, hk⟩
      refine l_top hp2.2 ?_
      have ea : (if i < n then r i else 0) = (if i < n then d i else 0) := by rw [hrd i (Nat.le_refl _)]
      rw [ea]
      have ha : (if i < n then d i else 0) < B30 := by
        by_cases h : i < n
        · rw [if_pos h, ← hrd i (Nat.le_refl _)]; exact hrr i (by omega)
        · rw [if_neg h]; decide
      have hb2 : (if i < n2 then d2 i else 0) < B30 := by
        by_cases h : i < n2
        · rw [if_pos h]; exact hd2 i (by omega)
        · rw [if_neg h]; decide
      generalize hA : (if i < n then d i else 0) = A at ha ⊢
      generalize hB : (if i < n2 then d2 i else 0) = B at hb2 ⊢
      have hB30 : B30 = 1073741824 := rfl
      refine lv_iadd hx hb d_W_addSize_41 ?_
      refine l_top (nI_add _ _) ?_
      refine lv_iadd hx hb d_W_addSize_42 ?_
      refine l_top (nI_add _ _) ?_
      refine lv_istore_n hx hb d_W_addSize_43 rfl hl (by decide) rfl (fun ls hl => ?_)
      refine lv_aload_n hx hb d_W_addSize_44 rfl (lv_at hl 1 rfl) ?_
      refine k_get hx hb hG lay_W hown hw 0 rfl rfl 0 (by decide) (hG _ fl_W_11) (fun _ h9 => h9) rfl d_W_addSize_45 ?_
      refine lv_iload hx hb d_W_addSize_48 (lv_at hl 4 rfl) ?_
      refine lv_iload_n hx hb d_W_addSize_50 rfl (lv_at hl 0 rfl) ?_
      refine lv_ldc hx hb hown (hG _ ct_W_91) d_W_addSize_51 ?_
      refine lv_iand hx hb d_W_addSize_53 ?_
      refine l_top (pk_andN (by omega) 30 (by decide)) ?_
      refine k_iast hx hb hw 1 0 rfl rfl (i) (rfl) (by omega) (by first | decide | omega) d_W_addSize_54 (fun H locs hw => ?_)
      rw [nD_upd] at hw
      refine lv_iload_n hx hb d_W_addSize_55 rfl (lv_at hl 0 rfl) ?_
      refine lv_bipush (v := 30) hx hb d_W_addSize_56 (by decide) ?_
      refine lv_ishr hx hb d_W_addSize_58 ?_
      refine l_top (pk_shrN (by omega) _ 30 (by decide)) ?_
      refine lv_istore_n hx hb d_W_addSize_59 rfl hl (by decide) rfl (fun ls hl => ?_)
      refine lv_iinc (k := 4) hx hb d_W_addSize_60 hl rfl (ii1 i) (by decide) rfl (fun ls hl => ?_)
      refine lv_goto (tgt := 22) hx hb d_W_addSize_63 (by decide) ?_
      have hl := lv_sub hl [2, 3, 4, 1, 0] rfl
      have e1 : (cy + (A + B)) % 2 ^ 30 = (cy + (A + B)) % B30 := rfl
      have e2 : (cy + (A + B)) / 2 ^ 30 = (cy + (A + B)) / B30 := rfl
      rw [e1] at hw
      rw [e2] at hl
      refine ih (i + 1) ((cy + (A + B)) / B30) (va_up r i ((cy + (A + B)) % B30)) H locs ls (by omega) ?_ (fun t ht => ?_) (fun t ht => ?_) ?_ hl hw kx
      · have : (cy + (A + B)) / B30 < 2 := by rw [Nat.div_lt_iff_lt_mul (by decide)]; omega
        omega
      · by_cases e : t = i
        · rw [e, va_up_self]; exact Nat.mod_lt _ (by decide)
        · rw [va_up_ne _ _ e]; exact hrr t ht
      · rw [va_up_ne _ _ (by omega)]; exact hrd t (by omega)
      · rw [add_step he]
        show _ = (cd B30 i _ + (if i < n then d i else 0) * B30 ^ i) + (cd B30 i _ + (if i < n2 then d2 i else 0) * B30 ^ i)
        rw [hA, hB, Nat.add_mul]
        omega
end ADD
set_option maxRecDepth 100000 in
set_option maxHeartbeats 4000000 in
/-- addSize(o): the size grows by the other's; zeros may stand at the top -/
theorem m_W_addSize (l : Launch) (D : va_G) (k : Nat → ClassId) (L : List Nat) (f : Nat → va_E) (x xl n o ol n2 : Nat) (g g2 : Int32) (d d2 : Nat → Nat) (hn : n ≤ 11) (hn2 : n2 ≤ 11) (hd : ∀ i, i < 12 → d i < B30) (hd2 : ∀ i, i < 12 → d2 i < B30) (hk : kn L f f [(x, cW xl n g), (xl, cD k d), (o, cW ol n2 g2), (ol, cD k d2)]) : Mv l y_W_addSize (Cond.code y_W_addSize c_W_addSize 5 none :: G) (rmN 1) D cls (tyl k) L f [.ref x, .ref o] (fun f' => ∃ (n' : Nat) (r : Nat → Nat), n' ≤ 12 ∧ (∀ i, i < 12 → r i < B30) ∧ cd B30 n' r = cd B30 n d + cd B30 n2 d2 ∧ kn L f f' [(x, cW xl n' g), (xl, cD k r), (o, cW ol n2 g2), (ol, cD k d2)]) := by
  -- METHOD W_addSize | loc 0=x 1=o | ws x xl o ol | fld x.limbs=xl o.limbs=ol
  refine mk_met (by decide) (Nat.le_of_ble_eq_true rfl) (fun p e s m below meth c ls S hr hlocks hw hl => ?_)
  have hx := S.1
  have hb := S.2.1
  have hown : s.vm.findClass R_W = some m.cls := S.2.2.2.1
  have hG := S.2.2.2.2
  have hl : lv_has ls 5 [(0, .ref x), (1, .ref o)] := hl
  have hg := hw
  have hw : kw D cls (tyl k) L s s.heap f [(x, cW xl n g), (xl, cD k d), (o, cW ol n2 g2), (ol, cD k d2)] s.heap [] := ⟨f, hw, hk⟩
  refine lv_aload_n hx hb d_W_addSize_0 rfl (lv_at hl 0 rfl) ?_
  refine k_get hx hb hG lay_W hown hw 0 rfl rfl 1 (by decide) (hG _ fl_W_15) (fun _ h9 => h9) rfl d_W_addSize_1 ?_
  refine lv_aload_n hx hb d_W_addSize_4 rfl (lv_at hl 1 rfl) ?_
  refine k_get hx hb hG lay_W hown hw 2 rfl rfl 1 (by decide) (hG _ fl_W_15) (fun _ h9 => h9) rfl d_W_addSize_5 ?_
  have hw := hg
  refine g_oi (c_X (np := 2) S (m_max l D k L f (nI n) (nI n2)) hw ml_W_84 st_JM_max_1 in_JM co_JM_max_1 (by decide +kernel) rfl ⟨rfl, rfl, by decide, by decide⟩ hl.1 rfl (by simp [Value.category]) d_W_addSize_8 ⟨Nat.zero_le _, Nat.zero_le _⟩) hw (fun r1 f1 H locs hp hw2 => ?_)
  have e1 : r1 = nI (max n n2) := by
    rw [hp.2]
    by_cases h : n < n2
    · rw [if_pos (nI_lt h (by omega)), Nat.max_eq_right (by omega)]
    · rw [if_neg (nI_nlt (by omega) (by omega)), Nat.max_eq_left (by omega)]
  rw [hp.1] at hw2
  have hw := hw2
  refine l_top e1 ?_
  refine lv_bipush (v := 11) hx hb d_W_addSize_11 (by decide) ?_
  refine g_oi (c_X (np := 2) S (m_min l D k L f (nI (max n n2)) 11) hw ml_W_86 st_JM_min_1 in_JM co_JM_min_1 (by decide +kernel) rfl ⟨rfl, rfl, by decide, by decide⟩ hl.1 rfl (by simp [Value.category]) d_W_addSize_13 ⟨Nat.zero_le _, Nat.zero_le _⟩) hw (fun r2 f2 H locs hp2 hw3 => ?_)
  have e2 : r2 = nI (max n n2) := by
    rw [hp2.2, if_neg]
    exact nI_nlt (a := 11) (b := max n n2) (by omega) (by omega)
  rw [hp2.1] at hw3
  refine l_top e2 ?_
  have hw : kw D cls (tyl k) L s s.heap f [(x, cW xl n g), (xl, cD k d), (o, cW ol n2 g2), (ol, cD k d2)] H locs := ⟨f, hw3, hk⟩
  refine lv_istore_n hx hb d_W_addSize_16 rfl hl (by decide) rfl (fun ls hl => ?_)
  refine lv_iconst (v := 0) hx hb d_W_addSize_17 (by decide) ?_
  refine lv_istore_n hx hb d_W_addSize_18 rfl hl (by decide) rfl (fun ls hl => ?_)
  refine lv_iconst (v := 0) hx hb d_W_addSize_19 (by decide) ?_
  refine lv_istore hx hb d_W_addSize_20 hl (by decide) rfl (fun ls hl => ?_)
  have hl := lv_sub hl [3, 4, 2, 1, 0] rfl
  refine w_add (d := d) S (by omega) (by omega) (show max n n2 ≤ 11 by omega) hd2 (max n n2) 0 0 d _ _ ls (by omega) (by omega) hd (fun _ _ => rfl) rfl hl hw (fun cy r H locs ls hcy hrr he hl hw => ?_)
  -- METHOD W_addSize | loc 0=x 1=o 2=en 3=cy 4=i | ws x xl o ol | fld x.limbs=xl o.limbs=ol
  refine lv_aload_n hx hb d_W_addSize_66 rfl (lv_at hl 0 rfl) ?_
  refine k_get hx hb hG lay_W hown hw 0 rfl rfl 0 (by decide) (hG _ fl_W_11) (fun _ h9 => h9) rfl d_W_addSize_67 ?_
  refine lv_iload_n hx hb d_W_addSize_70 rfl (lv_at hl 2 rfl) ?_
  refine lv_iload_n hx hb d_W_addSize_71 rfl (lv_at hl 3 rfl) ?_
  refine k_iast hx hb hw 1 0 rfl rfl ((max n n2)) (rfl) (by omega) (by first | decide | omega) d_W_addSize_72 (fun H locs hw => ?_)
  rw [nD_upd] at hw
  refine lv_aload_n hx hb d_W_addSize_73 rfl (lv_at hl 0 rfl) ?_
  refine lv_iload_n hx hb d_W_addSize_74 rfl (lv_at hl 2 rfl) ?_
  refine lv_iconst (v := 1) hx hb d_W_addSize_75 (by decide) ?_
  refine lv_iadd hx hb d_W_addSize_76 ?_
  refine l_top (nI_1 _) ?_
  refine k_put (ty := .int) hx hb hG lay_W ft_W ft_W_ok fn_W hown hw 0 rfl rfl 1 (by decide) (hG _ fl_W_15) (fun _ h9 => h9) rfl (by decide +kernel) rfl rfl (by simp) d_W_addSize_77 (fun H locs hw => ?_)
  obtain ⟨f', hw, hk'⟩ := hw
  refine g_retv hx hb hr hlocks hw ⟨max n n2 + 1, va_up r (max n n2) cy, by omega, fun t ht => ?_, ?_, hk'⟩ d_W_addSize_80
  · by_cases e : t = max n n2
    · rw [e, va_up_self]; unfold B30; omega
    · rw [va_up_ne _ _ e]; exact hrr t ht
  · rw [cd_put, he]
    have q1 : cd B30 (max n n2) (fun t => if t < n then d t else 0) = cd B30 n d := by
      rw [cd_top (m := n) (by omega) (fun i h1 _ => if_neg (by omega))]
      exact cd_congr n (fun i hi => if_pos hi)
    have q2 : cd B30 (max n n2) (fun t => if t < n2 then d2 t else 0) = cd B30 n2 d2 := by
      rw [cd_top (m := n2) (by omega) (fun i h1 _ => if_neg (by omega))]
      exact cd_congr n2 (fun i hi => if_pos hi)
    rw [q1, q2]


-- ===== Table: copyNumbers dropFirstRows dropColumns toldDigit =====
theorem nm_ext {w w' : Nat → Int32} {j j' : Nat} {v : Int} (h : nm w j v) (hw : ∀ i, i < 6 → w' (j' * 6 + i) = w (j * 6 + i)) : nm w' j' v := by
  obtain ⟨n, d, h1, h2, h3, h4, h5⟩ := h
  refine ⟨n, d, h1, fun i hi => ⟨?_, (h2 i hi).2⟩, h3, ?_, h5⟩
  · have := hw (1 + i) (by omega)
    rw [← Nat.add_assoc, ← Nat.add_assoc] at this
    rw [this]; exact (h2 i hi).1
  · have := hw 0 (by omega)
    rw [Nat.add_zero, Nat.add_zero] at this
    rw [this]; exact h4
section CN
variable {p : Program} {l : Launch} {e : Env} {s : State} {m : MethodId} {args : Array Value} {below : List Frame} {meth : Method} {c : Code} {Q : State → Prop} {D : va_G} {k : Nat → ClassId} {L : List Nat} {H0 : Heap}
variable {own : Nat → Nat} {τ t pa nu : Nat} {rs : Nat → Nat} {fd : Int32} {rows cols : Nat} {rd : Int32} {P : Nat → Int32} {Wt : Nat → Nat → Int32} {τ2 t2 pa2 nu2 : Nat} {rs2 : Nat → Nat} {fd2 : Int32} {rows2 cols2 : Nat} {rd2 : Int32} {P2 : Nat → Int32} {W2 : Nat → Nat → Int32}
set_option maxRecDepth 100000 in
set_option maxHeartbeats 4000000 in
theorem w_cn (S : CallFix p m c c_T_copyNumbers 6 s args G R_T) (hr : meth.sig.returnType = none) (hlocks : meth.locks = false) {fr fc : Nat} (hrows2 : fr + rows2 ≤ 12) (hcols2 : fc + cols2 ≤ 12) (hne : τ2 ≠ τ) {W0 : Nat → Nat → Int32} {f0 : Nat → va_E} :
    ∀ (i r : Nat) (f : Nat → va_E) (Wt : Nat → Nat → Int32) (H : Heap) (locs : List Loc) (ls : Array Slot), r + i = rows2 → TB L own k f τ t pa nu rs fd rows cols rd P Wt → TB L own k f τ2 t2 pa2 nu2 rs2 fd2 rows2 cols2 rd2 P2 W2 → oe own [τ] f0 f → (∀ i, i < 12 → (i < fr ∨ fr + r ≤ i) → Wt i = W0 i) → (∀ i, i < r → Wt (fr + i) = va_cpy (W2 i) (W0 (fr + i)) 0 (fc * 6) (cols2 * 6)) → lv_has ls 6 [(0, .ref t), (1, .ref t2), (2, .int (nI fr)), (3, .int (nI fc)), (4, .int (nI r))] → gw D cls (tyl k) L s s.heap f H locs →
    W p l e (rmN 1) s m args below meth c H locs 0 0 (MQ below (va_Qv (fun f' => ∃ Wt, TB L own k f' τ t pa nu rs fd rows cols rd P Wt ∧ oe own [τ] f0 f' ∧ (∀ i, i < 12 → (i < fr ∨ fr + rows2 ≤ i) → Wt i = W0 i) ∧ ∀ i, i < rows2 → Wt (fr + i) = va_cpy (W2 i) (W0 (fr + i)) 0 (fc * 6) (cols2 * 6)) (mst D cls (tyl k) L) (fun q => q ∈ L)) args s 0 0 (fun q => q ∈ L)) (F0 m 3 ls []) := by
  have hx := S.1
  have hb := S.2.1
  have hown : s.vm.findClass R_T = some m.cls := S.2.2.2.1
  have hG := S.2.2.2.2
  intro i
  induction i with
  | zero =>
    intro r f Wt H locs ls hj hT hF ho hn1 hn2 hl hg
    have hj : r = rows2 := by omega
    subst hj
    obtain ⟨z2, hz2, hzs2⟩ := hF.2.2.2.1
    have hw : kw D cls (tyl k) L s s.heap f [(t2, cT fd2 (nI r) (nI cols2) rd2 pa2 nu2), (nu2, cO k z2)] H locs := ⟨f, hg, hF.knN hz2⟩
    -- METHOD T_copyNumbers | loc 0=t 1=t2 2=fr 3=fc 4=r | ws t2 nu2
    refine lv_iload hx hb d_T_copyNumbers_3 (lv_at hl 4 rfl) ?_
    refine lv_aload_n hx hb d_T_copyNumbers_5 rfl (lv_at hl 1 rfl) ?_
    refine k_get hx hb hG lay_T hown hw 0 rfl rfl 1 (by decide) (hG _ fl_T_28) (fun _ h9 => h9) rfl d_T_copyNumbers_6 ?_
    refine lv_icmp_ge (tgt := 53) hx hb d_T_copyNumbers_9 (by decide) (fun hc => ?_) (fun hc => ?_)
    · exact g_retv hx hb hr hlocks hg ⟨Wt, hT, ho, hn1, hn2⟩ d_T_copyNumbers_53
    · exact absurd (nI_le (Nat.le_refl _) (by omega)) hc
  | succ i ih =>
    intro r f Wt H locs ls hj hT hF ho hn1 hn2 hl hg
    obtain ⟨z2, hz2, hzs2⟩ := hF.2.2.2.1
    obtain ⟨z, hz, hzs⟩ := hT.2.2.2.1
    have hwF : kw D cls (tyl k) L s s.heap f [(t2, cT fd2 (nI rows2) (nI cols2) rd2 pa2 nu2), (nu2, cO k z2)] H locs := ⟨f, hg, hF.knN hz2⟩
    have hwT : kw D cls (tyl k) L s s.heap f [(t, cT fd (nI rows) (nI cols) rd pa nu), (nu, cO k z)] H locs := ⟨f, hg, hT.knN hz⟩
    have hrr := hT.1.2.2.2.1 (fr + r) (by omega)
    have hw := hwF
    -- METHOD T_copyNumbers | loc 0=t 1=t2 2=fr 3=fc 4=r | ws t2 nu2 | fld t.numbers=nu t2.numbers=nu2
    refine lv_iload hx hb d_T_copyNumbers_3 (lv_at hl 4 rfl) ?_
    refine lv_aload_n hx hb d_T_copyNumbers_5 rfl (lv_at hl 1 rfl) ?_
    refine k_get hx hb hG lay_T hown hw 0 rfl rfl 1 (by decide) (hG _ fl_T_28) (fun _ h9 => h9) rfl d_T_copyNumbers_6 ?_
    refine lv_icmp_ge (tgt := 53) hx hb d_T_copyNumbers_9 (by decide) (fun hc => ?_) (fun hc => ?_)
    · exact absurd hc (nI_ge (by omega) (by omega))
    · have hw := hwT
      refine lv_aload_n hx hb d_T_copyNumbers_12 rfl (lv_at hl 0 rfl) ?_
      refine k_get hx hb hG lay_T hown hw 0 rfl rfl 5 (by decide) (hG _ fl_T_21) (fun _ h9 => h9) rfl d_T_copyNumbers_13 ?_
      refine lv_iload_n hx hb d_T_copyNumbers_16 rfl (lv_at hl 2 rfl) ?_
      refine lv_iload hx hb d_T_copyNumbers_17 (lv_at hl 4 rfl) ?_
      refine lv_iadd hx hb d_T_copyNumbers_19 ?_
      refine l_top (show nI fr + nI r = nI (fr + r) from (Int32.ofNat_add fr r).symm) ?_
      refine k_aaldA hx hb hw 1 1 rfl rfl (fr + r) (rfl) (by omega) (by first | decide | omega) (hzs (fr + r) (by omega)) d_T_copyNumbers_20 ?_
      refine lv_astore hx hb d_T_copyNumbers_21 hl (by decide) rfl (fun ls hl => ?_)
      have hw := hwF
      refine lv_aload_n hx hb d_T_copyNumbers_23 rfl (lv_at hl 2 rfl) ?_
      refine k_get hx hb hG lay_T hown hw 0 rfl rfl 5 (by decide) (hG _ fl_T_21) (fun _ h9 => h9) rfl d_T_copyNumbers_24 ?_
      refine lv_iload hx hb d_T_copyNumbers_27 (lv_at hl 5 rfl) ?_
      refine k_aaldA hx hb hw 1 1 rfl rfl (r) (rfl) (by omega) (by first | decide | omega) (hzs2 r (by omega)) d_T_copyNumbers_29 ?_
      refine lv_iconst (v := 0) hx hb d_T_copyNumbers_30 (by decide) ?_
      refine lv_aload hx hb d_T_copyNumbers_31 (lv_at hl 0 rfl) ?_
      refine lv_iload_n hx hb d_T_copyNumbers_33 rfl (lv_at hl 4 rfl) ?_
      refine lv_bipush (v := 6) hx hb d_T_copyNumbers_34 (by decide) ?_
      refine lv_imul hx hb d_T_copyNumbers_36 ?_
      refine l_top (six fc) ?_
      refine lv_aload_n hx hb d_T_copyNumbers_37 rfl (lv_at hl 2 rfl) ?_
      refine k_get hx hb hG lay_T hown hw 0 rfl rfl 2 (by decide) (hG _ fl_T_31) (fun _ h9 => h9) rfl d_T_copyNumbers_38 ?_
      refine lv_bipush (v := 6) hx hb d_T_copyNumbers_41 (by decide) ?_
      refine lv_imul hx hb d_T_copyNumbers_43 ?_
      refine l_top (six cols2) ?_
      refine g_copyi hx hb (by rw [S.2.2.1]; exact hl.1.symm) hown (hG _ ml_T_69) (hG _ nv_arraycopy) (hG _ st_arraycopy) (hG _ in_JS) hg 0 (hF.1.2.2.2.1 r (by omega)).1 hrr.1 (hF.2.2.2.2 r (by omega)) (hT.2.2.2.2 (fr + r) (by omega)) rfl (0) (fc * 6) (cols2 * 6) rfl rfl rfl (by omega) (by omega) (by decide) (by decide) (by decide) (by simp [Value.category]; decide) d_T_copyNumbers_44 (fun H locs hg => ?_)
      have ho3 : ∀ q, q ≠ rs (fr + r) → va_up f (rs (fr + r)) (cR k (va_cpy (W2 r) (Wt (fr + r)) 0 (fc * 6) (cols2 * 6))) q = f q := fun q hq => va_up_ne _ _ hq
      have hT3 := hT.row (row := fr + r) (by omega) (va_up_self f (rs (fr + r)) (cR k (va_cpy (W2 r) (Wt (fr + r)) 0 (fc * 6) (cols2 * 6)))) (fun q _ h => ho3 q h)
      have hoe : oe own [τ] f (va_up f (rs (fr + r)) (cR k (va_cpy (W2 r) (Wt (fr + r)) 0 (fc * 6) (cols2 * 6)))) := fun q hm => ho3 q (fun e => hm (by rw [e]; simp; exact hrr.2.1))
      refine lv_iinc (k := 5) hx hb d_T_copyNumbers_47 hl rfl (ii1 r) (by decide) rfl (fun ls hl => ?_)
      refine lv_goto (tgt := 3) hx hb d_T_copyNumbers_50 (by decide) ?_
      have hl := lv_sub hl [2, 3, 4, 5, 0] rfl
      refine ih (r + 1) _ _ H locs ls (by omega) hT3 (hF.keep hoe (by simp; exact hne)) (ho.trans hoe) (fun i hi h => ?_) (fun i hi => ?_) hl hg
      · rw [va_up_ne _ _ (by omega)]; exact hn1 i hi (by omega)
      · by_cases e : i = r
        · rw [e, va_up_self, hn1 (fr + r) (by omega) (by omega)]
        · rw [va_up_ne _ _ (by omega)]; exact hn2 i (by omega)
end CN
section DF
variable {p : Program} {l : Launch} {e : Env} {s : State} {m : MethodId} {args : Array Value} {below : List Frame} {meth : Method} {c : Code} {Q : State → Prop} {D : va_G} {k : Nat → ClassId} {L : List Nat} {H0 : Heap}
variable {own : Nat → Nat} {τ t pa nu : Nat} {rs : Nat → Nat} {fd : Int32} {rows cols : Nat} {rd : Int32} {P : Nat → Int32} {Wt : Nat → Nat → Int32}
theorem sw_other {α : Type} (g : Nat → α) {a b i : Nat} (h1 : i ≠ a) (h2 : i ≠ b) : sw g a b i = g i := by
  unfold sw
  rw [va_up_ne _ _ h2, va_up_ne _ _ h1]
theorem sw_left {α : Type} (g : Nat → α) (a b : Nat) : sw g a b a = g b := by
  unfold sw
  by_cases h : a = b
  · rw [h, va_up_self]
  · rw [va_up_ne _ _ h, va_up_self]
theorem sw_right {α : Type} (g : Nat → α) (a b : Nat) : sw g a b b = g a := by
  unfold sw
  rw [va_up_self]
set_option maxRecDepth 100000 in
set_option maxHeartbeats 4000000 in
theorem w_df (S : CallFix p m c c_T_dropFirstRows 3 s args G R_T) (hr : meth.sig.returnType = none) (hlocks : meth.locks = false) {d : Nat} (hd : rows + d ≤ 12) {W0 : Nat → Nat → Int32} {f0 : Nat → va_E} :
    ∀ (i r : Nat) (f : Nat → va_E) (rs : Nat → Nat) (Wt : Nat → Nat → Int32) (H : Heap) (locs : List Loc) (ls : Array Slot), r + i = rows → TB L own k f τ t pa nu rs fd rows cols rd P Wt → oe own [τ] f0 f → (∀ i, i < r → Wt i = W0 (i + d)) → (∀ i, r + d ≤ i → Wt i = W0 i) → lv_has ls 3 [(0, .ref t), (1, .int (nI d)), (2, .int (nI r))] → gw D cls (tyl k) L s s.heap f H locs →
    W p l e (rmN 1) s m args below meth c H locs 0 0 (MQ below (va_Qv (fun f' => ∃ rs Wt, TB L own k f' τ t pa nu rs fd rows cols rd P Wt ∧ oe own [τ] f0 f' ∧ ∀ i, i < rows → Wt i = W0 (i + d)) (mst D cls (tyl k) L) (fun q => q ∈ L)) args s 0 0 (fun q => q ∈ L)) (F0 m 12 ls []) := by
  have hx := S.1
  have hb := S.2.1
  have hown : s.vm.findClass R_T = some m.cls := S.2.2.2.1
  have hG := S.2.2.2.2
  intro i
  induction i with
  | zero =>
    intro r f rs Wt H locs ls hj hT ho hn1 hn2 hl hg
    have hj : r = rows := by omega
    subst hj
    have hw : kw D cls (tyl k) L s s.heap f [(t, cT fd (nI r) (nI cols) rd pa nu)] H locs := ⟨f, hg, hT.kn1⟩
    -- METHOD T_dropFirstRows | loc 0=t 1=d 2=r | ws t
    refine lv_iload_n hx hb d_T_dropFirstRows_12 rfl (lv_at hl 2 rfl) ?_
    refine lv_aload_n hx hb d_T_dropFirstRows_13 rfl (lv_at hl 0 rfl) ?_
    refine k_get hx hb hG lay_T hown hw 0 rfl rfl 1 (by decide) (hG _ fl_T_28) (fun _ h9 => h9) rfl d_T_dropFirstRows_14 ?_
    refine lv_icmp_ge (tgt := 34) hx hb d_T_dropFirstRows_17 (by decide) (fun hc => ?_) (fun hc => ?_)
    · exact g_retv hx hb hr hlocks hg ⟨rs, Wt, hT, ho, hn1⟩ d_T_dropFirstRows_34
    · exact absurd (nI_le (Nat.le_refl _) (by omega)) hc
  | succ i ih =>
    intro r f rs Wt H locs ls hj hT ho hn1 hn2 hl hg
    have hw : kw D cls (tyl k) L s s.heap f [(t, cT fd (nI rows) (nI cols) rd pa nu)] H locs := ⟨f, hg, hT.kn1⟩
    -- METHOD T_dropFirstRows | loc 0=t 1=d 2=r | ws t
    refine lv_iload_n hx hb d_T_dropFirstRows_12 rfl (lv_at hl 2 rfl) ?_
    refine lv_aload_n hx hb d_T_dropFirstRows_13 rfl (lv_at hl 0 rfl) ?_
    refine k_get hx hb hG lay_T hown hw 0 rfl rfl 1 (by decide) (hG _ fl_T_28) (fun _ h9 => h9) rfl d_T_dropFirstRows_14 ?_
    refine lv_icmp_ge (tgt := 34) hx hb d_T_dropFirstRows_17 (by decide) (fun hc => ?_) (fun hc => ?_)
    · exact absurd hc (nI_ge (by omega) (by omega))
    · -- STK
      refine lv_aload_n hx hb d_T_dropFirstRows_20 rfl (lv_at hl 0 rfl) ?_
      refine lv_iload_n hx hb d_T_dropFirstRows_21 rfl (lv_at hl 2 rfl) ?_
      refine lv_iload_n hx hb d_T_dropFirstRows_22 rfl (lv_at hl 2 rfl) ?_
      refine lv_iload_n hx hb d_T_dropFirstRows_23 rfl (lv_at hl 1 rfl) ?_
      refine lv_iadd hx hb d_T_dropFirstRows_24 ?_
      refine l_top (show nI r + nI d = nI (r + d) from (Int32.ofNat_add r d).symm) ?_
      have hw := hg
      refine g_ov (c_V (np := 2) S (tb_swap l D hT (a := r) (b := r + d) (by omega) (by omega)) hw (hT.1.1.1) (hT.2.1) rfl ml_T_79 im_T_swapRows se_T_T_swapRows in_T co_T_swapRows (by decide +kernel) rfl ⟨rfl, rfl, by decide, by decide⟩ hl.1 rfl (by simp [Value.category]) d_T_dropFirstRows_25 ⟨Nat.zero_le _, Nat.zero_le _⟩) hw (fun f1 H locs hp hg => ?_)
      refine lv_iinc (k := 2) hx hb d_T_dropFirstRows_28 hl rfl (ii1 r) (by decide) rfl (fun ls hl => ?_)
      refine lv_goto (tgt := 12) hx hb d_T_dropFirstRows_31 (by decide) ?_
      have hl := lv_sub hl [1, 2, 0] rfl
      refine ih (r + 1) f1 _ _ H locs ls (by omega) hp.1 (ho.trans hp.2) (fun i hi => ?_) (fun i hi => ?_) hl hg
      · by_cases e : i = r
        · rw [e, sw_left]; exact hn2 (r + d) (by omega)
        · rw [sw_other _ e (by omega)]; exact hn1 i (by omega)
      · rw [sw_other _ (by omega) (by omega)]; exact hn2 i (by omega)
end DF
/-- how many of the first columns are not in a set -/
def kc (set : Nat) : Nat → Nat
  | 0 => 0
  | j + 1 => kc set j + (if set / 2 ^ j % 2 = 0 then 1 else 0)
theorem kc_le (set : Nat) : ∀ j, kc set j ≤ j
  | 0 => Nat.le_refl _
  | j + 1 => by
    have := kc_le set j
    show kc set j + _ ≤ j + 1
    split <;> omega
theorem bit_sm : ∀ c, c < 32 → ((nI c &&& 31).toBitVec.smod 32).toNat = c := by decide +kernel
theorem bit_of {set c : Nat} (hs : set < 2 ^ 31) (hc : c < 32) : (nI set >>> (nI c &&& 31)) &&& 1 = nI (set / 2 ^ c % 2) := by
  rw [pk_shrN hs _ c (bit_sm c hc), pk_andN (Nat.lt_of_le_of_lt (Nat.div_le_self _ _) (by omega)) 1 (by decide)]
section DC
variable {p : Program} {l : Launch} {e : Env} {s : State} {m : MethodId} {args : Array Value} {below : List Frame} {meth : Method} {c : Code} {Q : State → Prop} {D : va_G} {k : Nat → ClassId} {L : List Nat} {H0 : Heap}
variable {own : Nat → Nat} {τ t pa nu : Nat} {rs : Nat → Nat} {fd : Int32} {rows cols : Nat} {rd : Int32} {P : Nat → Int32} {Wt : Nat → Nat → Int32}
set_option maxRecDepth 100000 in
set_option maxHeartbeats 4000000 in
theorem w_dc1 (S : CallFix p m c c_T_dropColumns 6 s args G R_T) (hrows : rows ≤ 12) {sx : Int32} {kp col : Nat} (hcol : col < 12) (hkp : kp ≤ col) {W0 : Nat → Nat → Int32} {f0 : Nat → va_E}
    (kx : ∀ (f : Nat → va_E) (Wt : Nat → Nat → Int32) (H : Heap) (locs : List Loc) (ls : Array Slot), TB L own k f τ t pa nu rs fd rows cols rd P Wt → oe own [τ] f0 f → (∀ i, i < rows → Wt i = va_cpy (W0 i) (W0 i) (col * 6) (kp * 6) 6) → lv_has ls 6 [(0, .ref t), (1, .int sx), (2, .int (nI kp)), (3, .int (nI col))] → gw D cls (tyl k) L s s.heap f H locs → W p l e (rmN 1) s m args below meth c H locs 0 0 Q (F0 m 64 ls [])) :
    ∀ (i r : Nat) (f : Nat → va_E) (Wt : Nat → Nat → Int32) (H : Heap) (locs : List Loc) (ls : Array Slot), r + i = rows → TB L own k f τ t pa nu rs fd rows cols rd P Wt → oe own [τ] f0 f → (∀ i, i < r → Wt i = va_cpy (W0 i) (W0 i) (col * 6) (kp * 6) 6) → (∀ i, r ≤ i → Wt i = W0 i) → lv_has ls 6 [(0, .ref t), (1, .int sx), (2, .int (nI kp)), (3, .int (nI col)), (4, .int (nI r))] → gw D cls (tyl k) L s s.heap f H locs →
    W p l e (rmN 1) s m args below meth c H locs 0 0 Q (F0 m 23 ls []) := by
  have hx := S.1
  have hb := S.2.1
  have hown : s.vm.findClass R_T = some m.cls := S.2.2.2.1
  have hG := S.2.2.2.2
  intro i
  induction i with
  | zero =>
    intro r f Wt H locs ls hj hT ho hn1 hn2 hl hg
    have hj : r = rows := by omega
    subst hj
    have hw : kw D cls (tyl k) L s s.heap f [(t, cT fd (nI r) (nI cols) rd pa nu)] H locs := ⟨f, hg, hT.kn1⟩
    -- METHOD T_dropColumns | loc 0=t 1=sx 2=kp 3=col 4=r | ws t
    refine lv_iload hx hb d_T_dropColumns_23 (lv_at hl 4 rfl) ?_
    refine lv_aload_n hx hb d_T_dropColumns_25 rfl (lv_at hl 0 rfl) ?_
    refine k_get hx hb hG lay_T hown hw 0 rfl rfl 1 (by decide) (hG _ fl_T_28) (fun _ h9 => h9) rfl d_T_dropColumns_26 ?_
    refine lv_icmp_ge (tgt := 64) hx hb d_T_dropColumns_29 (by decide) (fun hc => ?_) (fun hc => ?_)
    · -- LOC 0=t 1=sx 2=kp 3=col 4=r
      have hl := lv_sub hl [0, 1, 2, 3] rfl
      exact kx f Wt H locs ls hT ho hn1 hl hg
    · exact absurd (nI_le (Nat.le_refl _) (by omega)) hc
  | succ i ih =>
    intro r f Wt H locs ls hj hT ho hn1 hn2 hl hg
    obtain ⟨z, hz, hzs⟩ := hT.2.2.2.1
    have hw : kw D cls (tyl k) L s s.heap f [(t, cT fd (nI rows) (nI cols) rd pa nu), (nu, cO k z)] H locs := ⟨f, hg, hT.knN hz⟩
    have hrr := hT.1.2.2.2.1 r (by omega)
    -- METHOD T_dropColumns | loc 0=t 1=sx 2=kp 3=col 4=r | ws t nu | fld t.numbers=nu
    refine lv_iload hx hb d_T_dropColumns_23 (lv_at hl 4 rfl) ?_
    refine lv_aload_n hx hb d_T_dropColumns_25 rfl (lv_at hl 0 rfl) ?_
    refine k_get hx hb hG lay_T hown hw 0 rfl rfl 1 (by decide) (hG _ fl_T_28) (fun _ h9 => h9) rfl d_T_dropColumns_26 ?_
    refine lv_icmp_ge (tgt := 64) hx hb d_T_dropColumns_29 (by decide) (fun hc => ?_) (fun hc => ?_)
    · exact absurd hc (nI_ge (by omega) (by omega))
    · -- STK
      refine lv_aload_n hx hb d_T_dropColumns_32 rfl (lv_at hl 0 rfl) ?_
      refine k_get hx hb hG lay_T hown hw 0 rfl rfl 5 (by decide) (hG _ fl_T_21) (fun _ h9 => h9) rfl d_T_dropColumns_33 ?_
      refine lv_iload hx hb d_T_dropColumns_36 (lv_at hl 4 rfl) ?_
      refine k_aaldA hx hb hw 1 1 rfl rfl (r) (rfl) (by omega) (by first | decide | omega) (hzs r (by omega)) d_T_dropColumns_38 ?_
      refine lv_astore hx hb d_T_dropColumns_39 hl (by decide) rfl (fun ls hl => ?_)
      refine lv_aload hx hb d_T_dropColumns_41 (lv_at hl 0 rfl) ?_
      refine lv_iload_n hx hb d_T_dropColumns_43 rfl (lv_at hl 4 rfl) ?_
      refine lv_bipush (v := 6) hx hb d_T_dropColumns_44 (by decide) ?_
      refine lv_imul hx hb d_T_dropColumns_46 ?_
      refine l_top (six col) ?_
      refine lv_aload hx hb d_T_dropColumns_47 (lv_at hl 0 rfl) ?_
      refine lv_iload_n hx hb d_T_dropColumns_49 rfl (lv_at hl 3 rfl) ?_
      refine lv_bipush (v := 6) hx hb d_T_dropColumns_50 (by decide) ?_
      refine lv_imul hx hb d_T_dropColumns_52 ?_
      refine l_top (six kp) ?_
      refine lv_bipush (v := 6) hx hb d_T_dropColumns_53 (by decide) ?_
      refine g_copyi hx hb (by rw [S.2.2.1]; exact hl.1.symm) hown (hG _ ml_T_69) (hG _ nv_arraycopy) (hG _ st_arraycopy) (hG _ in_JS) hg 0 hrr.1 hrr.1 (hT.2.2.2.2 r (by omega)) (hT.2.2.2.2 r (by omega)) rfl (col * 6) (kp * 6) (6) rfl rfl rfl (by omega) (by omega) (by decide) (by decide) (by decide) (by simp [Value.category]; decide) d_T_dropColumns_55 (fun H locs hg => ?_)
      have ho3 : ∀ q, q ≠ rs r → va_up f (rs r) (cR k (va_cpy (Wt r) (Wt r) (col * 6) (kp * 6) 6)) q = f q := fun q hq => va_up_ne _ _ hq
      have hT3 := hT.row (row := r) (by omega) (va_up_self f (rs r) (cR k (va_cpy (Wt r) (Wt r) (col * 6) (kp * 6) 6))) (fun q _ h => ho3 q h)
      have hoe : oe own [τ] f (va_up f (rs r) (cR k (va_cpy (Wt r) (Wt r) (col * 6) (kp * 6) 6))) := fun q hm => ho3 q (fun e => hm (by rw [e]; simp; exact hrr.2.1))
      refine lv_iinc (k := 5) hx hb d_T_dropColumns_58 hl rfl (ii1 r) (by decide) rfl (fun ls hl => ?_)
      refine lv_goto (tgt := 23) hx hb d_T_dropColumns_61 (by decide) ?_
      have hl := lv_sub hl [2, 3, 4, 5, 0] rfl
      refine ih (r + 1) _ _ H locs ls (by omega) hT3 (ho.trans hoe) (fun i hi => ?_) (fun i hi => ?_) hl hg
      · by_cases e : i = r
        · rw [e, va_up_self, hn2 r (by omega)]
        · rw [va_up_ne _ _ e]; exact hn1 i (by omega)
      · rw [va_up_ne _ _ (by omega)]; exact hn2 i (by omega)
set_option maxRecDepth 100000 in
set_option maxHeartbeats 4000000 in
theorem w_dc (S : CallFix p m c c_T_dropColumns 6 s args G R_T) (hr : meth.sig.returnType = none) (hlocks : meth.locks = false) (hrows : rows ≤ 12) (hcols : cols ≤ 12) {set : Nat} (hset : set < 2 ^ 31) {A : Nat → Nat → Int} {f0 : Nat → va_E} :
    ∀ (i j : Nat) (f : Nat → va_E) (Wt : Nat → Nat → Int32) (H : Heap) (locs : List Loc) (ls : Array Slot), j + i = cols → TB L own k f τ t pa nu rs fd rows cols rd P Wt → oe own [τ] f0 f → (∀ i, i < rows → ∀ c, c < j → set / 2 ^ c % 2 = 0 → nm (Wt i) (kc set c) (A i c)) → (∀ i, i < rows → ∀ c, j ≤ c → c < cols → nm (Wt i) c (A i c)) → lv_has ls 6 [(0, .ref t), (1, .int (nI set)), (2, .int (nI (kc set j))), (3, .int (nI j))] → gw D cls (tyl k) L s s.heap f H locs →
    W p l e (rmN 1) s m args below meth c H locs 0 0 (MQ below (va_Qv (fun f' => ∃ Wt, TB L own k f' τ t pa nu rs fd rows (kc set cols) rd P Wt ∧ oe own [τ] f0 f' ∧ ∀ i, i < rows → ∀ c, c < cols → set / 2 ^ c % 2 = 0 → nm (Wt i) (kc set c) (A i c)) (mst D cls (tyl k) L) (fun q => q ∈ L)) args s 0 0 (fun q => q ∈ L)) (F0 m 4 ls []) := by
  have hx := S.1
  have hb := S.2.1
  have hown : s.vm.findClass R_T = some m.cls := S.2.2.2.1
  have hG := S.2.2.2.2
  intro i
  induction i with
  | zero =>
    intro j f Wt H locs ls hj hT ho hn1 hn2 hl hg
    have hj : j = cols := by omega
    subst hj
    have hw : kw D cls (tyl k) L s s.heap f [(t, cT fd (nI rows) (nI j) rd pa nu)] H locs := ⟨f, hg, hT.kn1⟩
    -- METHOD T_dropColumns | loc 0=t 1=sx 2=kp 3=col | ws t
    refine lv_iload_n hx hb d_T_dropColumns_4 rfl (lv_at hl 3 rfl) ?_
    refine lv_aload_n hx hb d_T_dropColumns_5 rfl (lv_at hl 0 rfl) ?_
    refine k_get hx hb hG lay_T hown hw 0 rfl rfl 2 (by decide) (hG _ fl_T_31) (fun _ h9 => h9) rfl d_T_dropColumns_6 ?_
    refine lv_icmp_ge (tgt := 73) hx hb d_T_dropColumns_9 (by decide) (fun hc => ?_) (fun hc => ?_)
    · -- LOC 0=t 1=sx 2=kp 3=col
      refine lv_aload_n hx hb d_T_dropColumns_73 rfl (lv_at hl 0 rfl) ?_
      refine lv_iload_n hx hb d_T_dropColumns_74 rfl (lv_at hl 2 rfl) ?_
      refine k_put (ty := .int) hx hb hG lay_T ft_T ft_T_ok fn_T hown hw 0 rfl rfl 2 (by decide) (hG _ fl_T_31) (fun _ h9 => h9) rfl (by decide +kernel) rfl rfl (by simp) d_T_dropColumns_75 (fun H locs hw => ?_)
      obtain ⟨f1, hg, hk1⟩ := hw
      obtain ⟨hT1, ho1⟩ := hT.obj (fd' := fd) (rows' := rows) (cols' := kc set j) (rd' := rd) hk1
      exact g_retv hx hb hr hlocks hg ⟨Wt, hT1, ho.trans ho1, hn1⟩ d_T_dropColumns_78
    · exact absurd (nI_le (Nat.le_refl _) (by omega)) hc
  | succ i ih =>
    intro j f Wt H locs ls hj hT ho hn1 hn2 hl hg
    have hw : kw D cls (tyl k) L s s.heap f [(t, cT fd (nI rows) (nI cols) rd pa nu)] H locs := ⟨f, hg, hT.kn1⟩
    have hkl := kc_le set j
    have hm2 : set / 2 ^ j % 2 < 2 := Nat.mod_lt _ (by omega)
    -- METHOD T_dropColumns | loc 0=t 1=sx 2=kp 3=col | ws t
    refine lv_iload_n hx hb d_T_dropColumns_4 rfl (lv_at hl 3 rfl) ?_
    refine lv_aload_n hx hb d_T_dropColumns_5 rfl (lv_at hl 0 rfl) ?_
    refine k_get hx hb hG lay_T hown hw 0 rfl rfl 2 (by decide) (hG _ fl_T_31) (fun _ h9 => h9) rfl d_T_dropColumns_6 ?_
    refine lv_icmp_ge (tgt := 73) hx hb d_T_dropColumns_9 (by decide) (fun hc => ?_) (fun hc => ?_)
    · exact absurd hc (nI_ge (by omega) (by omega))
    · -- STK
      refine lv_iload_n hx hb d_T_dropColumns_12 rfl (lv_at hl 1 rfl) ?_
      refine lv_iload_n hx hb d_T_dropColumns_13 rfl (lv_at hl 3 rfl) ?_
      refine lv_ishr hx hb d_T_dropColumns_14 ?_
      refine lv_iconst (v := 1) hx hb d_T_dropColumns_15 (by decide) ?_
      refine lv_iand hx hb d_T_dropColumns_16 ?_
      refine l_top (bit_of hset (show j < 32 by omega)) ?_
      refine lv_if_ne (tgt := 67) hx hb d_T_dropColumns_17 (by decide) (fun hc => ?_) (fun hc => ?_)
      · have hb1 : ¬ set / 2 ^ j % 2 = 0 := fun h => hc (by rw [h]; rfl)
        have hk1 : kc set (j + 1) = kc set j := by show kc set j + _ = _; rw [if_neg hb1]; rfl
        refine lv_iinc (k := 3) hx hb d_T_dropColumns_67 hl rfl (ii1 j) (by decide) rfl (fun ls hl => ?_)
        refine lv_goto (tgt := 4) hx hb d_T_dropColumns_70 (by decide) ?_
        have hl := lv_sub hl [1, 2, 3, 0] rfl
        rw [← hk1] at hl
        refine ih (j + 1) f Wt H locs ls (by omega) hT ho (fun i hi c hc h0 => ?_) (fun i hi c h1 h2 => hn2 i hi c (by omega) h2) hl hg
        by_cases e : c = j
        · rw [e] at h0; exact absurd h0 hb1
        · exact hn1 i hi c (by omega) h0
      · have hb1 : set / 2 ^ j % 2 = 0 := by
          rcases (show set / 2 ^ j % 2 = 0 ∨ set / 2 ^ j % 2 = 1 by omega) with h | h
          · exact h
          · rw [h] at hc; exact absurd hc (by decide)
        have hk1 : kc set (j + 1) = kc set j + 1 := by show kc set j + _ = _; rw [if_pos hb1]
        refine lv_iconst (v := 0) hx hb d_T_dropColumns_20 (by decide) ?_
        refine lv_istore hx hb d_T_dropColumns_21 hl (by decide) rfl (fun ls hl => ?_)
        have hl := lv_sub hl [1, 2, 3, 4, 0] rfl
        refine w_dc1 (W0 := Wt) (f0 := f0) S hrows (show j < 12 by omega) hkl (fun f1 W1 H locs ls hT1 ho1 hW1 hl hg => ?_) rows 0 f Wt H locs ls (by omega) hT ho (fun i hi => by omega) (fun i _ => rfl) hl hg
        refine lv_iinc (k := 2) hx hb d_T_dropColumns_64 hl rfl (ii1 (kc set j)) (by decide) rfl (fun ls hl => ?_)
        refine lv_iinc (k := 3) hx hb d_T_dropColumns_67 hl rfl (ii1 j) (by decide) rfl (fun ls hl => ?_)
        refine lv_goto (tgt := 4) hx hb d_T_dropColumns_70 (by decide) ?_
        have hl := lv_sub hl [2, 3, 1, 0] rfl
        rw [← hk1] at hl
        refine ih (j + 1) f1 W1 H locs ls (by omega) hT1 ho1 (fun i hi c hc h0 => ?_) (fun i hi c h1 h2 => ?_) hl hg
        · by_cases e : c = j
          · rw [e]
            refine nm_ext (hn2 i hi j (by omega) (by omega)) (fun x hx => ?_)
            rw [hW1 i hi, pk_cpy_in (by omega) (by omega)]
            congr 1
            omega
          · refine nm_ext (hn1 i hi c (by omega) h0) (fun x hx => ?_)
            have hlt : kc set c < kc set j := by
              have h5 : ∀ d, kc set (c + 1) ≤ kc set (c + 1 + d) := fun d => by
                induction d with
                | zero => exact Nat.le_refl _
                | succ d ih => exact Nat.le_trans ih (Nat.le_add_right _ _)
              have h6 := h5 (j - (c + 1))
              rw [show c + 1 + (j - (c + 1)) = j by omega] at h6
              have h7 : kc set (c + 1) = kc set c + 1 := by show kc set c + _ = _; rw [if_pos h0]
              omega
            rw [hW1 i hi, pk_cpy_out (by omega)]
        · refine nm_ext (hn2 i hi c (by omega) h2) (fun x hx => ?_)
          rw [hW1 i hi, pk_cpy_out (by omega)]
end DC
section TRM
variable (l : Launch) (D : va_G) {L : List Nat} {k : Nat → ClassId} {f : Nat → va_E} {own : Nat → Nat} {τ t pa nu : Nat} {rs : Nat → Nat} {fd : Int32} {rows cols : Nat} {rd : Int32} {P : Nat → Int32} {Wt : Nat → Nat → Int32} {τ2 t2 pa2 nu2 : Nat} {rs2 : Nat → Nat} {fd2 : Int32} {rows2 cols2 : Nat} {rd2 : Int32} {P2 : Nat → Int32} {W2 : Nat → Nat → Int32}
set_option maxRecDepth 100000 in
set_option maxHeartbeats 4000000 in
theorem tb_copyNumbers (hT : TB L own k f τ t pa nu rs fd rows cols rd P Wt) (hF : TB L own k f τ2 t2 pa2 nu2 rs2 fd2 rows2 cols2 rd2 P2 W2) (hne : τ2 ≠ τ) {fr fc : Nat} (hrows2 : fr + rows2 ≤ 12) (hcols2 : fc + cols2 ≤ 12) : Mv l y_T_copyNumbers (Cond.code y_T_copyNumbers c_T_copyNumbers 6 none :: G) (rmN 1) D cls (tyl k) L f [.ref t, .ref t2, .int (nI fr), .int (nI fc)] (fun f' => ∃ W', TB L own k f' τ t pa nu rs fd rows cols rd P W' ∧ oe own [τ] f f' ∧ (∀ i, i < 12 → (i < fr ∨ fr + rows2 ≤ i) → W' i = Wt i) ∧ ∀ i, i < rows2 → W' (fr + i) = va_cpy (W2 i) (Wt (fr + i)) 0 (fc * 6) (cols2 * 6)) := by
  -- METHOD T_copyNumbers | loc 0=t 1=t2 2=fr 3=fc | ws t
  refine mk_met (by decide) (Nat.le_of_ble_eq_true rfl) (fun p e s m below meth c ls S hr hlocks hw hl => ?_)
  have hx := S.1
  have hb := S.2.1
  have hown : s.vm.findClass R_T = some m.cls := S.2.2.2.1
  have hG := S.2.2.2.2
  have hl : lv_has ls 6 [(0, .ref t), (1, .ref t2), (2, .int (nI fr)), (3, .int (nI fc))] := hl
  have hg := hw
  refine lv_iconst (v := 0) hx hb d_T_copyNumbers_0 (by decide) ?_
  refine lv_istore hx hb d_T_copyNumbers_1 hl (by decide) rfl (fun ls hl => ?_)
  have hl := lv_sub hl [1, 2, 3, 4, 0] rfl
  exact w_cn S hr hlocks hrows2 hcols2 hne rows2 0 f Wt _ _ ls (by omega) hT hF oe.rf (fun _ _ _ => rfl) (fun i hi => by omega) hl hg
set_option maxRecDepth 100000 in
set_option maxHeartbeats 4000000 in
theorem tb_dropFirstRows (hT : TB L own k f τ t pa nu rs fd rows cols rd P Wt) (hrows : rows ≤ 12) {d : Nat} (hd : d ≤ rows) : Mv l y_T_dropFirstRows (Cond.code y_T_dropFirstRows c_T_dropFirstRows 3 none :: G) (rmN 1) D cls (tyl k) L f [.ref t, .int (nI d)] (fun f' => ∃ rs' W', TB L own k f' τ t pa nu rs' fd (rows - d) cols rd P W' ∧ oe own [τ] f f' ∧ ∀ i, i < rows - d → W' i = Wt (i + d)) := by
  -- METHOD T_dropFirstRows | loc 0=t 1=d | ws t
  refine mk_met (by decide) (Nat.le_of_ble_eq_true rfl) (fun p e s m below meth c ls S hr hlocks hw hl => ?_)
  have hx := S.1
  have hb := S.2.1
  have hown : s.vm.findClass R_T = some m.cls := S.2.2.2.1
  have hG := S.2.2.2.2
  have hl : lv_has ls 3 [(0, .ref t), (1, .int (nI d))] := hl
  have hg := hw
  have hw : kw D cls (tyl k) L s s.heap f [(t, cT fd (nI rows) (nI cols) rd pa nu)] s.heap [] := ⟨f, hw, hT.kn1⟩
  refine lv_aload_n hx hb d_T_dropFirstRows_0 rfl (lv_at hl 0 rfl) ?_
  refine lv_dup hx hb d_T_dropFirstRows_1 rfl ?_
  refine k_get hx hb hG lay_T hown hw 0 rfl rfl 1 (by decide) (hG _ fl_T_28) (fun _ h9 => h9) rfl d_T_dropFirstRows_2 ?_
  refine lv_iload_n hx hb d_T_dropFirstRows_5 rfl (lv_at hl 1 rfl) ?_
  refine lv_isub hx hb d_T_dropFirstRows_6 ?_
  refine l_top (pk_sub hd) ?_
  refine k_put (ty := .int) hx hb hG lay_T ft_T ft_T_ok fn_T hown hw 0 rfl rfl 1 (by decide) (hG _ fl_T_28) (fun _ h9 => h9) rfl (by decide +kernel) rfl rfl (by simp) d_T_dropFirstRows_7 (fun H locs hw => ?_)
  refine lv_iconst (v := 0) hx hb d_T_dropFirstRows_10 (by decide) ?_
  refine lv_istore_n hx hb d_T_dropFirstRows_11 rfl hl (by decide) rfl (fun ls hl => ?_)
  have hl := lv_sub hl [1, 2, 0] rfl
  obtain ⟨f1, hg, hk1⟩ := hw
  obtain ⟨hT1, ho1⟩ := hT.obj (fd' := fd) (rows' := rows - d) (cols' := cols) (rd' := rd) hk1
  exact w_df S hr hlocks (by omega) (rows - d) 0 f1 rs Wt _ _ ls (by omega) hT1 ho1 (fun i hi => by omega) (fun _ _ => rfl) hl hg
set_option maxRecDepth 100000 in
set_option maxHeartbeats 4000000 in
theorem tb_dropColumns (hT : TB L own k f τ t pa nu rs fd rows cols rd P Wt) (hrows : rows ≤ 12) (hcols : cols ≤ 12) {set : Nat} (hset : set < 2 ^ 31) {A : Nat → Nat → Int} (hA : mt Wt rows cols A) : Mv l y_T_dropColumns (Cond.code y_T_dropColumns c_T_dropColumns 6 none :: G) (rmN 1) D cls (tyl k) L f [.ref t, .int (nI set)] (fun f' => ∃ W', TB L own k f' τ t pa nu rs fd rows (kc set cols) rd P W' ∧ oe own [τ] f f' ∧ ∀ i, i < rows → ∀ c, c < cols → set / 2 ^ c % 2 = 0 → nm (W' i) (kc set c) (A i c)) := by
  -- METHOD T_dropColumns | loc 0=t 1=set | ws t
  refine mk_met (by decide) (Nat.le_of_ble_eq_true rfl) (fun p e s m below meth c ls S hr hlocks hw hl => ?_)
  have hx := S.1
  have hb := S.2.1
  have hown : s.vm.findClass R_T = some m.cls := S.2.2.2.1
  have hG := S.2.2.2.2
  have hl : lv_has ls 6 [(0, .ref t), (1, .int (nI set))] := hl
  have hg := hw
  refine lv_iconst (v := 0) hx hb d_T_dropColumns_0 (by decide) ?_
  refine lv_istore_n hx hb d_T_dropColumns_1 rfl hl (by decide) rfl (fun ls hl => ?_)
  refine lv_iconst (v := 0) hx hb d_T_dropColumns_2 (by decide) ?_
  refine lv_istore_n hx hb d_T_dropColumns_3 rfl hl (by decide) rfl (fun ls hl => ?_)
  have hl := lv_sub hl [2, 3, 1, 0] rfl
  exact w_dc S hr hlocks hrows hcols hset cols 0 f Wt _ _ ls (by omega) hT oe.rf (fun i hi c hc => by omega) (fun i hi c _ hc => hA i hi c hc) hl hg
end TRM


-- ===== Rationals: storeLine; Table: negateRow =====
/-- the Rationals' own cells and a table's, apart -/
def qt (L : List Nat) (adr : Nat → Nat) (qa ln t nu ro : Nat) : Prop := t ∈ L ∧ qa ≠ ln ∧ qa ≠ t ∧ qa ≠ nu ∧ qa ≠ ro ∧ ln ≠ t ∧ ln ≠ nu ∧ ln ≠ ro
theorem qt_kn {L : List Nat} {adr : Nat → Nat} {qa ln t nu ro : Nat} {zl : Nat → Option Nat} {f : Nat → va_E} {a b d : va_E} (h : qs L adr qa ln zl) (h0 : qt L adr qa ln t nu ro) (h1 : f qa = a) (h2 : f ln = b) (h3 : f t = d) : kn L f f [(qa, a), (ln, b), (t, d)] := by
  refine kn_of (fun q hq => ?_) (by simp; exact ⟨⟨h0.2.1, h0.2.2.1⟩, h0.2.2.2.2.2.1⟩)
  simp only [List.mem_cons, List.not_mem_nil, or_false] at hq
  rcases hq with rfl | rfl | rfl
  · exact ⟨h.1, h1⟩
  · exact ⟨h.2.1, h2⟩
  · exact ⟨h0.1, h3⟩
theorem tc_upd {L : List Nat} {k : Nat → ClassId} {f f' : Nat → va_E} {adr : Nat → Nat} {N t pa nu ro : Nat} {fd rw cl rd : Int32} {z : Nat → Option Nat} {w w' : Nat → Int32} {row : Nat} (h : tc L k f adr N t pa nu ro fd rw cl rd z w row) (h1 : f' ro = cR k w') (h2 : f' t = f t) (h3 : f' nu = f nu) : tc L k f' adr N t pa nu ro fd rw cl rd z w' row := by
  obtain ⟨a1, a2, a3, a4, a5, a6, a7, a8, a9⟩ := h
  exact ⟨a1, a2, a3, a4, a5, h2.trans a6, h3.trans a7, h1, a9⟩
theorem tc_fo {L : List Nat} {k : Nat → ClassId} {f f' : Nat → va_E} {adr : Nat → Nat} {N t pa nu ro : Nat} {fd rw cl rd : Int32} {z : Nat → Option Nat} {w : Nat → Int32} {row : Nat} (h : tc L k f adr N t pa nu ro fd rw cl rd z w row) (ho : fo adr N f f') : tc L k f' adr N t pa nu ro fd rw cl rd z w row := by
  have h12 := h.2.2.2.2.2.2.2.2.2.2.2
  exact tc_upd h ((ho ro (fun x hx => (h12 x hx).2.2)).trans h.2.2.2.2.2.2.2.1) (ho t (fun x hx => (h12 x hx).1)) (ho nu (fun x hx => (h12 x hx).2.1))
theorem fv_ro {L : List Nat} {k : Nat → ClassId} {f f' : Nat → va_E} {adr : Nat → Nat} {N ro : Nat} {vals : Nat → Int} (hf : fv L k adr N f vals) (h : ∀ q, q ≠ ro → f' q = f q) (hro : ∀ x, x < 2 * N → ro ≠ adr x) : fv L k adr N f' vals := by
  intro i hi
  obtain ⟨q1, q2, n, g, d, q3, q4, q5⟩ := hf i hi
  exact ⟨q1, q2, n, g, d, (h _ (Ne.symm (hro _ (by omega)))).trans q3, (h _ (Ne.symm (hro _ (by omega)))).trans q4, q5⟩
theorem nm_far {w w' : Nat → Int32} {j c : Nat} {v : Int} (h : nm w j v) (hw : ∀ i, i < c * 6 ∨ c * 6 + 6 ≤ i → w' i = w i) (hjc : j ≠ c) : nm w' j v := by
  obtain ⟨n, d, h1, h2, h3, h4, h5⟩ := h
  refine ⟨n, d, h1, fun i hi => ⟨(hw _ (by omega)).trans (h2 i hi).1, (h2 i hi).2⟩, h3, (hw _ (by omega)).trans h4, h5⟩
/-- what storeLine keeps of a number, by the common divisor -/
def ou (g : Nat) (v : Int) : Int := if g = 0 then 0 else v.tdiv g
section SL
variable {p : Program} {l : Launch} {e : Env} {s : State} {m : MethodId} {args : Array Value} {below : List Frame} {meth : Method} {c : Code} {Q : State → Prop} {D : va_G} {k : Nat → ClassId} {L : List Nat} {H0 : Heap}
set_option maxRecDepth 100000 in
set_option maxHeartbeats 4000000 in
theorem w_sl (S : CallFix p m c c_Q_storeLine 4 s args G R_Q) (hr : meth.sig.returnType = none) (hlocks : meth.locks = false) {adr : Nat → Nat} {qa ln cols cc rr t pa nu ro row g : Nat} {fd rw rd : Int32} {z zl : Nat → Option Nat} {w : Nat → Int32} (hq : qs L adr qa ln zl) (ht : qt L adr qa ln t nu ro) (hcr : cr cc rr) (hcols : cols ≤ 12) {vals : Nat → Int} {f0 : Nat → va_E} (hbd : ∀ i, i < cols → (vals i).natAbs < B30 ^ 11) (hbo : ∀ i, i < cols → (ou g (vals i)).natAbs < B30 ^ 5) :
    ∀ (i j : Nat) (f : Nat → va_E) (cur : Nat → Int) (wj : Nat → Int32) (H : Heap) (locs : List Loc) (ls : Array Slot), j + i = cols → fv L k adr 19 f cur → f qa = cQ ln adr cc rr → f ln = cLn k zl → tc L k f adr 19 t pa nu ro fd rw (nI cols) rd z wj row → cur cc = (g : Int) → (∀ i, j ≤ i → i < 12 → cur i = vals i) → (∀ i, i < j → nm wj i (ou g (vals i))) → (∀ x, j * 6 ≤ x → wj x = w x) → (∀ q, q ≠ ro → (∀ x, x < 2 * 19 → q ≠ adr x) → f q = f0 q) → lv_has ls 4 [(0, .ref qa), (1, .ref t), (2, .int (nI row)), (3, .int (nI j))] → gw D cls (tyl k) L s s.heap f H locs →
    W p l e (rmN 3) s m args below meth c H locs 0 0 (MQ below (va_Qv (fun f' => ∃ (cur1 : Nat → Int) (w1 : Nat → Int32), fv L k adr 19 f' cur1 ∧ f' qa = cQ ln adr cc rr ∧ f' ln = cLn k zl ∧ f' ro = cR k w1 ∧ (∀ j, j < cols → nm w1 j (ou g (vals j))) ∧ (∀ x, cols * 6 ≤ x → w1 x = w x) ∧ ∀ q, q ≠ ro → (∀ x, x < 2 * 19 → q ≠ adr x) → f' q = f0 q) (mst D cls (tyl k) L) (fun q => q ∈ L)) args s 0 0 (fun q => q ∈ L)) (F0 m 2 ls []) := by
  have hx := S.1
  have hb := S.2.1
  have hown : s.vm.findClass R_Q = some m.cls := S.2.2.2.1
  have hG := S.2.2.2.2
  intro i
  induction i with
  | zero =>
    intro j f cur wj H locs ls hj hf hfq hfl htc hgc hcv hnm hwx ho hl hg
    have hj : j = cols := by omega
    subst hj
    have hw : kw D cls (tyl k) L s s.heap f [(qa, cQ ln adr cc rr), (ln, cLn k zl), (t, cT fd rw (nI j) rd pa nu)] H locs := ⟨f, hg, qt_kn hq ht hfq hfl htc.2.2.2.2.2.1⟩
    -- METHOD Q_storeLine | loc 0=qa 1=t 2=row 3=j | ws qa ln t | fld qa.line=ln qa.common=cm qa.rest=rs qa.quotient=qu
    refine lv_iload_n hx hb d_Q_storeLine_2 rfl (lv_at hl 3 rfl) ?_
    refine lv_aload_n hx hb d_Q_storeLine_3 rfl (lv_at hl 1 rfl) ?_
    refine k_get hx hb hG lay_T hown hw 2 rfl rfl 2 (by decide) (hG _ fl_Q_40) (fun _ h9 => h9) rfl d_Q_storeLine_4 ?_
    refine lv_icmp_ge (tgt := 68) hx hb d_Q_storeLine_7 (by decide) (fun hc => ?_) (fun hc => ?_)
    · exact g_retv hx hb hr hlocks hg ⟨cur, wj, hf, hfq, hfl, htc.2.2.2.2.2.2.2.1, hnm, hwx, ho⟩ d_Q_storeLine_68
    · exact absurd (nI_le (Nat.le_refl _) (by omega)) hc
  | succ i ih =>
    intro j f cur wj H locs ls hj hf hfq hfl htc hgc hcv hnm hwx ho hl hg
    have hcc : cc < 19 := by unfold cr at hcr; omega
    have hne1 : j ≠ cc := by unfold cr at hcr; omega
    have hne3 : cc ≠ 16 := by unfold cr at hcr; omega
    have h12 := htc.2.2.2.2.2.2.2.2.2.2.2
    have hro : ∀ x, x < 2 * 19 → ro ≠ adr x := fun x hx => (h12 x hx).2.2
    obtain ⟨mc, mlc, nc, gc, dc, ec, elc, wrc⟩ := hf cc hcc
    obtain ⟨mj, mlj, nj, gj, dj, ej, elj, wrj⟩ := hf j (by omega)
    have hkc : kn L f f [(adr (2 * cc), cW (adr (2 * cc + 1)) nc gc), (adr (2 * cc + 1), cD k dc)] := by
      refine kn_of (fun q hq => ?_) (nd_map (l := [2 * cc, 2 * cc + 1]) hq.2.2.2.2.1 (fun x hx => ?_) ?_)
      · simp only [List.mem_cons, List.not_mem_nil, or_false] at hq
        rcases hq with rfl | rfl
        · exact ⟨mc, ec⟩
        · exact ⟨mlc, elc⟩
      · simp only [List.mem_cons, List.not_mem_nil, or_false] at hx
        omega
      · simp
    have hjv : cur j = vals j := hcv j (Nat.le_refl _) (by omega)
    -- what is left to do behind the store
    have hend : ∀ (f5 : Nat → va_E) (cur5 : Nat → Int) (w5 : Nat → Int32) (H : Heap) (locs : List Loc) (ls : Array Slot), fv L k adr 19 f5 cur5 → (∀ q, q ≠ ro → (∀ x, x < 2 * 19 → q ≠ adr x) → f5 q = f q) → f5 ro = cR k w5 → cur5 cc = (g : Int) → (∀ i, j + 1 ≤ i → i < 12 → cur5 i = cur i) → nm w5 j (ou g (vals j)) → (∀ i, i < j * 6 ∨ j * 6 + 6 ≤ i → w5 i = wj i) → lv_has ls 4 [(0, .ref qa), (1, .ref t), (2, .int (nI row)), (3, .int (nI j))] → gw D cls (tyl k) L s s.heap f5 H locs → W p l e (rmN 3) s m args below meth c H locs 0 0 (MQ below (va_Qv (fun f' => ∃ (cur1 : Nat → Int) (w1 : Nat → Int32), fv L k adr 19 f' cur1 ∧ f' qa = cQ ln adr cc rr ∧ f' ln = cLn k zl ∧ f' ro = cR k w1 ∧ (∀ j, j < cols → nm w1 j (ou g (vals j))) ∧ (∀ x, cols * 6 ≤ x → w1 x = w x) ∧ ∀ q, q ≠ ro → (∀ x, x < 2 * 19 → q ≠ adr x) → f' q = f0 q) (mst D cls (tyl k) L) (fun q => q ∈ L)) args s 0 0 (fun q => q ∈ L)) (F0 m 62 ls []) := by
      intro f5 cur5 w5 H locs ls hf5 ho5 hr5 hc5 hv5 hn5 hw5 hl hg
      have hqa := ho5 qa ht.2.2.2.2.1 (fun x hx => (hq.2.2.2.1 x hx).1)
      have hln := ho5 ln ht.2.2.2.2.2.2.2 (fun x hx => (hq.2.2.2.1 x hx).2)
      have htt := ho5 t htc.2.2.2.2.2.2.2.2.2.1 (fun x hx => (h12 x hx).1)
      have hnn := ho5 nu htc.2.2.2.2.2.2.2.2.2.2.1 (fun x hx => (h12 x hx).2.1)
      -- METHOD Q_storeLine | loc 0=qa 1=t 2=row 3=j | ws qa ln t
      refine lv_iinc (k := 3) hx hb d_Q_storeLine_62 hl rfl (ii1 j) (by decide) rfl (fun ls hl => ?_)
      refine lv_goto (tgt := 2) hx hb d_Q_storeLine_65 (by decide) ?_
      have hl := lv_sub hl [1, 2, 3, 0] rfl
      refine ih (j + 1) f5 cur5 w5 H locs ls (by omega) hf5 (hqa.trans hfq) (hln.trans hfl) (tc_upd htc hr5 htt hnn) hc5 (fun i h1 h2 => (hv5 i h1 h2).trans (hcv i (by omega) h2)) (fun i hi => ?_) (fun x hx => ?_) (fun q h1 h2 => (ho5 q h1 h2).trans (ho q h1 h2)) hl hg
      · by_cases e : i = j
        · rw [e]; exact hn5
        · exact nm_far (hnm i (by omega)) hw5 e
      · rw [hw5 x (by omega)]; exact hwx x (by omega)
    have hw : kw D cls (tyl k) L s s.heap f [(qa, cQ ln adr cc rr), (ln, cLn k zl), (t, cT fd rw (nI cols) rd pa nu)] H locs := ⟨f, hg, qt_kn hq ht hfq hfl htc.2.2.2.2.2.1⟩
    -- METHOD Q_storeLine | loc 0=qa 1=t 2=row 3=j | ws qa ln t | fld qa.line=ln qa.common=cm qa.rest=rs qa.quotient=qu
    refine lv_iload_n hx hb d_Q_storeLine_2 rfl (lv_at hl 3 rfl) ?_
    refine lv_aload_n hx hb d_Q_storeLine_3 rfl (lv_at hl 1 rfl) ?_
    refine k_get hx hb hG lay_T hown hw 2 rfl rfl 2 (by decide) (hG _ fl_Q_40) (fun _ h9 => h9) rfl d_Q_storeLine_4 ?_
    refine lv_icmp_ge (tgt := 68) hx hb d_Q_storeLine_7 (by decide) (fun hc => ?_) (fun hc => ?_)
    · exact absurd hc (nI_ge (by omega) (by omega))
    · -- STK
      refine lv_aload_n hx hb d_Q_storeLine_10 rfl (lv_at hl 0 rfl) ?_
      refine k_get hx hb hG lay_Q hown hw 0 rfl rfl 6 (by decide) (hG _ fl_Q_34) (fun _ h9 => h9) rfl d_Q_storeLine_11 ?_
      have hw := hg
      refine g_oi (c_V (np := 0) S (m_W_isOne l D k L f _ _ nc gc dc _ hkc wrc) hw (mc) (ec) rfl ml_Q_98 im_W_isOne se_W_W_isOne in_W co_W_isOne (by decide +kernel) rfl ⟨rfl, rfl, by decide, by decide⟩ hl.1 rfl (by simp [Value.category]) d_Q_storeLine_14 ⟨Nat.zero_le _, Nat.zero_le _⟩) hw (fun r1 f1 H locs hp hw2 => ?_)
      rw [hp.1] at hw2
      have hg := hw2
      refine l_top hp.2 ?_
      rw [hgc]
      refine lv_if_eq (tgt := 35) hx hb d_Q_storeLine_17 (by decide) (fun hc => ?_) (fun hc => ?_)
      · have hg1 : g ≠ 1 := fun h => by rw [h] at hc; exact absurd hc (by decide)
        have hw : kw D cls (tyl k) L s s.heap f [(qa, cQ ln adr cc rr), (ln, cLn k zl), (t, cT fd rw (nI cols) rd pa nu)] H locs := ⟨f, hg, qt_kn hq ht hfq hfl htc.2.2.2.2.2.1⟩
        refine lv_aload_n hx hb d_Q_storeLine_35 rfl (lv_at hl 0 rfl) ?_
        refine k_get hx hb hG lay_Q hown hw 0 rfl rfl 0 (by decide) (hG _ fl_Q_11) (fun _ h9 => h9) rfl d_Q_storeLine_36 ?_
        refine lv_iload_n hx hb d_Q_storeLine_39 rfl (lv_at hl 3 rfl) ?_
        refine k_aald hx hb hw 1 3 rfl rfl (j) (rfl) (by omega) (by first | decide | omega) (hq.2.2.2.2.2 j (by omega)) d_Q_storeLine_40 ?_
        refine lv_aload_n hx hb d_Q_storeLine_41 rfl (lv_at hl 0 rfl) ?_
        refine k_get hx hb hG lay_Q hown hw 0 rfl rfl 6 (by decide) (hG _ fl_Q_34) (fun _ h9 => h9) rfl d_Q_storeLine_42 ?_
        refine lv_aload_n hx hb d_Q_storeLine_45 rfl (lv_at hl 0 rfl) ?_
        refine k_get hx hb hG lay_Q hown hw 0 rfl rfl 5 (by decide) (hG _ fl_Q_31) (fun _ h9 => h9) rfl d_Q_storeLine_46 ?_
        have hdiv : ∃ cur2 : Nat → Int, cur2 16 = ou g (vals j) ∧ cur2 cc = (g : Int) ∧ (∀ i, j + 1 ≤ i → i < 12 → cur2 i = cur i) ∧ Mv l y_W_divide (Cond.code y_W_divide c_W_divide 10 none :: G) (rmN 2) D cls (tyl k) L f [.ref (adr (2 * j)), .ref (adr (2 * cc)), .ref (adr (2 * 16))] (fun f' => fv L k adr 19 f' cur2 ∧ fo adr 19 f f') := by
          by_cases hg0 : g = 0
          · refine ⟨_, ?_, ?_, fun i h1 h2 => ?_, n_divide0 l D k L f adr 19 cur hq.2.2.2.2.1 hf j (by omega) cc hcc 16 (by omega) hne1 (by omega) hne3 (by rw [hgc, hg0]; rfl)⟩
            · rw [va_up_self]; unfold ou; rw [if_pos hg0]
            · rw [va_up_ne _ _ hne3]; exact hgc
            · exact va_up_ne _ _ (by omega)
          · refine ⟨_, ?_, ?_, fun i h1 h2 => ?_, n_divide l D k L f adr 19 cur hq.2.2.2.2.1 hf j (by omega) cc hcc 16 (by omega) hne1 (by omega) hne3 (by rw [hgc]; omega) (by rw [hjv]; exact hbd j (by omega))⟩
            · rw [va_up_self, hjv, hgc]; unfold ou; rw [if_neg hg0]
            · rw [va_up_ne _ _ hne3, va_up_ne _ _ (Ne.symm hne1)]; exact hgc
            · rw [va_up_ne _ _ (show i ≠ 16 by omega), va_up_ne _ _ (show i ≠ j by omega)]
        obtain ⟨cur2, hc16, hccv, hcold, hMdiv⟩ := hdiv
        have hw := hg
        refine g_ov (c_V (np := 2) S (hMdiv) hw (mj) (ej) rfl ml_Q_108 im_W_divide se_W_W_divide in_W co_W_divide (by decide +kernel) rfl ⟨rfl, rfl, by decide, by decide⟩ hl.1 rfl (by simp [Value.category]) d_Q_storeLine_49 ⟨Nat.zero_le _, Nat.zero_le _⟩) hw (fun f3 H locs hp3 hw3 => ?_)
        obtain ⟨hf3, ho3⟩ := hp3
        have hg := hw3
        have hfq3 := (ho3 qa (fun x hx => (hq.2.2.2.1 x hx).1)).trans hfq
        have hfl3 := (ho3 ln (fun x hx => (hq.2.2.2.1 x hx).2)).trans hfl
        have htc3 := tc_fo htc ho3
        have hw : kw D cls (tyl k) L s s.heap f3 [(qa, cQ ln adr cc rr), (ln, cLn k zl), (t, cT fd rw (nI cols) rd pa nu)] H locs := ⟨f3, hg, qt_kn hq ht hfq3 hfl3 htc3.2.2.2.2.2.1⟩
        refine lv_aload_n hx hb d_Q_storeLine_52 rfl (lv_at hl 1 rfl) ?_
        refine lv_iload_n hx hb d_Q_storeLine_53 rfl (lv_at hl 2 rfl) ?_
        refine lv_iload_n hx hb d_Q_storeLine_54 rfl (lv_at hl 3 rfl) ?_
        refine lv_aload_n hx hb d_Q_storeLine_55 rfl (lv_at hl 0 rfl) ?_
        refine k_get hx hb hG lay_Q hown hw 0 rfl rfl 5 (by decide) (hG _ fl_Q_31) (fun _ h9 => h9) rfl d_Q_storeLine_56 ?_
        have hw := hg
        refine g_ov (c_V (np := 3) S (n_store l D k L f3 adr 19 cur2 hq.2.2.2.2.1 hf3 t pa nu ro fd rw (nI cols) rd z wj row htc3 j 16 (by omega) (by omega) (by rw [hc16]; exact hbo j (by omega))) hw (htc3.2.2.1) (htc3.2.2.2.2.2.1) rfl ml_Q_111 im_T_store se_T_T_store in_T co_T_store (by decide +kernel) rfl ⟨rfl, rfl, by decide, by decide⟩ hl.1 rfl (by simp [Value.category]) d_Q_storeLine_59 ⟨Nat.zero_le _, Nat.zero_le _⟩) hw (fun f4 H locs hp4 hw4 => ?_)
        obtain ⟨w4, hn4, hw5, hr4, ho4⟩ := hp4
        refine hend f4 cur2 w4 H locs ls (fv_ro hf3 ho4 hro) (fun q h1 h2 => (ho4 q h1).trans (ho3 q h2)) hr4 hccv hcold (by rw [hc16] at hn4; exact hn4) hw5 hl hw4
      · have hg1 : g = 1 := Classical.byContradiction fun h => hc (by rw [if_neg (by omega)])
        have hw : kw D cls (tyl k) L s s.heap f [(qa, cQ ln adr cc rr), (ln, cLn k zl), (t, cT fd rw (nI cols) rd pa nu)] H locs := ⟨f, hg, qt_kn hq ht hfq hfl htc.2.2.2.2.2.1⟩
        have hou : ou g (vals j) = vals j := by unfold ou; rw [if_neg (by omega), hg1]; exact Int.tdiv_one _
        refine lv_aload_n hx hb d_Q_storeLine_20 rfl (lv_at hl 1 rfl) ?_
        refine lv_iload_n hx hb d_Q_storeLine_21 rfl (lv_at hl 2 rfl) ?_
        refine lv_iload_n hx hb d_Q_storeLine_22 rfl (lv_at hl 3 rfl) ?_
        refine lv_aload_n hx hb d_Q_storeLine_23 rfl (lv_at hl 0 rfl) ?_
        refine k_get hx hb hG lay_Q hown hw 0 rfl rfl 0 (by decide) (hG _ fl_Q_11) (fun _ h9 => h9) rfl d_Q_storeLine_24 ?_
        refine lv_iload_n hx hb d_Q_storeLine_27 rfl (lv_at hl 3 rfl) ?_
        refine k_aald hx hb hw 1 3 rfl rfl (j) (rfl) (by omega) (by first | decide | omega) (hq.2.2.2.2.2 j (by omega)) d_Q_storeLine_28 ?_
        have hw := hg
        refine g_ov (c_V (np := 3) S (n_store l D k L f adr 19 cur hq.2.2.2.2.1 hf t pa nu ro fd rw (nI cols) rd z wj row htc j j (by omega) (by omega) (by rw [hjv, ← hou]; exact hbo j (by omega))) hw (htc.2.2.1) (htc.2.2.2.2.2.1) rfl ml_Q_111 im_T_store se_T_T_store in_T co_T_store (by decide +kernel) rfl ⟨rfl, rfl, by decide, by decide⟩ hl.1 rfl (by simp [Value.category]) d_Q_storeLine_29 ⟨Nat.zero_le _, Nat.zero_le _⟩) hw (fun f4 H locs hp4 hw4 => ?_)
        refine lv_goto (tgt := 62) hx hb d_Q_storeLine_32 (by decide) ?_
        obtain ⟨w4, hn4, hw5, hr4, ho4⟩ := hp4
        refine hend f4 cur w4 H locs ls (fv_ro hf ho4 hro) (fun q h1 h2 => ho4 q h1) hr4 hgc (fun _ _ _ => rfl) (by rw [hjv] at hn4; rw [hou]; exact hn4) hw5 hl hw4
end SL
set_option maxRecDepth 100000 in
set_option maxHeartbeats 4000000 in
/-- storeLine(table, row): the row becomes the line, its common divisor taken out -/
theorem m_Q_storeLine (l : Launch) (D : va_G) (k : Nat → ClassId) (L : List Nat) (f0 : Nat → va_E) (adr : Nat → Nat) (qa ln cols cc rr t pa nu ro row g : Nat) (fd rw rd : Int32) (z zl : Nat → Option Nat) (w : Nat → Int32) (vals : Nat → Int) (hq : qs L adr qa ln zl) (ht : qt L adr qa ln t nu ro) (hcr : cr cc rr) (hcols : cols ≤ 12) (hf : fv L k adr 19 f0 vals) (hfq : f0 qa = cQ ln adr cc rr) (hfl : f0 ln = cLn k zl) (htc : tc L k f0 adr 19 t pa nu ro fd rw (nI cols) rd z w row) (hgc : vals cc = (g : Int)) (hbd : ∀ i, i < cols → (vals i).natAbs < B30 ^ 11) (hbo : ∀ i, i < cols → (ou g (vals i)).natAbs < B30 ^ 5) : Mv l y_Q_storeLine (Cond.code y_Q_storeLine c_Q_storeLine 4 none :: G) (rmN 3) D cls (tyl k) L f0 [.ref qa, .ref t, .int (nI row)] (fun f' => ∃ (cur1 : Nat → Int) (w1 : Nat → Int32), fv L k adr 19 f' cur1 ∧ f' qa = cQ ln adr cc rr ∧ f' ln = cLn k zl ∧ f' ro = cR k w1 ∧ (∀ j, j < cols → nm w1 j (ou g (vals j))) ∧ (∀ x, cols * 6 ≤ x → w1 x = w x) ∧ ∀ q, q ≠ ro → (∀ x, x < 2 * 19 → q ≠ adr x) → f' q = f0 q) := by
  -- METHOD Q_storeLine | loc 0=qa 1=t 2=row | ws qa ln t
  refine mk_met (by decide) (Nat.le_of_ble_eq_true rfl) (fun p e s m below meth c ls S hr hlocks hw hl => ?_)
  have hx := S.1
  have hb := S.2.1
  have hown : s.vm.findClass R_Q = some m.cls := S.2.2.2.1
  have hG := S.2.2.2.2
  have hl : lv_has ls 4 [(0, .ref qa), (1, .ref t), (2, .int (nI row))] := hl
  have hg := hw
  refine lv_iconst (v := 0) hx hb d_Q_storeLine_0 (by decide) ?_
  refine lv_istore_n hx hb d_Q_storeLine_1 rfl hl (by decide) rfl (fun ls hl => ?_)
  have hl := lv_sub hl [1, 2, 3, 0] rfl
  exact w_sl S hr hlocks hq ht hcr hcols hbd hbo cols 0 f0 vals w _ _ ls (by omega) hf hfq hfl htc hgc (fun _ _ _ => rfl) (fun i hi => by omega) (fun _ _ => rfl) (fun _ _ _ => rfl) hl hg


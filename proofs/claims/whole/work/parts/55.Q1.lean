-- ===== Rationals: findCommon =====
abbrev cQ (ln : Nat) (adr : Nat → Nat) (c r : Nat) : va_E := .inr (1, [.ref ln, .ref (adr (2 * 12)), .ref (adr (2 * 13)), .ref (adr (2 * 14)), .ref (adr (2 * 15)), .ref (adr (2 * 16)), .ref (adr (2 * c)), .ref (adr (2 * r))])
abbrev cLn (k : Nat → ClassId) (zl : Nat → Option Nat) : va_E := .inl (k 3, 12, .inr (.inr (.inr (.inr zl))))
/-- where the Rationals' cells lie: the object, its line, and 19 Wholes (the line's 12, then number, product, rowFactor, leaderFactor, quotient, common and rest) -/
def qs (L : List Nat) (adr : Nat → Nat) (qa ln : Nat) (zl : Nat → Option Nat) : Prop := qa ∈ L ∧ ln ∈ L ∧ qa ≠ ln ∧ (∀ x, x < 38 → qa ≠ adr x ∧ ln ≠ adr x) ∧ (∀ x y, x < 2 * 19 → y < 2 * 19 → adr x = adr y → x = y) ∧ ∀ j, j < 12 → zl j = some (adr (2 * j))
theorem qs_kn {L : List Nat} {adr : Nat → Nat} {qa ln : Nat} {zl : Nat → Option Nat} {f : Nat → va_E} {a b : va_E} (h : qs L adr qa ln zl) (h1 : f qa = a) (h2 : f ln = b) : kn L f f [(qa, a), (ln, b)] := by
  refine kn_of (fun q hq => ?_) (by simp; exact h.2.2.1)
  simp only [List.mem_cons, List.not_mem_nil, or_false] at hq
  rcases hq with rfl | rfl
  · exact ⟨h.1, h1⟩
  · exact ⟨h.2.1, h2⟩
def cr (c r : Nat) : Prop := (c = 17 ∧ r = 18) ∨ (c = 18 ∧ r = 17)
/-- the greatest common divisor of the first ones -/
def gd (vals : Nat → Int) : Nat → Nat
  | 0 => 0
  | j + 1 => Nat.gcd (gd vals j) (vals j).natAbs
theorem gd_one {vals : Nat → Int} {j : Nat} (h : gd vals j = 1) : ∀ i, gd vals (j + i) = 1
  | 0 => h
  | i + 1 => by
    show Nat.gcd (gd vals (j + i)) _ = 1
    rw [gd_one h i, Nat.gcd_one_left]
theorem gd_lt {vals : Nat → Int} {B : Nat} (hB : 0 < B) : ∀ j, (∀ i, i < j → (vals i).natAbs < B) → gd vals j < B
  | 0, _ => hB
  | j + 1, h => by
    show Nat.gcd (gd vals j) (vals j).natAbs < B
    by_cases h0 : (vals j).natAbs = 0
    · rw [h0, Nat.gcd_zero_right]; exact gd_lt hB j (fun i hi => h i (by omega))
    · have := Nat.le_of_dvd (by omega) (Nat.gcd_dvd_right (gd vals j) (vals j).natAbs)
      have := h j (by omega)
      omega
section FC
variable {p : Program} {l : Launch} {e : Env} {s : State} {m : MethodId} {args : Array Value} {below : List Frame} {meth : Method} {c : Code} {Q : State → Prop} {D : va_G} {k : Nat → ClassId} {L : List Nat} {H0 : Heap}
set_option maxRecDepth 100000 in
set_option maxHeartbeats 4000000 in
/-- one step of Euclid -/
theorem w_it (S : CallFix p m c c_Q_findCommon 5 s args G R_Q) {adr : Nat → Nat} {qa ln cols j st A B cc rr : Nat} {zl : Nat → Option Nat} (hq : qs L adr qa ln zl) (hcr : cr cc rr) {f : Nat → va_E} {vals : Nat → Int} {H : Heap} {locs : List Loc} {ls : Array Slot} (hf : fv L k adr 19 f vals) (hfq : f qa = cQ ln adr cc rr) (hfl : f ln = cLn k zl) (hA : vals cc = (A : Int)) (hB : vals rr = (B : Int)) (hB0 : B ≠ 0) (hAl : A < B30 ^ 11) (hst : st < 10000) (hl : lv_has ls 5 [(0, .ref qa), (1, .int (nI cols)), (2, .int (nI j)), (3, .int (nI st))]) (hg : gw D cls (tyl k) L s H0 f H locs)
    (kx : ∀ (f' : Nat → va_E) (vals' : Nat → Int) (H : Heap) (locs : List Loc) (ls : Array Slot), fv L k adr 19 f' vals' → f' qa = cQ ln adr rr cc → f' ln = cLn k zl → vals' rr = (B : Int) → vals' cc = ((A % B : Nat) : Int) → (∀ i, i ≠ 16 → i ≠ 17 → i ≠ 18 → vals' i = vals i) → (∀ q, q ≠ qa → (∀ x, x < 2 * 19 → q ≠ adr x) → f' q = f q) → lv_has ls 5 [(0, .ref qa), (1, .int (nI cols)), (2, .int (nI j)), (3, .int (nI (st + 1)))] → gw D cls (tyl k) L s H0 f' H locs → W p l e (rmN 3) s m args below meth c H locs 0 0 Q (F0 m 39 ls [])) :
    W p l e (rmN 3) s m args below meth c H locs 0 0 Q (F0 m 39 ls []) := by
  have hx := S.1
  have hb := S.2.1
  have hown : s.vm.findClass R_Q = some m.cls := S.2.2.2.1
  have hG := S.2.2.2.2
  have hcc : cc < 19 := by unfold cr at hcr; omega
  have hrr : rr < 19 := by unfold cr at hcr; omega
  have hne1 : cc ≠ rr := by unfold cr at hcr; omega
  have hne2 : cc ≠ 16 := by unfold cr at hcr; omega
  have hne3 : rr ≠ 16 := by unfold cr at hcr; omega
  have hw : kw D cls (tyl k) L s H0 f [(qa, cQ ln adr cc rr), (ln, cLn k zl)] H locs := ⟨f, hg, qs_kn hq hfq hfl⟩
  obtain ⟨mr, mlr, nr, gr, dr, er, elr, wrr⟩ := hf rr hrr
  obtain ⟨mc, mlc, nc, gc, dc, ec, elc, wrc⟩ := hf cc hcc
  have hgr : ¬ gr = 0 := by
    rw [wr_g wrr, hB, Int.sign_eq_one_of_pos (by omega)]; decide
  -- METHOD Q_findCommon | loc 0=qa 1=cols 2=j 3=st | ws qa ln | fld qa.line=ln qa.common=cm qa.rest=rs qa.quotient=qu
  refine lv_iload_n hx hb d_Q_findCommon_39 rfl (lv_at hl 3 rfl) ?_
  refine lv_sipush (v := 10000) hx hb d_Q_findCommon_40 (by decide) ?_
  refine lv_icmp_ge (tgt := 97) hx hb d_Q_findCommon_43 (by decide) (fun hc => ?_) (fun hc => ?_)
  · exact absurd hc (nI_ge (b := 10000) hst (by omega))
  · -- STK
    refine lv_aload_n hx hb d_Q_findCommon_46 rfl (lv_at hl 0 rfl) ?_
    refine k_get hx hb hG lay_Q hown hw 0 rfl rfl 7 (by decide) (hG _ fl_Q_37) (fun _ h9 => h9) rfl d_Q_findCommon_47 ?_
    refine g_get hx hb hG lay_W hown hg mr er rfl 2 (by decide) (hG _ fl_Q_105) (fun _ h9 => h9) rfl d_Q_findCommon_50 ?_
    refine lv_if_eq (tgt := 97) hx hb d_Q_findCommon_53 (by decide) (fun hc => ?_) (fun hc => ?_)
    · exact absurd hc hgr
    · -- STK
      refine lv_aload_n hx hb d_Q_findCommon_56 rfl (lv_at hl 0 rfl) ?_
      refine k_get hx hb hG lay_Q hown hw 0 rfl rfl 6 (by decide) (hG _ fl_Q_34) (fun _ h9 => h9) rfl d_Q_findCommon_57 ?_
      refine lv_aload_n hx hb d_Q_findCommon_60 rfl (lv_at hl 0 rfl) ?_
      refine k_get hx hb hG lay_Q hown hw 0 rfl rfl 7 (by decide) (hG _ fl_Q_37) (fun _ h9 => h9) rfl d_Q_findCommon_61 ?_
      refine lv_aload_n hx hb d_Q_findCommon_64 rfl (lv_at hl 0 rfl) ?_
      refine k_get hx hb hG lay_Q hown hw 0 rfl rfl 5 (by decide) (hG _ fl_Q_31) (fun _ h9 => h9) rfl d_Q_findCommon_65 ?_
      have hw := hg
      refine g_ov (c_V (np := 2) S (n_divide l D k L f adr 19 vals hq.2.2.2.2.1 hf cc hcc rr hrr 16 (by omega) hne1 hne2 hne3 (by rw [hB]; omega) (by rw [hA]; exact hAl)) hw (mc) (ec) rfl ml_Q_108 im_W_divide se_W_W_divide in_W co_W_divide (by decide +kernel) rfl ⟨rfl, rfl, by decide, by decide⟩ hl.1 rfl (by simp [Value.category]) d_Q_findCommon_68 ⟨Nat.zero_le _, Nat.zero_le _⟩) hw (fun f1 H locs hp hw => ?_)
      obtain ⟨hf1, ho1⟩ := hp
      have hfq1 : f1 qa = cQ ln adr cc rr := (ho1 qa (fun x hx => (hq.2.2.2.1 x hx).1)).trans hfq
      have hfl1 : f1 ln = cLn k zl := (ho1 ln (fun x hx => (hq.2.2.2.1 x hx).2)).trans hfl
      have hw : kw D cls (tyl k) L s H0 f1 [(qa, cQ ln adr cc rr), (ln, cLn k zl)] H locs := ⟨f1, hw, qs_kn hq hfq1 hfl1⟩
      refine lv_aload_n hx hb d_Q_findCommon_71 rfl (lv_at hl 0 rfl) ?_
      refine k_get hx hb hG lay_Q hown hw 0 rfl rfl 6 (by decide) (hG _ fl_Q_34) (fun _ h9 => h9) rfl d_Q_findCommon_72 ?_
      refine lv_astore hx hb d_Q_findCommon_75 hl (by decide) rfl (fun ls hl => ?_)
      refine lv_aload_n hx hb d_Q_findCommon_77 rfl (lv_at hl 1 rfl) ?_
      refine lv_aload_n hx hb d_Q_findCommon_78 rfl (lv_at hl 1 rfl) ?_
      refine k_get hx hb hG lay_Q hown hw 0 rfl rfl 7 (by decide) (hG _ fl_Q_37) (fun _ h9 => h9) rfl d_Q_findCommon_79 ?_
      refine k_put (ty := .object "LineTables$Whole") hx hb hG lay_Q ft_Q ft_Q_ok fn_Q hown hw 0 rfl rfl 6 (by decide) (hG _ fl_Q_34) (fun _ h9 => h9) rfl (by decide +kernel) rfl rfl (by simp) d_Q_findCommon_82 (fun H locs hw => ?_)
      refine lv_aload_n hx hb d_Q_findCommon_85 rfl (lv_at hl 1 rfl) ?_
      refine lv_aload hx hb d_Q_findCommon_86 (lv_at hl 0 rfl) ?_
      refine k_put (ty := .object "LineTables$Whole") hx hb hG lay_Q ft_Q ft_Q_ok fn_Q hown hw 0 rfl rfl 7 (by decide) (hG _ fl_Q_37) (fun _ h9 => h9) rfl (by decide +kernel) rfl rfl (by simp) d_Q_findCommon_88 (fun H locs hw => ?_)
      refine lv_iinc (k := 4) hx hb d_Q_findCommon_91 hl rfl (ii1 st) (by decide) rfl (fun ls hl => ?_)
      refine lv_goto (tgt := 39) hx hb d_Q_findCommon_94 (by decide) ?_
      have hl := lv_sub hl [2, 3, 4, 0] rfl
      obtain ⟨f2, hw, hk2⟩ := hw
      have hoff : ∀ q, q ≠ qa → q ≠ ln → f2 q = f1 q := fun q h1 h2 => kn_off hk2 (by simp; exact ⟨h1, h2⟩)
      have hfl2 : f2 ln = cLn k zl := (hk2.1 1 _ rfl).2
      have hfq2 : f2 qa = cQ ln adr rr cc := (hk2.1 0 _ rfl).2
      have hf2 : fv L k adr 19 f2 (va_up (va_up vals cc ((vals cc).tmod (vals rr))) 16 ((vals cc).tdiv (vals rr))) := by
        intro i hi
        obtain ⟨q1, q2, n, g, d, q3, q4, q5⟩ := hf1 i hi
        refine ⟨q1, q2, n, g, d, ?_, ?_, q5⟩
        · rw [hoff _ (fun h => (hq.2.2.2.1 (2 * i) (by omega)).1 h.symm) (fun h => (hq.2.2.2.1 (2 * i) (by omega)).2 h.symm)]; exact q3
        · rw [hoff _ (fun h => (hq.2.2.2.1 (2 * i + 1) (by omega)).1 h.symm) (fun h => (hq.2.2.2.1 (2 * i + 1) (by omega)).2 h.symm)]; exact q4
      refine kx f2 _ H locs ls hf2 hfq2 hfl2 ?_ ?_ (fun i h1 h2 h3 => ?_) (fun q h1 h2 => ?_) hl hw
      · rw [va_up_ne _ _ hne3, va_up_ne _ _ (Ne.symm hne1)]; exact hB
      · rw [va_up_ne _ _ hne2, va_up_self, hA, hB]; rfl
      · rw [va_up_ne _ _ h1, va_up_ne _ _ (by unfold cr at hcr; omega)]
      · by_cases e : q = ln
        · rw [e, hfl2, hfl]
        · rw [hoff q h1 e]; exact ho1 q h2
set_option maxRecDepth 100000 in
set_option maxHeartbeats 4000000 in
theorem w_ex (S : CallFix p m c c_Q_findCommon 5 s args G R_Q) {adr : Nat → Nat} {qa ln cols j st cc rr : Nat} {zl : Nat → Option Nat} (hq : qs L adr qa ln zl) (hcr : cr cc rr) {f : Nat → va_E} {vals : Nat → Int} {H : Heap} {locs : List Loc} {ls : Array Slot} (hf : fv L k adr 19 f vals) (hfq : f qa = cQ ln adr cc rr) (hfl : f ln = cLn k zl) (hB : vals rr = 0) (hst : st < 10000) (hl : lv_has ls 5 [(0, .ref qa), (1, .int (nI cols)), (2, .int (nI j)), (3, .int (nI st))]) (hg : gw D cls (tyl k) L s H0 f H locs) (kx : W p l e (rmN 3) s m args below meth c H locs 0 0 Q (F0 m 97 ls [])) : W p l e (rmN 3) s m args below meth c H locs 0 0 Q (F0 m 39 ls []) := by
  have hx := S.1
  have hb := S.2.1
  have hown : s.vm.findClass R_Q = some m.cls := S.2.2.2.1
  have hG := S.2.2.2.2
  have hrr : rr < 19 := by unfold cr at hcr; omega
  have hw : kw D cls (tyl k) L s H0 f [(qa, cQ ln adr cc rr), (ln, cLn k zl)] H locs := ⟨f, hg, qs_kn hq hfq hfl⟩
  obtain ⟨mr, mlr, nr, gr, dr, er, elr, wrr⟩ := hf rr hrr
  have hgr : gr = 0 := by rw [wr_g wrr, hB]; rfl
  -- METHOD Q_findCommon | loc 0=qa 1=cols 2=j 3=st | ws qa ln | fld qa.line=ln qa.common=cm qa.rest=rs qa.quotient=qu
  refine lv_iload_n hx hb d_Q_findCommon_39 rfl (lv_at hl 3 rfl) ?_
  refine lv_sipush (v := 10000) hx hb d_Q_findCommon_40 (by decide) ?_
  refine lv_icmp_ge (tgt := 97) hx hb d_Q_findCommon_43 (by decide) (fun hc => ?_) (fun hc => ?_)
  · exact absurd hc (nI_ge (b := 10000) hst (by omega))
  · -- STK
    refine lv_aload_n hx hb d_Q_findCommon_46 rfl (lv_at hl 0 rfl) ?_
    refine k_get hx hb hG lay_Q hown hw 0 rfl rfl 7 (by decide) (hG _ fl_Q_37) (fun _ h9 => h9) rfl d_Q_findCommon_47 ?_
    refine g_get hx hb hG lay_W hown hg mr er rfl 2 (by decide) (hG _ fl_Q_105) (fun _ h9 => h9) rfl d_Q_findCommon_50 ?_
    refine lv_if_eq (tgt := 97) hx hb d_Q_findCommon_53 (by decide) (fun hc => ?_) (fun hc => ?_)
    · exact kx
    · exact absurd hgr hc
set_option maxRecDepth 100000 in
set_option maxHeartbeats 4000000 in
theorem w_euc (S : CallFix p m c c_Q_findCommon 5 s args G R_Q) {adr : Nat → Nat} {qa ln cols j : Nat} {zl : Nat → Option Nat} (hq : qs L adr qa ln zl) :
    ∀ (M A B st cc rr : Nat) (f : Nat → va_E) (vals : Nat → Int) (H : Heap) (locs : List Loc) (ls : Array Slot), cr cc rr → fv L k adr 19 f vals → f qa = cQ ln adr cc rr → f ln = cLn k zl → vals cc = (A : Int) → vals rr = (B : Int) → B ≤ A → A * B < 2 ^ M → A < B30 ^ 11 → st + M + 1 ≤ 10000 → lv_has ls 5 [(0, .ref qa), (1, .int (nI cols)), (2, .int (nI j)), (3, .int (nI st))] → gw D cls (tyl k) L s H0 f H locs →
    (∀ (f' : Nat → va_E) (vals' : Nat → Int) (cc rr st : Nat) (H : Heap) (locs : List Loc) (ls : Array Slot), cr cc rr → fv L k adr 19 f' vals' → f' qa = cQ ln adr cc rr → f' ln = cLn k zl → vals' cc = ((Nat.gcd A B : Nat) : Int) → (∀ i, i ≠ 16 → i ≠ 17 → i ≠ 18 → vals' i = vals i) → (∀ q, q ≠ qa → (∀ x, x < 2 * 19 → q ≠ adr x) → f' q = f q) → lv_has ls 5 [(0, .ref qa), (1, .int (nI cols)), (2, .int (nI j)), (3, .int (nI st))] → gw D cls (tyl k) L s H0 f' H locs → W p l e (rmN 3) s m args below meth c H locs 0 0 Q (F0 m 97 ls [])) → W p l e (rmN 3) s m args below meth c H locs 0 0 Q (F0 m 39 ls []) := by
  intro M
  induction M with
  | zero =>
    intro A B st cc rr f vals H locs ls hcr hf hfq hfl hA hB hBA hAB hAl hst hl hg kx
    have hB0 : B = 0 := by
      rw [Nat.pow_zero] at hAB
      have h0 : A * B = 0 := by omega
      rcases Nat.mul_eq_zero.mp h0 with h | h <;> omega
    subst hB0
    exact w_ex S hq hcr hf hfq hfl hB (by omega) hl hg (kx f vals cc rr st H locs ls hcr hf hfq hfl (by rw [Nat.gcd_zero_right]; exact hA) (fun _ _ _ _ => rfl) (fun _ _ _ => rfl) hl hg)
  | succ M ih =>
    intro A B st cc rr f vals H locs ls hcr hf hfq hfl hA hB hBA hAB hAl hst hl hg kx
    by_cases hB0 : B = 0
    · subst hB0
      exact w_ex S hq hcr hf hfq hfl hB (by omega) hl hg (kx f vals cc rr st H locs ls hcr hf hfq hfl (by rw [Nat.gcd_zero_right]; exact hA) (fun _ _ _ _ => rfl) (fun _ _ _ => rfl) hl hg)
    · refine w_it S hq hcr hf hfq hfl hA hB hB0 hAl (by omega) hl hg (fun f1 vals1 H locs ls hf1 hfq1 hfl1 hB1 hA1 hv1 ho1 hl hg => ?_)
      have hmod := Nat.mod_lt A (show 0 < B by omega)
      have hdm := Nat.div_add_mod A B
      have hdiv : 1 ≤ A / B := (Nat.le_div_iff_mul_le (by omega)).mpr (by omega)
      have h2 : 2 * (A % B) ≤ A := by
        have : B * 1 ≤ B * (A / B) := Nat.mul_le_mul_left _ hdiv
        omega
      have h3 : B * (A % B) < 2 ^ M := by
        have h4 : B * (2 * (A % B)) ≤ B * A := Nat.mul_le_mul_left _ h2
        rw [Nat.mul_left_comm, Nat.mul_comm B A] at h4
        rw [Nat.pow_succ] at hAB
        omega
      refine ih B (A % B) (st + 1) rr cc f1 vals1 H locs ls (by unfold cr at hcr ⊢; omega) hf1 hfq1 hfl1 hB1 hA1 (by omega) h3 (by omega) (by omega) hl hg (fun f2 vals2 c2 r2 st2 H locs ls hcr2 hf2 hfq2 hfl2 hv2 hvv2 ho2 hl hg => kx f2 vals2 c2 r2 st2 H locs ls hcr2 hf2 hfq2 hfl2 ?_ (fun i h1 h2 h3 => (hvv2 i h1 h2 h3).trans (hv1 i h1 h2 h3)) (fun q h1 h2 => (ho2 q h1 h2).trans (ho1 q h1 h2)) hl hg)
      rw [hv2, Nat.gcd_comm A B, Nat.gcd_rec B A, Nat.gcd_comm]
set_option maxRecDepth 100000 in
set_option maxHeartbeats 4000000 in
theorem w_eucG (S : CallFix p m c c_Q_findCommon 5 s args G R_Q) {adr : Nat → Nat} {qa ln cols j A B cc rr : Nat} {zl : Nat → Option Nat} (hq : qs L adr qa ln zl) {f : Nat → va_E} {vals : Nat → Int} {H : Heap} {locs : List Loc} {ls : Array Slot} (hcr : cr cc rr) (hf : fv L k adr 19 f vals) (hfq : f qa = cQ ln adr cc rr) (hfl : f ln = cLn k zl) (hA : vals cc = (A : Int)) (hB : vals rr = (B : Int)) (hAl : A < B30 ^ 11) (hBl : B < B30 ^ 11) (hl : lv_has ls 5 [(0, .ref qa), (1, .int (nI cols)), (2, .int (nI j)), (3, .int (nI 0))]) (hg : gw D cls (tyl k) L s H0 f H locs) (kx : ∀ (f' : Nat → va_E) (vals' : Nat → Int) (cc rr st : Nat) (H : Heap) (locs : List Loc) (ls : Array Slot), cr cc rr → fv L k adr 19 f' vals' → f' qa = cQ ln adr cc rr → f' ln = cLn k zl → vals' cc = ((Nat.gcd A B : Nat) : Int) → (∀ i, i ≠ 16 → i ≠ 17 → i ≠ 18 → vals' i = vals i) → (∀ q, q ≠ qa → (∀ x, x < 2 * 19 → q ≠ adr x) → f' q = f q) → lv_has ls 5 [(0, .ref qa), (1, .int (nI cols)), (2, .int (nI j)), (3, .int (nI st))] → gw D cls (tyl k) L s H0 f' H locs → W p l e (rmN 3) s m args below meth c H locs 0 0 Q (F0 m 97 ls [])) : W p l e (rmN 3) s m args below meth c H locs 0 0 Q (F0 m 39 ls []) := by
  have hprod : A * B < 2 ^ 660 := by
    have h1 : A * B < B30 ^ 11 * B30 ^ 11 := Nat.mul_lt_mul'' hAl hBl
    have h2 : B30 ^ 11 * B30 ^ 11 = 2 ^ 660 := by decide +kernel
    omega
  by_cases hBA : B ≤ A
  · exact w_euc S hq 660 A B 0 cc rr f vals H locs ls hcr hf hfq hfl hA hB hBA hprod hAl (by omega) hl hg kx
  · refine w_it S hq hcr hf hfq hfl hA hB (by omega) hAl (by omega) hl hg (fun f1 vals1 H locs ls hf1 hfq1 hfl1 hB1 hA1 hv1 ho1 hl hg => ?_)
    rw [Nat.mod_eq_of_lt (by omega)] at hA1
    refine w_euc S hq 660 B A 1 rr cc f1 vals1 H locs ls (by unfold cr at hcr ⊢; omega) hf1 hfq1 hfl1 hB1 hA1 (by omega) (by rw [Nat.mul_comm]; exact hprod) hBl (by omega) hl hg (fun f2 vals2 c2 r2 st2 H locs ls hcr2 hf2 hfq2 hfl2 hv2 hvv2 ho2 hl hg => kx f2 vals2 c2 r2 st2 H locs ls hcr2 hf2 hfq2 hfl2 ?_ (fun i h1 h2 h3 => (hvv2 i h1 h2 h3).trans (hv1 i h1 h2 h3)) (fun q h1 h2 => (ho2 q h1 h2).trans (ho1 q h1 h2)) hl hg)
    rw [hv2, Nat.gcd_comm]
set_option maxRecDepth 100000 in
set_option maxHeartbeats 4000000 in
theorem w_fc (S : CallFix p m c c_Q_findCommon 5 s args G R_Q) (hr : meth.sig.returnType = none) (hlocks : meth.locks = false) {adr : Nat → Nat} {qa ln cols : Nat} {zl : Nat → Option Nat} (hq : qs L adr qa ln zl) (hcols : cols ≤ 12) {vals : Nat → Int} {f0 : Nat → va_E} (hbd : ∀ i, i < cols → (vals i).natAbs < B30 ^ 11) :
    ∀ (t j cc rr : Nat) (f : Nat → va_E) (cur : Nat → Int) (H : Heap) (locs : List Loc) (ls : Array Slot), j + t = cols → cr cc rr → fv L k adr 19 f cur → f qa = cQ ln adr cc rr → f ln = cLn k zl → cur cc = ((gd vals j : Nat) : Int) → (∀ i, i ≠ 16 → i ≠ 17 → i ≠ 18 → cur i = vals i) → (∀ q, q ≠ qa → (∀ x, x < 2 * 19 → q ≠ adr x) → f q = f0 q) → lv_has ls 5 [(0, .ref qa), (1, .int (nI cols)), (2, .int (nI j))] → gw D cls (tyl k) L s s.heap f H locs →
    W p l e (rmN 3) s m args below meth c H locs 0 0 (MQ below (va_Qv (fun f' => ∃ (c1 r1 : Nat) (vals1 : Nat → Int), cr c1 r1 ∧ fv L k adr 19 f' vals1 ∧ f' qa = cQ ln adr c1 r1 ∧ f' ln = cLn k zl ∧ vals1 c1 = ((gd vals cols : Nat) : Int) ∧ (∀ i, i ≠ 16 → i ≠ 17 → i ≠ 18 → vals1 i = vals i) ∧ ∀ q, q ≠ qa → (∀ x, x < 2 * 19 → q ≠ adr x) → f' q = f0 q) (mst D cls (tyl k) L) (fun q => q ∈ L)) args s 0 0 (fun q => q ∈ L)) (F0 m 9 ls []) := by
  have hx := S.1
  have hb := S.2.1
  have hown : s.vm.findClass R_Q = some m.cls := S.2.2.2.1
  have hG := S.2.2.2.2
  intro t
  induction t with
  | zero =>
    intro j cc rr f cur H locs ls hj hcr hf hfq hfl hgc hcv ho hl hg
    have hj : j = cols := by omega
    subst hj
    -- METHOD Q_findCommon | loc 0=qa 1=cols 2=j | ws qa ln | fld qa.line=ln qa.common=cm qa.rest=rs qa.quotient=qu
    refine lv_iload_n hx hb d_Q_findCommon_9 rfl (lv_at hl 2 rfl) ?_
    refine lv_iload_n hx hb d_Q_findCommon_10 rfl (lv_at hl 1 rfl) ?_
    refine lv_icmp_ge (tgt := 103) hx hb d_Q_findCommon_11 (by decide) (fun hc => ?_) (fun hc => ?_)
    · exact g_retv hx hb hr hlocks hg ⟨cc, rr, cur, hcr, hf, hfq, hfl, hgc, hcv, ho⟩ d_Q_findCommon_103
    · exact absurd (nI_le (Nat.le_refl _) (by omega)) hc
  | succ t ih =>
    intro j cc rr f cur H locs ls hj hcr hf hfq hfl hgc hcv ho hl hg
    have hcc : cc < 19 := by unfold cr at hcr; omega
    have hrr : rr < 19 := by unfold cr at hcr; omega
    have hne1 : rr ≠ j := by unfold cr at hcr; omega
    have hne2 : cc ≠ rr := by unfold cr at hcr; omega
    obtain ⟨mc, mlc, nc, gc, dc, ec, elc, wrc⟩ := hf cc hcc
    obtain ⟨mr, mlr, nr, gr, dr, er, elr, wrr⟩ := hf rr hrr
    have hw : kw D cls (tyl k) L s s.heap f [(qa, cQ ln adr cc rr), (ln, cLn k zl)] H locs := ⟨f, hg, qs_kn hq hfq hfl⟩
    have hkc : kn L f f [(adr (2 * cc), cW (adr (2 * cc + 1)) nc gc), (adr (2 * cc + 1), cD k dc)] := by
      refine kn_of (fun q hq => ?_) (nd_map (l := [2 * cc, 2 * cc + 1]) hq.2.2.2.2.1 (fun x hx => ?_) ?_)
      · simp only [List.mem_cons, List.not_mem_nil, or_false] at hq
        rcases hq with rfl | rfl
        · exact ⟨mc, ec⟩
        · exact ⟨mlc, elc⟩
      · simp only [List.mem_cons, List.not_mem_nil, or_false] at hx
        omega
      · simp
    -- METHOD Q_findCommon | loc 0=qa 1=cols 2=j | ws qa ln | fld qa.line=ln qa.common=cm qa.rest=rs qa.quotient=qu
    refine lv_iload_n hx hb d_Q_findCommon_9 rfl (lv_at hl 2 rfl) ?_
    refine lv_iload_n hx hb d_Q_findCommon_10 rfl (lv_at hl 1 rfl) ?_
    refine lv_icmp_ge (tgt := 103) hx hb d_Q_findCommon_11 (by decide) (fun hc => ?_) (fun hc => ?_)
    · exact absurd hc (nI_ge (by omega) (by omega))
    · -- STK
      refine lv_aload_n hx hb d_Q_findCommon_14 rfl (lv_at hl 0 rfl) ?_
      refine k_get hx hb hG lay_Q hown hw 0 rfl rfl 6 (by decide) (hG _ fl_Q_34) (fun _ h9 => h9) rfl d_Q_findCommon_15 ?_
      have hw := hg
      refine g_oi (c_V (np := 0) S (m_W_isOne l D k L f _ _ nc gc dc _ hkc wrc) hw (mc) (ec) rfl ml_Q_98 im_W_isOne se_W_W_isOne in_W co_W_isOne (by decide +kernel) rfl ⟨rfl, rfl, by decide, by decide⟩ hl.1 rfl (by simp [Value.category]) d_Q_findCommon_18 ⟨Nat.zero_le _, Nat.zero_le _⟩) hw (fun r1 f1 H locs hp hw2 => ?_)
      rw [hp.1] at hw2
      have hg := hw2
      refine l_top hp.2 ?_
      rw [hgc]
      refine lv_if_ne (tgt := 103) hx hb d_Q_findCommon_21 (by decide) (fun hc => ?_) (fun hc => ?_)
      · have h1 : gd vals j = 1 := Classical.byContradiction fun h => hc (by rw [if_neg (by omega)])
        have h2 := gd_one h1 (cols - j)
        rw [show j + (cols - j) = cols by omega] at h2
        exact g_retv hx hb hr hlocks hg ⟨cc, rr, cur, hcr, hf, hfq, hfl, by rw [hgc, h1, h2], hcv, ho⟩ d_Q_findCommon_103
      · have hw : kw D cls (tyl k) L s s.heap f [(qa, cQ ln adr cc rr), (ln, cLn k zl)] H locs := ⟨f, hg, qs_kn hq hfq hfl⟩
        refine lv_aload_n hx hb d_Q_findCommon_24 rfl (lv_at hl 0 rfl) ?_
        refine k_get hx hb hG lay_Q hown hw 0 rfl rfl 7 (by decide) (hG _ fl_Q_37) (fun _ h9 => h9) rfl d_Q_findCommon_25 ?_
        refine lv_aload_n hx hb d_Q_findCommon_28 rfl (lv_at hl 0 rfl) ?_
        refine k_get hx hb hG lay_Q hown hw 0 rfl rfl 0 (by decide) (hG _ fl_Q_11) (fun _ h9 => h9) rfl d_Q_findCommon_29 ?_
        refine lv_iload_n hx hb d_Q_findCommon_32 rfl (lv_at hl 2 rfl) ?_
        refine k_aald hx hb hw 1 3 rfl rfl (j) (rfl) (by omega) (by first | decide | omega) (hq.2.2.2.2.2 j (by omega)) d_Q_findCommon_33 ?_
        have hw := hg
        refine g_ov (c_V (np := 1) S (n_setSize l D k L f adr 19 cur hq.2.2.2.2.1 hf rr hrr j (by omega) hne1) hw (mr) (er) rfl ml_Q_102 im_W_setSize se_W_W_setSize in_W co_W_setSize (by decide +kernel) rfl ⟨rfl, rfl, by decide, by decide⟩ hl.1 rfl (by simp [Value.category]) d_Q_findCommon_34 ⟨Nat.zero_le _, Nat.zero_le _⟩) hw (fun f3 H locs hp3 hw3 => ?_)
        obtain ⟨hf3, ho3⟩ := hp3
        have hg := hw3
        refine lv_iconst (v := 0) hx hb d_Q_findCommon_37 (by decide) ?_
        refine lv_istore_n hx hb d_Q_findCommon_38 rfl hl (by decide) rfl (fun ls hl => ?_)
        have hl := lv_sub hl [1, 2, 3, 0] rfl
        have hjv : cur j = vals j := hcv j (by omega) (by omega) (by omega)
        have hAl : gd vals j < B30 ^ 11 := gd_lt (Nat.pow_pos (by decide)) j (fun i hi => hbd i (by omega))
        refine w_eucG (A := gd vals j) (B := (vals j).natAbs) S hq hcr hf3 ((ho3 qa (fun x hx => (hq.2.2.2.1 x hx).1)).trans hfq) ((ho3 ln (fun x hx => (hq.2.2.2.1 x hx).2)).trans hfl) (by rw [va_up_ne _ _ hne2]; exact hgc) (by rw [va_up_self, hjv]) hAl (hbd j (by omega)) hl hg (fun f4 vals4 c4 r4 st4 H locs ls hcr4 hf4 hfq4 hfl4 hv4 hvv4 ho4 hl hg => ?_)
        -- METHOD Q_findCommon | loc 0=qa 1=cols 2=j 3=st | ws qa ln | fld qa.line=ln qa.common=cm qa.rest=rs qa.quotient=qu
        refine lv_iinc (k := 2) hx hb d_Q_findCommon_97 hl rfl (ii1 j) (by decide) rfl (fun ls hl => ?_)
        refine lv_goto (tgt := 9) hx hb d_Q_findCommon_100 (by decide) ?_
        have hl := lv_sub hl [1, 2, 0] rfl
        refine ih (j + 1) c4 r4 f4 vals4 H locs ls (by omega) hcr4 hf4 hfq4 hfl4 hv4 (fun i h1 h2 h3 => ?_) (fun q h1 h2 => ?_) hl hg
        · rw [hvv4 i h1 h2 h3, va_up_ne _ _ (by unfold cr at hcr; omega)]; exact hcv i h1 h2 h3
        · rw [ho4 q h1 h2, ho3 q h2]; exact ho q h1 h2
end FC
set_option maxRecDepth 100000 in
set_option maxHeartbeats 4000000 in
/-- findCommon(columns): common becomes the greatest common divisor of the line's first numbers -/
theorem m_Q_findCommon (l : Launch) (D : va_G) (k : Nat → ClassId) (L : List Nat) (f0 : Nat → va_E) (adr : Nat → Nat) (qa ln cols cc rr : Nat) (zl : Nat → Option Nat) (vals : Nat → Int) (hq : qs L adr qa ln zl) (hcr : cr cc rr) (hcols : cols ≤ 12) (hf : fv L k adr 19 f0 vals) (hfq : f0 qa = cQ ln adr cc rr) (hfl : f0 ln = cLn k zl) (hbd : ∀ i, i < cols → (vals i).natAbs < B30 ^ 11) : Mv l y_Q_findCommon (Cond.code y_Q_findCommon c_Q_findCommon 5 none :: G) (rmN 3) D cls (tyl k) L f0 [.ref qa, .int (nI cols)] (fun f' => ∃ (c1 r1 : Nat) (vals1 : Nat → Int), cr c1 r1 ∧ fv L k adr 19 f' vals1 ∧ f' qa = cQ ln adr c1 r1 ∧ f' ln = cLn k zl ∧ vals1 c1 = ((gd vals cols : Nat) : Int) ∧ (∀ i, i ≠ 16 → i ≠ 17 → i ≠ 18 → vals1 i = vals i) ∧ ∀ q, q ≠ qa → (∀ x, x < 2 * 19 → q ≠ adr x) → f' q = f0 q) := by
  -- METHOD Q_findCommon | loc 0=qa 1=cols | ws qa ln | fld qa.line=ln qa.common=cm qa.rest=rs qa.quotient=qu
  refine mk_met (by decide) (Nat.le_of_ble_eq_true rfl) (fun p e s m below meth c ls S hr hlocks hw hl => ?_)
  have hx := S.1
  have hb := S.2.1
  have hown : s.vm.findClass R_Q = some m.cls := S.2.2.2.1
  have hG := S.2.2.2.2
  have hl : lv_has ls 5 [(0, .ref qa), (1, .int (nI cols))] := hl
  have hg := hw
  have hcc : cc < 19 := by unfold cr at hcr; omega
  obtain ⟨mc, mlc, nc, gc, dc, ec, elc, wrc⟩ := hf cc hcc
  have hw : kw D cls (tyl k) L s s.heap f0 [(qa, cQ ln adr cc rr), (ln, cLn k zl)] s.heap [] := ⟨f0, hg, qs_kn hq hfq hfl⟩
  refine lv_aload_n hx hb d_Q_findCommon_0 rfl (lv_at hl 0 rfl) ?_
  refine k_get hx hb hG lay_Q hown hw 0 rfl rfl 6 (by decide) (hG _ fl_Q_34) (fun _ h9 => h9) rfl d_Q_findCommon_1 ?_
  have hw := hg
  refine g_ov (c_V (np := 0) S (n_setZero l D k L f0 adr 19 vals hq.2.2.2.2.1 hf cc hcc) hw (mc) (ec) rfl ml_Q_95 im_W_setZero se_W_W_setZero in_W co_W_setZero (by decide +kernel) rfl ⟨rfl, rfl, by decide, by decide⟩ hl.1 rfl (by simp [Value.category]) d_Q_findCommon_4 ⟨Nat.zero_le _, Nat.zero_le _⟩) hw (fun f1 H locs hp hw2 => ?_)
  obtain ⟨hf1, ho1⟩ := hp
  refine lv_iconst (v := 0) hx hb d_Q_findCommon_7 (by decide) ?_
  refine lv_istore_n hx hb d_Q_findCommon_8 rfl hl (by decide) rfl (fun ls hl => ?_)
  have hl := lv_sub hl [1, 2, 0] rfl
  exact w_fc S hr hlocks hq hcols hbd cols 0 cc rr f1 _ H locs ls (by omega) hcr hf1 ((ho1 qa (fun x hx => (hq.2.2.2.1 x hx).1)).trans hfq) ((ho1 ln (fun x hx => (hq.2.2.2.1 x hx).2)).trans hfl) (by rw [va_up_self]; rfl) (fun i h1 h2 h3 => va_up_ne _ _ (by unfold cr at hcr; omega)) (fun q h1 h2 => ho1 q h2) hl hw2


-- ===== Table: negateRow; Rationals: lead =====
def ngR (c : Nat) (w : Nat → Int32) : Nat → Int32 := fun x => if x % 6 = 0 ∧ x < c * 6 then -w x else w x
theorem ngR_upd (c : Nat) (w : Nat → Int32) : upd (ngR c w) (c * 6) (-w (c * 6)) = ngR (c + 1) w := by
  funext x
  by_cases h : x = c * 6
  · rw [h, pk_us]
    unfold ngR
    rw [if_pos ⟨by omega, by omega⟩]
  · rw [pk_un h]
    unfold ngR
    by_cases h2 : x % 6 = 0 ∧ x < c * 6
    · rw [if_pos h2, if_pos ⟨h2.1, by omega⟩]
    · rw [if_neg h2, if_neg (by omega)]
theorem nm_neg {w : Nat → Int32} {c j : Nat} {v : Int} (h : nm w j v) (hj : j < c) : nm (ngR c w) j (-v) := by
  obtain ⟨n, d, h1, h2, h3, h4, h5⟩ := h
  refine ⟨n, d, h1, fun i hi => ⟨?_, (h2 i hi).2⟩, h3, ?_, by rw [Int.natAbs_neg]; exact h5⟩
  · unfold ngR
    rw [if_neg (by omega)]
    exact (h2 i hi).1
  · unfold ngR
    rw [if_pos ⟨by omega, by omega⟩, h4, zI_neg, Int.sign_neg, Int.neg_mul]
theorem nm_lt {w : Nat → Int32} {j : Nat} {v : Int} (h : nm w j v) : v.natAbs < B30 ^ 5 := by
  obtain ⟨n, d, h1, h2, h3, h4, h5⟩ := h
  rw [h5]
  exact Nat.lt_of_lt_of_le (cd_lt n (fun i hi => (h2 i hi).2)) (Nat.pow_le_pow_right (by decide) h1)
theorem nm_head {w : Nat → Int32} {j : Nat} {v : Int} (h : nm w j v) : ∃ n : Nat, n ≤ 5 ∧ w (j * 6) = zI (v.sign * n) ∧ (n = 0 ↔ v = 0) := by
  obtain ⟨n, d, h1, h2, h3, h4, h5⟩ := h
  refine ⟨n, h1, h4, fun q => ?_, fun q => ?_⟩
  · rw [q] at h5; have : cd B30 0 d = 0 := rfl; omega
  · apply Classical.byContradiction
    intro h0
    obtain ⟨m9, rfl⟩ : ∃ m9, n = m9 + 1 := ⟨n - 1, by omega⟩
    have h7 := cd_ge (b := B30) (n := m9) (d := d) (h3 (by omega))
    have h6 : 0 < B30 ^ m9 := Nat.pow_pos (by decide)
    omega
theorem nm_hneg {w : Nat → Int32} {j : Nat} {v : Int} (h : nm w j v) : w (j * 6) < 0 ↔ v < 0 := by
  obtain ⟨n, h1, h2, h3⟩ := nm_head h
  have hs1 : -1 ≤ v.sign ∧ v.sign ≤ 1 := by rcases Int.lt_trichotomy v 0 with h | h | h <;> simp [Int.sign_eq_neg_one_of_neg, Int.sign_eq_one_of_pos, h]
  rw [h2]
  refine (zI_lt (b := 0) ⟨?_, ?_⟩ ⟨by decide, by decide⟩).trans ?_
  · rcases Int.lt_trichotomy v 0 with h | h | h
    · rw [Int.sign_eq_neg_one_of_neg h]; omega
    · rw [h]; simp
    · rw [Int.sign_eq_one_of_pos h]; omega
  · rcases Int.lt_trichotomy v 0 with h | h | h
    · rw [Int.sign_eq_neg_one_of_neg h]; omega
    · rw [h]; simp
    · rw [Int.sign_eq_one_of_pos h]; omega
  · rcases Int.lt_trichotomy v 0 with h | h | h
    · rw [Int.sign_eq_neg_one_of_neg h]
      have : n ≠ 0 := fun q => by have := h3.mp q; omega
      omega
    · rw [h]; simp
    · rw [Int.sign_eq_one_of_pos h]; omega
theorem nm_hz {w : Nat → Int32} {j : Nat} {v : Int} (h : nm w j v) : w (j * 6) = 0 ↔ v = 0 := by
  obtain ⟨n, h1, h2, h3⟩ := nm_head h
  rw [h2]
  constructor
  · intro q
    apply Classical.byContradiction
    intro hv
    have hn : n ≠ 0 := fun e => hv (h3.mp e)
    have : v.sign * (n : Int) = 0 := by
      refine (zI_eq (b := 0) ⟨?_, ?_⟩ ⟨by decide, by decide⟩).mp q
      · rcases Int.lt_trichotomy v 0 with h | h | h
        · rw [Int.sign_eq_neg_one_of_neg h]; omega
        · rw [h]; simp
        · rw [Int.sign_eq_one_of_pos h]; omega
      · rcases Int.lt_trichotomy v 0 with h | h | h
        · rw [Int.sign_eq_neg_one_of_neg h]; omega
        · rw [h]; simp
        · rw [Int.sign_eq_one_of_pos h]; omega
    rcases Int.lt_trichotomy v 0 with h | h | h
    · rw [Int.sign_eq_neg_one_of_neg h] at this; omega
    · exact hv h
    · rw [Int.sign_eq_one_of_pos h] at this; omega
  · intro q
    rw [q, Int.sign_zero, Int.zero_mul]; rfl
section NR
variable {p : Program} {l : Launch} {e : Env} {s : State} {m : MethodId} {args : Array Value} {below : List Frame} {meth : Method} {c : Code} {Q : State → Prop} {D : va_G} {k : Nat → ClassId} {L : List Nat} {H0 : Heap}
set_option maxRecDepth 100000 in
set_option maxHeartbeats 4000000 in
theorem w_nr (S : CallFix p m c c_T_negateRow 3 s args G R_T) (hr : meth.sig.returnType = none) (hlocks : meth.locks = false) {cols t pa nu ro row : Nat} {fd rw rd : Int32} {z : Nat → Option Nat} {w : Nat → Int32} {f : Nat → va_E} (hcols : cols ≤ 12) (hrow : row < 12) (hz : z row = some ro) :
    ∀ (i j : Nat) (H : Heap) (locs : List Loc) (ls : Array Slot), j + i = cols → lv_has ls 3 [(0, .ref t), (1, .int (nI row)), (2, .int (nI j))] → kw D cls (tyl k) L s s.heap f [(t, cT fd rw (nI cols) rd pa nu), (nu, cO k z), (ro, cR k (ngR j w))] H locs →
    W p l e (rmN 0) s m args below meth c H locs 0 0 (MQ below (va_Qv (fun f' => kn L f f' [(t, cT fd rw (nI cols) rd pa nu), (nu, cO k z), (ro, cR k (ngR cols w))]) (mst D cls (tyl k) L) (fun q => q ∈ L)) args s 0 0 (fun q => q ∈ L)) (F0 m 2 ls []) := by
  have hx := S.1
  have hb := S.2.1
  have hown : s.vm.findClass R_T = some m.cls := S.2.2.2.1
  have hG := S.2.2.2.2
  intro i
  induction i with
  | zero =>
    intro j H locs ls hj hl hw
    have hj : j = cols := by omega
    subst hj
    -- METHOD T_negateRow | loc 0=t 1=row 2=j | ws t nu ro | fld t.numbers=nu
    refine lv_iload_n hx hb d_T_negateRow_2 rfl (lv_at hl 2 rfl) ?_
    refine lv_aload_n hx hb d_T_negateRow_3 rfl (lv_at hl 0 rfl) ?_
    refine k_get hx hb hG lay_T hown hw 0 rfl rfl 2 (by decide) (hG _ fl_T_31) (fun _ h9 => h9) rfl d_T_negateRow_4 ?_
    refine lv_icmp_ge (tgt := 39) hx hb d_T_negateRow_7 (by decide) (fun hc => ?_) (fun hc => ?_)
    · obtain ⟨f1, hg1, hk1⟩ := hw
      exact g_retv hx hb hr hlocks hg1 hk1 d_T_negateRow_39
    · exact absurd (nI_le (Nat.le_refl _) (by omega)) hc
  | succ i ih =>
    intro j H locs ls hj hl hw
    -- METHOD T_negateRow | loc 0=t 1=row 2=j | ws t nu ro | fld t.numbers=nu
    refine lv_iload_n hx hb d_T_negateRow_2 rfl (lv_at hl 2 rfl) ?_
    refine lv_aload_n hx hb d_T_negateRow_3 rfl (lv_at hl 0 rfl) ?_
    refine k_get hx hb hG lay_T hown hw 0 rfl rfl 2 (by decide) (hG _ fl_T_31) (fun _ h9 => h9) rfl d_T_negateRow_4 ?_
    refine lv_icmp_ge (tgt := 39) hx hb d_T_negateRow_7 (by decide) (fun hc => ?_) (fun hc => ?_)
    · exact absurd hc (nI_ge (by omega) (by omega))
    · -- STK
      refine lv_aload_n hx hb d_T_negateRow_10 rfl (lv_at hl 0 rfl) ?_
      refine k_get hx hb hG lay_T hown hw 0 rfl rfl 5 (by decide) (hG _ fl_T_21) (fun _ h9 => h9) rfl d_T_negateRow_11 ?_
      refine lv_iload_n hx hb d_T_negateRow_14 rfl (lv_at hl 1 rfl) ?_
      refine k_aaldA hx hb hw 1 1 rfl rfl (row) (rfl) (hrow) (by first | decide | omega) (hz) d_T_negateRow_15 ?_
      refine lv_iload_n hx hb d_T_negateRow_16 rfl (lv_at hl 2 rfl) ?_
      refine lv_bipush (v := 6) hx hb d_T_negateRow_17 (by decide) ?_
      refine lv_imul hx hb d_T_negateRow_19 ?_
      refine l_top (six j) ?_
      refine lv_aload_n hx hb d_T_negateRow_20 rfl (lv_at hl 0 rfl) ?_
      refine k_get hx hb hG lay_T hown hw 0 rfl rfl 5 (by decide) (hG _ fl_T_21) (fun _ h9 => h9) rfl d_T_negateRow_21 ?_
      refine lv_iload_n hx hb d_T_negateRow_24 rfl (lv_at hl 1 rfl) ?_
      refine k_aaldA hx hb hw 1 1 rfl rfl (row) (rfl) (hrow) (by first | decide | omega) (hz) d_T_negateRow_25 ?_
      refine lv_iload_n hx hb d_T_negateRow_26 rfl (lv_at hl 2 rfl) ?_
      refine lv_bipush (v := 6) hx hb d_T_negateRow_27 (by decide) ?_
      refine lv_imul hx hb d_T_negateRow_29 ?_
      refine l_top (six j) ?_
      refine k_iald hx hb hw 2 0 rfl rfl (j * 6) (rfl) (by omega) (by first | decide | omega) d_T_negateRow_30 ?_
      refine lv_ineg hx hb d_T_negateRow_31 ?_
      refine l_top (show -ngR j w (j * 6) = -w (j * 6) by unfold ngR; rw [if_neg (by omega)]) ?_
      refine k_iast hx hb hw 2 0 rfl rfl (j * 6) (rfl) (by omega) (by first | decide | omega) d_T_negateRow_32 (fun H locs hw => ?_)
      have hw : kw D cls (tyl k) L s s.heap f [(t, cT fd rw (nI cols) rd pa nu), (nu, cO k z), (ro, cR k (upd (ngR j w) (j * 6) (-w (j * 6))))] H locs := hw
      rw [ngR_upd] at hw
      refine lv_iinc (k := 2) hx hb d_T_negateRow_33 hl rfl (ii1 j) (by decide) rfl (fun ls hl => ?_)
      refine lv_goto (tgt := 2) hx hb d_T_negateRow_36 (by decide) ?_
      have hl := lv_sub hl [1, 2, 0] rfl
      exact ih (j + 1) H locs ls (by omega) hl hw
end NR
set_option maxRecDepth 100000 in
set_option maxHeartbeats 4000000 in
theorem m_T_negateRow (l : Launch) (D : va_G) (k : Nat → ClassId) (L : List Nat) (f : Nat → va_E) (t pa nu ro cols row : Nat) (fd rw rd : Int32) (z : Nat → Option Nat) (w : Nat → Int32) (hcols : cols ≤ 12) (hrow : row < 12) (hz : z row = some ro) (hk : kn L f f [(t, cT fd rw (nI cols) rd pa nu), (nu, cO k z), (ro, cR k w)]) : Mv l y_T_negateRow (Cond.code y_T_negateRow c_T_negateRow 3 none :: G) (rmN 0) D cls (tyl k) L f [.ref t, .int (nI row)] (fun f' => kn L f f' [(t, cT fd rw (nI cols) rd pa nu), (nu, cO k z), (ro, cR k (ngR cols w))]) := by
  -- METHOD T_negateRow | loc 0=t 1=row | ws t nu ro
  refine mk_met (by decide) (Nat.le_of_ble_eq_true rfl) (fun p e s m below meth c ls S hr hlocks hw hl => ?_)
  have hx := S.1
  have hb := S.2.1
  have hown : s.vm.findClass R_T = some m.cls := S.2.2.2.1
  have hG := S.2.2.2.2
  have hl : lv_has ls 3 [(0, .ref t), (1, .int (nI row))] := hl
  have hg := hw
  have hw : kw D cls (tyl k) L s s.heap f [(t, cT fd rw (nI cols) rd pa nu), (nu, cO k z), (ro, cR k (ngR 0 w))] s.heap [] := ⟨f, hw, by
    have e : ngR 0 w = w := by funext x; unfold ngR; rw [if_neg (by omega)]
    rw [e]; exact hk⟩
  refine lv_iconst (v := 0) hx hb d_T_negateRow_0 (by decide) ?_
  refine lv_istore_n hx hb d_T_negateRow_1 rfl hl (by decide) rfl (fun ls hl => ?_)
  have hl := lv_sub hl [1, 2, 0] rfl
  exact w_nr S hr hlocks hcols hrow hz cols 0 _ _ ls (by omega) hl hw
/-- the Rationals, whatever their numbers are -/
def qst (L : List Nat) (k : Nat → ClassId) (adr : Nat → Nat) (qa ln : Nat) (zl : Nat → Option Nat) (f : Nat → va_E) : Prop := ∃ (cc rr : Nat) (vals : Nat → Int), cr cc rr ∧ fv L k adr 19 f vals ∧ f qa = cQ ln adr cc rr ∧ f ln = cLn k zl
/-- all but one row and the Rationals' own is as it was -/
def qo (adr : Nat → Nat) (qa ro : Nat) (f f' : Nat → va_E) : Prop := ∀ q, q ≠ ro → q ≠ qa → (∀ x, x < 2 * 19 → q ≠ adr x) → f' q = f q
/-- a row led by one of its numbers -/
def ld (cols : Nat) (v : Nat → Int) (col j : Nat) : Int := if v col < 0 then -ou (gd v cols) (v j) else ou (gd v cols) (v j)
theorem gd_congr {u v : Nat → Int} : ∀ {j : Nat}, (∀ i, i < j → u i = v i) → gd u j = gd v j
  | 0, _ => rfl
  | j + 1, h => by
    show Nat.gcd (gd u j) _ = Nat.gcd (gd v j) _
    rw [gd_congr (fun i hi => h i (by omega)), h j (by omega)]
theorem gd_dvd {v : Nat → Int} : ∀ {j i : Nat}, i < j → gd v j ∣ (v i).natAbs
  | j + 1, i, h => by
    show Nat.gcd (gd v j) (v j).natAbs ∣ _
    by_cases e : i = j
    · rw [e]; exact Nat.gcd_dvd_right _ _
    · exact Nat.dvd_trans (Nat.gcd_dvd_left _ _) (gd_dvd (by omega))
theorem ou_le (g : Nat) (v : Int) : (ou g v).natAbs ≤ v.natAbs := by
  unfold ou
  by_cases h : g = 0
  · rw [if_pos h]; simp
  · rw [if_neg h, Int.natAbs_tdiv]; exact Nat.div_le_self _ _
theorem ou_neg {cols col : Nat} {v : Nat → Int} (hc : col < cols) : ou (gd v cols) (v col) < 0 ↔ v col < 0 := by
  have hd := gd_dvd (v := v) hc
  unfold ou
  by_cases h : gd v cols = 0
  · rw [if_pos h]
    rw [h] at hd
    have := Nat.eq_zero_of_zero_dvd hd
    omega
  · rw [if_neg h]
    have hg : (0 : Int) < (gd v cols : Nat) := by omega
    obtain ⟨q, hq⟩ : ((gd v cols : Nat) : Int) ∣ v col := Int.ofNat_dvd_left.mpr hd
    rw [hq, Int.mul_tdiv_cancel_left _ (by omega)]
    constructor
    · intro h; exact Int.mul_neg_of_pos_of_neg hg h
    · intro h
      apply Classical.byContradiction
      intro h0
      have := Int.mul_nonneg (Int.le_of_lt hg) (show 0 ≤ q by omega)
      omega
section LD
variable {p : Program} {l : Launch} {e : Env} {s : State} {m : MethodId} {args : Array Value} {below : List Frame} {meth : Method} {c : Code} {Q : State → Prop} {D : va_G} {k : Nat → ClassId} {L : List Nat} {H0 : Heap}
set_option maxRecDepth 100000 in
set_option maxHeartbeats 4000000 in
theorem w_ld (S : CallFix p m c c_Q_lead 5 s args G R_Q) {adr : Nat → Nat} {qa ln cols cc rr t pa nu ro row col : Nat} {fd rw rd : Int32} {z zl : Nat → Option Nat} {w : Nat → Int32} (hq : qs L adr qa ln zl) (ht : qt L adr qa ln t nu ro) (hcols : cols ≤ 12) {v : Nat → Int} {f0 : Nat → va_E} (hv : ∀ j, j < cols → nm w j (v j)) (hfq0 : f0 qa = cQ ln adr cc rr) (hfl0 : f0 ln = cLn k zl) (htc0 : tc L k f0 adr 19 t pa nu ro fd rw (nI cols) rd z w row)
    (kx : ∀ (f : Nat → va_E) (cur : Nat → Int) (H : Heap) (locs : List Loc) (ls : Array Slot), fv L k adr 19 f cur → fo adr 19 f0 f → (∀ i, i < cols → cur i = v i) → lv_has ls 5 [(0, .ref qa), (1, .ref t), (2, .int (nI row)), (3, .int (nI col))] → gw D cls (tyl k) L s s.heap f H locs → W p l e (rmN 4) s m args below meth c H locs 0 0 Q (F0 m 32 ls [])) :
    ∀ (i j : Nat) (f : Nat → va_E) (cur : Nat → Int) (H : Heap) (locs : List Loc) (ls : Array Slot), j + i = cols → fv L k adr 19 f cur → fo adr 19 f0 f → (∀ i, i < j → cur i = v i) → lv_has ls 5 [(0, .ref qa), (1, .ref t), (2, .int (nI row)), (3, .int (nI col)), (4, .int (nI j))] → gw D cls (tyl k) L s s.heap f H locs → W p l e (rmN 4) s m args below meth c H locs 0 0 Q (F0 m 3 ls []) := by
  have hx := S.1
  have hb := S.2.1
  have hown : s.vm.findClass R_Q = some m.cls := S.2.2.2.1
  have hG := S.2.2.2.2
  intro i
  induction i with
  | zero =>
    intro j f cur H locs ls hj hf ho hcv hl hg
    have hj : j = cols := by omega
    subst hj
    have htc := tc_fo htc0 ho
    have hfq := (ho qa (fun x hx => (hq.2.2.2.1 x hx).1)).trans hfq0
    have hfl := (ho ln (fun x hx => (hq.2.2.2.1 x hx).2)).trans hfl0
    have hw : kw D cls (tyl k) L s s.heap f [(qa, cQ ln adr cc rr), (ln, cLn k zl), (t, cT fd rw (nI j) rd pa nu)] H locs := ⟨f, hg, qt_kn hq ht hfq hfl htc.2.2.2.2.2.1⟩
    -- METHOD Q_lead | loc 0=qa 1=t 2=row 3=col 4=j | ws qa ln t | fld qa.line=ln
    refine lv_iload hx hb d_Q_lead_3 (lv_at hl 4 rfl) ?_
    refine lv_aload_n hx hb d_Q_lead_5 rfl (lv_at hl 1 rfl) ?_
    refine k_get hx hb hG lay_T hown hw 2 rfl rfl 2 (by decide) (hG _ fl_Q_40) (fun _ h9 => h9) rfl d_Q_lead_6 ?_
    refine lv_icmp_ge (tgt := 32) hx hb d_Q_lead_9 (by decide) (fun hc => ?_) (fun hc => ?_)
    · -- LOC 0=qa 1=t 2=row 3=col 4=j
      have hl := lv_sub hl [0, 1, 2, 3] rfl
      exact kx f cur H locs ls hf ho hcv hl hg
    · exact absurd (nI_le (Nat.le_refl _) (by omega)) hc
  | succ i ih =>
    intro j f cur H locs ls hj hf ho hcv hl hg
    have htc := tc_fo htc0 ho
    have hfq := (ho qa (fun x hx => (hq.2.2.2.1 x hx).1)).trans hfq0
    have hfl := (ho ln (fun x hx => (hq.2.2.2.1 x hx).2)).trans hfl0
    have hw : kw D cls (tyl k) L s s.heap f [(qa, cQ ln adr cc rr), (ln, cLn k zl), (t, cT fd rw (nI cols) rd pa nu)] H locs := ⟨f, hg, qt_kn hq ht hfq hfl htc.2.2.2.2.2.1⟩
    -- METHOD Q_lead | loc 0=qa 1=t 2=row 3=col 4=j | ws qa ln t | fld qa.line=ln
    refine lv_iload hx hb d_Q_lead_3 (lv_at hl 4 rfl) ?_
    refine lv_aload_n hx hb d_Q_lead_5 rfl (lv_at hl 1 rfl) ?_
    refine k_get hx hb hG lay_T hown hw 2 rfl rfl 2 (by decide) (hG _ fl_Q_40) (fun _ h9 => h9) rfl d_Q_lead_6 ?_
    refine lv_icmp_ge (tgt := 32) hx hb d_Q_lead_9 (by decide) (fun hc => ?_) (fun hc => ?_)
    · exact absurd hc (nI_ge (by omega) (by omega))
    · -- STK
      refine lv_aload_n hx hb d_Q_lead_12 rfl (lv_at hl 1 rfl) ?_
      refine lv_iload_n hx hb d_Q_lead_13 rfl (lv_at hl 2 rfl) ?_
      refine lv_iload hx hb d_Q_lead_14 (lv_at hl 4 rfl) ?_
      refine lv_aload_n hx hb d_Q_lead_16 rfl (lv_at hl 0 rfl) ?_
      refine k_get hx hb hG lay_Q hown hw 0 rfl rfl 0 (by decide) (hG _ fl_Q_11) (fun _ h9 => h9) rfl d_Q_lead_17 ?_
      refine lv_iload hx hb d_Q_lead_20 (lv_at hl 4 rfl) ?_
      refine k_aald hx hb hw 1 3 rfl rfl (j) (rfl) (by omega) (by first | decide | omega) (hq.2.2.2.2.2 j (by omega)) d_Q_lead_22 ?_
      have hw := hg
      refine g_ov (c_V (np := 3) S (n_load l D k L f adr 19 cur hq.2.2.2.2.1 hf t pa nu ro fd rw (nI cols) rd z w row htc j j (by omega) (by omega) (v j) (hv j (by omega))) hw (htc.2.2.1) (htc.2.2.2.2.2.1) rfl ml_Q_46 im_T_load se_T_T_load in_T co_T_load (by decide +kernel) rfl ⟨rfl, rfl, by decide, by decide⟩ hl.1 rfl (by simp [Value.category]) d_Q_lead_23 ⟨Nat.zero_le _, Nat.zero_le _⟩) hw (fun f4 H locs hp4 hw4 => ?_)
      refine lv_iinc (k := 4) hx hb d_Q_lead_26 hl rfl (ii1 j) (by decide) rfl (fun ls hl => ?_)
      refine lv_goto (tgt := 3) hx hb d_Q_lead_29 (by decide) ?_
      have hl := lv_sub hl [1, 2, 3, 4, 0] rfl
      refine ih (j + 1) f4 _ H locs ls (by omega) hp4.1 (ho.trans hp4.2) (fun i hi => ?_) hl hw4
      by_cases e : i = j
      · rw [e, va_up_self]
      · rw [va_up_ne _ _ e]; exact hcv i (by omega)
end LD
set_option maxRecDepth 100000 in
set_option maxHeartbeats 4000000 in
/-- lead(table, row, column) -/
theorem m_Q_lead (l : Launch) (D : va_G) (k : Nat → ClassId) (L : List Nat) (f0 : Nat → va_E) (adr : Nat → Nat) (qa ln cols t pa nu ro row col : Nat) (fd rw rd : Int32) (z zl : Nat → Option Nat) (w : Nat → Int32) (v : Nat → Int) (hq : qs L adr qa ln zl) (ht : qt L adr qa ln t nu ro) (hcols : cols ≤ 12) (hst : qst L k adr qa ln zl f0) (htc : tc L k f0 adr 19 t pa nu ro fd rw (nI cols) rd z w row) (hcol : col < cols) (hv : ∀ j, j < cols → nm w j (v j)) : Mv l y_Q_lead (Cond.code y_Q_lead c_Q_lead 5 none :: G) (rmN 4) D cls (tyl k) L f0 [.ref qa, .ref t, .int (nI row), .int (nI col)] (fun f' => qst L k adr qa ln zl f' ∧ (∃ w1, f' ro = cR k w1 ∧ (∀ j, j < cols → nm w1 j (ld cols v col j)) ∧ ∀ x, cols * 6 ≤ x → w1 x = w x) ∧ qo adr qa ro f0 f') := by
  obtain ⟨cc, rr, vals, hcr, hf, hfq, hfl⟩ := hst
  have h12 := htc.2.2.2.2.2.2.2.2.2.2.2
  -- METHOD Q_lead | loc 0=qa 1=t 2=row 3=col | ws qa ln t | fld qa.line=ln
  refine mk_met (by decide) (Nat.le_of_ble_eq_true rfl) (fun p e s m below meth c ls S hr hlocks hw hl => ?_)
  have hx := S.1
  have hb := S.2.1
  have hown : s.vm.findClass R_Q = some m.cls := S.2.2.2.1
  have hG := S.2.2.2.2
  have hl : lv_has ls 5 [(0, .ref qa), (1, .ref t), (2, .int (nI row)), (3, .int (nI col))] := hl
  have hg := hw
  refine lv_iconst (v := 0) hx hb d_Q_lead_0 (by decide) ?_
  refine lv_istore hx hb d_Q_lead_1 hl (by decide) rfl (fun ls hl => ?_)
  have hl := lv_sub hl [1, 2, 3, 4, 0] rfl
  refine w_ld S hq ht hcols hv hfq hfl htc (fun f1 cur H locs ls hf1 ho1 hcv hl hg => ?_) cols 0 f0 vals _ _ ls (by omega) hf fo.rf (fun i hi => by omega) hl hg
  have htc1 := tc_fo htc ho1
  have hfq1 := (ho1 qa (fun x hx => (hq.2.2.2.1 x hx).1)).trans hfq
  have hfl1 := (ho1 ln (fun x hx => (hq.2.2.2.1 x hx).2)).trans hfl
  have hb5 : ∀ j, j < cols → (cur j).natAbs < B30 ^ 5 := fun j hj => by rw [hcv j hj]; exact nm_lt (hv j hj)
  have hb11 : ∀ j, j < cols → (cur j).natAbs < B30 ^ 11 := fun j hj => Nat.lt_trans (hb5 j hj) (by decide)
  have hw : kw D cls (tyl k) L s s.heap f1 [(qa, cQ ln adr cc rr), (ln, cLn k zl), (t, cT fd rw (nI cols) rd pa nu)] H locs := ⟨f1, hg, qt_kn hq ht hfq1 hfl1 htc1.2.2.2.2.2.1⟩
  refine lv_aload_n hx hb d_Q_lead_32 rfl (lv_at hl 0 rfl) ?_
  refine lv_aload_n hx hb d_Q_lead_33 rfl (lv_at hl 1 rfl) ?_
  refine k_get hx hb hG lay_T hown hw 2 rfl rfl 2 (by decide) (hG _ fl_Q_40) (fun _ h9 => h9) rfl d_Q_lead_34 ?_
  have hw := hg
  refine g_ov (c_V (np := 1) S (m_Q_findCommon l D k L f1 adr qa ln cols cc rr zl cur hq hcr hcols hf1 hfq1 hfl1 hb11) hw (hq.1) (hfq1) rfl ml_Q_50 im_Q_findCommon se_Q_Q_findCommon in_Q co_Q_findCommon (by decide +kernel) rfl ⟨rfl, rfl, by decide, by decide⟩ hl.1 rfl (by simp [Value.category]) d_Q_lead_37 ⟨Nat.zero_le _, Nat.zero_le _⟩) hw (fun f2 H locs hp hw => ?_)
  obtain ⟨c2, r2, vals2, hcr2, hf2, hfq2, hfl2, hg2, hv2, ho2⟩ := hp
  have htc2 : tc L k f2 adr 19 t pa nu ro fd rw (nI cols) rd z w row := tc_upd htc1 ((ho2 ro (Ne.symm ht.2.2.2.2.1) (fun x hx => (h12 x hx).2.2)).trans htc1.2.2.2.2.2.2.2.1) (ho2 t (Ne.symm ht.2.2.1) (fun x hx => (h12 x hx).1)) (ho2 nu (Ne.symm ht.2.2.2.1) (fun x hx => (h12 x hx).2.1))
  have hv2' : ∀ i, i < cols → vals2 i = v i := fun i hi => (hv2 i (by omega) (by omega) (by omega)).trans (hcv i hi)
  have hgv : gd cur cols = gd v cols := gd_congr hcv
  rw [hgv] at hg2
  have hg := hw
  refine lv_aload_n hx hb d_Q_lead_40 rfl (lv_at hl 0 rfl) ?_
  refine lv_aload_n hx hb d_Q_lead_41 rfl (lv_at hl 1 rfl) ?_
  refine lv_iload_n hx hb d_Q_lead_42 rfl (lv_at hl 2 rfl) ?_
  refine g_ov (c_V (np := 2) S (m_Q_storeLine l D k L f2 adr qa ln cols c2 r2 t pa nu ro row (gd v cols) fd rw rd z zl w vals2 hq ht hcr2 hcols hf2 hfq2 hfl2 htc2 hg2 (fun i hi => by rw [hv2' i hi, ← hcv i hi]; exact hb11 i hi) (fun i hi => Nat.lt_of_le_of_lt (ou_le _ _) (by rw [hv2' i hi, ← hcv i hi]; exact hb5 i hi))) hw (hq.1) (hfq2) rfl ml_Q_54 im_Q_storeLine se_Q_Q_storeLine in_Q co_Q_storeLine (by decide +kernel) rfl ⟨rfl, rfl, by decide, by decide⟩ hl.1 rfl (by simp [Value.category]) d_Q_lead_43 ⟨Nat.zero_le _, Nat.zero_le _⟩) hw (fun f3 H locs hp3 hw => ?_)
  obtain ⟨cur3, w3, hf3, hfq3, hfl3, hr3, hn3, hwx3, ho3⟩ := hp3
  have htc3 : tc L k f3 adr 19 t pa nu ro fd rw (nI cols) rd z w3 row := tc_upd htc2 hr3 (ho3 t htc.2.2.2.2.2.2.2.2.2.1 (fun x hx => (h12 x hx).1)) (ho3 nu htc.2.2.2.2.2.2.2.2.2.2.1 (fun x hx => (h12 x hx).2.1))
  have hq03 : qo adr qa ro f0 f3 := fun q h1 h2 h3 => (ho3 q h1 h3).trans ((ho2 q h2 h3).trans (ho1 q h3))
  obtain ⟨a1, a2, a3, a4, a5, a6, a7, a8, a9, a10, a11, a12⟩ := htc3
  have hk3 : kn L f3 f3 [(t, cT fd rw (nI cols) rd pa nu), (nu, cO k z), (ro, cR k w3)] := by
    refine kn_of (fun q hq => ?_) (by simp; exact ⟨⟨a9, a10⟩, a11⟩)
    simp only [List.mem_cons, List.not_mem_nil, or_false] at hq
    rcases hq with rfl | rfl | rfl
    · exact ⟨a3, a6⟩
    · exact ⟨a4, a7⟩
    · exact ⟨a5, a8⟩
  have hn3' : ∀ j, j < cols → nm w3 j (ou (gd v cols) (v j)) := fun j hj => by
    have := hn3 j hj
    rw [hv2' j hj] at this
    exact this
  refine lv_aload_n hx hb d_Q_lead_46 rfl (lv_at hl 1 rfl) ?_
  refine lv_iload_n hx hb d_Q_lead_47 rfl (lv_at hl 2 rfl) ?_
  refine lv_iload_n hx hb d_Q_lead_48 rfl (lv_at hl 3 rfl) ?_
  refine g_oi (c_V (np := 2) S (m_T_head l D k L f3 t pa nu ro fd rw (nI cols) rd z w3 row col a1 (by omega) a2 hk3) hw (a3) (a6) rfl ml_Q_58 im_T_head se_T_T_head in_T co_T_head (by decide +kernel) rfl ⟨rfl, rfl, by decide, by decide⟩ hl.1 rfl (by simp [Value.category]) d_Q_lead_49 ⟨Nat.zero_le _, Nat.zero_le _⟩) hw (fun r4 f4 H locs hp4 hw => ?_)
  rw [hp4.1] at hw
  refine l_top hp4.2 ?_
  have hneg : w3 (col * 6) < 0 ↔ v col < 0 := (nm_hneg (hn3' col hcol)).trans (ou_neg hcol)
  refine lv_if_ge (tgt := 60) hx hb d_Q_lead_52 (by decide) (fun hc => ?_) (fun hc => ?_)
  · have hnn : ¬ v col < 0 := fun h => absurd (hneg.mpr h) (by simpa using hc)
    exact g_retv hx hb hr hlocks hw ⟨⟨c2, r2, cur3, hcr2, hf3, hfq3, hfl3⟩, ⟨w3, hr3, fun j hj => by unfold ld; rw [if_neg hnn]; exact hn3' j hj, hwx3⟩, hq03⟩ d_Q_lead_60
  · have hnn : v col < 0 := hneg.mp (by simpa using hc)
    refine lv_aload_n hx hb d_Q_lead_55 rfl (lv_at hl 1 rfl) ?_
    refine lv_iload_n hx hb d_Q_lead_56 rfl (lv_at hl 2 rfl) ?_
    refine g_ov (c_V (np := 1) S (m_T_negateRow l D k L f3 t pa nu ro cols row fd rw rd z w3 hcols a1 a2 hk3) hw (a3) (a6) rfl ml_Q_62 im_T_negateRow se_T_T_negateRow in_T co_T_negateRow (by decide +kernel) rfl ⟨rfl, rfl, by decide, by decide⟩ hl.1 rfl (by simp [Value.category]) d_Q_lead_57 ⟨Nat.zero_le _, Nat.zero_le _⟩) hw (fun f5 H locs hp5 hw => ?_)
    have ho5 : ∀ q, q ≠ ro → f5 q = f3 q := fun q h => by
      by_cases e1 : q = t
      · rw [e1, (hp5.1 0 _ rfl).2, a6]
      · by_cases e2 : q = nu
        · rw [e2, (hp5.1 1 _ rfl).2, a7]
        · exact kn_off hp5 (by simp; exact ⟨e1, e2, h⟩)
    refine g_retv hx hb hr hlocks hw ⟨⟨c2, r2, cur3, hcr2, fv_ro hf3 ho5 (fun x hx => (h12 x hx).2.2), (ho5 qa ht.2.2.2.2.1).trans hfq3, (ho5 ln ht.2.2.2.2.2.2.2).trans hfl3⟩, ⟨ngR cols w3, (hp5.1 2 _ rfl).2, fun j hj => by unfold ld; rw [if_pos hnn]; exact nm_neg (hn3' j hj) hj, fun x hx => ?_⟩, fun q h1 h2 h3 => (ho5 q h1).trans (hq03 q h1 h2 h3)⟩ d_Q_lead_60
    unfold ngR
    rw [if_neg (by omega)]
    exact hwx3 x hx


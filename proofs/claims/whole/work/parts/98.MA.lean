-- ===== the reference: of place sign begin put reduce =====
theorem RI_0 {q N n kk : Nat} {X : (Nat → Int) → Prop} {A0 : Nat → Nat → Int} {V : Nat → Int} {Sm : Nat → Int32} (pl : Nat → Nat) (hok : okR q N n X) (hk12 : kk ≤ 12) (hn : n ≤ 12) (hQ : q = 0 → (∃ T ph, gh N kk X T ph ∧ rcl n kk T A0 ∧ fr n kk T ph (av V) (bv V)) ∧ (∀ i j, i < kk → j < n → (A0 i j).natAbs ≤ NB) ∧ ∀ t u, t < 12 → u < 12 → (kk ≤ t ∨ n ≤ u) → (av V t u).natAbs < D16 ^ 15 ∧ (bv V t u).natAbs < D16 ^ 15) (hP : q ≠ 0 → JB V ∧ (∀ i j, i < kk → j < n → rsd q (A0 i j)) ∧ ∀ t j, t < kk → j < n → Sm (12 * t + j) = zI (A0 t j)) : RI q N n kk X A0 0 0 V Sm pl := by
  by_cases h0 : q = 0
  · obtain ⟨⟨T, ph, h1, h2, h3⟩, h4, h5⟩ := hQ h0
    exact Or.inl ⟨h0, ⟨A0, T, ph, h1, h2, h3, fun i hi => absurd hi (Nat.not_lt_zero i), invQ_0 h1 h2 h4⟩, h5⟩
  · obtain ⟨h1, h2, h3⟩ := hP h0
    exact Or.inr ⟨h0, h1, A0, invP_0 (hok.2 h0).1 h2, h3⟩
theorem p15_0 : (0 : Int).natAbs < D16 ^ 15 ∧ (1 : Int).natAbs < D16 ^ 15 := by decide +kernel
/-- what is loaded of a kept table: the numbers of its cells, and 0 over 1 beside them -/
theorem ld_JB {n kk t : Nat} {V Vt : Nat → Int} {Sm Re : Nat → Int32} (hJ : JB Vt) (hD : ∀ a u, a < 12 → u < 12 → ((u < n ∧ (a < kk ∨ (a = kk ∧ u < 0))) → V (10 + (12 * a + u)) = Vt (10 + (12 * a + u)) ∧ V (154 + (12 * a + u)) = Vt (154 + (12 * a + u)) ∧ Sm (12 * a + u) = Re (144 * t + (12 * a + u))) ∧ (¬ (u < n ∧ (a < kk ∨ (a = kk ∧ u < 0))) → V (10 + (12 * a + u)) = 0 ∧ V (154 + (12 * a + u)) = 1)) : JB V := by
  intro x hx
  have e : x = 12 * (x / 12) + x % 12 := by omega
  obtain ⟨d1, d2⟩ := hD (x / 12) (x % 12) (by omega) (by omega)
  rw [← e] at d1 d2
  by_cases hin : x % 12 < n ∧ (x / 12 < kk ∨ (x / 12 = kk ∧ x % 12 < 0))
  · obtain ⟨a1, a2, -⟩ := d1 hin
    rw [a1, a2]; exact hJ x hx
  · obtain ⟨a1, a2⟩ := d2 hin
    rw [a1, a2]; exact p15_0
theorem ld_in {n kk t : Nat} {V Vt : Nat → Int} {Sm Re : Nat → Int32} (hk12 : kk ≤ 12) (hn : n ≤ 12) (hD : ∀ a u, a < 12 → u < 12 → ((u < n ∧ (a < kk ∨ (a = kk ∧ u < 0))) → V (10 + (12 * a + u)) = Vt (10 + (12 * a + u)) ∧ V (154 + (12 * a + u)) = Vt (154 + (12 * a + u)) ∧ Sm (12 * a + u) = Re (144 * t + (12 * a + u))) ∧ (¬ (u < n ∧ (a < kk ∨ (a = kk ∧ u < 0))) → V (10 + (12 * a + u)) = 0 ∧ V (154 + (12 * a + u)) = 1)) : (∀ a u, a < kk → u < n → av V a u = av Vt a u ∧ bv V a u = bv Vt a u ∧ Sm (12 * a + u) = Re (144 * t + (12 * a + u))) ∧ ∀ a u, a < 12 → u < 12 → (kk ≤ a ∨ n ≤ u) → av V a u = 0 ∧ bv V a u = 1 :=
  ⟨fun a u ha hu => (hD a u (by omega) (by omega)).1 ⟨hu, Or.inl ha⟩, fun a u ha hu ho => (hD a u ha hu).2 (by omega)⟩
theorem red_startR {x : Tb} (hok : okT x) (hred : x.red = false) {V Vt : Nat → Int} {Sm Re : Nat → Int32} {t : Nat} (hKT : KT x.q x.cols x.rows x.A (PP x) Vt (fun z => Re (144 * t + z))) (hD : ∀ a u, a < 12 → u < 12 → ((u < x.cols ∧ (a < x.rows ∨ (a = x.rows ∧ u < 0))) → V (10 + (12 * a + u)) = Vt (10 + (12 * a + u)) ∧ V (154 + (12 * a + u)) = Vt (154 + (12 * a + u)) ∧ Sm (12 * a + u) = Re (144 * t + (12 * a + u))) ∧ (¬ (u < x.cols ∧ (a < x.rows ∨ (a = x.rows ∧ u < 0))) → V (10 + (12 * a + u)) = 0 ∧ V (154 + (12 * a + u)) = 1)) : ∃ N X, okR x.q N x.cols X ∧ RI x.q N x.cols x.rows X x.A 0 0 V Sm id := by
  obtain ⟨hq, h251, hrw, hcl, hL, -⟩ := hok
  obtain ⟨d1, d2⟩ := ld_in hrw hcl hD
  have hJ := ld_JB hKT.1 hD
  by_cases h0 : x.q = 0
  · have hA : ∀ i j, i < x.rows → j < x.cols → (x.A i j).natAbs ≤ 999 := fun i j hi hj => (hL hred i j hi hj).1 h0
    have hokR : okR x.q (x.cols + x.rows) x.cols (lV x.cols x.rows x.A) := ⟨fun _ => ⟨lin_og _ _ _, by omega, l_smC hcl hA, l_sm hcl hrw hA⟩, fun z => absurd h0 z⟩
    refine ⟨_, _, hokR, RI_0 id hokR hrw hcl (fun _ => ⟨⟨_, _, l_gh, l_rcl, fun i j hi hj => ?_⟩, fun i j hi hj => Nat.le_trans (hA i j hi hj) (by decide +kernel), fun t u h1 h2 h3 => ?_⟩) (fun z => absurd h0 z)⟩
    · obtain ⟨e1, e2, -⟩ := d1 i j hi hj
      rw [e1, e2]
      obtain ⟨g1, g2⟩ := hKT.2.1 h0 i j hi hj
      refine ⟨g1, ?_⟩
      have eP : PP x i = 1 := by unfold PP; rw [hred]; rfl
      rw [eP] at g2
      have e3 : lT x.cols x.A i (x.cols + i) = 1 := by unfold lT; rw [if_neg (by omega), if_pos rfl]
      have e4 : lT x.cols x.A i j = x.A i j := by unfold lT; rw [if_pos hj]
      rw [e3, e4]; exact g2
    · obtain ⟨e1, e2⟩ := d2 t u h1 h2 h3
      rw [e1, e2]; exact p15_0
  · have hp := hq.resolve_left h0
    have hokR : okR x.q 0 x.cols (fun _ => True) := ⟨fun z => absurd z h0, fun _ => ⟨hp, h251⟩⟩
    refine ⟨_, _, hokR, RI_0 id hokR hrw hcl (fun z => absurd z h0) (fun _ => ⟨hJ, fun i j hi hj => (hL hred i j hi hj).2 h0, fun i j hi hj => ?_⟩)⟩
    rw [(d1 i j hi hj).2.2]; exact hKT.2.2 h0 i j hi hj
theorem PP_pos {x : Tb} (hok : okT x) (h0 : x.q = 0) {i : Nat} (hi : i < x.rows) : 0 < PP x i := by
  unfold PP
  by_cases hr : x.red = true
  · rw [if_pos hr]
    have := (hok.2.2.2.2.2 hr).2.1 i hi
    unfold tl at this
    rw [h0, if_pos (show ((0 : Nat) : Int) = 0 from rfl)] at this
    exact this.2
  · rw [if_neg hr]; omega
theorem sgn_eq {a b P A : Int} (hP : 0 < P) (hb : 0 < b) (e : a * P = b * A) : a.sign = A.sign := by
  have h1 : (a * P).sign = a.sign := by rw [Int.sign_mul, Int.sign_eq_one_of_pos hP, Int.mul_one]
  have h2 : (b * A).sign = A.sign := by rw [Int.sign_mul, Int.sign_eq_one_of_pos hb, Int.one_mul]
  rw [← h1, ← h2, e]
section MPUB
variable (l : Launch) (D : va_G) {L : List Nat} {own : Nat → Nat} {k : Nat → ClassId} {f : Nat → va_E} {ma : Nat} {ra adr : Nat → Nat} {st : Nat → Tb}
set_option maxRecDepth 100000 in
set_option maxHeartbeats 4000000 in
theorem m_M_of (hRS : RS L own k f ma ra adr st) {a b : Int} (ha : rI a) (hb' : rI b) : Mi l y_M_of (Cond.code y_M_of c_M_of 3 (some .int) :: G) (rmN 1) D cls (tyl k) L f [.ref ma, .int (zI a), .int (zI b)] (fun r f' => f' = f ∧ spOf st a b r) := by
  obtain ⟨pr, rw, cl, F, R, C, Lo, Pl, To, Bo, Re, Sm, Pc, V, h, hT⟩ := hRS
  -- METHOD M_of | loc 0=m 1=a 2=b | ws m fa rc cc lo pl to bo re tp bt sm pc | fld m.fields=fa m.rowCounts=rc m.columnCounts=cc m.loose=lo m.places=pl m.tops=to m.bottoms=bo m.residues=re m.top=tp m.bottom=bt m.small=sm m.place=pc m.one=n0 m.two=n1 m.three=n2 m.four=n3 m.five=n4 m.six=n5 m.seven=n6 m.eight=n7 m.above=n8 m.under=n9
  refine mk_met (by decide) (Nat.le_of_ble_eq_true rfl) (fun p e s m below meth c ls S hr hlocks hw hl => ?_)
  have hx := S.1
  have hb := S.2.1
  have hown : s.vm.findClass R_M = some m.cls := S.2.2.2.1
  have hG := S.2.2.2.2
  have hl : lv_has ls 3 [(0, .ref ma), (1, .int (zI a)), (2, .int (zI b))] := hl
  have hg := hw
  refine lv_iload_n hx hb d_M_of_0 rfl (lv_at hl 1 rfl) ?_
  refine g_oi (c_X (np := 1) S (m_M_isTable l D k L f ha) hw ml_M_101 st_M_isTable in_M co_M_isTable (by decide +kernel) rfl ⟨rfl, rfl, by decide, by decide⟩ hl.1 rfl (by simp [Value.category]) d_M_of_1 ⟨Nat.zero_le _, Nat.zero_le _⟩) hw (fun r1 f1 H locs hp hg => ?_)
  rw [hp.1] at hg
  refine l_top hp.2 ?_
  refine lv_if_ne (tgt := 9) hx hb d_M_of_4 (by decide) (fun hc => ?_) (fun hc => ?_)
  rotate_left
  · have hn : ¬ (0 ≤ a ∧ a < 8) := fun q => by rw [if_pos q] at hc; exact absurd hc (by decide)
    refine lv_iconst (v := (-1)) hx hb d_M_of_7 (by decide) ?_
    exact g_reti hx hb hr hlocks hg ⟨rfl, Or.inr ⟨hn, rfl⟩⟩ d_M_of_8
  have hn : 0 ≤ a ∧ a < 8 := Classical.byContradiction fun q => hc (if_neg q)
  obtain ⟨i, rfl⟩ : ∃ i : Nat, a = i := ⟨a.toNat, by omega⟩
  have hi : i < 8 := by omega
  obtain ⟨t1, t2, t3, t4, -⟩ := hT i hi
  have hw : kw D cls (tyl k) L s s.heap f ((mc k ra adr ma pr rw cl F R C Lo Pl To Bo Re Sm Pc)) H locs := ⟨f, hg, h.kn⟩
  have r0 : rI 0 := ⟨by decide, by decide⟩
  have r1' : rI 1 := ⟨by decide, by decide⟩
  have r2 : rI 2 := ⟨by decide, by decide⟩
  have r3 : rI 3 := ⟨by decide, by decide⟩
  refine lv_iload_n hx hb d_M_of_9 rfl (lv_at hl 2 rfl) ?_
  refine lv_if_ne (tgt := 22) hx hb d_M_of_10 (by decide) (fun hc => ?_) (fun hc => ?_)
  rotate_left
  · have e0 : b = 0 := (zI_eq hb' r0).mp hc
    refine lv_aload_n hx hb d_M_of_13 rfl (lv_at hl 0 rfl) ?_
    refine k_get hx hb hG lay_M hown hw 0 rfl rfl 8 (by decide) (hG _ fl_M_53) (fun _ h9 => h9) rfl d_M_of_14 ?_
    refine lv_iload_n hx hb d_M_of_17 rfl (lv_at hl 1 rfl) ?_
    refine k_iald hx hb hw 1 0 rfl rfl (i) (rfl) (hi) (by first | decide | omega) d_M_of_18 ?_
    refine lv_goto (tgt := 73) hx hb d_M_of_19 (by decide) ?_
    exact g_reti hx hb hr hlocks hg ⟨rfl, Or.inl ⟨i, rfl, hi, Or.inl ⟨e0, t1⟩⟩⟩ d_M_of_73
  have n0 : b ≠ 0 := fun z => hc ((zI_eq hb' r0).mpr z)
  refine lv_iload_n hx hb d_M_of_22 rfl (lv_at hl 2 rfl) ?_
  refine lv_iconst (v := 1) hx hb d_M_of_23 (by decide) ?_
  refine lv_icmp_ne (tgt := 36) hx hb d_M_of_24 (by decide) (fun hc => ?_) (fun hc => ?_)
  rotate_left
  · have e0 : b = 1 := (zI_eq hb' r1').mp hc
    refine lv_aload_n hx hb d_M_of_27 rfl (lv_at hl 0 rfl) ?_
    refine k_get hx hb hG lay_M hown hw 0 rfl rfl 9 (by decide) (hG _ fl_M_57) (fun _ h9 => h9) rfl d_M_of_28 ?_
    refine lv_iload_n hx hb d_M_of_31 rfl (lv_at hl 1 rfl) ?_
    refine k_iald hx hb hw 2 0 rfl rfl (i) (rfl) (hi) (by first | decide | omega) d_M_of_32 ?_
    refine lv_goto (tgt := 73) hx hb d_M_of_33 (by decide) ?_
    exact g_reti hx hb hr hlocks hg ⟨rfl, Or.inl ⟨i, rfl, hi, Or.inr (Or.inl ⟨e0, t2⟩)⟩⟩ d_M_of_73
  have n1 : b ≠ 1 := fun z => hc ((zI_eq hb' r1').mpr z)
  refine lv_iload_n hx hb d_M_of_36 rfl (lv_at hl 2 rfl) ?_
  refine lv_iconst (v := 2) hx hb d_M_of_37 (by decide) ?_
  refine lv_icmp_ne (tgt := 50) hx hb d_M_of_38 (by decide) (fun hc => ?_) (fun hc => ?_)
  rotate_left
  · have e0 : b = 2 := (zI_eq hb' r2).mp hc
    refine lv_aload_n hx hb d_M_of_41 rfl (lv_at hl 0 rfl) ?_
    refine k_get hx hb hG lay_M hown hw 0 rfl rfl 10 (by decide) (hG _ fl_M_60) (fun _ h9 => h9) rfl d_M_of_42 ?_
    refine lv_iload_n hx hb d_M_of_45 rfl (lv_at hl 1 rfl) ?_
    refine k_iald hx hb hw 3 0 rfl rfl (i) (rfl) (hi) (by first | decide | omega) d_M_of_46 ?_
    refine lv_goto (tgt := 73) hx hb d_M_of_47 (by decide) ?_
    exact g_reti hx hb hr hlocks hg ⟨rfl, Or.inl ⟨i, rfl, hi, Or.inr (Or.inr (Or.inl ⟨e0, t3⟩))⟩⟩ d_M_of_73
  have n2 : b ≠ 2 := fun z => hc ((zI_eq hb' r2).mpr z)
  refine lv_iload_n hx hb d_M_of_50 rfl (lv_at hl 2 rfl) ?_
  refine lv_iconst (v := 3) hx hb d_M_of_51 (by decide) ?_
  refine lv_icmp_ne (tgt := 72) hx hb d_M_of_52 (by decide) (fun hc => ?_) (fun hc => ?_)
  · have n3 : b ≠ 3 := fun z => hc ((zI_eq hb' r3).mpr z)
    refine lv_iconst (v := (-1)) hx hb d_M_of_72 (by decide) ?_
    exact g_reti hx hb hr hlocks hg ⟨rfl, Or.inl ⟨i, rfl, hi, Or.inr (Or.inr (Or.inr (Or.inr ⟨by omega, rfl⟩)))⟩⟩ d_M_of_73
  have e0 : b = 3 := (zI_eq hb' r3).mp hc
  refine lv_aload_n hx hb d_M_of_55 rfl (lv_at hl 0 rfl) ?_
  refine k_get hx hb hG lay_M hown hw 0 rfl rfl 11 (by decide) (hG _ fl_M_63) (fun _ h9 => h9) rfl d_M_of_56 ?_
  refine lv_iload_n hx hb d_M_of_59 rfl (lv_at hl 1 rfl) ?_
  refine k_zald hx hb hw 4 5 rfl rfl (i) (rfl) (hi) (by first | decide | omega) d_M_of_60 ?_
  refine l_top t4 ?_
  refine lv_if_eq (tgt := 68) hx hb d_M_of_61 (by decide) (fun hc => ?_) (fun hc => ?_)
  · have hr0 : (st i).red = true := Classical.byContradiction fun z => by rw [if_neg z] at hc; exact absurd hc (by decide)
    refine lv_iconst (v := 1) hx hb d_M_of_68 (by decide) ?_
    refine lv_goto (tgt := 73) hx hb d_M_of_69 (by decide) ?_
    exact g_reti hx hb hr hlocks hg ⟨rfl, Or.inl ⟨i, rfl, hi, Or.inr (Or.inr (Or.inr (Or.inl ⟨e0, by rw [if_pos hr0]⟩)))⟩⟩ d_M_of_73
  · have hr0 : (st i).red ≠ true := fun z => hc (by rw [if_pos z])
    refine lv_iconst (v := 0) hx hb d_M_of_64 (by decide) ?_
    refine lv_goto (tgt := 73) hx hb d_M_of_65 (by decide) ?_
    exact g_reti hx hb hr hlocks hg ⟨rfl, Or.inl ⟨i, rfl, hi, Or.inr (Or.inr (Or.inr (Or.inl ⟨e0, by rw [if_neg hr0]⟩)))⟩⟩ d_M_of_73
set_option maxRecDepth 100000 in
set_option maxHeartbeats 4000000 in
theorem m_M_place (hRS : RS L own k f ma ra adr st) (hok : ∀ i, i < 8 → okT (st i)) {a b : Int} (ha : rI a) (hb' : rI b) : Mi l y_M_place (Cond.code y_M_place c_M_place 3 (some .int) :: G) (rmN 2) D cls (tyl k) L f [.ref ma, .int (zI a), .int (zI b)] (fun r f' => f' = f ∧ spPlace st a b r) := by
  obtain ⟨pr, rw, cl, F, R, C, Lo, Pl, To, Bo, Re, Sm, Pc, V, h, hT⟩ := hRS
  have hLr : ∀ i, i < 8 → (Lo i = 0 ↔ (st i).red = true) := fun i hi => by
    rw [(hT i hi).2.2.2.1]
    cases (st i).red <;> simp
  -- METHOD M_place | loc 0=m 1=a 2=b | ws m fa rc cc lo pl to bo re tp bt sm pc | fld m.fields=fa m.rowCounts=rc m.columnCounts=cc m.loose=lo m.places=pl m.tops=to m.bottoms=bo m.residues=re m.top=tp m.bottom=bt m.small=sm m.place=pc m.one=n0 m.two=n1 m.three=n2 m.four=n3 m.five=n4 m.six=n5 m.seven=n6 m.eight=n7 m.above=n8 m.under=n9
  refine mk_met (by decide) (Nat.le_of_ble_eq_true rfl) (fun p e s m below meth c ls S hr hlocks hw hl => ?_)
  have hx := S.1
  have hb := S.2.1
  have hown : s.vm.findClass R_M = some m.cls := S.2.2.2.1
  have hG := S.2.2.2.2
  have hl : lv_has ls 3 [(0, .ref ma), (1, .int (zI a)), (2, .int (zI b))] := hl
  have hg := hw
  refine lv_aload_n hx hb d_M_place_0 rfl (lv_at hl 0 rfl) ?_
  refine lv_iload_n hx hb d_M_place_1 rfl (lv_at hl 1 rfl) ?_
  have hw := hg
  refine g_oi (c_V (np := 1) S (m_M_isReduced l D h ha) hw (h.1.1.1) (h.2.1 _ (List.mem_cons_self)) rfl ml_M_191 im_M_isReduced se_M_M_isReduced in_M co_M_isReduced (by decide +kernel) rfl ⟨rfl, rfl, by decide, by decide⟩ hl.1 rfl (by simp [Value.category]) d_M_place_2 ⟨Nat.zero_le _, Nat.zero_le _⟩) hw (fun r1 f1 H locs hp hg => ?_)
  obtain ⟨e1, hp⟩ := hp
  rw [e1] at hg
  rcases hp with ⟨er, i, h1, hi, hred⟩ | ⟨er, hno⟩
  rotate_left
  · subst er
    refine lv_if_eq (tgt := 36) hx hb d_M_place_5 (by decide) (fun hc => ?_) (fun hc => ?_)
    · refine lv_iconst (v := (-1)) hx hb d_M_place_36 (by decide) ?_
      exact g_reti hx hb hr hlocks hg ⟨rfl, Or.inr ⟨fun ⟨j, x, q1, q2, q3, q4, q5⟩ => hno ⟨j, q1, q2, (hLr j q2).mpr q3⟩, rfl⟩⟩ d_M_place_37
    · exact absurd rfl hc
  subst er
  subst h1
  have hred' := (hLr i hi).mp hred
  obtain ⟨t1, t2, t3, t4, t5, -⟩ := hT i hi
  obtain ⟨-, -, hrw, hcl, -⟩ := hok i hi
  have hw : kw D cls (tyl k) L s s.heap f ((mc k ra adr ma pr rw cl F R C Lo Pl To Bo Re Sm Pc)) H locs := ⟨f, hg, h.kn⟩
  refine lv_if_eq (tgt := 36) hx hb d_M_place_5 (by decide) (fun hc => ?_) (fun hc => ?_)
  · exact absurd hc (by decide)
  refine lv_iload_n hx hb d_M_place_8 rfl (lv_at hl 2 rfl) ?_
  refine lv_if_lt (tgt := 36) hx hb d_M_place_9 (by decide) (fun hc => ?_) (fun hc => ?_)
  · have hb0 : b < 0 := (zI_lt hb' (b := 0) ⟨by decide, by decide⟩).mp hc
    refine lv_iconst (v := (-1)) hx hb d_M_place_36 (by decide) ?_
    exact g_reti hx hb hr hlocks hg ⟨rfl, Or.inr ⟨fun ⟨j, x, q1, q2, q3, q4, q5⟩ => by omega, rfl⟩⟩ d_M_place_37
  have hb0 : ¬ b < 0 := fun q => hc ((zI_lt hb' (b := 0) ⟨by decide, by decide⟩).mpr q)
  obtain ⟨x, rfl⟩ : ∃ x : Nat, b = x := ⟨b.toNat, by omega⟩
  refine lv_iload_n hx hb d_M_place_12 rfl (lv_at hl 2 rfl) ?_
  refine lv_aload_n hx hb d_M_place_13 rfl (lv_at hl 0 rfl) ?_
  refine k_get hx hb hG lay_M hown hw 0 rfl rfl 9 (by decide) (hG _ fl_M_57) (fun _ h9 => h9) rfl d_M_place_14 ?_
  refine lv_iload_n hx hb d_M_place_17 rfl (lv_at hl 1 rfl) ?_
  refine k_iald hx hb hw 2 0 rfl rfl (i) (rfl) (hi) (by first | decide | omega) d_M_place_18 ?_
  refine l_top t2 ?_
  refine lv_icmp_ge (tgt := 36) hx hb d_M_place_19 (by decide) (fun hc => ?_) (fun hc => ?_)
  · have hge := (zI_le (rI_n (show (st i).rows < 2147483648 by omega)) hb').mp hc
    refine lv_iconst (v := (-1)) hx hb d_M_place_36 (by decide) ?_
    refine g_reti hx hb hr hlocks hg ⟨rfl, Or.inr ⟨fun ⟨j, x', q1, q2, q3, q4, q5⟩ => ?_, rfl⟩⟩ d_M_place_37
    have e1 : i = j := by omega
    subst e1
    omega
  have hlt : ¬ ((st i).rows : Int) ≤ x := fun q => hc ((zI_le (rI_n (show (st i).rows < 2147483648 by omega)) hb').mpr q)
  refine lv_aload_n hx hb d_M_place_22 rfl (lv_at hl 0 rfl) ?_
  refine k_get hx hb hG lay_M hown hw 0 rfl rfl 12 (by decide) (hG _ fl_M_67) (fun _ h9 => h9) rfl d_M_place_23 ?_
  refine lv_bipush (v := 12) hx hb d_M_place_26 (by decide) ?_
  refine lv_iload_n hx hb d_M_place_28 rfl (lv_at hl 1 rfl) ?_
  refine lv_imul hx hb d_M_place_29 ?_
  refine l_top (show (12 : Int32) * zI (i : Int) = nI (12 * i) from pk_mul 12 i) ?_
  refine lv_iload_n hx hb d_M_place_30 rfl (lv_at hl 2 rfl) ?_
  refine lv_iadd hx hb d_M_place_31 ?_
  refine l_top (show nI (12 * i) + zI (x : Int) = nI (12 * i + x) from nI_add (12 * i) x) ?_
  refine k_iald hx hb hw 5 0 rfl rfl ((12 * i + x)) (rfl) (by omega) (by first | decide | omega) d_M_place_32 ?_
  refine lv_goto (tgt := 37) hx hb d_M_place_33 (by decide) ?_
  exact g_reti hx hb hr hlocks hg ⟨rfl, Or.inl ⟨i, x, rfl, hi, hred', rfl, by omega, t5 hred' x (by omega)⟩⟩ d_M_place_37
set_option maxRecDepth 100000 in
set_option maxHeartbeats 4000000 in
theorem m_M_sign (hRS : RS L own k f ma ra adr st) (hok : ∀ i, i < 8 → okT (st i)) {a b d : Int} (ha : rI a) (hb' : rI b) (hd : rI d) : Mi l y_M_sign (Cond.code y_M_sign c_M_sign 6 (some .int) :: G) (rmN 2) D cls (tyl k) L f [.ref ma, .int (zI a), .int (zI b), .int (zI d)] (fun r f' => f' = f ∧ spSign st a b d r) := by
  obtain ⟨pr, rw, cl, F, R, C, Lo, Pl, To, Bo, Re, Sm, Pc, V, h, hT⟩ := hRS
  have hRC : ∀ i, i < 8 → R i = nI ((fun i => (st i).rows) i) ∧ (fun i => (st i).rows) i ≤ 12 := fun i hi => ⟨(hT i hi).2.1, (hok i hi).2.2.1⟩
  have hCC : ∀ i, i < 8 → C i = nI ((fun i => (st i).cols) i) ∧ (fun i => (st i).cols) i ≤ 12 := fun i hi => ⟨(hT i hi).2.2.1, (hok i hi).2.2.2.1⟩
  -- METHOD M_sign | loc 0=m 1=a 2=b 3=d | ws m fa rc cc lo pl to bo re tp bt sm pc | fld m.fields=fa m.rowCounts=rc m.columnCounts=cc m.loose=lo m.places=pl m.tops=to m.bottoms=bo m.residues=re m.top=tp m.bottom=bt m.small=sm m.place=pc m.one=n0 m.two=n1 m.three=n2 m.four=n3 m.five=n4 m.six=n5 m.seven=n6 m.eight=n7 m.above=n8 m.under=n9
  refine mk_met (by decide) (Nat.le_of_ble_eq_true rfl) (fun p e s m below meth c ls S hr hlocks hw hl => ?_)
  have hx := S.1
  have hb := S.2.1
  have hown : s.vm.findClass R_M = some m.cls := S.2.2.2.1
  have hG := S.2.2.2.2
  have hl : lv_has ls 6 [(0, .ref ma), (1, .int (zI a)), (2, .int (zI b)), (3, .int (zI d))] := hl
  have hg := hw
  refine lv_aload_n hx hb d_M_sign_0 rfl (lv_at hl 0 rfl) ?_
  refine lv_iload_n hx hb d_M_sign_1 rfl (lv_at hl 1 rfl) ?_
  refine lv_iload_n hx hb d_M_sign_2 rfl (lv_at hl 2 rfl) ?_
  refine lv_iload_n hx hb d_M_sign_3 rfl (lv_at hl 3 rfl) ?_
  have hw := hg
  refine g_oi (c_V (np := 3) S (m_M_isCell l D h hRC hCC ha hb' hd) hw (h.1.1.1) (h.2.1 _ (List.mem_cons_self)) rfl ml_M_181 im_M_isCell se_M_M_isCell in_M co_M_isCell (by decide +kernel) rfl ⟨rfl, rfl, by decide, by decide⟩ hl.1 rfl (by simp [Value.category]) d_M_sign_4 ⟨Nat.zero_le _, Nat.zero_le _⟩) hw (fun r1 f1 H locs hp hg => ?_)
  obtain ⟨e1, hp⟩ := hp
  rw [e1] at hg
  rcases hp with ⟨er, i, x, y, h1, hi, h2, h3, hxr, hyc⟩ | ⟨er, hno⟩
  rotate_left
  · subst er
    refine lv_if_ne (tgt := 12) hx hb d_M_sign_7 (by decide) (fun hc => ?_) (fun hc => ?_)
    · exact absurd rfl hc
    refine lv_iconst (v := 0) hx hb d_M_sign_10 (by decide) ?_
    exact g_reti hx hb hr hlocks hg ⟨rfl, Or.inr ⟨fun ⟨i, x, y, q⟩ => hno ⟨i, x, y, q⟩, rfl⟩⟩ d_M_sign_11
  subst er
  subst h1
  subst h2
  subst h3
  have hxr : x < (st i).rows := hxr
  have hyc : y < (st i).cols := hyc
  obtain ⟨t1, t2, t3, t4, t5, Vt, t6, t7⟩ := hT i hi
  have hoki := hok i hi
  obtain ⟨hq, h251, hrw, hcl, -⟩ := hok i hi
  have hw : kw D cls (tyl k) L s s.heap f ((mc k ra adr ma pr rw cl F R C Lo Pl To Bo Re Sm Pc)) H locs := ⟨f, hg, h.kn⟩
  refine lv_if_ne (tgt := 12) hx hb d_M_sign_7 (by decide) (fun hc => ?_) (fun hc => ?_)
  rotate_left
  · exact absurd hc (by decide)
  -- the answer by the sign of what was read
  have fin : ∀ (v : Int) (H : Heap) (locs : List Loc) (ls : Array Slot), rI v → v.sign = ((st i).A x y).sign → lv_has ls 6 [(0, .ref ma)] → gw D cls (tyl k) L s s.heap f H locs → W p l e (rmN 2) s m ([.ref ma, .int (zI (i : Int)), .int (zI (x : Int)), .int (zI (y : Int))] : List Value).toArray below meth c H locs 0 0 (MQ below (va_Qi (fun r f' => f' = f ∧ spSign st (i : Int) (x : Int) (y : Int) r) (mst D cls (tyl k) L) (fun q => q ∈ L)) ([.ref ma, .int (zI (i : Int)), .int (zI (x : Int)), .int (zI (y : Int))] : List Value).toArray s 0 0 (fun q => q ∈ L)) (F0 m 55 ls [.int (zI v)]) := by
    intro v H locs ls rv hsg hl hg
    -- METHOD M_sign | loc 0=m | ws m fa rc cc lo pl to bo re tp bt sm pc | fld m.fields=fa m.rowCounts=rc m.columnCounts=cc m.loose=lo m.places=pl m.tops=to m.bottoms=bo m.residues=re m.top=tp m.bottom=bt m.small=sm m.place=pc m.one=n0 m.two=n1 m.three=n2 m.four=n3 m.five=n4 m.six=n5 m.seven=n6 m.eight=n7 m.above=n8 m.under=n9
    refine lv_istore hx hb d_M_sign_55 hl (by decide) rfl (fun ls hl => ?_)
    refine lv_iload hx hb d_M_sign_57 (lv_at hl 0 rfl) ?_
    refine lv_if_ge (tgt := 66) hx hb d_M_sign_59 (by decide) (fun hc => ?_) (fun hc => ?_)
    · have h0 : 0 ≤ v := (zI_le (a := 0) ⟨by decide, by decide⟩ rv).mp hc
      refine lv_iload hx hb d_M_sign_66 (lv_at hl 0 rfl) ?_
      refine lv_if_le (tgt := 75) hx hb d_M_sign_68 (by decide) (fun hc => ?_) (fun hc => ?_)
      · have h2 : v ≤ 0 := (zI_le rv (b := 0) ⟨by decide, by decide⟩).mp hc
        refine lv_iconst (v := 0) hx hb d_M_sign_75 (by decide) ?_
        refine g_reti hx hb hr hlocks hg ⟨rfl, Or.inl ⟨i, x, y, ⟨rfl, hi, rfl, rfl, hxr, hyc⟩, ?_⟩⟩ d_M_sign_76
        rw [← hsg, show v = 0 by omega]; rfl
      · have h2 : ¬ v ≤ 0 := fun q => hc ((zI_le rv (b := 0) ⟨by decide, by decide⟩).mpr q)
        refine lv_iconst (v := 1) hx hb d_M_sign_71 (by decide) ?_
        refine lv_goto (tgt := 76) hx hb d_M_sign_72 (by decide) ?_
        refine g_reti hx hb hr hlocks hg ⟨rfl, Or.inl ⟨i, x, y, ⟨rfl, hi, rfl, rfl, hxr, hyc⟩, ?_⟩⟩ d_M_sign_76
        rw [← hsg, Int.sign_eq_one_of_pos (by omega)]; rfl
    · have h0 : ¬ 0 ≤ v := fun q => hc ((zI_le (a := 0) ⟨by decide, by decide⟩ rv).mpr q)
      refine lv_iconst (v := (-1)) hx hb d_M_sign_62 (by decide) ?_
      refine lv_goto (tgt := 76) hx hb d_M_sign_63 (by decide) ?_
      refine g_reti hx hb hr hlocks hg ⟨rfl, Or.inl ⟨i, x, y, ⟨rfl, hi, rfl, rfl, hxr, hyc⟩, ?_⟩⟩ d_M_sign_76
      rw [← hsg, Int.sign_eq_neg_one_of_neg (by omega)]; decide
  -- METHOD M_sign | loc 0=m 1=a 2=b 3=d | ws m fa rc cc lo pl to bo re tp bt sm pc | fld m.fields=fa m.rowCounts=rc m.columnCounts=cc m.loose=lo m.places=pl m.tops=to m.bottoms=bo m.residues=re m.top=tp m.bottom=bt m.small=sm m.place=pc m.one=n0 m.two=n1 m.three=n2 m.four=n3 m.five=n4 m.six=n5 m.seven=n6 m.eight=n7 m.above=n8 m.under=n9
  refine lv_sipush (v := 144) hx hb d_M_sign_12 (by decide) ?_
  refine lv_iload_n hx hb d_M_sign_15 rfl (lv_at hl 1 rfl) ?_
  refine lv_imul hx hb d_M_sign_16 ?_
  refine l_top (pk_mul 144 i) ?_
  refine lv_bipush (v := 12) hx hb d_M_sign_17 (by decide) ?_
  refine lv_iload_n hx hb d_M_sign_19 rfl (lv_at hl 2 rfl) ?_
  refine lv_imul hx hb d_M_sign_20 ?_
  refine l_top (pk_mul 12 x) ?_
  refine lv_iadd hx hb d_M_sign_21 ?_
  refine l_top (nI_add (144 * i) (12 * x)) ?_
  refine lv_iload_n hx hb d_M_sign_22 rfl (lv_at hl 3 rfl) ?_
  refine lv_iadd hx hb d_M_sign_23 ?_
  refine l_top (nI_add (144 * i + 12 * x) y) ?_
  refine l_top (show nI (144 * i + 12 * x + y) = nI (144 * i + (12 * x + y)) by rw [Nat.add_assoc]) ?_
  refine lv_istore hx hb d_M_sign_24 hl (by decide) rfl (fun ls hl => ?_)
  refine lv_aload_n hx hb d_M_sign_26 rfl (lv_at hl 1 rfl) ?_
  refine k_get hx hb hG lay_M hown hw 0 rfl rfl 8 (by decide) (hG _ fl_M_53) (fun _ h9 => h9) rfl d_M_sign_27 ?_
  refine lv_iload_n hx hb d_M_sign_30 rfl (lv_at hl 2 rfl) ?_
  refine k_iald hx hb hw 1 0 rfl rfl (i) (rfl) (hi) (by first | decide | omega) d_M_sign_31 ?_
  refine l_top t1 ?_
  refine lv_if_ne (tgt := 48) hx hb d_M_sign_32 (by decide) (fun hc => ?_) (fun hc => ?_)
  · have h0 : (st i).q ≠ 0 := fun z => hc (by rw [z]; rfl)
    have hv := t7.2.2 h0 x y hxr hyc
    have hv : Re (144 * i + (12 * x + y)) = zI ((st i).A x y) := hv
    have hres : rsd (st i).q ((st i).A x y) := by
      by_cases hred : (st i).red = true
      · have := (hoki.2.2.2.2.2 hred).2.1 x hxr
        unfold tl at this
        rw [if_neg (by omega)] at this
        exact this.2 y hyc
      · exact (hoki.2.2.2.2.1 (by simpa using hred) x y hxr hyc).2 h0
    refine lv_aload_n hx hb d_M_sign_48 rfl (lv_at hl 1 rfl) ?_
    refine k_get hx hb hG lay_M hown hw 0 rfl rfl 15 (by decide) (hG _ fl_M_76) (fun _ h9 => h9) rfl d_M_sign_49 ?_
    refine lv_iload hx hb d_M_sign_52 (lv_at hl 0 rfl) ?_
    refine k_iald hx hb hw 8 0 rfl rfl ((144 * i + (12 * x + y))) (rfl) (by omega) (by first | decide | omega) d_M_sign_54 ?_
    refine l_top hv ?_
    exact fin _ H locs ls ⟨by have := hres.1; omega, by have := hres.2; omega⟩ rfl (lv_sub hl [1] rfl) hg
  · have h0 : (st i).q = 0 := Classical.byContradiction fun z => nI_ne0 (Nat.pos_of_ne_zero z) (by omega) hc
    obtain ⟨g1, g2⟩ := t7.2.1 h0 x y hxr hyc
    obtain ⟨⟨n1, mi1, d1, s1, s2, s3, -⟩, -⟩ := t6 (12 * x + y) (by omega)
    have s2 : nr n1 mi1 d1 (av Vt x y) := s2
    have hval : To (16 * (144 * i + (12 * x + y))) = zI ((av Vt x y).sign * n1) := by
      rw [s3, nr_sg s2]
      have hz := nr_z s2
      by_cases hv0 : av Vt x y = 0
      · rw [if_pos hv0, hz.mpr hv0]
        cases mi1 <;> rfl
      · rw [if_neg hv0]
        cases mi1
        · show nI n1 = zI (1 * (n1 : Int)); rw [Int.one_mul]; rfl
        · show -nI n1 = zI (-1 * (n1 : Int)); rw [Int.neg_mul, Int.one_mul, ← zI_neg]; rfl
    refine lv_aload_n hx hb d_M_sign_35 rfl (lv_at hl 1 rfl) ?_
    refine k_get hx hb hG lay_M hown hw 0 rfl rfl 13 (by decide) (hG _ fl_M_70) (fun _ h9 => h9) rfl d_M_sign_36 ?_
    refine lv_bipush (v := 16) hx hb d_M_sign_39 (by decide) ?_
    refine lv_iload hx hb d_M_sign_41 (lv_at hl 0 rfl) ?_
    refine lv_imul hx hb d_M_sign_43 ?_
    refine l_top (pk_mul 16 (144 * i + (12 * x + y))) ?_
    refine k_iald hx hb hw 6 0 rfl rfl ((16 * (144 * i + (12 * x + y)))) (rfl) (by omega) (by first | decide | omega) d_M_sign_44 ?_
    refine lv_goto (tgt := 55) hx hb d_M_sign_45 (by decide) ?_
    refine l_top hval ?_
    refine fin _ H locs ls ?_ ?_ (lv_sub hl [1] rfl) hg
    · rcases Int.lt_trichotomy (av Vt x y) 0 with q | q | q
      · rw [Int.sign_eq_neg_one_of_neg q]; exact ⟨by omega, by omega⟩
      · rw [q]; exact ⟨by simp, by simp⟩
      · rw [Int.sign_eq_one_of_pos q]; exact ⟨by omega, by omega⟩
    · rw [← sgn_eq (PP_pos hoki h0 hxr) g1.1 g2, Int.sign_mul, Int.sign_sign]
      by_cases hn0 : n1 = 0
      · rw [(nr_z s2).mp hn0]; simp
      · rw [Int.sign_eq_one_of_pos (show (0 : Int) < n1 by omega), Int.mul_one]
end MPUB


-- ===== the reference: begin put reduce turn =====
theorem tm_em {d q : Int} (hq : 0 < q) : (d.tmod q + q).tmod q = d % q := by
  have h1 : -q < d.tmod q := by
    have := Int.tmod_lt_of_pos (-d) hq
    rw [Int.neg_tmod] at this
    omega
  rw [Int.tmod_eq_emod_of_nonneg (by omega), Int.add_emod_right]
  have e : d.tmod q = d - q * d.tdiv q := by
    have := Int.mul_tdiv_add_tmod d q
    omega
  rw [e, Int.sub_mul_emod_self_left]
theorem KT_b1 {x : Tb} (hred : x.red = false) (h0 : x.q = 0) {V : Nat → Int} {Sm : Nat → Int32} (h : KT x.q x.cols x.rows x.A (PP x) V Sm) {i j : Nat} (hi : i < x.rows) (hj : j < x.cols) : bv V i j = 1 := by
  obtain ⟨g1, g2⟩ := h.2.1 h0 i j hi hj
  have eP : PP x i = 1 := by unfold PP; rw [hred]; rfl
  rw [eP] at g2
  exact dvd1_pos g1.1 (low_dvd g1 g2).1
/-- what give makes of a loaded reduced table -/
theorem turnR {x : Tb} (hok : okT x) (hred : x.red = true) {r c : Nat} (hr : r < x.rows) (hc : c < x.cols) {V : Nat → Int} {Sm : Nat → Int32} (hJ : JB V) (hKT : KT x.q x.cols x.rows x.A (PP x) V Sm) (hnz : ¬ zr x.q V Sm (12 * r + c)) : x.A r c ≠ 0 ∧ GPre x.q x.cols x.rows r c V Sm ∧ ∀ V2 Sm2, GPost x.q x.cols x.rows r c V Sm V2 Sm2 → ∃ y, TRN x r c y ∧ KT x.q x.cols x.rows y.A (PP y) V2 Sm2 := by
  have hokx := hok
  obtain ⟨hq, h251, hrw, hcl, -, hR⟩ := hok
  obtain ⟨hrd, htl, hsm⟩ := hR hred
  have eP : ∀ i, PP x i = x.A i (x.pl i) := fun i => by unfold PP; rw [if_pos hred]
  by_cases h0 : x.q = 0
  · have hrd0 : rd 0 x.cols x.rows x.A x.pl := by rw [h0] at hrd; exact hrd
    have htl0 : ∀ r, r < x.rows → tl 0 x.cols (x.A r) (x.pl r) := fun r hr => by have := htl r hr; rw [h0] at this; exact this
    have hg := gh_self hrd0 htl0
    have hl := lin_sp x.cols x.rows x.A
    have hs := (hsm h0).1
    have hf : fr x.cols x.rows x.A x.pl (av V) (bv V) := fun i j hi hj => by
      have := hKT.2.1 h0 i j hi hj
      rw [eP] at this
      exact this
    have hav : av V r c ≠ 0 := fun z => hnz (Or.inl ⟨h0, z⟩)
    have hne : x.A r c ≠ 0 := fun z => hav ((low_z (hf r c hr hc).1 (hf r c hr hc).2 (hg.2.1 r hr).2).mpr z)
    have nb : ∀ z : Nat, z ≤ NB → z < D16 ^ 25 := fun z hz => Nat.lt_of_le_of_lt hz (by decide +kernel)
    refine ⟨hne, ⟨fun _ => ⟨hav, fun t j ht hj => ?_, fun j hj a' b' hlow he => ?_⟩, fun z => absurd h0 z⟩, fun V2 Sm2 hG => ?_⟩
    · obtain ⟨b1, b2⟩ := fr_bd (Nat.le_refl _) hg hs hf ht hj
      exact ⟨nb _ b1, nb _ b2, by have := (hf t j ht hj).1.1; show bv V t j ≠ 0; omega⟩
    · obtain ⟨b1, b2⟩ := fr_rowbd hl (Nat.le_refl _) hg hs hf hr hc hne hj hlow he
      exact ⟨nb _ b1, nb _ b2⟩
    · obtain ⟨g1, g2⟩ := hG.1 h0
      have hf2 := fr_turn (Nat.le_refl _) hg hf hr hc hne g1
      have hg2 := gh_turn hl hg hr hc hne
      have hT := (turn_ok hokx hred hr hc hne).2 (pvq x.A x.cols r c x.rows) (Or.inl ⟨h0, rfl⟩)
      refine ⟨_, hT, fun z hz => ?_, fun _ i j hi hj => ?_, fun z => absurd h0 z⟩
      · have e : z = 12 * (z / 12) + z % 12 := by omega
        rw [e]
        show (av V2 (z / 12) (z % 12)).natAbs < _ ∧ (bv V2 (z / 12) (z % 12)).natAbs < _
        by_cases hin : z / 12 < x.rows ∧ z % 12 < x.cols
        · obtain ⟨b1, b2⟩ := fr_bd (Nat.le_refl _) hg2 hs hf2 hin.1 hin.2
          exact ⟨Nat.lt_of_le_of_lt b1 NB15, Nat.lt_of_le_of_lt b2 NB15⟩
        · have e1 : av V2 (z / 12) (z % 12) = av V (z / 12) (z % 12) := g2 _ (by omega) (fun t j h1 h2 => ⟨by omega, by omega⟩)
          have e2 : bv V2 (z / 12) (z % 12) = bv V (z / 12) (z % 12) := g2 _ (by omega) (fun t j h1 h2 => ⟨by omega, by omega⟩)
          rw [e1, e2]
          have := hJ z hz
          rw [e] at this
          exact this
      · exact hf2 i j hi hj
  · have hp := hq.resolve_left h0
    have hres : ∀ i j, i < x.rows → j < x.cols → rsd x.q (x.A i j) := fun i j hi hj => by
      have := htl i hi
      unfold tl at this
      rw [if_neg (by omega)] at this
      exact this.2 j hj
    have hSm := hKT.2.2 h0
    have hne : x.A r c ≠ 0 := fun z => hnz (Or.inr ⟨h0, by rw [hSm r c hr hc, z]; rfl⟩)
    have hA : ∀ t j, t < x.rows → j < x.cols → Sm (12 * t + j) = zI (x.A t j) ∧ rsd x.q (x.A t j) := fun t j ht hj => ⟨hSm t j ht hj, hres t j ht hj⟩
    refine ⟨hne, ⟨fun z => absurd z h0, fun _ => ⟨h251, x.A, hA, inv_ex hp (hres r c hr hc) hne⟩⟩, fun V2 Sm2 hG => ?_⟩
    obtain ⟨k1, k2⟩ := hG.2 h0
    obtain ⟨w, w1, w2, w3, w4⟩ := k2 x.A hA
    have hT := (turn_ok hokx hred hr hc hne).2 (pvp x.A x.q w r c x.rows) (Or.inr ⟨h0, w, w1, w2, w3, rfl⟩)
    refine ⟨_, hT, fun z hz => ?_, fun z => absurd z h0, fun _ i j hi hj => w4 i j hi hj⟩
    rw [k1 _ (by omega), k1 _ (by omega)]; exact hJ z hz
section MPUB2
variable (l : Launch) (D : va_G) {L : List Nat} {own : Nat → Nat} {k : Nat → ClassId} {f : Nat → va_E} {ma : Nat} {ra adr : Nat → Nat} {st : Nat → Tb}
set_option maxRecDepth 100000 in
set_option maxHeartbeats 4000000 in
theorem m_M_begin (hRS : RS L own k f ma ra adr st) (hok : ∀ i, i < 8 → okT (st i)) {a b c0 d : Int} (ha : rI a) (hb' : rI b) (hc' : rI c0) (hd : rI d) : Mi l y_M_begin (Cond.code y_M_begin c_M_begin 5 (some .boolean) :: G) (rmN 3) D cls (tyl k) L f [.ref ma, .int (zI a), .int (zI b), .int (zI c0), .int (zI d)] (fun r f' => ∃ st', RS L own k f' ma ra adr st' ∧ oe own [200] f f' ∧ spBegin st a b c0 d st' r) := by
  have hRS0 := hRS
  obtain ⟨pr, rw, cl, F, R, C, Lo, Pl, To, Bo, Re, Sm, Pc, V, h, hT⟩ := hRS
  have z0 : rI 0 := ⟨by decide, by decide⟩
  have z12 : rI 12 := ⟨by decide, by decide⟩
  -- METHOD M_begin | loc 0=m 1=a 2=b 3=c 4=d | ws m fa rc cc lo pl to bo re tp bt sm pc | fld m.fields=fa m.rowCounts=rc m.columnCounts=cc m.loose=lo m.places=pl m.tops=to m.bottoms=bo m.residues=re m.top=tp m.bottom=bt m.small=sm m.place=pc m.one=n0 m.two=n1 m.three=n2 m.four=n3 m.five=n4 m.six=n5 m.seven=n6 m.eight=n7 m.above=n8 m.under=n9
  refine mk_met (by decide) (Nat.le_of_ble_eq_true rfl) (fun p e s m below meth c ls S hr hlocks hw hl => ?_)
  have hx := S.1
  have hb := S.2.1
  have hown : s.vm.findClass R_M = some m.cls := S.2.2.2.1
  have hG := S.2.2.2.2
  have hl : lv_has ls 5 [(0, .ref ma), (1, .int (zI a)), (2, .int (zI b)), (3, .int (zI c0)), (4, .int (zI d))] := hl
  have hg := hw
  have bad : ∀ (H : Heap) (locs : List Loc) (ls : Array Slot), ¬ (0 ≤ a ∧ a < 8 ∧ fldOK b ∧ 0 ≤ c0 ∧ c0 ≤ 12 ∧ 0 ≤ d ∧ d ≤ 12) → gw D cls (tyl k) L s s.heap f H locs → W p l e (rmN 3) s m ([.ref ma, .int (zI a), .int (zI b), .int (zI c0), .int (zI d)] : List Value).toArray below meth c H locs 0 0 (MQ below (va_Qi (fun r f' => ∃ st', RS L own k f' ma ra adr st' ∧ oe own [200] f f' ∧ spBegin st a b c0 d st' r) (mst D cls (tyl k) L) (fun q => q ∈ L)) ([.ref ma, .int (zI a), .int (zI b), .int (zI c0), .int (zI d)] : List Value).toArray s 0 0 (fun q => q ∈ L)) (F0 m 36 ls []) := by
    intro H locs ls hno hg
    refine lv_iconst (v := 0) hx hb d_M_begin_36 (by decide) ?_
    exact g_retz hx hb hr hlocks hg rfl ⟨st, hRS0, oe.rf, Or.inr ⟨hno, rfl, rfl⟩⟩ d_M_begin_37
  refine lv_iload_n hx hb d_M_begin_0 rfl (lv_at hl 1 rfl) ?_
  refine g_oi (c_X (np := 1) S (m_M_isTable l D k L f ha) hw ml_M_101 st_M_isTable in_M co_M_isTable (by decide +kernel) rfl ⟨rfl, rfl, by decide, by decide⟩ hl.1 rfl (by simp [Value.category]) d_M_begin_1 ⟨Nat.zero_le _, Nat.zero_le _⟩) hw (fun r1 f1 H locs hp hg => ?_)
  rw [hp.1] at hg
  refine l_top hp.2 ?_
  refine lv_if_eq (tgt := 36) hx hb d_M_begin_4 (by decide) (fun hc => ?_) (fun hc => ?_)
  · have hn : ¬ (0 ≤ a ∧ a < 8) := fun q => by rw [if_pos q] at hc; exact absurd hc (by decide)
    exact bad H locs ls (fun q => hn ⟨q.1, q.2.1⟩) hg
  have h1 : 0 ≤ a ∧ a < 8 := Classical.byContradiction fun q => hc (if_neg q)
  have hw := hg
  refine lv_iload_n hx hb d_M_begin_7 rfl (lv_at hl 2 rfl) ?_
  refine g_oi (c_X (np := 1) S (m_M_isField l D k L f hb') hw ml_M_178 st_M_isField in_M co_M_isField (by decide +kernel) rfl ⟨rfl, rfl, by decide, by decide⟩ hl.1 rfl (by simp [Value.category]) d_M_begin_8 ⟨Nat.zero_le _, Nat.zero_le _⟩) hw (fun r1 f1 H locs hp hg => ?_)
  rw [hp.1] at hg
  rcases hp.2 with ⟨er, h2⟩ | ⟨er, h2⟩
  rotate_left
  · subst er
    refine lv_if_eq (tgt := 36) hx hb d_M_begin_11 (by decide) (fun hc => ?_) (fun hc => ?_)
    · exact bad H locs ls (fun q => h2 q.2.2.1) hg
    · exact absurd rfl hc
  subst er
  refine lv_if_eq (tgt := 36) hx hb d_M_begin_11 (by decide) (fun hc => ?_) (fun hc => ?_)
  · exact absurd hc (by decide)
  refine lv_iload_n hx hb d_M_begin_14 rfl (lv_at hl 3 rfl) ?_
  refine lv_if_lt (tgt := 36) hx hb d_M_begin_15 (by decide) (fun hc => ?_) (fun hc => ?_)
  · have := (zI_lt hc' z0).mp hc
    exact bad H locs ls (fun q => by omega) hg
  have h3 : ¬ c0 < 0 := fun q => hc ((zI_lt hc' z0).mpr q)
  refine lv_iload_n hx hb d_M_begin_18 rfl (lv_at hl 3 rfl) ?_
  refine lv_bipush (v := 12) hx hb d_M_begin_19 (by decide) ?_
  refine lv_icmp_gt (tgt := 36) hx hb d_M_begin_21 (by decide) (fun hc => ?_) (fun hc => ?_)
  · have := (zI_lt z12 hc').mp hc
    exact bad H locs ls (fun q => by omega) hg
  have h4 : ¬ 12 < c0 := fun q => hc ((zI_lt z12 hc').mpr q)
  refine lv_iload hx hb d_M_begin_24 (lv_at hl 4 rfl) ?_
  refine lv_if_lt (tgt := 36) hx hb d_M_begin_26 (by decide) (fun hc => ?_) (fun hc => ?_)
  · have := (zI_lt hd z0).mp hc
    exact bad H locs ls (fun q => by omega) hg
  have h5 : ¬ d < 0 := fun q => hc ((zI_lt hd z0).mpr q)
  refine lv_iload hx hb d_M_begin_29 (lv_at hl 4 rfl) ?_
  refine lv_bipush (v := 12) hx hb d_M_begin_31 (by decide) ?_
  refine lv_icmp_le (tgt := 38) hx hb d_M_begin_33 (by decide) (fun hc => ?_) (fun hc => ?_)
  rotate_left
  · have : ¬ d ≤ 12 := fun q => hc ((zI_le hd z12).mpr q)
    exact bad H locs ls (fun q => by omega) hg
  have h6 : d ≤ 12 := (zI_le hd z12).mp hc
  obtain ⟨i, rfl⟩ : ∃ i : Nat, a = i := ⟨a.toNat, by omega⟩
  obtain ⟨rw0, rfl⟩ : ∃ i : Nat, c0 = i := ⟨c0.toNat, by omega⟩
  obtain ⟨cl0, rfl⟩ : ∃ i : Nat, d = i := ⟨d.toNat, by omega⟩
  obtain ⟨q, rfl, hq1, hq2⟩ := h2
  have hi : i < 8 := by omega
  refine lv_aload_n hx hb d_M_begin_38 rfl (lv_at hl 0 rfl) ?_
  refine lv_iload_n hx hb d_M_begin_39 rfl (lv_at hl 2 rfl) ?_
  refine lv_iload_n hx hb d_M_begin_40 rfl (lv_at hl 3 rfl) ?_
  refine lv_iload hx hb d_M_begin_41 (lv_at hl 4 rfl) ?_
  have hw := hg
  refine g_ov (c_V (np := 3) S (m_M_empty l D h (nI q) (nI rw0) (nI cl0)) hw (h.1.1.1) (h.2.1 _ (List.mem_cons_self)) rfl ml_M_127 im_M_empty se_M_M_empty in_M co_M_empty (by decide +kernel) rfl ⟨rfl, rfl, by decide, by decide⟩ hl.1 rfl (by simp [Value.category]) d_M_begin_43 ⟨Nat.zero_le _, Nat.zero_le _⟩) hw (fun f1 H locs hp hg => ?_)
  obtain ⟨V1, Sm1, h1', ho1, hE⟩ := hp
  have hJ : JB V1 := fun z hz => by
    obtain ⟨e1, e2, -⟩ := hE z hz
    rw [e1, e2]; exact p15_0
  refine lv_aload_n hx hb d_M_begin_46 rfl (lv_at hl 0 rfl) ?_
  refine lv_iload_n hx hb d_M_begin_47 rfl (lv_at hl 1 rfl) ?_
  have hw := hg
  refine g_ov (c_V (np := 1) S (m_M_keep l D h1' hi hJ) hw (h1'.1.1.1) (h1'.2.1 _ (List.mem_cons_self)) rfl ml_M_175 im_M_keep se_M_M_keep in_M co_M_keep (by decide +kernel) rfl ⟨rfl, rfl, by decide, by decide⟩ hl.1 rfl (by simp [Value.category]) d_M_begin_48 ⟨Nat.zero_le _, Nat.zero_le _⟩) hw (fun f2 H locs hp hg => ?_)
  obtain ⟨Pl2, To2, Bo2, Re2, h2', ho2, hP2, hD2⟩ := hp
  have hw : kw D cls (tyl k) L s s.heap f2 ((mc k ra adr ma (nI q) (nI rw0) (nI cl0) (upd F i (nI q)) (upd R i (nI rw0)) (upd C i (nI cl0)) Lo Pl2 To2 Bo2 Re2 Sm1 Pc)) H locs := ⟨f2, hg, h2'.kn⟩
  refine lv_aload_n hx hb d_M_begin_51 rfl (lv_at hl 0 rfl) ?_
  refine k_get hx hb hG lay_M hown hw 0 rfl rfl 11 (by decide) (hG _ fl_M_63) (fun _ h9 => h9) rfl d_M_begin_52 ?_
  refine lv_iload_n hx hb d_M_begin_55 rfl (lv_at hl 1 rfl) ?_
  refine lv_iconst (v := 1) hx hb d_M_begin_56 (by decide) ?_
  refine k_zast hx hb hw 4 5 rfl rfl (by rfl) (i) (rfl) (by omega) (by first | decide | omega) d_M_begin_57 (fun H locs hw => ?_)
  refine lv_iconst (v := 1) hx hb d_M_begin_58 (by decide) ?_
  obtain ⟨f3, hg, hk3⟩ := hw
  obtain ⟨h3', ho3⟩ := h2'.back (pr' := nI q) (rw' := nI rw0) (cl' := nI cl0) (F' := upd F i (nI q)) (R' := upd R i (nI rw0)) (C' := upd C i (nI cl0)) (Lo' := upd Lo i 1) (Pl' := Pl2) (To' := To2) (Bo' := Bo2) (Re' := Re2) hk3
  refine g_retz hx hb hr hlocks hg rfl ⟨va_up st i (mkT q rw0 cl0 false (fun _ _ => 0) id), ⟨_, _, _, _, _, _, _, _, _, _, _, _, _, _, h3', fun s hs => ?_⟩, ho1.trans (ho2.trans ho3), Or.inl ⟨i, q, rw0, cl0, rfl, hi, rfl, hq1, hq2, rfl, by omega, rfl, by omega, rfl, rfl⟩⟩ d_M_begin_59
  by_cases e : s = i
  · subst e
    rw [va_up_self]
    refine ⟨pk_us, pk_us, pk_us, pk_us, fun z => Bool.noConfusion z, V1, fun c hc => ⟨(hD2.1 c hc).1, (hD2.1 c hc).2.1⟩, hJ, fun _ x y hx hy => ?_, fun _ x y hx hy => ?_⟩
    · have hx : x < rw0 := hx
      have hy : y < cl0 := hy
      obtain ⟨e1, e2, -⟩ := hE (12 * x + y) (by omega)
      show low (V1 (10 + (12 * x + y))) (V1 (154 + (12 * x + y))) ∧ V1 (10 + (12 * x + y)) * 1 = V1 (154 + (12 * x + y)) * 0
      rw [e1, e2]
      exact ⟨⟨by decide, by decide⟩, by decide⟩
    · have hx : x < rw0 := hx
      have hy : y < cl0 := hy
      obtain ⟨-, -, e3⟩ := hE (12 * x + y) (by omega)
      show Re2 (144 * s + (12 * x + y)) = zI 0
      rw [(hD2.1 _ (by omega)).2.2, e3]; rfl
  · rw [va_up_ne _ _ e]
    exact RTb_off (hT s hs) (hok s hs).2.2.1 e (pk_un e) (pk_un e) (pk_un e) (pk_un e) hP2.2 hD2.2.1 hD2.2.2 (hok s hs).2.2.2.1
set_option maxRecDepth 100000 in
set_option maxHeartbeats 4000000 in
theorem m_M_put (hRS : RS L own k f ma ra adr st) (hok : ∀ i, i < 8 → okT (st i)) {a b c0 d : Int} (ha : rI a) (hb' : rI b) (hc' : rI c0) (hd : rI d) : Mi l y_M_put (Cond.code y_M_put c_M_put 6 (some .boolean) :: G) (rmN 2) D cls (tyl k) L f [.ref ma, .int (zI a), .int (zI b), .int (zI c0), .int (zI d)] (fun r f' => ∃ st', RS L own k f' ma ra adr st' ∧ oe own [200] f f' ∧ spPut st a b c0 d st' r) := by
  have hRS0 := hRS
  obtain ⟨pr, rw, cl, F, R, C, Lo, Pl, To, Bo, Re, Sm, Pc, V, h, hT⟩ := hRS
  have hRC : ∀ i, i < 8 → R i = nI ((fun i => (st i).rows) i) ∧ (fun i => (st i).rows) i ≤ 12 := fun i hi => ⟨(hT i hi).2.1, (hok i hi).2.2.1⟩
  have hCC : ∀ i, i < 8 → C i = nI ((fun i => (st i).cols) i) ∧ (fun i => (st i).cols) i ≤ 12 := fun i hi => ⟨(hT i hi).2.2.1, (hok i hi).2.2.2.1⟩
  have zm : (-999 : Int32) = zI (-999) := by decide
  have zp : (999 : Int32) = zI 999 := by decide
  have r1 : rI (-999) := ⟨by decide, by decide⟩
  have r2 : rI 999 := ⟨by decide, by decide⟩
  -- METHOD M_put | loc 0=m 1=a 2=b 3=c 4=d | ws m fa rc cc lo pl to bo re tp bt sm pc | fld m.fields=fa m.rowCounts=rc m.columnCounts=cc m.loose=lo m.places=pl m.tops=to m.bottoms=bo m.residues=re m.top=tp m.bottom=bt m.small=sm m.place=pc m.one=n0 m.two=n1 m.three=n2 m.four=n3 m.five=n4 m.six=n5 m.seven=n6 m.eight=n7 m.above=n8 m.under=n9
  refine mk_met (by decide) (Nat.le_of_ble_eq_true rfl) (fun p e s m below meth c ls S hr hlocks hw hl => ?_)
  have hx := S.1
  have hb := S.2.1
  have hown : s.vm.findClass R_M = some m.cls := S.2.2.2.1
  have hG := S.2.2.2.2
  have hl : lv_has ls 6 [(0, .ref ma), (1, .int (zI a)), (2, .int (zI b)), (3, .int (zI c0)), (4, .int (zI d))] := hl
  have hg := hw
  have bad : ∀ (H : Heap) (locs : List Loc) (ls : Array Slot), ¬ ((∃ i x y, isAt st a b c0 i x y ∧ (st i).red = false) ∧ -999 ≤ d ∧ d ≤ 999) → gw D cls (tyl k) L s s.heap f H locs → W p l e (rmN 2) s m ([.ref ma, .int (zI a), .int (zI b), .int (zI c0), .int (zI d)] : List Value).toArray below meth c H locs 0 0 (MQ below (va_Qi (fun r f' => ∃ st', RS L own k f' ma ra adr st' ∧ oe own [200] f f' ∧ spPut st a b c0 d st' r) (mst D cls (tyl k) L) (fun q => q ∈ L)) ([.ref ma, .int (zI a), .int (zI b), .int (zI c0), .int (zI d)] : List Value).toArray s 0 0 (fun q => q ∈ L)) (F0 m 35 ls []) := by
    intro H locs ls hno hg
    refine lv_iconst (v := 0) hx hb d_M_put_35 (by decide) ?_
    exact g_retz hx hb hr hlocks hg rfl ⟨st, hRS0, oe.rf, Or.inr ⟨hno, rfl, rfl⟩⟩ d_M_put_36
  refine lv_aload_n hx hb d_M_put_0 rfl (lv_at hl 0 rfl) ?_
  refine lv_iload_n hx hb d_M_put_1 rfl (lv_at hl 1 rfl) ?_
  refine lv_iload_n hx hb d_M_put_2 rfl (lv_at hl 2 rfl) ?_
  refine lv_iload_n hx hb d_M_put_3 rfl (lv_at hl 3 rfl) ?_
  have hw := hg
  refine g_oi (c_V (np := 3) S (m_M_isCell l D h hRC hCC ha hb' hc') hw (h.1.1.1) (h.2.1 _ (List.mem_cons_self)) rfl ml_M_181 im_M_isCell se_M_M_isCell in_M co_M_isCell (by decide +kernel) rfl ⟨rfl, rfl, by decide, by decide⟩ hl.1 rfl (by simp [Value.category]) d_M_put_4 ⟨Nat.zero_le _, Nat.zero_le _⟩) hw (fun r1 f1 H locs hp hg => ?_)
  obtain ⟨e1, hp⟩ := hp
  rw [e1] at hg
  rcases hp with ⟨er, i, x, y, h1, hi, h2, h3, hxr, hyc⟩ | ⟨er, hno⟩
  rotate_left
  · subst er
    refine lv_if_eq (tgt := 35) hx hb d_M_put_7 (by decide) (fun hc => ?_) (fun hc => ?_)
    · exact bad H locs ls (fun ⟨⟨i, x, y, q, _⟩, _⟩ => hno ⟨i, x, y, q⟩) hg
    · exact absurd rfl hc
  subst er
  have hxr : x < (st i).rows := hxr
  have hyc : y < (st i).cols := hyc
  have huniq : ∀ i' x' y', isAt st a b c0 i' x' y' → i' = i := fun i' x' y' q => by have := q.1; omega
  obtain ⟨t1, t2, t3, t4, t5, Vt, t6, t7⟩ := hT i hi
  have hoki := hok i hi
  obtain ⟨hq, h251, hrw, hcl, -⟩ := hok i hi
  have hw : kw D cls (tyl k) L s s.heap f ((mc k ra adr ma pr rw cl F R C Lo Pl To Bo Re Sm Pc)) H locs := ⟨f, hg, h.kn⟩
  refine lv_if_eq (tgt := 35) hx hb d_M_put_7 (by decide) (fun hc => ?_) (fun hc => ?_)
  · exact absurd hc (by decide)
  refine lv_aload_n hx hb d_M_put_10 rfl (lv_at hl 0 rfl) ?_
  refine k_get hx hb hG lay_M hown hw 0 rfl rfl 11 (by decide) (hG _ fl_M_63) (fun _ h9 => h9) rfl d_M_put_11 ?_
  refine lv_iload_n hx hb d_M_put_14 rfl (lv_at hl 1 rfl) ?_
  refine k_zald hx hb hw 4 5 rfl rfl (i) (by rw [h1]; rfl) (hi) (by first | decide | omega) d_M_put_15 ?_
  refine l_top t4 ?_
  refine lv_if_eq (tgt := 35) hx hb d_M_put_16 (by decide) (fun hc => ?_) (fun hc => ?_)
  · have hr0 : (st i).red = true := Classical.byContradiction fun z => by rw [if_neg z] at hc; exact absurd hc (by decide)
    exact bad H locs ls (fun ⟨⟨i', x', y', q, q2⟩, _⟩ => by rw [huniq _ _ _ q, hr0] at q2; cases q2) hg
  have hr0 : (st i).red = false := by
    cases hh : (st i).red with
    | false => rfl
    | true => rw [hh] at hc; exact absurd rfl hc
  refine lv_iload hx hb d_M_put_19 (lv_at hl 4 rfl) ?_
  refine lv_sipush (v := (-999)) hx hb d_M_put_21 (by decide) ?_
  refine lv_icmp_lt (tgt := 35) hx hb d_M_put_24 (by decide) (fun hc => ?_) (fun hc => ?_)
  · rw [zm] at hc
    have := (zI_lt hd r1).mp hc
    exact bad H locs ls (fun ⟨_, q, _⟩ => by omega) hg
  have hn1 : ¬ d < -999 := fun q => hc (by rw [zm]; exact (zI_lt hd r1).mpr q)
  refine lv_iload hx hb d_M_put_27 (lv_at hl 4 rfl) ?_
  refine lv_sipush (v := 999) hx hb d_M_put_29 (by decide) ?_
  refine lv_icmp_le (tgt := 37) hx hb d_M_put_32 (by decide) (fun hc => ?_) (fun hc => ?_)
  rotate_left
  · have hn : ¬ d ≤ 999 := fun q => hc (by rw [zp]; exact (zI_le hd r2).mpr q)
    exact bad H locs ls (fun ⟨_, _, q⟩ => hn q) hg
  rw [zp] at hc
  have hn2 := (zI_le hd r2).mp hc
  subst h1
  subst h2
  subst h3
  obtain ⟨z, hz0⟩ : ∃ z, z = 12 * x + y := ⟨_, rfl⟩
  have hz1 : z < 144 := by omega
  refine lv_sipush (v := 144) hx hb d_M_put_37 (by decide) ?_
  refine lv_iload_n hx hb d_M_put_40 rfl (lv_at hl 1 rfl) ?_
  refine lv_imul hx hb d_M_put_41 ?_
  refine l_top (pk_mul 144 i) ?_
  refine lv_bipush (v := 12) hx hb d_M_put_42 (by decide) ?_
  refine lv_iload_n hx hb d_M_put_44 rfl (lv_at hl 2 rfl) ?_
  refine lv_imul hx hb d_M_put_45 ?_
  refine l_top (pk_mul 12 x) ?_
  refine lv_iadd hx hb d_M_put_46 ?_
  refine l_top (nI_add (144 * i) (12 * x)) ?_
  refine lv_iload_n hx hb d_M_put_47 rfl (lv_at hl 3 rfl) ?_
  refine lv_iadd hx hb d_M_put_48 ?_
  refine l_top (nI_add (144 * i + 12 * x) y) ?_
  refine l_top (show nI (144 * i + 12 * x + y) = nI (144 * i + (12 * x + y)) by rw [Nat.add_assoc]) ?_
  refine l_top (show nI (144 * i + (12 * x + y)) = nI (144 * i + z) by rw [hz0]) ?_
  refine lv_istore hx hb d_M_put_49 hl (by decide) rfl (fun ls hl => ?_)
  refine lv_aload_n hx hb d_M_put_51 rfl (lv_at hl 1 rfl) ?_
  refine k_get hx hb hG lay_M hown hw 0 rfl rfl 0 (by decide) (hG _ fl_M_41) (fun _ h9 => h9) rfl d_M_put_52 ?_
  refine lv_iload hx hb d_M_put_55 (lv_at hl 5 rfl) ?_
  refine lv_i2l hx hb d_M_put_57 (zIL hd) ?_
  have hw := hg
  refine g_ov (c_V (np := 1) S (nn_small l D h.1.2.2.2.2 h.2.2 (i := 0) (by omega) (v := d) (by omega)) hw ((h.2.2 (0) (by omega)).1) ((h.2.2 (0) (by omega)).2.2.choose_spec.choose_spec.choose_spec.1) rfl ml_M_117 im_N_small se_N_N_small in_N co_N_small (by decide +kernel) rfl ⟨rfl, rfl, by decide, by decide⟩ hl.1 rfl (by simp [Value.category]) d_M_put_58 ⟨Nat.zero_le _, Nat.zero_le _⟩) hw (fun f1 H locs hp hg => ?_)
  obtain ⟨h1, ho1⟩ := h.num hp
  have hw : kw D cls (tyl k) L s s.heap f1 ((mc k ra adr ma pr rw cl F R C Lo Pl To Bo Re Sm Pc)) H locs := ⟨f1, hg, h1.kn⟩
  refine lv_aload_n hx hb d_M_put_61 rfl (lv_at hl 1 rfl) ?_
  refine k_get hx hb hG lay_M hown hw 0 rfl rfl 0 (by decide) (hG _ fl_M_41) (fun _ h9 => h9) rfl d_M_put_62 ?_
  refine lv_aload_n hx hb d_M_put_65 rfl (lv_at hl 1 rfl) ?_
  refine k_get hx hb hG lay_M hown hw 0 rfl rfl 13 (by decide) (hG _ fl_M_70) (fun _ h9 => h9) rfl d_M_put_66 ?_
  refine lv_bipush (v := 16) hx hb d_M_put_69 (by decide) ?_
  refine lv_iload hx hb d_M_put_71 (lv_at hl 0 rfl) ?_
  refine lv_imul hx hb d_M_put_73 ?_
  refine l_top (pk_mul 16 (144 * i + z)) ?_
  have hd15 : (va_up V 0 d 0).natAbs < D16 ^ 15 := by
    rw [va_up_self]
    exact Nat.lt_of_le_of_lt (show d.natAbs ≤ 999 by omega) (by decide +kernel)
  have hw := hg
  refine g_ov (c_X (np := 3) S (mm_store5 l D h1 (i := 0) (at0 := 16 * (144 * i + z)) (by omega) hd15 (by omega)) hw ml_M_124 st_M_store in_M co_M_store (by decide +kernel) rfl ⟨rfl, rfl, by decide, by decide⟩ hl.1 rfl (by simp [Value.category]) d_M_put_74 ⟨Nat.zero_le _, Nat.zero_le _⟩) hw (fun f2 H locs hp hg => ?_)
  obtain ⟨To2, s1, s2, h2, ho2⟩ := hp
  rw [va_up_self] at s1
  have fin : ∀ (v : Int) (H : Heap) (locs : List Loc) (ls : Array Slot), ((st i).q ≠ 0 → v = d % (st i).q) → kw D cls (tyl k) L s s.heap f2 ((mc k ra adr ma pr rw cl F R C Lo Pl To2 Bo Re Sm Pc)) H locs → W p l e (rmN 2) s m ([.ref ma, .int (zI (i : Int)), .int (zI (x : Int)), .int (zI (y : Int)), .int (zI d)] : List Value).toArray below meth c H locs 0 0 (MQ below (va_Qi (fun r f' => ∃ st', RS L own k f' ma ra adr st' ∧ oe own [200] f f' ∧ spPut st (i : Int) (x : Int) (y : Int) d st' r) (mst D cls (tyl k) L) (fun q => q ∈ L)) ([.ref ma, .int (zI (i : Int)), .int (zI (x : Int)), .int (zI (y : Int)), .int (zI d)] : List Value).toArray s 0 0 (fun q => q ∈ L)) (F0 m 119 ls [.int (zI v), .int (nI (144 * i + z)), .ref (ra 7)]) := by
    intro v H locs ls hv hw
    -- METHOD M_put | loc 0=m | ws m fa rc cc lo pl to bo re tp bt sm pc | fld m.fields=fa m.rowCounts=rc m.columnCounts=cc m.loose=lo m.places=pl m.tops=to m.bottoms=bo m.residues=re m.top=tp m.bottom=bt m.small=sm m.place=pc m.one=n0 m.two=n1 m.three=n2 m.four=n3 m.five=n4 m.six=n5 m.seven=n6 m.eight=n7 m.above=n8 m.under=n9
    refine k_iast hx hb hw 8 0 rfl rfl ((144 * i + z)) (rfl) (by omega) (by first | decide | omega) d_M_put_119 (fun H locs hw => ?_)
    refine lv_iconst (v := 1) hx hb d_M_put_120 (by decide) ?_
    obtain ⟨f3, hg, hk3⟩ := hw
    obtain ⟨h3, ho3⟩ := h2.back (To' := To2) hk3
    refine g_retz hx hb hr hlocks hg rfl ⟨va_up st i (putT (st i) x y d), ⟨_, _, _, _, _, _, _, _, _, _, _, _, _, _, h3, fun s hs => ?_⟩, ho1.trans (ho2.trans ho3), Or.inl ⟨i, x, y, ⟨rfl, hi, rfl, rfl, hxr, hyc⟩, hr0, by omega, hn2, rfl, rfl⟩⟩ d_M_put_121
    by_cases e : s = i
    · subst e
      rw [va_up_self]
      refine ⟨t1, t2, t3, by rw [t4, hr0]; rfl, fun z => Bool.noConfusion z, va_up Vt (10 + z) d, fun c hc => ?_, fun c hc => ?_, fun h0 x' y' hx' hy' => ?_, fun h0 x' y' hx' hy' => ?_⟩
      · obtain ⟨a1, a2⟩ := t6 c hc
        rw [va_up_ne _ _ (show 154 + c ≠ 10 + z by omega)]
        refine ⟨?_, a2⟩
        by_cases ec : c = z
        · rw [ec, va_up_self]; exact s1
        · rw [va_up_ne _ _ (by omega)]; exact sc_same a1 (fun w h1 h2 => s2 w (by omega))
      · obtain ⟨a1, a2⟩ := t7.1 c hc
        rw [va_up_ne _ _ (show 154 + c ≠ 10 + z by omega)]
        refine ⟨?_, a2⟩
        by_cases ec : c = z
        · rw [ec, va_up_self]; exact Nat.lt_of_le_of_lt (show d.natAbs ≤ 999 by omega) (by decide +kernel)
        · rw [va_up_ne _ _ (by omega)]; exact a1
      · have hx2 : x' < (st s).rows := hx'
        have hy2 : y' < (st s).cols := hy'
        have hq0 : (st s).q = 0 := h0
        have b1 := KT_b1 hr0 hq0 t7 hx2 hy2
        obtain ⟨g1, g2⟩ := t7.2.1 hq0 x' y' hx2 hy2
        have eP : PP (st s) x' = 1 := by unfold PP; rw [hr0]; rfl
        rw [eP] at g2
        show low (va_up Vt (10 + z) d (10 + (12 * x' + y'))) (va_up Vt (10 + z) d (154 + (12 * x' + y'))) ∧ va_up Vt (10 + z) d (10 + (12 * x' + y')) * 1 = va_up Vt (10 + z) d (154 + (12 * x' + y')) * va_up (st s).A x (va_up ((st s).A x) y (if (st s).q = 0 then d else d % (st s).q)) x' y'
        rw [va_up_ne _ _ (show 154 + (12 * x' + y') ≠ 10 + z by omega)]
        by_cases ec : x' = x ∧ y' = y
        · obtain ⟨ex, ey⟩ := ec
          subst ex
          subst ey
          rw [← hz0, va_up_self, va_up_self, va_up_self, if_pos hq0, hz0]
          have b1' : Vt (154 + (12 * x' + y')) = 1 := b1
          rw [b1']
          exact ⟨⟨by decide, by rw [Int.gcd_one_right]⟩, by omega⟩
        · rw [va_up_ne _ _ (show 10 + (12 * x' + y') ≠ 10 + z by omega)]
          refine ⟨g1, ?_⟩
          have eA : va_up (st s).A x (va_up ((st s).A x) y (if (st s).q = 0 then d else d % (st s).q)) x' y' = (st s).A x' y' := by
            by_cases ex : x' = x
            · rw [ex, va_up_self, va_up_ne _ _ (fun q => ec ⟨ex, q⟩)]
            · rw [va_up_ne _ _ ex]
          rw [eA]; exact g2
      · have hx2 : x' < (st s).rows := hx'
        have hy2 : y' < (st s).cols := hy'
        have hq0 : (st s).q ≠ 0 := h0
        show upd Re (144 * s + z) (zI v) (144 * s + (12 * x' + y')) = zI (va_up (st s).A x (va_up ((st s).A x) y (if (st s).q = 0 then d else d % (st s).q)) x' y')
        by_cases ec : x' = x ∧ y' = y
        · obtain ⟨ex, ey⟩ := ec
          subst ex
          subst ey
          rw [← hz0, pk_us, va_up_self, va_up_self, if_neg hq0, hv hq0]
        · rw [pk_un (by omega)]
          have eA : va_up (st s).A x (va_up ((st s).A x) y (if (st s).q = 0 then d else d % (st s).q)) x' y' = (st s).A x' y' := by
            by_cases ex : x' = x
            · rw [ex, va_up_self, va_up_ne _ _ (fun q => ec ⟨ex, q⟩)]
            · rw [va_up_ne _ _ ex]
          rw [eA]; exact t7.2.2 hq0 x' y' hx2 hy2
    · rw [va_up_ne _ _ e]
      exact RTb_off (t := i) (hT s hs) (hok s hs).2.2.1 e rfl rfl rfl rfl (fun _ _ => rfl) (fun w hw => ⟨s2 w (by omega), rfl⟩) (fun w hw => pk_un (by omega)) (hok s hs).2.2.2.1
  have hw : kw D cls (tyl k) L s s.heap f2 ((mc k ra adr ma pr rw cl F R C Lo Pl To2 Bo Re Sm Pc)) H locs := ⟨f2, hg, h2.kn⟩
  refine lv_aload_n hx hb d_M_put_77 rfl (lv_at hl 1 rfl) ?_
  refine k_get hx hb hG lay_M hown hw 0 rfl rfl 15 (by decide) (hG _ fl_M_76) (fun _ h9 => h9) rfl d_M_put_78 ?_
  refine lv_iload hx hb d_M_put_81 (lv_at hl 0 rfl) ?_
  refine lv_aload_n hx hb d_M_put_83 rfl (lv_at hl 1 rfl) ?_
  refine k_get hx hb hG lay_M hown hw 0 rfl rfl 8 (by decide) (hG _ fl_M_53) (fun _ h9 => h9) rfl d_M_put_84 ?_
  refine lv_iload_n hx hb d_M_put_87 rfl (lv_at hl 2 rfl) ?_
  refine k_iald hx hb hw 1 0 rfl rfl (i) (rfl) (hi) (by first | decide | omega) d_M_put_88 ?_
  refine l_top t1 ?_
  refine lv_if_ne (tgt := 96) hx hb d_M_put_89 (by decide) (fun hc => ?_) (fun hc => ?_)
  · have h0 : (st i).q ≠ 0 := fun z => hc (by rw [z]; rfl)
    have hqp : (0 : Int) < (st i).q := by omega
    have rq : rI ((st i).q : Int) := rI_n (by omega)
    have ht1 := Int.tmod_lt_of_pos d hqp
    have ht2 : -((st i).q : Int) < d.tmod (st i).q := by
      have := Int.tmod_lt_of_pos (-d) hqp
      rw [Int.neg_tmod] at this
      omega
    refine lv_iload hx hb d_M_put_96 (lv_at hl 5 rfl) ?_
    refine lv_aload_n hx hb d_M_put_98 rfl (lv_at hl 1 rfl) ?_
    refine k_get hx hb hG lay_M hown hw 0 rfl rfl 8 (by decide) (hG _ fl_M_53) (fun _ h9 => h9) rfl d_M_put_99 ?_
    refine lv_iload_n hx hb d_M_put_102 rfl (lv_at hl 2 rfl) ?_
    refine k_iald hx hb hw 1 0 rfl rfl (i) (rfl) (hi) (by first | decide | omega) d_M_put_103 ?_
    refine l_top t1 ?_
    refine lv_irem hx hb d_M_put_104 (nI_ne0 (Nat.pos_of_ne_zero h0) (by omega)) ?_
    refine l_top (show zI d - zI d / nI (st i).q * nI (st i).q = zI (d.tmod (st i).q) by rw [← zI_n]; exact zI_rem hd rq hqp) ?_
    refine lv_aload_n hx hb d_M_put_105 rfl (lv_at hl 1 rfl) ?_
    refine k_get hx hb hG lay_M hown hw 0 rfl rfl 8 (by decide) (hG _ fl_M_53) (fun _ h9 => h9) rfl d_M_put_106 ?_
    refine lv_iload_n hx hb d_M_put_109 rfl (lv_at hl 2 rfl) ?_
    refine k_iald hx hb hw 1 0 rfl rfl (i) (rfl) (hi) (by first | decide | omega) d_M_put_110 ?_
    refine l_top t1 ?_
    refine lv_iadd hx hb d_M_put_111 ?_
    refine l_top (show zI (d.tmod (st i).q) + nI (st i).q = zI (d.tmod (st i).q + (st i).q) by rw [← zI_n]; exact zI_add _ _) ?_
    refine lv_aload_n hx hb d_M_put_112 rfl (lv_at hl 1 rfl) ?_
    refine k_get hx hb hG lay_M hown hw 0 rfl rfl 8 (by decide) (hG _ fl_M_53) (fun _ h9 => h9) rfl d_M_put_113 ?_
    refine lv_iload_n hx hb d_M_put_116 rfl (lv_at hl 2 rfl) ?_
    refine k_iald hx hb hw 1 0 rfl rfl (i) (rfl) (hi) (by first | decide | omega) d_M_put_117 ?_
    refine l_top t1 ?_
    refine lv_irem hx hb d_M_put_118 (nI_ne0 (Nat.pos_of_ne_zero h0) (by omega)) ?_
    refine l_top (show zI (d.tmod (st i).q + (st i).q) - zI (d.tmod (st i).q + (st i).q) / nI (st i).q * nI (st i).q = zI (d % (st i).q) by rw [← zI_n, zI_rem ⟨by omega, by omega⟩ rq hqp, tm_em hqp]) ?_
    exact fin _ H locs ls (fun _ => rfl) hw
  · have h0 : (st i).q = 0 := Classical.byContradiction fun z => nI_ne0 (Nat.pos_of_ne_zero z) (by omega) hc
    refine lv_iconst (v := 0) hx hb d_M_put_92 (by decide) ?_
    refine lv_goto (tgt := 119) hx hb d_M_put_93 (by decide) ?_
    exact fin 0 H locs ls (fun z => absurd h0 z) hw
set_option maxRecDepth 100000 in
set_option maxHeartbeats 4000000 in
theorem m_M_reduce (hRS : RS L own k f ma ra adr st) (hok : ∀ i, i < 8 → okT (st i)) {a : Int} (ha : rI a) : Mi l y_M_reduce (Cond.code y_M_reduce c_M_reduce 2 (some .int) :: G) (rmN 9) D cls (tyl k) L f [.ref ma, .int (zI a)] (fun r f' => ∃ st', RS L own k f' ma ra adr st' ∧ oe own [200] f f' ∧ spReduce st a st' r) := by
  have hRS0 := hRS
  obtain ⟨pr, rw, cl, F, R, C, Lo, Pl, To, Bo, Re, Sm, Pc, V, h, hT⟩ := hRS
  -- METHOD M_reduce | loc 0=m 1=a | ws m fa rc cc lo pl to bo re tp bt sm pc | fld m.fields=fa m.rowCounts=rc m.columnCounts=cc m.loose=lo m.places=pl m.tops=to m.bottoms=bo m.residues=re m.top=tp m.bottom=bt m.small=sm m.place=pc m.one=n0 m.two=n1 m.three=n2 m.four=n3 m.five=n4 m.six=n5 m.seven=n6 m.eight=n7 m.above=n8 m.under=n9
  refine mk_met (by decide) (Nat.le_of_ble_eq_true rfl) (fun p e s m below meth c ls S hr hlocks hw hl => ?_)
  have hx := S.1
  have hb := S.2.1
  have hown : s.vm.findClass R_M = some m.cls := S.2.2.2.1
  have hG := S.2.2.2.2
  have hl : lv_has ls 2 [(0, .ref ma), (1, .int (zI a))] := hl
  have hg := hw
  refine lv_iload_n hx hb d_M_reduce_0 rfl (lv_at hl 1 rfl) ?_
  refine g_oi (c_X (np := 1) S (m_M_isTable l D k L f ha) hw ml_M_101 st_M_isTable in_M co_M_isTable (by decide +kernel) rfl ⟨rfl, rfl, by decide, by decide⟩ hl.1 rfl (by simp [Value.category]) d_M_reduce_1 ⟨Nat.zero_le _, Nat.zero_le _⟩) hw (fun r1 f1 H locs hp hg => ?_)
  rw [hp.1] at hg
  refine l_top hp.2 ?_
  refine lv_if_ne (tgt := 9) hx hb d_M_reduce_4 (by decide) (fun hc => ?_) (fun hc => ?_)
  rotate_left
  · have hn : ¬ (0 ≤ a ∧ a < 8) := fun q => by rw [if_pos q] at hc; exact absurd hc (by decide)
    refine lv_iconst (v := (-1)) hx hb d_M_reduce_7 (by decide) ?_
    exact g_reti hx hb hr hlocks hg ⟨st, hRS0, oe.rf, Or.inr ⟨hn, rfl, rfl⟩⟩ d_M_reduce_8
  have hn : 0 ≤ a ∧ a < 8 := Classical.byContradiction fun q => hc (if_neg q)
  obtain ⟨i, rfl⟩ : ∃ i : Nat, a = i := ⟨a.toNat, by omega⟩
  have hi : i < 8 := by omega
  obtain ⟨t1, t2, t3, t4, t5, Vt, t6, t7⟩ := hT i hi
  have hoki := hok i hi
  obtain ⟨hq, h251, hrw, hcl, -⟩ := hok i hi
  have hw : kw D cls (tyl k) L s s.heap f ((mc k ra adr ma pr rw cl F R C Lo Pl To Bo Re Sm Pc)) H locs := ⟨f, hg, h.kn⟩
  refine lv_aload_n hx hb d_M_reduce_9 rfl (lv_at hl 0 rfl) ?_
  refine k_get hx hb hG lay_M hown hw 0 rfl rfl 11 (by decide) (hG _ fl_M_63) (fun _ h9 => h9) rfl d_M_reduce_10 ?_
  refine lv_iload_n hx hb d_M_reduce_13 rfl (lv_at hl 1 rfl) ?_
  refine k_zald hx hb hw 4 5 rfl rfl (i) (rfl) (hi) (by first | decide | omega) d_M_reduce_14 ?_
  refine l_top t4 ?_
  refine lv_if_ne (tgt := 25) hx hb d_M_reduce_15 (by decide) (fun hc => ?_) (fun hc => ?_)
  rotate_left
  · have hr0 : (st i).red = true := Classical.byContradiction fun z => by rw [if_neg z] at hc; exact absurd hc (by decide)
    refine lv_aload_n hx hb d_M_reduce_18 rfl (lv_at hl 0 rfl) ?_
    refine k_get hx hb hG lay_M hown hw 0 rfl rfl 9 (by decide) (hG _ fl_M_57) (fun _ h9 => h9) rfl d_M_reduce_19 ?_
    refine lv_iload_n hx hb d_M_reduce_22 rfl (lv_at hl 1 rfl) ?_
    refine k_iald hx hb hw 2 0 rfl rfl (i) (rfl) (hi) (by first | decide | omega) d_M_reduce_23 ?_
    exact g_reti hx hb hr hlocks hg ⟨st, hRS0, oe.rf, Or.inl ⟨i, rfl, hi, Or.inl ⟨hr0, rfl, t2⟩⟩⟩ d_M_reduce_24
  have hr0 : (st i).red = false := by
    cases hh : (st i).red with
    | false => rfl
    | true => rw [hh] at hc; exact absurd rfl hc
  refine lv_aload_n hx hb d_M_reduce_25 rfl (lv_at hl 0 rfl) ?_
  refine lv_iload_n hx hb d_M_reduce_26 rfl (lv_at hl 1 rfl) ?_
  have hw := hg
  refine g_ov (c_V (np := 1) S (m_M_load l D h hi t1 t2 t3 hrw hcl t6) hw (h.1.1.1) (h.2.1 _ (List.mem_cons_self)) rfl ml_M_185 im_M_load se_M_M_load in_M co_M_load (by decide +kernel) rfl ⟨rfl, rfl, by decide, by decide⟩ hl.1 rfl (by simp [Value.category]) d_M_reduce_27 ⟨Nat.zero_le _, Nat.zero_le _⟩) hw (fun f1 H locs hp hg => ?_)
  obtain ⟨V1, Sm1, Pc1, h1, ho1, hD1, hP1⟩ := hp
  obtain ⟨N, X, hokR, hRI⟩ := red_startR hoki hr0 t7 hD1
  refine lv_aload_n hx hb d_M_reduce_30 rfl (lv_at hl 0 rfl) ?_
  refine lv_iload_n hx hb d_M_reduce_31 rfl (lv_at hl 1 rfl) ?_
  have hw := hg
  refine g_oi (c_V (np := 1) S (m_M_finish l D h1 (st := st) (fun s hs _ => ⟨hT s hs, (hok s hs).2.2.1, (hok s hs).2.2.2.1⟩) hi hrw hcl hokR hq h251 hRI) hw (h1.1.1.1) (h1.2.1 _ (List.mem_cons_self)) rfl ml_M_188 im_M_finish se_M_M_finish in_M co_M_finish (by decide +kernel) rfl ⟨rfl, rfl, by decide, by decide⟩ hl.1 rfl (by simp [Value.category]) d_M_reduce_32 ⟨Nat.zero_le _, Nat.zero_le _⟩) hw (fun r2 f2 H locs hp hg => ?_)
  obtain ⟨y, g1, g2, g3, g4⟩ := hp
  exact g_reti hx hb hr hlocks hg ⟨_, g2, ho1.trans g3, Or.inl ⟨i, rfl, hi, Or.inr ⟨hr0, y, g1, rfl, g4⟩⟩⟩ d_M_reduce_35
set_option maxRecDepth 100000 in
set_option maxHeartbeats 4000000 in
theorem m_M_turn (hRS : RS L own k f ma ra adr st) (hok : ∀ i, i < 8 → okT (st i)) {a b d : Int} (ha : rI a) (hb' : rI b) (hd : rI d) : Mi l y_M_turn (Cond.code y_M_turn c_M_turn 5 (some .int) :: G) (rmN 7) D cls (tyl k) L f [.ref ma, .int (zI a), .int (zI b), .int (zI d)] (fun r f' => ∃ st', RS L own k f' ma ra adr st' ∧ oe own [200] f f' ∧ spTurn st a b d st' r) := by
  have hRS0 := hRS
  obtain ⟨pr, rw, cl, F, R, C, Lo, Pl, To, Bo, Re, Sm, Pc, V, h, hT⟩ := hRS
  have hRC : ∀ i, i < 8 → R i = nI ((fun i => (st i).rows) i) ∧ (fun i => (st i).rows) i ≤ 12 := fun i hi => ⟨(hT i hi).2.1, (hok i hi).2.2.1⟩
  have hCC : ∀ i, i < 8 → C i = nI ((fun i => (st i).cols) i) ∧ (fun i => (st i).cols) i ≤ 12 := fun i hi => ⟨(hT i hi).2.2.1, (hok i hi).2.2.2.1⟩
  have hLr : ∀ i, i < 8 → (Lo i = 0 ↔ (st i).red = true) := fun i hi => by
    rw [(hT i hi).2.2.2.1]
    cases (st i).red <;> simp
  -- METHOD M_turn | loc 0=m 1=a 2=b 3=d | ws m fa rc cc lo pl to bo re tp bt sm pc | fld m.fields=fa m.rowCounts=rc m.columnCounts=cc m.loose=lo m.places=pl m.tops=to m.bottoms=bo m.residues=re m.top=tp m.bottom=bt m.small=sm m.place=pc m.one=n0 m.two=n1 m.three=n2 m.four=n3 m.five=n4 m.six=n5 m.seven=n6 m.eight=n7 m.above=n8 m.under=n9
  refine mk_met (by decide) (Nat.le_of_ble_eq_true rfl) (fun p e s m below meth c ls S hr hlocks hw hl => ?_)
  have hx := S.1
  have hb := S.2.1
  have hown : s.vm.findClass R_M = some m.cls := S.2.2.2.1
  have hG := S.2.2.2.2
  have hl : lv_has ls 5 [(0, .ref ma), (1, .int (zI a)), (2, .int (zI b)), (3, .int (zI d))] := hl
  have hg := hw
  have bad : ∀ (H : Heap) (locs : List Loc) (ls : Array Slot), ¬ (∃ i x y, isAt st a b d i x y ∧ (st i).red = true ∧ (st i).A x y ≠ 0) → gw D cls (tyl k) L s s.heap f H locs → W p l e (rmN 7) s m ([.ref ma, .int (zI a), .int (zI b), .int (zI d)] : List Value).toArray below meth c H locs 0 0 (MQ below (va_Qi (fun r f' => ∃ st', RS L own k f' ma ra adr st' ∧ oe own [200] f f' ∧ spTurn st a b d st' r) (mst D cls (tyl k) L) (fun q => q ∈ L)) ([.ref ma, .int (zI a), .int (zI b), .int (zI d)] : List Value).toArray s 0 0 (fun q => q ∈ L)) (F0 m 18 ls []) := by
    intro H locs ls hno hg
    refine lv_iconst (v := (-1)) hx hb d_M_turn_18 (by decide) ?_
    exact g_reti hx hb hr hlocks hg ⟨st, hRS0, oe.rf, Or.inr ⟨hno, rfl, rfl⟩⟩ d_M_turn_19
  refine lv_aload_n hx hb d_M_turn_0 rfl (lv_at hl 0 rfl) ?_
  refine lv_iload_n hx hb d_M_turn_1 rfl (lv_at hl 1 rfl) ?_
  have hw := hg
  refine g_oi (c_V (np := 1) S (m_M_isReduced l D h ha) hw (h.1.1.1) (h.2.1 _ (List.mem_cons_self)) rfl ml_M_191 im_M_isReduced se_M_M_isReduced in_M co_M_isReduced (by decide +kernel) rfl ⟨rfl, rfl, by decide, by decide⟩ hl.1 rfl (by simp [Value.category]) d_M_turn_2 ⟨Nat.zero_le _, Nat.zero_le _⟩) hw (fun r1 f1 H locs hp hg => ?_)
  obtain ⟨e1, hp⟩ := hp
  rw [e1] at hg
  rcases hp with ⟨er, i0, h1, hi0, hred⟩ | ⟨er, hno⟩
  rotate_left
  · subst er
    refine lv_if_eq (tgt := 18) hx hb d_M_turn_5 (by decide) (fun hc => ?_) (fun hc => ?_)
    · exact bad H locs ls (fun ⟨j, x, y, q, q2, _⟩ => hno ⟨j, q.1, q.2.1, (hLr j q.2.1).mpr q2⟩) hg
    · exact absurd rfl hc
  subst er
  refine lv_if_eq (tgt := 18) hx hb d_M_turn_5 (by decide) (fun hc => ?_) (fun hc => ?_)
  · exact absurd hc (by decide)
  refine lv_aload_n hx hb d_M_turn_8 rfl (lv_at hl 0 rfl) ?_
  refine lv_iload_n hx hb d_M_turn_9 rfl (lv_at hl 1 rfl) ?_
  refine lv_iload_n hx hb d_M_turn_10 rfl (lv_at hl 2 rfl) ?_
  refine lv_iload_n hx hb d_M_turn_11 rfl (lv_at hl 3 rfl) ?_
  have hw := hg
  refine g_oi (c_V (np := 3) S (m_M_isCell l D h hRC hCC ha hb' hd) hw (h.1.1.1) (h.2.1 _ (List.mem_cons_self)) rfl ml_M_181 im_M_isCell se_M_M_isCell in_M co_M_isCell (by decide +kernel) rfl ⟨rfl, rfl, by decide, by decide⟩ hl.1 rfl (by simp [Value.category]) d_M_turn_12 ⟨Nat.zero_le _, Nat.zero_le _⟩) hw (fun r1 f1 H locs hp hg => ?_)
  obtain ⟨e1, hp⟩ := hp
  rw [e1] at hg
  rcases hp with ⟨er, i, x, y, h2, hi, h3, h4, hxr, hyc⟩ | ⟨er, hno⟩
  rotate_left
  · subst er
    refine lv_if_ne (tgt := 20) hx hb d_M_turn_15 (by decide) (fun hc => ?_) (fun hc => ?_)
    · exact absurd rfl hc
    · exact bad H locs ls (fun ⟨j, x, y, q, _⟩ => hno ⟨j, x, y, q⟩) hg
  subst er
  have ei : i0 = i := by omega
  subst ei
  subst h1
  subst h3
  subst h4
  have hxr : x < (st i0).rows := hxr
  have hyc : y < (st i0).cols := hyc
  have hred' := (hLr i0 hi).mp hred
  have hsame : ∀ {j x' y'}, isAt st (i0 : Int) (x : Int) (y : Int) j x' y' → j = i0 ∧ x' = x ∧ y' = y := fun q => ⟨by have := q.1; omega, by have := q.2.2.1; omega, by have := q.2.2.2.1; omega⟩
  obtain ⟨t1, t2, t3, t4, t5, Vt, t6, t7⟩ := hT i0 hi
  have hoki := hok i0 hi
  obtain ⟨hq, h251, hrw, hcl, -⟩ := hok i0 hi
  refine lv_if_ne (tgt := 20) hx hb d_M_turn_15 (by decide) (fun hc => ?_) (fun hc => ?_)
  rotate_left
  · exact absurd hc (by decide)
  refine lv_aload_n hx hb d_M_turn_20 rfl (lv_at hl 0 rfl) ?_
  refine lv_iload_n hx hb d_M_turn_21 rfl (lv_at hl 1 rfl) ?_
  have hw := hg
  refine g_ov (c_V (np := 1) S (m_M_load l D h hi t1 t2 t3 hrw hcl t6) hw (h.1.1.1) (h.2.1 _ (List.mem_cons_self)) rfl ml_M_185 im_M_load se_M_M_load in_M co_M_load (by decide +kernel) rfl ⟨rfl, rfl, by decide, by decide⟩ hl.1 rfl (by simp [Value.category]) d_M_turn_22 ⟨Nat.zero_le _, Nat.zero_le _⟩) hw (fun f1 H locs hp hg => ?_)
  obtain ⟨V1, Sm1, Pc1, h1, ho1, hD1, hP1⟩ := hp
  have hJ1 := ld_JB t7.1 hD1
  obtain ⟨d1, d2⟩ := ld_in hrw hcl hD1
  have hKT1 : KT (st i0).q (st i0).cols (st i0).rows (st i0).A (PP (st i0)) V1 Sm1 := ⟨hJ1, fun h0 i j hi hj => by rw [(d1 i j hi hj).1, (d1 i j hi hj).2.1]; exact t7.2.1 h0 i j hi hj, fun h0 i j hi hj => by rw [(d1 i j hi hj).2.2]; exact t7.2.2 h0 i j hi hj⟩
  refine lv_aload_n hx hb d_M_turn_25 rfl (lv_at hl 0 rfl) ?_
  refine lv_bipush (v := 12) hx hb d_M_turn_26 (by decide) ?_
  refine lv_iload_n hx hb d_M_turn_28 rfl (lv_at hl 2 rfl) ?_
  refine lv_imul hx hb d_M_turn_29 ?_
  refine l_top (show (12 : Int32) * zI (x : Int) = nI (12 * x) from pk_mul 12 x) ?_
  refine lv_iload_n hx hb d_M_turn_30 rfl (lv_at hl 3 rfl) ?_
  refine lv_iadd hx hb d_M_turn_31 ?_
  refine l_top (show nI (12 * x) + zI (y : Int) = nI (12 * x + y) from nI_add (12 * x) y) ?_
  have hw := hg
  refine g_oi (c_V (np := 1) S (m_M_isZero l D h1 (by omega) (j := 12 * x + y) (by omega)) hw (h1.1.1.1) (h1.2.1 _ (List.mem_cons_self)) rfl ml_M_160 im_M_isZero se_M_M_isZero in_M co_M_isZero (by decide +kernel) rfl ⟨rfl, rfl, by decide, by decide⟩ hl.1 rfl (by simp [Value.category]) d_M_turn_32 ⟨Nat.zero_le _, Nat.zero_le _⟩) hw (fun r2 f2 H locs hp2 hg => ?_)
  rw [hp2.1] at hg
  refine l_top hp2.2 ?_
  refine lv_if_eq (tgt := 40) hx hb d_M_turn_35 (by decide) (fun hc => ?_) (fun hc => ?_)
  rotate_left
  · have hz : zr (st i0).q V1 Sm1 (12 * x + y) := Classical.byContradiction fun z => hc (by unfold zr at z; rw [if_neg z])
    have hA0 : (st i0).A x y = 0 := by
      rcases hz with ⟨h0, z⟩ | ⟨h0, z⟩
      · obtain ⟨g1, g2⟩ := hKT1.2.1 h0 x y hxr hyc
        exact (low_z g1 g2 (PP_pos hoki h0 hxr)).mp z
      · have e := hKT1.2.2 h0 x y hxr hyc
        rw [z] at e
        have hres := (hoki.2.2.2.2.2 hred').2.1 x hxr
        unfold tl at hres
        rw [if_neg (by omega)] at hres
        have hres := hres.2 y hyc
        exact ((zI_eq (a := 0) ⟨by decide, by decide⟩ ⟨by omega, by omega⟩).mp e).symm
    refine lv_iconst (v := (-1)) hx hb d_M_turn_38 (by decide) ?_
    refine g_reti hx hb hr hlocks hg ⟨st, ⟨_, _, _, _, _, _, _, _, _, _, _, _, _, _, h1, hT⟩, ho1, Or.inr ⟨fun ⟨j, x', y', q, _, q2⟩ => ?_, rfl, rfl⟩⟩ d_M_turn_39
    obtain ⟨e1, e2, e3⟩ := hsame q
    rw [e1, e2, e3] at q2
    exact q2 hA0
  have hnz : ¬ zr (st i0).q V1 Sm1 (12 * x + y) := fun z => by
    unfold zr at z
    rw [if_pos z] at hc
    exact absurd hc (by decide)
  obtain ⟨hne, hpre, hpost⟩ := turnR hoki hred' hxr hyc hJ1 hKT1 hnz
  have hw : kw D cls (tyl k) L s s.heap f1 ((mc k ra adr ma (nI (st i0).q) (nI (st i0).rows) (nI (st i0).cols) F R C Lo Pl To Bo Re Sm1 Pc1)) H locs := ⟨f1, hg, h1.kn⟩
  refine lv_aload_n hx hb d_M_turn_40 rfl (lv_at hl 0 rfl) ?_
  refine k_get hx hb hG lay_M hown hw 0 rfl rfl 19 (by decide) (hG _ fl_M_89) (fun _ h9 => h9) rfl d_M_turn_41 ?_
  refine lv_iload_n hx hb d_M_turn_44 rfl (lv_at hl 2 rfl) ?_
  refine k_iald hx hb hw 12 0 rfl rfl (x) (rfl) (by omega) (by first | decide | omega) d_M_turn_45 ?_
  refine lv_istore hx hb d_M_turn_46 hl (by decide) rfl (fun ls hl => ?_)
  refine lv_aload_n hx hb d_M_turn_48 rfl (lv_at hl 1 rfl) ?_
  refine lv_iload_n hx hb d_M_turn_49 rfl (lv_at hl 3 rfl) ?_
  refine lv_iload_n hx hb d_M_turn_50 rfl (lv_at hl 4 rfl) ?_
  have hw := hg
  refine g_ov (c_V (np := 2) S (m_M_give l D h1 (r := x) (c0 := y) hxr hrw hcl hyc hpre) hw (h1.1.1.1) (h1.2.1 _ (List.mem_cons_self)) rfl ml_M_169 im_M_give se_M_M_give in_M co_M_give (by decide +kernel) rfl ⟨rfl, rfl, by decide, by decide⟩ hl.1 rfl (by simp [Value.category]) d_M_turn_51 ⟨Nat.zero_le _, Nat.zero_le _⟩) hw (fun f3 H locs hp hg => ?_)
  obtain ⟨V3, Sm3, h3, ho3, hG3⟩ := hp
  obtain ⟨yt, hTR, hKT3⟩ := hpost V3 Sm3 hG3
  refine lv_aload_n hx hb d_M_turn_54 rfl (lv_at hl 1 rfl) ?_
  refine lv_iload_n hx hb d_M_turn_55 rfl (lv_at hl 2 rfl) ?_
  have hw := hg
  refine g_ov (c_V (np := 1) S (m_M_keep l D h3 hi hKT3.1) hw (h3.1.1.1) (h3.2.1 _ (List.mem_cons_self)) rfl ml_M_175 im_M_keep se_M_M_keep in_M co_M_keep (by decide +kernel) rfl ⟨rfl, rfl, by decide, by decide⟩ hl.1 rfl (by simp [Value.category]) d_M_turn_56 ⟨Nat.zero_le _, Nat.zero_le _⟩) hw (fun f4 H locs hp hg => ?_)
  obtain ⟨Pl4, To4, Bo4, Re4, h4, ho4, hP4, hD4⟩ := hp
  refine lv_iload hx hb d_M_turn_59 (lv_at hl 0 rfl) ?_
  refine g_reti hx hb hr hlocks hg ⟨va_up st i0 yt, ⟨_, _, _, _, _, _, _, _, _, _, _, _, _, _, h4, fun s hs => ?_⟩, ho1.trans (ho3.trans ho4), Or.inl ⟨i0, x, y, ⟨rfl, hi, rfl, rfl, hxr, hyc⟩, hred', hne, yt, hTR, rfl, (hP1 x hxr).trans (t5 hred' x hxr)⟩⟩ d_M_turn_61
  by_cases e : s = i0
  · subst e
    rw [va_up_self]
    obtain ⟨y1, y2, y3, y4, y5, -⟩ := hTR
    refine ⟨by rw [y1]; exact pk_us, by rw [y2]; exact pk_us, by rw [y3]; exact pk_us, by rw [t4, y4, hred'], fun _ z hz => ?_, V3, fun c hc => ⟨(hD4.1 c hc).1, (hD4.1 c hc).2.1⟩, ?_⟩
    · rw [y2] at hz
      rw [hP4.1 z (by omega), y5]
      by_cases ez : z = x
      · rw [ez, pk_us, va_up_self]
      · rw [pk_un ez, va_up_ne _ _ ez]; exact (hP1 z hz).trans (t5 hred' z hz)
    · rw [y1, y2, y3]
      exact KT_same hKT3 (fun _ _ _ _ => rfl) (fun _ _ => rfl) (fun z hz => (hD4.1 z hz).2.2) hrw hcl
  · rw [va_up_ne _ _ e]
    exact RTb_off (hT s hs) (hok s hs).2.2.1 e (pk_un e) (pk_un e) (pk_un e) rfl hP4.2 hD4.2.1 hD4.2.2 (hok s hs).2.2.2.1
end MPUB2


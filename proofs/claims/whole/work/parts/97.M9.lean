-- ===== the reference: its tables; load finish =====
def PP (x : Tb) (i : Nat) : Int := if x.red then x.A i (x.pl i) else 1
def RTb (t : Nat) (x : Tb) (F R C Lo Pl To Bo Re : Nat → Int32) : Prop := F t = nI x.q ∧ R t = nI x.rows ∧ C t = nI x.cols ∧ Lo t = (if x.red then 0 else 1) ∧ (x.red = true → ∀ i, i < x.rows → Pl (12 * t + i) = nI (x.pl i)) ∧ ∃ Vt : Nat → Int, (∀ c, c < 144 → sc To (16 * (144 * t + c)) (Vt (10 + c)) ∧ sc Bo (16 * (144 * t + c)) (Vt (154 + c))) ∧ KT x.q x.cols x.rows x.A (PP x) Vt (fun z => Re (144 * t + z))
def RS (L : List Nat) (own : Nat → Nat) (k : Nat → ClassId) (f : Nat → va_E) (ma : Nat) (ra adr : Nat → Nat) (st : Nat → Tb) : Prop := ∃ (pr rw cl : Int32) (F R C Lo Pl To Bo Re Sm Pc : Nat → Int32) (V : Nat → Int), MW L own k f ma ra adr pr rw cl F R C Lo Pl To Bo Re Sm Pc V ∧ ∀ t, t < 8 → RTb t (st t) F R C Lo Pl To Bo Re
theorem RS.keep {L : List Nat} {own : Nat → Nat} {k : Nat → ClassId} {f f' : Nat → va_E} {ma : Nat} {ra adr : Nat → Nat} {st : Nat → Tb} {S : List Nat} (h : RS L own k f ma ra adr st) (ho : oe own S f f') (hs : 200 ∉ S) : RS L own k f' ma ra adr st := by
  obtain ⟨pr, rw, cl, F, R, C, Lo, Pl, To, Bo, Re, Sm, Pc, V, h1, h2⟩ := h
  exact ⟨pr, rw, cl, F, R, C, Lo, Pl, To, Bo, Re, Sm, Pc, V, h1.keep ho hs, h2⟩
theorem KT_same {q n r : Nat} {A A' : Nat → Nat → Int} {P P' : Nat → Int} {V : Nat → Int} {Sm Sm' : Nat → Int32} (h : KT q n r A P V Sm) (eA : ∀ i j, i < r → j < n → A' i j = A i j) (eP : ∀ i, i < r → P' i = P i) (eS : ∀ z, z < 144 → Sm' z = Sm z) (hr : r ≤ 12) (hn : n ≤ 12) : KT q n r A' P' V Sm' := by
  refine ⟨h.1, fun h0 i j hi hj => ?_, fun h0 i j hi hj => ?_⟩
  · rw [eA i j hi hj, eP i hi]; exact h.2.1 h0 i j hi hj
  · rw [eS _ (by omega), eA i j hi hj]; exact h.2.2 h0 i j hi hj
theorem teq_RTb {t : Nat} {x y : Tb} {F R C Lo Pl To Bo Re : Nat → Int32} (h : RTb t x F R C Lo Pl To Bo Re) (e : teq x y) (hr : x.rows ≤ 12) (hn : x.cols ≤ 12) (hpl : x.red = true → ∀ i, i < x.rows → x.pl i < x.cols) : RTb t y F R C Lo Pl To Bo Re := by
  obtain ⟨h1, h2, h3, h4, h5, Vt, h6, h7⟩ := h
  obtain ⟨e1, e2, e3, e4, e5, e6⟩ := e
  refine ⟨by rw [← e1]; exact h1, by rw [← e2]; exact h2, by rw [← e3]; exact h3, by rw [← e4]; exact h4, fun hy i hi => ?_, Vt, h6, ?_⟩
  · rw [← e4] at hy
    rw [← e2] at hi
    rw [← e6 hy i hi]; exact h5 hy i hi
  · rw [← e1, ← e2, ← e3]
    refine KT_same h7 (fun i j hi hj => (e5 i j hi hj).symm) (fun i hi => ?_) (fun _ _ => rfl) hr hn
    unfold PP
    rw [← e4]
    by_cases hy : x.red = true
    · rw [if_pos hy, if_pos hy, ← e6 hy i hi, e5 i _ hi (hpl hy i hi)]
    · rw [if_neg hy, if_neg hy]
theorem RTb_off {s t : Nat} {x : Tb} {F R C Lo Pl To Bo Re F' R' C' Lo' Pl' To' Bo' Re' : Nat → Int32} (h : RTb s x F R C Lo Pl To Bo Re) (hx : x.rows ≤ 12) (hne : s ≠ t) (e1 : F' s = F s) (e2 : R' s = R s) (e3 : C' s = C s) (e4 : Lo' s = Lo s) (e5 : ∀ z, z < 12 * t ∨ 12 * t + 12 ≤ z → Pl' z = Pl z) (e6 : ∀ z, z < 16 * (144 * t) ∨ 16 * (144 * t + 144) ≤ z → To' z = To z ∧ Bo' z = Bo z) (e7 : ∀ z, z < 144 * t ∨ 144 * t + 144 ≤ z → Re' z = Re z) (hn : x.cols ≤ 12) : RTb s x F' R' C' Lo' Pl' To' Bo' Re' := by
  obtain ⟨h1, h2, h3, h4, h5, Vt, h6, h7⟩ := h
  refine ⟨e1.trans h1, e2.trans h2, e3.trans h3, e4.trans h4, fun hy i hi => ?_, Vt, fun c hc => ?_, KT_same h7 (fun _ _ _ _ => rfl) (fun _ _ => rfl) (fun z hz => ?_) hx hn⟩
  · rw [e5 _ (by omega)]; exact h5 hy i hi
  · obtain ⟨a1, a2⟩ := h6 c hc
    exact ⟨sc_same a1 (fun z h1 h2 => (e6 z (by omega)).1), sc_same a2 (fun z h1 h2 => (e6 z (by omega)).2)⟩
  · show Re' (144 * s + z) = Re (144 * s + z)
    exact e7 _ (by omega)
section MLD
variable {p : Program} {l : Launch} {e : Env} {s : State} {m : MethodId} {args : Array Value} {below : List Frame} {meth : Method} {c : Code} {Q : State → Prop} {D : va_G} {k : Nat → ClassId} {L : List Nat} {H0 : Heap}
variable {own : Nat → Nat} {ma : Nat} {ra adr : Nat → Nat} {pr rw cl : Int32} {F R C Lo Pl To Bo Re Sm Pc : Nat → Int32} {V : Nat → Int} {t n kk : Nat} {Vt : Nat → Int}
set_option maxRecDepth 100000 in
set_option maxHeartbeats 4000000 in
theorem w_loadI (S : CallFix p m c c_M_load 4 s args G R_M) (ht : t < 8) (hk12 : kk ≤ 12) (hn : n ≤ 12) (hsc : ∀ x, x < 144 → sc To (16 * (144 * t + x)) (Vt (10 + x)) ∧ sc Bo (16 * (144 * t + x)) (Vt (154 + x))) {i : Nat} (hi : i < kk) {f0 : Nat → va_E}
    (kx : ∀ (f : Nat → va_E) (V : Nat → Int) (Sm : Nat → Int32) (H : Heap) (locs : List Loc) (ls : Array Slot), MW L own k f ma ra adr pr (nI kk) (nI n) F R C Lo Pl To Bo Re Sm Pc V → oe own [200] f0 f → (∀ a u, a < 12 → u < 12 → ((u < n ∧ (a < (i + 1) ∨ (a = (i + 1) ∧ u < 0))) → V (10 + (12 * a + u)) = Vt (10 + (12 * a + u)) ∧ V (154 + (12 * a + u)) = Vt (154 + (12 * a + u)) ∧ Sm (12 * a + u) = Re (144 * t + (12 * a + u))) ∧ (¬ (u < n ∧ (a < (i + 1) ∨ (a = (i + 1) ∧ u < 0))) → V (10 + (12 * a + u)) = 0 ∧ V (154 + (12 * a + u)) = 1)) → lv_has ls 4 [(0, .ref ma), (1, .int (nI t)), (2, .int (nI i))] → gw D cls (tyl k) L s s.heap f H locs → W p l e (rmN 3) s m args below meth c H locs 0 0 Q (F0 m 78 ls [])) :
    ∀ (d j : Nat) (f : Nat → va_E) (V : Nat → Int) (Sm : Nat → Int32) (H : Heap) (locs : List Loc) (ls : Array Slot), j + d = n → MW L own k f ma ra adr pr (nI kk) (nI n) F R C Lo Pl To Bo Re Sm Pc V → oe own [200] f0 f → (∀ a u, a < 12 → u < 12 → ((u < n ∧ (a < i ∨ (a = i ∧ u < j))) → V (10 + (12 * a + u)) = Vt (10 + (12 * a + u)) ∧ V (154 + (12 * a + u)) = Vt (154 + (12 * a + u)) ∧ Sm (12 * a + u) = Re (144 * t + (12 * a + u))) ∧ (¬ (u < n ∧ (a < i ∨ (a = i ∧ u < j))) → V (10 + (12 * a + u)) = 0 ∧ V (154 + (12 * a + u)) = 1)) → lv_has ls 4 [(0, .ref ma), (1, .int (nI t)), (2, .int (nI i)), (3, .int (nI j))] → gw D cls (tyl k) L s s.heap f H locs →
    W p l e (rmN 3) s m args below meth c H locs 0 0 Q (F0 m 51 ls []) := by
  have hx := S.1
  have hb := S.2.1
  have hown : s.vm.findClass R_M = some m.cls := S.2.2.2.1
  have hG := S.2.2.2.2
  intro d
  induction d with
  | zero =>
    intro j f V Sm H locs ls hd h ho hD hl hg
    have hw : kw D cls (tyl k) L s s.heap f ((mc k ra adr ma pr (nI kk) (nI n) F R C Lo Pl To Bo Re Sm Pc)) H locs := ⟨f, hg, h.kn⟩
    -- METHOD M_load | loc 0=m 1=t 2=i 3=j | ws m fa rc cc lo pl to bo re tp bt sm pc | fld m.fields=fa m.rowCounts=rc m.columnCounts=cc m.loose=lo m.places=pl m.tops=to m.bottoms=bo m.residues=re m.top=tp m.bottom=bt m.small=sm m.place=pc m.one=n0 m.two=n1 m.three=n2 m.four=n3 m.five=n4 m.six=n5 m.seven=n6 m.eight=n7 m.above=n8 m.under=n9
    refine lv_iload_n hx hb d_M_load_51 rfl (lv_at hl 3 rfl) ?_
    refine lv_aload_n hx hb d_M_load_52 rfl (lv_at hl 0 rfl) ?_
    refine k_get hx hb hG lay_M hown hw 0 rfl rfl 22 (by decide) (hG _ fl_M_111) (fun _ h9 => h9) rfl d_M_load_53 ?_
    refine lv_icmp_ge (tgt := 78) hx hb d_M_load_56 (by decide) (fun hc => ?_) (fun hc => ?_)
    · refine kx f V Sm H locs ls h ho (fun a u ha hu => ?_) (lv_sub hl [0, 1, 2] rfl) hg
      obtain ⟨d1, d2⟩ := hD a u ha hu
      exact ⟨fun z => d1 (by omega), fun z => d2 (by omega)⟩
    · exact absurd (nI_le (by omega) (by omega)) hc
  | succ d ih =>
    intro j f V Sm H locs ls hd h ho hD hl hg
    have hw : kw D cls (tyl k) L s s.heap f ((mc k ra adr ma pr (nI kk) (nI n) F R C Lo Pl To Bo Re Sm Pc)) H locs := ⟨f, hg, h.kn⟩
    -- METHOD M_load | loc 0=m 1=t 2=i 3=j | ws m fa rc cc lo pl to bo re tp bt sm pc | fld m.fields=fa m.rowCounts=rc m.columnCounts=cc m.loose=lo m.places=pl m.tops=to m.bottoms=bo m.residues=re m.top=tp m.bottom=bt m.small=sm m.place=pc m.one=n0 m.two=n1 m.three=n2 m.four=n3 m.five=n4 m.six=n5 m.seven=n6 m.eight=n7 m.above=n8 m.under=n9
    refine lv_iload_n hx hb d_M_load_51 rfl (lv_at hl 3 rfl) ?_
    refine lv_aload_n hx hb d_M_load_52 rfl (lv_at hl 0 rfl) ?_
    refine k_get hx hb hG lay_M hown hw 0 rfl rfl 22 (by decide) (hG _ fl_M_111) (fun _ h9 => h9) rfl d_M_load_53 ?_
    refine lv_icmp_ge (tgt := 78) hx hb d_M_load_56 (by decide) (fun hc => ?_) (fun hc => ?_)
    · exact absurd hc (nI_ge (by omega) (by omega))
    refine lv_aload_n hx hb d_M_load_59 rfl (lv_at hl 0 rfl) ?_
    refine lv_iload_n hx hb d_M_load_60 rfl (lv_at hl 1 rfl) ?_
    refine lv_iload_n hx hb d_M_load_61 rfl (lv_at hl 2 rfl) ?_
    refine lv_iload_n hx hb d_M_load_62 rfl (lv_at hl 3 rfl) ?_
    refine lv_bipush (v := 12) hx hb d_M_load_63 (by decide) ?_
    refine lv_iload_n hx hb d_M_load_65 rfl (lv_at hl 2 rfl) ?_
    refine lv_imul hx hb d_M_load_66 ?_
    refine l_top (pk_mul 12 i) ?_
    refine lv_iload_n hx hb d_M_load_67 rfl (lv_at hl 3 rfl) ?_
    refine lv_iadd hx hb d_M_load_68 ?_
    refine l_top (nI_add (12 * i) j) ?_
    have hw := hg
    refine g_ov (c_V (np := 4) S (m_M_bring l D h (t := t) (i := i) (j := j) (to := 12 * i + j) ht (by omega) (by omega) (by omega) (hsc (12 * i + j) (by omega)).1 (hsc (12 * i + j) (by omega)).2) hw (h.1.1.1) (h.2.1 _ (List.mem_cons_self)) rfl ml_M_131 im_M_bring se_M_M_bring in_M co_M_bring (by decide +kernel) rfl ⟨rfl, rfl, by decide, by decide⟩ hl.1 rfl (by simp [Value.category]) d_M_load_69 ⟨Nat.zero_le _, Nat.zero_le _⟩) hw (fun f1 H locs hp hg => ?_)
    obtain ⟨h1, ho1⟩ := hp
    refine lv_iinc (k := 3) hx hb d_M_load_72 hl rfl (ii1 j) (by decide) rfl (fun ls hl => ?_)
    refine lv_goto (tgt := 51) hx hb d_M_load_75 (by decide) ?_
    have hl := lv_sub hl [1, 2, 3, 0] rfl
    refine ih (j + 1) f1 _ _ H locs ls (by omega) h1 (ho.trans ho1) (fun a u ha hu => ?_) hl hg
    obtain ⟨d1, d2⟩ := hD a u ha hu
    by_cases e : a = i ∧ u = j
    · obtain ⟨ea, eu⟩ := e
      subst ea
      subst eu
      refine ⟨fun _ => ?_, fun z => absurd ⟨by omega, Or.inr ⟨rfl, by omega⟩⟩ z⟩
      rw [va_up_ne _ _ (by omega), va_up_self, va_up_self, pk_us]
      exact ⟨rfl, rfl, rfl⟩
    · rw [va_up_ne _ _ (by omega), va_up_ne _ _ (by omega), va_up_ne _ _ (by omega), va_up_ne _ _ (by omega), pk_un (by omega)]
      exact ⟨fun z => d1 (by omega), fun z => d2 (by omega)⟩
set_option maxRecDepth 100000 in
set_option maxHeartbeats 4000000 in
theorem w_loadO (S : CallFix p m c c_M_load 4 s args G R_M) (hr : meth.sig.returnType = none) (hlocks : meth.locks = false) (ht : t < 8) (hk12 : kk ≤ 12) (hn : n ≤ 12) (hsc : ∀ x, x < 144 → sc To (16 * (144 * t + x)) (Vt (10 + x)) ∧ sc Bo (16 * (144 * t + x)) (Vt (154 + x))) {f0 : Nat → va_E} :
    ∀ (d i : Nat) (f : Nat → va_E) (V : Nat → Int) (Sm Pc : Nat → Int32) (H : Heap) (locs : List Loc) (ls : Array Slot), i + d = kk → MW L own k f ma ra adr pr (nI kk) (nI n) F R C Lo Pl To Bo Re Sm Pc V → oe own [200] f0 f → (∀ a u, a < 12 → u < 12 → ((u < n ∧ (a < i ∨ (a = i ∧ u < 0))) → V (10 + (12 * a + u)) = Vt (10 + (12 * a + u)) ∧ V (154 + (12 * a + u)) = Vt (154 + (12 * a + u)) ∧ Sm (12 * a + u) = Re (144 * t + (12 * a + u))) ∧ (¬ (u < n ∧ (a < i ∨ (a = i ∧ u < 0))) → V (10 + (12 * a + u)) = 0 ∧ V (154 + (12 * a + u)) = 1)) → (∀ z, z < i → Pc z = Pl (12 * t + z)) → lv_has ls 4 [(0, .ref ma), (1, .int (nI t)), (2, .int (nI i))] → gw D cls (tyl k) L s s.heap f H locs →
    W p l e (rmN 3) s m args below meth c H locs 0 0 (MQ below (va_Qv (fun f' => ∃ V' Sm' Pc', MW L own k f' ma ra adr pr (nI kk) (nI n) F R C Lo Pl To Bo Re Sm' Pc' V' ∧ oe own [200] f0 f' ∧ (∀ a u, a < 12 → u < 12 → ((u < n ∧ (a < kk ∨ (a = kk ∧ u < 0))) → V' (10 + (12 * a + u)) = Vt (10 + (12 * a + u)) ∧ V' (154 + (12 * a + u)) = Vt (154 + (12 * a + u)) ∧ Sm' (12 * a + u) = Re (144 * t + (12 * a + u))) ∧ (¬ (u < n ∧ (a < kk ∨ (a = kk ∧ u < 0))) → V' (10 + (12 * a + u)) = 0 ∧ V' (154 + (12 * a + u)) = 1)) ∧ ∀ i, i < kk → Pc' i = Pl (12 * t + i)) (mst D cls (tyl k) L) (fun q => q ∈ L)) args s 0 0 (fun q => q ∈ L)) (F0 m 24 ls []) := by
  have hx := S.1
  have hb := S.2.1
  have hown : s.vm.findClass R_M = some m.cls := S.2.2.2.1
  have hG := S.2.2.2.2
  intro d
  induction d with
  | zero =>
    intro i f V Sm Pc H locs ls hd h ho hD hP hl hg
    have hd : i = kk := by omega
    subst hd
    have hw : kw D cls (tyl k) L s s.heap f ((mc k ra adr ma pr (nI i) (nI n) F R C Lo Pl To Bo Re Sm Pc)) H locs := ⟨f, hg, h.kn⟩
    -- METHOD M_load | loc 0=m 1=t 2=i | ws m fa rc cc lo pl to bo re tp bt sm pc | fld m.fields=fa m.rowCounts=rc m.columnCounts=cc m.loose=lo m.places=pl m.tops=to m.bottoms=bo m.residues=re m.top=tp m.bottom=bt m.small=sm m.place=pc m.one=n0 m.two=n1 m.three=n2 m.four=n3 m.five=n4 m.six=n5 m.seven=n6 m.eight=n7 m.above=n8 m.under=n9
    refine lv_iload_n hx hb d_M_load_24 rfl (lv_at hl 2 rfl) ?_
    refine lv_aload_n hx hb d_M_load_25 rfl (lv_at hl 0 rfl) ?_
    refine k_get hx hb hG lay_M hown hw 0 rfl rfl 21 (by decide) (hG _ fl_M_108) (fun _ h9 => h9) rfl d_M_load_26 ?_
    refine lv_icmp_ge (tgt := 84) hx hb d_M_load_29 (by decide) (fun hc => ?_) (fun hc => ?_)
    · exact g_retv hx hb hr hlocks hg ⟨V, Sm, Pc, h, ho, hD, hP⟩ d_M_load_84
    · exact absurd (nI_le (by omega) (by omega)) hc
  | succ d ih =>
    intro i f V Sm Pc H locs ls hd h ho hD hP hl hg
    have hw : kw D cls (tyl k) L s s.heap f ((mc k ra adr ma pr (nI kk) (nI n) F R C Lo Pl To Bo Re Sm Pc)) H locs := ⟨f, hg, h.kn⟩
    -- METHOD M_load | loc 0=m 1=t 2=i | ws m fa rc cc lo pl to bo re tp bt sm pc | fld m.fields=fa m.rowCounts=rc m.columnCounts=cc m.loose=lo m.places=pl m.tops=to m.bottoms=bo m.residues=re m.top=tp m.bottom=bt m.small=sm m.place=pc m.one=n0 m.two=n1 m.three=n2 m.four=n3 m.five=n4 m.six=n5 m.seven=n6 m.eight=n7 m.above=n8 m.under=n9
    refine lv_iload_n hx hb d_M_load_24 rfl (lv_at hl 2 rfl) ?_
    refine lv_aload_n hx hb d_M_load_25 rfl (lv_at hl 0 rfl) ?_
    refine k_get hx hb hG lay_M hown hw 0 rfl rfl 21 (by decide) (hG _ fl_M_108) (fun _ h9 => h9) rfl d_M_load_26 ?_
    refine lv_icmp_ge (tgt := 84) hx hb d_M_load_29 (by decide) (fun hc => ?_) (fun hc => ?_)
    · exact absurd hc (nI_ge (by omega) (by omega))
    refine lv_aload_n hx hb d_M_load_32 rfl (lv_at hl 0 rfl) ?_
    refine k_get hx hb hG lay_M hown hw 0 rfl rfl 19 (by decide) (hG _ fl_M_89) (fun _ h9 => h9) rfl d_M_load_33 ?_
    refine lv_iload_n hx hb d_M_load_36 rfl (lv_at hl 2 rfl) ?_
    refine lv_aload_n hx hb d_M_load_37 rfl (lv_at hl 0 rfl) ?_
    refine k_get hx hb hG lay_M hown hw 0 rfl rfl 12 (by decide) (hG _ fl_M_67) (fun _ h9 => h9) rfl d_M_load_38 ?_
    refine lv_bipush (v := 12) hx hb d_M_load_41 (by decide) ?_
    refine lv_iload_n hx hb d_M_load_43 rfl (lv_at hl 1 rfl) ?_
    refine lv_imul hx hb d_M_load_44 ?_
    refine l_top (pk_mul 12 t) ?_
    refine lv_iload_n hx hb d_M_load_45 rfl (lv_at hl 2 rfl) ?_
    refine lv_iadd hx hb d_M_load_46 ?_
    refine l_top (nI_add (12 * t) i) ?_
    refine k_iald hx hb hw 5 0 rfl rfl ((12 * t + i)) (rfl) (by omega) (by first | decide | omega) d_M_load_47 ?_
    refine k_iast hx hb hw 12 0 rfl rfl (i) (rfl) (by omega) (by first | decide | omega) d_M_load_48 (fun H locs hw => ?_)
    obtain ⟨f1, hg, hk1⟩ := hw
    obtain ⟨h1, ho1⟩ := h.back (rw' := nI kk) (cl' := nI n) hk1
    refine lv_iconst (v := 0) hx hb d_M_load_49 (by decide) ?_
    refine lv_istore_n hx hb d_M_load_50 rfl hl (by decide) rfl (fun ls hl => ?_)
    have hl := lv_sub hl [1, 2, 3, 0] rfl
    refine w_loadI S ht hk12 hn hsc (i := i) (by omega) (f0 := f0) (fun f2 V2 Sm2 H locs ls h2 ho2 hD2 hl hg => ?_) n 0 f1 V Sm H locs ls (by omega) h1 (ho.trans ho1) hD hl hg
    refine lv_iinc (k := 2) hx hb d_M_load_78 hl rfl (ii1 i) (by decide) rfl (fun ls hl => ?_)
    refine lv_goto (tgt := 24) hx hb d_M_load_81 (by decide) ?_
    have hl := lv_sub hl [1, 2, 0] rfl
    refine ih (i + 1) f2 V2 Sm2 _ H locs ls (by omega) h2 ho2 hD2 (fun z hz => ?_) hl hg
    by_cases e : z = i
    · rw [e, pk_us]
    · rw [pk_un e]; exact hP z (by omega)
end MLD
section MFI
variable (l : Launch) (D : va_G) {L : List Nat} {k : Nat → ClassId} {f : Nat → va_E} {own : Nat → Nat} {ma : Nat} {ra adr : Nat → Nat} {pr rw cl : Int32} {F R C Lo Pl To Bo Re Sm Pc : Nat → Int32} {V : Nat → Int} {t n kk q : Nat} {Vt : Nat → Int}
set_option maxRecDepth 100000 in
set_option maxHeartbeats 4000000 in
theorem m_M_load (h : MW L own k f ma ra adr pr rw cl F R C Lo Pl To Bo Re Sm Pc V) (ht : t < 8) (hF : F t = nI q) (hR : R t = nI kk) (hC : C t = nI n) (hk12 : kk ≤ 12) (hn : n ≤ 12) (hsc : ∀ x, x < 144 → sc To (16 * (144 * t + x)) (Vt (10 + x)) ∧ sc Bo (16 * (144 * t + x)) (Vt (154 + x))) : Mv l y_M_load (Cond.code y_M_load c_M_load 4 none :: G) (rmN 3) D cls (tyl k) L f [.ref ma, .int (nI t)] (fun f' => ∃ V' Sm' Pc', MW L own k f' ma ra adr (nI q) (nI kk) (nI n) F R C Lo Pl To Bo Re Sm' Pc' V' ∧ oe own [200] f f' ∧ (∀ a u, a < 12 → u < 12 → ((u < n ∧ (a < kk ∨ (a = kk ∧ u < 0))) → V' (10 + (12 * a + u)) = Vt (10 + (12 * a + u)) ∧ V' (154 + (12 * a + u)) = Vt (154 + (12 * a + u)) ∧ Sm' (12 * a + u) = Re (144 * t + (12 * a + u))) ∧ (¬ (u < n ∧ (a < kk ∨ (a = kk ∧ u < 0))) → V' (10 + (12 * a + u)) = 0 ∧ V' (154 + (12 * a + u)) = 1)) ∧ ∀ i, i < kk → Pc' i = Pl (12 * t + i)) := by
  -- METHOD M_load | loc 0=m 1=t | ws m fa rc cc lo pl to bo re tp bt sm pc | fld m.fields=fa m.rowCounts=rc m.columnCounts=cc m.loose=lo m.places=pl m.tops=to m.bottoms=bo m.residues=re m.top=tp m.bottom=bt m.small=sm m.place=pc m.one=n0 m.two=n1 m.three=n2 m.four=n3 m.five=n4 m.six=n5 m.seven=n6 m.eight=n7 m.above=n8 m.under=n9
  refine mk_met (by decide) (Nat.le_of_ble_eq_true rfl) (fun p e s m below meth c ls S hr hlocks hw hl => ?_)
  have hx := S.1
  have hb := S.2.1
  have hown : s.vm.findClass R_M = some m.cls := S.2.2.2.1
  have hG := S.2.2.2.2
  have hl : lv_has ls 4 [(0, .ref ma), (1, .int (nI t))] := hl
  have hg := hw
  have hw : kw D cls (tyl k) L s s.heap f ((mc k ra adr ma pr rw cl F R C Lo Pl To Bo Re Sm Pc)) s.heap [] := ⟨f, hw, h.kn⟩
  refine lv_aload_n hx hb d_M_load_0 rfl (lv_at hl 0 rfl) ?_
  refine lv_aload_n hx hb d_M_load_1 rfl (lv_at hl 0 rfl) ?_
  refine k_get hx hb hG lay_M hown hw 0 rfl rfl 8 (by decide) (hG _ fl_M_53) (fun _ h9 => h9) rfl d_M_load_2 ?_
  refine lv_iload_n hx hb d_M_load_5 rfl (lv_at hl 1 rfl) ?_
  refine k_iald hx hb hw 1 0 rfl rfl (t) (rfl) (by omega) (by first | decide | omega) d_M_load_6 ?_
  refine l_top hF ?_
  refine lv_aload_n hx hb d_M_load_7 rfl (lv_at hl 0 rfl) ?_
  refine k_get hx hb hG lay_M hown hw 0 rfl rfl 9 (by decide) (hG _ fl_M_57) (fun _ h9 => h9) rfl d_M_load_8 ?_
  refine lv_iload_n hx hb d_M_load_11 rfl (lv_at hl 1 rfl) ?_
  refine k_iald hx hb hw 2 0 rfl rfl (t) (rfl) (by omega) (by first | decide | omega) d_M_load_12 ?_
  refine l_top hR ?_
  refine lv_aload_n hx hb d_M_load_13 rfl (lv_at hl 0 rfl) ?_
  refine k_get hx hb hG lay_M hown hw 0 rfl rfl 10 (by decide) (hG _ fl_M_60) (fun _ h9 => h9) rfl d_M_load_14 ?_
  refine lv_iload_n hx hb d_M_load_17 rfl (lv_at hl 1 rfl) ?_
  refine k_iald hx hb hw 3 0 rfl rfl (t) (rfl) (by omega) (by first | decide | omega) d_M_load_18 ?_
  refine l_top hC ?_
  have hw := hg
  refine g_ov (c_V (np := 3) S (m_M_empty l D h (nI q) (nI kk) (nI n)) hw (h.1.1.1) (h.2.1 _ (List.mem_cons_self)) rfl ml_M_127 im_M_empty se_M_M_empty in_M co_M_empty (by decide +kernel) rfl ⟨rfl, rfl, by decide, by decide⟩ hl.1 rfl (by simp [Value.category]) d_M_load_19 ⟨Nat.zero_le _, Nat.zero_le _⟩) hw (fun f1 H locs hp hg => ?_)
  obtain ⟨V1, Sm1, h1, ho1, hE1⟩ := hp
  refine lv_iconst (v := 0) hx hb d_M_load_22 (by decide) ?_
  refine lv_istore_n hx hb d_M_load_23 rfl hl (by decide) rfl (fun ls hl => ?_)
  have hl := lv_sub hl [1, 2, 0] rfl
  refine w_loadO S hr hlocks ht hk12 hn hsc (f0 := f) kk 0 f1 V1 Sm1 Pc H locs ls (by omega) h1 ho1 (fun a u ha hu => ⟨fun z => by omega, fun _ => ?_⟩) (fun z hz => by omega) hl hg
  obtain ⟨a1, a2, -⟩ := hE1 (12 * a + u) (by omega)
  exact ⟨a1, a2⟩
set_option maxRecDepth 100000 in
set_option maxHeartbeats 4000000 in
theorem m_M_finish (h : MW L own k f ma ra adr (nI q) (nI kk) (nI n) F R C Lo Pl To Bo Re Sm Pc V) {st : Nat → Tb} (hst : ∀ s, s < 8 → s ≠ t → RTb s (st s) F R C Lo Pl To Bo Re ∧ (st s).rows ≤ 12 ∧ (st s).cols ≤ 12) (ht : t < 8) (hk12 : kk ≤ 12) (hn : n ≤ 12) {N : Nat} {X : (Nat → Int) → Prop} {A0 : Nat → Nat → Int} (hok : okR q N n X) (hq : q = 0 ∨ prm q) (hq2 : q ≤ 251) {pl : Nat → Nat} (hI : RI q N n kk X A0 0 0 V Sm pl) : Mi l y_M_finish (Cond.code y_M_finish c_M_finish 2 (some .int) :: G) (rmN 8) D cls (tyl k) L f [.ref ma, .int (nI t)] (fun r f' => ∃ y : Tb, LRT q n (sp q n kk A0) y ∧ RS L own k f' ma ra adr (va_up st t y) ∧ oe own [200] f f' ∧ r = nI y.rows) := by
  -- METHOD M_finish | loc 0=m 1=t | ws m fa rc cc lo pl to bo re tp bt sm pc | fld m.fields=fa m.rowCounts=rc m.columnCounts=cc m.loose=lo m.places=pl m.tops=to m.bottoms=bo m.residues=re m.top=tp m.bottom=bt m.small=sm m.place=pc m.one=n0 m.two=n1 m.three=n2 m.four=n3 m.five=n4 m.six=n5 m.seven=n6 m.eight=n7 m.above=n8 m.under=n9
  refine mk_met (by decide) (Nat.le_of_ble_eq_true rfl) (fun p e s m below meth c ls S hr hlocks hw hl => ?_)
  have hx := S.1
  have hb := S.2.1
  have hown : s.vm.findClass R_M = some m.cls := S.2.2.2.1
  have hG := S.2.2.2.2
  have hl : lv_has ls 2 [(0, .ref ma), (1, .int (nI t))] := hl
  have hg := hw
  refine lv_aload_n hx hb d_M_finish_0 rfl (lv_at hl 0 rfl) ?_
  have hw := hg
  refine g_ov (c_V (np := 0) S (m_M_reduceAll l D (Inv := RI q N n kk X A0) (pl := pl) h (by omega) hk12 hn (fun c r V Sm pl h1 h2 h3 => RI_skip c r V Sm pl hok h1 h2 h3) (fun c r V Sm pl i h1 h2 h3 h4 h5 V1 Sm1 h6 => RI_piv hk12 hn hok c r V Sm pl i h1 h2 h3 h4 h5 V1 Sm1 h6) hI) hw (h.1.1.1) (h.2.1 _ (List.mem_cons_self)) rfl ml_M_172 im_M_reduceAll se_M_M_reduceAll in_M co_M_reduceAll (by decide +kernel) rfl ⟨rfl, rfl, by decide, by decide⟩ hl.1 rfl (by simp [Value.category]) d_M_finish_1 ⟨Nat.zero_le _, Nat.zero_le _⟩) hw (fun f1 H locs hp hg => ?_)
  obtain ⟨r1, V1, Sm1, Pc1, pl1, h1, ho1, hr1, hI1, hP1⟩ := hp
  obtain ⟨A, hLR, hKT⟩ := RI_end hok hr1 hI1
  have hw : kw D cls (tyl k) L s s.heap f1 ((mc k ra adr ma (nI q) (nI r1) (nI n) F R C Lo Pl To Bo Re Sm1 Pc1)) H locs := ⟨f1, hg, h1.kn⟩
  refine lv_aload_n hx hb d_M_finish_4 rfl (lv_at hl 0 rfl) ?_
  refine lv_iload_n hx hb d_M_finish_5 rfl (lv_at hl 1 rfl) ?_
  have hw := hg
  refine g_ov (c_V (np := 1) S (m_M_keep l D h1 ht hKT.1) hw (h1.1.1.1) (h1.2.1 _ (List.mem_cons_self)) rfl ml_M_175 im_M_keep se_M_M_keep in_M co_M_keep (by decide +kernel) rfl ⟨rfl, rfl, by decide, by decide⟩ hl.1 rfl (by simp [Value.category]) d_M_finish_6 ⟨Nat.zero_le _, Nat.zero_le _⟩) hw (fun f2 H locs hp hg => ?_)
  obtain ⟨Pl2, To2, Bo2, Re2, h2, ho2, hP2, hD2⟩ := hp
  have hw : kw D cls (tyl k) L s s.heap f2 ((mc k ra adr ma (nI q) (nI r1) (nI n) (upd F t (nI q)) (upd R t (nI r1)) (upd C t (nI n)) Lo Pl2 To2 Bo2 Re2 Sm1 Pc1)) H locs := ⟨f2, hg, h2.kn⟩
  refine lv_aload_n hx hb d_M_finish_9 rfl (lv_at hl 0 rfl) ?_
  refine k_get hx hb hG lay_M hown hw 0 rfl rfl 11 (by decide) (hG _ fl_M_63) (fun _ h9 => h9) rfl d_M_finish_10 ?_
  refine lv_iload_n hx hb d_M_finish_13 rfl (lv_at hl 1 rfl) ?_
  refine lv_iconst (v := 0) hx hb d_M_finish_14 (by decide) ?_
  refine k_zast hx hb hw 4 5 rfl rfl (by rfl) (t) (rfl) (by omega) (by first | decide | omega) d_M_finish_15 (fun H locs hw => ?_)
  refine lv_aload_n hx hb d_M_finish_16 rfl (lv_at hl 0 rfl) ?_
  refine k_get hx hb hG lay_M hown hw 0 rfl rfl 21 (by decide) (hG _ fl_M_108) (fun _ h9 => h9) rfl d_M_finish_17 ?_
  obtain ⟨f3, hg, hk3⟩ := hw
  obtain ⟨h3, ho3⟩ := h2.back (pr' := nI q) (rw' := nI r1) (cl' := nI n) (F' := upd F t (nI q)) (R' := upd R t (nI r1)) (C' := upd C t (nI n)) (Lo' := upd Lo t 0) (Pl' := Pl2) (To' := To2) (Bo' := Bo2) (Re' := Re2) hk3
  have hrn := rd_le hLR.1
  refine g_reti hx hb hr hlocks hg ⟨mkT q r1 n true A pl1, ⟨rfl, rfl, rfl, hLR⟩, ⟨_, _, _, _, _, _, _, _, _, _, _, _, _, _, h3, fun s hs => ?_⟩, ho1.trans (ho2.trans ho3), rfl⟩ d_M_finish_20
  by_cases e : s = t
  · subst e
    rw [va_up_self]
    refine ⟨pk_us, pk_us, pk_us, pk_us, fun _ i hi => ?_, V1, fun c hc => ⟨(hD2.1 c hc).1, (hD2.1 c hc).2.1⟩, ?_⟩
    · have hi : i < r1 := hi
      rw [hP2.1 i (by omega)]; exact hP1 i hi
    · exact KT_same hKT (fun _ _ _ _ => rfl) (fun _ _ => rfl) (fun z hz => (hD2.1 z hz).2.2) (show r1 ≤ 12 by omega) hn
  · rw [va_up_ne _ _ e]
    obtain ⟨g1, g2, g3⟩ := hst s hs e
    exact RTb_off g1 g2 e (pk_un e) (pk_un e) (pk_un e) (pk_un e) hP2.2 hD2.2.1 hD2.2.2 g3
end MFI


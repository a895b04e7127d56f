-- ===== the reference: reduceAll =====
def zr (q : Nat) (V : Nat → Int) (Sm : Nat → Int32) (j : Nat) : Prop := (q = 0 ∧ V (10 + j) = 0) ∨ (q ≠ 0 ∧ Sm j = 0)
def SWr (n i r : Nat) (V : Nat → Int) (Sm : Nat → Int32) (V' : Nat → Int) (Sm' : Nat → Int32) : Prop := ∀ t u, t < 12 → u < 12 → V' (10 + (12 * t + u)) = (if u < n then sw (fun t => V (10 + (12 * t + u))) i r t else V (10 + (12 * t + u))) ∧ V' (154 + (12 * t + u)) = (if u < n then sw (fun t => V (154 + (12 * t + u))) i r t else V (154 + (12 * t + u))) ∧ Sm' (12 * t + u) = (if u < n then sw (fun t => Sm (12 * t + u)) i r t else Sm (12 * t + u))
section MRA
variable {p : Program} {l : Launch} {e : Env} {s : State} {m : MethodId} {args : Array Value} {below : List Frame} {meth : Method} {c : Code} {Q : State → Prop} {D : va_G} {k : Nat → ClassId} {L : List Nat} {H0 : Heap}
variable {own : Nat → Nat} {ma : Nat} {ra adr : Nat → Nat} {pr rw cl : Int32} {F R C Lo Pl To Bo Re Sm Pc : Nat → Int32} {V : Nat → Int} {n kk q : Nat} {Inv : Nat → Nat → (Nat → Int) → (Nat → Int32) → (Nat → Nat) → Prop}
set_option maxRecDepth 100000 in
set_option maxHeartbeats 4000000 in
theorem w_rfind (S : CallFix p m c c_M_reduceAll 4 s args G R_M) {f : Nat → va_E} (h : MW L own k f ma ra adr (nI q) (nI kk) (nI n) F R C Lo Pl To Bo Re Sm Pc V) (hq : q < 2147483648) (hk12 : kk ≤ 12) (hn : n ≤ 12) {r cc : Nat} (hcc : cc < n)
    (kx : ∀ (i : Nat) (H : Heap) (locs : List Loc) (ls : Array Slot), r ≤ i → i ≤ kk → (∀ x, r ≤ x → x < i → zr q V Sm (12 * x + cc)) → (i < kk → ¬ zr q V Sm (12 * i + cc)) → lv_has ls 4 [(0, .ref ma), (1, .int (nI r)), (2, .int (nI cc)), (3, .int (nI i))] → gw D cls (tyl k) L s s.heap f H locs → W p l e (rmN 7) s m args below meth c H locs 0 0 Q (F0 m 41 ls [])) :
    ∀ (d i : Nat) (H : Heap) (locs : List Loc) (ls : Array Slot), i + d = kk → r ≤ i → (∀ x, r ≤ x → x < i → zr q V Sm (12 * x + cc)) → lv_has ls 4 [(0, .ref ma), (1, .int (nI r)), (2, .int (nI cc)), (3, .int (nI i))] → gw D cls (tyl k) L s s.heap f H locs →
    W p l e (rmN 7) s m args below meth c H locs 0 0 Q (F0 m 14 ls []) := by
  have hx := S.1
  have hb := S.2.1
  have hown : s.vm.findClass R_M = some m.cls := S.2.2.2.1
  have hG := S.2.2.2.2
  intro d
  induction d with
  | zero =>
    intro i H locs ls hi hri hz hl hg
    have hw : kw D cls (tyl k) L s s.heap f ((mc k ra adr ma (nI q) (nI kk) (nI n) F R C Lo Pl To Bo Re Sm Pc)) H locs := ⟨f, hg, h.kn⟩
    -- METHOD M_reduceAll | loc 0=m 1=r 2=c 3=i | ws m fa rc cc lo pl to bo re tp bt sm pc | fld m.fields=fa m.rowCounts=rc m.columnCounts=cc m.loose=lo m.places=pl m.tops=to m.bottoms=bo m.residues=re m.top=tp m.bottom=bt m.small=sm m.place=pc m.one=n0 m.two=n1 m.three=n2 m.four=n3 m.five=n4 m.six=n5 m.seven=n6 m.eight=n7 m.above=n8 m.under=n9
    refine lv_iload_n hx hb d_M_reduceAll_14 rfl (lv_at hl 3 rfl) ?_
    refine lv_aload_n hx hb d_M_reduceAll_15 rfl (lv_at hl 0 rfl) ?_
    refine k_get hx hb hG lay_M hown hw 0 rfl rfl 21 (by decide) (hG _ fl_M_108) (fun _ h9 => h9) rfl d_M_reduceAll_16 ?_
    refine lv_icmp_ge (tgt := 41) hx hb d_M_reduceAll_19 (by decide) (fun hc => ?_) (fun hc => ?_)
    · exact kx i H locs ls hri (by omega) hz (fun z => by omega) hl hg
    · exact absurd (nI_le (by omega) (by omega)) hc
  | succ d ih =>
    intro i H locs ls hi hri hz hl hg
    have hw : kw D cls (tyl k) L s s.heap f ((mc k ra adr ma (nI q) (nI kk) (nI n) F R C Lo Pl To Bo Re Sm Pc)) H locs := ⟨f, hg, h.kn⟩
    -- METHOD M_reduceAll | loc 0=m 1=r 2=c 3=i | ws m fa rc cc lo pl to bo re tp bt sm pc | fld m.fields=fa m.rowCounts=rc m.columnCounts=cc m.loose=lo m.places=pl m.tops=to m.bottoms=bo m.residues=re m.top=tp m.bottom=bt m.small=sm m.place=pc m.one=n0 m.two=n1 m.three=n2 m.four=n3 m.five=n4 m.six=n5 m.seven=n6 m.eight=n7 m.above=n8 m.under=n9
    refine lv_iload_n hx hb d_M_reduceAll_14 rfl (lv_at hl 3 rfl) ?_
    refine lv_aload_n hx hb d_M_reduceAll_15 rfl (lv_at hl 0 rfl) ?_
    refine k_get hx hb hG lay_M hown hw 0 rfl rfl 21 (by decide) (hG _ fl_M_108) (fun _ h9 => h9) rfl d_M_reduceAll_16 ?_
    refine lv_icmp_ge (tgt := 41) hx hb d_M_reduceAll_19 (by decide) (fun hc => ?_) (fun hc => ?_)
    · exact absurd hc (nI_ge (by omega) (by omega))
    refine lv_aload_n hx hb d_M_reduceAll_22 rfl (lv_at hl 0 rfl) ?_
    refine lv_bipush (v := 12) hx hb d_M_reduceAll_23 (by decide) ?_
    refine lv_iload_n hx hb d_M_reduceAll_25 rfl (lv_at hl 3 rfl) ?_
    refine lv_imul hx hb d_M_reduceAll_26 ?_
    refine l_top (pk_mul 12 i) ?_
    refine lv_iload_n hx hb d_M_reduceAll_27 rfl (lv_at hl 2 rfl) ?_
    refine lv_iadd hx hb d_M_reduceAll_28 ?_
    refine l_top (nI_add (12 * i) cc) ?_
    have hw := hg
    refine g_oi (c_V (np := 1) S (m_M_isZero l D h hq (j := 12 * i + cc) (by omega)) hw (h.1.1.1) (h.2.1 _ (List.mem_cons_self)) rfl ml_M_160 im_M_isZero se_M_M_isZero in_M co_M_isZero (by decide +kernel) rfl ⟨rfl, rfl, by decide, by decide⟩ hl.1 rfl (by simp [Value.category]) d_M_reduceAll_29 ⟨Nat.zero_le _, Nat.zero_le _⟩) hw (fun r1 f1 H locs hp hg => ?_)
    rw [hp.1] at hg
    refine l_top hp.2 ?_
    refine lv_if_eq (tgt := 41) hx hb d_M_reduceAll_32 (by decide) (fun hc => ?_) (fun hc => ?_)
    · have hnz : ¬ zr q V Sm (12 * i + cc) := fun z => by
        unfold zr at z
        rw [if_pos z] at hc
        exact absurd hc (by decide)
      exact kx i H locs ls hri (by omega) hz (fun _ => hnz) hl hg
    · have hzi : zr q V Sm (12 * i + cc) := Classical.byContradiction fun z => hc (by unfold zr at z; rw [if_neg z])
      refine lv_iinc (k := 3) hx hb d_M_reduceAll_35 hl rfl (ii1 i) (by decide) rfl (fun ls hl => ?_)
      refine lv_goto (tgt := 14) hx hb d_M_reduceAll_38 (by decide) ?_
      have hl := lv_sub hl [1, 2, 3, 0] rfl
      refine ih (i + 1) H locs ls (by omega) (by omega) (fun x h1 h2 => ?_) hl hg
      by_cases e : x = i
      · rw [e]; exact hzi
      · exact hz x h1 (by omega)
set_option maxRecDepth 100000 in
set_option maxHeartbeats 4000000 in
theorem w_rall (S : CallFix p m c c_M_reduceAll 4 s args G R_M) (hr : meth.sig.returnType = none) (hlocks : meth.locks = false) (hq : q < 2147483648) (hk12 : kk ≤ 12) (hn : n ≤ 12) (hskip : ∀ c r V Sm pl, Inv c r V Sm pl → c < n → (∀ x, r ≤ x → x < kk → zr q V Sm (12 * x + c)) → Inv (c + 1) r V Sm pl) (hpiv : ∀ c r V Sm pl i, Inv c r V Sm pl → c < n → r ≤ i → i < kk → ¬ zr q V Sm (12 * i + c) → ∀ V1 Sm1, SWr n i r V Sm V1 Sm1 → GPre q n kk r c V1 Sm1 ∧ ∀ V2 Sm2, GPost q n kk r c V1 Sm1 V2 Sm2 → Inv (c + 1) (r + 1) V2 Sm2 (va_up pl r c)) {f0 : Nat → va_E} :
    ∀ (d cc r : Nat) (f : Nat → va_E) (V : Nat → Int) (Sm Pc : Nat → Int32) (pl : Nat → Nat) (H : Heap) (locs : List Loc) (ls : Array Slot), cc + d = n → r ≤ kk → MW L own k f ma ra adr (nI q) (nI kk) (nI n) F R C Lo Pl To Bo Re Sm Pc V → oe own [200] f0 f → Inv cc r V Sm pl → (∀ t, t < r → Pc t = nI (pl t)) → lv_has ls 4 [(0, .ref ma), (1, .int (nI r)), (2, .int (nI cc))] → gw D cls (tyl k) L s s.heap f H locs →
    W p l e (rmN 7) s m args below meth c H locs 0 0 (MQ below (va_Qv (fun f' => ∃ (r' : Nat) (V' : Nat → Int) (Sm' Pc' : Nat → Int32) (pl' : Nat → Nat), MW L own k f' ma ra adr (nI q) (nI r') (nI n) F R C Lo Pl To Bo Re Sm' Pc' V' ∧ oe own [200] f0 f' ∧ r' ≤ kk ∧ Inv n r' V' Sm' pl' ∧ ∀ t, t < r' → Pc' t = nI (pl' t)) (mst D cls (tyl k) L) (fun q => q ∈ L)) args s 0 0 (fun q => q ∈ L)) (F0 m 4 ls []) := by
  have hx := S.1
  have hb := S.2.1
  have hown : s.vm.findClass R_M = some m.cls := S.2.2.2.1
  have hG := S.2.2.2.2
  intro d
  induction d with
  | zero =>
    intro cc r f V Sm Pc pl H locs ls hd hrk h ho hI hP hl hg
    have hd : cc = n := by omega
    subst hd
    have hw : kw D cls (tyl k) L s s.heap f ((mc k ra adr ma (nI q) (nI kk) (nI cc) F R C Lo Pl To Bo Re Sm Pc)) H locs := ⟨f, hg, h.kn⟩
    -- METHOD M_reduceAll | loc 0=m 1=r 2=c | ws m fa rc cc lo pl to bo re tp bt sm pc | fld m.fields=fa m.rowCounts=rc m.columnCounts=cc m.loose=lo m.places=pl m.tops=to m.bottoms=bo m.residues=re m.top=tp m.bottom=bt m.small=sm m.place=pc m.one=n0 m.two=n1 m.three=n2 m.four=n3 m.five=n4 m.six=n5 m.seven=n6 m.eight=n7 m.above=n8 m.under=n9
    refine lv_iload_n hx hb d_M_reduceAll_4 rfl (lv_at hl 2 rfl) ?_
    refine lv_aload_n hx hb d_M_reduceAll_5 rfl (lv_at hl 0 rfl) ?_
    refine k_get hx hb hG lay_M hown hw 0 rfl rfl 22 (by decide) (hG _ fl_M_111) (fun _ h9 => h9) rfl d_M_reduceAll_6 ?_
    refine lv_icmp_ge (tgt := 70) hx hb d_M_reduceAll_9 (by decide) (fun hc => ?_) (fun hc => ?_)
    rotate_left
    · exact absurd (nI_le (by omega) (by omega)) hc
    refine lv_aload_n hx hb d_M_reduceAll_70 rfl (lv_at hl 0 rfl) ?_
    refine lv_iload_n hx hb d_M_reduceAll_71 rfl (lv_at hl 1 rfl) ?_
    refine k_put (ty := .int) hx hb hG lay_M ft_M ft_M_ok fn_M hown hw 0 rfl rfl 21 (by decide) (hG _ fl_M_108) (fun _ h9 => h9) rfl (by decide +kernel) rfl rfl (by simp) d_M_reduceAll_72 (fun H locs hw => ?_)
    obtain ⟨f1, hg, hk1⟩ := hw
    obtain ⟨h1, ho1⟩ := h.back (pr' := nI q) (rw' := nI r) (cl' := nI cc) hk1
    exact g_retv hx hb hr hlocks hg ⟨r, V, Sm, Pc, pl, h1, ho.trans ho1, hrk, hI, hP⟩ d_M_reduceAll_75
  | succ d ih =>
    intro cc r f V Sm Pc pl H locs ls hd hrk h ho hI hP hl hg
    have hw : kw D cls (tyl k) L s s.heap f ((mc k ra adr ma (nI q) (nI kk) (nI n) F R C Lo Pl To Bo Re Sm Pc)) H locs := ⟨f, hg, h.kn⟩
    -- METHOD M_reduceAll | loc 0=m 1=r 2=c | ws m fa rc cc lo pl to bo re tp bt sm pc | fld m.fields=fa m.rowCounts=rc m.columnCounts=cc m.loose=lo m.places=pl m.tops=to m.bottoms=bo m.residues=re m.top=tp m.bottom=bt m.small=sm m.place=pc m.one=n0 m.two=n1 m.three=n2 m.four=n3 m.five=n4 m.six=n5 m.seven=n6 m.eight=n7 m.above=n8 m.under=n9
    refine lv_iload_n hx hb d_M_reduceAll_4 rfl (lv_at hl 2 rfl) ?_
    refine lv_aload_n hx hb d_M_reduceAll_5 rfl (lv_at hl 0 rfl) ?_
    refine k_get hx hb hG lay_M hown hw 0 rfl rfl 22 (by decide) (hG _ fl_M_111) (fun _ h9 => h9) rfl d_M_reduceAll_6 ?_
    refine lv_icmp_ge (tgt := 70) hx hb d_M_reduceAll_9 (by decide) (fun hc => ?_) (fun hc => ?_)
    · exact absurd hc (nI_ge (by omega) (by omega))
    refine lv_iload_n hx hb d_M_reduceAll_12 rfl (lv_at hl 1 rfl) ?_
    refine lv_istore_n hx hb d_M_reduceAll_13 rfl hl (by decide) rfl (fun ls hl => ?_)
    have hl := lv_sub hl [1, 2, 3, 0] rfl
    refine w_rfind S h hq hk12 hn (r := r) (cc := cc) (by omega) (fun i H locs ls h1 h2 hz hnz hl hg => ?_) (kk - r) r H locs ls (by omega) (Nat.le_refl _) (fun x h1 h2 => by omega) hl hg
    have hw : kw D cls (tyl k) L s s.heap f ((mc k ra adr ma (nI q) (nI kk) (nI n) F R C Lo Pl To Bo Re Sm Pc)) H locs := ⟨f, hg, h.kn⟩
    refine lv_iload_n hx hb d_M_reduceAll_41 rfl (lv_at hl 3 rfl) ?_
    refine lv_aload_n hx hb d_M_reduceAll_42 rfl (lv_at hl 0 rfl) ?_
    refine k_get hx hb hG lay_M hown hw 0 rfl rfl 21 (by decide) (hG _ fl_M_108) (fun _ h9 => h9) rfl d_M_reduceAll_43 ?_
    refine lv_icmp_ge (tgt := 64) hx hb d_M_reduceAll_46 (by decide) (fun hc => ?_) (fun hc => ?_)
    · have hge : kk ≤ i := (nI_leI (by omega) (by omega)).mp hc
      refine lv_iinc (k := 2) hx hb d_M_reduceAll_64 hl rfl (ii1 cc) (by decide) rfl (fun ls hl => ?_)
      refine lv_goto (tgt := 4) hx hb d_M_reduceAll_67 (by decide) ?_
      have hl := lv_sub hl [1, 2, 0] rfl
      exact ih (cc + 1) r f V Sm Pc pl H locs ls (by omega) hrk h ho (hskip cc r V Sm pl hI (by omega) (fun x h3 h4 => hz x h3 (by omega))) hP hl hg
    have hik : i < kk := by
      have : ¬ kk ≤ i := fun z => hc ((nI_leI (by omega) (by omega)).mpr z)
      omega
    refine lv_aload_n hx hb d_M_reduceAll_49 rfl (lv_at hl 0 rfl) ?_
    refine lv_iload_n hx hb d_M_reduceAll_50 rfl (lv_at hl 3 rfl) ?_
    refine lv_iload_n hx hb d_M_reduceAll_51 rfl (lv_at hl 1 rfl) ?_
    have hw := hg
    refine g_ov (c_V (np := 2) S (m_M_swap l D h (i := i) (r := r) (by omega) (by omega) hn) hw (h.1.1.1) (h.2.1 _ (List.mem_cons_self)) rfl ml_M_166 im_M_swap se_M_M_swap in_M co_M_swap (by decide +kernel) rfl ⟨rfl, rfl, by decide, by decide⟩ hl.1 rfl (by simp [Value.category]) d_M_reduceAll_52 ⟨Nat.zero_le _, Nat.zero_le _⟩) hw (fun f1 H locs hp hg => ?_)
    obtain ⟨V1, Sm1, h1', ho1, hS1⟩ := hp
    obtain ⟨hpre, hpost⟩ := hpiv cc r V Sm pl i hI (by omega) h1 hik (hnz hik) V1 Sm1 hS1
    have hw : kw D cls (tyl k) L s s.heap f1 ((mc k ra adr ma (nI q) (nI kk) (nI n) F R C Lo Pl To Bo Re Sm1 Pc)) H locs := ⟨f1, hg, h1'.kn⟩
    refine lv_aload_n hx hb d_M_reduceAll_55 rfl (lv_at hl 0 rfl) ?_
    refine lv_iload_n hx hb d_M_reduceAll_56 rfl (lv_at hl 1 rfl) ?_
    refine lv_iload_n hx hb d_M_reduceAll_57 rfl (lv_at hl 2 rfl) ?_
    have hw := hg
    refine g_ov (c_V (np := 2) S (m_M_give l D h1' (r := r) (c0 := cc) (by omega) hk12 hn (by omega) hpre) hw (h1'.1.1.1) (h1'.2.1 _ (List.mem_cons_self)) rfl ml_M_169 im_M_give se_M_M_give in_M co_M_give (by decide +kernel) rfl ⟨rfl, rfl, by decide, by decide⟩ hl.1 rfl (by simp [Value.category]) d_M_reduceAll_58 ⟨Nat.zero_le _, Nat.zero_le _⟩) hw (fun f2 H locs hp hg => ?_)
    obtain ⟨V2, Sm2, h2', ho2, hG2⟩ := hp
    refine lv_iinc (k := 1) hx hb d_M_reduceAll_61 hl rfl (ii1 r) (by decide) rfl (fun ls hl => ?_)
    refine lv_iinc (k := 2) hx hb d_M_reduceAll_64 hl rfl (ii1 cc) (by decide) rfl (fun ls hl => ?_)
    refine lv_goto (tgt := 4) hx hb d_M_reduceAll_67 (by decide) ?_
    have hl := lv_sub hl [2, 1, 0] rfl
    refine ih (cc + 1) (r + 1) f2 V2 Sm2 _ (va_up pl r cc) H locs ls (by omega) (by omega) h2' (ho.trans (ho1.trans ho2)) (hpost V2 Sm2 hG2) (fun t ht => ?_) hl hg
    by_cases e : t = r
    · rw [e, va_up_self, pk_us]
    · rw [va_up_ne _ _ e, pk_un e]; exact hP t (by omega)
end MRA
section MRB
variable (l : Launch) (D : va_G) {L : List Nat} {k : Nat → ClassId} {f : Nat → va_E} {own : Nat → Nat} {ma : Nat} {ra adr : Nat → Nat} {pr rw cl : Int32} {F R C Lo Pl To Bo Re Sm Pc : Nat → Int32} {V : Nat → Int} {n kk q : Nat} {Inv : Nat → Nat → (Nat → Int) → (Nat → Int32) → (Nat → Nat) → Prop} {pl : Nat → Nat}
set_option maxRecDepth 100000 in
set_option maxHeartbeats 4000000 in
theorem m_M_reduceAll (h : MW L own k f ma ra adr (nI q) (nI kk) (nI n) F R C Lo Pl To Bo Re Sm Pc V) (hq : q < 2147483648) (hk12 : kk ≤ 12) (hn : n ≤ 12) (hskip : ∀ c r V Sm pl, Inv c r V Sm pl → c < n → (∀ x, r ≤ x → x < kk → zr q V Sm (12 * x + c)) → Inv (c + 1) r V Sm pl) (hpiv : ∀ c r V Sm pl i, Inv c r V Sm pl → c < n → r ≤ i → i < kk → ¬ zr q V Sm (12 * i + c) → ∀ V1 Sm1, SWr n i r V Sm V1 Sm1 → GPre q n kk r c V1 Sm1 ∧ ∀ V2 Sm2, GPost q n kk r c V1 Sm1 V2 Sm2 → Inv (c + 1) (r + 1) V2 Sm2 (va_up pl r c)) (hI : Inv 0 0 V Sm pl) : Mv l y_M_reduceAll (Cond.code y_M_reduceAll c_M_reduceAll 4 none :: G) (rmN 7) D cls (tyl k) L f [.ref ma] (fun f' => ∃ (r' : Nat) (V' : Nat → Int) (Sm' Pc' : Nat → Int32) (pl' : Nat → Nat), MW L own k f' ma ra adr (nI q) (nI r') (nI n) F R C Lo Pl To Bo Re Sm' Pc' V' ∧ oe own [200] f f' ∧ r' ≤ kk ∧ Inv n r' V' Sm' pl' ∧ ∀ t, t < r' → Pc' t = nI (pl' t)) := by
  -- METHOD M_reduceAll | loc 0=m | ws m fa rc cc lo pl to bo re tp bt sm pc | fld m.fields=fa m.rowCounts=rc m.columnCounts=cc m.loose=lo m.places=pl m.tops=to m.bottoms=bo m.residues=re m.top=tp m.bottom=bt m.small=sm m.place=pc m.one=n0 m.two=n1 m.three=n2 m.four=n3 m.five=n4 m.six=n5 m.seven=n6 m.eight=n7 m.above=n8 m.under=n9
  refine mk_met (by decide) (Nat.le_of_ble_eq_true rfl) (fun p e s m below meth c ls S hr hlocks hw hl => ?_)
  have hx := S.1
  have hb := S.2.1
  have hown : s.vm.findClass R_M = some m.cls := S.2.2.2.1
  have hG := S.2.2.2.2
  have hl : lv_has ls 4 [(0, .ref ma)] := hl
  have hg := hw
  refine lv_iconst (v := 0) hx hb d_M_reduceAll_0 (by decide) ?_
  refine lv_istore_n hx hb d_M_reduceAll_1 rfl hl (by decide) rfl (fun ls hl => ?_)
  refine lv_iconst (v := 0) hx hb d_M_reduceAll_2 (by decide) ?_
  refine lv_istore_n hx hb d_M_reduceAll_3 rfl hl (by decide) rfl (fun ls hl => ?_)
  have hl := lv_sub hl [2, 1, 0] rfl
  exact w_rall S hr hlocks hq hk12 hn hskip hpiv n 0 0 f V Sm Pc pl _ _ ls (by omega) (by omega) h oe.rf hI (fun t ht => by omega) hl hg
end MRB
-- what the reference's numbers stand for while it reduces
def JB (V : Nat → Int) : Prop := ∀ x, x < 144 → (V (10 + x)).natAbs < D16 ^ 15 ∧ (V (154 + x)).natAbs < D16 ^ 15
def bsT : Nat → Prop := fun _ => True
def okR (q N n : Nat) (X : (Nat → Int) → Prop) : Prop := (q = 0 → lin N X ∧ n ≤ N ∧ smC N n X ∧ smb (2 ^ 336) N X) ∧ (q ≠ 0 → prm q ∧ q ≤ 251)
def RI (q N n kk : Nat) (X : (Nat → Int) → Prop) (A0 : Nat → Nat → Int) (c r : Nat) (V : Nat → Int) (Sm : Nat → Int32) (pl : Nat → Nat) : Prop := (q = 0 ∧ (∃ A, invT N n kk X bsT A0 c r A pl (av V) (bv V)) ∧ ∀ t u, t < 12 → u < 12 → (kk ≤ t ∨ n ≤ u) → (av V t u).natAbs < D16 ^ 15 ∧ (bv V t u).natAbs < D16 ^ 15) ∨ (q ≠ 0 ∧ JB V ∧ ∃ A, invP q n kk bsT A0 c r A pl ∧ ∀ t j, t < kk → j < n → Sm (12 * t + j) = zI (A t j))
theorem fgiv_congr {n k r c : Nat} {a b a1 b1 a' b' : Nat → Nat → Int} (hr : r < k) (hc : c < n) (ha : ∀ i j, i < k → j < n → a1 i j = a i j) (hb : ∀ i j, i < k → j < n → b1 i j = b i j) (h : fgiv n k r c a1 b1 a' b') : fgiv n k r c a b a' b' := by
  refine ⟨fun j hj => ?_, fun i hi hir => ⟨fun hz j hj => ?_, fun hz j hj => ?_⟩⟩
  · have := h.1 j hj
    rw [ha r j hr hj, hb r j hr hj, ha r c hr hc, hb r c hr hc] at this
    exact this
  · have := (h.2 i hi hir).1 (by rw [ha i c hi hc]; exact hz) j hj
    rw [ha i j hi hj, hb i j hi hj] at this
    exact this
  · have := (h.2 i hi hir).2 (by rw [ha i c hi hc]; exact hz) j hj
    rw [ha i j hi hj, hb i j hi hj, ha i c hi hc, hb i c hi hc] at this
    exact this
theorem sw_cm {α : Type} (g : Nat → α) (a b t : Nat) : sw g a b t = sw g b a t := by
  by_cases e1 : t = a
  · rw [e1, sw_left, sw_right]
  · by_cases e2 : t = b
    · rw [e2, sw_right, sw_left]
    · rw [sw_other _ e1 e2, sw_other _ e2 e1]
/-- a row's fractions over another of its columns are no larger than the ghost's numbers -/
theorem fr_rowbd {N n k B : Nat} {X : (Nat → Int) → Prop} (hl : lin N X) {T : Nat → Nat → Int} {ph : Nat → Nat} {a b : Nat → Nat → Int} (hn : n ≤ N) (hg : gh N k X T ph) (hs : smb B N X) (h : fr n k T ph a b) {r c : Nat} (hr : r < k) (hc : c < n) (hne : T r c ≠ 0) {j : Nat} (hj : j < n) {a' b' : Int} (hlow : low a' b') (he : a' * (b r j * a r c) = b' * (a r j * b r c)) : a'.natAbs ≤ B ∧ b'.natAbs ≤ B := by
  have hg' := gh_turn hl hg hr (show c < N by omega) hne
  obtain ⟨e, he1, hF1, hpos, -⟩ := gh_turnF hg hr (by omega) hne
  obtain ⟨l1, e1⟩ := h r j hr hj
  obtain ⟨l2, e2⟩ := h r c hr hc
  have hb1 := l1.1
  have hb2 := l2.1
  have key : a' * T r c = b' * T r j := by
    refine cancel3 (x := b r j * b r c) (fun q => ?_) ?_
    · rcases Int.mul_eq_zero.mp q with q | q <;> omega
    · generalize T r (ph r) = P at e1 e2
      calc b r j * b r c * (a' * T r c) = a' * (b r j * (b r c * T r c)) := by grind
        _ = a' * (b r j * (a r c * P)) := by rw [← e2]
        _ = (a' * (b r j * a r c)) * P := by grind
        _ = (b' * (a r j * b r c)) * P := by rw [he]
        _ = b' * b r c * (a r j * P) := by grind
        _ = b' * b r c * (b r j * T r j) := by rw [e1]
        _ = _ := by grind
  have key2 : a' * pvq T N r c k r c = b' * pvq T N r c k r j := by
    rw [hF1, hF1]
    have : a' * (e * T r c) = e * (a' * T r c) := by grind
    rw [this, key]; grind
  exact low_bd hlow key2 hpos (gh_bd hg' hs hr c (by omega)) (gh_bd hg' hs hr j (by omega))
theorem p336 : 2 ^ 336 < D16 ^ 25 := by decide +kernel
theorem RI_skip {q N n kk : Nat} {X : (Nat → Int) → Prop} {A0 : Nat → Nat → Int} (c r : Nat) (V : Nat → Int) (Sm : Nat → Int32) (pl : Nat → Nat) (hok : okR q N n X) (h : RI q N n kk X A0 c r V Sm pl) (hc : c < n) (hz : ∀ x, r ≤ x → x < kk → zr q V Sm (12 * x + c)) : RI q N n kk X A0 (c + 1) r V Sm pl := by
  rcases h with ⟨h0, ⟨A, hA⟩, hj⟩ | ⟨h0, hj, A, hA, hS⟩
  · refine Or.inl ⟨h0, ⟨A, invT_skip hA hc (fun x h1 h2 => ?_)⟩, hj⟩
    rcases hz x h1 h2 with z | z
    · exact z.2
    · exact absurd h0 z.1
  · refine Or.inr ⟨h0, hj, A, invP_skip hA (Or.inr (fun x h1 h2 => ?_)), hS⟩
    rcases hz x h1 h2 with z | z
    · exact absurd z.1 h0
    · have h3 := z.2
      rw [hS x c h2 hc] at h3
      have hres := hA.2.2.1 x c h2 hc
      have hq := (hok.2 h0).2
      exact (zI_eq (b := 0) ⟨by have := hres.1; omega, by have := hres.2; omega⟩ ⟨by decide, by decide⟩).mp h3
theorem RI_piv {q N n kk : Nat} {X : (Nat → Int) → Prop} {A0 : Nat → Nat → Int} (hk12 : kk ≤ 12) (hn : n ≤ 12) (hok : okR q N n X) (c r : Nat) (V : Nat → Int) (Sm : Nat → Int32) (pl : Nat → Nat) (i : Nat) (h : RI q N n kk X A0 c r V Sm pl) (hc : c < n) (hri : r ≤ i) (hik : i < kk) (hnz : ¬ zr q V Sm (12 * i + c)) (V1 : Nat → Int) (Sm1 : Nat → Int32) (hS : SWr n i r V Sm V1 Sm1) : GPre q n kk r c V1 Sm1 ∧ ∀ V2 Sm2, GPost q n kk r c V1 Sm1 V2 Sm2 → RI q N n kk X A0 (c + 1) (r + 1) V2 Sm2 (va_up pl r c) := by
  rcases h with ⟨h0, ⟨A, hA⟩, hj⟩ | ⟨h0, hj, A, hA, hSm⟩
  · obtain ⟨hl, hnN, hsm, hs⟩ := hok.1 h0
    have hne : av V i c ≠ 0 := fun z => hnz (Or.inl ⟨h0, z⟩)
    have ea : ∀ t u, t < kk → u < n → av V1 t u = sw (av V) r i t u := fun t u ht hu => by
      have := (hS t u (by omega) (by omega)).1
      rw [if_pos hu] at this
      show V1 (10 + (12 * t + u)) = _
      rw [this, sw_cm]
      by_cases e1 : t = r
      · rw [e1, sw_left, sw_left]
      · by_cases e2 : t = i
        · rw [e2, sw_right, sw_right]
        · rw [sw_other _ e1 e2, sw_other _ e1 e2]
    have eb : ∀ t u, t < kk → u < n → bv V1 t u = sw (bv V) r i t u := fun t u ht hu => by
      have := (hS t u (by omega) (by omega)).2.1
      rw [if_pos hu] at this
      show V1 (154 + (12 * t + u)) = _
      rw [this, sw_cm]
      by_cases e1 : t = r
      · rw [e1, sw_left, sw_left]
      · by_cases e2 : t = i
        · rw [e2, sw_right, sw_right]
        · rw [sw_other _ e1 e2, sw_other _ e1 e2]
    obtain ⟨T, ph, hg, hf⟩ := invT_swap hA hri hik
    have hf1 : fr n kk T ph (av V1) (bv V1) := fun t u ht hu => by rw [ea t u ht hu, eb t u ht hu]; exact hf t u ht hu
    have hrc : av V1 r c ≠ 0 := by rw [ea r c (by omega) hc, sw_left]; exact hne
    have hTrc : T r c ≠ 0 := fun z => hrc ((low_z (hf1 r c (by omega) hc).1 (hf1 r c (by omega) hc).2 (hg.2.1 r (by omega)).2).mpr z)
    refine ⟨⟨fun _ => ⟨hrc, fun t j ht hj => ?_, fun j hj a' b' hlow he => ?_⟩, fun z => absurd h0 z⟩, fun V2 Sm2 hG => ?_⟩
    · obtain ⟨b1, b2⟩ := fr_bd hnN hg hs hf1 ht hj
      have := p336
      exact ⟨Nat.lt_of_le_of_lt b1 this, Nat.lt_of_le_of_lt b2 this, by have := (hf1 t j ht hj).1.1; show bv V1 t j ≠ 0; omega⟩
    · obtain ⟨b1, b2⟩ := fr_rowbd hl hnN hg hs hf1 (show r < kk by omega) hc hTrc hj hlow he
      exact ⟨Nat.lt_of_le_of_lt b1 p336, Nat.lt_of_le_of_lt b2 p336⟩
    · obtain ⟨g1, g2⟩ := hG.1 h0
      refine Or.inl ⟨h0, ?_, fun t u ht hu hout => ?_⟩
      · exact invT_piv hl hnN hsm hA hc trivial hri hik hne (fgiv_congr (by omega) hc ea eb g1)
      · have s1 := hS t u ht hu
        have e1 : av V2 t u = av V1 t u := g2 _ (by omega) (fun t' j h1 h2 => ⟨by omega, by omega⟩)
        have e2 : bv V2 t u = bv V1 t u := g2 _ (by omega) (fun t' j h1 h2 => ⟨by omega, by omega⟩)
        have e3 : av V1 t u = av V t u := by
          show V1 (10 + (12 * t + u)) = V (10 + (12 * t + u))
          rw [s1.1]
          by_cases hu2 : u < n
          · rw [if_pos hu2, sw_other _ (by omega) (by omega)]
          · rw [if_neg hu2]
        have e4 : bv V1 t u = bv V t u := by
          show V1 (154 + (12 * t + u)) = V (154 + (12 * t + u))
          rw [s1.2.1]
          by_cases hu2 : u < n
          · rw [if_pos hu2, sw_other _ (by omega) (by omega)]
          · rw [if_neg hu2]
        rw [e1, e2, e3, e4]; exact hj t u ht hu hout
  · obtain ⟨hp, h251⟩ := hok.2 h0
    have hne : A i c ≠ 0 := fun z => hnz (Or.inr ⟨h0, by rw [hSm i c hik hc, z]; rfl⟩)
    obtain ⟨g1, g2, g3⟩ := invP_piv hp hA hc trivial hri hik hne
    have eS : ∀ t u, t < kk → u < n → Sm1 (12 * t + u) = zI (sw A r i t u) := fun t u ht hu => by
      have := (hS t u (by omega) (by omega)).2.2
      rw [if_pos hu] at this
      rw [this, sw_cm]
      by_cases e1 : t = r
      · rw [e1, sw_left, sw_left]; exact hSm i u hik hu
      · by_cases e2 : t = i
        · rw [e2, sw_right, sw_right]; exact hSm r u (by omega) hu
        · rw [sw_other _ e1 e2, sw_other _ e1 e2]; exact hSm t u ht hu
    refine ⟨⟨fun z => absurd z h0, fun _ => ⟨h251, sw A r i, fun t j ht hj => ⟨eS t j ht hj, g1 t j ht hj⟩, g2⟩⟩, fun V2 Sm2 hG => ?_⟩
    obtain ⟨k1, k2⟩ := hG.2 h0
    obtain ⟨x, x1, x2, x3, x4⟩ := k2 (sw A r i) (fun t j ht hj => ⟨eS t j ht hj, g1 t j ht hj⟩)
    refine Or.inr ⟨h0, fun y hy => ?_, _, g3 x x1 x2 x3, x4⟩
    rw [k1 _ (by omega), k1 _ (by omega)]
    have e : y = 12 * (y / 12) + y % 12 := by omega
    have s1 := hS (y / 12) (y % 12) (by omega) (by omega)
    rw [← e] at s1
    rw [s1.1, s1.2.1]
    by_cases hu2 : y % 12 < n
    · rw [if_pos hu2, if_pos hu2]
      by_cases e2 : y / 12 = r
      · rw [e2, sw_right, sw_right]; exact hj _ (by omega)
      · by_cases e1 : y / 12 = i
        · rw [e1, sw_left, sw_left]; exact hj _ (by omega)
        · rw [sw_other _ e1 e2, sw_other _ e1 e2]; exact hj _ (by omega)
    · rw [if_neg hu2, if_neg hu2]; exact hj y hy
/-- what the reference keeps of a table -/
def KT (q n r : Nat) (A : Nat → Nat → Int) (P : Nat → Int) (V : Nat → Int) (Sm : Nat → Int32) : Prop := JB V ∧ (q = 0 → ∀ i j, i < r → j < n → low (av V i j) (bv V i j) ∧ av V i j * P i = bv V i j * A i j) ∧ (q ≠ 0 → ∀ i j, i < r → j < n → Sm (12 * i + j) = zI (A i j))
theorem NB15 : NB < D16 ^ 15 := by decide +kernel
theorem RI_end {q N n kk r : Nat} {X : (Nat → Int) → Prop} {A0 : Nat → Nat → Int} {V : Nat → Int} {Sm : Nat → Int32} {pl : Nat → Nat} (hok : okR q N n X) (hrk : r ≤ kk) (h : RI q N n kk X A0 n r V Sm pl) : ∃ A, LR q n (sp q n kk A0) r A pl ∧ KT q n r A (fun i => A i (pl i)) V Sm := by
  have hbs : ∀ j, j < n → bsT j := fun _ _ => trivial
  rcases h with ⟨h0, ⟨A, hA⟩, hj⟩ | ⟨h0, hj, A, hA, hSm⟩
  · subst h0
    obtain ⟨e1, e2⟩ := invT_end hA hbs
    have hlow : ∀ i j, i < kk → j < n → low (av V i j) (bv V i j) := fun i j hi hj => by
      obtain ⟨T, ph, -, -, hf, -⟩ := hA
      exact (hf i j hi hj).1
    obtain ⟨T, ph, hg, hrc, hf, ht, hq⟩ := hA
    obtain ⟨-, hpr, hsp, htl, hbd⟩ := hq
    refine ⟨A, ⟨pr_rd (Nat.le_refl _) hpr, ⟨hpr.2.2.2.2.1, fun r j hr hj => hpr.2.2.2.2.2 r j hr hj trivial⟩, fun i hi => ?_, fun x => (sps_iff dm0 hsp x).trans (sp_cut dm0 hpr.1 (fun i j h1 h2 h3 => hpr.2.2.2.1 i j h1 h2 h3 trivial) x)⟩, fun x hx => ?_, fun _ i j hi hj => ⟨hlow i j (by omega) hj, (e1 i j hi hj).1⟩, fun z => absurd rfl z⟩
    · unfold tl
      rw [if_pos (show ((0 : Nat) : Int) = 0 from rfl)]
      exact htl i hi
    · have e : x = 12 * (x / 12) + x % 12 := by omega
      rw [e]
      show (av V (x / 12) (x % 12)).natAbs < _ ∧ (bv V (x / 12) (x % 12)).natAbs < _
      by_cases hin : x / 12 < kk ∧ x % 12 < n
      · by_cases hr : x / 12 < r
        · obtain ⟨g1, g2⟩ := e1 _ _ hr hin.2
          obtain ⟨b1, b2⟩ := low_bd (hlow _ _ hin.1 hin.2) g1 g2 (hbd _ _ hin.1 ((hpr.2.1 _ hr).1)) (hbd _ _ hin.1 hin.2)
          exact ⟨Nat.lt_of_le_of_lt b1 NB15, Nat.lt_of_le_of_lt b2 NB15⟩
        · obtain ⟨g1, g2⟩ := e2 _ _ (by omega) hin.1 hin.2
          rw [g1, g2]; exact ⟨by decide +kernel, by decide +kernel⟩
      · exact hj _ _ (by omega) (by omega) (by omega)
  · obtain ⟨hp, h251⟩ := hok.2 h0
    obtain ⟨hpr, hsp, hres, htl⟩ := hA
    have hd := dmP hp
    refine ⟨A, ⟨pr_rd (Nat.le_refl _) hpr, ⟨hpr.2.2.2.2.1, fun r j hr hj => hpr.2.2.2.2.2 r j hr hj trivial⟩, fun i hi => ?_, fun x => (sps_iff hd hsp x).trans (sp_cut hd hpr.1 (fun i j h1 h2 h3 => hpr.2.2.2.1 i j h1 h2 h3 trivial) x)⟩, hj, fun z => absurd z h0, fun _ i j hi hj => hSm i j (by omega) hj⟩
    unfold tl
    rw [if_neg (by omega)]
    exact ⟨htl i hi, fun j hj => hres i j (by omega) hj⟩


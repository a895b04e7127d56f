-- ===== the reference: give =====
abbrev av (V : Nat → Int) (i j : Nat) : Int := V (10 + (12 * i + j))
abbrev bv (V : Nat → Int) (i j : Nat) : Int := V (154 + (12 * i + j))
def GPre (q n kk r c0 : Nat) (V : Nat → Int) (Sm : Nat → Int32) : Prop := (q = 0 → av V r c0 ≠ 0 ∧ (∀ t j, t < kk → j < n → (V (10 + (12 * t + j))).natAbs < D16 ^ 25 ∧ (V (154 + (12 * t + j))).natAbs < D16 ^ 25 ∧ V (154 + (12 * t + j)) ≠ 0) ∧ ∀ j, j < n → ∀ a' b' : Int, low a' b' → a' * (bv V r j * av V r c0) = b' * (av V r j * bv V r c0) → a'.natAbs < D16 ^ 25 ∧ b'.natAbs < D16 ^ 25) ∧ (q ≠ 0 → q ≤ 251 ∧ ∃ A : Nat → Nat → Int, (∀ t j, t < kk → j < n → Sm (12 * t + j) = zI (A t j) ∧ rsd q (A t j)) ∧ ∃ cz : Nat, 1 ≤ cz ∧ cz < q ∧ ((cz : Int) * A r c0) % q = 1)
def GPost (q n kk r c0 : Nat) (V : Nat → Int) (Sm : Nat → Int32) (V' : Nat → Int) (Sm' : Nat → Int32) : Prop := (q = 0 → fgiv n kk r c0 (av V) (bv V) (av V') (bv V') ∧ (∀ x, 10 ≤ x → (∀ t j, t < kk → j < n → x ≠ 10 + (12 * t + j) ∧ x ≠ 154 + (12 * t + j)) → V' x = V x)) ∧ (q ≠ 0 → (∀ z, 10 ≤ z → V' z = V z) ∧ ∀ A : Nat → Nat → Int, (∀ t j, t < kk → j < n → Sm (12 * t + j) = zI (A t j) ∧ rsd q (A t j)) → ∃ x : Nat, 1 ≤ x ∧ x < q ∧ ((x : Int) * A r c0) % q = 1 ∧ ∀ t j, t < kk → j < n → Sm' (12 * t + j) = zI (pvp A q x r c0 kk t j))
theorem ix2 {i j : Nat} (hj : j < 12) : (12 * i + j) / 12 = i ∧ (12 * i + j) % 12 = j := ⟨by omega, by omega⟩
section MGV
variable {p : Program} {l : Launch} {e : Env} {s : State} {m : MethodId} {args : Array Value} {below : List Frame} {meth : Method} {c : Code} {Q : State → Prop} {D : va_G} {k : Nat → ClassId} {L : List Nat} {H0 : Heap}
variable {own : Nat → Nat} {ma : Nat} {ra adr : Nat → Nat} {pr rw cl : Int32} {F R C Lo Pl To Bo Re Sm Pc : Nat → Int32} {V : Nat → Int} {n kk r c0 : Nat}
set_option maxRecDepth 100000 in
set_option maxHeartbeats 4000000 in
theorem w_giveQ (S : CallFix p m c c_M_give 4 s args G R_M) (hr : meth.sig.returnType = none) (hlocks : meth.locks = false) (hrk : r < kk) (hk12 : kk ≤ 12) (hn : n ≤ 12) (hc0 : c0 < n) {f0 : Nat → va_E} {V0 V1 : Nat → Int} (h0 : ∀ t j, t < kk → j < n → (V0 (10 + (12 * t + j))).natAbs < D16 ^ 25 ∧ (V0 (154 + (12 * t + j))).natAbs < D16 ^ 25 ∧ V0 (154 + (12 * t + j)) ≠ 0) (h1r : ∀ j, j < n → (V1 (10 + (12 * r + j))).natAbs < D16 ^ 25 ∧ (V1 (154 + (12 * r + j))).natAbs < D16 ^ 25 ∧ V1 (154 + (12 * r + j)) ≠ 0) (h1l : ∀ j, j < n → low (av V1 r j) (bv V1 r j) ∧ av V1 r j * (bv V0 r j * av V0 r c0) = bv V1 r j * (av V0 r j * bv V0 r c0)) :
    ∀ (d o : Nat) (f : Nat → va_E) (V : Nat → Int) (H : Heap) (locs : List Loc) (ls : Array Slot), o + d = kk → MW L own k f ma ra adr (nI 0) (nI kk) (nI n) F R C Lo Pl To Bo Re Sm Pc V → oe own [200] f0 f → (∀ j, j < n → av V r j = av V1 r j ∧ bv V r j = bv V1 r j) → (∀ t, t < o → t ≠ r → (av V0 t c0 = 0 → ∀ j, j < n → av V t j = av V0 t j ∧ bv V t j = bv V0 t j) ∧ (av V0 t c0 ≠ 0 → ∀ j, j < n → low (av V t j) (bv V t j) ∧ av V t j * (bv V0 t j * (bv V0 t c0 * bv V1 r j)) = bv V t j * (av V0 t j * (bv V0 t c0 * bv V1 r j) - av V0 t c0 * av V1 r j * bv V0 t j))) → (∀ t, o ≤ t → t < kk → t ≠ r → ∀ j, j < n → av V t j = av V0 t j ∧ bv V t j = bv V0 t j) → (∀ x, 10 ≤ x → (∀ t j, t < kk → j < n → x ≠ 10 + (12 * t + j) ∧ x ≠ 154 + (12 * t + j)) → V x = V0 x) → lv_has ls 4 [(0, .ref ma), (1, .int (nI r)), (2, .int (nI c0)), (3, .int (nI o))] → gw D cls (tyl k) L s s.heap f H locs →
    W p l e (rmN 6) s m args below meth c H locs 0 0 (MQ below (va_Qv (fun f' => ∃ V', MW L own k f' ma ra adr (nI 0) (nI kk) (nI n) F R C Lo Pl To Bo Re Sm (upd Pc r (nI c0)) V' ∧ oe own [200] f0 f' ∧ fgiv n kk r c0 (av V0) (bv V0) (av V') (bv V') ∧ (∀ x, 10 ≤ x → (∀ t j, t < kk → j < n → x ≠ 10 + (12 * t + j) ∧ x ≠ 154 + (12 * t + j)) → V' x = V0 x)) (mst D cls (tyl k) L) (fun q => q ∈ L)) args s 0 0 (fun q => q ∈ L)) (F0 m 8 ls []) := by
  have hx := S.1
  have hb := S.2.1
  have hown : s.vm.findClass R_M = some m.cls := S.2.2.2.1
  have hG := S.2.2.2.2
  intro d
  induction d with
  | zero =>
    intro o f V H locs ls ho1 h ho hrow hdone hrest hO hl hg
    have ho1 : o = kk := by omega
    subst ho1
    have hw : kw D cls (tyl k) L s s.heap f ((mc k ra adr ma (nI 0) (nI o) (nI n) F R C Lo Pl To Bo Re Sm Pc)) H locs := ⟨f, hg, h.kn⟩
    -- METHOD M_give | loc 0=m 1=r 2=c 3=o | ws m fa rc cc lo pl to bo re tp bt sm pc | fld m.fields=fa m.rowCounts=rc m.columnCounts=cc m.loose=lo m.places=pl m.tops=to m.bottoms=bo m.residues=re m.top=tp m.bottom=bt m.small=sm m.place=pc m.one=n0 m.two=n1 m.three=n2 m.four=n3 m.five=n4 m.six=n5 m.seven=n6 m.eight=n7 m.above=n8 m.under=n9
    refine lv_iload_n hx hb d_M_give_8 rfl (lv_at hl 3 rfl) ?_
    refine lv_aload_n hx hb d_M_give_9 rfl (lv_at hl 0 rfl) ?_
    refine k_get hx hb hG lay_M hown hw 0 rfl rfl 21 (by decide) (hG _ fl_M_108) (fun _ h9 => h9) rfl d_M_give_10 ?_
    refine lv_icmp_ge (tgt := 47) hx hb d_M_give_13 (by decide) (fun hc => ?_) (fun hc => ?_)
    rotate_left
    · exact absurd (nI_le (by omega) (by omega)) hc
    refine lv_aload_n hx hb d_M_give_47 rfl (lv_at hl 0 rfl) ?_
    refine k_get hx hb hG lay_M hown hw 0 rfl rfl 19 (by decide) (hG _ fl_M_89) (fun _ h9 => h9) rfl d_M_give_48 ?_
    refine lv_iload_n hx hb d_M_give_51 rfl (lv_at hl 1 rfl) ?_
    refine lv_iload_n hx hb d_M_give_52 rfl (lv_at hl 2 rfl) ?_
    refine k_iast hx hb hw 12 0 rfl rfl (r) (rfl) (by omega) (by first | decide | omega) d_M_give_53 (fun H locs hw => ?_)
    obtain ⟨f1, hg, hk1⟩ := hw
    obtain ⟨h1, ho1⟩ := h.back (pr' := nI 0) (rw' := nI o) (cl' := nI n) hk1
    refine g_retv hx hb hr hlocks hg ⟨V, h1, ho.trans ho1, ⟨fun j hj => ?_, fun t ht htr => ?_⟩, hO⟩ d_M_give_54
    · rw [(hrow j hj).1, (hrow j hj).2]; exact h1l j hj
    · obtain ⟨e1, e2⟩ := hdone t ht htr
      refine ⟨e1, fun hz j hj => ?_⟩
      rw [(hrow j hj).1, (hrow j hj).2]; exact e2 hz j hj
  | succ d ih =>
    intro o f V H locs ls ho1 h ho hrow hdone hrest hO hl hg
    have hok : o < kk := by omega
    have nxt : ∀ (f' : Nat → va_E) (V' : Nat → Int) (H : Heap) (locs : List Loc) (ls : Array Slot), MW L own k f' ma ra adr (nI 0) (nI kk) (nI n) F R C Lo Pl To Bo Re Sm Pc V' → oe own [200] f0 f' → (∀ j, j < n → av V' r j = av V1 r j ∧ bv V' r j = bv V1 r j) → (∀ t, t < o + 1 → t ≠ r → (av V0 t c0 = 0 → ∀ j, j < n → av V' t j = av V0 t j ∧ bv V' t j = bv V0 t j) ∧ (av V0 t c0 ≠ 0 → ∀ j, j < n → low (av V' t j) (bv V' t j) ∧ av V' t j * (bv V0 t j * (bv V0 t c0 * bv V1 r j)) = bv V' t j * (av V0 t j * (bv V0 t c0 * bv V1 r j) - av V0 t c0 * av V1 r j * bv V0 t j))) → (∀ t, o + 1 ≤ t → t < kk → t ≠ r → ∀ j, j < n → av V' t j = av V0 t j ∧ bv V' t j = bv V0 t j) → (∀ x, 10 ≤ x → (∀ t j, t < kk → j < n → x ≠ 10 + (12 * t + j) ∧ x ≠ 154 + (12 * t + j)) → V' x = V0 x) → lv_has ls 4 [(0, .ref ma), (1, .int (nI r)), (2, .int (nI c0)), (3, .int (nI o))] → gw D cls (tyl k) L s s.heap f' H locs → W p l e (rmN 6) s m args below meth c H locs 0 0 (MQ below (va_Qv (fun f' => ∃ V', MW L own k f' ma ra adr (nI 0) (nI kk) (nI n) F R C Lo Pl To Bo Re Sm (upd Pc r (nI c0)) V' ∧ oe own [200] f0 f' ∧ fgiv n kk r c0 (av V0) (bv V0) (av V') (bv V') ∧ (∀ x, 10 ≤ x → (∀ t j, t < kk → j < n → x ≠ 10 + (12 * t + j) ∧ x ≠ 154 + (12 * t + j)) → V' x = V0 x)) (mst D cls (tyl k) L) (fun q => q ∈ L)) args s 0 0 (fun q => q ∈ L)) (F0 m 41 ls []) := by
      intro f' V' H locs ls g1 g2 g3 g4 g5 g6 hl hg
      -- METHOD M_give | loc 0=m 1=r 2=c 3=o | ws m fa rc cc lo pl to bo re tp bt sm pc | fld m.fields=fa m.rowCounts=rc m.columnCounts=cc m.loose=lo m.places=pl m.tops=to m.bottoms=bo m.residues=re m.top=tp m.bottom=bt m.small=sm m.place=pc m.one=n0 m.two=n1 m.three=n2 m.four=n3 m.five=n4 m.six=n5 m.seven=n6 m.eight=n7 m.above=n8 m.under=n9
      refine lv_iinc (k := 3) hx hb d_M_give_41 hl rfl (ii1 o) (by decide) rfl (fun ls hl => ?_)
      refine lv_goto (tgt := 8) hx hb d_M_give_44 (by decide) ?_
      have hl := lv_sub hl [1, 2, 3, 0] rfl
      exact ih (o + 1) f' V' H locs ls (by omega) g1 g2 g3 g4 g5 g6 hl hg
    have hw : kw D cls (tyl k) L s s.heap f ((mc k ra adr ma (nI 0) (nI kk) (nI n) F R C Lo Pl To Bo Re Sm Pc)) H locs := ⟨f, hg, h.kn⟩
    -- METHOD M_give | loc 0=m 1=r 2=c 3=o | ws m fa rc cc lo pl to bo re tp bt sm pc | fld m.fields=fa m.rowCounts=rc m.columnCounts=cc m.loose=lo m.places=pl m.tops=to m.bottoms=bo m.residues=re m.top=tp m.bottom=bt m.small=sm m.place=pc m.one=n0 m.two=n1 m.three=n2 m.four=n3 m.five=n4 m.six=n5 m.seven=n6 m.eight=n7 m.above=n8 m.under=n9
    refine lv_iload_n hx hb d_M_give_8 rfl (lv_at hl 3 rfl) ?_
    refine lv_aload_n hx hb d_M_give_9 rfl (lv_at hl 0 rfl) ?_
    refine k_get hx hb hG lay_M hown hw 0 rfl rfl 21 (by decide) (hG _ fl_M_108) (fun _ h9 => h9) rfl d_M_give_10 ?_
    refine lv_icmp_ge (tgt := 47) hx hb d_M_give_13 (by decide) (fun hc => ?_) (fun hc => ?_)
    · exact absurd hc (nI_ge (by omega) (by omega))
    refine lv_iload_n hx hb d_M_give_16 rfl (lv_at hl 3 rfl) ?_
    refine lv_iload_n hx hb d_M_give_17 rfl (lv_at hl 1 rfl) ?_
    refine lv_icmp_eq (tgt := 41) hx hb d_M_give_18 (by decide) (fun hc => ?_) (fun hc => ?_)
    · have e : o = r := nIj (by omega) (by omega) hc
      exact nxt f V H locs ls h ho hrow (fun t ht htr => hdone t (by omega) htr) (fun t h1 h2 => hrest t (by omega) h2) hO hl hg
    have hor : o ≠ r := fun q => hc (by rw [q])
    refine lv_aload_n hx hb d_M_give_21 rfl (lv_at hl 0 rfl) ?_
    refine lv_bipush (v := 12) hx hb d_M_give_22 (by decide) ?_
    refine lv_iload_n hx hb d_M_give_24 rfl (lv_at hl 3 rfl) ?_
    refine lv_imul hx hb d_M_give_25 ?_
    refine l_top (pk_mul 12 o) ?_
    refine lv_iload_n hx hb d_M_give_26 rfl (lv_at hl 2 rfl) ?_
    refine lv_iadd hx hb d_M_give_27 ?_
    refine l_top (nI_add (12 * o) c0) ?_
    have hw := hg
    refine g_oi (c_V (np := 1) S (m_M_isZero l D h (by omega) (j := 12 * o + c0) (by omega)) hw (h.1.1.1) (h.2.1 _ (List.mem_cons_self)) rfl ml_M_160 im_M_isZero se_M_M_isZero in_M co_M_isZero (by decide +kernel) rfl ⟨rfl, rfl, by decide, by decide⟩ hl.1 rfl (by simp [Value.category]) d_M_give_28 ⟨Nat.zero_le _, Nat.zero_le _⟩) hw (fun r1 f1 H locs hp hg => ?_)
    rw [hp.1] at hg
    refine l_top hp.2 ?_
    obtain ⟨q1, q2⟩ := hrest o (Nat.le_refl _) hok hor c0 hc0
    refine lv_if_ne (tgt := 41) hx hb d_M_give_31 (by decide) (fun hc => ?_) (fun hc => ?_)
    · have hz : av V0 o c0 = 0 := by
        rw [← q1]
        by_cases hcond : (0 = 0 ∧ V (10 + (12 * o + c0)) = 0) ∨ (0 ≠ 0 ∧ Sm (12 * o + c0) = 0)
        · rcases hcond with z | z
          · exact z.2
          · exact absurd rfl z.1
        · rw [if_neg hcond] at hc; exact absurd rfl hc
      exact nxt f V H locs ls h ho hrow (fun t ht htr => by
        by_cases e : t = o
        · subst e
          exact ⟨fun _ => hrest t (Nat.le_refl _) hok htr, fun z => absurd hz z⟩
        · exact hdone t (by omega) htr) (fun t h1 h2 => hrest t (by omega) h2) hO hl hg
    have hz : av V0 o c0 ≠ 0 := fun z => by
      rw [if_pos (Or.inl ⟨rfl, q1.trans z⟩)] at hc
      exact absurd hc (by decide)
    have hw : kw D cls (tyl k) L s s.heap f ((mc k ra adr ma (nI 0) (nI kk) (nI n) F R C Lo Pl To Bo Re Sm Pc)) H locs := ⟨f, hg, h.kn⟩
    refine lv_aload_n hx hb d_M_give_34 rfl (lv_at hl 0 rfl) ?_
    refine lv_iload_n hx hb d_M_give_35 rfl (lv_at hl 3 rfl) ?_
    refine lv_iload_n hx hb d_M_give_36 rfl (lv_at hl 1 rfl) ?_
    refine lv_iload_n hx hb d_M_give_37 rfl (lv_at hl 2 rfl) ?_
    have hw := hg
    have h9t : ∀ z j, z = o ∨ z = r → j < n → (V (10 + (12 * z + j))).natAbs < D16 ^ 25 ∧ (V (154 + (12 * z + j))).natAbs < D16 ^ 25 ∧ V (154 + (12 * z + j)) ≠ 0 := fun z j hzz hj => by
      rcases hzz with e | e
      · subst e
        rw [show V (10 + (12 * z + j)) = V0 (10 + (12 * z + j)) from (hrest z (Nat.le_refl _) hok hor j hj).1, show V (154 + (12 * z + j)) = V0 (154 + (12 * z + j)) from (hrest z (Nat.le_refl _) hok hor j hj).2]
        exact h0 z j hok hj
      · subst e
        rw [show V (10 + (12 * z + j)) = V1 (10 + (12 * z + j)) from (hrow j hj).1, show V (154 + (12 * z + j)) = V1 (154 + (12 * z + j)) from (hrow j hj).2]
        exact h1r j hj
    refine g_ov (c_V (np := 3) S (m_M_takeQ l D h (i := o) (r := r) (by omega) (by omega) hor hn hc0 h9t) hw (h.1.1.1) (h.2.1 _ (List.mem_cons_self)) rfl ml_M_163 im_M_take se_M_M_take in_M co_M_take (by decide +kernel) rfl ⟨rfl, rfl, by decide, by decide⟩ hl.1 rfl (by simp [Value.category]) d_M_give_38 ⟨Nat.zero_le _, Nat.zero_le _⟩) hw (fun f2 H locs hp2 hg => ?_)
    obtain ⟨V2, h2, ho2, hD2, hO2⟩ := hp2
    have same : ∀ x, 10 ≤ x → (∀ t, t < n → x ≠ 10 + (12 * o + t) ∧ x ≠ 154 + (12 * o + t)) → V2 x = V x := hO2
    have srow : ∀ t j, t ≠ o → t < 12 → j < n → av V2 t j = av V t j ∧ bv V2 t j = bv V t j := fun t j hne ht hj => ⟨same _ (by omega) (fun u hu => ⟨by omega, by omega⟩), same _ (by omega) (fun u hu => ⟨by omega, by omega⟩)⟩
    refine nxt f2 V2 H locs ls h2 (ho.trans ho2) (fun j hj => ?_) (fun t ht htr => ?_) (fun t h1 h2 h3 j hj => ?_) (fun x hx1 hx2 => ?_) hl hg
    · rw [(srow r j (Ne.symm hor) (by omega) hj).1, (srow r j (Ne.symm hor) (by omega) hj).2]; exact hrow j hj
    · by_cases e : t = o
      · subst e
        refine ⟨fun z => absurd z hz, fun _ j hj => ?_⟩
        obtain ⟨a1, a2⟩ := hD2 j hj
        refine ⟨a1, ?_⟩
        have r1 := hrest t (Nat.le_refl _) hok htr
        have r2 : V (10 + (12 * t + j)) = V0 (10 + (12 * t + j)) := (r1 j hj).1
        have r3 : V (154 + (12 * t + j)) = V0 (154 + (12 * t + j)) := (r1 j hj).2
        have r4 : V (10 + (12 * t + c0)) = V0 (10 + (12 * t + c0)) := q1
        have r5 : V (154 + (12 * t + c0)) = V0 (154 + (12 * t + c0)) := q2
        have r6 : V (10 + (12 * r + j)) = V1 (10 + (12 * r + j)) := (hrow j hj).1
        have r7 : V (154 + (12 * r + j)) = V1 (154 + (12 * r + j)) := (hrow j hj).2
        rw [r2, r3, r4, r5, r6, r7] at a2
        exact a2
      · obtain ⟨e1, e2⟩ := hdone t (by omega) htr
        refine ⟨fun z j hj => ?_, fun z j hj => ?_⟩
        · rw [(srow t j e (by omega) hj).1, (srow t j e (by omega) hj).2]; exact e1 z j hj
        · rw [(srow t j e (by omega) hj).1, (srow t j e (by omega) hj).2]; exact e2 z j hj
    · rw [(srow t j (by omega) (by omega) hj).1, (srow t j (by omega) (by omega) hj).2]; exact hrest t (by omega) h2 h3 j hj
    · rw [same x hx1 (fun u hu => hx2 o u hok hu)]; exact hO x hx1 hx2
end MGV
theorem pv_eq {a b y q : Nat} (hb : b ≤ q) (hq : 0 < q) : (((a + (q - b) * y) % q : Nat) : Int) = ((a : Int) - b * y) % q := by
  have e1 : ((q - b : Nat) : Int) = (q : Int) - b := by omega
  rw [Int.natCast_emod, Int.natCast_add, Int.natCast_mul, e1]
  have e : (a : Int) + ((q : Int) - b) * y = ((a : Int) - b * y) + q * y := by grind
  rw [e, Int.add_mul_emod_self_left]
section MGP
variable {p : Program} {l : Launch} {e : Env} {s : State} {m : MethodId} {args : Array Value} {below : List Frame} {meth : Method} {c : Code} {Q : State → Prop} {D : va_G} {k : Nat → ClassId} {L : List Nat} {H0 : Heap}
variable {own : Nat → Nat} {ma : Nat} {ra adr : Nat → Nat} {pr rw cl : Int32} {F R C Lo Pl To Bo Re Sm Pc : Nat → Int32} {V : Nat → Int} {n kk r c0 q : Nat} {A : Nat → Nat → Int}
set_option maxRecDepth 100000 in
set_option maxHeartbeats 4000000 in
theorem w_giveP (S : CallFix p m c c_M_give 4 s args G R_M) (hr : meth.sig.returnType = none) (hlocks : meth.locks = false) (hrk : r < kk) (hk12 : kk ≤ 12) (hn : n ≤ 12) (hc0 : c0 < n) (hq : q ≤ 251) {f0 : Nat → va_E} {V0 : Nat → Int} {x : Nat} (x1 : 1 ≤ x) (x2 : x < q) (x3 : ((x : Int) * A r c0) % q = 1) (hA : ∀ t j, t < kk → j < n → rsd q (A t j)) :
    ∀ (d o : Nat) (f : Nat → va_E) (V : Nat → Int) (Sm : Nat → Int32) (H : Heap) (locs : List Loc) (ls : Array Slot), o + d = kk → MW L own k f ma ra adr (nI q) (nI kk) (nI n) F R C Lo Pl To Bo Re Sm Pc V → oe own [200] f0 f → (∀ z, 10 ≤ z → V z = V0 z) → (∀ t j, t < kk → j < n → Sm (12 * t + j) = zI (if t = r ∨ t < o then pvp A q x r c0 kk t j else A t j)) → lv_has ls 4 [(0, .ref ma), (1, .int (nI r)), (2, .int (nI c0)), (3, .int (nI o))] → gw D cls (tyl k) L s s.heap f H locs →
    W p l e (rmN 6) s m args below meth c H locs 0 0 (MQ below (va_Qv (fun f' => ∃ V' Sm', MW L own k f' ma ra adr (nI q) (nI kk) (nI n) F R C Lo Pl To Bo Re Sm' (upd Pc r (nI c0)) V' ∧ oe own [200] f0 f' ∧ (∀ z, 10 ≤ z → V' z = V0 z) ∧ ∃ x : Nat, 1 ≤ x ∧ x < q ∧ ((x : Int) * A r c0) % q = 1 ∧ ∀ t j, t < kk → j < n → Sm' (12 * t + j) = zI (pvp A q x r c0 kk t j)) (mst D cls (tyl k) L) (fun q => q ∈ L)) args s 0 0 (fun q => q ∈ L)) (F0 m 8 ls []) := by
  have hx := S.1
  have hb := S.2.1
  have hown : s.vm.findClass R_M = some m.cls := S.2.2.2.1
  have hG := S.2.2.2.2
  intro d
  induction d with
  | zero =>
    intro o f V Sm H locs ls ho1 h ho hV hS hl hg
    have ho1 : o = kk := by omega
    subst ho1
    have hw : kw D cls (tyl k) L s s.heap f ((mc k ra adr ma (nI q) (nI o) (nI n) F R C Lo Pl To Bo Re Sm Pc)) H locs := ⟨f, hg, h.kn⟩
    -- METHOD M_give | loc 0=m 1=r 2=c 3=o | ws m fa rc cc lo pl to bo re tp bt sm pc | fld m.fields=fa m.rowCounts=rc m.columnCounts=cc m.loose=lo m.places=pl m.tops=to m.bottoms=bo m.residues=re m.top=tp m.bottom=bt m.small=sm m.place=pc m.one=n0 m.two=n1 m.three=n2 m.four=n3 m.five=n4 m.six=n5 m.seven=n6 m.eight=n7 m.above=n8 m.under=n9
    refine lv_iload_n hx hb d_M_give_8 rfl (lv_at hl 3 rfl) ?_
    refine lv_aload_n hx hb d_M_give_9 rfl (lv_at hl 0 rfl) ?_
    refine k_get hx hb hG lay_M hown hw 0 rfl rfl 21 (by decide) (hG _ fl_M_108) (fun _ h9 => h9) rfl d_M_give_10 ?_
    refine lv_icmp_ge (tgt := 47) hx hb d_M_give_13 (by decide) (fun hc => ?_) (fun hc => ?_)
    rotate_left
    · exact absurd (nI_le (by omega) (by omega)) hc
    refine lv_aload_n hx hb d_M_give_47 rfl (lv_at hl 0 rfl) ?_
    refine k_get hx hb hG lay_M hown hw 0 rfl rfl 19 (by decide) (hG _ fl_M_89) (fun _ h9 => h9) rfl d_M_give_48 ?_
    refine lv_iload_n hx hb d_M_give_51 rfl (lv_at hl 1 rfl) ?_
    refine lv_iload_n hx hb d_M_give_52 rfl (lv_at hl 2 rfl) ?_
    refine k_iast hx hb hw 12 0 rfl rfl (r) (rfl) (by omega) (by first | decide | omega) d_M_give_53 (fun H locs hw => ?_)
    obtain ⟨f1, hg, hk1⟩ := hw
    obtain ⟨h1, ho1⟩ := h.back (pr' := nI q) (rw' := nI o) (cl' := nI n) hk1
    refine g_retv hx hb hr hlocks hg ⟨V, Sm, h1, ho.trans ho1, hV, x, x1, x2, x3, fun t j ht hj => ?_⟩ d_M_give_54
    rw [hS t j ht hj, if_pos (Or.inr ht)]
  | succ d ih =>
    intro o f V Sm H locs ls ho1 h ho hV hS hl hg
    have hok : o < kk := by omega
    have nxt : ∀ (f' : Nat → va_E) (V' : Nat → Int) (Sm' : Nat → Int32) (H : Heap) (locs : List Loc) (ls : Array Slot), MW L own k f' ma ra adr (nI q) (nI kk) (nI n) F R C Lo Pl To Bo Re Sm' Pc V' → oe own [200] f0 f' → (∀ z, 10 ≤ z → V' z = V0 z) → (∀ t j, t < kk → j < n → Sm' (12 * t + j) = zI (if t = r ∨ t < o + 1 then pvp A q x r c0 kk t j else A t j)) → lv_has ls 4 [(0, .ref ma), (1, .int (nI r)), (2, .int (nI c0)), (3, .int (nI o))] → gw D cls (tyl k) L s s.heap f' H locs → W p l e (rmN 6) s m args below meth c H locs 0 0 (MQ below (va_Qv (fun f' => ∃ V' Sm', MW L own k f' ma ra adr (nI q) (nI kk) (nI n) F R C Lo Pl To Bo Re Sm' (upd Pc r (nI c0)) V' ∧ oe own [200] f0 f' ∧ (∀ z, 10 ≤ z → V' z = V0 z) ∧ ∃ x : Nat, 1 ≤ x ∧ x < q ∧ ((x : Int) * A r c0) % q = 1 ∧ ∀ t j, t < kk → j < n → Sm' (12 * t + j) = zI (pvp A q x r c0 kk t j)) (mst D cls (tyl k) L) (fun q => q ∈ L)) args s 0 0 (fun q => q ∈ L)) (F0 m 41 ls []) := by
      intro f' V' Sm' H locs ls g1 g2 g3 g4 hl hg
      -- METHOD M_give | loc 0=m 1=r 2=c 3=o | ws m fa rc cc lo pl to bo re tp bt sm pc | fld m.fields=fa m.rowCounts=rc m.columnCounts=cc m.loose=lo m.places=pl m.tops=to m.bottoms=bo m.residues=re m.top=tp m.bottom=bt m.small=sm m.place=pc m.one=n0 m.two=n1 m.three=n2 m.four=n3 m.five=n4 m.six=n5 m.seven=n6 m.eight=n7 m.above=n8 m.under=n9
      refine lv_iinc (k := 3) hx hb d_M_give_41 hl rfl (ii1 o) (by decide) rfl (fun ls hl => ?_)
      refine lv_goto (tgt := 8) hx hb d_M_give_44 (by decide) ?_
      have hl := lv_sub hl [1, 2, 3, 0] rfl
      exact ih (o + 1) f' V' Sm' H locs ls (by omega) g1 g2 g3 g4 hl hg
    have hw : kw D cls (tyl k) L s s.heap f ((mc k ra adr ma (nI q) (nI kk) (nI n) F R C Lo Pl To Bo Re Sm Pc)) H locs := ⟨f, hg, h.kn⟩
    -- METHOD M_give | loc 0=m 1=r 2=c 3=o | ws m fa rc cc lo pl to bo re tp bt sm pc | fld m.fields=fa m.rowCounts=rc m.columnCounts=cc m.loose=lo m.places=pl m.tops=to m.bottoms=bo m.residues=re m.top=tp m.bottom=bt m.small=sm m.place=pc m.one=n0 m.two=n1 m.three=n2 m.four=n3 m.five=n4 m.six=n5 m.seven=n6 m.eight=n7 m.above=n8 m.under=n9
    refine lv_iload_n hx hb d_M_give_8 rfl (lv_at hl 3 rfl) ?_
    refine lv_aload_n hx hb d_M_give_9 rfl (lv_at hl 0 rfl) ?_
    refine k_get hx hb hG lay_M hown hw 0 rfl rfl 21 (by decide) (hG _ fl_M_108) (fun _ h9 => h9) rfl d_M_give_10 ?_
    refine lv_icmp_ge (tgt := 47) hx hb d_M_give_13 (by decide) (fun hc => ?_) (fun hc => ?_)
    · exact absurd hc (nI_ge (by omega) (by omega))
    refine lv_iload_n hx hb d_M_give_16 rfl (lv_at hl 3 rfl) ?_
    refine lv_iload_n hx hb d_M_give_17 rfl (lv_at hl 1 rfl) ?_
    refine lv_icmp_eq (tgt := 41) hx hb d_M_give_18 (by decide) (fun hc => ?_) (fun hc => ?_)
    · have e : o = r := nIj (by omega) (by omega) hc
      refine nxt f V Sm H locs ls h ho hV (fun t j ht hj => ?_) hl hg
      rw [hS t j ht hj]
      by_cases h1 : t = r ∨ t < o
      · rw [if_pos h1, if_pos (by omega)]
      · rw [if_neg h1, if_neg (by omega)]
    have hor : o ≠ r := fun q => hc (by rw [q])
    have hSo : ∀ j, j < n → Sm (12 * o + j) = zI (A o j) := fun j hj => by rw [hS o j hok hj, if_neg (by omega)]
    have hSr : ∀ j, j < n → Sm (12 * r + j) = zI ((x * A r j) % q) := fun j hj => by rw [hS r j hrk hj, if_pos (Or.inl rfl), pvp_row]
    have rz : ∀ v : Int, rsd q v → rI v := fun v hv => ⟨by have := hv.1; omega, by have := hv.2; omega⟩
    have hz0 : Sm (12 * o + c0) = 0 ↔ A o c0 = 0 := by
      rw [hSo c0 hc0]
      exact zI_eq (b := 0) (rz _ (hA o c0 hok hc0)) ⟨by decide, by decide⟩
    refine lv_aload_n hx hb d_M_give_21 rfl (lv_at hl 0 rfl) ?_
    refine lv_bipush (v := 12) hx hb d_M_give_22 (by decide) ?_
    refine lv_iload_n hx hb d_M_give_24 rfl (lv_at hl 3 rfl) ?_
    refine lv_imul hx hb d_M_give_25 ?_
    refine l_top (pk_mul 12 o) ?_
    refine lv_iload_n hx hb d_M_give_26 rfl (lv_at hl 2 rfl) ?_
    refine lv_iadd hx hb d_M_give_27 ?_
    refine l_top (nI_add (12 * o) c0) ?_
    have hw := hg
    refine g_oi (c_V (np := 1) S (m_M_isZero l D h (by omega) (j := 12 * o + c0) (by omega)) hw (h.1.1.1) (h.2.1 _ (List.mem_cons_self)) rfl ml_M_160 im_M_isZero se_M_M_isZero in_M co_M_isZero (by decide +kernel) rfl ⟨rfl, rfl, by decide, by decide⟩ hl.1 rfl (by simp [Value.category]) d_M_give_28 ⟨Nat.zero_le _, Nat.zero_le _⟩) hw (fun r1 f1 H locs hp hg => ?_)
    rw [hp.1] at hg
    refine l_top hp.2 ?_
    refine lv_if_ne (tgt := 41) hx hb d_M_give_31 (by decide) (fun hc => ?_) (fun hc => ?_)
    · have hz : A o c0 = 0 := by
        by_cases hcond : (q = 0 ∧ V (10 + (12 * o + c0)) = 0) ∨ (q ≠ 0 ∧ Sm (12 * o + c0) = 0)
        · rcases hcond with z | z
          · omega
          · exact hz0.mp z.2
        · rw [if_neg hcond] at hc; exact absurd rfl hc
      refine nxt f V Sm H locs ls h ho hV (fun t j ht hj => ?_) hl hg
      rw [hS t j ht hj]
      by_cases h1 : t = r ∨ t < o
      · rw [if_pos h1, if_pos (by omega)]
      · rw [if_neg h1]
        by_cases e : t = o
        · subst e
          rw [if_pos (by omega)]
          have : pvp A q x r c0 kk t = A t := by unfold pvp; rw [if_neg hor, if_pos hok, if_pos hz]
          rw [this]
        · rw [if_neg (by omega)]
    have hz : A o c0 ≠ 0 := fun z => by
      rw [if_pos (Or.inr ⟨by omega, hz0.mpr z⟩)] at hc
      exact absurd hc (by decide)
    have hw : kw D cls (tyl k) L s s.heap f ((mc k ra adr ma (nI q) (nI kk) (nI n) F R C Lo Pl To Bo Re Sm Pc)) H locs := ⟨f, hg, h.kn⟩
    refine lv_aload_n hx hb d_M_give_34 rfl (lv_at hl 0 rfl) ?_
    refine lv_iload_n hx hb d_M_give_35 rfl (lv_at hl 3 rfl) ?_
    refine lv_iload_n hx hb d_M_give_36 rfl (lv_at hl 1 rfl) ?_
    refine lv_iload_n hx hb d_M_give_37 rfl (lv_at hl 2 rfl) ?_
    have hw := hg
    have hxr : ∀ j, j < n → rsd q ((x * A r j) % q) := fun j hj => ⟨Int.emod_nonneg _ (by omega), Int.emod_lt_of_pos _ (by omega)⟩
    have hsv : ∀ z t, z = o ∨ z = r → t < n → Sm (12 * z + t) = nI ((fun y => if y / 12 = r then ((x * A r (y % 12)) % q).toNat else (A (y / 12) (y % 12)).toNat) (12 * z + t)) ∧ (fun y => if y / 12 = r then ((x * A r (y % 12)) % q).toNat else (A (y / 12) (y % 12)).toNat) (12 * z + t) < q := fun z t hzz ht => by
      obtain ⟨i1, i2⟩ := ix2 (i := z) (j := t) (by omega)
      show Sm (12 * z + t) = nI (if (12 * z + t) / 12 = r then ((x * A r ((12 * z + t) % 12)) % q).toNat else (A ((12 * z + t) / 12) ((12 * z + t) % 12)).toNat) ∧ (if (12 * z + t) / 12 = r then ((x * A r ((12 * z + t) % 12)) % q).toNat else (A ((12 * z + t) / 12) ((12 * z + t) % 12)).toNat) < q
      rw [i1, i2]
      rcases hzz with e | e
      · have hne : z ≠ r := by omega
        rw [if_neg hne, e, hSo t ht]
        have := hA o t hok ht
        refine ⟨?_, by obtain ⟨t1, t2⟩ := this; omega⟩
        rw [← zI_n]; congr 1; have := this.1; omega
      · rw [if_pos e, e, hSr t ht]
        have := hxr t ht
        refine ⟨?_, by obtain ⟨t1, t2⟩ := this; omega⟩
        rw [← zI_n]; congr 1; have := this.1; omega
    refine g_ov (c_V (np := 3) S (m_M_takeP l D (sv := fun y => if y / 12 = r then ((x * A r (y % 12)) % q).toNat else (A (y / 12) (y % 12)).toNat) h (i := o) (r := r) (by omega) (by omega) hor hn hc0 hq (by omega) hsv) hw (h.1.1.1) (h.2.1 _ (List.mem_cons_self)) rfl ml_M_163 im_M_take se_M_M_take in_M co_M_take (by decide +kernel) rfl ⟨rfl, rfl, by decide, by decide⟩ hl.1 rfl (by simp [Value.category]) d_M_give_38 ⟨Nat.zero_le _, Nat.zero_le _⟩) hw (fun f2 H locs hp2 hg => ?_)
    obtain ⟨V2, Sm2, h2, ho2, hV2, hD2, hO2⟩ := hp2
    refine nxt f2 V2 Sm2 H locs ls h2 (ho.trans ho2) (fun z hz => (hV2 z hz).trans (hV z hz)) (fun t j ht hj => ?_) hl hg
    by_cases e : t = o
    · subst e
      rw [if_pos (by omega), hD2 j hj]
      have epv : pvp A q x r c0 kk t j = (A t j - A t c0 * ((x * A r j) % q)) % q := by unfold pvp; rw [if_neg hor, if_pos hok, if_neg hz]
      rw [epv]
      obtain ⟨i1, i2⟩ := ix2 (i := t) (j := j) (by omega)
      obtain ⟨i3, i4⟩ := ix2 (i := t) (j := c0) (by omega)
      obtain ⟨i5, i6⟩ := ix2 (i := r) (j := j) (by omega)
      show nI (((if (12 * t + j) / 12 = r then _ else (A ((12 * t + j) / 12) ((12 * t + j) % 12)).toNat) + (q - (if (12 * t + c0) / 12 = r then _ else (A ((12 * t + c0) / 12) ((12 * t + c0) % 12)).toNat)) * (if (12 * r + j) / 12 = r then ((x * A r ((12 * r + j) % 12)) % q).toNat else _)) % q) = _
      rw [i1, i2, i3, i4, i5, i6, if_neg hor, if_neg hor, if_pos rfl, ← zI_n]
      have a1 := hA t j hok hj
      have a2 := hA t c0 hok hc0
      have a3 := hxr j hj
      rw [pv_eq (by have := a2.1; have := a2.2; omega) (by omega)]
      rw [Int.toNat_of_nonneg a1.1, Int.toNat_of_nonneg a2.1, Int.toNat_of_nonneg a3.1]
    · rw [hO2 _ (fun u hu => by omega), hS t j ht hj]
      by_cases h1 : t = r ∨ t < o
      · rw [if_pos h1, if_pos (by omega)]
      · rw [if_neg h1, if_neg (by omega)]
end MGP
section MGG
variable (l : Launch) (D : va_G) {L : List Nat} {k : Nat → ClassId} {f : Nat → va_E} {own : Nat → Nat} {ma : Nat} {ra adr : Nat → Nat} {pr rw cl : Int32} {F R C Lo Pl To Bo Re Sm Pc : Nat → Int32} {V : Nat → Int} {n kk r c0 q : Nat}
set_option maxRecDepth 100000 in
set_option maxHeartbeats 4000000 in
theorem m_M_give (h : MW L own k f ma ra adr (nI q) (nI kk) (nI n) F R C Lo Pl To Bo Re Sm Pc V) (hrk : r < kk) (hk12 : kk ≤ 12) (hn : n ≤ 12) (hc0 : c0 < n) (hpre : GPre q n kk r c0 V Sm) : Mv l y_M_give (Cond.code y_M_give c_M_give 4 none :: G) (rmN 6) D cls (tyl k) L f [.ref ma, .int (nI r), .int (nI c0)] (fun f' => ∃ V' Sm', MW L own k f' ma ra adr (nI q) (nI kk) (nI n) F R C Lo Pl To Bo Re Sm' (upd Pc r (nI c0)) V' ∧ oe own [200] f f' ∧ GPost q n kk r c0 V Sm V' Sm') := by
  by_cases h0 : q = 0
  · subst h0
    obtain ⟨p1, p2, p3⟩ := hpre.1 rfl
    refine Met_mono (post := (fun f' => ∃ V', MW L own k f' ma ra adr (nI 0) (nI kk) (nI n) F R C Lo Pl To Bo Re Sm (upd Pc r (nI c0)) V' ∧ oe own [200] f f' ∧ fgiv n kk r c0 (av V) (bv V) (av V') (bv V') ∧ (∀ x, 10 ≤ x → (∀ t j, t < kk → j < n → x ≠ 10 + (12 * t + j) ∧ x ≠ 154 + (12 * t + j)) → V' x = V x))) ?_ (fun f' ⟨V', g1, g2, g3, g4⟩ => ⟨V', Sm, g1, g2, fun _ => ⟨g3, g4⟩, fun z => absurd rfl z⟩)
    -- METHOD M_give | loc 0=m 1=r 2=c | ws m fa rc cc lo pl to bo re tp bt sm pc | fld m.fields=fa m.rowCounts=rc m.columnCounts=cc m.loose=lo m.places=pl m.tops=to m.bottoms=bo m.residues=re m.top=tp m.bottom=bt m.small=sm m.place=pc m.one=n0 m.two=n1 m.three=n2 m.four=n3 m.five=n4 m.six=n5 m.seven=n6 m.eight=n7 m.above=n8 m.under=n9
    refine mk_met (by decide) (Nat.le_of_ble_eq_true rfl) (fun p e s m below meth c ls S hr hlocks hw hl => ?_)
    have hx := S.1
    have hb := S.2.1
    have hown : s.vm.findClass R_M = some m.cls := S.2.2.2.1
    have hG := S.2.2.2.2
    have hl : lv_has ls 4 [(0, .ref ma), (1, .int (nI r)), (2, .int (nI c0))] := hl
    have hg := hw
    refine lv_aload_n hx hb d_M_give_0 rfl (lv_at hl 0 rfl) ?_
    refine lv_iload_n hx hb d_M_give_1 rfl (lv_at hl 1 rfl) ?_
    refine lv_iload_n hx hb d_M_give_2 rfl (lv_at hl 2 rfl) ?_
    have hw := hg
    refine g_ov (c_V (np := 2) S (m_M_divideQ l D h (i := r) (by omega) hn hc0 p1 (fun t ht => p2 r t hrk ht)) hw (h.1.1.1) (h.2.1 _ (List.mem_cons_self)) rfl ml_M_156 im_M_divide se_M_M_divide in_M co_M_divide (by decide +kernel) rfl ⟨rfl, rfl, by decide, by decide⟩ hl.1 rfl (by simp [Value.category]) d_M_give_3 ⟨Nat.zero_le _, Nat.zero_le _⟩) hw (fun f1 H locs hp hg => ?_)
    obtain ⟨V1, h1, ho1, hD1, hO1⟩ := hp
    refine lv_iconst (v := 0) hx hb d_M_give_6 (by decide) ?_
    refine lv_istore_n hx hb d_M_give_7 rfl hl (by decide) rfl (fun ls hl => ?_)
    have hl := lv_sub hl [1, 2, 3, 0] rfl
    have hoth : ∀ t j, t ≠ r → t < 12 → j < n → av V1 t j = av V t j ∧ bv V1 t j = bv V t j := fun t j hne ht hj => ⟨hO1 _ (by omega) (fun u hu => ⟨by omega, by omega⟩), hO1 _ (by omega) (fun u hu => ⟨by omega, by omega⟩)⟩
    refine w_giveQ S hr hlocks hrk hk12 hn hc0 (V0 := V) (V1 := V1) p2 (fun j hj => ?_) (fun j hj => hD1 j hj) kk 0 f1 V1 H locs ls (by omega) h1 ho1 (fun j _ => ⟨rfl, rfl⟩) (fun t ht => by omega) (fun t _ h2 h3 j hj => hoth t j h3 (by omega) hj) (fun x hx1 hx2 => hO1 x hx1 (fun t ht => hx2 r t hrk ht)) hl hg
    obtain ⟨a1, a2⟩ := hD1 j hj
    obtain ⟨b1, b2⟩ := p3 j hj _ _ a1 a2
    exact ⟨b1, b2, by have := a1.1; omega⟩
  · obtain ⟨q251, A, hA, cz, z1, z2, z3⟩ := hpre.2 h0
    -- what the residues are does not hang on how they are named
    have hun : ∀ A' : Nat → Nat → Int, (∀ t j, t < kk → j < n → Sm (12 * t + j) = zI (A' t j) ∧ rsd q (A' t j)) → ∀ t j, t < kk → j < n → A' t j = A t j := fun A' hA' t j ht hj => by
      have e1 := (hA' t j ht hj).1
      rw [(hA t j ht hj).1] at e1
      have r1 := (hA t j ht hj).2
      have r2 := (hA' t j ht hj).2
      have := (zI_eq ⟨by have := r1.1; omega, by have := r1.2; omega⟩ ⟨by have := r2.1; omega, by have := r2.2; omega⟩).mp e1
      exact this.symm
    refine Met_mono (post := (fun f' => ∃ V' Sm', MW L own k f' ma ra adr (nI q) (nI kk) (nI n) F R C Lo Pl To Bo Re Sm' (upd Pc r (nI c0)) V' ∧ oe own [200] f f' ∧ (∀ z, 10 ≤ z → V' z = V z) ∧ ∃ x : Nat, 1 ≤ x ∧ x < q ∧ ((x : Int) * A r c0) % q = 1 ∧ ∀ t j, t < kk → j < n → Sm' (12 * t + j) = zI (pvp A q x r c0 kk t j))) ?_ (fun f' ⟨V', Sm', g1, g2, g3, x, x1, x2, x3, g4⟩ => ⟨V', Sm', g1, g2, fun z => absurd z h0, fun _ => ⟨g3, fun A' hA' => ⟨x, x1, x2, by rw [hun A' hA' r c0 hrk hc0]; exact x3, fun t j ht hj => ?_⟩⟩⟩)
    · have hsv : ∀ t, t < n → Sm (12 * r + t) = nI ((fun y => (A (y / 12) (y % 12)).toNat) (12 * r + t)) ∧ (fun y => (A (y / 12) (y % 12)).toNat) (12 * r + t) < q := fun t ht => by
        obtain ⟨i1, i2⟩ := ix2 (i := r) (j := t) (by omega)
        show Sm (12 * r + t) = nI (A ((12 * r + t) / 12) ((12 * r + t) % 12)).toNat ∧ (A ((12 * r + t) / 12) ((12 * r + t) % 12)).toNat < q
        rw [i1, i2, (hA r t hrk ht).1]
        have := (hA r t hrk ht).2
        refine ⟨?_, by obtain ⟨t1, t2⟩ := this; omega⟩
        rw [← zI_n]; congr 1; have := this.1; omega
      obtain ⟨i1, i2⟩ := ix2 (i := r) (j := c0) (by omega)
      have hrc := (hA r c0 hrk hc0).2
      have tn : ((A r c0).toNat : Int) = A r c0 := Int.toNat_of_nonneg hrc.1
      have hcz : cz * (fun y => (A (y / 12) (y % 12)).toNat) (12 * r + c0) % q = 1 := by
        show cz * (A ((12 * r + c0) / 12) ((12 * r + c0) % 12)).toNat % q = 1
        rw [i1, i2]
        have h5 : (((cz * (A r c0).toNat) % q : Nat) : Int) = ((1 : Nat) : Int) := by rw [Int.natCast_emod, Int.natCast_mul, tn]; exact z3
        exact Int.ofNat.inj h5
      -- METHOD M_give | loc 0=m 1=r 2=c | ws m fa rc cc lo pl to bo re tp bt sm pc | fld m.fields=fa m.rowCounts=rc m.columnCounts=cc m.loose=lo m.places=pl m.tops=to m.bottoms=bo m.residues=re m.top=tp m.bottom=bt m.small=sm m.place=pc m.one=n0 m.two=n1 m.three=n2 m.four=n3 m.five=n4 m.six=n5 m.seven=n6 m.eight=n7 m.above=n8 m.under=n9
      refine mk_met (by decide) (Nat.le_of_ble_eq_true rfl) (fun p e s m below meth c ls S hr hlocks hw hl => ?_)
      have hx := S.1
      have hb := S.2.1
      have hown : s.vm.findClass R_M = some m.cls := S.2.2.2.1
      have hG := S.2.2.2.2
      have hl : lv_has ls 4 [(0, .ref ma), (1, .int (nI r)), (2, .int (nI c0))] := hl
      have hg := hw
      refine lv_aload_n hx hb d_M_give_0 rfl (lv_at hl 0 rfl) ?_
      refine lv_iload_n hx hb d_M_give_1 rfl (lv_at hl 1 rfl) ?_
      refine lv_iload_n hx hb d_M_give_2 rfl (lv_at hl 2 rfl) ?_
      have hw := hg
      refine g_ov (c_V (np := 2) S (m_M_divideP l D (sv := fun y => (A (y / 12) (y % 12)).toNat) h (i := r) (by omega) hn hc0 q251 hsv z1 z2 hcz) hw (h.1.1.1) (h.2.1 _ (List.mem_cons_self)) rfl ml_M_156 im_M_divide se_M_M_divide in_M co_M_divide (by decide +kernel) rfl ⟨rfl, rfl, by decide, by decide⟩ hl.1 rfl (by simp [Value.category]) d_M_give_3 ⟨Nat.zero_le _, Nat.zero_le _⟩) hw (fun f1 H locs hp hg => ?_)
      obtain ⟨x, x1, x2, x3, Sm1, h1, ho1, hD1, hO1⟩ := hp
      refine lv_iconst (v := 0) hx hb d_M_give_6 (by decide) ?_
      refine lv_istore_n hx hb d_M_give_7 rfl hl (by decide) rfl (fun ls hl => ?_)
      have hl := lv_sub hl [1, 2, 3, 0] rfl
      have x3' : ((x : Int) * A r c0) % q = 1 := by
        have h5 : x * (A ((12 * r + c0) / 12) ((12 * r + c0) % 12)).toNat % q = 1 := x3
        rw [i1, i2] at h5
        have h6 : (((x * (A r c0).toNat) % q : Nat) : Int) = 1 := by rw [h5]; rfl
        rw [Int.natCast_emod, Int.natCast_mul, tn] at h6
        exact h6
      refine w_giveP S hr hlocks hrk hk12 hn hc0 q251 x1 x2 x3' (fun t j ht hj => (hA t j ht hj).2) kk 0 f1 V Sm1 H locs ls (by omega) h1 ho1 (fun _ _ => rfl) (fun t j ht hj => ?_) hl hg
      by_cases e : t = r
      · subst e
        rw [if_pos (Or.inl rfl), pvp_row, hD1 j hj]
        obtain ⟨i3, i4⟩ := ix2 (i := t) (j := j) (by omega)
        show nI ((A ((12 * t + j) / 12) ((12 * t + j) % 12)).toNat * x % q) = _
        rw [i3, i4, ← zI_n, Int.natCast_emod, Int.natCast_mul, Int.toNat_of_nonneg (hA t j ht hj).2.1, Int.mul_comm]
      · rw [if_neg (by omega), hO1 _ (fun u hu => by omega)]; exact (hA t j ht hj).1
    · rw [g4 t j ht hj]
      congr 1
      have e1 := hun A' hA'
      unfold pvp
      by_cases a1 : t = r
      · rw [if_pos a1, if_pos a1, e1 r j hrk hj]
      · rw [if_neg a1, if_neg a1, if_pos ht, if_pos ht, e1 t c0 ht hc0]
        by_cases a2 : A t c0 = 0
        · rw [if_pos a2, if_pos a2, e1 t j ht hj]
        · rw [if_neg a2, if_neg a2, e1 t j ht hj, e1 r j hrk hj]
end MGG


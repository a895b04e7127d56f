-- ===== the reference: divide take swap =====
section MDP
variable {p : Program} {l : Launch} {e : Env} {s : State} {m : MethodId} {args : Array Value} {below : List Frame} {meth : Method} {c : Code} {Q : State → Prop} {D : va_G} {k : Nat → ClassId} {L : List Nat} {H0 : Heap}
variable {own : Nat → Nat} {ma : Nat} {ra adr : Nat → Nat} {pr rw cl : Int32} {F R C Lo Pl To Bo Re Sm Pc : Nat → Int32} {V : Nat → Int} {q n i : Nat} {sv : Nat → Nat}
set_option maxRecDepth 100000 in
set_option maxHeartbeats 4000000 in
theorem w_mdivP (S : CallFix p m c c_M_divide 6 s args G R_M) (hr : meth.sig.returnType = none) (hlocks : meth.locks = false) (hi : i < 12) (hn : n ≤ 12) (hq : q ≤ 251) {x c0 : Nat} (x1 : 1 ≤ x) (hxq : x < q) (x3 : x * sv (12 * i + c0) % q = 1) {f0 : Nat → va_E} {Sm0 : Nat → Int32} (hsv : ∀ t, t < n → Sm0 (12 * i + t) = nI (sv (12 * i + t)) ∧ sv (12 * i + t) < q) :
    ∀ (d j : Nat) (f : Nat → va_E) (Sm : Nat → Int32) (H : Heap) (locs : List Loc) (ls : Array Slot), j + d = n → MW L own k f ma ra adr (nI q) rw (nI n) F R C Lo Pl To Bo Re Sm Pc V → oe own [200] f0 f → (∀ t, t < j → Sm (12 * i + t) = nI (sv (12 * i + t) * x % q)) → (∀ z, (∀ t, t < j → z ≠ 12 * i + t) → Sm z = Sm0 z) → lv_has ls 6 [(0, .ref ma), (1, .int (nI i)), (4, .int (nI x)), (5, .int (nI j))] → gw D cls (tyl k) L s s.heap f H locs →
    W p l e (rmN 5) s m args below meth c H locs 0 0 (MQ below (va_Qv (fun f' => ∃ x : Nat, 1 ≤ x ∧ x < q ∧ x * sv (12 * i + c0) % q = 1 ∧ ∃ Sm', MW L own k f' ma ra adr (nI q) rw (nI n) F R C Lo Pl To Bo Re Sm' Pc V ∧ oe own [200] f0 f' ∧ (∀ t, t < n → Sm' (12 * i + t) = nI (sv (12 * i + t) * x % q)) ∧ ∀ z, (∀ t, t < n → z ≠ 12 * i + t) → Sm' z = Sm0 z) (mst D cls (tyl k) L) (fun q => q ∈ L)) args s 0 0 (fun q => q ∈ L)) (F0 m 29 ls []) := by
  have hx := S.1
  have hb := S.2.1
  have hown : s.vm.findClass R_M = some m.cls := S.2.2.2.1
  have hG := S.2.2.2.2
  intro d
  induction d with
  | zero =>
    intro j f Sm H locs ls hj h ho hD hO hl hg
    have hj : j = n := by omega
    subst hj
    have hw : kw D cls (tyl k) L s s.heap f ((mc k ra adr ma (nI q) rw (nI j) F R C Lo Pl To Bo Re Sm Pc)) H locs := ⟨f, hg, h.kn⟩
    -- METHOD M_divide | loc 0=m 1=i 4=x 5=j | ws m fa rc cc lo pl to bo re tp bt sm pc | fld m.fields=fa m.rowCounts=rc m.columnCounts=cc m.loose=lo m.places=pl m.tops=to m.bottoms=bo m.residues=re m.top=tp m.bottom=bt m.small=sm m.place=pc m.one=n0 m.two=n1 m.three=n2 m.four=n3 m.five=n4 m.six=n5 m.seven=n6 m.eight=n7 m.above=n8 m.under=n9
    refine lv_iload hx hb d_M_divide_29 (lv_at hl 3 rfl) ?_
    refine lv_aload_n hx hb d_M_divide_31 rfl (lv_at hl 0 rfl) ?_
    refine k_get hx hb hG lay_M hown hw 0 rfl rfl 22 (by decide) (hG _ fl_M_111) (fun _ h9 => h9) rfl d_M_divide_32 ?_
    refine lv_icmp_ge (tgt := 76) hx hb d_M_divide_35 (by decide) (fun hc => ?_) (fun hc => ?_)
    · exact g_retv hx hb hr hlocks hg ⟨x, x1, hxq, x3, Sm, h, ho, hD, hO⟩ d_M_divide_76
    · exact absurd (nI_le (by omega) (by omega)) hc
  | succ d ih =>
    intro j f Sm H locs ls hj h ho hD hO hl hg
    obtain ⟨b1, b2⟩ := hsv j (by omega)
    have hmul : sv (12 * i + j) * x ≤ 251 * 251 := Nat.mul_le_mul (by omega) (by omega)
    have hw : kw D cls (tyl k) L s s.heap f ((mc k ra adr ma (nI q) rw (nI n) F R C Lo Pl To Bo Re Sm Pc)) H locs := ⟨f, hg, h.kn⟩
    -- METHOD M_divide | loc 0=m 1=i 4=x 5=j | ws m fa rc cc lo pl to bo re tp bt sm pc | fld m.fields=fa m.rowCounts=rc m.columnCounts=cc m.loose=lo m.places=pl m.tops=to m.bottoms=bo m.residues=re m.top=tp m.bottom=bt m.small=sm m.place=pc m.one=n0 m.two=n1 m.three=n2 m.four=n3 m.five=n4 m.six=n5 m.seven=n6 m.eight=n7 m.above=n8 m.under=n9
    refine lv_iload hx hb d_M_divide_29 (lv_at hl 3 rfl) ?_
    refine lv_aload_n hx hb d_M_divide_31 rfl (lv_at hl 0 rfl) ?_
    refine k_get hx hb hG lay_M hown hw 0 rfl rfl 22 (by decide) (hG _ fl_M_111) (fun _ h9 => h9) rfl d_M_divide_32 ?_
    refine lv_icmp_ge (tgt := 76) hx hb d_M_divide_35 (by decide) (fun hc => ?_) (fun hc => ?_)
    · exact absurd hc (nI_ge (by omega) (by omega))
    refine lv_aload_n hx hb d_M_divide_38 rfl (lv_at hl 0 rfl) ?_
    refine k_get hx hb hG lay_M hown hw 0 rfl rfl 18 (by decide) (hG _ fl_M_86) (fun _ h9 => h9) rfl d_M_divide_39 ?_
    refine lv_bipush (v := 12) hx hb d_M_divide_42 (by decide) ?_
    refine lv_iload_n hx hb d_M_divide_44 rfl (lv_at hl 1 rfl) ?_
    refine lv_imul hx hb d_M_divide_45 ?_
    refine l_top (pk_mul 12 i) ?_
    refine lv_iload hx hb d_M_divide_46 (lv_at hl 3 rfl) ?_
    refine lv_iadd hx hb d_M_divide_48 ?_
    refine l_top (nI_add (12 * i) j) ?_
    refine lv_aload_n hx hb d_M_divide_49 rfl (lv_at hl 0 rfl) ?_
    refine k_get hx hb hG lay_M hown hw 0 rfl rfl 18 (by decide) (hG _ fl_M_86) (fun _ h9 => h9) rfl d_M_divide_50 ?_
    refine lv_bipush (v := 12) hx hb d_M_divide_53 (by decide) ?_
    refine lv_iload_n hx hb d_M_divide_55 rfl (lv_at hl 1 rfl) ?_
    refine lv_imul hx hb d_M_divide_56 ?_
    refine l_top (pk_mul 12 i) ?_
    refine lv_iload hx hb d_M_divide_57 (lv_at hl 3 rfl) ?_
    refine lv_iadd hx hb d_M_divide_59 ?_
    refine l_top (nI_add (12 * i) j) ?_
    refine k_iald hx hb hw 11 0 rfl rfl ((12 * i + j)) (rfl) (by omega) (by first | decide | omega) d_M_divide_60 ?_
    refine l_top ((hO _ (fun t ht => by omega)).trans b1) ?_
    refine lv_iload hx hb d_M_divide_61 (lv_at hl 2 rfl) ?_
    refine lv_imul hx hb d_M_divide_63 ?_
    refine l_top (pk_mul _ x) ?_
    refine lv_aload_n hx hb d_M_divide_64 rfl (lv_at hl 0 rfl) ?_
    refine k_get hx hb hG lay_M hown hw 0 rfl rfl 20 (by decide) (hG _ fl_M_105) (fun _ h9 => h9) rfl d_M_divide_65 ?_
    refine lv_irem hx hb d_M_divide_68 (nI_ne0 (by omega) (by omega)) ?_
    refine l_top (pk_rem (by omega) (by omega) (by omega)) ?_
    refine k_iast hx hb hw 11 0 rfl rfl ((12 * i + j)) (rfl) (by omega) (by first | decide | omega) d_M_divide_69 (fun H locs hw => ?_)
    obtain ⟨f1, hg, hk1⟩ := hw
    obtain ⟨h1, ho1⟩ := h.back (pr' := nI q) (cl' := nI n) hk1
    refine lv_iinc (k := 3) hx hb d_M_divide_70 hl rfl (ii1 j) (by decide) rfl (fun ls hl => ?_)
    refine lv_goto (tgt := 29) hx hb d_M_divide_73 (by decide) ?_
    have hl := lv_sub hl [1, 2, 3, 0] rfl
    refine ih (j + 1) f1 _ H locs ls (by omega) h1 (ho.trans ho1) (fun t ht => ?_) (fun z hz => ?_) hl hg
    · by_cases e : t = j
      · rw [e, pk_us]
      · rw [pk_un (by omega)]; exact hD t (by omega)
    · rw [pk_un (hz j (by omega))]; exact hO z (fun t ht => hz t (by omega))
set_option maxRecDepth 100000 in
set_option maxHeartbeats 4000000 in
theorem w_mtakP (S : CallFix p m c c_M_take 9 s args G R_M) (hr : meth.sig.returnType = none) (hlocks : meth.locks = false) {r by0 : Nat} (hi : i < 12) (hr12 : r < 12) (hir : i ≠ r) (hn : n ≤ 12) (hq : q ≤ 251) (hq0 : 0 < q) (hby : by0 < q) {f0 : Nat → va_E} {V0 : Nat → Int} {Sm0 : Nat → Int32} (hsv : ∀ z t, z = i ∨ z = r → t < n → Sm0 (12 * z + t) = nI (sv (12 * z + t)) ∧ sv (12 * z + t) < q) :
    ∀ (d j : Nat) (f : Nat → va_E) (Sm : Nat → Int32) (H : Heap) (locs : List Loc) (ls : Array Slot), j + d = n → MW L own k f ma ra adr (nI q) rw (nI n) F R C Lo Pl To Bo Re Sm Pc V → oe own [200] f0 f → (∀ z, 10 ≤ z → V z = V0 z) → (∀ t, t < j → Sm (12 * i + t) = nI ((sv (12 * i + t) + (q - by0) * sv (12 * r + t)) % q)) → (∀ z, (∀ t, t < j → z ≠ 12 * i + t) → Sm z = Sm0 z) → lv_has ls 9 [(0, .ref ma), (1, .int (nI i)), (2, .int (nI r)), (5, .int (nI by0)), (6, .int (nI j))] → gw D cls (tyl k) L s s.heap f H locs →
    W p l e (rmN 5) s m args below meth c H locs 0 0 (MQ below (va_Qv (fun f' => ∃ V' Sm', MW L own k f' ma ra adr (nI q) rw (nI n) F R C Lo Pl To Bo Re Sm' Pc V' ∧ oe own [200] f0 f' ∧ (∀ z, 10 ≤ z → V' z = V0 z) ∧ (∀ t, t < n → Sm' (12 * i + t) = nI ((sv (12 * i + t) + (q - by0) * sv (12 * r + t)) % q)) ∧ ∀ z, (∀ t, t < n → z ≠ 12 * i + t) → Sm' z = Sm0 z) (mst D cls (tyl k) L) (fun q => q ∈ L)) args s 0 0 (fun q => q ∈ L)) (F0 m 48 ls []) := by
  have hx := S.1
  have hb := S.2.1
  have hown : s.vm.findClass R_M = some m.cls := S.2.2.2.1
  have hG := S.2.2.2.2
  intro d
  induction d with
  | zero =>
    intro j f Sm H locs ls hj h ho hV hD hO hl hg
    have hj : j = n := by omega
    subst hj
    have hw : kw D cls (tyl k) L s s.heap f ((mc k ra adr ma (nI q) rw (nI j) F R C Lo Pl To Bo Re Sm Pc)) H locs := ⟨f, hg, h.kn⟩
    -- METHOD M_take | loc 0=m 1=i 2=r 5=by 6=j | ws m fa rc cc lo pl to bo re tp bt sm pc | fld m.fields=fa m.rowCounts=rc m.columnCounts=cc m.loose=lo m.places=pl m.tops=to m.bottoms=bo m.residues=re m.top=tp m.bottom=bt m.small=sm m.place=pc m.one=n0 m.two=n1 m.three=n2 m.four=n3 m.five=n4 m.six=n5 m.seven=n6 m.eight=n7 m.above=n8 m.under=n9
    refine lv_iload hx hb d_M_take_48 (lv_at hl 4 rfl) ?_
    refine lv_aload_n hx hb d_M_take_50 rfl (lv_at hl 0 rfl) ?_
    refine k_get hx hb hG lay_M hown hw 0 rfl rfl 22 (by decide) (hG _ fl_M_111) (fun _ h9 => h9) rfl d_M_take_51 ?_
    refine lv_icmp_ge (tgt := 254) hx hb d_M_take_54 (by decide) (fun hc => ?_) (fun hc => ?_)
    · exact g_retv hx hb hr hlocks hg ⟨V, Sm, h, ho, hV, hD, hO⟩ d_M_take_254
    · exact absurd (nI_le (by omega) (by omega)) hc
  | succ d ih =>
    intro j f Sm H locs ls hj h ho hV hD hO hl hg
    obtain ⟨b1, b2⟩ := hsv i j (Or.inl rfl) (by omega)
    obtain ⟨c1, c2⟩ := hsv r j (Or.inr rfl) (by omega)
    have hmul : (q - by0) * sv (12 * r + j) ≤ 251 * 251 := Nat.mul_le_mul (by omega) (by omega)
    have hw : kw D cls (tyl k) L s s.heap f ((mc k ra adr ma (nI q) rw (nI n) F R C Lo Pl To Bo Re Sm Pc)) H locs := ⟨f, hg, h.kn⟩
    -- METHOD M_take | loc 0=m 1=i 2=r 5=by 6=j | ws m fa rc cc lo pl to bo re tp bt sm pc | fld m.fields=fa m.rowCounts=rc m.columnCounts=cc m.loose=lo m.places=pl m.tops=to m.bottoms=bo m.residues=re m.top=tp m.bottom=bt m.small=sm m.place=pc m.one=n0 m.two=n1 m.three=n2 m.four=n3 m.five=n4 m.six=n5 m.seven=n6 m.eight=n7 m.above=n8 m.under=n9
    refine lv_iload hx hb d_M_take_48 (lv_at hl 4 rfl) ?_
    refine lv_aload_n hx hb d_M_take_50 rfl (lv_at hl 0 rfl) ?_
    refine k_get hx hb hG lay_M hown hw 0 rfl rfl 22 (by decide) (hG _ fl_M_111) (fun _ h9 => h9) rfl d_M_take_51 ?_
    refine lv_icmp_ge (tgt := 254) hx hb d_M_take_54 (by decide) (fun hc => ?_) (fun hc => ?_)
    · exact absurd hc (nI_ge (by omega) (by omega))
    refine lv_bipush (v := 12) hx hb d_M_take_57 (by decide) ?_
    refine lv_iload_n hx hb d_M_take_59 rfl (lv_at hl 1 rfl) ?_
    refine lv_imul hx hb d_M_take_60 ?_
    refine l_top (pk_mul 12 i) ?_
    refine lv_iload hx hb d_M_take_61 (lv_at hl 4 rfl) ?_
    refine lv_iadd hx hb d_M_take_63 ?_
    refine l_top (nI_add (12 * i) j) ?_
    refine lv_istore hx hb d_M_take_64 hl (by decide) rfl (fun ls hl => ?_)
    refine lv_bipush (v := 12) hx hb d_M_take_66 (by decide) ?_
    refine lv_iload_n hx hb d_M_take_68 rfl (lv_at hl 3 rfl) ?_
    refine lv_imul hx hb d_M_take_69 ?_
    refine l_top (pk_mul 12 r) ?_
    refine lv_iload hx hb d_M_take_70 (lv_at hl 5 rfl) ?_
    refine lv_iadd hx hb d_M_take_72 ?_
    refine l_top (nI_add (12 * r) j) ?_
    refine lv_istore hx hb d_M_take_73 hl (by decide) rfl (fun ls hl => ?_)
    refine lv_aload_n hx hb d_M_take_75 rfl (lv_at hl 2 rfl) ?_
    refine k_get hx hb hG lay_M hown hw 0 rfl rfl 20 (by decide) (hG _ fl_M_105) (fun _ h9 => h9) rfl d_M_take_76 ?_
    refine lv_if_le (tgt := 120) hx hb d_M_take_79 (by decide) (fun hc => ?_) (fun hc => ?_)
    · exact absurd hc (nI_nle (by omega) (by omega))
    refine lv_aload_n hx hb d_M_take_82 rfl (lv_at hl 2 rfl) ?_
    refine k_get hx hb hG lay_M hown hw 0 rfl rfl 18 (by decide) (hG _ fl_M_86) (fun _ h9 => h9) rfl d_M_take_83 ?_
    refine lv_iload hx hb d_M_take_86 (lv_at hl 1 rfl) ?_
    refine lv_aload_n hx hb d_M_take_88 rfl (lv_at hl 2 rfl) ?_
    refine k_get hx hb hG lay_M hown hw 0 rfl rfl 18 (by decide) (hG _ fl_M_86) (fun _ h9 => h9) rfl d_M_take_89 ?_
    refine lv_iload hx hb d_M_take_92 (lv_at hl 1 rfl) ?_
    refine k_iald hx hb hw 11 0 rfl rfl ((12 * i + j)) (rfl) (by omega) (by first | decide | omega) d_M_take_94 ?_
    refine l_top ((hO _ (fun t ht => by omega)).trans b1) ?_
    refine lv_aload_n hx hb d_M_take_95 rfl (lv_at hl 2 rfl) ?_
    refine k_get hx hb hG lay_M hown hw 0 rfl rfl 20 (by decide) (hG _ fl_M_105) (fun _ h9 => h9) rfl d_M_take_96 ?_
    refine lv_iload hx hb d_M_take_99 (lv_at hl 5 rfl) ?_
    refine lv_isub hx hb d_M_take_101 ?_
    refine l_top (pk_sub (by omega)) ?_
    refine lv_aload_n hx hb d_M_take_102 rfl (lv_at hl 2 rfl) ?_
    refine k_get hx hb hG lay_M hown hw 0 rfl rfl 18 (by decide) (hG _ fl_M_86) (fun _ h9 => h9) rfl d_M_take_103 ?_
    refine lv_iload hx hb d_M_take_106 (lv_at hl 0 rfl) ?_
    refine k_iald hx hb hw 11 0 rfl rfl ((12 * r + j)) (rfl) (by omega) (by first | decide | omega) d_M_take_108 ?_
    refine l_top ((hO _ (fun t ht => by omega)).trans c1) ?_
    refine lv_imul hx hb d_M_take_109 ?_
    refine l_top (pk_mul _ _) ?_
    refine lv_iadd hx hb d_M_take_110 ?_
    refine l_top (nI_add _ _) ?_
    refine lv_aload_n hx hb d_M_take_111 rfl (lv_at hl 2 rfl) ?_
    refine k_get hx hb hG lay_M hown hw 0 rfl rfl 20 (by decide) (hG _ fl_M_105) (fun _ h9 => h9) rfl d_M_take_112 ?_
    refine lv_irem hx hb d_M_take_115 (nI_ne0 (by omega) (by omega)) ?_
    refine l_top (pk_rem (by omega) (by omega) (by omega)) ?_
    refine k_iast hx hb hw 11 0 rfl rfl ((12 * i + j)) (rfl) (by omega) (by first | decide | omega) d_M_take_116 (fun H locs hw => ?_)
    obtain ⟨f1, hg, hk1⟩ := hw
    obtain ⟨h1, ho1⟩ := h.back (pr' := nI q) (cl' := nI n) hk1
    refine lv_goto (tgt := 248) hx hb d_M_take_117 (by decide) ?_
    refine lv_iinc (k := 6) hx hb d_M_take_248 hl rfl (ii1 j) (by decide) rfl (fun ls hl => ?_)
    refine lv_goto (tgt := 48) hx hb d_M_take_251 (by decide) ?_
    have hl := lv_sub hl [3, 4, 5, 6, 0] rfl
    refine ih (j + 1) f1 _ H locs ls (by omega) h1 (ho.trans ho1) hV (fun t ht => ?_) (fun z hz => ?_) hl hg
    · by_cases e : t = j
      · rw [e, pk_us]
      · rw [pk_un (by omega)]; exact hD t (by omega)
    · rw [pk_un (hz j (by omega))]; exact hO z (fun t ht => hz t (by omega))
end MDP
section MSW
variable {p : Program} {l : Launch} {e : Env} {s : State} {m : MethodId} {args : Array Value} {below : List Frame} {meth : Method} {c : Code} {Q : State → Prop} {D : va_G} {k : Nat → ClassId} {L : List Nat} {H0 : Heap}
variable {own : Nat → Nat} {ma : Nat} {ra adr : Nat → Nat} {pr rw cl : Int32} {F R C Lo Pl To Bo Re Sm Pc : Nat → Int32} {V : Nat → Int}
set_option maxRecDepth 100000 in
set_option maxHeartbeats 4000000 in
theorem w_mswap (S : CallFix p m c c_M_swap 7 s args G R_M) (hr : meth.sig.returnType = none) (hlocks : meth.locks = false) {i r n : Nat} (hi : i < 12) (hr12 : r < 12) (hir : i ≠ r) (hn : n ≤ 12) {f0 : Nat → va_E} {V0 : Nat → Int} {Sm0 : Nat → Int32} :
    ∀ (d j : Nat) (f : Nat → va_E) (V : Nat → Int) (Sm : Nat → Int32) (H : Heap) (locs : List Loc) (ls : Array Slot), j + d = n → MW L own k f ma ra adr pr rw (nI n) F R C Lo Pl To Bo Re Sm Pc V → oe own [200] f0 f → (∀ t u, t < 12 → u < 12 → V (10 + (12 * t + u)) = (if u < j then sw (fun t => V0 (10 + (12 * t + u))) i r t else V0 (10 + (12 * t + u))) ∧ V (154 + (12 * t + u)) = (if u < j then sw (fun t => V0 (154 + (12 * t + u))) i r t else V0 (154 + (12 * t + u))) ∧ Sm (12 * t + u) = (if u < j then sw (fun t => Sm0 (12 * t + u)) i r t else Sm0 (12 * t + u))) → lv_has ls 7 [(0, .ref ma), (1, .int (nI i)), (2, .int (nI r)), (3, .int (nI j))] → gw D cls (tyl k) L s s.heap f H locs →
    W p l e (rmN 1) s m args below meth c H locs 0 0 (MQ below (va_Qv (fun f' => ∃ V' Sm', MW L own k f' ma ra adr pr rw (nI n) F R C Lo Pl To Bo Re Sm' Pc V' ∧ oe own [200] f0 f' ∧ (∀ t u, t < 12 → u < 12 → V' (10 + (12 * t + u)) = (if u < n then sw (fun t => V0 (10 + (12 * t + u))) i r t else V0 (10 + (12 * t + u))) ∧ V' (154 + (12 * t + u)) = (if u < n then sw (fun t => V0 (154 + (12 * t + u))) i r t else V0 (154 + (12 * t + u))) ∧ Sm' (12 * t + u) = (if u < n then sw (fun t => Sm0 (12 * t + u)) i r t else Sm0 (12 * t + u)))) (mst D cls (tyl k) L) (fun q => q ∈ L)) args s 0 0 (fun q => q ∈ L)) (F0 m 2 ls []) := by
  have hx := S.1
  have hb := S.2.1
  have hown : s.vm.findClass R_M = some m.cls := S.2.2.2.1
  have hG := S.2.2.2.2
  intro d
  induction d with
  | zero =>
    intro j f V Sm H locs ls hj h ho hD hl hg
    have hj : j = n := by omega
    subst hj
    have hw : kw D cls (tyl k) L s s.heap f ((mc k ra adr ma pr rw (nI j) F R C Lo Pl To Bo Re Sm Pc)) H locs := ⟨f, hg, h.kn⟩
    -- METHOD M_swap | loc 0=m 1=i 2=r 3=j | ws m fa rc cc lo pl to bo re tp bt sm pc | fld m.fields=fa m.rowCounts=rc m.columnCounts=cc m.loose=lo m.places=pl m.tops=to m.bottoms=bo m.residues=re m.top=tp m.bottom=bt m.small=sm m.place=pc m.one=n0 m.two=n1 m.three=n2 m.four=n3 m.five=n4 m.six=n5 m.seven=n6 m.eight=n7 m.above=n8 m.under=n9
    refine lv_iload_n hx hb d_M_swap_2 rfl (lv_at hl 3 rfl) ?_
    refine lv_aload_n hx hb d_M_swap_3 rfl (lv_at hl 0 rfl) ?_
    refine k_get hx hb hG lay_M hown hw 0 rfl rfl 22 (by decide) (hG _ fl_M_111) (fun _ h9 => h9) rfl d_M_swap_4 ?_
    refine lv_icmp_ge (tgt := 159) hx hb d_M_swap_7 (by decide) (fun hc => ?_) (fun hc => ?_)
    · exact g_retv hx hb hr hlocks hg ⟨V, Sm, h, ho, hD⟩ d_M_swap_159
    · exact absurd (nI_le (by omega) (by omega)) hc
  | succ d ih =>
    intro j f V Sm H locs ls hj h ho hD hl hg
    obtain ⟨x, hx0⟩ : ∃ x, x = 12 * i + j := ⟨_, rfl⟩
    obtain ⟨y, hy0⟩ : ∃ y, y = 12 * r + j := ⟨_, rfl⟩
    have hxy : x ≠ y := by omega
    have hx1 : x < 144 := by omega
    have hy1 : y < 144 := by omega
    have hw : kw D cls (tyl k) L s s.heap f ((mc k ra adr ma pr rw (nI n) F R C Lo Pl To Bo Re Sm Pc)) H locs := ⟨f, hg, h.kn⟩
    -- METHOD M_swap | loc 0=m 1=i 2=r 3=j | ws m fa rc cc lo pl to bo re tp bt sm pc | fld m.fields=fa m.rowCounts=rc m.columnCounts=cc m.loose=lo m.places=pl m.tops=to m.bottoms=bo m.residues=re m.top=tp m.bottom=bt m.small=sm m.place=pc m.one=n0 m.two=n1 m.three=n2 m.four=n3 m.five=n4 m.six=n5 m.seven=n6 m.eight=n7 m.above=n8 m.under=n9
    refine lv_iload_n hx hb d_M_swap_2 rfl (lv_at hl 3 rfl) ?_
    refine lv_aload_n hx hb d_M_swap_3 rfl (lv_at hl 0 rfl) ?_
    refine k_get hx hb hG lay_M hown hw 0 rfl rfl 22 (by decide) (hG _ fl_M_111) (fun _ h9 => h9) rfl d_M_swap_4 ?_
    refine lv_icmp_ge (tgt := 159) hx hb d_M_swap_7 (by decide) (fun hc => ?_) (fun hc => ?_)
    · exact absurd hc (nI_ge (by omega) (by omega))
    refine lv_iload_n hx hb d_M_swap_10 rfl (lv_at hl 1 rfl) ?_
    refine lv_iload_n hx hb d_M_swap_11 rfl (lv_at hl 2 rfl) ?_
    refine lv_icmp_eq (tgt := 159) hx hb d_M_swap_12 (by decide) (fun hc => ?_) (fun hc => ?_)
    · exact absurd (nIj (by omega) (by omega) hc) hir
    refine lv_bipush (v := 12) hx hb d_M_swap_15 (by decide) ?_
    refine lv_iload_n hx hb d_M_swap_17 rfl (lv_at hl 1 rfl) ?_
    refine lv_imul hx hb d_M_swap_18 ?_
    refine l_top (pk_mul 12 i) ?_
    refine lv_iload_n hx hb d_M_swap_19 rfl (lv_at hl 3 rfl) ?_
    refine lv_iadd hx hb d_M_swap_20 ?_
    refine l_top (nI_add (12 * i) j) ?_
    refine l_top (show nI (12 * i + j) = nI x by rw [hx0]) ?_
    refine lv_istore hx hb d_M_swap_21 hl (by decide) rfl (fun ls hl => ?_)
    refine lv_bipush (v := 12) hx hb d_M_swap_23 (by decide) ?_
    refine lv_iload_n hx hb d_M_swap_25 rfl (lv_at hl 3 rfl) ?_
    refine lv_imul hx hb d_M_swap_26 ?_
    refine l_top (pk_mul 12 r) ?_
    refine lv_iload_n hx hb d_M_swap_27 rfl (lv_at hl 4 rfl) ?_
    refine lv_iadd hx hb d_M_swap_28 ?_
    refine l_top (nI_add (12 * r) j) ?_
    refine l_top (show nI (12 * r + j) = nI y by rw [hy0]) ?_
    refine lv_istore hx hb d_M_swap_29 hl (by decide) rfl (fun ls hl => ?_)
    refine lv_aload_n hx hb d_M_swap_31 rfl (lv_at hl 2 rfl) ?_
    refine k_get hx hb hG lay_M hown hw 0 rfl rfl 0 (by decide) (hG _ fl_M_41) (fun _ h9 => h9) rfl d_M_swap_32 ?_
    refine lv_aload_n hx hb d_M_swap_35 rfl (lv_at hl 2 rfl) ?_
    refine k_get hx hb hG lay_M hown hw 0 rfl rfl 16 (by decide) (hG _ fl_M_79) (fun _ h9 => h9) rfl d_M_swap_36 ?_
    refine lv_iload hx hb d_M_swap_39 (lv_at hl 1 rfl) ?_
    refine k_aald hx hb hw 9 4 rfl rfl (x) (rfl) (by omega) (by first | decide | omega) (rfl) d_M_swap_41 ?_
    have hw := hg
    refine g_ov (c_V (np := 1) S (nn_copy l D h.1.2.2.2.2 h.2.2 (i := 0) (a := 10 + x) (by omega) (by omega) (by omega)) hw ((h.2.2 (0) (by omega)).1) ((h.2.2 (0) (by omega)).2.2.choose_spec.choose_spec.choose_spec.1) rfl ml_M_7 im_N_copy se_N_N_copy in_N co_N_copy (by decide +kernel) rfl ⟨rfl, rfl, by decide, by decide⟩ hl.1 rfl (by simp [Value.category]) d_M_swap_42 ⟨Nat.zero_le _, Nat.zero_le _⟩) hw (fun f1 H locs hp hg => ?_)
    obtain ⟨h1, ho1⟩ := h.num hp
    have hw : kw D cls (tyl k) L s s.heap f1 ((mc k ra adr ma pr rw (nI n) F R C Lo Pl To Bo Re Sm Pc)) H locs := ⟨f1, hg, h1.kn⟩
    refine lv_aload_n hx hb d_M_swap_45 rfl (lv_at hl 2 rfl) ?_
    refine k_get hx hb hG lay_M hown hw 0 rfl rfl 16 (by decide) (hG _ fl_M_79) (fun _ h9 => h9) rfl d_M_swap_46 ?_
    refine lv_iload hx hb d_M_swap_49 (lv_at hl 1 rfl) ?_
    refine k_aald hx hb hw 9 4 rfl rfl (x) (rfl) (by omega) (by first | decide | omega) (rfl) d_M_swap_51 ?_
    refine lv_aload_n hx hb d_M_swap_52 rfl (lv_at hl 2 rfl) ?_
    refine k_get hx hb hG lay_M hown hw 0 rfl rfl 16 (by decide) (hG _ fl_M_79) (fun _ h9 => h9) rfl d_M_swap_53 ?_
    refine lv_iload hx hb d_M_swap_56 (lv_at hl 0 rfl) ?_
    refine k_aald hx hb hw 9 4 rfl rfl (y) (rfl) (by omega) (by first | decide | omega) (rfl) d_M_swap_58 ?_
    have hw := hg
    refine g_ov (c_V (np := 1) S (nn_copy l D h1.1.2.2.2.2 h1.2.2 (i := 10 + x) (a := 10 + y) (by omega) (by omega) (by omega)) hw ((h1.2.2 (10 + x) (by omega)).1) ((h1.2.2 (10 + x) (by omega)).2.2.choose_spec.choose_spec.choose_spec.1) rfl ml_M_7 im_N_copy se_N_N_copy in_N co_N_copy (by decide +kernel) rfl ⟨rfl, rfl, by decide, by decide⟩ hl.1 rfl (by simp [Value.category]) d_M_swap_59 ⟨Nat.zero_le _, Nat.zero_le _⟩) hw (fun f2 H locs hp hg => ?_)
    obtain ⟨h2, ho2⟩ := h1.num hp
    have hw : kw D cls (tyl k) L s s.heap f2 ((mc k ra adr ma pr rw (nI n) F R C Lo Pl To Bo Re Sm Pc)) H locs := ⟨f2, hg, h2.kn⟩
    refine lv_aload_n hx hb d_M_swap_62 rfl (lv_at hl 2 rfl) ?_
    refine k_get hx hb hG lay_M hown hw 0 rfl rfl 16 (by decide) (hG _ fl_M_79) (fun _ h9 => h9) rfl d_M_swap_63 ?_
    refine lv_iload hx hb d_M_swap_66 (lv_at hl 0 rfl) ?_
    refine k_aald hx hb hw 9 4 rfl rfl (y) (rfl) (by omega) (by first | decide | omega) (rfl) d_M_swap_68 ?_
    refine lv_aload_n hx hb d_M_swap_69 rfl (lv_at hl 2 rfl) ?_
    refine k_get hx hb hG lay_M hown hw 0 rfl rfl 0 (by decide) (hG _ fl_M_41) (fun _ h9 => h9) rfl d_M_swap_70 ?_
    have hw := hg
    refine g_ov (c_V (np := 1) S (nn_copy l D h2.1.2.2.2.2 h2.2.2 (i := 10 + y) (a := 0) (by omega) (by omega) (by omega)) hw ((h2.2.2 (10 + y) (by omega)).1) ((h2.2.2 (10 + y) (by omega)).2.2.choose_spec.choose_spec.choose_spec.1) rfl ml_M_7 im_N_copy se_N_N_copy in_N co_N_copy (by decide +kernel) rfl ⟨rfl, rfl, by decide, by decide⟩ hl.1 rfl (by simp [Value.category]) d_M_swap_73 ⟨Nat.zero_le _, Nat.zero_le _⟩) hw (fun f3 H locs hp hg => ?_)
    obtain ⟨h3, ho3⟩ := h2.num hp
    have hw : kw D cls (tyl k) L s s.heap f3 ((mc k ra adr ma pr rw (nI n) F R C Lo Pl To Bo Re Sm Pc)) H locs := ⟨f3, hg, h3.kn⟩
    refine lv_aload_n hx hb d_M_swap_76 rfl (lv_at hl 2 rfl) ?_
    refine k_get hx hb hG lay_M hown hw 0 rfl rfl 0 (by decide) (hG _ fl_M_41) (fun _ h9 => h9) rfl d_M_swap_77 ?_
    refine lv_aload_n hx hb d_M_swap_80 rfl (lv_at hl 2 rfl) ?_
    refine k_get hx hb hG lay_M hown hw 0 rfl rfl 17 (by decide) (hG _ fl_M_83) (fun _ h9 => h9) rfl d_M_swap_81 ?_
    refine lv_iload hx hb d_M_swap_84 (lv_at hl 1 rfl) ?_
    refine k_aald hx hb hw 10 4 rfl rfl (x) (rfl) (by omega) (by first | decide | omega) (rfl) d_M_swap_86 ?_
    have hw := hg
    refine g_ov (c_V (np := 1) S (nn_copy l D h3.1.2.2.2.2 h3.2.2 (i := 0) (a := 154 + x) (by omega) (by omega) (by omega)) hw ((h3.2.2 (0) (by omega)).1) ((h3.2.2 (0) (by omega)).2.2.choose_spec.choose_spec.choose_spec.1) rfl ml_M_7 im_N_copy se_N_N_copy in_N co_N_copy (by decide +kernel) rfl ⟨rfl, rfl, by decide, by decide⟩ hl.1 rfl (by simp [Value.category]) d_M_swap_87 ⟨Nat.zero_le _, Nat.zero_le _⟩) hw (fun f4 H locs hp hg => ?_)
    obtain ⟨h4, ho4⟩ := h3.num hp
    have hw : kw D cls (tyl k) L s s.heap f4 ((mc k ra adr ma pr rw (nI n) F R C Lo Pl To Bo Re Sm Pc)) H locs := ⟨f4, hg, h4.kn⟩
    refine lv_aload_n hx hb d_M_swap_90 rfl (lv_at hl 2 rfl) ?_
    refine k_get hx hb hG lay_M hown hw 0 rfl rfl 17 (by decide) (hG _ fl_M_83) (fun _ h9 => h9) rfl d_M_swap_91 ?_
    refine lv_iload hx hb d_M_swap_94 (lv_at hl 1 rfl) ?_
    refine k_aald hx hb hw 10 4 rfl rfl (x) (rfl) (by omega) (by first | decide | omega) (rfl) d_M_swap_96 ?_
    refine lv_aload_n hx hb d_M_swap_97 rfl (lv_at hl 2 rfl) ?_
    refine k_get hx hb hG lay_M hown hw 0 rfl rfl 17 (by decide) (hG _ fl_M_83) (fun _ h9 => h9) rfl d_M_swap_98 ?_
    refine lv_iload hx hb d_M_swap_101 (lv_at hl 0 rfl) ?_
    refine k_aald hx hb hw 10 4 rfl rfl (y) (rfl) (by omega) (by first | decide | omega) (rfl) d_M_swap_103 ?_
    have hw := hg
    refine g_ov (c_V (np := 1) S (nn_copy l D h4.1.2.2.2.2 h4.2.2 (i := 154 + x) (a := 154 + y) (by omega) (by omega) (by omega)) hw ((h4.2.2 (154 + x) (by omega)).1) ((h4.2.2 (154 + x) (by omega)).2.2.choose_spec.choose_spec.choose_spec.1) rfl ml_M_7 im_N_copy se_N_N_copy in_N co_N_copy (by decide +kernel) rfl ⟨rfl, rfl, by decide, by decide⟩ hl.1 rfl (by simp [Value.category]) d_M_swap_104 ⟨Nat.zero_le _, Nat.zero_le _⟩) hw (fun f5 H locs hp hg => ?_)
    obtain ⟨h5, ho5⟩ := h4.num hp
    have hw : kw D cls (tyl k) L s s.heap f5 ((mc k ra adr ma pr rw (nI n) F R C Lo Pl To Bo Re Sm Pc)) H locs := ⟨f5, hg, h5.kn⟩
    refine lv_aload_n hx hb d_M_swap_107 rfl (lv_at hl 2 rfl) ?_
    refine k_get hx hb hG lay_M hown hw 0 rfl rfl 17 (by decide) (hG _ fl_M_83) (fun _ h9 => h9) rfl d_M_swap_108 ?_
    refine lv_iload hx hb d_M_swap_111 (lv_at hl 0 rfl) ?_
    refine k_aald hx hb hw 10 4 rfl rfl (y) (rfl) (by omega) (by first | decide | omega) (rfl) d_M_swap_113 ?_
    refine lv_aload_n hx hb d_M_swap_114 rfl (lv_at hl 2 rfl) ?_
    refine k_get hx hb hG lay_M hown hw 0 rfl rfl 0 (by decide) (hG _ fl_M_41) (fun _ h9 => h9) rfl d_M_swap_115 ?_
    have hw := hg
    refine g_ov (c_V (np := 1) S (nn_copy l D h5.1.2.2.2.2 h5.2.2 (i := 154 + y) (a := 0) (by omega) (by omega) (by omega)) hw ((h5.2.2 (154 + y) (by omega)).1) ((h5.2.2 (154 + y) (by omega)).2.2.choose_spec.choose_spec.choose_spec.1) rfl ml_M_7 im_N_copy se_N_N_copy in_N co_N_copy (by decide +kernel) rfl ⟨rfl, rfl, by decide, by decide⟩ hl.1 rfl (by simp [Value.category]) d_M_swap_118 ⟨Nat.zero_le _, Nat.zero_le _⟩) hw (fun f6 H locs hp hg => ?_)
    obtain ⟨h6, ho6⟩ := h5.num hp
    have key : ∃ V6, MW L own k f6 ma ra adr pr rw (nI n) F R C Lo Pl To Bo Re Sm Pc V6 ∧ V6 (10 + x) = V (10 + y) ∧ V6 (10 + y) = V (10 + x) ∧ V6 (154 + x) = V (154 + y) ∧ V6 (154 + y) = V (154 + x) ∧ ∀ z, 1 ≤ z → z ≠ 10 + x → z ≠ 10 + y → z ≠ 154 + x → z ≠ 154 + y → V6 z = V z := by
      refine ⟨_, h6, ?_, ?_, ?_, ?_, fun z h1 a1 a2 a3 a4 => ?_⟩
      · rw [va_up_ne _ _ (by omega), va_up_ne _ _ (by omega), va_up_ne _ _ (by omega), va_up_ne _ _ (by omega), va_up_self, va_up_ne _ _ (by omega)]
      · rw [va_up_ne _ _ (by omega), va_up_ne _ _ (by omega), va_up_ne _ _ (by omega), va_up_self, va_up_ne _ _ (by omega), va_up_self]
      · rw [va_up_ne _ _ (by omega), va_up_self, va_up_ne _ _ (by omega), va_up_ne _ _ (by omega), va_up_ne _ _ (by omega), va_up_ne _ _ (by omega)]
      · rw [va_up_self, va_up_ne _ _ (by omega), va_up_self, va_up_ne _ _ (by omega), va_up_ne _ _ (by omega), va_up_ne _ _ (by omega)]
      · rw [va_up_ne _ _ a4, va_up_ne _ _ a3, va_up_ne _ _ (by omega), va_up_ne _ _ a2, va_up_ne _ _ a1, va_up_ne _ _ (by omega)]
    clear h6
    obtain ⟨V6, h6, k1, k2, k3, k4, k5⟩ := key
    have hw : kw D cls (tyl k) L s s.heap f6 ((mc k ra adr ma pr rw (nI n) F R C Lo Pl To Bo Re Sm Pc)) H locs := ⟨f6, hg, h6.kn⟩
    refine lv_aload_n hx hb d_M_swap_121 rfl (lv_at hl 2 rfl) ?_
    refine k_get hx hb hG lay_M hown hw 0 rfl rfl 18 (by decide) (hG _ fl_M_86) (fun _ h9 => h9) rfl d_M_swap_122 ?_
    refine lv_iload hx hb d_M_swap_125 (lv_at hl 1 rfl) ?_
    refine k_iald hx hb hw 11 0 rfl rfl (x) (rfl) (by omega) (by first | decide | omega) d_M_swap_127 ?_
    refine lv_istore hx hb d_M_swap_128 hl (by decide) rfl (fun ls hl => ?_)
    refine lv_aload_n hx hb d_M_swap_130 rfl (lv_at hl 3 rfl) ?_
    refine k_get hx hb hG lay_M hown hw 0 rfl rfl 18 (by decide) (hG _ fl_M_86) (fun _ h9 => h9) rfl d_M_swap_131 ?_
    refine lv_iload hx hb d_M_swap_134 (lv_at hl 2 rfl) ?_
    refine lv_aload_n hx hb d_M_swap_136 rfl (lv_at hl 3 rfl) ?_
    refine k_get hx hb hG lay_M hown hw 0 rfl rfl 18 (by decide) (hG _ fl_M_86) (fun _ h9 => h9) rfl d_M_swap_137 ?_
    refine lv_iload hx hb d_M_swap_140 (lv_at hl 1 rfl) ?_
    refine k_iald hx hb hw 11 0 rfl rfl (y) (rfl) (by omega) (by first | decide | omega) d_M_swap_142 ?_
    refine k_iast hx hb hw 11 0 rfl rfl (x) (rfl) (by omega) (by first | decide | omega) d_M_swap_143 (fun H locs hw => ?_)
    refine lv_aload_n hx hb d_M_swap_144 rfl (lv_at hl 3 rfl) ?_
    refine k_get hx hb hG lay_M hown hw 0 rfl rfl 18 (by decide) (hG _ fl_M_86) (fun _ h9 => h9) rfl d_M_swap_145 ?_
    refine lv_iload hx hb d_M_swap_148 (lv_at hl 1 rfl) ?_
    refine lv_iload hx hb d_M_swap_150 (lv_at hl 0 rfl) ?_
    refine k_iast hx hb hw 11 0 rfl rfl (y) (rfl) (by omega) (by first | decide | omega) d_M_swap_152 (fun H locs hw => ?_)
    obtain ⟨f7, hg, hk7⟩ := hw
    obtain ⟨h7, ho7⟩ := h6.back (cl' := nI n) hk7
    refine lv_iinc (k := 6) hx hb d_M_swap_153 hl rfl (ii1 j) (by decide) rfl (fun ls hl => ?_)
    refine lv_goto (tgt := 2) hx hb d_M_swap_156 (by decide) ?_
    have hl := lv_sub hl [4, 5, 6, 0] rfl
    refine ih (j + 1) f7 V6 _ H locs ls (by omega) h7 (ho.trans (ho1.trans (ho2.trans (ho3.trans (ho4.trans (ho5.trans (ho6.trans ho7))))))) (fun t u ht hu => ?_) hl hg
    have hDt := hD t u ht hu
    by_cases eu : u = j
    · rw [if_neg (by omega), if_neg (by omega), if_neg (by omega)] at hDt
      rw [if_pos (by omega), if_pos (by omega), if_pos (by omega)]
      have hDi := hD i u hi hu
      have hDr := hD r u hr12 hu
      rw [if_neg (by omega), if_neg (by omega), if_neg (by omega)] at hDi hDr
      subst eu
      rw [← hx0] at hDi
      rw [← hy0] at hDr
      by_cases e2 : t = r
      · rw [e2, sw_right, sw_right, sw_right, ← hy0]
        show V6 (10 + y) = V0 (10 + (12 * i + u)) ∧ V6 (154 + y) = V0 (154 + (12 * i + u)) ∧ _ = Sm0 (12 * i + u)
        rw [← hx0, k2, k4, pk_us]
        exact hDi
      · by_cases e1 : t = i
        · rw [e1, sw_left, sw_left, sw_left, ← hx0]
          show V6 (10 + x) = V0 (10 + (12 * r + u)) ∧ V6 (154 + x) = V0 (154 + (12 * r + u)) ∧ _ = Sm0 (12 * r + u)
          rw [← hy0, k1, k3, pk_un hxy, pk_us]
          exact hDr
        · rw [sw_other _ e1 e2, sw_other _ e1 e2, sw_other _ e1 e2, k5 _ (by omega) (by omega) (by omega) (by omega) (by omega), k5 _ (by omega) (by omega) (by omega) (by omega) (by omega), pk_un (by omega), pk_un (by omega)]
          exact hDt
    · have e3 : (u < j + 1) ↔ u < j := by omega
      simp only [e3]
      rw [k5 _ (by omega) (by omega) (by omega) (by omega) (by omega), k5 _ (by omega) (by omega) (by omega) (by omega) (by omega), pk_un (by omega), pk_un (by omega)]
      exact hDt
end MSW
section MDT
variable (l : Launch) (D : va_G) {L : List Nat} {k : Nat → ClassId} {f : Nat → va_E} {own : Nat → Nat} {ma : Nat} {ra adr : Nat → Nat} {pr rw cl : Int32} {F R C Lo Pl To Bo Re Sm Pc : Nat → Int32} {V : Nat → Int} {n i r c0 : Nat}
set_option maxRecDepth 100000 in
set_option maxHeartbeats 4000000 in
theorem m_M_divideQ (h : MW L own k f ma ra adr (nI 0) rw (nI n) F R C Lo Pl To Bo Re Sm Pc V) (hi : i < 12) (hn : n ≤ 12) (hc0 : c0 < n) (hac : V (10 + (12 * i + c0)) ≠ 0) (h9 : ∀ t, t < n → (V (10 + (12 * i + t))).natAbs < D16 ^ 25 ∧ (V (154 + (12 * i + t))).natAbs < D16 ^ 25 ∧ V (154 + (12 * i + t)) ≠ 0) : Mv l y_M_divide (Cond.code y_M_divide c_M_divide 6 none :: G) (rmN 5) D cls (tyl k) L f [.ref ma, .int (nI i), .int (nI c0)] (fun f' => ∃ V', MW L own k f' ma ra adr (nI 0) rw (nI n) F R C Lo Pl To Bo Re Sm Pc V' ∧ oe own [200] f f' ∧ (∀ t, t < n → low (V' (10 + (12 * i + t))) (V' (154 + (12 * i + t))) ∧ V' (10 + (12 * i + t)) * (V (154 + (12 * i + t)) * V (10 + (12 * i + c0))) = V' (154 + (12 * i + t)) * (V (10 + (12 * i + t)) * V (154 + (12 * i + c0)))) ∧ (∀ x, 10 ≤ x → (∀ t, t < n → x ≠ 10 + (12 * i + t) ∧ x ≠ 154 + (12 * i + t)) → V' x = V x)) := by
  -- METHOD M_divide | loc 0=m 1=i 2=c | ws m fa rc cc lo pl to bo re tp bt sm pc | fld m.fields=fa m.rowCounts=rc m.columnCounts=cc m.loose=lo m.places=pl m.tops=to m.bottoms=bo m.residues=re m.top=tp m.bottom=bt m.small=sm m.place=pc m.one=n0 m.two=n1 m.three=n2 m.four=n3 m.five=n4 m.six=n5 m.seven=n6 m.eight=n7 m.above=n8 m.under=n9
  refine mk_met (by decide) (Nat.le_of_ble_eq_true rfl) (fun p e s m below meth c ls S hr hlocks hw hl => ?_)
  have hx := S.1
  have hb := S.2.1
  have hown : s.vm.findClass R_M = some m.cls := S.2.2.2.1
  have hG := S.2.2.2.2
  have hl : lv_has ls 6 [(0, .ref ma), (1, .int (nI i)), (2, .int (nI c0))] := hl
  have hg := hw
  have hw : kw D cls (tyl k) L s s.heap f ((mc k ra adr ma (nI 0) rw (nI n) F R C Lo Pl To Bo Re Sm Pc)) s.heap [] := ⟨f, hw, h.kn⟩
  refine lv_bipush (v := 12) hx hb d_M_divide_0 (by decide) ?_
  refine lv_iload_n hx hb d_M_divide_2 rfl (lv_at hl 1 rfl) ?_
  refine lv_imul hx hb d_M_divide_3 ?_
  refine l_top (pk_mul 12 i) ?_
  refine lv_iload_n hx hb d_M_divide_4 rfl (lv_at hl 2 rfl) ?_
  refine lv_iadd hx hb d_M_divide_5 ?_
  refine l_top (nI_add (12 * i) c0) ?_
  refine lv_istore_n hx hb d_M_divide_6 rfl hl (by decide) rfl (fun ls hl => ?_)
  refine lv_aload_n hx hb d_M_divide_7 rfl (lv_at hl 1 rfl) ?_
  refine k_get hx hb hG lay_M hown hw 0 rfl rfl 20 (by decide) (hG _ fl_M_105) (fun _ h9 => h9) rfl d_M_divide_8 ?_
  refine lv_if_le (tgt := 77) hx hb d_M_divide_11 (by decide) (fun hc => ?_) (fun hc => ?_)
  rotate_left
  · exact absurd (show nI 0 ≤ 0 by decide) hc
  refine lv_aload_n hx hb d_M_divide_77 rfl (lv_at hl 1 rfl) ?_
  refine k_get hx hb hG lay_M hown hw 0 rfl rfl 23 (by decide) (hG _ fl_M_92) (fun _ h9 => h9) rfl d_M_divide_78 ?_
  refine lv_aload_n hx hb d_M_divide_81 rfl (lv_at hl 1 rfl) ?_
  refine k_get hx hb hG lay_M hown hw 0 rfl rfl 16 (by decide) (hG _ fl_M_79) (fun _ h9 => h9) rfl d_M_divide_82 ?_
  refine lv_iload_n hx hb d_M_divide_85 rfl (lv_at hl 0 rfl) ?_
  refine k_aald hx hb hw 9 4 rfl rfl ((12 * i + c0)) (rfl) (by omega) (by first | decide | omega) (rfl) d_M_divide_86 ?_
  have hw := hg
  refine g_ov (c_V (np := 1) S (nn_copy l D h.1.2.2.2.2 h.2.2 (i := 8) (a := 10 + (12 * i + c0)) (by omega) (by omega) (by omega)) hw ((h.2.2 (8) (by omega)).1) ((h.2.2 (8) (by omega)).2.2.choose_spec.choose_spec.choose_spec.1) rfl ml_M_7 im_N_copy se_N_N_copy in_N co_N_copy (by decide +kernel) rfl ⟨rfl, rfl, by decide, by decide⟩ hl.1 rfl (by simp [Value.category]) d_M_divide_87 ⟨Nat.zero_le _, Nat.zero_le _⟩) hw (fun f1 H locs hp hg => ?_)
  obtain ⟨h1, ho1⟩ := h.num hp
  have hw : kw D cls (tyl k) L s s.heap f1 ((mc k ra adr ma (nI 0) rw (nI n) F R C Lo Pl To Bo Re Sm Pc)) H locs := ⟨f1, hg, h1.kn⟩
  refine lv_aload_n hx hb d_M_divide_90 rfl (lv_at hl 1 rfl) ?_
  refine k_get hx hb hG lay_M hown hw 0 rfl rfl 24 (by decide) (hG _ fl_M_95) (fun _ h9 => h9) rfl d_M_divide_91 ?_
  refine lv_aload_n hx hb d_M_divide_94 rfl (lv_at hl 1 rfl) ?_
  refine k_get hx hb hG lay_M hown hw 0 rfl rfl 17 (by decide) (hG _ fl_M_83) (fun _ h9 => h9) rfl d_M_divide_95 ?_
  refine lv_iload_n hx hb d_M_divide_98 rfl (lv_at hl 0 rfl) ?_
  refine k_aald hx hb hw 10 4 rfl rfl ((12 * i + c0)) (rfl) (by omega) (by first | decide | omega) (rfl) d_M_divide_99 ?_
  have hw := hg
  refine g_ov (c_V (np := 1) S (nn_copy l D h1.1.2.2.2.2 h1.2.2 (i := 9) (a := 154 + (12 * i + c0)) (by omega) (by omega) (by omega)) hw ((h1.2.2 (9) (by omega)).1) ((h1.2.2 (9) (by omega)).2.2.choose_spec.choose_spec.choose_spec.1) rfl ml_M_7 im_N_copy se_N_N_copy in_N co_N_copy (by decide +kernel) rfl ⟨rfl, rfl, by decide, by decide⟩ hl.1 rfl (by simp [Value.category]) d_M_divide_100 ⟨Nat.zero_le _, Nat.zero_le _⟩) hw (fun f2 H locs hp hg => ?_)
  obtain ⟨h2, ho2⟩ := h1.num hp
  refine lv_iconst (v := 0) hx hb d_M_divide_103 (by decide) ?_
  refine lv_istore hx hb d_M_divide_104 hl (by decide) rfl (fun ls hl => ?_)
  have hl := lv_sub hl [2, 3, 0] rfl
  obtain ⟨a1, a2, a3⟩ := h9 c0 hc0
  refine w_mdivQ S hr hlocks hi hn (V0 := V) (ac := V (10 + (12 * i + c0))) (bc := V (154 + (12 * i + c0))) hac a1 a2 h9 n 0 f2 _ H locs ls (by omega) h2 (ho1.trans ho2) ?_ ?_ (fun t ht => by omega) (fun x hx _ => ?_) hl hg
  · rw [va_up_ne _ _ (by omega), va_up_self]
  · rw [va_up_self, va_up_ne _ _ (by omega)]
  · rw [va_up_ne _ _ (by omega), va_up_ne _ _ (by omega)]
set_option maxRecDepth 100000 in
set_option maxHeartbeats 4000000 in
theorem m_M_takeQ (h : MW L own k f ma ra adr (nI 0) rw (nI n) F R C Lo Pl To Bo Re Sm Pc V) (hi : i < 12) (hr12 : r < 12) (hir : i ≠ r) (hn : n ≤ 12) (hc0 : c0 < n) (h9 : ∀ z t, z = i ∨ z = r → t < n → (V (10 + (12 * z + t))).natAbs < D16 ^ 25 ∧ (V (154 + (12 * z + t))).natAbs < D16 ^ 25 ∧ V (154 + (12 * z + t)) ≠ 0) : Mv l y_M_take (Cond.code y_M_take c_M_take 9 none :: G) (rmN 5) D cls (tyl k) L f [.ref ma, .int (nI i), .int (nI r), .int (nI c0)] (fun f' => ∃ V', MW L own k f' ma ra adr (nI 0) rw (nI n) F R C Lo Pl To Bo Re Sm Pc V' ∧ oe own [200] f f' ∧ (∀ t, t < n → low (V' (10 + (12 * i + t))) (V' (154 + (12 * i + t))) ∧ V' (10 + (12 * i + t)) * (V (154 + (12 * i + t)) * (V (154 + (12 * i + c0)) * V (154 + (12 * r + t)))) = V' (154 + (12 * i + t)) * (V (10 + (12 * i + t)) * (V (154 + (12 * i + c0)) * V (154 + (12 * r + t))) - V (10 + (12 * i + c0)) * V (10 + (12 * r + t)) * V (154 + (12 * i + t)))) ∧ (∀ x, 10 ≤ x → (∀ t, t < n → x ≠ 10 + (12 * i + t) ∧ x ≠ 154 + (12 * i + t)) → V' x = V x)) := by
  -- METHOD M_take | loc 0=m 1=i 2=r 3=c | ws m fa rc cc lo pl to bo re tp bt sm pc | fld m.fields=fa m.rowCounts=rc m.columnCounts=cc m.loose=lo m.places=pl m.tops=to m.bottoms=bo m.residues=re m.top=tp m.bottom=bt m.small=sm m.place=pc m.one=n0 m.two=n1 m.three=n2 m.four=n3 m.five=n4 m.six=n5 m.seven=n6 m.eight=n7 m.above=n8 m.under=n9
  refine mk_met (by decide) (Nat.le_of_ble_eq_true rfl) (fun p e s m below meth c ls S hr hlocks hw hl => ?_)
  have hx := S.1
  have hb := S.2.1
  have hown : s.vm.findClass R_M = some m.cls := S.2.2.2.1
  have hG := S.2.2.2.2
  have hl : lv_has ls 9 [(0, .ref ma), (1, .int (nI i)), (2, .int (nI r)), (3, .int (nI c0))] := hl
  have hg := hw
  have hw : kw D cls (tyl k) L s s.heap f ((mc k ra adr ma (nI 0) rw (nI n) F R C Lo Pl To Bo Re Sm Pc)) s.heap [] := ⟨f, hw, h.kn⟩
  refine lv_bipush (v := 12) hx hb d_M_take_0 (by decide) ?_
  refine lv_iload_n hx hb d_M_take_2 rfl (lv_at hl 1 rfl) ?_
  refine lv_imul hx hb d_M_take_3 ?_
  refine l_top (pk_mul 12 i) ?_
  refine lv_iload_n hx hb d_M_take_4 rfl (lv_at hl 3 rfl) ?_
  refine lv_iadd hx hb d_M_take_5 ?_
  refine l_top (nI_add (12 * i) c0) ?_
  refine lv_istore hx hb d_M_take_6 hl (by decide) rfl (fun ls hl => ?_)
  refine lv_aload_n hx hb d_M_take_8 rfl (lv_at hl 1 rfl) ?_
  refine k_get hx hb hG lay_M hown hw 0 rfl rfl 18 (by decide) (hG _ fl_M_86) (fun _ h9 => h9) rfl d_M_take_9 ?_
  refine lv_iload hx hb d_M_take_12 (lv_at hl 0 rfl) ?_
  refine k_iald hx hb hw 11 0 rfl rfl ((12 * i + c0)) (rfl) (by omega) (by first | decide | omega) d_M_take_14 ?_
  refine lv_istore hx hb d_M_take_15 hl (by decide) rfl (fun ls hl => ?_)
  refine lv_aload_n hx hb d_M_take_17 rfl (lv_at hl 2 rfl) ?_
  refine k_get hx hb hG lay_M hown hw 0 rfl rfl 23 (by decide) (hG _ fl_M_92) (fun _ h9 => h9) rfl d_M_take_18 ?_
  refine lv_aload_n hx hb d_M_take_21 rfl (lv_at hl 2 rfl) ?_
  refine k_get hx hb hG lay_M hown hw 0 rfl rfl 16 (by decide) (hG _ fl_M_79) (fun _ h9 => h9) rfl d_M_take_22 ?_
  refine lv_iload hx hb d_M_take_25 (lv_at hl 1 rfl) ?_
  refine k_aald hx hb hw 9 4 rfl rfl ((12 * i + c0)) (rfl) (by omega) (by first | decide | omega) (rfl) d_M_take_27 ?_
  have hw := hg
  refine g_ov (c_V (np := 1) S (nn_copy l D h.1.2.2.2.2 h.2.2 (i := 8) (a := 10 + (12 * i + c0)) (by omega) (by omega) (by omega)) hw ((h.2.2 (8) (by omega)).1) ((h.2.2 (8) (by omega)).2.2.choose_spec.choose_spec.choose_spec.1) rfl ml_M_7 im_N_copy se_N_N_copy in_N co_N_copy (by decide +kernel) rfl ⟨rfl, rfl, by decide, by decide⟩ hl.1 rfl (by simp [Value.category]) d_M_take_28 ⟨Nat.zero_le _, Nat.zero_le _⟩) hw (fun f1 H locs hp hg => ?_)
  obtain ⟨h1, ho1⟩ := h.num hp
  have hw : kw D cls (tyl k) L s s.heap f1 ((mc k ra adr ma (nI 0) rw (nI n) F R C Lo Pl To Bo Re Sm Pc)) H locs := ⟨f1, hg, h1.kn⟩
  refine lv_aload_n hx hb d_M_take_31 rfl (lv_at hl 2 rfl) ?_
  refine k_get hx hb hG lay_M hown hw 0 rfl rfl 24 (by decide) (hG _ fl_M_95) (fun _ h9 => h9) rfl d_M_take_32 ?_
  refine lv_aload_n hx hb d_M_take_35 rfl (lv_at hl 2 rfl) ?_
  refine k_get hx hb hG lay_M hown hw 0 rfl rfl 17 (by decide) (hG _ fl_M_83) (fun _ h9 => h9) rfl d_M_take_36 ?_
  refine lv_iload hx hb d_M_take_39 (lv_at hl 1 rfl) ?_
  refine k_aald hx hb hw 10 4 rfl rfl ((12 * i + c0)) (rfl) (by omega) (by first | decide | omega) (rfl) d_M_take_41 ?_
  have hw := hg
  refine g_ov (c_V (np := 1) S (nn_copy l D h1.1.2.2.2.2 h1.2.2 (i := 9) (a := 154 + (12 * i + c0)) (by omega) (by omega) (by omega)) hw ((h1.2.2 (9) (by omega)).1) ((h1.2.2 (9) (by omega)).2.2.choose_spec.choose_spec.choose_spec.1) rfl ml_M_7 im_N_copy se_N_N_copy in_N co_N_copy (by decide +kernel) rfl ⟨rfl, rfl, by decide, by decide⟩ hl.1 rfl (by simp [Value.category]) d_M_take_42 ⟨Nat.zero_le _, Nat.zero_le _⟩) hw (fun f2 H locs hp hg => ?_)
  obtain ⟨h2, ho2⟩ := h1.num hp
  refine lv_iconst (v := 0) hx hb d_M_take_45 (by decide) ?_
  refine lv_istore hx hb d_M_take_46 hl (by decide) rfl (fun ls hl => ?_)
  have hl := lv_sub hl [3, 4, 5, 0] rfl
  obtain ⟨a1, a2, a3⟩ := h9 i c0 (Or.inl rfl) hc0
  refine w_mtakQ S hr hlocks hi hr12 hir hn (V0 := V) (ac := V (10 + (12 * i + c0))) (bc := V (154 + (12 * i + c0))) a1 a2 a3 h9 n 0 f2 _ H locs ls (by omega) h2 (ho1.trans ho2) ?_ ?_ (fun t ht => by omega) (fun x hx _ => ?_) hl hg
  · rw [va_up_ne _ _ (by omega), va_up_self]
  · rw [va_up_self, va_up_ne _ _ (by omega)]
  · rw [va_up_ne _ _ (by omega), va_up_ne _ _ (by omega)]
variable {q : Nat} {sv : Nat → Nat}
set_option maxRecDepth 100000 in
set_option maxHeartbeats 4000000 in
theorem m_M_divideP {cz : Nat} (h : MW L own k f ma ra adr (nI q) rw (nI n) F R C Lo Pl To Bo Re Sm Pc V) (hi : i < 12) (hn : n ≤ 12) (hc0 : c0 < n) (hq : q ≤ 251) (hsv : ∀ t, t < n → Sm (12 * i + t) = nI (sv (12 * i + t)) ∧ sv (12 * i + t) < q) (h1 : 1 ≤ cz) (hcz : cz < q) (hc1 : cz * sv (12 * i + c0) % q = 1) : Mv l y_M_divide (Cond.code y_M_divide c_M_divide 6 none :: G) (rmN 5) D cls (tyl k) L f [.ref ma, .int (nI i), .int (nI c0)] (fun f' => ∃ x : Nat, 1 ≤ x ∧ x < q ∧ x * sv (12 * i + c0) % q = 1 ∧ ∃ Sm', MW L own k f' ma ra adr (nI q) rw (nI n) F R C Lo Pl To Bo Re Sm' Pc V ∧ oe own [200] f f' ∧ (∀ t, t < n → Sm' (12 * i + t) = nI (sv (12 * i + t) * x % q)) ∧ ∀ z, (∀ t, t < n → z ≠ 12 * i + t) → Sm' z = Sm z) := by
  obtain ⟨b1, b2⟩ := hsv c0 hc0
  -- METHOD M_divide | loc 0=m 1=i 2=c | ws m fa rc cc lo pl to bo re tp bt sm pc | fld m.fields=fa m.rowCounts=rc m.columnCounts=cc m.loose=lo m.places=pl m.tops=to m.bottoms=bo m.residues=re m.top=tp m.bottom=bt m.small=sm m.place=pc m.one=n0 m.two=n1 m.three=n2 m.four=n3 m.five=n4 m.six=n5 m.seven=n6 m.eight=n7 m.above=n8 m.under=n9
  refine mk_met (by decide) (Nat.le_of_ble_eq_true rfl) (fun p e s m below meth c ls S hr hlocks hw hl => ?_)
  have hx := S.1
  have hb := S.2.1
  have hown : s.vm.findClass R_M = some m.cls := S.2.2.2.1
  have hG := S.2.2.2.2
  have hl : lv_has ls 6 [(0, .ref ma), (1, .int (nI i)), (2, .int (nI c0))] := hl
  have hg := hw
  have hw : kw D cls (tyl k) L s s.heap f ((mc k ra adr ma (nI q) rw (nI n) F R C Lo Pl To Bo Re Sm Pc)) s.heap [] := ⟨f, hw, h.kn⟩
  refine lv_bipush (v := 12) hx hb d_M_divide_0 (by decide) ?_
  refine lv_iload_n hx hb d_M_divide_2 rfl (lv_at hl 1 rfl) ?_
  refine lv_imul hx hb d_M_divide_3 ?_
  refine l_top (pk_mul 12 i) ?_
  refine lv_iload_n hx hb d_M_divide_4 rfl (lv_at hl 2 rfl) ?_
  refine lv_iadd hx hb d_M_divide_5 ?_
  refine l_top (nI_add (12 * i) c0) ?_
  refine lv_istore_n hx hb d_M_divide_6 rfl hl (by decide) rfl (fun ls hl => ?_)
  refine lv_aload_n hx hb d_M_divide_7 rfl (lv_at hl 1 rfl) ?_
  refine k_get hx hb hG lay_M hown hw 0 rfl rfl 20 (by decide) (hG _ fl_M_105) (fun _ h9 => h9) rfl d_M_divide_8 ?_
  refine lv_if_le (tgt := 77) hx hb d_M_divide_11 (by decide) (fun hc => ?_) (fun hc => ?_)
  · exact absurd hc (nI_nle (by omega) (by omega))
  refine lv_aload_n hx hb d_M_divide_14 rfl (lv_at hl 1 rfl) ?_
  refine lv_aload_n hx hb d_M_divide_15 rfl (lv_at hl 1 rfl) ?_
  refine k_get hx hb hG lay_M hown hw 0 rfl rfl 18 (by decide) (hG _ fl_M_86) (fun _ h9 => h9) rfl d_M_divide_16 ?_
  refine lv_iload_n hx hb d_M_divide_19 rfl (lv_at hl 0 rfl) ?_
  refine k_iald hx hb hw 11 0 rfl rfl ((12 * i + c0)) (rfl) (by omega) (by first | decide | omega) d_M_divide_20 ?_
  refine l_top b1 ?_
  have hw := hg
  refine g_oi (c_V (np := 1) S (m_M_inverse l D h b2 hq h1 hcz hc1) hw (h.1.1.1) (h.2.1 _ (List.mem_cons_self)) rfl ml_M_142 im_M_inverse se_M_M_inverse in_M co_M_inverse (by decide +kernel) rfl ⟨rfl, rfl, by decide, by decide⟩ hl.1 rfl (by simp [Value.category]) d_M_divide_21 ⟨Nat.zero_le _, Nat.zero_le _⟩) hw (fun r1 f1 H locs hp hg => ?_)
  obtain ⟨e1, x, er, x1, x2, x3⟩ := hp
  rw [e1] at hg
  subst er
  refine lv_istore hx hb d_M_divide_24 hl (by decide) rfl (fun ls hl => ?_)
  refine lv_iconst (v := 0) hx hb d_M_divide_26 (by decide) ?_
  refine lv_istore hx hb d_M_divide_27 hl (by decide) rfl (fun ls hl => ?_)
  have hl := lv_sub hl [3, 4, 1, 0] rfl
  exact w_mdivP S hr hlocks hi hn hq x1 x2 x3 (f0 := f) (Sm0 := Sm) hsv n 0 f Sm H locs ls (by omega) h oe.rf (fun t ht => by omega) (fun _ _ => rfl) hl hg
set_option maxRecDepth 100000 in
set_option maxHeartbeats 4000000 in
theorem m_M_takeP (h : MW L own k f ma ra adr (nI q) rw (nI n) F R C Lo Pl To Bo Re Sm Pc V) (hi : i < 12) (hr12 : r < 12) (hir : i ≠ r) (hn : n ≤ 12) (hc0 : c0 < n) (hq : q ≤ 251) (hq0 : 0 < q) (hsv : ∀ z t, z = i ∨ z = r → t < n → Sm (12 * z + t) = nI (sv (12 * z + t)) ∧ sv (12 * z + t) < q) : Mv l y_M_take (Cond.code y_M_take c_M_take 9 none :: G) (rmN 5) D cls (tyl k) L f [.ref ma, .int (nI i), .int (nI r), .int (nI c0)] (fun f' => ∃ V' Sm', MW L own k f' ma ra adr (nI q) rw (nI n) F R C Lo Pl To Bo Re Sm' Pc V' ∧ oe own [200] f f' ∧ (∀ z, 10 ≤ z → V' z = V z) ∧ (∀ t, t < n → Sm' (12 * i + t) = nI ((sv (12 * i + t) + (q - sv (12 * i + c0)) * sv (12 * r + t)) % q)) ∧ ∀ z, (∀ t, t < n → z ≠ 12 * i + t) → Sm' z = Sm z) := by
  obtain ⟨b1, b2⟩ := hsv i c0 (Or.inl rfl) hc0
  -- METHOD M_take | loc 0=m 1=i 2=r 3=c | ws m fa rc cc lo pl to bo re tp bt sm pc | fld m.fields=fa m.rowCounts=rc m.columnCounts=cc m.loose=lo m.places=pl m.tops=to m.bottoms=bo m.residues=re m.top=tp m.bottom=bt m.small=sm m.place=pc m.one=n0 m.two=n1 m.three=n2 m.four=n3 m.five=n4 m.six=n5 m.seven=n6 m.eight=n7 m.above=n8 m.under=n9
  refine mk_met (by decide) (Nat.le_of_ble_eq_true rfl) (fun p e s m below meth c ls S hr hlocks hw hl => ?_)
  have hx := S.1
  have hb := S.2.1
  have hown : s.vm.findClass R_M = some m.cls := S.2.2.2.1
  have hG := S.2.2.2.2
  have hl : lv_has ls 9 [(0, .ref ma), (1, .int (nI i)), (2, .int (nI r)), (3, .int (nI c0))] := hl
  have hg := hw
  have hw : kw D cls (tyl k) L s s.heap f ((mc k ra adr ma (nI q) rw (nI n) F R C Lo Pl To Bo Re Sm Pc)) s.heap [] := ⟨f, hw, h.kn⟩
  refine lv_bipush (v := 12) hx hb d_M_take_0 (by decide) ?_
  refine lv_iload_n hx hb d_M_take_2 rfl (lv_at hl 1 rfl) ?_
  refine lv_imul hx hb d_M_take_3 ?_
  refine l_top (pk_mul 12 i) ?_
  refine lv_iload_n hx hb d_M_take_4 rfl (lv_at hl 3 rfl) ?_
  refine lv_iadd hx hb d_M_take_5 ?_
  refine l_top (nI_add (12 * i) c0) ?_
  refine lv_istore hx hb d_M_take_6 hl (by decide) rfl (fun ls hl => ?_)
  refine lv_aload_n hx hb d_M_take_8 rfl (lv_at hl 1 rfl) ?_
  refine k_get hx hb hG lay_M hown hw 0 rfl rfl 18 (by decide) (hG _ fl_M_86) (fun _ h9 => h9) rfl d_M_take_9 ?_
  refine lv_iload hx hb d_M_take_12 (lv_at hl 0 rfl) ?_
  refine k_iald hx hb hw 11 0 rfl rfl ((12 * i + c0)) (rfl) (by omega) (by first | decide | omega) d_M_take_14 ?_
  refine l_top b1 ?_
  refine lv_istore hx hb d_M_take_15 hl (by decide) rfl (fun ls hl => ?_)
  refine lv_aload_n hx hb d_M_take_17 rfl (lv_at hl 2 rfl) ?_
  refine k_get hx hb hG lay_M hown hw 0 rfl rfl 23 (by decide) (hG _ fl_M_92) (fun _ h9 => h9) rfl d_M_take_18 ?_
  refine lv_aload_n hx hb d_M_take_21 rfl (lv_at hl 2 rfl) ?_
  refine k_get hx hb hG lay_M hown hw 0 rfl rfl 16 (by decide) (hG _ fl_M_79) (fun _ h9 => h9) rfl d_M_take_22 ?_
  refine lv_iload hx hb d_M_take_25 (lv_at hl 1 rfl) ?_
  refine k_aald hx hb hw 9 4 rfl rfl ((12 * i + c0)) (rfl) (by omega) (by first | decide | omega) (rfl) d_M_take_27 ?_
  have hw := hg
  refine g_ov (c_V (np := 1) S (nn_copy l D h.1.2.2.2.2 h.2.2 (i := 8) (a := 10 + (12 * i + c0)) (by omega) (by omega) (by omega)) hw ((h.2.2 (8) (by omega)).1) ((h.2.2 (8) (by omega)).2.2.choose_spec.choose_spec.choose_spec.1) rfl ml_M_7 im_N_copy se_N_N_copy in_N co_N_copy (by decide +kernel) rfl ⟨rfl, rfl, by decide, by decide⟩ hl.1 rfl (by simp [Value.category]) d_M_take_28 ⟨Nat.zero_le _, Nat.zero_le _⟩) hw (fun f1 H locs hp hg => ?_)
  obtain ⟨h1, ho1⟩ := h.num hp
  have hw : kw D cls (tyl k) L s s.heap f1 ((mc k ra adr ma (nI q) rw (nI n) F R C Lo Pl To Bo Re Sm Pc)) H locs := ⟨f1, hg, h1.kn⟩
  refine lv_aload_n hx hb d_M_take_31 rfl (lv_at hl 2 rfl) ?_
  refine k_get hx hb hG lay_M hown hw 0 rfl rfl 24 (by decide) (hG _ fl_M_95) (fun _ h9 => h9) rfl d_M_take_32 ?_
  refine lv_aload_n hx hb d_M_take_35 rfl (lv_at hl 2 rfl) ?_
  refine k_get hx hb hG lay_M hown hw 0 rfl rfl 17 (by decide) (hG _ fl_M_83) (fun _ h9 => h9) rfl d_M_take_36 ?_
  refine lv_iload hx hb d_M_take_39 (lv_at hl 1 rfl) ?_
  refine k_aald hx hb hw 10 4 rfl rfl ((12 * i + c0)) (rfl) (by omega) (by first | decide | omega) (rfl) d_M_take_41 ?_
  have hw := hg
  refine g_ov (c_V (np := 1) S (nn_copy l D h1.1.2.2.2.2 h1.2.2 (i := 9) (a := 154 + (12 * i + c0)) (by omega) (by omega) (by omega)) hw ((h1.2.2 (9) (by omega)).1) ((h1.2.2 (9) (by omega)).2.2.choose_spec.choose_spec.choose_spec.1) rfl ml_M_7 im_N_copy se_N_N_copy in_N co_N_copy (by decide +kernel) rfl ⟨rfl, rfl, by decide, by decide⟩ hl.1 rfl (by simp [Value.category]) d_M_take_42 ⟨Nat.zero_le _, Nat.zero_le _⟩) hw (fun f2 H locs hp hg => ?_)
  obtain ⟨h2, ho2⟩ := h1.num hp
  refine lv_iconst (v := 0) hx hb d_M_take_45 (by decide) ?_
  refine lv_istore hx hb d_M_take_46 hl (by decide) rfl (fun ls hl => ?_)
  have hl := lv_sub hl [3, 4, 5, 1, 0] rfl
  exact w_mtakP S hr hlocks hi hr12 hir hn hq hq0 b2 (Sm0 := Sm) hsv n 0 f2 Sm H locs ls (by omega) h2 (ho1.trans ho2) (fun z hz => by rw [va_up_ne _ _ (by omega), va_up_ne _ _ (by omega)]) (fun t ht => by omega) (fun _ _ => rfl) hl hg
set_option maxRecDepth 100000 in
set_option maxHeartbeats 4000000 in
theorem m_M_swap (h : MW L own k f ma ra adr pr rw (nI n) F R C Lo Pl To Bo Re Sm Pc V) (hi : i < 12) (hr12 : r < 12) (hn : n ≤ 12) : Mv l y_M_swap (Cond.code y_M_swap c_M_swap 7 none :: G) (rmN 1) D cls (tyl k) L f [.ref ma, .int (nI i), .int (nI r)] (fun f' => ∃ V' Sm', MW L own k f' ma ra adr pr rw (nI n) F R C Lo Pl To Bo Re Sm' Pc V' ∧ oe own [200] f f' ∧ (∀ t u, t < 12 → u < 12 → V' (10 + (12 * t + u)) = (if u < n then sw (fun t => V (10 + (12 * t + u))) i r t else V (10 + (12 * t + u))) ∧ V' (154 + (12 * t + u)) = (if u < n then sw (fun t => V (154 + (12 * t + u))) i r t else V (154 + (12 * t + u))) ∧ Sm' (12 * t + u) = (if u < n then sw (fun t => Sm (12 * t + u)) i r t else Sm (12 * t + u)))) := by
  -- METHOD M_swap | loc 0=m 1=i 2=r | ws m fa rc cc lo pl to bo re tp bt sm pc | fld m.fields=fa m.rowCounts=rc m.columnCounts=cc m.loose=lo m.places=pl m.tops=to m.bottoms=bo m.residues=re m.top=tp m.bottom=bt m.small=sm m.place=pc m.one=n0 m.two=n1 m.three=n2 m.four=n3 m.five=n4 m.six=n5 m.seven=n6 m.eight=n7 m.above=n8 m.under=n9
  refine mk_met (by decide) (Nat.le_of_ble_eq_true rfl) (fun p e s m below meth c ls S hr hlocks hw hl => ?_)
  have hx := S.1
  have hb := S.2.1
  have hown : s.vm.findClass R_M = some m.cls := S.2.2.2.1
  have hG := S.2.2.2.2
  have hl : lv_has ls 7 [(0, .ref ma), (1, .int (nI i)), (2, .int (nI r))] := hl
  have hg := hw
  refine lv_iconst (v := 0) hx hb d_M_swap_0 (by decide) ?_
  refine lv_istore_n hx hb d_M_swap_1 rfl hl (by decide) rfl (fun ls hl => ?_)
  have hl := lv_sub hl [1, 2, 3, 0] rfl
  by_cases hir : i = r
  · subst hir
    have hsame : ∀ {α : Type} (g : Nat → α) (t : Nat), sw g i i t = g t := fun g t => by
      by_cases e : t = i
      · rw [e, sw_right]
      · exact sw_other _ e e
    have fin : ∀ t u, t < 12 → u < 12 → V (10 + (12 * t + u)) = (if u < n then sw (fun t => V (10 + (12 * t + u))) i i t else V (10 + (12 * t + u))) ∧ V (154 + (12 * t + u)) = (if u < n then sw (fun t => V (154 + (12 * t + u))) i i t else V (154 + (12 * t + u))) ∧ Sm (12 * t + u) = (if u < n then sw (fun t => Sm (12 * t + u)) i i t else Sm (12 * t + u)) := fun t u _ _ => by
      rw [hsame, hsame, hsame]
      by_cases hu : u < n
      · rw [if_pos hu, if_pos hu, if_pos hu]; exact ⟨rfl, rfl, rfl⟩
      · rw [if_neg hu, if_neg hu, if_neg hu]; exact ⟨rfl, rfl, rfl⟩
    have hw : kw D cls (tyl k) L s s.heap f ((mc k ra adr ma pr rw (nI n) F R C Lo Pl To Bo Re Sm Pc)) s.heap [] := ⟨f, hg, h.kn⟩
    refine lv_iload_n hx hb d_M_swap_2 rfl (lv_at hl 3 rfl) ?_
    refine lv_aload_n hx hb d_M_swap_3 rfl (lv_at hl 0 rfl) ?_
    refine k_get hx hb hG lay_M hown hw 0 rfl rfl 22 (by decide) (hG _ fl_M_111) (fun _ h9 => h9) rfl d_M_swap_4 ?_
    refine lv_icmp_ge (tgt := 159) hx hb d_M_swap_7 (by decide) (fun hc => ?_) (fun hc => ?_)
    · exact g_retv hx hb hr hlocks hg ⟨V, Sm, h, oe.rf, fin⟩ d_M_swap_159
    refine lv_iload_n hx hb d_M_swap_10 rfl (lv_at hl 1 rfl) ?_
    refine lv_iload_n hx hb d_M_swap_11 rfl (lv_at hl 2 rfl) ?_
    refine lv_icmp_eq (tgt := 159) hx hb d_M_swap_12 (by decide) (fun hc => ?_) (fun hc => ?_)
    · exact g_retv hx hb hr hlocks hg ⟨V, Sm, h, oe.rf, fin⟩ d_M_swap_159
    · exact absurd rfl hc
  exact w_mswap S hr hlocks hi hr12 hir hn (V0 := V) (Sm0 := Sm) n 0 f V Sm _ _ ls (by omega) h oe.rf (fun t u _ _ => by rw [if_neg (by omega), if_neg (by omega), if_neg (by omega)]; exact ⟨rfl, rfl, rfl⟩) hl hg
end MDT


-- ===== the reference: divide take =====
theorem mul_nz {a b : Int} (ha : a ≠ 0) (hb : b ≠ 0) : a * b ≠ 0 := fun z => (Int.mul_eq_zero.mp z).elim ha hb
theorem bm {x y : Int} {a b c : Nat} (hx : x.natAbs < D16 ^ a) (hy : y.natAbs < D16 ^ b) (h : a + b ≤ c) : (x * y).natAbs < D16 ^ c := by
  rw [Int.natAbs_mul]
  have h1 : x.natAbs * y.natAbs < D16 ^ a * D16 ^ b := by
    rcases Nat.eq_zero_or_pos y.natAbs with q | q
    · rw [q, Nat.mul_zero]; exact Nat.mul_pos (Nat.pow_pos (by decide)) (Nat.pow_pos (by decide))
    · exact Nat.lt_of_lt_of_le (Nat.mul_lt_mul_of_pos_right hx q) (Nat.mul_le_mul_left _ (Nat.le_of_lt hy))
  rw [← Nat.pow_add] at h1
  exact Nat.lt_of_lt_of_le h1 (Nat.pow_le_pow_right (by decide) h)
theorem bl9 {x : Int} {a c : Nat} (hx : x.natAbs < D16 ^ a) (h : a ≤ c) : x.natAbs < D16 ^ c := Nat.lt_of_lt_of_le hx (Nat.pow_le_pow_right (by decide) h)
section MDQ
variable {p : Program} {l : Launch} {e : Env} {s : State} {m : MethodId} {args : Array Value} {below : List Frame} {meth : Method} {c : Code} {Q : State → Prop} {D : va_G} {k : Nat → ClassId} {L : List Nat} {H0 : Heap}
variable {own : Nat → Nat} {ma : Nat} {ra adr : Nat → Nat} {pr rw cl : Int32} {F R C Lo Pl To Bo Re Sm Pc : Nat → Int32} {V : Nat → Int}
set_option maxRecDepth 100000 in
set_option maxHeartbeats 4000000 in
theorem w_mdivQ (S : CallFix p m c c_M_divide 6 s args G R_M) (hr : meth.sig.returnType = none) (hlocks : meth.locks = false) {i n : Nat} (hi : i < 12) (hn : n ≤ 12) {f0 : Nat → va_E} {V0 : Nat → Int} {ac bc : Int} (hac : ac ≠ 0) (ha9 : ac.natAbs < D16 ^ 25) (hb9 : bc.natAbs < D16 ^ 25) (h9 : ∀ t, t < n → (V0 (10 + (12 * i + t))).natAbs < D16 ^ 25 ∧ (V0 (154 + (12 * i + t))).natAbs < D16 ^ 25 ∧ V0 (154 + (12 * i + t)) ≠ 0) :
    ∀ (d j : Nat) (f : Nat → va_E) (V : Nat → Int) (H : Heap) (locs : List Loc) (ls : Array Slot), j + d = n → MW L own k f ma ra adr (nI 0) rw (nI n) F R C Lo Pl To Bo Re Sm Pc V → oe own [200] f0 f → V 8 = ac → V 9 = bc → (∀ t, t < j → low (V (10 + (12 * i + t))) (V (154 + (12 * i + t))) ∧ V (10 + (12 * i + t)) * (V0 (154 + (12 * i + t)) * ac) = V (154 + (12 * i + t)) * (V0 (10 + (12 * i + t)) * bc)) → (∀ x, 10 ≤ x → (∀ t, t < j → x ≠ 10 + (12 * i + t) ∧ x ≠ 154 + (12 * i + t)) → V x = V0 x) → lv_has ls 6 [(0, .ref ma), (1, .int (nI i)), (4, .int (nI j))] → gw D cls (tyl k) L s s.heap f H locs →
    W p l e (rmN 5) s m args below meth c H locs 0 0 (MQ below (va_Qv (fun f' => ∃ V', MW L own k f' ma ra adr (nI 0) rw (nI n) F R C Lo Pl To Bo Re Sm Pc V' ∧ oe own [200] f0 f' ∧ (∀ t, t < n → low (V' (10 + (12 * i + t))) (V' (154 + (12 * i + t))) ∧ V' (10 + (12 * i + t)) * (V0 (154 + (12 * i + t)) * ac) = V' (154 + (12 * i + t)) * (V0 (10 + (12 * i + t)) * bc)) ∧ (∀ x, 10 ≤ x → (∀ t, t < n → x ≠ 10 + (12 * i + t) ∧ x ≠ 154 + (12 * i + t)) → V' x = V0 x)) (mst D cls (tyl k) L) (fun q => q ∈ L)) args s 0 0 (fun q => q ∈ L)) (F0 m 106 ls []) := by
  have hx := S.1
  have hb := S.2.1
  have hown : s.vm.findClass R_M = some m.cls := S.2.2.2.1
  have hG := S.2.2.2.2
  intro d
  induction d with
  | zero =>
    intro j f V H locs ls hj h ho h8 h9' hD hO hl hg
    have hj : j = n := by omega
    subst hj
    have hw : kw D cls (tyl k) L s s.heap f ((mc k ra adr ma (nI 0) rw (nI j) F R C Lo Pl To Bo Re Sm Pc)) H locs := ⟨f, hg, h.kn⟩
    -- METHOD M_divide | loc 0=m 1=i 4=j | ws m fa rc cc lo pl to bo re tp bt sm pc | fld m.fields=fa m.rowCounts=rc m.columnCounts=cc m.loose=lo m.places=pl m.tops=to m.bottoms=bo m.residues=re m.top=tp m.bottom=bt m.small=sm m.place=pc m.one=n0 m.two=n1 m.three=n2 m.four=n3 m.five=n4 m.six=n5 m.seven=n6 m.eight=n7 m.above=n8 m.under=n9
    refine lv_iload hx hb d_M_divide_106 (lv_at hl 2 rfl) ?_
    refine lv_aload_n hx hb d_M_divide_108 rfl (lv_at hl 0 rfl) ?_
    refine k_get hx hb hG lay_M hown hw 0 rfl rfl 22 (by decide) (hG _ fl_M_111) (fun _ h9 => h9) rfl d_M_divide_109 ?_
    refine lv_icmp_ge (tgt := 200) hx hb d_M_divide_112 (by decide) (fun hc => ?_) (fun hc => ?_)
    · exact g_retv hx hb hr hlocks hg ⟨V, h, ho, hD, hO⟩ d_M_divide_200
    · exact absurd (nI_le (by omega) (by omega)) hc
  | succ d ih =>
    intro j f V H locs ls hj h ho h8 h9' hD hO hl hg
    obtain ⟨b1, b2, b3⟩ := h9 j (by omega)
    obtain ⟨x, hx0⟩ : ∃ x, x = 12 * i + j := ⟨_, rfl⟩
    have hx1 : x < 144 := by omega
    have hVt : V (10 + x) = V0 (10 + x) := hO _ (by omega) (fun t ht => ⟨by omega, by omega⟩)
    have hVb : V (154 + x) = V0 (154 + x) := hO _ (by omega) (fun t ht => ⟨by omega, by omega⟩)
    rw [← hx0] at b1 b2 b3
    have hw : kw D cls (tyl k) L s s.heap f ((mc k ra adr ma (nI 0) rw (nI n) F R C Lo Pl To Bo Re Sm Pc)) H locs := ⟨f, hg, h.kn⟩
    -- METHOD M_divide | loc 0=m 1=i 4=j | ws m fa rc cc lo pl to bo re tp bt sm pc | fld m.fields=fa m.rowCounts=rc m.columnCounts=cc m.loose=lo m.places=pl m.tops=to m.bottoms=bo m.residues=re m.top=tp m.bottom=bt m.small=sm m.place=pc m.one=n0 m.two=n1 m.three=n2 m.four=n3 m.five=n4 m.six=n5 m.seven=n6 m.eight=n7 m.above=n8 m.under=n9
    refine lv_iload hx hb d_M_divide_106 (lv_at hl 2 rfl) ?_
    refine lv_aload_n hx hb d_M_divide_108 rfl (lv_at hl 0 rfl) ?_
    refine k_get hx hb hG lay_M hown hw 0 rfl rfl 22 (by decide) (hG _ fl_M_111) (fun _ h9 => h9) rfl d_M_divide_109 ?_
    refine lv_icmp_ge (tgt := 200) hx hb d_M_divide_112 (by decide) (fun hc => ?_) (fun hc => ?_)
    · exact absurd hc (nI_ge (by omega) (by omega))
    refine lv_bipush (v := 12) hx hb d_M_divide_115 (by decide) ?_
    refine lv_iload_n hx hb d_M_divide_117 rfl (lv_at hl 1 rfl) ?_
    refine lv_imul hx hb d_M_divide_118 ?_
    refine l_top (pk_mul 12 i) ?_
    refine lv_iload hx hb d_M_divide_119 (lv_at hl 2 rfl) ?_
    refine lv_iadd hx hb d_M_divide_121 ?_
    refine l_top (nI_add (12 * i) j) ?_
    refine l_top (show nI (12 * i + j) = nI x by rw [hx0]) ?_
    refine lv_istore hx hb d_M_divide_122 hl (by decide) rfl (fun ls hl => ?_)
    refine lv_aload_n hx hb d_M_divide_124 rfl (lv_at hl 1 rfl) ?_
    refine k_get hx hb hG lay_M hown hw 0 rfl rfl 5 (by decide) (hG _ fl_M_44) (fun _ h9 => h9) rfl d_M_divide_125 ?_
    refine lv_aload_n hx hb d_M_divide_128 rfl (lv_at hl 1 rfl) ?_
    refine k_get hx hb hG lay_M hown hw 0 rfl rfl 16 (by decide) (hG _ fl_M_79) (fun _ h9 => h9) rfl d_M_divide_129 ?_
    refine lv_iload hx hb d_M_divide_132 (lv_at hl 0 rfl) ?_
    refine k_aald hx hb hw 9 4 rfl rfl (x) (rfl) (by omega) (by first | decide | omega) (rfl) d_M_divide_134 ?_
    refine lv_aload_n hx hb d_M_divide_135 rfl (lv_at hl 1 rfl) ?_
    refine k_get hx hb hG lay_M hown hw 0 rfl rfl 24 (by decide) (hG _ fl_M_95) (fun _ h9 => h9) rfl d_M_divide_136 ?_
    have hw := hg
    refine g_ov (c_V (np := 2) S (nn_product l D h.1.2.2.2.2 h.2.2 (i := 5) (a := 10 + x) (b := 9) (by omega) (by omega) (by omega) (by omega) (by omega) (by omega) (by rw [hVt]; exact bl9 b1 (by omega)) (by rw [h9']; exact bl9 hb9 (by omega))) hw ((h.2.2 (5) (by omega)).1) ((h.2.2 (5) (by omega)).2.2.choose_spec.choose_spec.choose_spec.1) rfl ml_M_146 im_N_product se_N_N_product in_N co_N_product (by decide +kernel) rfl ⟨rfl, rfl, by decide, by decide⟩ hl.1 rfl (by simp [Value.category]) d_M_divide_139 ⟨Nat.zero_le _, Nat.zero_le _⟩) hw (fun f1 H locs hp hg => ?_)
    obtain ⟨h1, ho1⟩ := h.num hp
    have hw : kw D cls (tyl k) L s s.heap f1 ((mc k ra adr ma (nI 0) rw (nI n) F R C Lo Pl To Bo Re Sm Pc)) H locs := ⟨f1, hg, h1.kn⟩
    refine lv_aload_n hx hb d_M_divide_142 rfl (lv_at hl 1 rfl) ?_
    refine k_get hx hb hG lay_M hown hw 0 rfl rfl 6 (by decide) (hG _ fl_M_47) (fun _ h9 => h9) rfl d_M_divide_143 ?_
    refine lv_aload_n hx hb d_M_divide_146 rfl (lv_at hl 1 rfl) ?_
    refine k_get hx hb hG lay_M hown hw 0 rfl rfl 17 (by decide) (hG _ fl_M_83) (fun _ h9 => h9) rfl d_M_divide_147 ?_
    refine lv_iload hx hb d_M_divide_150 (lv_at hl 0 rfl) ?_
    refine k_aald hx hb hw 10 4 rfl rfl (x) (rfl) (by omega) (by first | decide | omega) (rfl) d_M_divide_152 ?_
    refine lv_aload_n hx hb d_M_divide_153 rfl (lv_at hl 1 rfl) ?_
    refine k_get hx hb hG lay_M hown hw 0 rfl rfl 23 (by decide) (hG _ fl_M_92) (fun _ h9 => h9) rfl d_M_divide_154 ?_
    have hw := hg
    refine g_ov (c_V (np := 2) S (nn_product l D h1.1.2.2.2.2 h1.2.2 (i := 6) (a := 154 + x) (b := 8) (by omega) (by omega) (by omega) (by omega) (by omega) (by omega) (by rw [va_up_ne _ _ (by omega), hVb]; exact bl9 b2 (by omega)) (by rw [va_up_ne _ _ (by omega), h8]; exact bl9 ha9 (by omega))) hw ((h1.2.2 (6) (by omega)).1) ((h1.2.2 (6) (by omega)).2.2.choose_spec.choose_spec.choose_spec.1) rfl ml_M_146 im_N_product se_N_N_product in_N co_N_product (by decide +kernel) rfl ⟨rfl, rfl, by decide, by decide⟩ hl.1 rfl (by simp [Value.category]) d_M_divide_157 ⟨Nat.zero_le _, Nat.zero_le _⟩) hw (fun f2 H locs hp hg => ?_)
    obtain ⟨h2, ho2⟩ := h1.num hp
    have hw : kw D cls (tyl k) L s s.heap f2 ((mc k ra adr ma (nI 0) rw (nI n) F R C Lo Pl To Bo Re Sm Pc)) H locs := ⟨f2, hg, h2.kn⟩
    refine lv_aload_n hx hb d_M_divide_160 rfl (lv_at hl 1 rfl) ?_
    refine k_get hx hb hG lay_M hown hw 0 rfl rfl 16 (by decide) (hG _ fl_M_79) (fun _ h9 => h9) rfl d_M_divide_161 ?_
    refine lv_iload hx hb d_M_divide_164 (lv_at hl 0 rfl) ?_
    refine k_aald hx hb hw 9 4 rfl rfl (x) (rfl) (by omega) (by first | decide | omega) (rfl) d_M_divide_166 ?_
    refine lv_aload_n hx hb d_M_divide_167 rfl (lv_at hl 1 rfl) ?_
    refine k_get hx hb hG lay_M hown hw 0 rfl rfl 5 (by decide) (hG _ fl_M_44) (fun _ h9 => h9) rfl d_M_divide_168 ?_
    have hw := hg
    refine g_ov (c_V (np := 1) S (nn_copy l D h2.1.2.2.2.2 h2.2.2 (i := 10 + x) (a := 5) (by omega) (by omega) (by omega)) hw ((h2.2.2 (10 + x) (by omega)).1) ((h2.2.2 (10 + x) (by omega)).2.2.choose_spec.choose_spec.choose_spec.1) rfl ml_M_7 im_N_copy se_N_N_copy in_N co_N_copy (by decide +kernel) rfl ⟨rfl, rfl, by decide, by decide⟩ hl.1 rfl (by simp [Value.category]) d_M_divide_171 ⟨Nat.zero_le _, Nat.zero_le _⟩) hw (fun f3 H locs hp hg => ?_)
    obtain ⟨h3, ho3⟩ := h2.num hp
    have hw : kw D cls (tyl k) L s s.heap f3 ((mc k ra adr ma (nI 0) rw (nI n) F R C Lo Pl To Bo Re Sm Pc)) H locs := ⟨f3, hg, h3.kn⟩
    refine lv_aload_n hx hb d_M_divide_174 rfl (lv_at hl 1 rfl) ?_
    refine k_get hx hb hG lay_M hown hw 0 rfl rfl 17 (by decide) (hG _ fl_M_83) (fun _ h9 => h9) rfl d_M_divide_175 ?_
    refine lv_iload hx hb d_M_divide_178 (lv_at hl 0 rfl) ?_
    refine k_aald hx hb hw 10 4 rfl rfl (x) (rfl) (by omega) (by first | decide | omega) (rfl) d_M_divide_180 ?_
    refine lv_aload_n hx hb d_M_divide_181 rfl (lv_at hl 1 rfl) ?_
    refine k_get hx hb hG lay_M hown hw 0 rfl rfl 6 (by decide) (hG _ fl_M_47) (fun _ h9 => h9) rfl d_M_divide_182 ?_
    have hw := hg
    refine g_ov (c_V (np := 1) S (nn_copy l D h3.1.2.2.2.2 h3.2.2 (i := 154 + x) (a := 6) (by omega) (by omega) (by omega)) hw ((h3.2.2 (154 + x) (by omega)).1) ((h3.2.2 (154 + x) (by omega)).2.2.choose_spec.choose_spec.choose_spec.1) rfl ml_M_7 im_N_copy se_N_N_copy in_N co_N_copy (by decide +kernel) rfl ⟨rfl, rfl, by decide, by decide⟩ hl.1 rfl (by simp [Value.category]) d_M_divide_185 ⟨Nat.zero_le _, Nat.zero_le _⟩) hw (fun f4 H locs hp hg => ?_)
    obtain ⟨h4, ho4⟩ := h3.num hp
    have key : ∃ V4, MW L own k f4 ma ra adr (nI 0) rw (nI n) F R C Lo Pl To Bo Re Sm Pc V4 ∧ V4 (10 + x) = V0 (10 + x) * bc ∧ V4 (154 + x) = V0 (154 + x) * ac ∧ ∀ y, 8 ≤ y → y ≠ 10 + x → y ≠ 154 + x → V4 y = V y := by
      refine ⟨_, h4, ?_, ?_, fun y hy n1 n2 => ?_⟩
      · rw [va_up_ne _ _ (by omega), va_up_self, va_up_ne _ _ (by omega), va_up_self, hVt, h9']
      · rw [va_up_self, va_up_ne _ _ (by omega), va_up_self, va_up_ne _ _ (by omega), va_up_ne _ _ (by omega), hVb, h8]
      · rw [va_up_ne _ _ n2, va_up_ne _ _ n1, va_up_ne _ _ (by omega), va_up_ne _ _ (by omega)]
    clear h4
    obtain ⟨V4, h4, q1, q2, q3⟩ := key
    have hw : kw D cls (tyl k) L s s.heap f4 ((mc k ra adr ma (nI 0) rw (nI n) F R C Lo Pl To Bo Re Sm Pc)) H locs := ⟨f4, hg, h4.kn⟩
    refine lv_aload_n hx hb d_M_divide_188 rfl (lv_at hl 1 rfl) ?_
    refine lv_iload hx hb d_M_divide_189 (lv_at hl 0 rfl) ?_
    have hw := hg
    refine g_ov (c_V (np := 1) S (m_M_settle l D h4 (j := x) hx1 (by rw [q2]; exact mul_nz b3 hac) (by rw [q2]; exact bm b2 ha9 (by omega))) hw (h4.1.1.1) (h4.2.1 _ (List.mem_cons_self)) rfl ml_M_149 im_M_settle se_M_M_settle in_M co_M_settle (by decide +kernel) rfl ⟨rfl, rfl, by decide, by decide⟩ hl.1 rfl (by simp [Value.category]) d_M_divide_191 ⟨Nat.zero_le _, Nat.zero_le _⟩) hw (fun f5 H locs hp hg => ?_)
    obtain ⟨V5, h5, ho5, hV5, hlow, heq⟩ := hp
    rw [q1, q2] at heq
    refine lv_iinc (k := 3) hx hb d_M_divide_194 hl rfl (ii1 j) (by decide) rfl (fun ls hl => ?_)
    refine lv_goto (tgt := 106) hx hb d_M_divide_197 (by decide) ?_
    have hl := lv_sub hl [2, 3, 0] rfl
    refine ih (j + 1) f5 V5 H locs ls (by omega) h5 (ho.trans (ho1.trans (ho2.trans (ho3.trans (ho4.trans ho5))))) ?_ ?_ (fun t ht => ?_) (fun y hy hny => ?_) hl hg
    · rw [hV5 8 (by omega) (by omega) (by omega), q3 8 (by omega) (by omega) (by omega)]; exact h8
    · rw [hV5 9 (by omega) (by omega) (by omega), q3 9 (by omega) (by omega) (by omega)]; exact h9'
    · by_cases e : t = j
      · subst e
        rw [← hx0]; exact ⟨hlow, heq⟩
      · have e1 : V5 (10 + (12 * i + t)) = V (10 + (12 * i + t)) := by rw [hV5 _ (by omega) (by omega) (by omega), q3 _ (by omega) (by omega) (by omega)]
        have e2 : V5 (154 + (12 * i + t)) = V (154 + (12 * i + t)) := by rw [hV5 _ (by omega) (by omega) (by omega), q3 _ (by omega) (by omega) (by omega)]
        rw [e1, e2]; exact hD t (by omega)
    · have := hny j (by omega)
      rw [hV5 y (by omega) (by omega) (by omega), q3 y (by omega) (by omega) (by omega)]
      exact hO y hy (fun t ht => hny t (by omega))
set_option maxRecDepth 100000 in
set_option maxHeartbeats 4000000 in
theorem w_mtakQ (S : CallFix p m c c_M_take 9 s args G R_M) (hr : meth.sig.returnType = none) (hlocks : meth.locks = false) {i r n : Nat} (hi : i < 12) (hr12 : r < 12) (hir : i ≠ r) (hn : n ≤ 12) {f0 : Nat → va_E} {V0 : Nat → Int} {ac bc : Int} (ha9 : ac.natAbs < D16 ^ 25) (hb9 : bc.natAbs < D16 ^ 25) (hb0 : bc ≠ 0) (h9 : ∀ z t, z = i ∨ z = r → t < n → (V0 (10 + (12 * z + t))).natAbs < D16 ^ 25 ∧ (V0 (154 + (12 * z + t))).natAbs < D16 ^ 25 ∧ V0 (154 + (12 * z + t)) ≠ 0) :
    ∀ (d j : Nat) (f : Nat → va_E) (V : Nat → Int) (H : Heap) (locs : List Loc) (ls : Array Slot), j + d = n → MW L own k f ma ra adr (nI 0) rw (nI n) F R C Lo Pl To Bo Re Sm Pc V → oe own [200] f0 f → V 8 = ac → V 9 = bc → (∀ t, t < j → low (V (10 + (12 * i + t))) (V (154 + (12 * i + t))) ∧ V (10 + (12 * i + t)) * (V0 (154 + (12 * i + t)) * (bc * V0 (154 + (12 * r + t)))) = V (154 + (12 * i + t)) * (V0 (10 + (12 * i + t)) * (bc * V0 (154 + (12 * r + t))) - ac * V0 (10 + (12 * r + t)) * V0 (154 + (12 * i + t)))) → (∀ x, 10 ≤ x → (∀ t, t < j → x ≠ 10 + (12 * i + t) ∧ x ≠ 154 + (12 * i + t)) → V x = V0 x) → lv_has ls 9 [(0, .ref ma), (1, .int (nI i)), (2, .int (nI r)), (6, .int (nI j))] → gw D cls (tyl k) L s s.heap f H locs →
    W p l e (rmN 5) s m args below meth c H locs 0 0 (MQ below (va_Qv (fun f' => ∃ V', MW L own k f' ma ra adr (nI 0) rw (nI n) F R C Lo Pl To Bo Re Sm Pc V' ∧ oe own [200] f0 f' ∧ (∀ t, t < n → low (V' (10 + (12 * i + t))) (V' (154 + (12 * i + t))) ∧ V' (10 + (12 * i + t)) * (V0 (154 + (12 * i + t)) * (bc * V0 (154 + (12 * r + t)))) = V' (154 + (12 * i + t)) * (V0 (10 + (12 * i + t)) * (bc * V0 (154 + (12 * r + t))) - ac * V0 (10 + (12 * r + t)) * V0 (154 + (12 * i + t)))) ∧ (∀ x, 10 ≤ x → (∀ t, t < n → x ≠ 10 + (12 * i + t) ∧ x ≠ 154 + (12 * i + t)) → V' x = V0 x)) (mst D cls (tyl k) L) (fun q => q ∈ L)) args s 0 0 (fun q => q ∈ L)) (F0 m 48 ls []) := by
  have hx := S.1
  have hb := S.2.1
  have hown : s.vm.findClass R_M = some m.cls := S.2.2.2.1
  have hG := S.2.2.2.2
  intro d
  induction d with
  | zero =>
    intro j f V H locs ls hj h ho h8 h9' hD hO hl hg
    have hj : j = n := by omega
    subst hj
    have hw : kw D cls (tyl k) L s s.heap f ((mc k ra adr ma (nI 0) rw (nI j) F R C Lo Pl To Bo Re Sm Pc)) H locs := ⟨f, hg, h.kn⟩
    -- METHOD M_take | loc 0=m 1=i 2=r 6=j | ws m fa rc cc lo pl to bo re tp bt sm pc | fld m.fields=fa m.rowCounts=rc m.columnCounts=cc m.loose=lo m.places=pl m.tops=to m.bottoms=bo m.residues=re m.top=tp m.bottom=bt m.small=sm m.place=pc m.one=n0 m.two=n1 m.three=n2 m.four=n3 m.five=n4 m.six=n5 m.seven=n6 m.eight=n7 m.above=n8 m.under=n9
    refine lv_iload hx hb d_M_take_48 (lv_at hl 3 rfl) ?_
    refine lv_aload_n hx hb d_M_take_50 rfl (lv_at hl 0 rfl) ?_
    refine k_get hx hb hG lay_M hown hw 0 rfl rfl 22 (by decide) (hG _ fl_M_111) (fun _ h9 => h9) rfl d_M_take_51 ?_
    refine lv_icmp_ge (tgt := 254) hx hb d_M_take_54 (by decide) (fun hc => ?_) (fun hc => ?_)
    · exact g_retv hx hb hr hlocks hg ⟨V, h, ho, hD, hO⟩ d_M_take_254
    · exact absurd (nI_le (by omega) (by omega)) hc
  | succ d ih =>
    intro j f V H locs ls hj h ho h8 h9' hD hO hl hg
    obtain ⟨b1, b2, b3⟩ := h9 i j (Or.inl rfl) (by omega)
    obtain ⟨c1, c2, c3⟩ := h9 r j (Or.inr rfl) (by omega)
    obtain ⟨x, hx0⟩ : ∃ x, x = 12 * i + j := ⟨_, rfl⟩
    obtain ⟨y, hy0⟩ : ∃ y, y = 12 * r + j := ⟨_, rfl⟩
    have hx1 : x < 144 := by omega
    have hy1 : y < 144 := by omega
    have hxy : x ≠ y := by omega
    have hVt : V (10 + x) = V0 (10 + x) := hO _ (by omega) (fun t ht => ⟨by omega, by omega⟩)
    have hVb : V (154 + x) = V0 (154 + x) := hO _ (by omega) (fun t ht => ⟨by omega, by omega⟩)
    have hVu : V (10 + y) = V0 (10 + y) := hO _ (by omega) (fun t ht => ⟨by omega, by omega⟩)
    have hVv : V (154 + y) = V0 (154 + y) := hO _ (by omega) (fun t ht => ⟨by omega, by omega⟩)
    rw [← hx0] at b1 b2 b3
    rw [← hy0] at c1 c2 c3
    have hw : kw D cls (tyl k) L s s.heap f ((mc k ra adr ma (nI 0) rw (nI n) F R C Lo Pl To Bo Re Sm Pc)) H locs := ⟨f, hg, h.kn⟩
    -- METHOD M_take | loc 0=m 1=i 2=r 6=j | ws m fa rc cc lo pl to bo re tp bt sm pc | fld m.fields=fa m.rowCounts=rc m.columnCounts=cc m.loose=lo m.places=pl m.tops=to m.bottoms=bo m.residues=re m.top=tp m.bottom=bt m.small=sm m.place=pc m.one=n0 m.two=n1 m.three=n2 m.four=n3 m.five=n4 m.six=n5 m.seven=n6 m.eight=n7 m.above=n8 m.under=n9
    refine lv_iload hx hb d_M_take_48 (lv_at hl 3 rfl) ?_
    refine lv_aload_n hx hb d_M_take_50 rfl (lv_at hl 0 rfl) ?_
    refine k_get hx hb hG lay_M hown hw 0 rfl rfl 22 (by decide) (hG _ fl_M_111) (fun _ h9 => h9) rfl d_M_take_51 ?_
    refine lv_icmp_ge (tgt := 254) hx hb d_M_take_54 (by decide) (fun hc => ?_) (fun hc => ?_)
    · exact absurd hc (nI_ge (by omega) (by omega))
    refine lv_bipush (v := 12) hx hb d_M_take_57 (by decide) ?_
    refine lv_iload_n hx hb d_M_take_59 rfl (lv_at hl 1 rfl) ?_
    refine lv_imul hx hb d_M_take_60 ?_
    refine l_top (pk_mul 12 i) ?_
    refine lv_iload hx hb d_M_take_61 (lv_at hl 3 rfl) ?_
    refine lv_iadd hx hb d_M_take_63 ?_
    refine l_top (nI_add (12 * i) j) ?_
    refine l_top (show nI (12 * i + j) = nI x by rw [hx0]) ?_
    refine lv_istore hx hb d_M_take_64 hl (by decide) rfl (fun ls hl => ?_)
    refine lv_bipush (v := 12) hx hb d_M_take_66 (by decide) ?_
    refine lv_iload_n hx hb d_M_take_68 rfl (lv_at hl 3 rfl) ?_
    refine lv_imul hx hb d_M_take_69 ?_
    refine l_top (pk_mul 12 r) ?_
    refine lv_iload hx hb d_M_take_70 (lv_at hl 4 rfl) ?_
    refine lv_iadd hx hb d_M_take_72 ?_
    refine l_top (nI_add (12 * r) j) ?_
    refine l_top (show nI (12 * r + j) = nI y by rw [hy0]) ?_
    refine lv_istore hx hb d_M_take_73 hl (by decide) rfl (fun ls hl => ?_)
    refine lv_aload_n hx hb d_M_take_75 rfl (lv_at hl 2 rfl) ?_
    refine k_get hx hb hG lay_M hown hw 0 rfl rfl 20 (by decide) (hG _ fl_M_105) (fun _ h9 => h9) rfl d_M_take_76 ?_
    refine lv_if_le (tgt := 120) hx hb d_M_take_79 (by decide) (fun hc => ?_) (fun hc => ?_)
    rotate_left
    · exact absurd (show nI 0 ≤ 0 by decide) hc
    refine lv_aload_n hx hb d_M_take_120 rfl (lv_at hl 2 rfl) ?_
    refine k_get hx hb hG lay_M hown hw 0 rfl rfl 5 (by decide) (hG _ fl_M_44) (fun _ h9 => h9) rfl d_M_take_121 ?_
    refine lv_aload_n hx hb d_M_take_124 rfl (lv_at hl 2 rfl) ?_
    refine k_get hx hb hG lay_M hown hw 0 rfl rfl 24 (by decide) (hG _ fl_M_95) (fun _ h9 => h9) rfl d_M_take_125 ?_
    refine lv_aload_n hx hb d_M_take_128 rfl (lv_at hl 2 rfl) ?_
    refine k_get hx hb hG lay_M hown hw 0 rfl rfl 17 (by decide) (hG _ fl_M_83) (fun _ h9 => h9) rfl d_M_take_129 ?_
    refine lv_iload hx hb d_M_take_132 (lv_at hl 0 rfl) ?_
    refine k_aald hx hb hw 10 4 rfl rfl (y) (rfl) (by omega) (by first | decide | omega) (rfl) d_M_take_134 ?_
    have hw := hg
    refine g_ov (c_V (np := 2) S (nn_product l D h.1.2.2.2.2 h.2.2 (i := 5) (a := 9) (b := 154 + y) (by omega) (by omega) (by omega) (by omega) (by omega) (by omega) (by rw [h9']; exact bl9 hb9 (by omega)) (by rw [hVv]; exact bl9 c2 (by omega))) hw ((h.2.2 (5) (by omega)).1) ((h.2.2 (5) (by omega)).2.2.choose_spec.choose_spec.choose_spec.1) rfl ml_M_146 im_N_product se_N_N_product in_N co_N_product (by decide +kernel) rfl ⟨rfl, rfl, by decide, by decide⟩ hl.1 rfl (by simp [Value.category]) d_M_take_135 ⟨Nat.zero_le _, Nat.zero_le _⟩) hw (fun f1 H locs hp hg => ?_)
    obtain ⟨h1, ho1⟩ := h.num hp
    rw [h9', hVv] at h1
    have g6 : (bc * V0 (154 + y)).natAbs < D16 ^ 50 := bm hb9 c2 (by omega)
    have hw : kw D cls (tyl k) L s s.heap f1 ((mc k ra adr ma (nI 0) rw (nI n) F R C Lo Pl To Bo Re Sm Pc)) H locs := ⟨f1, hg, h1.kn⟩
    refine lv_aload_n hx hb d_M_take_138 rfl (lv_at hl 2 rfl) ?_
    refine k_get hx hb hG lay_M hown hw 0 rfl rfl 6 (by decide) (hG _ fl_M_47) (fun _ h9 => h9) rfl d_M_take_139 ?_
    refine lv_aload_n hx hb d_M_take_142 rfl (lv_at hl 2 rfl) ?_
    refine k_get hx hb hG lay_M hown hw 0 rfl rfl 16 (by decide) (hG _ fl_M_79) (fun _ h9 => h9) rfl d_M_take_143 ?_
    refine lv_iload hx hb d_M_take_146 (lv_at hl 1 rfl) ?_
    refine k_aald hx hb hw 9 4 rfl rfl (x) (rfl) (by omega) (by first | decide | omega) (rfl) d_M_take_148 ?_
    refine lv_aload_n hx hb d_M_take_149 rfl (lv_at hl 2 rfl) ?_
    refine k_get hx hb hG lay_M hown hw 0 rfl rfl 5 (by decide) (hG _ fl_M_44) (fun _ h9 => h9) rfl d_M_take_150 ?_
    have hw := hg
    refine g_ov (c_V (np := 2) S (nn_product l D h1.1.2.2.2.2 h1.2.2 (i := 6) (a := 10 + x) (b := 5) (by omega) (by omega) (by omega) (by omega) (by omega) (by omega) (by rw [va_up_ne _ _ (by omega), hVt]; exact bl9 b1 (by omega)) (by rw [va_up_self]; exact bl9 g6 (by omega))) hw ((h1.2.2 (6) (by omega)).1) ((h1.2.2 (6) (by omega)).2.2.choose_spec.choose_spec.choose_spec.1) rfl ml_M_146 im_N_product se_N_N_product in_N co_N_product (by decide +kernel) rfl ⟨rfl, rfl, by decide, by decide⟩ hl.1 rfl (by simp [Value.category]) d_M_take_153 ⟨Nat.zero_le _, Nat.zero_le _⟩) hw (fun f2 H locs hp hg => ?_)
    obtain ⟨h2, ho2⟩ := h1.num hp
    rw [va_up_self, va_up_ne _ _ (show 10 + x ≠ 5 by omega), hVt] at h2
    have hw : kw D cls (tyl k) L s s.heap f2 ((mc k ra adr ma (nI 0) rw (nI n) F R C Lo Pl To Bo Re Sm Pc)) H locs := ⟨f2, hg, h2.kn⟩
    refine lv_aload_n hx hb d_M_take_156 rfl (lv_at hl 2 rfl) ?_
    refine k_get hx hb hG lay_M hown hw 0 rfl rfl 7 (by decide) (hG _ fl_M_50) (fun _ h9 => h9) rfl d_M_take_157 ?_
    refine lv_aload_n hx hb d_M_take_160 rfl (lv_at hl 2 rfl) ?_
    refine k_get hx hb hG lay_M hown hw 0 rfl rfl 23 (by decide) (hG _ fl_M_92) (fun _ h9 => h9) rfl d_M_take_161 ?_
    refine lv_aload_n hx hb d_M_take_164 rfl (lv_at hl 2 rfl) ?_
    refine k_get hx hb hG lay_M hown hw 0 rfl rfl 16 (by decide) (hG _ fl_M_79) (fun _ h9 => h9) rfl d_M_take_165 ?_
    refine lv_iload hx hb d_M_take_168 (lv_at hl 0 rfl) ?_
    refine k_aald hx hb hw 9 4 rfl rfl (y) (rfl) (by omega) (by first | decide | omega) (rfl) d_M_take_170 ?_
    have hw := hg
    refine g_ov (c_V (np := 2) S (nn_product l D h2.1.2.2.2.2 h2.2.2 (i := 7) (a := 8) (b := 10 + y) (by omega) (by omega) (by omega) (by omega) (by omega) (by omega) (by rw [va_up_ne _ _ (by omega), va_up_ne _ _ (by omega), h8]; exact bl9 ha9 (by omega)) (by rw [va_up_ne _ _ (by omega), va_up_ne _ _ (by omega), hVu]; exact bl9 c1 (by omega))) hw ((h2.2.2 (7) (by omega)).1) ((h2.2.2 (7) (by omega)).2.2.choose_spec.choose_spec.choose_spec.1) rfl ml_M_146 im_N_product se_N_N_product in_N co_N_product (by decide +kernel) rfl ⟨rfl, rfl, by decide, by decide⟩ hl.1 rfl (by simp [Value.category]) d_M_take_171 ⟨Nat.zero_le _, Nat.zero_le _⟩) hw (fun f3 H locs hp hg => ?_)
    obtain ⟨h3, ho3⟩ := h2.num hp
    rw [va_up_ne _ _ (show (8 : Nat) ≠ 6 by omega), va_up_ne _ _ (show (8 : Nat) ≠ 5 by omega), va_up_ne _ _ (show 10 + y ≠ 6 by omega), va_up_ne _ _ (show 10 + y ≠ 5 by omega), h8, hVu] at h3
    have g8 : (ac * V0 (10 + y)).natAbs < D16 ^ 50 := bm ha9 c1 (by omega)
    have hw : kw D cls (tyl k) L s s.heap f3 ((mc k ra adr ma (nI 0) rw (nI n) F R C Lo Pl To Bo Re Sm Pc)) H locs := ⟨f3, hg, h3.kn⟩
    refine lv_aload_n hx hb d_M_take_174 rfl (lv_at hl 2 rfl) ?_
    refine k_get hx hb hG lay_M hown hw 0 rfl rfl 0 (by decide) (hG _ fl_M_41) (fun _ h9 => h9) rfl d_M_take_175 ?_
    refine lv_aload_n hx hb d_M_take_178 rfl (lv_at hl 2 rfl) ?_
    refine k_get hx hb hG lay_M hown hw 0 rfl rfl 7 (by decide) (hG _ fl_M_50) (fun _ h9 => h9) rfl d_M_take_179 ?_
    refine lv_aload_n hx hb d_M_take_182 rfl (lv_at hl 2 rfl) ?_
    refine k_get hx hb hG lay_M hown hw 0 rfl rfl 17 (by decide) (hG _ fl_M_83) (fun _ h9 => h9) rfl d_M_take_183 ?_
    refine lv_iload hx hb d_M_take_186 (lv_at hl 1 rfl) ?_
    refine k_aald hx hb hw 10 4 rfl rfl (x) (rfl) (by omega) (by first | decide | omega) (rfl) d_M_take_188 ?_
    have hw := hg
    refine g_ov (c_V (np := 2) S (nn_product l D h3.1.2.2.2.2 h3.2.2 (i := 0) (a := 7) (b := 154 + x) (by omega) (by omega) (by omega) (by omega) (by omega) (by omega) (by rw [va_up_self]; exact bl9 g8 (by omega)) (by rw [va_up_ne _ _ (by omega), va_up_ne _ _ (by omega), va_up_ne _ _ (by omega), hVb]; exact bl9 b2 (by omega))) hw ((h3.2.2 (0) (by omega)).1) ((h3.2.2 (0) (by omega)).2.2.choose_spec.choose_spec.choose_spec.1) rfl ml_M_146 im_N_product se_N_N_product in_N co_N_product (by decide +kernel) rfl ⟨rfl, rfl, by decide, by decide⟩ hl.1 rfl (by simp [Value.category]) d_M_take_189 ⟨Nat.zero_le _, Nat.zero_le _⟩) hw (fun f4 H locs hp hg => ?_)
    obtain ⟨h4, ho4⟩ := h3.num hp
    rw [va_up_self, va_up_ne _ _ (show 154 + x ≠ 7 by omega), va_up_ne _ _ (show 154 + x ≠ 6 by omega), va_up_ne _ _ (show 154 + x ≠ 5 by omega), hVb] at h4
    have hw : kw D cls (tyl k) L s s.heap f4 ((mc k ra adr ma (nI 0) rw (nI n) F R C Lo Pl To Bo Re Sm Pc)) H locs := ⟨f4, hg, h4.kn⟩
    refine lv_aload_n hx hb d_M_take_192 rfl (lv_at hl 2 rfl) ?_
    refine k_get hx hb hG lay_M hown hw 0 rfl rfl 7 (by decide) (hG _ fl_M_50) (fun _ h9 => h9) rfl d_M_take_193 ?_
    refine lv_aload_n hx hb d_M_take_196 rfl (lv_at hl 2 rfl) ?_
    refine k_get hx hb hG lay_M hown hw 0 rfl rfl 17 (by decide) (hG _ fl_M_83) (fun _ h9 => h9) rfl d_M_take_197 ?_
    refine lv_iload hx hb d_M_take_200 (lv_at hl 1 rfl) ?_
    refine k_aald hx hb hw 10 4 rfl rfl (x) (rfl) (by omega) (by first | decide | omega) (rfl) d_M_take_202 ?_
    refine lv_aload_n hx hb d_M_take_203 rfl (lv_at hl 2 rfl) ?_
    refine k_get hx hb hG lay_M hown hw 0 rfl rfl 5 (by decide) (hG _ fl_M_44) (fun _ h9 => h9) rfl d_M_take_204 ?_
    have hw := hg
    refine g_ov (c_V (np := 2) S (nn_product l D h4.1.2.2.2.2 h4.2.2 (i := 7) (a := 154 + x) (b := 5) (by omega) (by omega) (by omega) (by omega) (by omega) (by omega) (by rw [va_up_ne _ _ (by omega), va_up_ne _ _ (by omega), va_up_ne _ _ (by omega), va_up_ne _ _ (by omega), hVb]; exact bl9 b2 (by omega)) (by rw [va_up_ne _ _ (by omega), va_up_ne _ _ (by omega), va_up_ne _ _ (by omega), va_up_self]; exact bl9 g6 (by omega))) hw ((h4.2.2 (7) (by omega)).1) ((h4.2.2 (7) (by omega)).2.2.choose_spec.choose_spec.choose_spec.1) rfl ml_M_146 im_N_product se_N_N_product in_N co_N_product (by decide +kernel) rfl ⟨rfl, rfl, by decide, by decide⟩ hl.1 rfl (by simp [Value.category]) d_M_take_207 ⟨Nat.zero_le _, Nat.zero_le _⟩) hw (fun f5 H locs hp hg => ?_)
    obtain ⟨h5, ho5⟩ := h4.num hp
    have key : ∃ V5, MW L own k f5 ma ra adr (nI 0) rw (nI n) F R C Lo Pl To Bo Re Sm Pc V5 ∧ V5 6 = V0 (10 + x) * (bc * V0 (154 + y)) ∧ V5 0 = ac * V0 (10 + y) * V0 (154 + x) ∧ V5 7 = V0 (154 + x) * (bc * V0 (154 + y)) ∧ ∀ z, 8 ≤ z → V5 z = V z := by
      refine ⟨_, h5, ?_, ?_, ?_, fun z hz => ?_⟩
      · rw [va_up_ne _ _ (by omega), va_up_ne _ _ (by omega), va_up_ne _ _ (by omega), va_up_self]
      · rw [va_up_ne _ _ (by omega), va_up_self]
      · rw [va_up_self, va_up_ne _ _ (by omega), va_up_ne _ _ (by omega), va_up_ne _ _ (by omega), va_up_ne _ _ (by omega), hVb, va_up_ne _ _ (by omega), va_up_ne _ _ (by omega), va_up_ne _ _ (by omega), va_up_self]
      · rw [va_up_ne _ _ (by omega), va_up_ne _ _ (by omega), va_up_ne _ _ (by omega), va_up_ne _ _ (by omega), va_up_ne _ _ (by omega)]
    clear h5
    obtain ⟨V5, h5, p6, p0, p7, pz⟩ := key
    have hw : kw D cls (tyl k) L s s.heap f5 ((mc k ra adr ma (nI 0) rw (nI n) F R C Lo Pl To Bo Re Sm Pc)) H locs := ⟨f5, hg, h5.kn⟩
    refine lv_aload_n hx hb d_M_take_210 rfl (lv_at hl 2 rfl) ?_
    refine k_get hx hb hG lay_M hown hw 0 rfl rfl 16 (by decide) (hG _ fl_M_79) (fun _ h9 => h9) rfl d_M_take_211 ?_
    refine lv_iload hx hb d_M_take_214 (lv_at hl 1 rfl) ?_
    refine k_aald hx hb hw 9 4 rfl rfl (x) (rfl) (by omega) (by first | decide | omega) (rfl) d_M_take_216 ?_
    refine lv_aload_n hx hb d_M_take_217 rfl (lv_at hl 2 rfl) ?_
    refine k_get hx hb hG lay_M hown hw 0 rfl rfl 6 (by decide) (hG _ fl_M_47) (fun _ h9 => h9) rfl d_M_take_218 ?_
    refine lv_aload_n hx hb d_M_take_221 rfl (lv_at hl 2 rfl) ?_
    refine k_get hx hb hG lay_M hown hw 0 rfl rfl 0 (by decide) (hG _ fl_M_41) (fun _ h9 => h9) rfl d_M_take_222 ?_
    have hw := hg
    refine g_ov (c_V (np := 2) S (nn_less l D h5.1.2.2.2.2 h5.2.2 (i := 10 + x) (a := 6) (b := 0) (by omega) (by omega) (by omega) (by omega) (by omega) (by omega) (by rw [p6]; exact bm b1 g6 (by omega)) (by rw [p0]; exact bm g8 b2 (by omega))) hw ((h5.2.2 (10 + x) (by omega)).1) ((h5.2.2 (10 + x) (by omega)).2.2.choose_spec.choose_spec.choose_spec.1) rfl ml_M_153 im_N_less se_N_N_less in_N co_N_less (by decide +kernel) rfl ⟨rfl, rfl, by decide, by decide⟩ hl.1 rfl (by simp [Value.category]) d_M_take_225 ⟨Nat.zero_le _, Nat.zero_le _⟩) hw (fun f6 H locs hp hg => ?_)
    obtain ⟨h6, ho6⟩ := h5.num hp
    have hw : kw D cls (tyl k) L s s.heap f6 ((mc k ra adr ma (nI 0) rw (nI n) F R C Lo Pl To Bo Re Sm Pc)) H locs := ⟨f6, hg, h6.kn⟩
    refine lv_aload_n hx hb d_M_take_228 rfl (lv_at hl 2 rfl) ?_
    refine k_get hx hb hG lay_M hown hw 0 rfl rfl 17 (by decide) (hG _ fl_M_83) (fun _ h9 => h9) rfl d_M_take_229 ?_
    refine lv_iload hx hb d_M_take_232 (lv_at hl 1 rfl) ?_
    refine k_aald hx hb hw 10 4 rfl rfl (x) (rfl) (by omega) (by first | decide | omega) (rfl) d_M_take_234 ?_
    refine lv_aload_n hx hb d_M_take_235 rfl (lv_at hl 2 rfl) ?_
    refine k_get hx hb hG lay_M hown hw 0 rfl rfl 7 (by decide) (hG _ fl_M_50) (fun _ h9 => h9) rfl d_M_take_236 ?_
    have hw := hg
    refine g_ov (c_V (np := 1) S (nn_copy l D h6.1.2.2.2.2 h6.2.2 (i := 154 + x) (a := 7) (by omega) (by omega) (by omega)) hw ((h6.2.2 (154 + x) (by omega)).1) ((h6.2.2 (154 + x) (by omega)).2.2.choose_spec.choose_spec.choose_spec.1) rfl ml_M_7 im_N_copy se_N_N_copy in_N co_N_copy (by decide +kernel) rfl ⟨rfl, rfl, by decide, by decide⟩ hl.1 rfl (by simp [Value.category]) d_M_take_239 ⟨Nat.zero_le _, Nat.zero_le _⟩) hw (fun f7 H locs hp hg => ?_)
    obtain ⟨h7, ho7⟩ := h6.num hp
    have key : ∃ V7, MW L own k f7 ma ra adr (nI 0) rw (nI n) F R C Lo Pl To Bo Re Sm Pc V7 ∧ V7 (10 + x) = V0 (10 + x) * (bc * V0 (154 + y)) - ac * V0 (10 + y) * V0 (154 + x) ∧ V7 (154 + x) = V0 (154 + x) * (bc * V0 (154 + y)) ∧ ∀ z, 8 ≤ z → z ≠ 10 + x → z ≠ 154 + x → V7 z = V z := by
      refine ⟨_, h7, ?_, ?_, fun z hz n1 n2 => ?_⟩
      · rw [va_up_ne _ _ (by omega), va_up_self, p6, p0]
      · rw [va_up_self, va_up_ne _ _ (by omega), p7]
      · rw [va_up_ne _ _ n2, va_up_ne _ _ n1]; exact pz z hz
    clear h7
    obtain ⟨V7, h7, q1, q2, q3⟩ := key
    have hw : kw D cls (tyl k) L s s.heap f7 ((mc k ra adr ma (nI 0) rw (nI n) F R C Lo Pl To Bo Re Sm Pc)) H locs := ⟨f7, hg, h7.kn⟩
    refine lv_aload_n hx hb d_M_take_242 rfl (lv_at hl 2 rfl) ?_
    refine lv_iload hx hb d_M_take_243 (lv_at hl 1 rfl) ?_
    have hw := hg
    refine g_ov (c_V (np := 1) S (m_M_settle l D h7 (j := x) hx1 (by rw [q2]; exact mul_nz b3 (mul_nz hb0 c3)) (by rw [q2]; exact bm b2 g6 (by omega))) hw (h7.1.1.1) (h7.2.1 _ (List.mem_cons_self)) rfl ml_M_149 im_M_settle se_M_M_settle in_M co_M_settle (by decide +kernel) rfl ⟨rfl, rfl, by decide, by decide⟩ hl.1 rfl (by simp [Value.category]) d_M_take_245 ⟨Nat.zero_le _, Nat.zero_le _⟩) hw (fun f8 H locs hp hg => ?_)
    obtain ⟨V8, h8', ho8, hV8, hlow, heq⟩ := hp
    rw [q1, q2] at heq
    refine lv_iinc (k := 5) hx hb d_M_take_248 hl rfl (ii1 j) (by decide) rfl (fun ls hl => ?_)
    refine lv_goto (tgt := 48) hx hb d_M_take_251 (by decide) ?_
    have hl := lv_sub hl [3, 4, 5, 0] rfl
    refine ih (j + 1) f8 V8 H locs ls (by omega) h8' (ho.trans (ho1.trans (ho2.trans (ho3.trans (ho4.trans (ho5.trans (ho6.trans (ho7.trans ho8)))))))) ?_ ?_ (fun t ht => ?_) (fun z hz hny => ?_) hl hg
    · rw [hV8 8 (by omega) (by omega) (by omega), q3 8 (by omega) (by omega) (by omega)]; exact h8
    · rw [hV8 9 (by omega) (by omega) (by omega), q3 9 (by omega) (by omega) (by omega)]; exact h9'
    · by_cases e : t = j
      · subst e
        rw [← hx0, ← hy0]; exact ⟨hlow, heq⟩
      · have e1 : V8 (10 + (12 * i + t)) = V (10 + (12 * i + t)) := by rw [hV8 _ (by omega) (by omega) (by omega), q3 _ (by omega) (by omega) (by omega)]
        have e2 : V8 (154 + (12 * i + t)) = V (154 + (12 * i + t)) := by rw [hV8 _ (by omega) (by omega) (by omega), q3 _ (by omega) (by omega) (by omega)]
        rw [e1, e2]; exact hD t (by omega)
    · have := hny j (by omega)
      rw [hV8 z (by omega) (by omega) (by omega), q3 z (by omega) (by omega) (by omega)]
      exact hO z hz (fun t ht => hny t (by omega))
end MDQ


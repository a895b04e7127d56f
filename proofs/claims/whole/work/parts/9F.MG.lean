-- ===== the reference: digit =====
theorem dig_at {n : Nat} {d : Nat → Nat} (hd : ∀ i, i < n → d i < D16) {i : Nat} (hi : i < n) : cd D16 n d / 65536 ^ i % 65536 = d i := by
  have h1 : cd D16 n d / 65536 ^ i = cd D16 n d / 65536 ^ (i + 1) * 65536 + d i := cd_dig hd hi
  have h2 : d i < 65536 := hd i hi
  rw [h1]; omega
theorem dig_out {n : Nat} {d : Nat → Nat} (hd : ∀ i, i < n → d i < D16) {i : Nat} (hi : n ≤ i) : cd D16 n d / 65536 ^ i % 65536 = 0 := by
  have h1 : cd D16 n d < 65536 ^ n := cd_lt n hd
  have h2 : 65536 ^ n ≤ 65536 ^ i := Nat.pow_le_pow_right (by omega) hi
  rw [Nat.div_eq_of_lt (by omega)]
theorem lcm_step {M b P : Int} (hM : 0 < M) (hb : 0 < b) (h1 : M ∣ P) (h2 : b ∣ P) {g : Nat} (hg : g = Nat.gcd M.natAbs b.natAbs) : 0 < M * (b.tdiv g) ∧ M * (b.tdiv g) ∣ P ∧ M ∣ M * (b.tdiv g) ∧ b ∣ M * (b.tdiv g) ∧ (b.tdiv g).natAbs ≤ b.natAbs := by
  have hg0 : 0 < g := by rw [hg]; exact Nat.gcd_pos_of_pos_right _ (by omega)
  have gb : (g : Int) ∣ b := (by rw [hg]; exact Int.gcd_dvd_right _ _)
  have gM : (g : Int) ∣ M := (by rw [hg]; exact Int.gcd_dvd_left _ _)
  obtain ⟨u, hu⟩ := gb
  obtain ⟨v, hv⟩ := gM
  have eu : b.tdiv g = u := by rw [hu, Int.mul_tdiv_cancel_left _ (by omega)]
  rw [eu]
  have hu0 : 0 < u := Int.pos_of_mul_pos_right (by rw [← hu]; exact hb) (by omega)
  have hcop : Int.gcd v u = 1 := by
    have h5 : Int.gcd M b = g := hg.symm
    rw [hv, hu, Int.gcd_mul_left] at h5
    have h6 : g * Int.gcd v u = g * 1 := by rw [Nat.mul_one]; simpa using h5
    exact Nat.eq_of_mul_eq_mul_left hg0 h6
  refine ⟨Int.mul_pos hM hu0, ?_, Int.dvd_mul_right _ _, ⟨v, by rw [hu, hv]; grind⟩, ?_⟩
  · obtain ⟨w, hw⟩ := h1
    have h3 : u ∣ w * v := by
      rw [hw, hu, hv] at h2
      obtain ⟨y, hy⟩ := h2
      refine ⟨y, cancel3 (x := (g : Int)) (by omega) ?_⟩
      have : (g : Int) * (w * v) = g * v * w := by grind
      rw [this, hy]; grind
    have h4 : u ∣ w := by
      exact idvd (m := v) (by rw [Int.gcd_comm]; exact hcop) (by rw [Int.mul_comm]; exact h3)
    obtain ⟨y, hy⟩ := h4
    exact ⟨y, by rw [hw, hy]; grind⟩
  · rw [hu, Int.natAbs_mul]
    exact Nat.le_mul_of_pos_left _ (by omega)
section MDG
variable {p : Program} {l : Launch} {e : Env} {s : State} {m : MethodId} {args : Array Value} {below : List Frame} {meth : Method} {c : Code} {Q : State → Prop} {D : va_G} {k : Nat → ClassId} {L : List Nat} {H0 : Heap}
variable {own : Nat → Nat} {ma : Nat} {ra adr : Nat → Nat} {pr rw cl : Int32} {F R C Lo Pl To Bo Re Sm Pc : Nat → Int32} {V : Nat → Int} {t x n : Nat} {b : Nat → Int} {P : Int} {e0 v5 : Int32}
set_option maxRecDepth 100000 in
set_option maxHeartbeats 4000000 in
theorem w_dig (S : CallFix p m c c_M_digit 7 s args G R_M) (hC : C t = nI n) (ht : t < 8) (hx12 : x < 12) (hn : n ≤ 12) (hsb : ∀ j, j < n → sc Bo (16 * (144 * t + (12 * x + j))) (b j)) (hbb : ∀ j, j < n → 0 < b j ∧ b j ∣ P ∧ (b j).natAbs < D16 ^ 15) (hP : 0 < P) (hP9 : P.natAbs < D16 ^ 15) {f0 : Nat → va_E}
    (kx : ∀ (f : Nat → va_E) (V : Nat → Int) (H : Heap) (locs : List Loc) (ls : Array Slot), MW L own k f ma ra adr pr rw cl F R C Lo Pl To Bo Re Sm Pc V → oe own [200] f0 f → 0 < V 8 → V 8 ∣ P → (∀ z, z < n → b z ∣ V 8) → lv_has ls 7 [(0, .ref ma), (1, .int (nI t)), (2, .int (nI x)), (4, .int e0), (5, .int v5)] → gw D cls (tyl k) L s s.heap f H locs → W p l e (rmN 4) s m args below meth c H locs 0 0 Q (F0 m 180 ls [])) :
    ∀ (d j : Nat) (f : Nat → va_E) (V : Nat → Int) (H : Heap) (locs : List Loc) (ls : Array Slot), j + d = n → MW L own k f ma ra adr pr rw cl F R C Lo Pl To Bo Re Sm Pc V → oe own [200] f0 f → 0 < V 8 → V 8 ∣ P → (∀ z, z < j → b z ∣ V 8) → lv_has ls 7 [(0, .ref ma), (1, .int (nI t)), (2, .int (nI x)), (4, .int e0), (5, .int v5), (6, .int (nI j))] → gw D cls (tyl k) L s s.heap f H locs →
    W p l e (rmN 4) s m args below meth c H locs 0 0 Q (F0 m 68 ls []) := by
  have hx := S.1
  have hb := S.2.1
  have hown : s.vm.findClass R_M = some m.cls := S.2.2.2.1
  have hG := S.2.2.2.2
  intro d
  induction d with
  | zero =>
    intro j f V H locs ls hd h ho hM hMP hz hl hg
    have hd : j = n := by omega
    subst hd
    have hw : kw D cls (tyl k) L s s.heap f ((mc k ra adr ma pr rw cl F R C Lo Pl To Bo Re Sm Pc)) H locs := ⟨f, hg, h.kn⟩
    -- METHOD M_digit | loc 0=m 1=t 2=x 4=e 5=v 6=j | ws m fa rc cc lo pl to bo re tp bt sm pc | fld m.fields=fa m.rowCounts=rc m.columnCounts=cc m.loose=lo m.places=pl m.tops=to m.bottoms=bo m.residues=re m.top=tp m.bottom=bt m.small=sm m.place=pc m.one=n0 m.two=n1 m.three=n2 m.four=n3 m.five=n4 m.six=n5 m.seven=n6 m.eight=n7 m.above=n8 m.under=n9
    refine lv_iload hx hb d_M_digit_68 (lv_at hl 5 rfl) ?_
    refine lv_aload_n hx hb d_M_digit_70 rfl (lv_at hl 0 rfl) ?_
    refine k_get hx hb hG lay_M hown hw 0 rfl rfl 10 (by decide) (hG _ fl_M_60) (fun _ h9 => h9) rfl d_M_digit_71 ?_
    refine lv_iload_n hx hb d_M_digit_74 rfl (lv_at hl 1 rfl) ?_
    refine k_iald hx hb hw 3 0 rfl rfl (t) (rfl) (by omega) (by first | decide | omega) d_M_digit_75 ?_
    refine l_top hC ?_
    refine lv_icmp_ge (tgt := 180) hx hb d_M_digit_76 (by decide) (fun hc => ?_) (fun hc => ?_)
    · exact kx f V H locs ls h ho hM hMP hz (lv_sub hl [0, 1, 2, 3, 4] rfl) hg
    · exact absurd (nI_le (by omega) (by omega)) hc
  | succ d ih =>
    intro j f V H locs ls hd h ho hM hMP hz hl hg
    obtain ⟨hb0, hb1, hb2⟩ := hbb j (by omega)
    obtain ⟨u, hu0⟩ : ∃ u, u = 144 * t + (12 * x + j) := ⟨_, rfl⟩
    have hsj := hsb j (by omega)
    rw [← hu0] at hsj
    have hu1 : u < 1152 := by omega
    have hM9 : (V 8).natAbs < D16 ^ 15 := Nat.lt_of_le_of_lt (dvd_le hMP (by omega)) hP9
    have p80 : D16 ^ 15 < D16 ^ 80 := by decide +kernel
    have p159 : D16 ^ 15 < D16 ^ 159 := by decide +kernel
    have hw : kw D cls (tyl k) L s s.heap f ((mc k ra adr ma pr rw cl F R C Lo Pl To Bo Re Sm Pc)) H locs := ⟨f, hg, h.kn⟩
    -- METHOD M_digit | loc 0=m 1=t 2=x 4=e 5=v 6=j | ws m fa rc cc lo pl to bo re tp bt sm pc | fld m.fields=fa m.rowCounts=rc m.columnCounts=cc m.loose=lo m.places=pl m.tops=to m.bottoms=bo m.residues=re m.top=tp m.bottom=bt m.small=sm m.place=pc m.one=n0 m.two=n1 m.three=n2 m.four=n3 m.five=n4 m.six=n5 m.seven=n6 m.eight=n7 m.above=n8 m.under=n9
    refine lv_iload hx hb d_M_digit_68 (lv_at hl 5 rfl) ?_
    refine lv_aload_n hx hb d_M_digit_70 rfl (lv_at hl 0 rfl) ?_
    refine k_get hx hb hG lay_M hown hw 0 rfl rfl 10 (by decide) (hG _ fl_M_60) (fun _ h9 => h9) rfl d_M_digit_71 ?_
    refine lv_iload_n hx hb d_M_digit_74 rfl (lv_at hl 1 rfl) ?_
    refine k_iald hx hb hw 3 0 rfl rfl (t) (rfl) (by omega) (by first | decide | omega) d_M_digit_75 ?_
    refine l_top hC ?_
    refine lv_icmp_ge (tgt := 180) hx hb d_M_digit_76 (by decide) (fun hc => ?_) (fun hc => ?_)
    · exact absurd hc (nI_ge (by omega) (by omega))
    refine lv_aload_n hx hb d_M_digit_79 rfl (lv_at hl 0 rfl) ?_
    refine k_get hx hb hG lay_M hown hw 0 rfl rfl 24 (by decide) (hG _ fl_M_95) (fun _ h9 => h9) rfl d_M_digit_80 ?_
    refine lv_aload_n hx hb d_M_digit_83 rfl (lv_at hl 0 rfl) ?_
    refine k_get hx hb hG lay_M hown hw 0 rfl rfl 14 (by decide) (hG _ fl_M_73) (fun _ h9 => h9) rfl d_M_digit_84 ?_
    refine lv_bipush (v := 16) hx hb d_M_digit_87 (by decide) ?_
    refine lv_sipush (v := 144) hx hb d_M_digit_89 (by decide) ?_
    refine lv_iload_n hx hb d_M_digit_92 rfl (lv_at hl 1 rfl) ?_
    refine lv_imul hx hb d_M_digit_93 ?_
    refine l_top (pk_mul 144 t) ?_
    refine lv_bipush (v := 12) hx hb d_M_digit_94 (by decide) ?_
    refine lv_iload_n hx hb d_M_digit_96 rfl (lv_at hl 2 rfl) ?_
    refine lv_imul hx hb d_M_digit_97 ?_
    refine l_top (pk_mul 12 x) ?_
    refine lv_iadd hx hb d_M_digit_98 ?_
    refine l_top (nI_add (144 * t) (12 * x)) ?_
    refine lv_iload hx hb d_M_digit_99 (lv_at hl 5 rfl) ?_
    refine lv_iadd hx hb d_M_digit_101 ?_
    refine l_top (nI_add (144 * t + 12 * x) j) ?_
    refine l_top (show nI (144 * t + 12 * x + j) = nI u by rw [hu0, Nat.add_assoc]) ?_
    refine lv_imul hx hb d_M_digit_102 ?_
    refine l_top (pk_mul 16 u) ?_
    have hw := hg
    refine g_ov (c_X (np := 3) S (mm_fetch6 l D h (i := 9) (at0 := 16 * u) (v := b j) (by omega) hsj (by omega)) hw ml_M_120 st_M_fetch in_M co_M_fetch (by decide +kernel) rfl ⟨rfl, rfl, by decide, by decide⟩ hl.1 rfl (by simp [Value.category]) d_M_digit_103 ⟨Nat.zero_le _, Nat.zero_le _⟩) hw (fun f1 H locs hp hg => ?_)
    obtain ⟨h1, ho1⟩ := hp
    have e8 : va_up V 9 (b j) 8 = V 8 := va_up_ne _ _ (by omega)
    have e9 : va_up V 9 (b j) 9 = b j := va_up_self _ _ _
    have hw : kw D cls (tyl k) L s s.heap f1 ((mc k ra adr ma pr rw cl F R C Lo Pl To Bo Re Sm Pc)) H locs := ⟨f1, hg, h1.kn⟩
    refine lv_aload_n hx hb d_M_digit_106 rfl (lv_at hl 0 rfl) ?_
    refine lv_aload_n hx hb d_M_digit_107 rfl (lv_at hl 0 rfl) ?_
    refine k_get hx hb hG lay_M hown hw 0 rfl rfl 23 (by decide) (hG _ fl_M_92) (fun _ h9 => h9) rfl d_M_digit_108 ?_
    refine lv_aload_n hx hb d_M_digit_111 rfl (lv_at hl 0 rfl) ?_
    refine k_get hx hb hG lay_M hown hw 0 rfl rfl 24 (by decide) (hG _ fl_M_95) (fun _ h9 => h9) rfl d_M_digit_112 ?_
    have hw := hg
    refine g_ov (c_V (np := 2) S (m_M_divisor l D h1 (ia := 8) (ib := 9) (by omega) (by omega) (by omega) (by omega) (by rw [e9]; omega)) hw (h1.1.1.1) (h1.2.1 _ (List.mem_cons_self)) rfl ml_M_135 im_M_divisor se_M_M_divisor in_M co_M_divisor (by decide +kernel) rfl ⟨rfl, rfl, by decide, by decide⟩ hl.1 rfl (by simp [Value.category]) d_M_digit_115 ⟨Nat.zero_le _, Nat.zero_le _⟩) hw (fun f2 H locs hp hg => ?_)
    obtain ⟨V2, h2, ho2, hV2, hg2⟩ := hp
    obtain ⟨g, hgd⟩ : ∃ g : Nat, g = Nat.gcd (V 8).natAbs (b j).natAbs := ⟨_, rfl⟩
    rw [e8, e9, ← hgd] at hg2
    have f8 : V2 8 = V 8 := (hV2 8 (by omega)).trans e8
    have f9 : V2 9 = b j := (hV2 9 (by omega)).trans e9
    have hg0 : 0 < g := by rw [hgd]; exact Nat.gcd_pos_of_pos_right _ (by omega)
    have hg9 : g < D16 ^ 159 := Nat.lt_of_le_of_lt (by rw [hgd]; exact Nat.gcd_le_right _ (by omega)) (Nat.lt_trans hb2 p159)
    obtain ⟨q1, q2, q3, q4, q5⟩ := lcm_step hM hb0 hMP hb1 hgd
    have hw : kw D cls (tyl k) L s s.heap f2 ((mc k ra adr ma pr rw cl F R C Lo Pl To Bo Re Sm Pc)) H locs := ⟨f2, hg, h2.kn⟩
    refine lv_aload_n hx hb d_M_digit_118 rfl (lv_at hl 0 rfl) ?_
    refine k_get hx hb hG lay_M hown hw 0 rfl rfl 5 (by decide) (hG _ fl_M_44) (fun _ h9 => h9) rfl d_M_digit_119 ?_
    refine lv_aload_n hx hb d_M_digit_122 rfl (lv_at hl 0 rfl) ?_
    refine k_get hx hb hG lay_M hown hw 0 rfl rfl 4 (by decide) (hG _ fl_M_1) (fun _ h9 => h9) rfl d_M_digit_123 ?_
    have hw := hg
    refine g_ov (c_V (np := 1) S (nn_copy l D h2.1.2.2.2.2 h2.2.2 (i := 5) (a := 4) (by omega) (by omega) (by omega)) hw ((h2.2.2 (5) (by omega)).1) ((h2.2.2 (5) (by omega)).2.2.choose_spec.choose_spec.choose_spec.1) rfl ml_M_7 im_N_copy se_N_N_copy in_N co_N_copy (by decide +kernel) rfl ⟨rfl, rfl, by decide, by decide⟩ hl.1 rfl (by simp [Value.category]) d_M_digit_126 ⟨Nat.zero_le _, Nat.zero_le _⟩) hw (fun f3 H locs hp hg => ?_)
    obtain ⟨h3, ho3⟩ := h2.num hp
    have g5 : va_up V2 5 (V2 4) 5 = (g : Int) := by rw [va_up_self]; exact hg2
    have g8 : va_up V2 5 (V2 4) 8 = V 8 := by rw [va_up_ne _ _ (by omega)]; exact f8
    have g9 : va_up V2 5 (V2 4) 9 = b j := by rw [va_up_ne _ _ (by omega)]; exact f9
    obtain ⟨V3, hV3⟩ : ∃ V3, V3 = va_up V2 5 (V2 4) := ⟨_, rfl⟩
    rw [← hV3] at h3 g5 g8 g9
    have hw : kw D cls (tyl k) L s s.heap f3 ((mc k ra adr ma pr rw cl F R C Lo Pl To Bo Re Sm Pc)) H locs := ⟨f3, hg, h3.kn⟩
    refine lv_aload_n hx hb d_M_digit_129 rfl (lv_at hl 0 rfl) ?_
    refine k_get hx hb hG lay_M hown hw 0 rfl rfl 6 (by decide) (hG _ fl_M_47) (fun _ h9 => h9) rfl d_M_digit_130 ?_
    refine lv_aload_n hx hb d_M_digit_133 rfl (lv_at hl 0 rfl) ?_
    refine k_get hx hb hG lay_M hown hw 0 rfl rfl 24 (by decide) (hG _ fl_M_95) (fun _ h9 => h9) rfl d_M_digit_134 ?_
    refine lv_aload_n hx hb d_M_digit_137 rfl (lv_at hl 0 rfl) ?_
    refine k_get hx hb hG lay_M hown hw 0 rfl rfl 5 (by decide) (hG _ fl_M_44) (fun _ h9 => h9) rfl d_M_digit_138 ?_
    refine lv_aload_n hx hb d_M_digit_141 rfl (lv_at hl 0 rfl) ?_
    refine k_get hx hb hG lay_M hown hw 0 rfl rfl 1 (by decide) (hG _ fl_M_27) (fun _ h9 => h9) rfl d_M_digit_142 ?_
    have hw := hg
    refine g_ov (c_V (np := 3) S (nn_quotient l D h3.1.2.2.2.2 h3.2.2 (i := 6) (a := 9) (b := 5) (r := 1) (by omega) (by omega) (by omega) (by omega) (by omega) (by omega) (by omega) (by omega) (by omega) (by omega) (by rw [g5]; omega) (by rw [g5]; exact hg9)) hw ((h3.2.2 (6) (by omega)).1) ((h3.2.2 (6) (by omega)).2.2.choose_spec.choose_spec.choose_spec.1) rfl ml_M_30 im_N_quotient se_N_N_quotient in_N co_N_quotient (by decide +kernel) rfl ⟨rfl, rfl, by decide, by decide⟩ hl.1 rfl (by simp [Value.category]) d_M_digit_145 ⟨Nat.zero_le _, Nat.zero_le _⟩) hw (fun f4 H locs hp hg => ?_)
    obtain ⟨h4, ho4⟩ := h3.num hp
    obtain ⟨V4, hV4⟩ : ∃ V4, V4 = va_up (va_up V3 6 ((V3 9).tdiv (V3 5))) 1 (((V3 9).natAbs % (V3 5).natAbs : Nat) : Int) := ⟨_, rfl⟩
    rw [← hV4] at h4
    have k6 : V4 6 = (b j).tdiv g := by rw [hV4, va_up_ne _ _ (by omega), va_up_self, g9, g5]
    have k8 : V4 8 = V 8 := by rw [hV4, va_up_ne _ _ (by omega), va_up_ne _ _ (by omega)]; exact g8
    have hw : kw D cls (tyl k) L s s.heap f4 ((mc k ra adr ma pr rw cl F R C Lo Pl To Bo Re Sm Pc)) H locs := ⟨f4, hg, h4.kn⟩
    refine lv_aload_n hx hb d_M_digit_148 rfl (lv_at hl 0 rfl) ?_
    refine k_get hx hb hG lay_M hown hw 0 rfl rfl 7 (by decide) (hG _ fl_M_50) (fun _ h9 => h9) rfl d_M_digit_149 ?_
    refine lv_aload_n hx hb d_M_digit_152 rfl (lv_at hl 0 rfl) ?_
    refine k_get hx hb hG lay_M hown hw 0 rfl rfl 23 (by decide) (hG _ fl_M_92) (fun _ h9 => h9) rfl d_M_digit_153 ?_
    refine lv_aload_n hx hb d_M_digit_156 rfl (lv_at hl 0 rfl) ?_
    refine k_get hx hb hG lay_M hown hw 0 rfl rfl 6 (by decide) (hG _ fl_M_47) (fun _ h9 => h9) rfl d_M_digit_157 ?_
    have hw := hg
    refine g_ov (c_V (np := 2) S (nn_product l D h4.1.2.2.2.2 h4.2.2 (i := 7) (a := 8) (b := 6) (by omega) (by omega) (by omega) (by omega) (by omega) (by omega) (by rw [k8]; omega) (by rw [k6]; omega)) hw ((h4.2.2 (7) (by omega)).1) ((h4.2.2 (7) (by omega)).2.2.choose_spec.choose_spec.choose_spec.1) rfl ml_M_146 im_N_product se_N_N_product in_N co_N_product (by decide +kernel) rfl ⟨rfl, rfl, by decide, by decide⟩ hl.1 rfl (by simp [Value.category]) d_M_digit_160 ⟨Nat.zero_le _, Nat.zero_le _⟩) hw (fun f5 H locs hp hg => ?_)
    obtain ⟨h5, ho5⟩ := h4.num hp
    rw [k8, k6] at h5
    have hw : kw D cls (tyl k) L s s.heap f5 ((mc k ra adr ma pr rw cl F R C Lo Pl To Bo Re Sm Pc)) H locs := ⟨f5, hg, h5.kn⟩
    refine lv_aload_n hx hb d_M_digit_163 rfl (lv_at hl 0 rfl) ?_
    refine k_get hx hb hG lay_M hown hw 0 rfl rfl 23 (by decide) (hG _ fl_M_92) (fun _ h9 => h9) rfl d_M_digit_164 ?_
    refine lv_aload_n hx hb d_M_digit_167 rfl (lv_at hl 0 rfl) ?_
    refine k_get hx hb hG lay_M hown hw 0 rfl rfl 7 (by decide) (hG _ fl_M_50) (fun _ h9 => h9) rfl d_M_digit_168 ?_
    have hw := hg
    refine g_ov (c_V (np := 1) S (nn_copy l D h5.1.2.2.2.2 h5.2.2 (i := 8) (a := 7) (by omega) (by omega) (by omega)) hw ((h5.2.2 (8) (by omega)).1) ((h5.2.2 (8) (by omega)).2.2.choose_spec.choose_spec.choose_spec.1) rfl ml_M_7 im_N_copy se_N_N_copy in_N co_N_copy (by decide +kernel) rfl ⟨rfl, rfl, by decide, by decide⟩ hl.1 rfl (by simp [Value.category]) d_M_digit_171 ⟨Nat.zero_le _, Nat.zero_le _⟩) hw (fun f6 H locs hp hg => ?_)
    obtain ⟨h6, ho6⟩ := h5.num hp
    rw [va_up_self] at h6
    refine lv_iinc (k := 5) hx hb d_M_digit_174 hl rfl (ii1 j) (by decide) rfl (fun ls hl => ?_)
    refine lv_goto (tgt := 68) hx hb d_M_digit_177 (by decide) ?_
    have hl := lv_sub hl [1, 2, 3, 4, 5, 0] rfl
    refine ih (j + 1) f6 _ H locs ls (by omega) h6 (ho.trans (ho1.trans (ho2.trans (ho3.trans (ho4.trans (ho5.trans ho6)))))) ?_ ?_ (fun z hz1 => ?_) hl hg
    · rw [va_up_self]; exact q1
    · rw [va_up_self]; exact q2
    · rw [va_up_self]
      by_cases ez : z = j
      · rw [ez]; exact q4
      · exact Int.dvd_trans (hz z (by omega)) q3
end MDG
section MDGP
variable (l : Launch) (D : va_G) {L : List Nat} {own : Nat → Nat} {k : Nat → ClassId} {f : Nat → va_E} {ma : Nat} {ra adr : Nat → Nat} {st : Nat → Tb}
set_option maxRecDepth 100000 in
set_option maxHeartbeats 4000000 in
theorem m_M_digit (hRS : RS L own k f ma ra adr st) (hok : ∀ i, i < 8 → okT (st i)) {a b d e0 : Int} (ha : rI a) (hb' : rI b) (hd : rI d) (he : rI e0) : Mi l y_M_digit (Cond.code y_M_digit c_M_digit 7 (some .int) :: G) (rmN 4) D cls (tyl k) L f [.ref ma, .int (zI a), .int (zI b), .int (zI d), .int (zI e0)] (fun r f' => RS L own k f' ma ra adr st ∧ oe own [200] f f' ∧ spDigit st a b d e0 r) := by
  have hRS0 := hRS
  have z0 : rI 0 := ⟨by decide, by decide⟩
  obtain ⟨pr, rw, cl, F, R, C, Lo, Pl, To, Bo, Re, Sm, Pc, V, h, hT⟩ := hRS
  have hRC : ∀ i, i < 8 → R i = nI ((fun i => (st i).rows) i) ∧ (fun i => (st i).rows) i ≤ 12 := fun i hi => ⟨(hT i hi).2.1, (hok i hi).2.2.1⟩
  have hCC : ∀ i, i < 8 → C i = nI ((fun i => (st i).cols) i) ∧ (fun i => (st i).cols) i ≤ 12 := fun i hi => ⟨(hT i hi).2.2.1, (hok i hi).2.2.2.1⟩
  -- METHOD M_digit | loc 0=m 1=a 2=b 3=d 4=e | ws m fa rc cc lo pl to bo re tp bt sm pc | fld m.fields=fa m.rowCounts=rc m.columnCounts=cc m.loose=lo m.places=pl m.tops=to m.bottoms=bo m.residues=re m.top=tp m.bottom=bt m.small=sm m.place=pc m.one=n0 m.two=n1 m.three=n2 m.four=n3 m.five=n4 m.six=n5 m.seven=n6 m.eight=n7 m.above=n8 m.under=n9
  refine mk_met (by decide) (Nat.le_of_ble_eq_true rfl) (fun p e s m below meth c ls S hr hlocks hw hl => ?_)
  have hx := S.1
  have hb := S.2.1
  have hown : s.vm.findClass R_M = some m.cls := S.2.2.2.1
  have hG := S.2.2.2.2
  have hl : lv_has ls 7 [(0, .ref ma), (1, .int (zI a)), (2, .int (zI b)), (3, .int (zI d)), (4, .int (zI e0))] := hl
  have hg := hw
  have bad : ∀ (H : Heap) (locs : List Loc) (ls : Array Slot), ((¬ ∃ i x y, isAt st a b d i x y) ∨ e0 < 0) → gw D cls (tyl k) L s s.heap f H locs → W p l e (rmN 4) s m ([.ref ma, .int (zI a), .int (zI b), .int (zI d), .int (zI e0)] : List Value).toArray below meth c H locs 0 0 (MQ below (va_Qi (fun r f' => RS L own k f' ma ra adr st ∧ oe own [200] f f' ∧ spDigit st a b d e0 r) (mst D cls (tyl k) L) (fun q => q ∈ L)) ([.ref ma, .int (zI a), .int (zI b), .int (zI d), .int (zI e0)] : List Value).toArray s 0 0 (fun q => q ∈ L)) (F0 m 15 ls []) := by
    intro H locs ls hno hg
    refine lv_iconst (v := (-1)) hx hb d_M_digit_15 (by decide) ?_
    exact g_reti hx hb hr hlocks hg ⟨hRS0, oe.rf, Or.inr ⟨hno, rfl⟩⟩ d_M_digit_16
  refine lv_aload_n hx hb d_M_digit_0 rfl (lv_at hl 0 rfl) ?_
  refine lv_iload_n hx hb d_M_digit_1 rfl (lv_at hl 1 rfl) ?_
  refine lv_iload_n hx hb d_M_digit_2 rfl (lv_at hl 2 rfl) ?_
  refine lv_iload_n hx hb d_M_digit_3 rfl (lv_at hl 3 rfl) ?_
  have hw := hg
  refine g_oi (c_V (np := 3) S (m_M_isCell l D h hRC hCC ha hb' hd) hw (h.1.1.1) (h.2.1 _ (List.mem_cons_self)) rfl ml_M_181 im_M_isCell se_M_M_isCell in_M co_M_isCell (by decide +kernel) rfl ⟨rfl, rfl, by decide, by decide⟩ hl.1 rfl (by simp [Value.category]) d_M_digit_4 ⟨Nat.zero_le _, Nat.zero_le _⟩) hw (fun r1 f1 H locs hp hg => ?_)
  obtain ⟨e1, hp⟩ := hp
  rw [e1] at hg
  rcases hp with ⟨er, i, x, y, h1, hi, h2, h3, hxr, hyc⟩ | ⟨er, hno⟩
  rotate_left
  · subst er
    refine lv_if_eq (tgt := 15) hx hb d_M_digit_7 (by decide) (fun hc => ?_) (fun hc => ?_)
    · exact bad H locs ls (Or.inl (fun ⟨i, x, y, q⟩ => hno ⟨i, x, y, q⟩)) hg
    · exact absurd rfl hc
  subst er
  have hw : kw D cls (tyl k) L s s.heap f ((mc k ra adr ma pr rw cl F R C Lo Pl To Bo Re Sm Pc)) H locs := ⟨f, hg, h.kn⟩
  refine lv_if_eq (tgt := 15) hx hb d_M_digit_7 (by decide) (fun hc => ?_) (fun hc => ?_)
  · exact absurd hc (by decide)
  refine lv_iload hx hb d_M_digit_10 (lv_at hl 4 rfl) ?_
  refine lv_if_ge (tgt := 17) hx hb d_M_digit_12 (by decide) (fun hc => ?_) (fun hc => ?_)
  rotate_left
  · have hn2 : e0 < 0 := by
      have : ¬ 0 ≤ e0 := fun q => hc ((zI_le (a := 0) z0 he).mpr q)
      omega
    exact bad H locs ls (Or.inr hn2) hg
  have hn2 : 0 ≤ e0 := (zI_le (a := 0) z0 he).mp hc
  obtain ⟨z, hez⟩ : ∃ z : Nat, e0 = z := ⟨e0.toNat, by omega⟩
  have hz31 : z < 2 ^ 31 := by have := he.2; omega
  subst h1
  subst h2
  subst h3
  have hxr : x < (st i).rows := hxr
  have hyc : y < (st i).cols := hyc
  obtain ⟨t1, t2, t3, t4, t5, Vt, t6, t7⟩ := hT i hi
  have hoki := hok i hi
  obtain ⟨hq, h251, hrw, hcl, hL, hR⟩ := hok i hi
  refine lv_sipush (v := 144) hx hb d_M_digit_17 (by decide) ?_
  refine lv_iload_n hx hb d_M_digit_20 rfl (lv_at hl 1 rfl) ?_
  refine lv_imul hx hb d_M_digit_21 ?_
  refine l_top (pk_mul 144 i) ?_
  refine lv_bipush (v := 12) hx hb d_M_digit_22 (by decide) ?_
  refine lv_iload_n hx hb d_M_digit_24 rfl (lv_at hl 2 rfl) ?_
  refine lv_imul hx hb d_M_digit_25 ?_
  refine l_top (pk_mul 12 x) ?_
  refine lv_iadd hx hb d_M_digit_26 ?_
  refine l_top (nI_add (144 * i) (12 * x)) ?_
  refine lv_iload_n hx hb d_M_digit_27 rfl (lv_at hl 3 rfl) ?_
  refine lv_iadd hx hb d_M_digit_28 ?_
  refine l_top (nI_add (144 * i + 12 * x) y) ?_
  refine l_top (show nI (144 * i + 12 * x + y) = nI (144 * i + (12 * x + y)) by rw [Nat.add_assoc]) ?_
  refine lv_istore hx hb d_M_digit_29 hl (by decide) rfl (fun ls hl => ?_)
  refine lv_aload_n hx hb d_M_digit_31 rfl (lv_at hl 1 rfl) ?_
  refine k_get hx hb hG lay_M hown hw 0 rfl rfl 8 (by decide) (hG _ fl_M_53) (fun _ h9 => h9) rfl d_M_digit_32 ?_
  refine lv_iload_n hx hb d_M_digit_35 rfl (lv_at hl 2 rfl) ?_
  refine k_iald hx hb hw 1 0 rfl rfl (i) (rfl) (hi) (by first | decide | omega) d_M_digit_36 ?_
  refine l_top t1 ?_
  refine lv_if_le (tgt := 57) hx hb d_M_digit_37 (by decide) (fun hc => ?_) (fun hc => ?_)
  rotate_left
  · have h0 : (st i).q ≠ 0 := fun z => hc (by rw [z]; exact Int32.le_refl _)
    have hv : Re (144 * i + (12 * x + y)) = zI ((st i).A x y) := t7.2.2 h0 x y hxr hyc
    have hres : rsd (st i).q ((st i).A x y) := by
      by_cases hred : (st i).red = true
      · have := (hoki.2.2.2.2.2 hred).2.1 x hxr
        unfold tl at this
        rw [if_neg (by omega)] at this
        exact this.2 y hyc
      · exact (hoki.2.2.2.2.1 (by simpa using hred) x y hxr hyc).2 h0
    have hr1 := hres.1
    have hr2 := hres.2
    refine lv_iload hx hb d_M_digit_40 (lv_at hl 5 rfl) ?_
    refine lv_if_ne (tgt := 55) hx hb d_M_digit_42 (by decide) (fun hc => ?_) (fun hc => ?_)
    · have hz0 : z ≠ 0 := fun q => hc (by rw [hez, q]; rfl)
      refine lv_iconst (v := 0) hx hb d_M_digit_55 (by decide) ?_
      refine g_reti hx hb hr hlocks hg ⟨hRS0, oe.rf, Or.inl ⟨i, x, y, z, ⟨rfl, hi, rfl, rfl, hxr, hyc⟩, hez, ?_⟩⟩ d_M_digit_56
      rw [Nat.div_eq_of_lt (by have : 65536 ^ 1 ≤ 65536 ^ z := Nat.pow_le_pow_right (by omega) (by omega); omega)]; rfl
    · have hz0 : z = 0 := by
        have : e0 = 0 := (zI_eq he z0).mp hc
        omega
      refine lv_aload_n hx hb d_M_digit_45 rfl (lv_at hl 1 rfl) ?_
      refine k_get hx hb hG lay_M hown hw 0 rfl rfl 15 (by decide) (hG _ fl_M_76) (fun _ h9 => h9) rfl d_M_digit_46 ?_
      refine lv_iload hx hb d_M_digit_49 (lv_at hl 0 rfl) ?_
      refine k_iald hx hb hw 8 0 rfl rfl ((144 * i + (12 * x + y))) (rfl) (by omega) (by first | decide | omega) d_M_digit_51 ?_
      refine lv_goto (tgt := 56) hx hb d_M_digit_52 (by decide) ?_
      refine l_top hv ?_
      refine g_reti hx hb hr hlocks hg ⟨hRS0, oe.rf, Or.inl ⟨i, x, y, z, ⟨rfl, hi, rfl, rfl, hxr, hyc⟩, hez, ?_⟩⟩ d_M_digit_56
      rw [hz0, Nat.pow_zero, Nat.div_one, Nat.mod_eq_of_lt (by omega), ← zI_n, Int.natAbs_of_nonneg hr1]
  have h0 : (st i).q = 0 := Classical.byContradiction fun q => by
    have := (nI_leI (a := (st i).q) (b := 0) (by omega) (by omega)).mp hc
    omega
  -- the row's numbers
  have hPp := PP_pos hoki h0 hxr
  have hPb : (PP (st i) x).natAbs < D16 ^ 15 := by
    unfold PP
    by_cases hred : (st i).red = true
    · rw [if_pos hred]
      obtain ⟨g1, g2, g3⟩ := hR hred
      rw [h0] at g1 g2
      exact Nat.lt_of_le_of_lt (gh_bd (gh_self g1 g2) (g3 h0).1 hxr _ (g1.1 x hxr).1) NB15
    · rw [if_neg hred]; exact p15_0.2
  have hrow : ∀ j, j < (st i).cols → low (av Vt x j) (bv Vt x j) ∧ av Vt x j * PP (st i) x = bv Vt x j * (st i).A x j := fun j hj => t7.2.1 h0 x j hxr hj
  have hJ : ∀ j, j < (st i).cols → (bv Vt x j).natAbs < D16 ^ 15 ∧ (av Vt x j).natAbs < D16 ^ 15 := fun j hj => ⟨(t7.1 (12 * x + j) (by omega)).2, (t7.1 (12 * x + j) (by omega)).1⟩
  have hw : kw D cls (tyl k) L s s.heap f ((mc k ra adr ma pr rw cl F R C Lo Pl To Bo Re Sm Pc)) H locs := ⟨f, hg, h.kn⟩
  refine lv_aload_n hx hb d_M_digit_57 rfl (lv_at hl 1 rfl) ?_
  refine k_get hx hb hG lay_M hown hw 0 rfl rfl 23 (by decide) (hG _ fl_M_92) (fun _ h9 => h9) rfl d_M_digit_58 ?_
  refine lv_lconst (v := 1) hx hb d_M_digit_61 (by decide) ?_
  refine l_topl (show (1 : Int64) = zL 1 by decide +kernel) ?_
  have hw := hg
  refine g_ov (c_V (np := 1) S (nn_small l D h.1.2.2.2.2 h.2.2 (i := 8) (by omega) (v := 1) (by decide)) hw ((h.2.2 (8) (by omega)).1) ((h.2.2 (8) (by omega)).2.2.choose_spec.choose_spec.choose_spec.1) rfl ml_M_117 im_N_small se_N_N_small in_N co_N_small (by decide +kernel) rfl ⟨rfl, rfl, by decide, by decide⟩ hl.1 rfl (by simp [Value.category]) d_M_digit_62 ⟨Nat.zero_le _, Nat.zero_le _⟩) hw (fun f1 H locs hp hg => ?_)
  obtain ⟨h1, ho1⟩ := h.num hp
  refine lv_iconst (v := 0) hx hb d_M_digit_65 (by decide) ?_
  refine lv_istore hx hb d_M_digit_66 hl (by decide) rfl (fun ls hl => ?_)
  have hl := lv_sub hl [2, 3, 4, 6, 1, 0] rfl
  refine w_dig S (t := i) (x := x) (n := (st i).cols) (b := bv Vt x) (P := PP (st i) x) t3 hi (by omega) hcl (fun j hj => (t6 (12 * x + j) (by omega)).2) (fun j hj => ⟨(hrow j hj).1.1, (low_dvd (hrow j hj).1 (hrow j hj).2).1, (hJ j hj).1⟩) hPp hPb (f0 := f) (fun f2 V2 H locs ls h2 ho2 hM hMP hbz hl hg => ?_) (st i).cols 0 f1 _ H locs ls (by omega) h1 ho1 (by rw [va_up_self]; omega) (by rw [va_up_self]; exact Int.one_dvd _) (fun z hz => absurd hz (Nat.not_lt_zero z)) hl hg
  have hMeq : V2 8 = PP (st i) x := by
    by_cases hred : (st i).red = true
    · refine lcm_row hPp hM (fun j hj => ⟨(hrow j hj).1.1, (hrow j hj).2⟩) ?_ hMP hbz
      have := (hR hred).2.1 x hxr
      unfold tl at this
      rw [h0, if_pos (show ((0 : Nat) : Int) = 0 from rfl)] at this
      exact this.1
    · have e1 : PP (st i) x = 1 := by unfold PP; rw [if_neg hred]
      rw [e1] at hMP ⊢
      have := Int.le_of_dvd (by omega) hMP
      omega
  obtain ⟨l1, l2⟩ := hrow y hyc
  have hsy := t6 (12 * x + y) (by omega)
  have hby := l1.1
  obtain ⟨w, hw0⟩ := (low_dvd l1 l2).1
  have hA : (st i).A x y = av Vt x y * w := by
    refine (cancel3 (x := bv Vt x y) (by omega) ?_).symm
    rw [← l2, hw0]; grind
  have hw0p : w.natAbs < D16 ^ 15 := by
    refine Nat.lt_of_le_of_lt ?_ hPb
    rw [hw0, Int.natAbs_mul]
    exact Nat.le_mul_of_pos_left _ (by omega)
  have p80 : D16 ^ 15 < D16 ^ 80 := by decide +kernel
  have p159 : D16 ^ 15 < D16 ^ 159 := by decide +kernel
  have hjy := hJ y hyc
  obtain ⟨u, hu0⟩ : ∃ u, u = 144 * i + (12 * x + y) := ⟨_, rfl⟩
  rw [← hu0] at hl hsy
  have hw : kw D cls (tyl k) L s s.heap f2 ((mc k ra adr ma pr rw cl F R C Lo Pl To Bo Re Sm Pc)) H locs := ⟨f2, hg, h2.kn⟩
  -- METHOD M_digit | loc 0=m 1=t 2=x 4=e 5=v | ws m fa rc cc lo pl to bo re tp bt sm pc | fld m.fields=fa m.rowCounts=rc m.columnCounts=cc m.loose=lo m.places=pl m.tops=to m.bottoms=bo m.residues=re m.top=tp m.bottom=bt m.small=sm m.place=pc m.one=n0 m.two=n1 m.three=n2 m.four=n3 m.five=n4 m.six=n5 m.seven=n6 m.eight=n7 m.above=n8 m.under=n9
  refine lv_aload_n hx hb d_M_digit_180 rfl (lv_at hl 0 rfl) ?_
  refine k_get hx hb hG lay_M hown hw 0 rfl rfl 24 (by decide) (hG _ fl_M_95) (fun _ h9 => h9) rfl d_M_digit_181 ?_
  refine lv_aload_n hx hb d_M_digit_184 rfl (lv_at hl 0 rfl) ?_
  refine k_get hx hb hG lay_M hown hw 0 rfl rfl 14 (by decide) (hG _ fl_M_73) (fun _ h9 => h9) rfl d_M_digit_185 ?_
  refine lv_bipush (v := 16) hx hb d_M_digit_188 (by decide) ?_
  refine lv_iload hx hb d_M_digit_190 (lv_at hl 4 rfl) ?_
  refine lv_imul hx hb d_M_digit_192 ?_
  refine l_top (pk_mul 16 u) ?_
  have hw := hg
  refine g_ov (c_X (np := 3) S (mm_fetch6 l D h2 (i := 9) (at0 := 16 * u) (v := bv Vt x y) (by omega) hsy.2 (by omega)) hw ml_M_120 st_M_fetch in_M co_M_fetch (by decide +kernel) rfl ⟨rfl, rfl, by decide, by decide⟩ hl.1 rfl (by simp [Value.category]) d_M_digit_193 ⟨Nat.zero_le _, Nat.zero_le _⟩) hw (fun f3 H locs hp hg => ?_)
  obtain ⟨h3, ho3⟩ := hp
  obtain ⟨V3, hV3⟩ : ∃ V3, V3 = va_up V2 9 (bv Vt x y) := ⟨_, rfl⟩
  rw [← hV3] at h3
  have a9 : V3 9 = bv Vt x y := by rw [hV3, va_up_self]
  have a8 : V3 8 = PP (st i) x := by rw [hV3, va_up_ne _ _ (by omega)]; exact hMeq
  have hw : kw D cls (tyl k) L s s.heap f3 ((mc k ra adr ma pr rw cl F R C Lo Pl To Bo Re Sm Pc)) H locs := ⟨f3, hg, h3.kn⟩
  refine lv_aload_n hx hb d_M_digit_196 rfl (lv_at hl 0 rfl) ?_
  refine k_get hx hb hG lay_M hown hw 0 rfl rfl 6 (by decide) (hG _ fl_M_47) (fun _ h9 => h9) rfl d_M_digit_197 ?_
  refine lv_aload_n hx hb d_M_digit_200 rfl (lv_at hl 0 rfl) ?_
  refine k_get hx hb hG lay_M hown hw 0 rfl rfl 23 (by decide) (hG _ fl_M_92) (fun _ h9 => h9) rfl d_M_digit_201 ?_
  refine lv_aload_n hx hb d_M_digit_204 rfl (lv_at hl 0 rfl) ?_
  refine k_get hx hb hG lay_M hown hw 0 rfl rfl 24 (by decide) (hG _ fl_M_95) (fun _ h9 => h9) rfl d_M_digit_205 ?_
  refine lv_aload_n hx hb d_M_digit_208 rfl (lv_at hl 0 rfl) ?_
  refine k_get hx hb hG lay_M hown hw 0 rfl rfl 1 (by decide) (hG _ fl_M_27) (fun _ h9 => h9) rfl d_M_digit_209 ?_
  have hw := hg
  refine g_ov (c_V (np := 3) S (nn_quotient l D h3.1.2.2.2.2 h3.2.2 (i := 6) (a := 8) (b := 9) (r := 1) (by omega) (by omega) (by omega) (by omega) (by omega) (by omega) (by omega) (by omega) (by omega) (by omega) (by rw [a9]; omega) (by rw [a9]; omega)) hw ((h3.2.2 (6) (by omega)).1) ((h3.2.2 (6) (by omega)).2.2.choose_spec.choose_spec.choose_spec.1) rfl ml_M_30 im_N_quotient se_N_N_quotient in_N co_N_quotient (by decide +kernel) rfl ⟨rfl, rfl, by decide, by decide⟩ hl.1 rfl (by simp [Value.category]) d_M_digit_212 ⟨Nat.zero_le _, Nat.zero_le _⟩) hw (fun f4 H locs hp hg => ?_)
  obtain ⟨h4, ho4⟩ := h3.num hp
  obtain ⟨V4, hV4⟩ : ∃ V4, V4 = va_up (va_up V3 6 ((V3 8).tdiv (V3 9))) 1 (((V3 8).natAbs % (V3 9).natAbs : Nat) : Int) := ⟨_, rfl⟩
  rw [← hV4] at h4
  have b6 : V4 6 = w := by rw [hV4, va_up_ne _ _ (by omega), va_up_self, a8, a9, hw0, Int.mul_tdiv_cancel_left _ (by omega)]
  have hw : kw D cls (tyl k) L s s.heap f4 ((mc k ra adr ma pr rw cl F R C Lo Pl To Bo Re Sm Pc)) H locs := ⟨f4, hg, h4.kn⟩
  refine lv_aload_n hx hb d_M_digit_215 rfl (lv_at hl 0 rfl) ?_
  refine k_get hx hb hG lay_M hown hw 0 rfl rfl 24 (by decide) (hG _ fl_M_95) (fun _ h9 => h9) rfl d_M_digit_216 ?_
  refine lv_aload_n hx hb d_M_digit_219 rfl (lv_at hl 0 rfl) ?_
  refine k_get hx hb hG lay_M hown hw 0 rfl rfl 13 (by decide) (hG _ fl_M_70) (fun _ h9 => h9) rfl d_M_digit_220 ?_
  refine lv_bipush (v := 16) hx hb d_M_digit_223 (by decide) ?_
  refine lv_iload hx hb d_M_digit_225 (lv_at hl 4 rfl) ?_
  refine lv_imul hx hb d_M_digit_227 ?_
  refine l_top (pk_mul 16 u) ?_
  have hw := hg
  refine g_ov (c_X (np := 3) S (mm_fetch5 l D h4 (i := 9) (at0 := 16 * u) (v := av Vt x y) (by omega) hsy.1 (by omega)) hw ml_M_120 st_M_fetch in_M co_M_fetch (by decide +kernel) rfl ⟨rfl, rfl, by decide, by decide⟩ hl.1 rfl (by simp [Value.category]) d_M_digit_228 ⟨Nat.zero_le _, Nat.zero_le _⟩) hw (fun f5 H locs hp hg => ?_)
  obtain ⟨h5, ho5⟩ := hp
  have c9 : va_up V4 9 (av Vt x y) 9 = av Vt x y := va_up_self _ _ _
  have c6 : va_up V4 9 (av Vt x y) 6 = w := by rw [va_up_ne _ _ (by omega)]; exact b6
  have hw : kw D cls (tyl k) L s s.heap f5 ((mc k ra adr ma pr rw cl F R C Lo Pl To Bo Re Sm Pc)) H locs := ⟨f5, hg, h5.kn⟩
  refine lv_aload_n hx hb d_M_digit_231 rfl (lv_at hl 0 rfl) ?_
  refine k_get hx hb hG lay_M hown hw 0 rfl rfl 7 (by decide) (hG _ fl_M_50) (fun _ h9 => h9) rfl d_M_digit_232 ?_
  refine lv_aload_n hx hb d_M_digit_235 rfl (lv_at hl 0 rfl) ?_
  refine k_get hx hb hG lay_M hown hw 0 rfl rfl 24 (by decide) (hG _ fl_M_95) (fun _ h9 => h9) rfl d_M_digit_236 ?_
  refine lv_aload_n hx hb d_M_digit_239 rfl (lv_at hl 0 rfl) ?_
  refine k_get hx hb hG lay_M hown hw 0 rfl rfl 6 (by decide) (hG _ fl_M_47) (fun _ h9 => h9) rfl d_M_digit_240 ?_
  have hw := hg
  refine g_ov (c_V (np := 2) S (nn_product l D h5.1.2.2.2.2 h5.2.2 (i := 7) (a := 9) (b := 6) (by omega) (by omega) (by omega) (by omega) (by omega) (by omega) (by rw [c9]; omega) (by rw [c6]; omega)) hw ((h5.2.2 (7) (by omega)).1) ((h5.2.2 (7) (by omega)).2.2.choose_spec.choose_spec.choose_spec.1) rfl ml_M_146 im_N_product se_N_N_product in_N co_N_product (by decide +kernel) rfl ⟨rfl, rfl, by decide, by decide⟩ hl.1 rfl (by simp [Value.category]) d_M_digit_243 ⟨Nat.zero_le _, Nat.zero_le _⟩) hw (fun f6 H locs hp hg => ?_)
  obtain ⟨h6, ho6⟩ := h5.num hp
  rw [c9, c6, ← hA] at h6
  obtain ⟨n1, g1, d1, w1, hk1⟩ := h6.k3n (i := 7) (by omega)
  rw [va_up_self] at w1
  have ho : oe own [200] f f6 := ho2.trans (ho3.trans (ho4.trans (ho5.trans ho6)))
  have hRS6 : RS L own k f6 ma ra adr st := ⟨_, _, _, _, _, _, _, _, _, _, _, _, _, _, h6, hT⟩
  have hab := nr_abs w1
  have hn1 := w1.1
  have hw : kw D cls (tyl k) L s s.heap f6 [(ma, cM ra adr pr rw cl), (adr (2 * 7), cN (adr (2 * 7 + 1)) n1 g1), (adr (2 * 7 + 1), cE k d1)] H locs := ⟨f6, hg, hk1⟩
  -- METHOD M_digit | loc 0=m 1=t 2=x 4=e 5=v | ws m n7 nl | fld m.fields=fa m.rowCounts=rc m.columnCounts=cc m.loose=lo m.places=pl m.tops=to m.bottoms=bo m.residues=re m.top=tp m.bottom=bt m.small=sm m.place=pc m.one=n0 m.two=n1 m.three=n2 m.four=n3 m.five=n4 m.six=n5 m.seven=n6 m.eight=n7 m.above=n8 m.under=n9 n7.d=nl
  refine lv_iload hx hb d_M_digit_246 (lv_at hl 3 rfl) ?_
  refine lv_aload_n hx hb d_M_digit_248 rfl (lv_at hl 0 rfl) ?_
  refine k_get hx hb hG lay_M hown hw 0 rfl rfl 7 (by decide) (hG _ fl_M_50) (fun _ h9 => h9) rfl d_M_digit_249 ?_
  refine k_get hx hb hG lay_N hown hw 1 rfl rfl 1 (by decide) (hG _ fl_M_20) (fun _ h9 => h9) rfl d_M_digit_252 ?_
  refine lv_icmp_ge (tgt := 271) hx hb d_M_digit_255 (by decide) (fun hc => ?_) (fun hc => ?_)
  · have hge : n1 ≤ z := by
      rw [hez] at hc
      exact (nI_leI (by omega) hz31).mp hc
    refine lv_iconst (v := 0) hx hb d_M_digit_271 (by decide) ?_
    refine g_reti hx hb hr hlocks hg ⟨hRS6, ho, Or.inl ⟨i, x, y, z, ⟨rfl, hi, rfl, rfl, hxr, hyc⟩, hez, ?_⟩⟩ d_M_digit_272
    rw [hab, dig_out (fun i hi => w1.2.1 i (by omega)) hge]; rfl
  · have hlt : z < n1 := by
      rw [hez] at hc
      have : ¬ n1 ≤ z := fun q => hc ((nI_leI (by omega) hz31).mpr q)
      omega
    refine lv_aload_n hx hb d_M_digit_258 rfl (lv_at hl 0 rfl) ?_
    refine k_get hx hb hG lay_M hown hw 0 rfl rfl 7 (by decide) (hG _ fl_M_50) (fun _ h9 => h9) rfl d_M_digit_259 ?_
    refine k_get hx hb hG lay_N hown hw 1 rfl rfl 0 (by decide) (hG _ fl_M_98) (fun _ h9 => h9) rfl d_M_digit_262 ?_
    refine lv_iload hx hb d_M_digit_265 (lv_at hl 3 rfl) ?_
    refine k_iald hx hb hw 2 0 rfl rfl (z) (by rw [hez]; rfl) (by omega) (by first | decide | omega) d_M_digit_267 ?_
    refine lv_goto (tgt := 272) hx hb d_M_digit_268 (by decide) ?_
    refine g_reti hx hb hr hlocks hg ⟨hRS6, ho, Or.inl ⟨i, x, y, z, ⟨rfl, hi, rfl, rfl, hxr, hyc⟩, hez, ?_⟩⟩ d_M_digit_272
    rw [hab, dig_at (fun i hi => w1.2.1 i (by omega)) hlt]; rfl
end MDGP


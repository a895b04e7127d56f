-- ===== the reference: divisor settle =====
section MW3
variable {f' : Nat → va_E} {L : List Nat} {k : Nat → ClassId} {f : Nat → va_E} {own : Nat → Nat} {ma : Nat} {ra adr : Nat → Nat} {pr rw cl : Int32} {F R C Lo Pl To Bo Re Sm Pc : Nat → Int32} {V : Nat → Int}
theorem MW.k3n (h : MW L own k f ma ra adr pr rw cl F R C Lo Pl To Bo Re Sm Pc V) {i : Nat} (hi : i < 298) : ∃ (n : Nat) (mi : Bool) (d : Nat → Nat), nr n mi d (V i) ∧ kn' L f f [(ma, cM ra adr pr rw cl), (adr (2 * i), cN (adr (2 * i + 1)) n mi), (adr (2 * i + 1), cE k d)] := by
  obtain ⟨m1, ml1, n1, g1, d1, e1, el1, w1⟩ := h.2.2 i hi
  refine ⟨n1, g1, d1, w1, kn_of (fun q hq => ?_) ?_⟩
  · simp only [List.mem_cons, List.not_mem_nil, or_false] at hq
    rcases hq with rfl | rfl | rfl
    · exact ⟨h.1.1.1, h.2.1 _ (List.mem_cons_self)⟩
    · exact ⟨m1, e1⟩
    · exact ⟨ml1, el1⟩
  · simp
    refine ⟨⟨fun e => (h.1.2.2.2.1 (2 * i) (by omega)).2.1 e.symm, fun e => (h.1.2.2.2.1 (2 * i + 1) (by omega)).2.1 e.symm⟩, fun e => ?_⟩
    have := h.1.2.2.2.2 (2 * i) (2 * i + 1) (by omega) (by omega) e
    omega
theorem MW.set3 (h : MW L own k f ma ra adr pr rw cl F R C Lo Pl To Bo Re Sm Pc V) {i : Nat} (hi : i < 298) {n n' : Nat} {mi mi' : Bool} {d d' : Nat → Nat} {v : Int} (hk0 : kn' L f f [(ma, cM ra adr pr rw cl), (adr (2 * i), cN (adr (2 * i + 1)) n mi), (adr (2 * i + 1), cE k d)]) (hk : kn' L f f' [(ma, cM ra adr pr rw cl), (adr (2 * i), cN (adr (2 * i + 1)) n' mi'), (adr (2 * i + 1), cE k d')]) (hv : nr n' mi' d' v) : MW L own k f' ma ra adr pr rw cl F R C Lo Pl To Bo Re Sm Pc (va_up V i v) ∧ oe own [200] f f' := by
  refine h.num (fn_two h.1.2.2.2.2 h.2.2 hi (kn_pick hk (fun q hq => List.mem_cons_of_mem _ hq) ?_ (fun q hq hn => ?_)) hv)
  · have := kn_nd hk
    simp only [List.map_cons, List.nodup_cons] at this ⊢
    exact this.2
  · rcases List.mem_cons.mp hq with rfl | hq
    · exact (hk0.1 0 _ rfl).2
    · exact absurd hq hn
end MW3
section MDV
variable {p : Program} {l : Launch} {e : Env} {s : State} {m : MethodId} {args : Array Value} {below : List Frame} {meth : Method} {c : Code} {Q : State → Prop} {D : va_G} {k : Nat → ClassId} {L : List Nat} {H0 : Heap}
variable {own : Nat → Nat} {ma : Nat} {ra adr : Nat → Nat} {pr rw cl : Int32} {F R C Lo Pl To Bo Re Sm Pc : Nat → Int32} {V : Nat → Int}
set_option maxRecDepth 100000 in
set_option maxHeartbeats 4000000 in
theorem w_mdiv (S : CallFix p m c c_M_divisor 3 s args G R_M) (hr : meth.sig.returnType = none) (hlocks : meth.locks = false) {f0 : Nat → va_E} {V0 : Nat → Int} {g : Nat} :
    ∀ (B A : Nat) (f : Nat → va_E) (V : Nat → Int) (H : Heap) (locs : List Loc) (ls : Array Slot), MW L own k f ma ra adr pr rw cl F R C Lo Pl To Bo Re Sm Pc V → oe own [200] f0 f → (∀ i, i = 0 ∨ 5 ≤ i → V i = V0 i) → V 3 = (B : Int) → V 4 = (A : Int) → B < D16 ^ 159 → Nat.gcd A B = g → lv_has ls 3 [(0, .ref ma)] → gw D cls (tyl k) L s s.heap f H locs →
    W p l e (rmN 3) s m args below meth c H locs 0 0 (MQ below (va_Qv (fun f' => ∃ V', MW L own k f' ma ra adr pr rw cl F R C Lo Pl To Bo Re Sm Pc V' ∧ oe own [200] f0 f' ∧ (∀ i, i = 0 ∨ 5 ≤ i → V' i = V0 i) ∧ V' 4 = (g : Int)) (mst D cls (tyl k) L) (fun q => q ∈ L)) args s 0 0 (fun q => q ∈ L)) (F0 m 32 ls []) := by
  have hx := S.1
  have hb := S.2.1
  have hown : s.vm.findClass R_M = some m.cls := S.2.2.2.1
  have hG := S.2.2.2.2
  intro B
  induction B using Nat.strongRecOn with
  | _ B ih =>
    intro A f V H locs ls h ho hV hB hA hB9 hg0 hl hg
    obtain ⟨n1, g1, d1, w1, hk1⟩ := h.k3n (i := 3) (by omega)
    have hz := nr_z w1
    have hn1 := w1.1
    have hw : kw D cls (tyl k) L s s.heap f [(ma, cM ra adr pr rw cl), (adr (2 * 3), cN (adr (2 * 3 + 1)) n1 g1), (adr (2 * 3 + 1), cE k d1)] H locs := ⟨f, hg, hk1⟩
    -- METHOD M_divisor | loc 0=m | ws m n3 nl | fld m.fields=fa m.rowCounts=rc m.columnCounts=cc m.loose=lo m.places=pl m.tops=to m.bottoms=bo m.residues=re m.top=tp m.bottom=bt m.small=sm m.place=pc m.one=n0 m.two=n1 m.three=n2 m.four=n3 m.five=n4 m.six=n5 m.seven=n6 m.eight=n7 m.above=n8 m.under=n9
    refine lv_aload_n hx hb d_M_divisor_32 rfl (lv_at hl 0 rfl) ?_
    refine k_get hx hb hG lay_M hown hw 0 rfl rfl 3 (by decide) (hG _ fl_M_17) (fun _ h9 => h9) rfl d_M_divisor_33 ?_
    refine k_get hx hb hG lay_N hown hw 1 rfl rfl 1 (by decide) (hG _ fl_M_20) (fun _ h9 => h9) rfl d_M_divisor_36 ?_
    refine lv_if_le (tgt := 86) hx hb d_M_divisor_39 (by decide) (fun hc => ?_) (fun hc => ?_)
    · have h0 : n1 = 0 := by
        rcases Nat.eq_zero_or_pos n1 with q | q
        · exact q
        · exact absurd hc (nI_nle (by omega) (by omega))
      have hB0 : B = 0 := by have := hz.mp h0; omega
      refine g_retv hx hb hr hlocks hg ⟨V, h, ho, hV, ?_⟩ d_M_divisor_86
      rw [hA, ← hg0, hB0, Nat.gcd_zero_right]
    have hB0 : B ≠ 0 := fun q => by
      have : n1 = 0 := hz.mpr (by omega)
      rw [this] at hc
      exact absurd (by decide) hc
    have hw : kw D cls (tyl k) L s s.heap f ((mc k ra adr ma pr rw cl F R C Lo Pl To Bo Re Sm Pc)) H locs := ⟨f, hg, h.kn⟩
    refine lv_aload_n hx hb d_M_divisor_42 rfl (lv_at hl 0 rfl) ?_
    refine k_get hx hb hG lay_M hown hw 0 rfl rfl 2 (by decide) (hG _ fl_M_24) (fun _ h9 => h9) rfl d_M_divisor_43 ?_
    refine lv_aload_n hx hb d_M_divisor_46 rfl (lv_at hl 0 rfl) ?_
    refine k_get hx hb hG lay_M hown hw 0 rfl rfl 4 (by decide) (hG _ fl_M_1) (fun _ h9 => h9) rfl d_M_divisor_47 ?_
    refine lv_aload_n hx hb d_M_divisor_50 rfl (lv_at hl 0 rfl) ?_
    refine k_get hx hb hG lay_M hown hw 0 rfl rfl 3 (by decide) (hG _ fl_M_17) (fun _ h9 => h9) rfl d_M_divisor_51 ?_
    refine lv_aload_n hx hb d_M_divisor_54 rfl (lv_at hl 0 rfl) ?_
    refine k_get hx hb hG lay_M hown hw 0 rfl rfl 1 (by decide) (hG _ fl_M_27) (fun _ h9 => h9) rfl d_M_divisor_55 ?_
    have hw := hg
    refine g_ov (c_V (np := 3) S (nn_quotient l D h.1.2.2.2.2 h.2.2 (i := 2) (a := 4) (b := 3) (r := 1) (by omega) (by omega) (by omega) (by omega) (by omega) (by omega) (by omega) (by omega) (by omega) (by omega) (by rw [hB]; omega) (by rw [hB]; exact hB9)) hw ((h.2.2 (2) (by omega)).1) ((h.2.2 (2) (by omega)).2.2.choose_spec.choose_spec.choose_spec.1) rfl ml_M_30 im_N_quotient se_N_N_quotient in_N co_N_quotient (by decide +kernel) rfl ⟨rfl, rfl, by decide, by decide⟩ hl.1 rfl (by simp [Value.category]) d_M_divisor_58 ⟨Nat.zero_le _, Nat.zero_le _⟩) hw (fun f1 H locs hp hg => ?_)
    obtain ⟨h1, ho1⟩ := h.num hp
    have hw : kw D cls (tyl k) L s s.heap f1 ((mc k ra adr ma pr rw cl F R C Lo Pl To Bo Re Sm Pc)) H locs := ⟨f1, hg, h1.kn⟩
    refine lv_aload_n hx hb d_M_divisor_61 rfl (lv_at hl 0 rfl) ?_
    refine k_get hx hb hG lay_M hown hw 0 rfl rfl 4 (by decide) (hG _ fl_M_1) (fun _ h9 => h9) rfl d_M_divisor_62 ?_
    refine lv_aload_n hx hb d_M_divisor_65 rfl (lv_at hl 0 rfl) ?_
    refine k_get hx hb hG lay_M hown hw 0 rfl rfl 3 (by decide) (hG _ fl_M_17) (fun _ h9 => h9) rfl d_M_divisor_66 ?_
    have hw := hg
    refine g_ov (c_V (np := 1) S (nn_copy l D h1.1.2.2.2.2 h1.2.2 (i := 4) (a := 3) (by omega) (by omega) (by omega)) hw ((h1.2.2 (4) (by omega)).1) ((h1.2.2 (4) (by omega)).2.2.choose_spec.choose_spec.choose_spec.1) rfl ml_M_7 im_N_copy se_N_N_copy in_N co_N_copy (by decide +kernel) rfl ⟨rfl, rfl, by decide, by decide⟩ hl.1 rfl (by simp [Value.category]) d_M_divisor_69 ⟨Nat.zero_le _, Nat.zero_le _⟩) hw (fun f2 H locs hp hg => ?_)
    obtain ⟨h2, ho2⟩ := h1.num hp
    have hw : kw D cls (tyl k) L s s.heap f2 ((mc k ra adr ma pr rw cl F R C Lo Pl To Bo Re Sm Pc)) H locs := ⟨f2, hg, h2.kn⟩
    refine lv_aload_n hx hb d_M_divisor_72 rfl (lv_at hl 0 rfl) ?_
    refine k_get hx hb hG lay_M hown hw 0 rfl rfl 3 (by decide) (hG _ fl_M_17) (fun _ h9 => h9) rfl d_M_divisor_73 ?_
    refine lv_aload_n hx hb d_M_divisor_76 rfl (lv_at hl 0 rfl) ?_
    refine k_get hx hb hG lay_M hown hw 0 rfl rfl 1 (by decide) (hG _ fl_M_27) (fun _ h9 => h9) rfl d_M_divisor_77 ?_
    have hw := hg
    refine g_ov (c_V (np := 1) S (nn_copy l D h2.1.2.2.2.2 h2.2.2 (i := 3) (a := 1) (by omega) (by omega) (by omega)) hw ((h2.2.2 (3) (by omega)).1) ((h2.2.2 (3) (by omega)).2.2.choose_spec.choose_spec.choose_spec.1) rfl ml_M_7 im_N_copy se_N_N_copy in_N co_N_copy (by decide +kernel) rfl ⟨rfl, rfl, by decide, by decide⟩ hl.1 rfl (by simp [Value.category]) d_M_divisor_80 ⟨Nat.zero_le _, Nat.zero_le _⟩) hw (fun f3 H locs hp hg => ?_)
    obtain ⟨h3, ho3⟩ := h2.num hp
    refine lv_goto (tgt := 32) hx hb d_M_divisor_83 (by decide) ?_
    have hab : (V 4).natAbs % (V 3).natAbs = A % B := by rw [hA, hB]; rfl
    refine ih (A % B) (Nat.mod_lt _ (by omega)) B f3 _ H locs ls h3 (ho.trans (ho1.trans (ho2.trans ho3))) (fun i hi => ?_) ?_ ?_ (Nat.lt_trans (Nat.mod_lt _ (by omega)) hB9) ?_ hl hg
    · rw [va_up_ne _ _ (by omega), va_up_ne _ _ (by omega), va_up_ne _ _ (by omega), va_up_ne _ _ (by omega)]; exact hV i hi
    · rw [va_up_self, va_up_ne _ _ (by omega), va_up_self, hab]
    · rw [va_up_ne _ _ (by omega), va_up_self, va_up_ne _ _ (by omega), va_up_ne _ _ (by omega)]; exact hB
    · rw [← hg0, Nat.gcd_comm A B, ← Nat.gcd_rec B A |> fun e => (by rw [Nat.gcd_comm]; exact e.symm : Nat.gcd B (A % B) = Nat.gcd B A)]
end MDV
theorem nr_pm {n : Nat} {mi : Bool} {d : Nat → Nat} {v : Int} (h : nr n mi d v) : nr n false d ((v.natAbs : Nat) : Int) := ⟨h.1, h.2.1, h.2.2.1, fun _ => rfl, by rw [nr_abs h]; rfl⟩
theorem td_g {t : Int} {g : Nat} (h : g ∣ t.natAbs) (hg : 0 < g) : (g : Int) * t.tdiv g = t := by
  obtain ⟨c, hc⟩ := Int.ofNat_dvd_left.mpr h
  rw [hc, Int.mul_tdiv_cancel_left _ (by omega)]
theorem settle_low {t u : Int} {g : Nat} (hu : u ≠ 0) (hg : g = Nat.gcd t.natAbs u.natAbs) : (u.tdiv g < 0 → low (-t.tdiv g) (-u.tdiv g) ∧ -t.tdiv g * u = -u.tdiv g * t) ∧ (¬ u.tdiv g < 0 → low (t.tdiv g) (u.tdiv g) ∧ t.tdiv g * u = u.tdiv g * t) := by
  have hg0 : 0 < g := by rw [hg]; exact Nat.gcd_pos_of_pos_right _ (by omega)
  have et := td_g (t := t) (by rw [hg]; exact Nat.gcd_dvd_left _ _) hg0
  have eu := td_g (t := u) (by rw [hg]; exact Nat.gcd_dvd_right _ _) hg0
  generalize t.tdiv g = t' at *
  generalize u.tdiv g = u' at *
  have hco : Int.gcd t' u' = 1 := by
    have h5 : Int.gcd t u = Int.gcd ((g : Int) * t') ((g : Int) * u') := by rw [et, eu]
    rw [Int.gcd_mul_left, Int.natAbs_natCast] at h5
    have h6 : Int.gcd t u = g := hg.symm
    rw [h6] at h5
    have h7 : g * 1 = g * Int.gcd t' u' := by rw [Nat.mul_one]; exact h5
    exact (Nat.eq_of_mul_eq_mul_left hg0 h7).symm
  have hu0 : u' ≠ 0 := fun q => hu (by rw [← eu, q, Int.mul_zero])
  refine ⟨fun hn => ⟨⟨by omega, by rw [Int.gcd_neg, Int.neg_gcd]; exact hco⟩, ?_⟩, fun hn => ⟨⟨by omega, hco⟩, ?_⟩⟩
  · rw [← et, ← eu]; grind
  · rw [← et, ← eu]; grind
section MST
variable (l : Launch) (D : va_G) {L : List Nat} {k : Nat → ClassId} {f : Nat → va_E} {own : Nat → Nat} {ma : Nat} {ra adr : Nat → Nat} {pr rw cl : Int32} {F R C Lo Pl To Bo Re Sm Pc : Nat → Int32} {V : Nat → Int}
set_option maxRecDepth 100000 in
set_option maxHeartbeats 4000000 in
theorem m_M_divisor (h : MW L own k f ma ra adr pr rw cl F R C Lo Pl To Bo Re Sm Pc V) {ia ib : Nat} (ha1 : 5 ≤ ia) (ha2 : ia < 298) (hb1 : 5 ≤ ib) (hb2 : ib < 298) (hb9 : (V ib).natAbs < D16 ^ 159) : Mv l y_M_divisor (Cond.code y_M_divisor c_M_divisor 3 none :: G) (rmN 3) D cls (tyl k) L f [.ref ma, .ref (adr (2 * ia)), .ref (adr (2 * ib))] (fun f' => ∃ V', MW L own k f' ma ra adr pr rw cl F R C Lo Pl To Bo Re Sm Pc V' ∧ oe own [200] f f' ∧ (∀ i, i = 0 ∨ 5 ≤ i → V' i = V i) ∧ V' 4 = ((Nat.gcd (V ia).natAbs (V ib).natAbs : Nat) : Int)) := by
  -- METHOD M_divisor | loc 0=m 1=a 2=b | ws m fa rc cc lo pl to bo re tp bt sm pc | fld m.fields=fa m.rowCounts=rc m.columnCounts=cc m.loose=lo m.places=pl m.tops=to m.bottoms=bo m.residues=re m.top=tp m.bottom=bt m.small=sm m.place=pc m.one=n0 m.two=n1 m.three=n2 m.four=n3 m.five=n4 m.six=n5 m.seven=n6 m.eight=n7 m.above=n8 m.under=n9
  refine mk_met (by decide) (Nat.le_of_ble_eq_true rfl) (fun p e s m below meth c ls S hr hlocks hw hl => ?_)
  have hx := S.1
  have hb := S.2.1
  have hown : s.vm.findClass R_M = some m.cls := S.2.2.2.1
  have hG := S.2.2.2.2
  have hl : lv_has ls 3 [(0, .ref ma), (1, .ref (adr (2 * ia))), (2, .ref (adr (2 * ib)))] := hl
  have hg := hw
  have hw : kw D cls (tyl k) L s s.heap f ((mc k ra adr ma pr rw cl F R C Lo Pl To Bo Re Sm Pc)) s.heap [] := ⟨f, hw, h.kn⟩
  refine lv_aload_n hx hb d_M_divisor_0 rfl (lv_at hl 0 rfl) ?_
  refine k_get hx hb hG lay_M hown hw 0 rfl rfl 4 (by decide) (hG _ fl_M_1) (fun _ h9 => h9) rfl d_M_divisor_1 ?_
  refine lv_aload_n hx hb d_M_divisor_4 rfl (lv_at hl 1 rfl) ?_
  have hw := hg
  refine g_ov (c_V (np := 1) S (nn_copy l D h.1.2.2.2.2 h.2.2 (i := 4) (a := ia) (by omega) (by omega) (by omega)) hw ((h.2.2 (4) (by omega)).1) ((h.2.2 (4) (by omega)).2.2.choose_spec.choose_spec.choose_spec.1) rfl ml_M_7 im_N_copy se_N_N_copy in_N co_N_copy (by decide +kernel) rfl ⟨rfl, rfl, by decide, by decide⟩ hl.1 rfl (by simp [Value.category]) d_M_divisor_5 ⟨Nat.zero_le _, Nat.zero_le _⟩) hw (fun f1 H locs hp hg => ?_)
  obtain ⟨h1, ho1⟩ := h.num hp
  obtain ⟨n1, g1, d1, w1, hk1⟩ := h1.k3n (i := 4) (by omega)
  have hw : kw D cls (tyl k) L s s.heap f1 [(ma, cM ra adr pr rw cl), (adr (2 * 4), cN (adr (2 * 4 + 1)) n1 g1), (adr (2 * 4 + 1), cE k d1)] H locs := ⟨f1, hg, hk1⟩
  refine lv_aload_n hx hb d_M_divisor_8 rfl (lv_at hl 0 rfl) ?_
  refine k_get hx hb hG lay_M hown hw 0 rfl rfl 4 (by decide) (hG _ fl_M_1) (fun _ h9 => h9) rfl d_M_divisor_9 ?_
  refine lv_iconst (v := 0) hx hb d_M_divisor_12 (by decide) ?_
  refine k_put (ty := .boolean) hx hb hG lay_N ft_N ft_N_ok fn_N hown hw 1 rfl rfl 2 (by decide) (hG _ fl_M_13) (fun _ h9 => h9) rfl (by decide +kernel) rfl rfl (by simp) d_M_divisor_13 (fun H locs hw => ?_)
  obtain ⟨f2, hg, hk2⟩ := hw
  obtain ⟨h2, ho2⟩ := h1.set3 (i := 4) (by omega) hk1 hk2 (nr_pm w1)
  have hw : kw D cls (tyl k) L s s.heap f2 ((mc k ra adr ma pr rw cl F R C Lo Pl To Bo Re Sm Pc)) H locs := ⟨f2, hg, h2.kn⟩
  refine lv_aload_n hx hb d_M_divisor_16 rfl (lv_at hl 0 rfl) ?_
  refine k_get hx hb hG lay_M hown hw 0 rfl rfl 3 (by decide) (hG _ fl_M_17) (fun _ h9 => h9) rfl d_M_divisor_17 ?_
  refine lv_aload_n hx hb d_M_divisor_20 rfl (lv_at hl 2 rfl) ?_
  have hw := hg
  refine g_ov (c_V (np := 1) S (nn_copy l D h2.1.2.2.2.2 h2.2.2 (i := 3) (a := ib) (by omega) (by omega) (by omega)) hw ((h2.2.2 (3) (by omega)).1) ((h2.2.2 (3) (by omega)).2.2.choose_spec.choose_spec.choose_spec.1) rfl ml_M_7 im_N_copy se_N_N_copy in_N co_N_copy (by decide +kernel) rfl ⟨rfl, rfl, by decide, by decide⟩ hl.1 rfl (by simp [Value.category]) d_M_divisor_21 ⟨Nat.zero_le _, Nat.zero_le _⟩) hw (fun f3 H locs hp hg => ?_)
  obtain ⟨h3, ho3⟩ := h2.num hp
  obtain ⟨n3, g3, d3, w3, hk3⟩ := h3.k3n (i := 3) (by omega)
  have hw : kw D cls (tyl k) L s s.heap f3 [(ma, cM ra adr pr rw cl), (adr (2 * 3), cN (adr (2 * 3 + 1)) n3 g3), (adr (2 * 3 + 1), cE k d3)] H locs := ⟨f3, hg, hk3⟩
  refine lv_aload_n hx hb d_M_divisor_24 rfl (lv_at hl 0 rfl) ?_
  refine k_get hx hb hG lay_M hown hw 0 rfl rfl 3 (by decide) (hG _ fl_M_17) (fun _ h9 => h9) rfl d_M_divisor_25 ?_
  refine lv_iconst (v := 0) hx hb d_M_divisor_28 (by decide) ?_
  refine k_put (ty := .boolean) hx hb hG lay_N ft_N ft_N_ok fn_N hown hw 1 rfl rfl 2 (by decide) (hG _ fl_M_13) (fun _ h9 => h9) rfl (by decide +kernel) rfl rfl (by simp) d_M_divisor_29 (fun H locs hw => ?_)
  obtain ⟨f4, hg, hk4⟩ := hw
  obtain ⟨h4, ho4⟩ := h3.set3 (i := 3) (by omega) hk3 hk4 (nr_pm w3)
  refine w_mdiv S hr hlocks (g := Nat.gcd (V ia).natAbs (V ib).natAbs) (V ib).natAbs (V ia).natAbs f4 _ H locs ls h4 (ho1.trans (ho2.trans (ho3.trans ho4))) (fun i hi => ?_) ?_ ?_ hb9 rfl (lv_sub hl [0] rfl) hg
  · rw [va_up_ne _ _ (by omega), va_up_ne _ _ (by omega), va_up_ne _ _ (by omega), va_up_ne _ _ (by omega)]
  · rw [va_up_self, va_up_self, va_up_ne _ _ (by omega), va_up_ne _ _ (by omega)]
  · rw [va_up_ne _ _ (by omega), va_up_ne _ _ (by omega), va_up_self, va_up_self]
set_option maxRecDepth 100000 in
set_option maxHeartbeats 4000000 in
theorem m_M_settle (h : MW L own k f ma ra adr pr rw cl F R C Lo Pl To Bo Re Sm Pc V) {j : Nat} (hj : j < 144) (hu0 : V (154 + j) ≠ 0) (hu9 : (V (154 + j)).natAbs < D16 ^ 159) : Mv l y_M_settle (Cond.code y_M_settle c_M_settle 2 none :: G) (rmN 4) D cls (tyl k) L f [.ref ma, .int (nI j)] (fun f' => ∃ V', MW L own k f' ma ra adr pr rw cl F R C Lo Pl To Bo Re Sm Pc V' ∧ oe own [200] f f' ∧ (∀ i, i = 0 ∨ 8 ≤ i → i ≠ 10 + j → i ≠ 154 + j → V' i = V i) ∧ low (V' (10 + j)) (V' (154 + j)) ∧ V' (10 + j) * V (154 + j) = V' (154 + j) * V (10 + j)) := by
  -- METHOD M_settle | loc 0=m 1=j | ws m fa rc cc lo pl to bo re tp bt sm pc | fld m.fields=fa m.rowCounts=rc m.columnCounts=cc m.loose=lo m.places=pl m.tops=to m.bottoms=bo m.residues=re m.top=tp m.bottom=bt m.small=sm m.place=pc m.one=n0 m.two=n1 m.three=n2 m.four=n3 m.five=n4 m.six=n5 m.seven=n6 m.eight=n7 m.above=n8 m.under=n9
  refine mk_met (by decide) (Nat.le_of_ble_eq_true rfl) (fun p e s m below meth c ls S hr hlocks hw hl => ?_)
  have hx := S.1
  have hb := S.2.1
  have hown : s.vm.findClass R_M = some m.cls := S.2.2.2.1
  have hG := S.2.2.2.2
  have hl : lv_has ls 2 [(0, .ref ma), (1, .int (nI j))] := hl
  have hg := hw
  have hw : kw D cls (tyl k) L s s.heap f ((mc k ra adr ma pr rw cl F R C Lo Pl To Bo Re Sm Pc)) s.heap [] := ⟨f, hw, h.kn⟩
  refine lv_aload_n hx hb d_M_settle_0 rfl (lv_at hl 0 rfl) ?_
  refine lv_aload_n hx hb d_M_settle_1 rfl (lv_at hl 0 rfl) ?_
  refine k_get hx hb hG lay_M hown hw 0 rfl rfl 16 (by decide) (hG _ fl_M_79) (fun _ h9 => h9) rfl d_M_settle_2 ?_
  refine lv_iload_n hx hb d_M_settle_5 rfl (lv_at hl 1 rfl) ?_
  refine k_aald hx hb hw 9 4 rfl rfl (j) (rfl) (by omega) (by first | decide | omega) (rfl) d_M_settle_6 ?_
  refine lv_aload_n hx hb d_M_settle_7 rfl (lv_at hl 0 rfl) ?_
  refine k_get hx hb hG lay_M hown hw 0 rfl rfl 17 (by decide) (hG _ fl_M_83) (fun _ h9 => h9) rfl d_M_settle_8 ?_
  refine lv_iload_n hx hb d_M_settle_11 rfl (lv_at hl 1 rfl) ?_
  refine k_aald hx hb hw 10 4 rfl rfl (j) (rfl) (by omega) (by first | decide | omega) (rfl) d_M_settle_12 ?_
  have hw := hg
  refine g_ov (c_V (np := 2) S (m_M_divisor l D h (ia := 10 + j) (ib := 154 + j) (by omega) (by omega) (by omega) (by omega) hu9) hw (h.1.1.1) (h.2.1 _ (List.mem_cons_self)) rfl ml_M_135 im_M_divisor se_M_M_divisor in_M co_M_divisor (by decide +kernel) rfl ⟨rfl, rfl, by decide, by decide⟩ hl.1 rfl (by simp [Value.category]) d_M_settle_13 ⟨Nat.zero_le _, Nat.zero_le _⟩) hw (fun f1 H locs hp hg => ?_)
  obtain ⟨V1, h1, ho1, hV1, hg1⟩ := hp
  obtain ⟨g, hgd⟩ : ∃ g : Nat, g = Nat.gcd (V (10 + j)).natAbs (V (154 + j)).natAbs := ⟨_, rfl⟩
  rw [← hgd] at hg1
  have hg0 : 0 < g := by rw [hgd]; exact Nat.gcd_pos_of_pos_right _ (by omega)
  have hg9 : g < D16 ^ 159 := Nat.lt_of_le_of_lt (by rw [hgd]; exact Nat.gcd_le_right _ (by omega)) hu9
  have hw : kw D cls (tyl k) L s s.heap f1 ((mc k ra adr ma pr rw cl F R C Lo Pl To Bo Re Sm Pc)) H locs := ⟨f1, hg, h1.kn⟩
  refine lv_aload_n hx hb d_M_settle_16 rfl (lv_at hl 0 rfl) ?_
  refine k_get hx hb hG lay_M hown hw 0 rfl rfl 5 (by decide) (hG _ fl_M_44) (fun _ h9 => h9) rfl d_M_settle_17 ?_
  refine lv_aload_n hx hb d_M_settle_20 rfl (lv_at hl 0 rfl) ?_
  refine k_get hx hb hG lay_M hown hw 0 rfl rfl 4 (by decide) (hG _ fl_M_1) (fun _ h9 => h9) rfl d_M_settle_21 ?_
  have hw := hg
  refine g_ov (c_V (np := 1) S (nn_copy l D h1.1.2.2.2.2 h1.2.2 (i := 5) (a := 4) (by omega) (by omega) (by omega)) hw ((h1.2.2 (5) (by omega)).1) ((h1.2.2 (5) (by omega)).2.2.choose_spec.choose_spec.choose_spec.1) rfl ml_M_7 im_N_copy se_N_N_copy in_N co_N_copy (by decide +kernel) rfl ⟨rfl, rfl, by decide, by decide⟩ hl.1 rfl (by simp [Value.category]) d_M_settle_24 ⟨Nat.zero_le _, Nat.zero_le _⟩) hw (fun f2 H locs hp hg => ?_)
  obtain ⟨h2, ho2⟩ := h1.num hp
  have e5 : ∀ W5 : Nat → Int, W5 5 = V1 4 → W5 5 = (g : Int) := fun W5 q => q.trans hg1
  have hw : kw D cls (tyl k) L s s.heap f2 ((mc k ra adr ma pr rw cl F R C Lo Pl To Bo Re Sm Pc)) H locs := ⟨f2, hg, h2.kn⟩
  refine lv_aload_n hx hb d_M_settle_27 rfl (lv_at hl 0 rfl) ?_
  refine k_get hx hb hG lay_M hown hw 0 rfl rfl 6 (by decide) (hG _ fl_M_47) (fun _ h9 => h9) rfl d_M_settle_28 ?_
  refine lv_aload_n hx hb d_M_settle_31 rfl (lv_at hl 0 rfl) ?_
  refine k_get hx hb hG lay_M hown hw 0 rfl rfl 16 (by decide) (hG _ fl_M_79) (fun _ h9 => h9) rfl d_M_settle_32 ?_
  refine lv_iload_n hx hb d_M_settle_35 rfl (lv_at hl 1 rfl) ?_
  refine k_aald hx hb hw 9 4 rfl rfl (j) (rfl) (by omega) (by first | decide | omega) (rfl) d_M_settle_36 ?_
  refine lv_aload_n hx hb d_M_settle_37 rfl (lv_at hl 0 rfl) ?_
  refine k_get hx hb hG lay_M hown hw 0 rfl rfl 5 (by decide) (hG _ fl_M_44) (fun _ h9 => h9) rfl d_M_settle_38 ?_
  refine lv_aload_n hx hb d_M_settle_41 rfl (lv_at hl 0 rfl) ?_
  refine k_get hx hb hG lay_M hown hw 0 rfl rfl 1 (by decide) (hG _ fl_M_27) (fun _ h9 => h9) rfl d_M_settle_42 ?_
  have hw := hg
  refine g_ov (c_V (np := 3) S (nn_quotient l D h2.1.2.2.2.2 h2.2.2 (i := 6) (a := 10 + j) (b := 5) (r := 1) (by omega) (by omega) (by omega) (by omega) (by omega) (by omega) (by omega) (by omega) (by omega) (by omega) (by rw [va_up_self, hg1]; omega) (by rw [va_up_self, hg1]; exact hg9)) hw ((h2.2.2 (6) (by omega)).1) ((h2.2.2 (6) (by omega)).2.2.choose_spec.choose_spec.choose_spec.1) rfl ml_M_30 im_N_quotient se_N_N_quotient in_N co_N_quotient (by decide +kernel) rfl ⟨rfl, rfl, by decide, by decide⟩ hl.1 rfl (by simp [Value.category]) d_M_settle_45 ⟨Nat.zero_le _, Nat.zero_le _⟩) hw (fun f3 H locs hp hg => ?_)
  obtain ⟨h3, ho3⟩ := h2.num hp
  have hw : kw D cls (tyl k) L s s.heap f3 ((mc k ra adr ma pr rw cl F R C Lo Pl To Bo Re Sm Pc)) H locs := ⟨f3, hg, h3.kn⟩
  refine lv_aload_n hx hb d_M_settle_48 rfl (lv_at hl 0 rfl) ?_
  refine k_get hx hb hG lay_M hown hw 0 rfl rfl 7 (by decide) (hG _ fl_M_50) (fun _ h9 => h9) rfl d_M_settle_49 ?_
  refine lv_aload_n hx hb d_M_settle_52 rfl (lv_at hl 0 rfl) ?_
  refine k_get hx hb hG lay_M hown hw 0 rfl rfl 17 (by decide) (hG _ fl_M_83) (fun _ h9 => h9) rfl d_M_settle_53 ?_
  refine lv_iload_n hx hb d_M_settle_56 rfl (lv_at hl 1 rfl) ?_
  refine k_aald hx hb hw 10 4 rfl rfl (j) (rfl) (by omega) (by first | decide | omega) (rfl) d_M_settle_57 ?_
  refine lv_aload_n hx hb d_M_settle_58 rfl (lv_at hl 0 rfl) ?_
  refine k_get hx hb hG lay_M hown hw 0 rfl rfl 5 (by decide) (hG _ fl_M_44) (fun _ h9 => h9) rfl d_M_settle_59 ?_
  refine lv_aload_n hx hb d_M_settle_62 rfl (lv_at hl 0 rfl) ?_
  refine k_get hx hb hG lay_M hown hw 0 rfl rfl 1 (by decide) (hG _ fl_M_27) (fun _ h9 => h9) rfl d_M_settle_63 ?_
  have hw := hg
  have v35 : va_up (va_up (va_up V1 5 (V1 4)) 6 ((va_up V1 5 (V1 4) (10 + j)).tdiv (va_up V1 5 (V1 4) 5))) 1 (((va_up V1 5 (V1 4) (10 + j)).natAbs % (va_up V1 5 (V1 4) 5).natAbs : Nat) : Int) 5 = (g : Int) := by
    rw [va_up_ne _ _ (by omega), va_up_ne _ _ (by omega), va_up_self, hg1]
  refine g_ov (c_V (np := 3) S (nn_quotient l D h3.1.2.2.2.2 h3.2.2 (i := 7) (a := 154 + j) (b := 5) (r := 1) (by omega) (by omega) (by omega) (by omega) (by omega) (by omega) (by omega) (by omega) (by omega) (by omega) (by rw [v35]; omega) (by rw [v35]; exact hg9)) hw ((h3.2.2 (7) (by omega)).1) ((h3.2.2 (7) (by omega)).2.2.choose_spec.choose_spec.choose_spec.1) rfl ml_M_30 im_N_quotient se_N_N_quotient in_N co_N_quotient (by decide +kernel) rfl ⟨rfl, rfl, by decide, by decide⟩ hl.1 rfl (by simp [Value.category]) d_M_settle_66 ⟨Nat.zero_le _, Nat.zero_le _⟩) hw (fun f4 H locs hp hg => ?_)
  obtain ⟨h4, ho4⟩ := h3.num hp
  -- what the numbers are now
  have key : ∃ V4 : Nat → Int, MW L own k f4 ma ra adr pr rw cl F R C Lo Pl To Bo Re Sm Pc V4 ∧ V4 6 = (V (10 + j)).tdiv g ∧ V4 7 = (V (154 + j)).tdiv g ∧ ∀ i, i = 0 ∨ 8 ≤ i → V4 i = V i := by
    refine ⟨_, h4, ?_, ?_, fun i hi => ?_⟩
    · rw [va_up_ne _ _ (by omega), va_up_ne _ _ (by omega), va_up_ne _ _ (by omega), va_up_self, va_up_self, va_up_ne _ _ (by omega), hg1, hV1 _ (by omega)]
    · rw [va_up_ne _ _ (by omega), va_up_self, v35, va_up_ne _ _ (by omega), va_up_ne _ _ (by omega), va_up_ne _ _ (by omega), hV1 _ (by omega)]
    · rw [va_up_ne _ _ (by omega), va_up_ne _ _ (by omega), va_up_ne _ _ (by omega), va_up_ne _ _ (by omega), va_up_ne _ _ (by omega)]; exact hV1 i (by omega)
  clear h4
  obtain ⟨V4, h4, q6, q7, qo⟩ := key
  have ho4' : oe own [200] f f4 := ho1.trans (ho2.trans (ho3.trans ho4))
  obtain ⟨s1, s2⟩ := settle_low hu0 hgd
  -- the copies at the end
  have fin : ∀ (f5 : Nat → va_E) (V5 : Nat → Int) (H : Heap) (locs : List Loc) (ls : Array Slot), MW L own k f5 ma ra adr pr rw cl F R C Lo Pl To Bo Re Sm Pc V5 → oe own [200] f f5 → (∀ i, i = 0 ∨ 8 ≤ i → V5 i = V i) → low (V5 6) (V5 7) → V5 6 * V (154 + j) = V5 7 * V (10 + j) → lv_has ls 2 [(0, .ref ma), (1, .int (nI j))] → gw D cls (tyl k) L s s.heap f5 H locs → W p l e (rmN 4) s m ([.ref ma, .int (nI j)] : List Value).toArray below meth c H locs 0 0 (MQ below (va_Qv (fun f' => ∃ V', MW L own k f' ma ra adr pr rw cl F R C Lo Pl To Bo Re Sm Pc V' ∧ oe own [200] f f' ∧ (∀ i, i = 0 ∨ 8 ≤ i → i ≠ 10 + j → i ≠ 154 + j → V' i = V i) ∧ low (V' (10 + j)) (V' (154 + j)) ∧ V' (10 + j) * V (154 + j) = V' (154 + j) * V (10 + j)) (mst D cls (tyl k) L) (fun q => q ∈ L)) ([.ref ma, .int (nI j)] : List Value).toArray s 0 0 (fun q => q ∈ L)) (F0 m 93 ls []) := by
    intro f5 V5 H locs ls h5 ho5 hV5 hlow heq hl hg
    have hw : kw D cls (tyl k) L s s.heap f5 ((mc k ra adr ma pr rw cl F R C Lo Pl To Bo Re Sm Pc)) H locs := ⟨f5, hg, h5.kn⟩
    -- METHOD M_settle | loc 0=m 1=j | ws m fa rc cc lo pl to bo re tp bt sm pc | fld m.fields=fa m.rowCounts=rc m.columnCounts=cc m.loose=lo m.places=pl m.tops=to m.bottoms=bo m.residues=re m.top=tp m.bottom=bt m.small=sm m.place=pc m.one=n0 m.two=n1 m.three=n2 m.four=n3 m.five=n4 m.six=n5 m.seven=n6 m.eight=n7 m.above=n8 m.under=n9
    refine lv_aload_n hx hb d_M_settle_93 rfl (lv_at hl 0 rfl) ?_
    refine k_get hx hb hG lay_M hown hw 0 rfl rfl 16 (by decide) (hG _ fl_M_79) (fun _ h9 => h9) rfl d_M_settle_94 ?_
    refine lv_iload_n hx hb d_M_settle_97 rfl (lv_at hl 1 rfl) ?_
    refine k_aald hx hb hw 9 4 rfl rfl (j) (rfl) (by omega) (by first | decide | omega) (rfl) d_M_settle_98 ?_
    refine lv_aload_n hx hb d_M_settle_99 rfl (lv_at hl 0 rfl) ?_
    refine k_get hx hb hG lay_M hown hw 0 rfl rfl 6 (by decide) (hG _ fl_M_47) (fun _ h9 => h9) rfl d_M_settle_100 ?_
    have hw := hg
    refine g_ov (c_V (np := 1) S (nn_copy l D h5.1.2.2.2.2 h5.2.2 (i := 10 + j) (a := 6) (by omega) (by omega) (by omega)) hw ((h5.2.2 (10 + j) (by omega)).1) ((h5.2.2 (10 + j) (by omega)).2.2.choose_spec.choose_spec.choose_spec.1) rfl ml_M_7 im_N_copy se_N_N_copy in_N co_N_copy (by decide +kernel) rfl ⟨rfl, rfl, by decide, by decide⟩ hl.1 rfl (by simp [Value.category]) d_M_settle_103 ⟨Nat.zero_le _, Nat.zero_le _⟩) hw (fun f6 H locs hp hg => ?_)
    obtain ⟨h6, ho6⟩ := h5.num hp
    have hw : kw D cls (tyl k) L s s.heap f6 ((mc k ra adr ma pr rw cl F R C Lo Pl To Bo Re Sm Pc)) H locs := ⟨f6, hg, h6.kn⟩
    refine lv_aload_n hx hb d_M_settle_106 rfl (lv_at hl 0 rfl) ?_
    refine k_get hx hb hG lay_M hown hw 0 rfl rfl 17 (by decide) (hG _ fl_M_83) (fun _ h9 => h9) rfl d_M_settle_107 ?_
    refine lv_iload_n hx hb d_M_settle_110 rfl (lv_at hl 1 rfl) ?_
    refine k_aald hx hb hw 10 4 rfl rfl (j) (rfl) (by omega) (by first | decide | omega) (rfl) d_M_settle_111 ?_
    refine lv_aload_n hx hb d_M_settle_112 rfl (lv_at hl 0 rfl) ?_
    refine k_get hx hb hG lay_M hown hw 0 rfl rfl 7 (by decide) (hG _ fl_M_50) (fun _ h9 => h9) rfl d_M_settle_113 ?_
    have hw := hg
    refine g_ov (c_V (np := 1) S (nn_copy l D h6.1.2.2.2.2 h6.2.2 (i := 154 + j) (a := 7) (by omega) (by omega) (by omega)) hw ((h6.2.2 (154 + j) (by omega)).1) ((h6.2.2 (154 + j) (by omega)).2.2.choose_spec.choose_spec.choose_spec.1) rfl ml_M_7 im_N_copy se_N_N_copy in_N co_N_copy (by decide +kernel) rfl ⟨rfl, rfl, by decide, by decide⟩ hl.1 rfl (by simp [Value.category]) d_M_settle_116 ⟨Nat.zero_le _, Nat.zero_le _⟩) hw (fun f7 H locs hp hg => ?_)
    obtain ⟨h7, ho7⟩ := h6.num hp
    refine g_retv hx hb hr hlocks hg ⟨_, h7, ho5.trans (ho6.trans ho7), fun i hi n1 n2 => ?_, ?_, ?_⟩ d_M_settle_119
    · rw [va_up_ne _ _ n2, va_up_ne _ _ n1]; exact hV5 i hi
    · rw [va_up_self, va_up_ne _ _ (show 10 + j ≠ 154 + j by omega), va_up_self, va_up_ne _ _ (show (7 : Nat) ≠ 10 + j by omega)]; exact hlow
    · rw [va_up_self, va_up_ne _ _ (show 10 + j ≠ 154 + j by omega), va_up_self, va_up_ne _ _ (show (7 : Nat) ≠ 10 + j by omega)]; exact heq
  obtain ⟨n1, g1, d1, w1, hk1⟩ := h4.k3n (i := 7) (by omega)
  have hmi := nr_mi w1
  rw [q7] at hmi
  have hw : kw D cls (tyl k) L s s.heap f4 [(ma, cM ra adr pr rw cl), (adr (2 * 7), cN (adr (2 * 7 + 1)) n1 g1), (adr (2 * 7 + 1), cE k d1)] H locs := ⟨f4, hg, hk1⟩
  -- METHOD M_settle | loc 0=m 1=j | ws m n7 nl | fld m.fields=fa m.rowCounts=rc m.columnCounts=cc m.loose=lo m.places=pl m.tops=to m.bottoms=bo m.residues=re m.top=tp m.bottom=bt m.small=sm m.place=pc m.one=n0 m.two=n1 m.three=n2 m.four=n3 m.five=n4 m.six=n5 m.seven=n6 m.eight=n7 m.above=n8 m.under=n9
  refine lv_aload_n hx hb d_M_settle_69 rfl (lv_at hl 0 rfl) ?_
  refine k_get hx hb hG lay_M hown hw 0 rfl rfl 7 (by decide) (hG _ fl_M_50) (fun _ h9 => h9) rfl d_M_settle_70 ?_
  refine k_get hx hb hG lay_N hown hw 1 rfl rfl 2 (by decide) (hG _ fl_M_13) (fun _ h9 => h9) rfl d_M_settle_73 ?_
  refine lv_if_eq (tgt := 93) hx hb d_M_settle_76 (by decide) (fun hc => ?_) (fun hc => ?_)
  · have hm : g1 = false := bI_0.mp hc
    have hn : ¬ (V (154 + j)).tdiv g < 0 := fun q => by have := hmi.mpr q; rw [hm] at this; cases this
    obtain ⟨a1, a2⟩ := s2 hn
    exact fin f4 V4 H locs ls h4 ho4' qo (by rw [q6, q7]; exact a1) (by rw [q6, q7]; exact a2) hl hg
  have hm : g1 = true := by
    cases g1 with
    | true => rfl
    | false => exact absurd rfl hc
  have hn : (V (154 + j)).tdiv g < 0 := hmi.mp hm
  obtain ⟨a1, a2⟩ := s1 hn
  have hw : kw D cls (tyl k) L s s.heap f4 ((mc k ra adr ma pr rw cl F R C Lo Pl To Bo Re Sm Pc)) H locs := ⟨f4, hg, h4.kn⟩
  refine lv_aload_n hx hb d_M_settle_79 rfl (lv_at hl 0 rfl) ?_
  refine k_get hx hb hG lay_M hown hw 0 rfl rfl 7 (by decide) (hG _ fl_M_50) (fun _ h9 => h9) rfl d_M_settle_80 ?_
  have hw := hg
  refine g_ov (c_V (np := 0) S (nn_turn l D h4.1.2.2.2.2 h4.2.2 (i := 7) (by omega)) hw ((h4.2.2 (7) (by omega)).1) ((h4.2.2 (7) (by omega)).2.2.choose_spec.choose_spec.choose_spec.1) rfl ml_M_139 im_N_turn se_N_N_turn in_N co_N_turn (by decide +kernel) rfl ⟨rfl, rfl, by decide, by decide⟩ hl.1 rfl (by simp [Value.category]) d_M_settle_83 ⟨Nat.zero_le _, Nat.zero_le _⟩) hw (fun f5 H locs hp hg => ?_)
  obtain ⟨h5, ho5⟩ := h4.num hp
  have hw : kw D cls (tyl k) L s s.heap f5 ((mc k ra adr ma pr rw cl F R C Lo Pl To Bo Re Sm Pc)) H locs := ⟨f5, hg, h5.kn⟩
  refine lv_aload_n hx hb d_M_settle_86 rfl (lv_at hl 0 rfl) ?_
  refine k_get hx hb hG lay_M hown hw 0 rfl rfl 6 (by decide) (hG _ fl_M_47) (fun _ h9 => h9) rfl d_M_settle_87 ?_
  have hw := hg
  refine g_ov (c_V (np := 0) S (nn_turn l D h5.1.2.2.2.2 h5.2.2 (i := 6) (by omega)) hw ((h5.2.2 (6) (by omega)).1) ((h5.2.2 (6) (by omega)).2.2.choose_spec.choose_spec.choose_spec.1) rfl ml_M_139 im_N_turn se_N_N_turn in_N co_N_turn (by decide +kernel) rfl ⟨rfl, rfl, by decide, by decide⟩ hl.1 rfl (by simp [Value.category]) d_M_settle_90 ⟨Nat.zero_le _, Nat.zero_le _⟩) hw (fun f6 H locs hp hg => ?_)
  obtain ⟨h6, ho6⟩ := h5.num hp
  refine fin f6 _ H locs ls h6 (ho4'.trans (ho5.trans ho6)) (fun i hi => ?_) ?_ ?_ hl hg
  · rw [va_up_ne _ _ (by omega), va_up_ne _ _ (by omega)]; exact qo i hi
  · rw [va_up_self, va_up_ne _ _ (show (7 : Nat) ≠ 6 by omega), va_up_self, va_up_ne _ _ (show (6 : Nat) ≠ 7 by omega), q6, q7]; exact a1
  · rw [va_up_self, va_up_ne _ _ (show (7 : Nat) ≠ 6 by omega), va_up_self, va_up_ne _ _ (show (6 : Nat) ≠ 7 by omega), q6, q7]; exact a2
end MST


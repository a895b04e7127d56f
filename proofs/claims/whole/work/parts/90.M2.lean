-- ===== the reference: isField inverse divisor settle =====
theorem fld_iff {q : Nat} (h2 : 2 ≤ q) (hq : q ≤ 251) : fldOK (q : Int) ↔ prm q := by
  constructor
  · rintro ⟨q', h5, h6, h7⟩
    have e3 : q' = q := by omega
    rw [e3] at h6
    exact h6.resolve_left (by omega)
  · intro h
    exact ⟨q, rfl, Or.inr h, hq⟩
section MFLD
variable {p : Program} {l : Launch} {e : Env} {s : State} {m : MethodId} {args : Array Value} {below : List Frame} {meth : Method} {c : Code} {Q : State → Prop} {D : va_G} {k : Nat → ClassId} {L : List Nat} {H0 : Heap}
set_option maxRecDepth 100000 in
set_option maxHeartbeats 4000000 in
theorem w_mfld (S : CallFix p m c c_M_isField 3 s args G R_M) (hr : meth.sig.returnType = some .boolean) (hlocks : meth.locks = false) {q : Nat} (h2 : 2 ≤ q) (hq : q ≤ 251) {f : Nat → va_E} :
    ∀ (i d : Nat) (H : Heap) (locs : List Loc) (ls : Array Slot), d + i = 17 → 2 ≤ d → (∀ e, 2 ≤ e → e < d → ¬ e ∣ q) → lv_has ls 3 [(0, .int (nI q)), (1, .int 1), (2, .int (nI d))] → gw D cls (tyl k) L s s.heap f H locs →
    W p l e (rmN 0) s m args below meth c H locs 0 0 (MQ below (va_Qi (fun r f' => f' = f ∧ ((r = 1 ∧ fldOK (q : Int)) ∨ (r = 0 ∧ ¬ fldOK (q : Int)))) (mst D cls (tyl k) L) (fun q => q ∈ L)) args s 0 0 (fun q => q ∈ L)) (F0 m 24 ls []) := by
  have hx := S.1
  have hb := S.2.1
  have hown : s.vm.findClass R_M = some m.cls := S.2.2.2.1
  have hG := S.2.2.2.2
  intro i
  induction i with
  | zero =>
    intro d H locs ls hd hd2 hn hl hg
    have hd : d = 17 := by omega
    subst hd
    -- METHOD M_isField | loc 0=q 1=is 2=d | ws
    refine lv_iload_n hx hb d_M_isField_24 rfl (lv_at hl 2 rfl) ?_
    refine lv_iload_n hx hb d_M_isField_25 rfl (lv_at hl 2 rfl) ?_
    refine lv_imul hx hb d_M_isField_26 ?_
    refine l_top (pk_mul 17 17) ?_
    refine lv_iload_n hx hb d_M_isField_27 rfl (lv_at hl 0 rfl) ?_
    refine lv_icmp_gt (tgt := 53) hx hb d_M_isField_28 (by decide) (fun hc => ?_) (fun hc => ?_)
    · -- LOC 0=q 1=is 2=d
      refine lv_iload_n hx hb d_M_isField_53 rfl (lv_at hl 1 rfl) ?_
      exact g_retz hx hb hr hlocks hg rfl ⟨rfl, Or.inl ⟨rfl, (fld_iff h2 hq).mpr (prm_of h2 (fun e h3 h4 => hn e h3 (Classical.byContradiction fun h5 => by have := Nat.mul_le_mul (show 17 ≤ e by omega) (show 17 ≤ e by omega); omega)))⟩⟩ d_M_isField_54
    · refine absurd ?_ hc
      show nI q < nI (17 * 17)
      rw [← zI_n, ← zI_n, zI_lt (rI_n (by omega)) (rI_n (by omega))]; omega
  | succ i ih =>
    intro d H locs ls hd hd2 hn hl hg
    have hdd : d * d ≤ 17 * 17 := Nat.mul_le_mul (by omega) (by omega)
    -- METHOD M_isField | loc 0=q 1=is 2=d | ws
    refine lv_iload_n hx hb d_M_isField_24 rfl (lv_at hl 2 rfl) ?_
    refine lv_iload_n hx hb d_M_isField_25 rfl (lv_at hl 2 rfl) ?_
    refine lv_imul hx hb d_M_isField_26 ?_
    refine l_top (pk_mul d d) ?_
    have hcmp : nI q < nI (d * d) ↔ q < d * d := by
      rw [← zI_n, ← zI_n, zI_lt (rI_n (by omega)) (rI_n (by omega))]; omega
    refine lv_iload_n hx hb d_M_isField_27 rfl (lv_at hl 0 rfl) ?_
    refine lv_icmp_gt (tgt := 53) hx hb d_M_isField_28 (by decide) (fun hc => ?_) (fun hc => ?_)
    · have hgt := hcmp.mp hc
      refine lv_iload_n hx hb d_M_isField_53 rfl (lv_at hl 1 rfl) ?_
      refine g_retz hx hb hr hlocks hg rfl ⟨rfl, Or.inl ⟨rfl, (fld_iff h2 hq).mpr (prm_of h2 (fun e h3 h4 => hn e h3 (Classical.byContradiction fun h5 => ?_)))⟩⟩ d_M_isField_54
      have := Nat.mul_le_mul (show d ≤ e by omega) (show d ≤ e by omega)
      omega
    · have hle : ¬ q < d * d := fun z => hc (hcmp.mpr z)
      refine lv_iload_n hx hb d_M_isField_31 rfl (lv_at hl 1 rfl) ?_
      refine lv_if_eq (tgt := 53) hx hb d_M_isField_32 (by decide) (fun hc => ?_) (fun hc => ?_)
      · exact absurd hc (by decide)
      refine lv_iload_n hx hb d_M_isField_35 rfl (lv_at hl 0 rfl) ?_
      refine lv_iload_n hx hb d_M_isField_36 rfl (lv_at hl 2 rfl) ?_
      refine lv_irem hx hb d_M_isField_37 (nI_ne0 (by omega) (by omega)) ?_
      refine l_top (pk_rem (by omega) (by omega) (by omega)) ?_
      have hz : nI (q % d) = 0 ↔ q % d = 0 := by
        rw [← zI_n]
        exact (zI_eq (b := 0) (rI_n (by have := Nat.mod_lt q (show 0 < d by omega); omega)) ⟨by decide, by decide⟩).trans (by omega)
      refine lv_if_eq (tgt := 45) hx hb d_M_isField_38 (by decide) (fun hc => ?_) (fun hc => ?_)
      · have h0 : q % d = 0 := hz.mp hc
        refine lv_iconst (v := 0) hx hb d_M_isField_45 (by decide) ?_
        refine lv_istore_n hx hb d_M_isField_46 rfl hl (by decide) rfl (fun ls hl => ?_)
        refine lv_iinc (k := 2) hx hb d_M_isField_47 hl rfl (ii1 d) (by decide) rfl (fun ls hl => ?_)
        refine lv_goto (tgt := 24) hx hb d_M_isField_50 (by decide) ?_
        -- the loop is at its end
        have hnp : ¬ fldOK (q : Int) := fun hp0 => by
          have hp := (fld_iff h2 hq).mp hp0
          rcases hp.2 d (Nat.dvd_of_mod_eq_zero h0) with z | z
          · omega
          · subst z
            have : d * 2 ≤ d * d := Nat.mul_le_mul_left _ hd2
            omega
        refine lv_iload_n hx hb d_M_isField_24 rfl (lv_at hl 0 rfl) ?_
        refine lv_iload_n hx hb d_M_isField_25 rfl (lv_at hl 0 rfl) ?_
        refine lv_imul hx hb d_M_isField_26 ?_
        refine l_top (pk_mul (d + 1) (d + 1)) ?_
        refine lv_iload_n hx hb d_M_isField_27 rfl (lv_at hl 2 rfl) ?_
        refine lv_icmp_gt (tgt := 53) hx hb d_M_isField_28 (by decide) (fun hc => ?_) (fun hc => ?_)
        · refine lv_iload_n hx hb d_M_isField_53 rfl (lv_at hl 1 rfl) ?_
          exact g_retz hx hb hr hlocks hg rfl ⟨rfl, Or.inr ⟨rfl, hnp⟩⟩ d_M_isField_54
        · -- STK
          refine lv_iload_n hx hb d_M_isField_31 rfl (lv_at hl 1 rfl) ?_
          refine lv_if_eq (tgt := 53) hx hb d_M_isField_32 (by decide) (fun hc => ?_) (fun hc => ?_)
          · refine lv_iload_n hx hb d_M_isField_53 rfl (lv_at hl 1 rfl) ?_
            exact g_retz hx hb hr hlocks hg rfl ⟨rfl, Or.inr ⟨rfl, hnp⟩⟩ d_M_isField_54
          · exact absurd rfl hc
      · have h0 : q % d ≠ 0 := fun z => hc (hz.mpr z)
        refine lv_iconst (v := 1) hx hb d_M_isField_41 (by decide) ?_
        refine lv_goto (tgt := 46) hx hb d_M_isField_42 (by decide) ?_
        refine lv_istore_n hx hb d_M_isField_46 rfl hl (by decide) rfl (fun ls hl => ?_)
        refine lv_iinc (k := 2) hx hb d_M_isField_47 hl rfl (ii1 d) (by decide) rfl (fun ls hl => ?_)
        refine lv_goto (tgt := 24) hx hb d_M_isField_50 (by decide) ?_
        have hl := lv_sub hl [2, 1, 0] rfl
        refine ih (d + 1) H locs ls (by omega) (by omega) (fun e h3 h4 => ?_) hl hg
        by_cases e5 : e = d
        · rw [e5]; exact fun z => h0 (Nat.mod_eq_zero_of_dvd z)
        · exact hn e h3 (by omega)
end MFLD
section MINV
variable {p : Program} {l : Launch} {e : Env} {s : State} {m : MethodId} {args : Array Value} {below : List Frame} {meth : Method} {c : Code} {Q : State → Prop} {D : va_G} {k : Nat → ClassId} {L : List Nat} {H0 : Heap}
variable {own : Nat → Nat} {ma : Nat} {ra adr : Nat → Nat} {pr rw cl : Int32} {F R C Lo Pl To Bo Re Sm Pc : Nat → Int32} {V : Nat → Int}
set_option maxRecDepth 100000 in
set_option maxHeartbeats 4000000 in
theorem w_minv (S : CallFix p m c c_M_inverse 3 s args G R_M) (hr : meth.sig.returnType = some .int) (hlocks : meth.locks = false) {v q c0 : Nat} {f : Nat → va_E} (h : MW L own k f ma ra adr (nI q) rw cl F R C Lo Pl To Bo Re Sm Pc V) (hv : v < q) (hq : q ≤ 251) (hc0 : c0 < q) (hc1 : c0 * v % q = 1) :
    ∀ (i x : Nat) (H : Heap) (locs : List Loc) (ls : Array Slot), x + i = c0 → 1 ≤ x → lv_has ls 3 [(0, .ref ma), (1, .int (nI v)), (2, .int (nI x))] → gw D cls (tyl k) L s s.heap f H locs →
    W p l e (rmN 0) s m args below meth c H locs 0 0 (MQ below (va_Qi (fun r f' => f' = f ∧ ∃ x : Nat, r = nI x ∧ 1 ≤ x ∧ x < q ∧ x * v % q = 1) (mst D cls (tyl k) L) (fun q => q ∈ L)) args s 0 0 (fun q => q ∈ L)) (F0 m 2 ls []) := by
  have hx := S.1
  have hb := S.2.1
  have hown : s.vm.findClass R_M = some m.cls := S.2.2.2.1
  have hG := S.2.2.2.2
  intro i
  induction i with
  | zero =>
    intro x H locs ls hxi h1 hl hg
    have hxc : x = c0 := by omega
    subst hxc
    have hw : kw D cls (tyl k) L s s.heap f ((mc k ra adr ma (nI q) rw cl F R C Lo Pl To Bo Re Sm Pc)) H locs := ⟨f, hg, h.kn⟩
    have hmul : x * v ≤ 251 * 251 := Nat.mul_le_mul (by omega) (by omega)
    -- METHOD M_inverse | loc 0=m 1=v 2=x | ws m fa rc cc lo pl to bo re tp bt sm pc | fld m.fields=fa m.rowCounts=rc m.columnCounts=cc m.loose=lo m.places=pl m.tops=to m.bottoms=bo m.residues=re m.top=tp m.bottom=bt m.small=sm m.place=pc m.one=n0 m.two=n1 m.three=n2 m.four=n3 m.five=n4 m.six=n5 m.seven=n6 m.eight=n7 m.above=n8 m.under=n9
    refine lv_iload_n hx hb d_M_inverse_2 rfl (lv_at hl 2 rfl) ?_
    refine lv_iload_n hx hb d_M_inverse_3 rfl (lv_at hl 1 rfl) ?_
    refine lv_imul hx hb d_M_inverse_4 ?_
    refine l_top (pk_mul x v) ?_
    refine lv_aload_n hx hb d_M_inverse_5 rfl (lv_at hl 0 rfl) ?_
    refine k_get hx hb hG lay_M hown hw 0 rfl rfl 20 (by decide) (hG _ fl_M_105) (fun _ h9 => h9) rfl d_M_inverse_6 ?_
    refine lv_irem hx hb d_M_inverse_9 (nI_ne0 (by omega) (by omega)) ?_
    refine l_top (pk_rem (by omega) (by omega) (by omega)) ?_
    refine lv_iconst (v := 1) hx hb d_M_inverse_10 (by decide) ?_
    refine lv_icmp_eq (tgt := 20) hx hb d_M_inverse_11 (by decide) (fun hc => ?_) (fun hc => ?_)
    · -- STK
      refine lv_iload_n hx hb d_M_inverse_20 rfl (lv_at hl 2 rfl) ?_
      exact g_reti hx hb hr hlocks hg ⟨rfl, x, rfl, h1, hc0, hc1⟩ d_M_inverse_21
    · exact absurd (by show nI (x * v % q) = 1; rw [hc1]; rfl) hc
  | succ i ih =>
    intro x H locs ls hxi h1 hl hg
    have hw : kw D cls (tyl k) L s s.heap f ((mc k ra adr ma (nI q) rw cl F R C Lo Pl To Bo Re Sm Pc)) H locs := ⟨f, hg, h.kn⟩
    have hmul : x * v ≤ 251 * 251 := Nat.mul_le_mul (by omega) (by omega)
    have hml : x * v % q < q := Nat.mod_lt _ (by omega)
    -- METHOD M_inverse | loc 0=m 1=v 2=x | ws m fa rc cc lo pl to bo re tp bt sm pc | fld m.fields=fa m.rowCounts=rc m.columnCounts=cc m.loose=lo m.places=pl m.tops=to m.bottoms=bo m.residues=re m.top=tp m.bottom=bt m.small=sm m.place=pc m.one=n0 m.two=n1 m.three=n2 m.four=n3 m.five=n4 m.six=n5 m.seven=n6 m.eight=n7 m.above=n8 m.under=n9
    refine lv_iload_n hx hb d_M_inverse_2 rfl (lv_at hl 2 rfl) ?_
    refine lv_iload_n hx hb d_M_inverse_3 rfl (lv_at hl 1 rfl) ?_
    refine lv_imul hx hb d_M_inverse_4 ?_
    refine l_top (pk_mul x v) ?_
    refine lv_aload_n hx hb d_M_inverse_5 rfl (lv_at hl 0 rfl) ?_
    refine k_get hx hb hG lay_M hown hw 0 rfl rfl 20 (by decide) (hG _ fl_M_105) (fun _ h9 => h9) rfl d_M_inverse_6 ?_
    refine lv_irem hx hb d_M_inverse_9 (nI_ne0 (by omega) (by omega)) ?_
    refine l_top (pk_rem (by omega) (by omega) (by omega)) ?_
    refine lv_iconst (v := 1) hx hb d_M_inverse_10 (by decide) ?_
    refine lv_icmp_eq (tgt := 20) hx hb d_M_inverse_11 (by decide) (fun hc => ?_) (fun hc => ?_)
    · have hc2 : x * v % q = 1 := nIj (b := 1) (by omega) (by omega) hc
      refine lv_iload_n hx hb d_M_inverse_20 rfl (lv_at hl 2 rfl) ?_
      exact g_reti hx hb hr hlocks hg ⟨rfl, x, rfl, h1, by omega, hc2⟩ d_M_inverse_21
    · -- LOC 0=m 1=v 2=x
      refine lv_iinc (k := 2) hx hb d_M_inverse_14 hl rfl (ii1 x) (by decide) rfl (fun ls hl => ?_)
      refine lv_goto (tgt := 2) hx hb d_M_inverse_17 (by decide) ?_
      have hl := lv_sub hl [1, 2, 0] rfl
      exact ih (x + 1) H locs ls (by omega) (by omega) hl hg
end MINV
section MDIV
variable (l : Launch) (D : va_G)
set_option maxRecDepth 100000 in
set_option maxHeartbeats 4000000 in
theorem m_M_isField (k : Nat → ClassId) (L : List Nat) (f : Nat → va_E) {a : Int} (ha : rI a) : Mi l y_M_isField (Cond.code y_M_isField c_M_isField 3 (some .boolean) :: G) (rmN 0) D cls (tyl k) L f [.int (zI a)] (fun r f' => f' = f ∧ ((r = 1 ∧ fldOK a) ∨ (r = 0 ∧ ¬ fldOK a))) := by
  have z0 : rI 0 := ⟨by decide, by decide⟩
  have z2 : rI 2 := ⟨by decide, by decide⟩
  have z251 : rI 251 := ⟨by decide, by decide⟩
  -- METHOD M_isField | loc 0=a | ws
  refine mk_met (by decide) (Nat.le_of_ble_eq_true rfl) (fun p e s m below meth c ls S hr hlocks hw hl => ?_)
  have hx := S.1
  have hb := S.2.1
  have hown : s.vm.findClass R_M = some m.cls := S.2.2.2.1
  have hG := S.2.2.2.2
  have hl : lv_has ls 3 [(0, .int (zI a))] := hl
  have hg := hw
  have bad : ∀ (ls : Array Slot), ¬ fldOK a → lv_has ls 3 [(0, .int (zI a))] → W p l e (rmN 0) s m ([.int (zI a)] : List Value).toArray below meth c s.heap [] 0 0 (MQ below (va_Qi (fun r f' => f' = f ∧ ((r = 1 ∧ fldOK a) ∨ (r = 0 ∧ ¬ fldOK a))) (mst D cls (tyl k) L) (fun q => q ∈ L)) ([.int (zI a)] : List Value).toArray s 0 0 (fun q => q ∈ L)) (F0 m 20 ls []) := by
    intro ls hno hl
    -- METHOD M_isField | loc 0=a | ws
    refine lv_iconst (v := 0) hx hb d_M_isField_20 (by decide) ?_
    refine lv_istore_n hx hb d_M_isField_21 rfl hl (by decide) rfl (fun ls hl => ?_)
    refine lv_iconst (v := 2) hx hb d_M_isField_22 (by decide) ?_
    refine lv_istore_n hx hb d_M_isField_23 rfl hl (by decide) rfl (fun ls hl => ?_)
    refine lv_iload_n hx hb d_M_isField_24 rfl (lv_at hl 0 rfl) ?_
    refine lv_iload_n hx hb d_M_isField_25 rfl (lv_at hl 0 rfl) ?_
    refine lv_imul hx hb d_M_isField_26 ?_
    refine lv_iload_n hx hb d_M_isField_27 rfl (lv_at hl 2 rfl) ?_
    refine lv_icmp_gt (tgt := 53) hx hb d_M_isField_28 (by decide) (fun hc => ?_) (fun hc => ?_)
    · -- STK
      refine lv_iload_n hx hb d_M_isField_53 rfl (lv_at hl 1 rfl) ?_
      exact g_retz hx hb hr hlocks hg rfl ⟨rfl, Or.inr ⟨rfl, hno⟩⟩ d_M_isField_54
    · -- STK
      refine lv_iload_n hx hb d_M_isField_31 rfl (lv_at hl 1 rfl) ?_
      refine lv_if_eq (tgt := 53) hx hb d_M_isField_32 (by decide) (fun hc => ?_) (fun hc => ?_)
      · -- STK
        refine lv_iload_n hx hb d_M_isField_53 rfl (lv_at hl 1 rfl) ?_
        exact g_retz hx hb hr hlocks hg rfl ⟨rfl, Or.inr ⟨rfl, hno⟩⟩ d_M_isField_54
      · exact absurd rfl hc
  refine lv_iload_n hx hb d_M_isField_0 rfl (lv_at hl 0 rfl) ?_
  refine lv_if_eq (tgt := 16) hx hb d_M_isField_1 (by decide) (fun hc => ?_) (fun hc => ?_)
  · have h0 : a = 0 := (zI_eq ha z0).mp hc
    subst h0
    refine lv_iconst (v := 1) hx hb d_M_isField_16 (by decide) ?_
    refine lv_goto (tgt := 21) hx hb d_M_isField_17 (by decide) ?_
    refine lv_istore_n hx hb d_M_isField_21 rfl hl (by decide) rfl (fun ls hl => ?_)
    refine lv_iconst (v := 2) hx hb d_M_isField_22 (by decide) ?_
    refine lv_istore_n hx hb d_M_isField_23 rfl hl (by decide) rfl (fun ls hl => ?_)
    refine lv_iload_n hx hb d_M_isField_24 rfl (lv_at hl 0 rfl) ?_
    refine lv_iload_n hx hb d_M_isField_25 rfl (lv_at hl 0 rfl) ?_
    refine lv_imul hx hb d_M_isField_26 ?_
    refine lv_iload_n hx hb d_M_isField_27 rfl (lv_at hl 2 rfl) ?_
    refine lv_icmp_gt (tgt := 53) hx hb d_M_isField_28 (by decide) (fun hc => ?_) (fun hc => ?_)
    · -- STK
      refine lv_iload_n hx hb d_M_isField_53 rfl (lv_at hl 1 rfl) ?_
      exact g_retz hx hb hr hlocks hg rfl ⟨rfl, Or.inl ⟨rfl, 0, rfl, Or.inl rfl, by omega⟩⟩ d_M_isField_54
    · exact absurd (by decide) hc
  have h0 : a ≠ 0 := fun q => hc (by rw [q]; rfl)
  refine lv_iload_n hx hb d_M_isField_4 rfl (lv_at hl 0 rfl) ?_
  refine lv_iconst (v := 2) hx hb d_M_isField_5 (by decide) ?_
  refine lv_icmp_lt (tgt := 20) hx hb d_M_isField_6 (by decide) (fun hc => ?_) (fun hc => ?_)
  · have h2 : a < 2 := (zI_lt ha z2).mp hc
    refine bad ls (fun ⟨q, h1, h3, h4⟩ => ?_) hl
    rcases h3 with z | z
    · omega
    · have := z.1; omega
  have h2 : ¬ a < 2 := fun q => hc ((zI_lt ha z2).mpr q)
  refine lv_iload_n hx hb d_M_isField_9 rfl (lv_at hl 0 rfl) ?_
  refine lv_sipush (v := 251) hx hb d_M_isField_10 (by decide) ?_
  refine lv_icmp_gt (tgt := 20) hx hb d_M_isField_13 (by decide) (fun hc => ?_) (fun hc => ?_)
  · have h3 : 251 < a := (zI_lt z251 ha).mp hc
    exact bad ls (fun ⟨q, h1, _, h4⟩ => by omega) hl
  have h3 : ¬ 251 < a := fun q => hc ((zI_lt z251 ha).mpr q)
  obtain ⟨q, rfl⟩ : ∃ q : Nat, a = q := ⟨a.toNat, by omega⟩
  refine lv_iconst (v := 1) hx hb d_M_isField_16 (by decide) ?_
  refine lv_goto (tgt := 21) hx hb d_M_isField_17 (by decide) ?_
  refine lv_istore_n hx hb d_M_isField_21 rfl hl (by decide) rfl (fun ls hl => ?_)
  refine lv_iconst (v := 2) hx hb d_M_isField_22 (by decide) ?_
  refine lv_istore_n hx hb d_M_isField_23 rfl hl (by decide) rfl (fun ls hl => ?_)
  have hl := lv_sub hl [2, 1, 0] rfl
  exact w_mfld S hr hlocks (q := q) (by omega) (by omega) 15 2 s.heap [] ls (by omega) (by omega) (fun e h5 h6 => by omega) hl hg
variable {L : List Nat} {k : Nat → ClassId} {f : Nat → va_E} {own : Nat → Nat} {ma : Nat} {ra adr : Nat → Nat} {pr rw cl : Int32} {F R C Lo Pl To Bo Re Sm Pc : Nat → Int32} {V : Nat → Int}
set_option maxRecDepth 100000 in
set_option maxHeartbeats 4000000 in
theorem m_M_inverse {v q c0 : Nat} (h : MW L own k f ma ra adr (nI q) rw cl F R C Lo Pl To Bo Re Sm Pc V) (hv : v < q) (hq : q ≤ 251) (h1 : 1 ≤ c0) (hc0 : c0 < q) (hc1 : c0 * v % q = 1) : Mi l y_M_inverse (Cond.code y_M_inverse c_M_inverse 3 (some .int) :: G) (rmN 0) D cls (tyl k) L f [.ref ma, .int (nI v)] (fun r f' => f' = f ∧ ∃ x : Nat, r = nI x ∧ 1 ≤ x ∧ x < q ∧ x * v % q = 1) := by
  -- METHOD M_inverse | loc 0=m 1=v | ws m fa rc cc lo pl to bo re tp bt sm pc | fld m.fields=fa m.rowCounts=rc m.columnCounts=cc m.loose=lo m.places=pl m.tops=to m.bottoms=bo m.residues=re m.top=tp m.bottom=bt m.small=sm m.place=pc m.one=n0 m.two=n1 m.three=n2 m.four=n3 m.five=n4 m.six=n5 m.seven=n6 m.eight=n7 m.above=n8 m.under=n9
  refine mk_met (by decide) (Nat.le_of_ble_eq_true rfl) (fun p e s m below meth c ls S hr hlocks hw hl => ?_)
  have hx := S.1
  have hb := S.2.1
  have hown : s.vm.findClass R_M = some m.cls := S.2.2.2.1
  have hG := S.2.2.2.2
  have hl : lv_has ls 3 [(0, .ref ma), (1, .int (nI v))] := hl
  have hg := hw
  refine lv_iconst (v := 1) hx hb d_M_inverse_0 (by decide) ?_
  refine lv_istore_n hx hb d_M_inverse_1 rfl hl (by decide) rfl (fun ls hl => ?_)
  have hl := lv_sub hl [1, 2, 0] rfl
  exact w_minv S hr hlocks h hv hq hc0 hc1 (c0 - 1) 1 _ _ ls (by omega) (by omega) hl hg
end MDIV


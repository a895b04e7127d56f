-- ===== the reference: store fetch isTable isReduced isCell isField isZero =====
/-- a number kept in an array: how many digits, below 0 if the number is; then the digits -/
def sc (T : Nat → Int32) (at0 : Nat) (v : Int) : Prop := ∃ (n : Nat) (mi : Bool) (d : Nat → Nat), n ≤ 15 ∧ nr n mi d v ∧ T at0 = (if mi then -nI n else nI n) ∧ ∀ j, j < n → T (at0 + 1 + j) = nI (d j)
theorem sc_same {T T' : Nat → Int32} {at0 : Nat} {v : Int} (h : sc T at0 v) (e : ∀ t, at0 ≤ t → t < at0 + 16 → T' t = T t) : sc T' at0 v := by
  obtain ⟨n, mi, d, h1, h2, h3, h4⟩ := h
  exact ⟨n, mi, d, h1, h2, by rw [e _ (by omega) (by omega)]; exact h3, fun j hj => by rw [e _ (by omega) (by omega)]; exact h4 j hj⟩
section STO
variable {p : Program} {l : Launch} {e : Env} {R : Room} {s : State} {m : MethodId} {args : Array Value} {below : List Frame} {meth : Method} {c : Code} {cells slots : Nat} {Q : State → Prop} {D : va_G} {k : Nat → ClassId} {L : List Nat} {f0 : Nat → va_E} {H0 : Heap}
set_option maxRecDepth 100000 in
set_option maxHeartbeats 4000000 in
theorem w_store (S : CallFix p m c c_M_store 4 s args G R_M) {x xl ro n at0 : Nat} {mi : Bool} {d : Nat → Nat} {T0 : Nat → Int32} (hn : n ≤ 15) (hat : at0 + 16 ≤ 18432)
    (kx : ∀ (T : Nat → Int32) (H : Heap) (locs : List Loc) (ls : Array Slot), (∀ t, t ≤ at0 ∨ at0 + 1 + n ≤ t → T t = T0 t) → (∀ t, t < n → T (at0 + 1 + t) = nI (d t)) → kw D cls (tyl k) L s H0 f0 [(x, cN xl n mi), (xl, cE k d), (ro, cI k 18432 T)] H locs → W p l e R s m args below meth c H locs cells slots Q (F0 m 51 ls [])) :
    ∀ (i j : Nat) (T : Nat → Int32) (H : Heap) (locs : List Loc) (ls : Array Slot), j + i = n → (∀ t, t ≤ at0 ∨ at0 + 1 + j ≤ t → T t = T0 t) → (∀ t, t < j → T (at0 + 1 + t) = nI (d t)) → lv_has ls 4 [(0, .ref x), (1, .ref ro), (2, .int (nI at0)), (3, .int (nI j))] → kw D cls (tyl k) L s H0 f0 [(x, cN xl n mi), (xl, cE k d), (ro, cI k 18432 T)] H locs →
    W p l e R s m args below meth c H locs cells slots Q (F0 m 24 ls []) := by
  have hx := S.1
  have hb := S.2.1
  have hown : s.vm.findClass R_M = some m.cls := S.2.2.2.1
  have hG := S.2.2.2.2
  intro i
  induction i with
  | zero =>
    intro j T H locs ls hj h1 h2 hl hw
    have hj : j = n := by omega
    subst hj
    -- METHOD M_store | loc 0=x 1=ro 2=at 3=j | ws x xl ro | fld x.d=xl
    refine lv_iload_n hx hb d_M_store_24 rfl (lv_at hl 3 rfl) ?_
    refine lv_aload_n hx hb d_M_store_25 rfl (lv_at hl 0 rfl) ?_
    refine k_get hx hb hG lay_N hown hw 0 rfl rfl 1 (by decide) (hG _ fl_M_20) (fun _ h9 => h9) rfl d_M_store_26 ?_
    refine lv_icmp_ge (tgt := 51) hx hb d_M_store_29 (by decide) (fun hc => ?_) (fun hc => ?_)
    · exact kx T H locs ls h1 h2 hw
    · exact absurd (nI_le (by omega) (by omega)) hc
  | succ i ih =>
    intro j T H locs ls hj h1 h2 hl hw
    -- METHOD M_store | loc 0=x 1=ro 2=at 3=j | ws x xl ro | fld x.d=xl
    refine lv_iload_n hx hb d_M_store_24 rfl (lv_at hl 3 rfl) ?_
    refine lv_aload_n hx hb d_M_store_25 rfl (lv_at hl 0 rfl) ?_
    refine k_get hx hb hG lay_N hown hw 0 rfl rfl 1 (by decide) (hG _ fl_M_20) (fun _ h9 => h9) rfl d_M_store_26 ?_
    refine lv_icmp_ge (tgt := 51) hx hb d_M_store_29 (by decide) (fun hc => ?_) (fun hc => ?_)
    · exact absurd hc (nI_ge (by omega) (by omega))
    refine lv_aload_n hx hb d_M_store_32 rfl (lv_at hl 1 rfl) ?_
    refine lv_iload_n hx hb d_M_store_33 rfl (lv_at hl 2 rfl) ?_
    refine lv_iconst (v := 1) hx hb d_M_store_34 (by decide) ?_
    refine lv_iadd hx hb d_M_store_35 ?_
    refine l_top (show nI at0 + 1 = nI (at0 + 1) from nI_add at0 1) ?_
    refine lv_iload_n hx hb d_M_store_36 rfl (lv_at hl 3 rfl) ?_
    refine lv_iadd hx hb d_M_store_37 ?_
    refine l_top (nI_add (at0 + 1) j) ?_
    refine lv_aload_n hx hb d_M_store_38 rfl (lv_at hl 0 rfl) ?_
    refine k_get hx hb hG lay_N hown hw 0 rfl rfl 0 (by decide) (hG _ fl_M_98) (fun _ h9 => h9) rfl d_M_store_39 ?_
    refine lv_iload_n hx hb d_M_store_42 rfl (lv_at hl 3 rfl) ?_
    refine k_iald hx hb hw 1 0 rfl rfl (j) (rfl) (by omega) (by first | decide | omega) d_M_store_43 ?_
    refine k_iast hx hb hw 2 0 rfl rfl ((at0 + 1 + j)) (rfl) (by omega) (by first | decide | omega) d_M_store_44 (fun H locs hw => ?_)
    refine lv_iinc (k := 3) hx hb d_M_store_45 hl rfl (ii1 j) (by decide) rfl (fun ls hl => ?_)
    refine lv_goto (tgt := 24) hx hb d_M_store_48 (by decide) ?_
    have hl := lv_sub hl [1, 2, 3, 0] rfl
    refine ih (j + 1) _ H locs ls (by omega) (fun t ht => ?_) (fun t ht => ?_) hl hw
    · rw [pk_un (by omega)]; exact h1 t (by omega)
    · by_cases e : t = j
      · rw [e, pk_us]; rfl
      · rw [pk_un (by omega)]; exact h2 t (by omega)
end STO
set_option maxRecDepth 100000 in
set_option maxHeartbeats 4000000 in
theorem m_M_store (l : Launch) (D : va_G) (k : Nat → ClassId) (L : List Nat) (f : Nat → va_E) (x xl ro n at0 : Nat) (mi : Bool) (d : Nat → Nat) (T : Nat → Int32) (v : Int) (hv : nr n mi d v) (hn : n ≤ 15) (hat : at0 + 16 ≤ 18432) (hk : kn L f f [(x, cN xl n mi), (xl, cE k d), (ro, cI k 18432 T)]) : Mv l y_M_store (Cond.code y_M_store c_M_store 4 none :: G) (rmN 0) D cls (tyl k) L f [.ref x, .ref ro, .int (nI at0)] (fun f' => ∃ T', sc T' at0 v ∧ (∀ t, t < at0 ∨ at0 + 16 ≤ t → T' t = T t) ∧ kn L f f' [(x, cN xl n mi), (xl, cE k d), (ro, cI k 18432 T')]) := by
  -- METHOD M_store | loc 0=x 1=ro 2=at | ws x xl ro | fld x.d=xl
  refine mk_met (by decide) (Nat.le_of_ble_eq_true rfl) (fun p e s m below meth c ls S hr hlocks hw hl => ?_)
  have hx := S.1
  have hb := S.2.1
  have hown : s.vm.findClass R_M = some m.cls := S.2.2.2.1
  have hG := S.2.2.2.2
  have hl : lv_has ls 4 [(0, .ref x), (1, .ref ro), (2, .int (nI at0))] := hl
  have hg := hw
  have hw : kw D cls (tyl k) L s s.heap f [(x, cN xl n mi), (xl, cE k d), (ro, cI k 18432 T)] s.heap [] := ⟨f, hw, hk⟩
  have fin : ∀ (H : Heap) (locs : List Loc) (ls : Array Slot), lv_has ls 4 [(0, .ref x), (1, .ref ro), (2, .int (nI at0))] → kw D cls (tyl k) L s s.heap f [(x, cN xl n mi), (xl, cE k d), (ro, cI k 18432 T)] H locs → W p l e (rmN 0) s m ([.ref x, .ref ro, .int (nI at0)] : List Value).toArray below meth c H locs 0 0 (MQ below (va_Qv (fun f' => ∃ T', sc T' at0 v ∧ (∀ t, t < at0 ∨ at0 + 16 ≤ t → T' t = T t) ∧ kn L f f' [(x, cN xl n mi), (xl, cE k d), (ro, cI k 18432 T')]) (mst D cls (tyl k) L) (fun q => q ∈ L)) ([.ref x, .ref ro, .int (nI at0)] : List Value).toArray s 0 0 (fun q => q ∈ L)) (F0 m 21 ls [.int (if mi then -nI n else nI n), .int (nI at0), .ref ro]) := by
    intro H locs ls hl hw
    -- METHOD M_store | loc 0=x 1=ro 2=at | ws x xl ro | fld x.d=xl
    refine k_iast hx hb hw 2 0 rfl rfl (at0) (rfl) (by omega) (by first | decide | omega) d_M_store_21 (fun H locs hw => ?_)
    refine lv_iconst (v := 0) hx hb d_M_store_22 (by decide) ?_
    refine lv_istore_n hx hb d_M_store_23 rfl hl (by decide) rfl (fun ls hl => ?_)
    have hl := lv_sub hl [1, 2, 3, 0] rfl
    refine w_store S hn hat (T0 := upd T at0 (if mi then -nI n else nI n)) (fun T' H locs ls h1 h2 hw => ?_) n 0 _ H locs ls (by omega) (fun _ _ => rfl) (fun t ht => by omega) hl hw
    obtain ⟨f', hg, hk'⟩ := hw
    refine g_retv hx hb hr hlocks hg ⟨T', ⟨n, mi, d, hn, hv, ?_, h2⟩, fun t ht => ?_, hk'⟩ d_M_store_51
    · rw [h1 at0 (by omega), pk_us]
    · rw [h1 t (by omega), pk_un (by omega)]
  refine lv_aload_n hx hb d_M_store_0 rfl (lv_at hl 1 rfl) ?_
  refine lv_iload_n hx hb d_M_store_1 rfl (lv_at hl 2 rfl) ?_
  refine lv_aload_n hx hb d_M_store_2 rfl (lv_at hl 0 rfl) ?_
  refine k_get hx hb hG lay_N hown hw 0 rfl rfl 2 (by decide) (hG _ fl_M_13) (fun _ h9 => h9) rfl d_M_store_3 ?_
  refine lv_if_eq (tgt := 17) hx hb d_M_store_6 (by decide) (fun hc => ?_) (fun hc => ?_)
  · have hm : mi = false := bI_0.mp hc
    refine lv_aload_n hx hb d_M_store_17 rfl (lv_at hl 0 rfl) ?_
    refine k_get hx hb hG lay_N hown hw 0 rfl rfl 1 (by decide) (hG _ fl_M_20) (fun _ h9 => h9) rfl d_M_store_18 ?_
    refine l_top (show nI n = (if mi then -nI n else nI n) by rw [hm]; rfl) (fin _ _ ls hl hw)
  · have hm : mi = true := by
      cases mi with
      | true => rfl
      | false => exact absurd rfl hc
    refine lv_aload_n hx hb d_M_store_9 rfl (lv_at hl 0 rfl) ?_
    refine k_get hx hb hG lay_N hown hw 0 rfl rfl 1 (by decide) (hG _ fl_M_20) (fun _ h9 => h9) rfl d_M_store_10 ?_
    refine lv_ineg hx hb d_M_store_13 ?_
    refine lv_goto (tgt := 21) hx hb d_M_store_14 (by decide) ?_
    refine l_top (show -nI n = (if mi then -nI n else nI n) by rw [hm]; rfl) (fin _ _ ls hl hw)
section FET
variable {p : Program} {l : Launch} {e : Env} {R : Room} {s : State} {m : MethodId} {args : Array Value} {below : List Frame} {meth : Method} {c : Code} {cells slots : Nat} {Q : State → Prop} {D : va_G} {k : Nat → ClassId} {L : List Nat} {f0 : Nat → va_E} {H0 : Heap}
set_option maxRecDepth 100000 in
set_option maxHeartbeats 4000000 in
theorem w_fetch (S : CallFix p m c c_M_fetch 4 s args G R_M) {x xl ro n at0 : Nat} {mi : Bool} {dv : Nat → Nat} {T : Nat → Int32} (hn : n ≤ 15) (hat : at0 + 16 ≤ 18432) (hT : ∀ j, j < n → T (at0 + 1 + j) = nI (dv j)) (hdv : ∀ j, j < n → dv j < D16)
    (kx : ∀ (d : Nat → Nat) (H : Heap) (locs : List Loc) (ls : Array Slot), (∀ t, t < 160 → d t < D16) → (∀ t, t < n → d t = dv t) → kw D cls (tyl k) L s H0 f0 [(x, cN xl n mi), (xl, cE k d), (ro, cI k 18432 T)] H locs → W p l e R s m args below meth c H locs cells slots Q (F0 m 65 ls [])) :
    ∀ (i j : Nat) (d : Nat → Nat) (H : Heap) (locs : List Loc) (ls : Array Slot), j + i = n → (∀ t, t < 160 → d t < D16) → (∀ t, t < j → d t = dv t) → lv_has ls 4 [(0, .ref x), (1, .ref ro), (2, .int (nI at0)), (3, .int (nI j))] → kw D cls (tyl k) L s H0 f0 [(x, cN xl n mi), (xl, cE k d), (ro, cI k 18432 T)] H locs →
    W p l e R s m args below meth c H locs cells slots Q (F0 m 38 ls []) := by
  have hx := S.1
  have hb := S.2.1
  have hown : s.vm.findClass R_M = some m.cls := S.2.2.2.1
  have hG := S.2.2.2.2
  intro i
  induction i with
  | zero =>
    intro j d H locs ls hj h1 h2 hl hw
    have hj : j = n := by omega
    subst hj
    -- METHOD M_fetch | loc 0=x 1=ro 2=at 3=j | ws x xl ro | fld x.d=xl
    refine lv_iload_n hx hb d_M_fetch_38 rfl (lv_at hl 3 rfl) ?_
    refine lv_aload_n hx hb d_M_fetch_39 rfl (lv_at hl 0 rfl) ?_
    refine k_get hx hb hG lay_N hown hw 0 rfl rfl 1 (by decide) (hG _ fl_M_20) (fun _ h9 => h9) rfl d_M_fetch_40 ?_
    refine lv_icmp_ge (tgt := 65) hx hb d_M_fetch_43 (by decide) (fun hc => ?_) (fun hc => ?_)
    · exact kx d H locs ls h1 h2 hw
    · exact absurd (nI_le (by omega) (by omega)) hc
  | succ i ih =>
    intro j d H locs ls hj h1 h2 hl hw
    -- METHOD M_fetch | loc 0=x 1=ro 2=at 3=j | ws x xl ro | fld x.d=xl
    refine lv_iload_n hx hb d_M_fetch_38 rfl (lv_at hl 3 rfl) ?_
    refine lv_aload_n hx hb d_M_fetch_39 rfl (lv_at hl 0 rfl) ?_
    refine k_get hx hb hG lay_N hown hw 0 rfl rfl 1 (by decide) (hG _ fl_M_20) (fun _ h9 => h9) rfl d_M_fetch_40 ?_
    refine lv_icmp_ge (tgt := 65) hx hb d_M_fetch_43 (by decide) (fun hc => ?_) (fun hc => ?_)
    · exact absurd hc (nI_ge (by omega) (by omega))
    refine lv_aload_n hx hb d_M_fetch_46 rfl (lv_at hl 0 rfl) ?_
    refine k_get hx hb hG lay_N hown hw 0 rfl rfl 0 (by decide) (hG _ fl_M_98) (fun _ h9 => h9) rfl d_M_fetch_47 ?_
    refine lv_iload_n hx hb d_M_fetch_50 rfl (lv_at hl 3 rfl) ?_
    refine lv_aload_n hx hb d_M_fetch_51 rfl (lv_at hl 1 rfl) ?_
    refine lv_iload_n hx hb d_M_fetch_52 rfl (lv_at hl 2 rfl) ?_
    refine lv_iconst (v := 1) hx hb d_M_fetch_53 (by decide) ?_
    refine lv_iadd hx hb d_M_fetch_54 ?_
    refine l_top (show nI at0 + 1 = nI (at0 + 1) from nI_add at0 1) ?_
    refine lv_iload_n hx hb d_M_fetch_55 rfl (lv_at hl 3 rfl) ?_
    refine lv_iadd hx hb d_M_fetch_56 ?_
    refine l_top (nI_add (at0 + 1) j) ?_
    refine k_iald hx hb hw 2 0 rfl rfl ((at0 + 1 + j)) (rfl) (by omega) (by first | decide | omega) d_M_fetch_57 ?_
    refine l_top (hT j (by omega)) ?_
    refine k_iast hx hb hw 1 0 rfl rfl (j) (rfl) (by omega) (by first | decide | omega) d_M_fetch_58 (fun H locs hw => ?_)
    rw [nD_upd] at hw
    refine lv_iinc (k := 3) hx hb d_M_fetch_59 hl rfl (ii1 j) (by decide) rfl (fun ls hl => ?_)
    refine lv_goto (tgt := 38) hx hb d_M_fetch_62 (by decide) ?_
    have hl := lv_sub hl [1, 2, 3, 0] rfl
    refine ih (j + 1) _ H locs ls (by omega) (fun t ht => ?_) (fun t ht => ?_) hl hw
    · by_cases e : t = j
      · rw [e, va_up_self]; exact hdv j (by omega)
      · rw [va_up_ne _ _ e]; exact h1 t ht
    · by_cases e : t = j
      · rw [e, va_up_self]
      · rw [va_up_ne _ _ e]; exact h2 t (by omega)
end FET
set_option maxRecDepth 100000 in
set_option maxHeartbeats 4000000 in
theorem m_M_fetch (l : Launch) (D : va_G) (k : Nat → ClassId) (L : List Nat) (f : Nat → va_E) (x xl ro n0 at0 : Nat) (mi0 : Bool) (d0 : Nat → Nat) (T : Nat → Int32) (v : Int) (hv : sc T at0 v) (hd : ∀ i, i < 160 → d0 i < D16) (hat : at0 + 16 ≤ 18432) (hk : kn L f f [(x, cN xl n0 mi0), (xl, cE k d0), (ro, cI k 18432 T)]) : Mv l y_M_fetch (Cond.code y_M_fetch c_M_fetch 4 none :: G) (rmN 0) D cls (tyl k) L f [.ref x, .ref ro, .int (nI at0)] (fun f' => ∃ n' mi' d', nr n' mi' d' v ∧ kn L f f' [(x, cN xl n' mi'), (xl, cE k d')]) := by
  obtain ⟨n, mi, dv, hn, hnr, hT0, hT1⟩ := hv
  have hneg : (if mi then -nI n else nI n) = zI (if mi then -(n : Int) else (n : Int)) := by
    cases mi
    · rfl
    · show -nI n = zI (-(n : Int)); rw [← zI_neg]; rfl
  -- METHOD M_fetch | loc 0=x 1=ro 2=at | ws x xl ro | fld x.d=xl
  refine mk_met (by decide) (Nat.le_of_ble_eq_true rfl) (fun p e s m below meth c ls S hr hlocks hw hl => ?_)
  have hx := S.1
  have hb := S.2.1
  have hown : s.vm.findClass R_M = some m.cls := S.2.2.2.1
  have hG := S.2.2.2.2
  have hl : lv_has ls 4 [(0, .ref x), (1, .ref ro), (2, .int (nI at0))] := hl
  have hg := hw
  have hw : kw D cls (tyl k) L s s.heap f [(x, cN xl n0 mi0), (xl, cE k d0), (ro, cI k 18432 T)] s.heap [] := ⟨f, hw, hk⟩
  have fin : ∀ (H : Heap) (locs : List Loc) (ls : Array Slot), lv_has ls 4 [(0, .ref x), (1, .ref ro), (2, .int (nI at0))] → kw D cls (tyl k) L s s.heap f [(x, cN xl n mi), (xl, cE k d0), (ro, cI k 18432 T)] H locs → W p l e (rmN 0) s m ([.ref x, .ref ro, .int (nI at0)] : List Value).toArray below meth c H locs 0 0 (MQ below (va_Qv (fun f' => ∃ n' mi' d', nr n' mi' d' v ∧ kn L f f' [(x, cN xl n' mi'), (xl, cE k d')]) (mst D cls (tyl k) L) (fun q => q ∈ L)) ([.ref x, .ref ro, .int (nI at0)] : List Value).toArray s 0 0 (fun q => q ∈ L)) (F0 m 36 ls []) := by
    intro H locs ls hl hw
    -- METHOD M_fetch | loc 0=x 1=ro 2=at | ws x xl ro | fld x.d=xl
    refine lv_iconst (v := 0) hx hb d_M_fetch_36 (by decide) ?_
    refine lv_istore_n hx hb d_M_fetch_37 rfl hl (by decide) rfl (fun ls hl => ?_)
    have hl := lv_sub hl [1, 2, 3, 0] rfl
    refine w_fetch S hn hat hT1 (fun j hj => hnr.2.1 j (by omega)) (fun d' H locs ls h1 h2 hw => ?_) n 0 d0 H locs ls (by omega) hd (fun t ht => by omega) hl hw
    obtain ⟨f', hg, hk'⟩ := hw
    refine g_retv hx hb hr hlocks hg ⟨n, mi, d', ⟨hnr.1, h1, fun h => ?_, hnr.2.2.2.1, ?_⟩, kn_two hk hk'⟩ d_M_fetch_65
    · rw [h2 _ (by omega)]; exact hnr.2.2.1 h
    · rw [cd_congr (b := D16) n h2]; exact hnr.2.2.2.2
  refine lv_aload_n hx hb d_M_fetch_0 rfl (lv_at hl 0 rfl) ?_
  refine lv_aload_n hx hb d_M_fetch_1 rfl (lv_at hl 1 rfl) ?_
  refine lv_iload_n hx hb d_M_fetch_2 rfl (lv_at hl 2 rfl) ?_
  refine k_iald hx hb hw 2 0 rfl rfl (at0) (rfl) (by omega) (by first | decide | omega) d_M_fetch_3 ?_
  refine l_top (hT0.trans hneg) ?_
  have rv : rI (if mi then -(n : Int) else (n : Int)) := by
    cases mi with
    | false => exact ⟨by show (-2147483648 : Int) ≤ (n : Int); omega, by show (n : Int) < 2147483648; omega⟩
    | true => exact ⟨by show (-2147483648 : Int) ≤ -(n : Int); omega, by show -(n : Int) < 2147483648; omega⟩
  refine lv_if_ge (tgt := 11) hx hb d_M_fetch_4 (by decide) (fun hc => ?_) (fun hc => ?_)
  · have h0 := (zI_le (a := 0) ⟨by decide, by decide⟩ rv).mp hc
    have hm : mi = false := by
      cases mi with
      | false => rfl
      | true =>
        have h1 : 0 < n := by
          rcases Nat.eq_zero_or_pos n with q | q
          · have := hnr.2.2.2.1 q; cases this
          · exact q
        have h0 : (0 : Int) ≤ -(n : Int) := h0
        omega
    subst hm
    refine lv_iconst (v := 0) hx hb d_M_fetch_11 (by decide) ?_
    refine k_put (ty := .boolean) hx hb hG lay_N ft_N ft_N_ok fn_N hown hw 0 rfl rfl 2 (by decide) (hG _ fl_M_13) (fun _ h9 => h9) rfl (by decide +kernel) rfl rfl (by simp) d_M_fetch_12 (fun H locs hw => ?_)
    refine lv_aload_n hx hb d_M_fetch_15 rfl (lv_at hl 0 rfl) ?_
    refine lv_aload_n hx hb d_M_fetch_16 rfl (lv_at hl 0 rfl) ?_
    refine k_get hx hb hG lay_N hown hw 0 rfl rfl 2 (by decide) (hG _ fl_M_13) (fun _ h9 => h9) rfl d_M_fetch_17 ?_
    refine lv_if_eq (tgt := 30) hx hb d_M_fetch_20 (by decide) (fun hc => ?_) (fun hc => ?_)
    rotate_left
    · exact absurd rfl hc
    refine lv_aload_n hx hb d_M_fetch_30 rfl (lv_at hl 1 rfl) ?_
    refine lv_iload_n hx hb d_M_fetch_31 rfl (lv_at hl 2 rfl) ?_
    refine k_iald hx hb hw 2 0 rfl rfl (at0) (rfl) (by omega) (by first | decide | omega) d_M_fetch_32 ?_
    refine l_top (show T at0 = nI n from hT0) ?_
    refine k_put (ty := .int) hx hb hG lay_N ft_N ft_N_ok fn_N hown hw 0 rfl rfl 1 (by decide) (hG _ fl_M_20) (fun _ h9 => h9) rfl (by decide +kernel) rfl rfl (by simp) d_M_fetch_33 (fun H locs hw => ?_)
    exact fin _ _ ls hl hw
  · have h0 : ¬ 0 ≤ (if mi then -(n : Int) else (n : Int)) := fun q => hc ((zI_le (a := 0) ⟨by decide, by decide⟩ rv).mpr q)
    have hm : mi = true := by
      cases mi with
      | true => rfl
      | false => exact absurd (show (0 : Int) ≤ (n : Int) by omega) h0
    subst hm
    refine lv_iconst (v := 1) hx hb d_M_fetch_7 (by decide) ?_
    refine lv_goto (tgt := 12) hx hb d_M_fetch_8 (by decide) ?_
    refine k_put (ty := .boolean) hx hb hG lay_N ft_N ft_N_ok fn_N hown hw 0 rfl rfl 2 (by decide) (hG _ fl_M_13) (fun _ h9 => h9) rfl (by decide +kernel) rfl rfl (by simp) d_M_fetch_12 (fun H locs hw => ?_)
    refine lv_aload_n hx hb d_M_fetch_15 rfl (lv_at hl 0 rfl) ?_
    refine lv_aload_n hx hb d_M_fetch_16 rfl (lv_at hl 0 rfl) ?_
    refine k_get hx hb hG lay_N hown hw 0 rfl rfl 2 (by decide) (hG _ fl_M_13) (fun _ h9 => h9) rfl d_M_fetch_17 ?_
    refine lv_if_eq (tgt := 30) hx hb d_M_fetch_20 (by decide) (fun hc => ?_) (fun hc => ?_)
    · exact absurd hc (by decide)
    refine lv_aload_n hx hb d_M_fetch_23 rfl (lv_at hl 1 rfl) ?_
    refine lv_iload_n hx hb d_M_fetch_24 rfl (lv_at hl 2 rfl) ?_
    refine k_iald hx hb hw 2 0 rfl rfl (at0) (rfl) (by omega) (by first | decide | omega) d_M_fetch_25 ?_
    refine lv_ineg hx hb d_M_fetch_26 ?_
    refine l_top (show -T at0 = nI n by rw [hT0]; show - -nI n = nI n; rw [Int32.neg_neg]) ?_
    refine lv_goto (tgt := 33) hx hb d_M_fetch_27 (by decide) ?_
    refine k_put (ty := .int) hx hb hG lay_N ft_N ft_N_ok fn_N hown hw 0 rfl rfl 1 (by decide) (hG _ fl_M_20) (fun _ h9 => h9) rfl (by decide +kernel) rfl rfl (by simp) d_M_fetch_33 (fun H locs hw => ?_)
    exact fin _ _ ls hl hw
section MLOOK
variable (l : Launch) (D : va_G)
set_option maxRecDepth 100000 in
set_option maxHeartbeats 4000000 in
theorem m_M_isTable (k : Nat → ClassId) (L : List Nat) (f : Nat → va_E) {a : Int} (ha : rI a) : Mi l y_M_isTable (Cond.code y_M_isTable c_M_isTable 1 (some .boolean) :: G) (rmN 0) D cls (tyl k) L f [.int (zI a)] (fun r f' => f' = f ∧ r = if 0 ≤ a ∧ a < 8 then 1 else 0) := by
  have z0 : rI 0 := ⟨by decide, by decide⟩
  have z8 : rI 8 := ⟨by decide, by decide⟩
  -- METHOD M_isTable | loc 0=a | ws
  refine mk_met (by decide) (Nat.le_of_ble_eq_true rfl) (fun p e s m below meth c ls S hr hlocks hw hl => ?_)
  have hx := S.1
  have hb := S.2.1
  have hown : s.vm.findClass R_M = some m.cls := S.2.2.2.1
  have hG := S.2.2.2.2
  have hl : lv_has ls 1 [(0, .int (zI a))] := hl
  have hg := hw
  refine lv_iload_n hx hb d_M_isTable_0 rfl (lv_at hl 0 rfl) ?_
  refine lv_if_lt (tgt := 14) hx hb d_M_isTable_1 (by decide) (fun hc => ?_) (fun hc => ?_)
  · have hn : a < 0 := (zI_lt ha z0).mp hc
    refine lv_iconst (v := 0) hx hb d_M_isTable_14 (by decide) ?_
    exact g_retz hx hb hr hlocks hg rfl ⟨rfl, by rw [if_neg (by omega)]⟩ d_M_isTable_15
  · have hn : ¬ a < 0 := fun q => hc ((zI_lt ha z0).mpr q)
    refine lv_iload_n hx hb d_M_isTable_4 rfl (lv_at hl 0 rfl) ?_
    refine lv_bipush (v := 8) hx hb d_M_isTable_5 (by decide) ?_
    refine lv_icmp_ge (tgt := 14) hx hb d_M_isTable_7 (by decide) (fun hc => ?_) (fun hc => ?_)
    · have hn2 : (8 : Int) ≤ a := (zI_le z8 ha).mp hc
      refine lv_iconst (v := 0) hx hb d_M_isTable_14 (by decide) ?_
      exact g_retz hx hb hr hlocks hg rfl ⟨rfl, by rw [if_neg (by omega)]⟩ d_M_isTable_15
    · have hn2 : ¬ (8 : Int) ≤ a := fun q => hc ((zI_le z8 ha).mpr q)
      refine lv_iconst (v := 1) hx hb d_M_isTable_10 (by decide) ?_
      refine lv_goto (tgt := 15) hx hb d_M_isTable_11 (by decide) ?_
      exact g_retz hx hb hr hlocks hg rfl ⟨rfl, by rw [if_pos (by omega)]⟩ d_M_isTable_15
variable {L : List Nat} {k : Nat → ClassId} {f : Nat → va_E} {own : Nat → Nat} {ma : Nat} {ra adr : Nat → Nat} {pr rw cl : Int32} {F R C Lo Pl To Bo Re Sm Pc : Nat → Int32} {V : Nat → Int}
set_option maxRecDepth 100000 in
set_option maxHeartbeats 4000000 in
theorem m_M_isReduced (h : MW L own k f ma ra adr pr rw cl F R C Lo Pl To Bo Re Sm Pc V) {a : Int} (ha : rI a) : Mi l y_M_isReduced (Cond.code y_M_isReduced c_M_isReduced 2 (some .boolean) :: G) (rmN 1) D cls (tyl k) L f [.ref ma, .int (zI a)] (fun r f' => f' = f ∧ ((r = 1 ∧ ∃ i : Nat, a = i ∧ i < 8 ∧ Lo i = 0) ∨ (r = 0 ∧ ¬ ∃ i : Nat, a = i ∧ i < 8 ∧ Lo i = 0))) := by
  -- METHOD M_isReduced | loc 0=m 1=a | ws m fa rc cc lo pl to bo re tp bt sm pc | fld m.fields=fa m.rowCounts=rc m.columnCounts=cc m.loose=lo m.places=pl m.tops=to m.bottoms=bo m.residues=re m.top=tp m.bottom=bt m.small=sm m.place=pc m.one=n0 m.two=n1 m.three=n2 m.four=n3 m.five=n4 m.six=n5 m.seven=n6 m.eight=n7 m.above=n8 m.under=n9
  refine mk_met (by decide) (Nat.le_of_ble_eq_true rfl) (fun p e s m below meth c ls S hr hlocks hw hl => ?_)
  have hx := S.1
  have hb := S.2.1
  have hown : s.vm.findClass R_M = some m.cls := S.2.2.2.1
  have hG := S.2.2.2.2
  have hl : lv_has ls 2 [(0, .ref ma), (1, .int (zI a))] := hl
  have hg := hw
  refine lv_iload_n hx hb d_M_isReduced_0 rfl (lv_at hl 1 rfl) ?_
  refine g_oi (c_X (np := 1) S (m_M_isTable l D k L f ha) hw ml_M_101 st_M_isTable in_M co_M_isTable (by decide +kernel) rfl ⟨rfl, rfl, by decide, by decide⟩ hl.1 rfl (by simp [Value.category]) d_M_isReduced_1 ⟨Nat.zero_le _, Nat.zero_le _⟩) hw (fun r1 f1 H locs hp hg => ?_)
  rw [hp.1] at hg
  refine l_top hp.2 ?_
  refine lv_if_eq (tgt := 20) hx hb d_M_isReduced_4 (by decide) (fun hc => ?_) (fun hc => ?_)
  · have hn : ¬ (0 ≤ a ∧ a < 8) := fun q => by rw [if_pos q] at hc; exact absurd hc (by decide)
    refine lv_iconst (v := 0) hx hb d_M_isReduced_20 (by decide) ?_
    exact g_retz hx hb hr hlocks hg rfl ⟨rfl, Or.inr ⟨rfl, fun ⟨i, q1, q2, _⟩ => hn (by omega)⟩⟩ d_M_isReduced_21
  have hn : 0 ≤ a ∧ a < 8 := Classical.byContradiction fun q => hc (if_neg q)
  obtain ⟨i, rfl⟩ : ∃ i : Nat, a = i := ⟨a.toNat, by omega⟩
  have hi : i < 8 := by omega
  have hw : kw D cls (tyl k) L s s.heap f ((mc k ra adr ma pr rw cl F R C Lo Pl To Bo Re Sm Pc)) H locs := ⟨f, hg, h.kn⟩
  refine lv_aload_n hx hb d_M_isReduced_7 rfl (lv_at hl 0 rfl) ?_
  refine k_get hx hb hG lay_M hown hw 0 rfl rfl 11 (by decide) (hG _ fl_M_63) (fun _ h9 => h9) rfl d_M_isReduced_8 ?_
  refine lv_iload_n hx hb d_M_isReduced_11 rfl (lv_at hl 1 rfl) ?_
  refine k_zald hx hb hw 4 5 rfl rfl (i) (rfl) (hi) (by first | decide | omega) d_M_isReduced_12 ?_
  refine lv_if_ne (tgt := 20) hx hb d_M_isReduced_13 (by decide) (fun hc => ?_) (fun hc => ?_)
  · refine lv_iconst (v := 0) hx hb d_M_isReduced_20 (by decide) ?_
    refine g_retz hx hb hr hlocks hg rfl ⟨rfl, Or.inr ⟨rfl, fun ⟨j, q1, q2, q3⟩ => hc ?_⟩⟩ d_M_isReduced_21
    rw [show i = j by omega]; exact q3
  · refine lv_iconst (v := 1) hx hb d_M_isReduced_16 (by decide) ?_
    refine lv_goto (tgt := 21) hx hb d_M_isReduced_17 (by decide) ?_
    exact g_retz hx hb hr hlocks hg rfl ⟨rfl, Or.inl ⟨rfl, i, rfl, hi, hc⟩⟩ d_M_isReduced_21
set_option maxRecDepth 100000 in
set_option maxHeartbeats 4000000 in
theorem m_M_isCell (h : MW L own k f ma ra adr pr rw cl F R C Lo Pl To Bo Re Sm Pc V) {nr0 nc0 : Nat → Nat} (hR : ∀ i, i < 8 → R i = nI (nr0 i) ∧ nr0 i ≤ 12) (hC : ∀ i, i < 8 → C i = nI (nc0 i) ∧ nc0 i ≤ 12) {a b d : Int} (ha : rI a) (hb' : rI b) (hd : rI d) : Mi l y_M_isCell (Cond.code y_M_isCell c_M_isCell 4 (some .boolean) :: G) (rmN 1) D cls (tyl k) L f [.ref ma, .int (zI a), .int (zI b), .int (zI d)] (fun r f' => f' = f ∧ ((r = 1 ∧ ∃ i x y : Nat, a = i ∧ i < 8 ∧ b = x ∧ d = y ∧ x < nr0 i ∧ y < nc0 i) ∨ (r = 0 ∧ ¬ ∃ i x y : Nat, a = i ∧ i < 8 ∧ b = x ∧ d = y ∧ x < nr0 i ∧ y < nc0 i))) := by
  have z0 : rI 0 := ⟨by decide, by decide⟩
  -- METHOD M_isCell | loc 0=m 1=a 2=b 3=d | ws m fa rc cc lo pl to bo re tp bt sm pc | fld m.fields=fa m.rowCounts=rc m.columnCounts=cc m.loose=lo m.places=pl m.tops=to m.bottoms=bo m.residues=re m.top=tp m.bottom=bt m.small=sm m.place=pc m.one=n0 m.two=n1 m.three=n2 m.four=n3 m.five=n4 m.six=n5 m.seven=n6 m.eight=n7 m.above=n8 m.under=n9
  refine mk_met (by decide) (Nat.le_of_ble_eq_true rfl) (fun p e s m below meth c ls S hr hlocks hw hl => ?_)
  have hx := S.1
  have hb := S.2.1
  have hown : s.vm.findClass R_M = some m.cls := S.2.2.2.1
  have hG := S.2.2.2.2
  have hl : lv_has ls 4 [(0, .ref ma), (1, .int (zI a)), (2, .int (zI b)), (3, .int (zI d))] := hl
  have hg := hw
  have bad : ∀ (H : Heap) (locs : List Loc) (ls : Array Slot), (¬ ∃ i x y : Nat, a = i ∧ i < 8 ∧ b = x ∧ d = y ∧ x < nr0 i ∧ y < nc0 i) → gw D cls (tyl k) L s s.heap f H locs → W p l e (rmN 1) s m ([.ref ma, .int (zI a), .int (zI b), .int (zI d)] : List Value).toArray below meth c H locs 0 0 (MQ below (va_Qi (fun r f' => f' = f ∧ ((r = 1 ∧ ∃ i x y : Nat, a = i ∧ i < 8 ∧ b = x ∧ d = y ∧ x < nr0 i ∧ y < nc0 i) ∨ (r = 0 ∧ ¬ ∃ i x y : Nat, a = i ∧ i < 8 ∧ b = x ∧ d = y ∧ x < nr0 i ∧ y < nc0 i))) (mst D cls (tyl k) L) (fun q => q ∈ L)) ([.ref ma, .int (zI a), .int (zI b), .int (zI d)] : List Value).toArray s 0 0 (fun q => q ∈ L)) (F0 m 39 ls []) := by
    intro H locs ls hno hg
    refine lv_iconst (v := 0) hx hb d_M_isCell_39 (by decide) ?_
    exact g_retz hx hb hr hlocks hg rfl ⟨rfl, Or.inr ⟨rfl, hno⟩⟩ d_M_isCell_40
  refine lv_iload_n hx hb d_M_isCell_0 rfl (lv_at hl 1 rfl) ?_
  refine g_oi (c_X (np := 1) S (m_M_isTable l D k L f ha) hw ml_M_101 st_M_isTable in_M co_M_isTable (by decide +kernel) rfl ⟨rfl, rfl, by decide, by decide⟩ hl.1 rfl (by simp [Value.category]) d_M_isCell_1 ⟨Nat.zero_le _, Nat.zero_le _⟩) hw (fun r1 f1 H locs hp hg => ?_)
  rw [hp.1] at hg
  refine l_top hp.2 ?_
  refine lv_if_eq (tgt := 39) hx hb d_M_isCell_4 (by decide) (fun hc => ?_) (fun hc => ?_)
  · have hn : ¬ (0 ≤ a ∧ a < 8) := fun q => by rw [if_pos q] at hc; exact absurd hc (by decide)
    exact bad H locs ls (fun ⟨i, x, y, q1, q2, _⟩ => hn (by omega)) hg
  have hn : 0 ≤ a ∧ a < 8 := Classical.byContradiction fun q => hc (if_neg q)
  obtain ⟨i, rfl⟩ : ∃ i : Nat, a = i := ⟨a.toNat, by omega⟩
  have hi : i < 8 := by omega
  obtain ⟨hR1, hR2⟩ := hR i hi
  obtain ⟨hC1, hC2⟩ := hC i hi
  have hw : kw D cls (tyl k) L s s.heap f ((mc k ra adr ma pr rw cl F R C Lo Pl To Bo Re Sm Pc)) H locs := ⟨f, hg, h.kn⟩
  refine lv_iload_n hx hb d_M_isCell_7 rfl (lv_at hl 2 rfl) ?_
  refine lv_if_lt (tgt := 39) hx hb d_M_isCell_8 (by decide) (fun hc => ?_) (fun hc => ?_)
  · have := (zI_lt hb' z0).mp hc
    exact bad H locs ls (fun ⟨i, x, y, q1, q2, q3, _⟩ => by omega) hg
  have hb0 : ¬ b < 0 := fun q => hc ((zI_lt hb' z0).mpr q)
  refine lv_iload_n hx hb d_M_isCell_11 rfl (lv_at hl 2 rfl) ?_
  refine lv_aload_n hx hb d_M_isCell_12 rfl (lv_at hl 0 rfl) ?_
  refine k_get hx hb hG lay_M hown hw 0 rfl rfl 9 (by decide) (hG _ fl_M_57) (fun _ h9 => h9) rfl d_M_isCell_13 ?_
  refine lv_iload_n hx hb d_M_isCell_16 rfl (lv_at hl 1 rfl) ?_
  refine k_iald hx hb hw 2 0 rfl rfl (i) (rfl) (hi) (by first | decide | omega) d_M_isCell_17 ?_
  refine l_top hR1 ?_
  refine lv_icmp_ge (tgt := 39) hx hb d_M_isCell_18 (by decide) (fun hc => ?_) (fun hc => ?_)
  · have h9 := (zI_le (rI_n (show nr0 i < 2147483648 by omega)) hb').mp hc
    exact bad H locs ls (fun ⟨j, x, y, q1, q2, q3, q4, q5, _⟩ => by have e : i = j := (by omega); subst e; omega) hg
  have hb1 : ¬ (nr0 i : Int) ≤ b := fun q => hc ((zI_le (rI_n (show nr0 i < 2147483648 by omega)) hb').mpr q)
  refine lv_iload_n hx hb d_M_isCell_21 rfl (lv_at hl 3 rfl) ?_
  refine lv_if_lt (tgt := 39) hx hb d_M_isCell_22 (by decide) (fun hc => ?_) (fun hc => ?_)
  · have := (zI_lt hd z0).mp hc
    exact bad H locs ls (fun ⟨i, x, y, q1, q2, q3, q4, _⟩ => by omega) hg
  have hd0 : ¬ d < 0 := fun q => hc ((zI_lt hd z0).mpr q)
  refine lv_iload_n hx hb d_M_isCell_25 rfl (lv_at hl 3 rfl) ?_
  refine lv_aload_n hx hb d_M_isCell_26 rfl (lv_at hl 0 rfl) ?_
  refine k_get hx hb hG lay_M hown hw 0 rfl rfl 10 (by decide) (hG _ fl_M_60) (fun _ h9 => h9) rfl d_M_isCell_27 ?_
  refine lv_iload_n hx hb d_M_isCell_30 rfl (lv_at hl 1 rfl) ?_
  refine k_iald hx hb hw 3 0 rfl rfl (i) (rfl) (hi) (by first | decide | omega) d_M_isCell_31 ?_
  refine l_top hC1 ?_
  refine lv_icmp_ge (tgt := 39) hx hb d_M_isCell_32 (by decide) (fun hc => ?_) (fun hc => ?_)
  · have h9 := (zI_le (rI_n (show nc0 i < 2147483648 by omega)) hd).mp hc
    exact bad H locs ls (fun ⟨j, x, y, q1, q2, q3, q4, q5, q6⟩ => by have e : i = j := (by omega); subst e; omega) hg
  have hd1 : ¬ (nc0 i : Int) ≤ d := fun q => hc ((zI_le (rI_n (show nc0 i < 2147483648 by omega)) hd).mpr q)
  refine lv_iconst (v := 1) hx hb d_M_isCell_35 (by decide) ?_
  refine lv_goto (tgt := 40) hx hb d_M_isCell_36 (by decide) ?_
  exact g_retz hx hb hr hlocks hg rfl ⟨rfl, Or.inl ⟨rfl, i, b.toNat, d.toNat, rfl, hi, by omega, by omega, by omega, by omega⟩⟩ d_M_isCell_40
-- isZero(k): the number's top, or its residue
set_option maxRecDepth 100000 in
set_option maxHeartbeats 4000000 in
theorem m_M_isZero {q : Nat} (h : MW L own k f ma ra adr (nI q) rw cl F R C Lo Pl To Bo Re Sm Pc V) (hq : q < 2147483648) {j : Nat} (hj : j < 144) : Mi l y_M_isZero (Cond.code y_M_isZero c_M_isZero 2 (some .boolean) :: G) (rmN 0) D cls (tyl k) L f [.ref ma, .int (nI j)] (fun r f' => f' = f ∧ r = if (q = 0 ∧ V (10 + j) = 0) ∨ (q ≠ 0 ∧ Sm j = 0) then 1 else 0) := by
  -- METHOD M_isZero | loc 0=m 1=j | ws m fa rc cc lo pl to bo re tp bt sm pc | fld m.fields=fa m.rowCounts=rc m.columnCounts=cc m.loose=lo m.places=pl m.tops=to m.bottoms=bo m.residues=re m.top=tp m.bottom=bt m.small=sm m.place=pc m.one=n0 m.two=n1 m.three=n2 m.four=n3 m.five=n4 m.six=n5 m.seven=n6 m.eight=n7 m.above=n8 m.under=n9
  refine mk_met (by decide) (Nat.le_of_ble_eq_true rfl) (fun p e s m below meth c ls S hr hlocks hw hl => ?_)
  have hx := S.1
  have hb := S.2.1
  have hown : s.vm.findClass R_M = some m.cls := S.2.2.2.1
  have hG := S.2.2.2.2
  have hl : lv_has ls 2 [(0, .ref ma), (1, .int (nI j))] := hl
  have hg := hw
  have hw : kw D cls (tyl k) L s s.heap f ((mc k ra adr ma (nI q) rw cl F R C Lo Pl To Bo Re Sm Pc)) s.heap [] := ⟨f, hw, h.kn⟩
  refine lv_aload_n hx hb d_M_isZero_0 rfl (lv_at hl 0 rfl) ?_
  refine k_get hx hb hG lay_M hown hw 0 rfl rfl 20 (by decide) (hG _ fl_M_105) (fun _ h9 => h9) rfl d_M_isZero_1 ?_
  refine lv_if_ne (tgt := 27) hx hb d_M_isZero_4 (by decide) (fun hc => ?_) (fun hc => ?_)
  · have h0 : q ≠ 0 := fun z => hc (by rw [z]; rfl)
    refine lv_aload_n hx hb d_M_isZero_27 rfl (lv_at hl 0 rfl) ?_
    refine k_get hx hb hG lay_M hown hw 0 rfl rfl 18 (by decide) (hG _ fl_M_86) (fun _ h9 => h9) rfl d_M_isZero_28 ?_
    refine lv_iload_n hx hb d_M_isZero_31 rfl (lv_at hl 1 rfl) ?_
    refine k_iald hx hb hw 11 0 rfl rfl (j) (rfl) (by omega) (by first | decide | omega) d_M_isZero_32 ?_
    refine lv_if_ne (tgt := 40) hx hb d_M_isZero_33 (by decide) (fun hc => ?_) (fun hc => ?_)
    · refine lv_iconst (v := 0) hx hb d_M_isZero_40 (by decide) ?_
      exact g_retz hx hb hr hlocks hg rfl ⟨rfl, by rw [if_neg]; rintro (⟨z, -⟩ | ⟨-, z⟩); exact h0 z; exact hc z⟩ d_M_isZero_41
    · refine lv_iconst (v := 1) hx hb d_M_isZero_36 (by decide) ?_
      refine lv_goto (tgt := 41) hx hb d_M_isZero_37 (by decide) ?_
      exact g_retz hx hb hr hlocks hg rfl ⟨rfl, by rw [if_pos (Or.inr ⟨h0, hc⟩)]⟩ d_M_isZero_41
  · have h0 : q = 0 := Classical.byContradiction fun z => nI_ne0 (Nat.pos_of_ne_zero z) hq hc
    obtain ⟨m1, ml1, n1, g1, d1, e1, el1, w1⟩ := h.2.2 (10 + j) (by omega)
    have hz := nr_z w1
    have hn1 := w1.1
    have hw := k_add hw m1 e1 (fun i z hz => ((mc_mem h.1 z (List.mem_of_getElem? hz)).2.2 _ (by omega)).symm)
    refine lv_aload_n hx hb d_M_isZero_7 rfl (lv_at hl 0 rfl) ?_
    refine k_get hx hb hG lay_M hown hw 0 rfl rfl 16 (by decide) (hG _ fl_M_79) (fun _ h9 => h9) rfl d_M_isZero_8 ?_
    refine lv_iload_n hx hb d_M_isZero_11 rfl (lv_at hl 1 rfl) ?_
    refine k_aald hx hb hw 9 4 rfl rfl (j) (rfl) (by omega) (by first | decide | omega) (rfl) d_M_isZero_12 ?_
    refine k_get hx hb hG lay_N hown hw 13 rfl rfl 1 (by decide) (hG _ fl_M_20) (fun _ h9 => h9) rfl d_M_isZero_13 ?_
    refine lv_if_ne (tgt := 23) hx hb d_M_isZero_16 (by decide) (fun hc => ?_) (fun hc => ?_)
    · have hn0 : n1 ≠ 0 := fun z => hc (by rw [z]; rfl)
      refine lv_iconst (v := 0) hx hb d_M_isZero_23 (by decide) ?_
      refine lv_goto (tgt := 41) hx hb d_M_isZero_24 (by decide) ?_
      exact g_retz hx hb hr hlocks hg rfl ⟨rfl, by rw [if_neg]; rintro (⟨-, z⟩ | ⟨z, -⟩); exact hn0 (hz.mpr z); exact z h0⟩ d_M_isZero_41
    · have hn0 : n1 = 0 := Classical.byContradiction fun z => nI_ne0 (by omega) (by omega) hc
      refine lv_iconst (v := 1) hx hb d_M_isZero_19 (by decide) ?_
      refine lv_goto (tgt := 41) hx hb d_M_isZero_20 (by decide) ?_
      exact g_retz hx hb hr hlocks hg rfl ⟨rfl, by rw [if_pos (Or.inl ⟨h0, hz.mp hn0⟩)]⟩ d_M_isZero_41
end MLOOK


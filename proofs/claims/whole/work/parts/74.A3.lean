-- ===== LineTables: its state, and what looks at it alone =====
def CT (L : List Nat) (own : Nat → Nat) (k : Nat → ClassId) (f : Nat → va_E) (tO tP tN : Nat → Nat) (τ : Nat) (x : Tb) : Prop := ∃ rs P Wt, TB L own k f τ (tO τ) (tP τ) (tN τ) rs (nI (x).q) (x).rows (x).cols (if (x).red then 1 else 0) P Wt ∧ mt Wt x.rows x.cols x.A ∧ (x.red = true → ∀ i, i < x.rows → P i = nI (x.pl i))
def CS (L : List Nat) (own : Nat → Nat) (k : Nat → ClassId) (f : Nat → va_E) (xa ta qa pr ln : Nat) (tO tP tN adr : Nat → Nat) (zl : Nat → Option Nat) (π : Nat → Nat) (st : Nat → Tb) : Prop := ∃ zt, XA L own k f xa ta qa pr (tO (π 8)) zt ∧ (∀ i, i < 8 → zt i = some (tO (π i))) ∧ RQ L own k f adr qa ln zl ∧ ((∀ i, i ≤ 8 → π i ≤ 8) ∧ ∀ i j, i ≤ 8 → j ≤ 8 → π i = π j → i = j) ∧ (∀ i, i < 8 → CT L own k f tO tP tN (π i) (st i)) ∧ ∃ rs fd rows cols rd P Wt, TB L own k f (π 8) (tO (π 8)) (tP (π 8)) (tN (π 8)) rs fd rows cols rd P Wt
/-- the owners of the class's cells -/
def CO : List Nat := [0, 1, 2, 3, 4, 5, 6, 7, 8, 100, 101]
theorem CO_le {i : Nat} (h : i ≤ 8) : i ∈ CO := by
  unfold CO
  rcases (show i = 0 ∨ i = 1 ∨ i = 2 ∨ i = 3 ∨ i = 4 ∨ i = 5 ∨ i = 6 ∨ i = 7 ∨ i = 8 by omega) with h | h | h | h | h | h | h | h | h <;> subst h <;> simp
theorem XA.ne {L : List Nat} {own : Nat → Nat} {k : Nat → ClassId} {f : Nat → va_E} {xa ta pr sp : Nat} {zt : Nat → Option Nat} {qa : Nat} (h : XA L own k f xa ta qa pr sp zt) : xa ≠ ta := fun e => by
  have h1 := h.1
  have h2 := h.2.1
  rw [e, h2] at h1
  cases h1
theorem xa_kn2 {L : List Nat} {own : Nat → Nat} {k : Nat → ClassId} {f : Nat → va_E} {xa ta pr sp : Nat} {zt : Nat → Option Nat} {qa : Nat} (h : XA L own k f xa ta qa pr sp zt) : kn L f f [(xa, cA ta qa pr sp), (ta, cTs k zt)] := by
  refine kn_of (fun q hq => ?_) (by simp; exact h.ne)
  simp only [List.mem_cons, List.not_mem_nil, or_false] at hq
  rcases hq with rfl | rfl
  · exact ⟨h.2.2.2.1.1, h.1⟩
  · exact ⟨h.2.2.2.2.1.1, h.2.1⟩
theorem xa_kn4 {L : List Nat} {k : Nat → ClassId} {f : Nat → va_E} {own : Nat → Nat} {τ t pa nu : Nat} {rs : Nat → Nat} {fd : Int32} {rows cols : Nat} {rd : Int32} {P : Nat → Int32} {Wt : Nat → Nat → Int32} {xa ta pr sp : Nat} {zt : Nat → Option Nat} {qa : Nat} (h : XA L own k f xa ta qa pr sp zt) (hT : TB L own k f τ t pa nu rs fd rows cols rd P Wt) (hτ : τ ≠ 101) : kn L f f [(xa, cA ta qa pr sp), (ta, cTs k zt), (t, cT fd (nI rows) (nI cols) rd pa nu), (pa, cP k P)] := by
  have n1 : ∀ q, own q = τ → xa ≠ q := fun q e1 e => by have h1 := h.2.2.2.1.2; rw [e] at h1; omega
  have n2 : ∀ q, own q = τ → ta ≠ q := fun q e1 e => by have h1 := h.2.2.2.2.1.2; rw [e] at h1; omega
  refine kn_of (fun q hq => ?_) (by simp; exact ⟨⟨h.ne, n1 _ hT.1.1.2, n1 _ hT.1.2.1.2⟩, ⟨n2 _ hT.1.1.2, n2 _ hT.1.2.1.2⟩, hT.1.2.2.2.2.1⟩)
  simp only [List.mem_cons, List.not_mem_nil, or_false] at hq
  rcases hq with rfl | rfl | rfl | rfl
  · exact ⟨h.2.2.2.1.1, h.1⟩
  · exact ⟨h.2.2.2.2.1.1, h.2.1⟩
  · exact ⟨hT.1.1.1, hT.2.1⟩
  · exact ⟨hT.1.2.1.1, hT.2.2.1⟩
theorem teq_CT {L : List Nat} {own : Nat → Nat} {k : Nat → ClassId} {f : Nat → va_E} {tO tP tN : Nat → Nat} {τ : Nat} {x y : Tb} (h : CT L own k f tO tP tN τ x) (e : teq x y) : CT L own k f tO tP tN τ y := by
  obtain ⟨rs, P, Wt, h1, h2, h3⟩ := h
  obtain ⟨e1, e2, e3, e4, e5, e6⟩ := e
  refine ⟨rs, P, Wt, by rw [← e1, ← e2, ← e3, ← e4]; exact h1, fun i hi j hj => ?_, fun hr i hi => ?_⟩
  · rw [← e2] at hi
    rw [← e3] at hj
    rw [← e5 i j hi hj]; exact h2 i hi j hj
  · rw [← e2] at hi
    rw [← e4] at hr
    rw [← e6 hr i hi]; exact h3 hr i hi
theorem CT.keep {L : List Nat} {own : Nat → Nat} {k : Nat → ClassId} {f f' : Nat → va_E} {tO tP tN : Nat → Nat} {τ : Nat} {x : Tb} {S : List Nat} (h : CT L own k f tO tP tN τ x) (ho : oe own S f f') (hs : τ ∉ S) : CT L own k f' tO tP tN τ x := by
  obtain ⟨rs, P, Wt, h1, h2, h3⟩ := h
  exact ⟨rs, P, Wt, h1.keep ho hs, h2, h3⟩
section CS1
variable (l : Launch) (D : va_G)
set_option maxRecDepth 100000 in
set_option maxHeartbeats 4000000 in
theorem m_A_isTable (k : Nat → ClassId) (L : List Nat) (f : Nat → va_E) {a : Int} (ha : rI a) : Mi l y_A_isTable (Cond.code y_A_isTable c_A_isTable 1 (some .boolean) :: G) (rmN 0) D cls (tyl k) L f [.int (zI a)] (fun r f' => f' = f ∧ r = if 0 ≤ a ∧ a < 8 then 1 else 0) := by
  have z0 : rI 0 := ⟨by decide, by decide⟩
  have z8 : rI 8 := ⟨by decide, by decide⟩
  -- METHOD A_isTable | loc 0=a | ws
  refine mk_met (by decide) (Nat.le_of_ble_eq_true rfl) (fun p e s m below meth c ls S hr hlocks hw hl => ?_)
  have hx := S.1
  have hb := S.2.1
  have hown : s.vm.findClass R_A = some m.cls := S.2.2.2.1
  have hG := S.2.2.2.2
  have hl : lv_has ls 1 [(0, .int (zI a))] := hl
  have hg := hw
  refine lv_iload_n hx hb d_A_isTable_0 rfl (lv_at hl 0 rfl) ?_
  refine lv_if_lt (tgt := 14) hx hb d_A_isTable_1 (by decide) (fun hc => ?_) (fun hc => ?_)
  · have hn : a < 0 := (zI_lt ha z0).mp hc
    refine lv_iconst (v := 0) hx hb d_A_isTable_14 (by decide) ?_
    exact g_retz hx hb hr hlocks hg rfl ⟨rfl, by rw [if_neg (by omega)]⟩ d_A_isTable_15
  · have hn : ¬ a < 0 := fun q => hc ((zI_lt ha z0).mpr q)
    refine lv_iload_n hx hb d_A_isTable_4 rfl (lv_at hl 0 rfl) ?_
    refine lv_bipush (v := 8) hx hb d_A_isTable_5 (by decide) ?_
    refine lv_icmp_ge (tgt := 14) hx hb d_A_isTable_7 (by decide) (fun hc => ?_) (fun hc => ?_)
    · have hn2 : (8 : Int) ≤ a := (zI_le z8 ha).mp hc
      refine lv_iconst (v := 0) hx hb d_A_isTable_14 (by decide) ?_
      exact g_retz hx hb hr hlocks hg rfl ⟨rfl, by rw [if_neg (by omega)]⟩ d_A_isTable_15
    · have hn2 : ¬ (8 : Int) ≤ a := fun q => hc ((zI_le z8 ha).mpr q)
      refine lv_iconst (v := 1) hx hb d_A_isTable_10 (by decide) ?_
      refine lv_goto (tgt := 15) hx hb d_A_isTable_11 (by decide) ?_
      exact g_retz hx hb hr hlocks hg rfl ⟨rfl, by rw [if_pos (by omega)]⟩ d_A_isTable_15
set_option maxRecDepth 100000 in
set_option maxHeartbeats 4000000 in
theorem m_A_isAmount (k : Nat → ClassId) (L : List Nat) (f : Nat → va_E) {a : Int} (ha : rI a) : Mi l y_A_isAmount (Cond.code y_A_isAmount c_A_isAmount 1 (some .boolean) :: G) (rmN 0) D cls (tyl k) L f [.int (zI a)] (fun r f' => f' = f ∧ r = if 0 ≤ a ∧ a ≤ 12 then 1 else 0) := by
  have z0 : rI 0 := ⟨by decide, by decide⟩
  have z8 : rI 12 := ⟨by decide, by decide⟩
  -- METHOD A_isAmount | loc 0=a | ws
  refine mk_met (by decide) (Nat.le_of_ble_eq_true rfl) (fun p e s m below meth c ls S hr hlocks hw hl => ?_)
  have hx := S.1
  have hb := S.2.1
  have hown : s.vm.findClass R_A = some m.cls := S.2.2.2.1
  have hG := S.2.2.2.2
  have hl : lv_has ls 1 [(0, .int (zI a))] := hl
  have hg := hw
  refine lv_iload_n hx hb d_A_isAmount_0 rfl (lv_at hl 0 rfl) ?_
  refine lv_if_lt (tgt := 14) hx hb d_A_isAmount_1 (by decide) (fun hc => ?_) (fun hc => ?_)
  · have hn : a < 0 := (zI_lt ha z0).mp hc
    refine lv_iconst (v := 0) hx hb d_A_isAmount_14 (by decide) ?_
    exact g_retz hx hb hr hlocks hg rfl ⟨rfl, by rw [if_neg (by omega)]⟩ d_A_isAmount_15
  · have hn : ¬ a < 0 := fun q => hc ((zI_lt ha z0).mpr q)
    refine lv_iload_n hx hb d_A_isAmount_4 rfl (lv_at hl 0 rfl) ?_
    refine lv_bipush (v := 12) hx hb d_A_isAmount_5 (by decide) ?_
    refine lv_icmp_gt (tgt := 14) hx hb d_A_isAmount_7 (by decide) (fun hc => ?_) (fun hc => ?_)
    · have hn2 : (12 : Int) < a := (zI_lt z8 ha).mp hc
      refine lv_iconst (v := 0) hx hb d_A_isAmount_14 (by decide) ?_
      exact g_retz hx hb hr hlocks hg rfl ⟨rfl, by rw [if_neg (by omega)]⟩ d_A_isAmount_15
    · have hn2 : ¬ (12 : Int) < a := fun q => hc ((zI_lt z8 ha).mpr q)
      refine lv_iconst (v := 1) hx hb d_A_isAmount_10 (by decide) ?_
      refine lv_goto (tgt := 15) hx hb d_A_isAmount_11 (by decide) ?_
      exact g_retz hx hb hr hlocks hg rfl ⟨rfl, by rw [if_pos (by omega)]⟩ d_A_isAmount_15
end CS1
/-- 0, or a prime up to 251 -/
def fldOK (a : Int) : Prop := ∃ q : Nat, a = q ∧ (q = 0 ∨ prm q) ∧ q ≤ 251
theorem prm_of {q : Nat} (h2 : 2 ≤ q) (h : ∀ e, 2 ≤ e → e * e ≤ q → ¬ e ∣ q) : prm q := by
  refine ⟨h2, fun d hd => ?_⟩
  apply Classical.byContradiction
  intro hn
  obtain ⟨e, he⟩ := hd
  have hd0 : d ≠ 0 := fun z => by rw [z, Nat.zero_mul] at he; omega
  have he0 : e ≠ 0 := fun z => by rw [z, Nat.mul_zero] at he; omega
  have he1 : e ≠ 1 := fun z => hn (Or.inr (by rw [he, z, Nat.mul_one]))
  have hd1 : d ≠ 1 := fun z => hn (Or.inl z)
  rcases Nat.le_total d e with hde | hde
  · exact h d (by omega) (by rw [he]; exact Nat.mul_le_mul_left _ hde) ⟨e, he⟩
  · exact h e (by omega) (by rw [he]; exact Nat.mul_le_mul_right _ hde) ⟨d, by rw [he, Nat.mul_comm]⟩
section FLD
variable {p : Program} {l : Launch} {e : Env} {s : State} {m : MethodId} {args : Array Value} {below : List Frame} {meth : Method} {c : Code} {Q : State → Prop} {D : va_G} {k : Nat → ClassId} {L : List Nat} {H0 : Heap}
set_option maxRecDepth 100000 in
set_option maxHeartbeats 4000000 in
theorem w_fld (S : CallFix p m c c_A_isField 2 s args G R_A) (hr : meth.sig.returnType = some .boolean) (hlocks : meth.locks = false) {q : Nat} (h2 : 2 ≤ q) (hq : q ≤ 251) {f : Nat → va_E} :
    ∀ (i d : Nat) (H : Heap) (locs : List Loc) (ls : Array Slot), d + i = 17 → 2 ≤ d → (∀ e, 2 ≤ e → e < d → ¬ e ∣ q) → lv_has ls 2 [(0, .int (nI q)), (1, .int (nI d))] → gw D cls (tyl k) L s s.heap f H locs →
    W p l e (rmN 0) s m args below meth c H locs 0 0 (MQ below (va_Qi (fun r f' => f' = f ∧ ((r = 1 ∧ prm q) ∨ (r = 0 ∧ ¬ prm q))) (mst D cls (tyl k) L) (fun q => q ∈ L)) args s 0 0 (fun q => q ∈ L)) (F0 m 22 ls []) := by
  have hx := S.1
  have hb := S.2.1
  have hown : s.vm.findClass R_A = some m.cls := S.2.2.2.1
  have hG := S.2.2.2.2
  intro i
  induction i with
  | zero =>
    intro d H locs ls hd hd2 hn hl hg
    have hd : d = 17 := by omega
    subst hd
    -- METHOD A_isField | loc 0=q 1=d | ws
    refine lv_iload_n hx hb d_A_isField_22 rfl (lv_at hl 1 rfl) ?_
    refine lv_iload_n hx hb d_A_isField_23 rfl (lv_at hl 1 rfl) ?_
    refine lv_imul hx hb d_A_isField_24 ?_
    refine l_top (pk_mul 17 17) ?_
    refine lv_iload_n hx hb d_A_isField_25 rfl (lv_at hl 0 rfl) ?_
    refine lv_icmp_gt (tgt := 43) hx hb d_A_isField_26 (by decide) (fun hc => ?_) (fun hc => ?_)
    · -- LOC 0=q 1=d
      refine lv_iconst (v := 1) hx hb d_A_isField_43 (by decide) ?_
      exact g_retz hx hb hr hlocks hg rfl ⟨rfl, Or.inl ⟨rfl, prm_of h2 (fun e h3 h4 => hn e h3 (Classical.byContradiction fun h5 => by have := Nat.mul_le_mul (show 17 ≤ e by omega) (show 17 ≤ e by omega); omega))⟩⟩ d_A_isField_44
    · refine absurd ?_ hc
      show nI q < nI (17 * 17)
      rw [← zI_n, ← zI_n, zI_lt (rI_n (by omega)) (rI_n (by omega))]; omega
  | succ i ih =>
    intro d H locs ls hd hd2 hn hl hg
    have hdd : d * d ≤ 17 * 17 := Nat.mul_le_mul (by omega) (by omega)
    -- METHOD A_isField | loc 0=q 1=d | ws
    refine lv_iload_n hx hb d_A_isField_22 rfl (lv_at hl 1 rfl) ?_
    refine lv_iload_n hx hb d_A_isField_23 rfl (lv_at hl 1 rfl) ?_
    refine lv_imul hx hb d_A_isField_24 ?_
    refine l_top (pk_mul d d) ?_
    have hcmp : nI q < nI (d * d) ↔ q < d * d := by
      rw [← zI_n, ← zI_n, zI_lt (rI_n (by omega)) (rI_n (by omega))]; omega
    refine lv_iload_n hx hb d_A_isField_25 rfl (lv_at hl 0 rfl) ?_
    refine lv_icmp_gt (tgt := 43) hx hb d_A_isField_26 (by decide) (fun hc => ?_) (fun hc => ?_)
    · have hgt := hcmp.mp hc
      refine lv_iconst (v := 1) hx hb d_A_isField_43 (by decide) ?_
      refine g_retz hx hb hr hlocks hg rfl ⟨rfl, Or.inl ⟨rfl, prm_of h2 (fun e h3 h4 => hn e h3 (Classical.byContradiction fun h5 => ?_))⟩⟩ d_A_isField_44
      have := Nat.mul_le_mul (show d ≤ e by omega) (show d ≤ e by omega)
      omega
    · have hle : ¬ q < d * d := fun z => hc (hcmp.mpr z)
      refine lv_iload_n hx hb d_A_isField_29 rfl (lv_at hl 0 rfl) ?_
      refine lv_iload_n hx hb d_A_isField_30 rfl (lv_at hl 1 rfl) ?_
      refine lv_irem hx hb d_A_isField_31 (nI_ne0 (by omega) (by omega)) ?_
      refine l_top (pk_rem (by omega) (by omega) (by omega)) ?_
      have hz : nI (q % d) = 0 ↔ q % d = 0 := by
        rw [← zI_n]
        exact (zI_eq (b := 0) (rI_n (by have := Nat.mod_lt q (show 0 < d by omega); omega)) ⟨by decide, by decide⟩).trans (by omega)
      refine lv_if_ne (tgt := 37) hx hb d_A_isField_32 (by decide) (fun hc => ?_) (fun hc => ?_)
      · have h0 : q % d ≠ 0 := fun z => hc (hz.mpr z)
        refine lv_iinc (k := 1) hx hb d_A_isField_37 hl rfl (ii1 d) (by decide) rfl (fun ls hl => ?_)
        refine lv_goto (tgt := 22) hx hb d_A_isField_40 (by decide) ?_
        have hl := lv_sub hl [1, 0] rfl
        refine ih (d + 1) H locs ls (by omega) (by omega) (fun e h3 h4 => ?_) hl hg
        by_cases e5 : e = d
        · rw [e5]; exact fun z => h0 (Nat.mod_eq_zero_of_dvd z)
        · exact hn e h3 (by omega)
      · have h0 : q % d = 0 := hz.mp hc
        refine lv_iconst (v := 0) hx hb d_A_isField_35 (by decide) ?_
        refine g_retz hx hb hr hlocks hg rfl ⟨rfl, Or.inr ⟨rfl, fun hp => ?_⟩⟩ d_A_isField_36
        rcases hp.2 d (Nat.dvd_of_mod_eq_zero h0) with z | z
        · omega
        · subst z
          have : d * 2 ≤ d * d := Nat.mul_le_mul_left _ hd2
          omega
end FLD
section CS2
variable (l : Launch) (D : va_G)
set_option maxRecDepth 100000 in
set_option maxHeartbeats 4000000 in
theorem m_A_isField (k : Nat → ClassId) (L : List Nat) (f : Nat → va_E) {a : Int} (ha : rI a) : Mi l y_A_isField (Cond.code y_A_isField c_A_isField 2 (some .boolean) :: G) (rmN 0) D cls (tyl k) L f [.int (zI a)] (fun r f' => f' = f ∧ ((r = 1 ∧ fldOK a) ∨ (r = 0 ∧ ¬ fldOK a))) := by
  have z0 : rI 0 := ⟨by decide, by decide⟩
  have z2 : rI 2 := ⟨by decide, by decide⟩
  have z251 : rI 251 := ⟨by decide, by decide⟩
  -- METHOD A_isField | loc 0=a | ws
  refine mk_met (by decide) (Nat.le_of_ble_eq_true rfl) (fun p e s m below meth c ls S hr hlocks hw hl => ?_)
  have hx := S.1
  have hb := S.2.1
  have hown : s.vm.findClass R_A = some m.cls := S.2.2.2.1
  have hG := S.2.2.2.2
  have hl : lv_has ls 2 [(0, .int (zI a))] := hl
  have hg := hw
  refine lv_iload_n hx hb d_A_isField_0 rfl (lv_at hl 0 rfl) ?_
  refine lv_if_ne (tgt := 6) hx hb d_A_isField_1 (by decide) (fun hc => ?_) (fun hc => ?_)
  · have hn : a ≠ 0 := fun q => hc ((zI_eq ha z0).mpr q)
    refine lv_iload_n hx hb d_A_isField_6 rfl (lv_at hl 0 rfl) ?_
    refine lv_iconst (v := 2) hx hb d_A_isField_7 (by decide) ?_
    refine lv_icmp_lt (tgt := 18) hx hb d_A_isField_8 (by decide) (fun hc => ?_) (fun hc => ?_)
    · have hn2 : a < 2 := (zI_lt ha z2).mp hc
      refine lv_iconst (v := 0) hx hb d_A_isField_18 (by decide) ?_
      refine g_retz hx hb hr hlocks hg rfl ⟨rfl, Or.inr ⟨rfl, fun ⟨q, h1, h2, h3⟩ => ?_⟩⟩ d_A_isField_19
      rcases h2 with h2 | h2
      · omega
      · have := h2.1; omega
    · have hn2 : ¬ a < 2 := fun q => hc ((zI_lt ha z2).mpr q)
      refine lv_iload_n hx hb d_A_isField_11 rfl (lv_at hl 0 rfl) ?_
      refine lv_sipush (v := 251) hx hb d_A_isField_12 (by decide) ?_
      refine lv_icmp_le (tgt := 20) hx hb d_A_isField_15 (by decide) (fun hc => ?_) (fun hc => ?_)
      · have hn3 : a ≤ 251 := (zI_le ha z251).mp hc
        obtain ⟨q, rfl⟩ : ∃ q : Nat, a = q := ⟨a.toNat, by omega⟩
        refine lv_iconst (v := 2) hx hb d_A_isField_20 (by decide) ?_
        refine lv_istore_n hx hb d_A_isField_21 rfl hl (by decide) rfl (fun ls hl => ?_)
        have hl := lv_sub hl [1, 0] rfl
        have hfk : prm q ↔ fldOK (q : Int) := by
          constructor
          · intro h; exact ⟨q, rfl, Or.inr h, by omega⟩
          · rintro ⟨q', h1, h2, h3⟩
            have : q' = q := by omega
            subst this
            exact h2.resolve_left (by omega)
        rw [← hfk]
        exact w_fld S hr hlocks (by omega) (by omega) 15 2 _ _ ls (by omega) (by omega) (fun e h1 h2 => by omega) hl hg
      · have hn3 : ¬ a ≤ 251 := fun q => hc ((zI_le ha z251).mpr q)
        refine lv_iconst (v := 0) hx hb d_A_isField_18 (by decide) ?_
        exact g_retz hx hb hr hlocks hg rfl ⟨rfl, Or.inr ⟨rfl, fun ⟨q, h1, h2, h3⟩ => by omega⟩⟩ d_A_isField_19
  · have hn : a = 0 := (zI_eq ha z0).mp hc
    refine lv_iconst (v := 1) hx hb d_A_isField_4 (by decide) ?_
    exact g_retz hx hb hr hlocks hg rfl ⟨rfl, Or.inl ⟨rfl, 0, by omega, Or.inl rfl, by omega⟩⟩ d_A_isField_5
variable {L : List Nat} {own : Nat → Nat} {k : Nat → ClassId} {f : Nat → va_E} {xa ta qa pr ln : Nat} {tO tP tN adr : Nat → Nat} {zl : Nat → Option Nat} {π : Nat → Nat} {st : Nat → Tb}
set_option maxRecDepth 100000 in
set_option maxHeartbeats 4000000 in
theorem m_A_isReduced (h : CS L own k f xa ta qa pr ln tO tP tN adr zl π st) {a : Int} (ha : rI a) : Mi l y_A_isReduced (Cond.code y_A_isReduced c_A_isReduced 2 (some .boolean) :: G) (rmN 1) D cls (tyl k) L f [.ref xa, .int (zI a)] (fun r f' => f' = f ∧ ((r = 1 ∧ ∃ i : Nat, a = i ∧ i < 8 ∧ (st i).red = true) ∨ (r = 0 ∧ ¬ ∃ i : Nat, a = i ∧ i < 8 ∧ (st i).red = true))) := by
  obtain ⟨zt, hX, hzt, hR, hπ, hC, hsp⟩ := h
  -- METHOD A_isReduced | loc 0=xa 1=a | ws xa ta t pa | fld xa.tables=ta
  refine mk_met (by decide) (Nat.le_of_ble_eq_true rfl) (fun p e s m below meth c ls S hr hlocks hw hl => ?_)
  have hx := S.1
  have hb := S.2.1
  have hown : s.vm.findClass R_A = some m.cls := S.2.2.2.1
  have hG := S.2.2.2.2
  have hl : lv_has ls 2 [(0, .ref xa), (1, .int (zI a))] := hl
  have hg := hw
  refine lv_iload_n hx hb d_A_isReduced_0 rfl (lv_at hl 1 rfl) ?_
  refine g_oi (c_X (np := 1) S (m_A_isTable l D k L f ha) hw ml_A_34 st_A_isTable in_A co_A_isTable (by decide +kernel) rfl ⟨rfl, rfl, by decide, by decide⟩ hl.1 rfl (by simp [Value.category]) d_A_isReduced_1 ⟨Nat.zero_le _, Nat.zero_le _⟩) hw (fun r1 f1 H locs hp hg => ?_)
  rw [hp.1] at hg
  refine l_top hp.2 ?_
  refine lv_if_eq (tgt := 23) hx hb d_A_isReduced_4 (by decide) (fun hc => ?_) (fun hc => ?_)
  · have hn : ¬ (0 ≤ a ∧ a < 8) := fun q => by rw [if_pos q] at hc; exact absurd hc (by decide)
    refine lv_iconst (v := 0) hx hb d_A_isReduced_23 (by decide) ?_
    exact g_retz hx hb hr hlocks hg rfl ⟨rfl, Or.inr ⟨rfl, fun ⟨i, h1, h2, h3⟩ => hn (by omega)⟩⟩ d_A_isReduced_24
  · have hn : 0 ≤ a ∧ a < 8 := Classical.byContradiction fun q => hc (if_neg q)
    obtain ⟨i, rfl⟩ : ∃ i : Nat, a = i := ⟨a.toNat, by omega⟩
    have hi : i < 8 := by omega
    obtain ⟨rs, P, Wt, hT, hA, hP⟩ := hC i hi
    have hw : kw D cls (tyl k) L s s.heap f [(xa, cA ta qa pr (tO (π 8))), (ta, cTs k zt), (tO (π i), cT (nI (st i).q) (nI (st i).rows) (nI (st i).cols) (if (st i).red then 1 else 0) (tP (π i)) (tN (π i))), (tP (π i), cP k P)] H locs := ⟨f, hg, xa_kn4 hX hT (by have := hπ.1 i (by omega); omega)⟩
    refine lv_aload_n hx hb d_A_isReduced_7 rfl (lv_at hl 0 rfl) ?_
    refine k_get hx hb hG lay_A hown hw 0 rfl rfl 0 (by decide) (hG _ fl_A_11) (fun _ h9 => h9) rfl d_A_isReduced_8 ?_
    refine lv_iload_n hx hb d_A_isReduced_11 rfl (lv_at hl 1 rfl) ?_
    refine k_aald hx hb hw 1 2 rfl rfl (i) (rfl) (hi) (by first | decide | omega) (hzt i hi) d_A_isReduced_12 ?_
    refine k_get hx hb hG lay_T hown hw 2 rfl rfl 3 (by decide) (hG _ fl_A_52) (fun _ h9 => h9) rfl d_A_isReduced_13 ?_
    refine lv_if_eq (tgt := 23) hx hb d_A_isReduced_16 (by decide) (fun hc => ?_) (fun hc => ?_)
    · have hr0 : (st i).red ≠ true := fun q => by rw [q] at hc; exact absurd hc (by decide)
      refine lv_iconst (v := 0) hx hb d_A_isReduced_23 (by decide) ?_
      exact g_retz hx hb hr hlocks hg rfl ⟨rfl, Or.inr ⟨rfl, fun ⟨j, h1, h2, h3⟩ => hr0 (by rw [show i = j by omega]; exact h3)⟩⟩ d_A_isReduced_24
    · have hr0 : (st i).red = true := Classical.byContradiction fun q => hc (by rw [if_neg q])
      refine lv_iconst (v := 1) hx hb d_A_isReduced_19 (by decide) ?_
      refine lv_goto (tgt := 24) hx hb d_A_isReduced_20 (by decide) ?_
      exact g_retz hx hb hr hlocks hg rfl ⟨rfl, Or.inl ⟨rfl, i, rfl, hi, hr0⟩⟩ d_A_isReduced_24
set_option maxRecDepth 100000 in
set_option maxHeartbeats 4000000 in
theorem m_A_hasNumber (h : CS L own k f xa ta qa pr ln tO tP tN adr zl π st) (hok : ∀ i, i < 8 → okT (st i)) {a b d : Int} (ha : rI a) (hb' : rI b) (hd : rI d) : Mi l y_A_hasNumber (Cond.code y_A_hasNumber c_A_hasNumber 4 (some .boolean) :: G) (rmN 1) D cls (tyl k) L f [.ref xa, .int (zI a), .int (zI b), .int (zI d)] (fun r f' => f' = f ∧ ((r = 1 ∧ ∃ i x y : Nat, a = i ∧ i < 8 ∧ b = x ∧ d = y ∧ x < (st i).rows ∧ y < (st i).cols) ∨ (r = 0 ∧ ¬ ∃ i x y : Nat, a = i ∧ i < 8 ∧ b = x ∧ d = y ∧ x < (st i).rows ∧ y < (st i).cols))) := by
  obtain ⟨zt, hX, hzt, hR, hπ, hC, hsp⟩ := h
  -- METHOD A_hasNumber | loc 0=xa 1=a 2=b 3=d | ws xa ta t pa | fld xa.tables=ta
  refine mk_met (by decide) (Nat.le_of_ble_eq_true rfl) (fun p e s m below meth c ls S hr hlocks hw hl => ?_)
  have hx := S.1
  have hb := S.2.1
  have hown : s.vm.findClass R_A = some m.cls := S.2.2.2.1
  have hG := S.2.2.2.2
  have hl : lv_has ls 4 [(0, .ref xa), (1, .int (zI a)), (2, .int (zI b)), (3, .int (zI d))] := hl
  have hg := hw
  refine lv_iload_n hx hb d_A_hasNumber_0 rfl (lv_at hl 1 rfl) ?_
  refine g_oi (c_X (np := 1) S (m_A_isTable l D k L f ha) hw ml_A_34 st_A_isTable in_A co_A_isTable (by decide +kernel) rfl ⟨rfl, rfl, by decide, by decide⟩ hl.1 rfl (by simp [Value.category]) d_A_hasNumber_1 ⟨Nat.zero_le _, Nat.zero_le _⟩) hw (fun r1 f1 H locs hp hg => ?_)
  rw [hp.1] at hg
  refine l_top hp.2 ?_
  refine lv_if_eq (tgt := 25) hx hb d_A_hasNumber_4 (by decide) (fun hc => ?_) (fun hc => ?_)
  · have hn : ¬ (0 ≤ a ∧ a < 8) := fun q => by rw [if_pos q] at hc; exact absurd hc (by decide)
    refine lv_iconst (v := 0) hx hb d_A_hasNumber_25 (by decide) ?_
    exact g_retz hx hb hr hlocks hg rfl ⟨rfl, Or.inr ⟨rfl, fun ⟨i, x, y, h1, h2, h3⟩ => hn (by omega)⟩⟩ d_A_hasNumber_26
  · have hn : 0 ≤ a ∧ a < 8 := Classical.byContradiction fun q => hc (if_neg q)
    obtain ⟨i, rfl⟩ : ∃ i : Nat, a = i := ⟨a.toNat, by omega⟩
    have hi : i < 8 := by omega
    obtain ⟨rs, P, Wt, hT, hA, hP⟩ := hC i hi
    obtain ⟨-, -, hrw, hcl, -⟩ := hok i hi
    have hw : kw D cls (tyl k) L s s.heap f [(xa, cA ta qa pr (tO (π 8))), (ta, cTs k zt), (tO (π i), cT (nI (st i).q) (nI (st i).rows) (nI (st i).cols) (if (st i).red then 1 else 0) (tP (π i)) (tN (π i))), (tP (π i), cP k P)] H locs := ⟨f, hg, xa_kn4 hX hT (by have := hπ.1 i (by omega); omega)⟩
    refine lv_aload_n hx hb d_A_hasNumber_7 rfl (lv_at hl 0 rfl) ?_
    refine k_get hx hb hG lay_A hown hw 0 rfl rfl 0 (by decide) (hG _ fl_A_11) (fun _ h9 => h9) rfl d_A_hasNumber_8 ?_
    refine lv_iload_n hx hb d_A_hasNumber_11 rfl (lv_at hl 1 rfl) ?_
    refine k_aald hx hb hw 1 2 rfl rfl (i) (rfl) (hi) (by first | decide | omega) (hzt i hi) d_A_hasNumber_12 ?_
    refine lv_iload_n hx hb d_A_hasNumber_13 rfl (lv_at hl 2 rfl) ?_
    refine lv_iload_n hx hb d_A_hasNumber_14 rfl (lv_at hl 3 rfl) ?_
    have hw := hg
    refine g_oi (c_V (np := 2) S (tb_has l D hT hrw hcl hb' hd) hw (hT.1.1.1) (hT.2.1) rfl ml_A_133 im_T_has se_T_T_has in_T co_T_has (by decide +kernel) rfl ⟨rfl, rfl, by decide, by decide⟩ hl.1 rfl (by simp [Value.category]) d_A_hasNumber_15 ⟨Nat.zero_le _, Nat.zero_le _⟩) hw (fun r2 f2 H locs hp2 hg => ?_)
    rw [hp2.1] at hg
    refine l_top hp2.2 ?_
    refine lv_if_eq (tgt := 25) hx hb d_A_hasNumber_18 (by decide) (fun hc => ?_) (fun hc => ?_)
    · have hn2 : ¬ (0 ≤ b ∧ b < (st i).rows ∧ 0 ≤ d ∧ d < (st i).cols) := fun q => by rw [if_pos q] at hc; exact absurd hc (by decide)
      refine lv_iconst (v := 0) hx hb d_A_hasNumber_25 (by decide) ?_
      refine g_retz hx hb hr hlocks hg rfl ⟨rfl, Or.inr ⟨rfl, fun ⟨j, x, y, h1, h2, h3, h4, h5, h6⟩ => hn2 ?_⟩⟩ d_A_hasNumber_26
      have : i = j := by omega
      subst this
      omega
    · have hn2 : 0 ≤ b ∧ b < (st i).rows ∧ 0 ≤ d ∧ d < (st i).cols := Classical.byContradiction fun q => hc (if_neg q)
      refine lv_iconst (v := 1) hx hb d_A_hasNumber_21 (by decide) ?_
      refine lv_goto (tgt := 26) hx hb d_A_hasNumber_22 (by decide) ?_
      exact g_retz hx hb hr hlocks hg rfl ⟨rfl, Or.inl ⟨rfl, i, b.toNat, d.toNat, rfl, hi, by omega, by omega, by omega, by omega⟩⟩ d_A_hasNumber_26
end CS2


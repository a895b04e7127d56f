-- ===== LineTables: begin put of place sign digit =====
def isAt (st : Nat → Tb) (a b d : Int) (i x y : Nat) : Prop := a = i ∧ i < 8 ∧ b = x ∧ d = y ∧ x < (st i).rows ∧ y < (st i).cols
def spSign (st : Nat → Tb) (a b d : Int) (r : Int32) : Prop := (∃ i x y, isAt st a b d i x y ∧ r = zI ((st i).A x y).sign) ∨ ((¬ ∃ i x y, isAt st a b d i x y) ∧ r = 0)
def spDigit (st : Nat → Tb) (a b d e : Int) (r : Int32) : Prop := (∃ i x y z : Nat, isAt st a b d i x y ∧ e = z ∧ r = nI (((st i).A x y).natAbs / 65536 ^ z % 65536)) ∨ (((¬ ∃ i x y, isAt st a b d i x y) ∨ e < 0) ∧ r = -1)
def spPlace (st : Nat → Tb) (a b : Int) (r : Int32) : Prop := (∃ i x : Nat, a = i ∧ i < 8 ∧ (st i).red = true ∧ b = x ∧ x < (st i).rows ∧ r = nI ((st i).pl x)) ∨ ((¬ ∃ i x : Nat, a = i ∧ i < 8 ∧ (st i).red = true ∧ b = x ∧ x < (st i).rows) ∧ r = -1)
def spOf (st : Nat → Tb) (a b : Int) (r : Int32) : Prop := (∃ i : Nat, a = i ∧ i < 8 ∧ ((b = 0 ∧ r = nI (st i).q) ∨ (b = 1 ∧ r = nI (st i).rows) ∨ (b = 2 ∧ r = nI (st i).cols) ∨ (b = 3 ∧ r = if (st i).red then 1 else 0) ∨ ((b < 0 ∨ 3 < b) ∧ r = -1))) ∨ (¬ (0 ≤ a ∧ a < 8) ∧ r = -1)
def spBegin (st : Nat → Tb) (a b c d : Int) (st' : Nat → Tb) (r : Int32) : Prop := (∃ i q rw cl : Nat, a = i ∧ i < 8 ∧ b = q ∧ (q = 0 ∨ prm q) ∧ q ≤ 251 ∧ c = rw ∧ rw ≤ 12 ∧ d = cl ∧ cl ≤ 12 ∧ st' = va_up st i (mkT q rw cl false (fun _ _ => 0) id) ∧ r = 1) ∨ (¬ (0 ≤ a ∧ a < 8 ∧ fldOK b ∧ 0 ≤ c ∧ c ≤ 12 ∧ 0 ≤ d ∧ d ≤ 12) ∧ st' = st ∧ r = 0)
def putT (x : Tb) (i j : Nat) (v : Int) : Tb := mkT x.q x.rows x.cols false (va_up x.A i (va_up (x.A i) j (if x.q = 0 then v else v % x.q))) x.pl
def spPut (st : Nat → Tb) (a b c d : Int) (st' : Nat → Tb) (r : Int32) : Prop := (∃ i x y, isAt st a b c i x y ∧ (st i).red = false ∧ -999 ≤ d ∧ d ≤ 999 ∧ st' = va_up st i (putT (st i) x y d) ∧ r = 1) ∨ (¬ ((∃ i x y, isAt st a b c i x y ∧ (st i).red = false) ∧ -999 ≤ d ∧ d ≤ 999) ∧ st' = st ∧ r = 0)
theorem CS_upd {L : List Nat} {own : Nat → Nat} {k : Nat → ClassId} {f : Nat → va_E} {xa ta qa pr ln : Nat} {tO tP tN adr : Nat → Nat} {zl : Nat → Option Nat} {π : Nat → Nat} {st : Nat → Tb} {f' : Nat → va_E} (h : CS L own k f xa ta qa pr ln tO tP tN adr zl π st) {i : Nat} (hi : i < 8) {y : Tb} (hT : CT L own k f' tO tP tN (π i) y) (hR : RQ L own k f' adr qa ln zl) (ho : oe own [π i, 100] f f') : CS L own k f' xa ta qa pr ln tO tP tN adr zl π (va_up st i y) ∧ oe own CO f f' := by
  obtain ⟨zt, hX, hzt, -, hπ, hC, ⟨rs, fd, rows, cols, rd, P, Wt, hS⟩⟩ := h
  have hpi := hπ.1 i (by omega)
  have h8 : π 8 ∉ [π i, 100] := by
    simp
    exact ⟨fun e => by have := hπ.2 8 i (by omega) (by omega) e; omega, by have := hπ.1 8 (by omega); omega⟩
  refine ⟨⟨zt, hX.keep ho (by simp; omega), hzt, hR, hπ, fun j hj => ?_, ⟨rs, fd, rows, cols, rd, P, Wt, hS.keep ho h8⟩⟩, ho.mono (fun x hx => ?_)⟩
  · by_cases e : j = i
    · rw [e, va_up_self]; exact hT
    · rw [va_up_ne _ _ e]
      refine (hC j hj).keep ho ?_
      simp
      exact ⟨fun q => e (hπ.2 j i (by omega) (by omega) q), by have := hπ.1 j (by omega); omega⟩
  · simp at hx
    rcases hx with rfl | rfl
    · exact CO_le hpi
    · unfold CO; simp
section PUB1
variable (l : Launch) (D : va_G) {L : List Nat} {own : Nat → Nat} {k : Nat → ClassId} {f : Nat → va_E} {xa ta qa pr ln : Nat} {tO tP tN adr : Nat → Nat} {zl : Nat → Option Nat} {π : Nat → Nat} {st : Nat → Tb}
set_option maxRecDepth 100000 in
set_option maxHeartbeats 4000000 in
theorem m_A_sign (h : CS L own k f xa ta qa pr ln tO tP tN adr zl π st) (hok : ∀ i, i < 8 → okT (st i)) {a b d : Int} (ha : rI a) (hb' : rI b) (hd : rI d) : Mi l y_A_sign (Cond.code y_A_sign c_A_sign 4 (some .int) :: G) (rmN 2) D cls (tyl k) L f [.ref xa, .int (zI a), .int (zI b), .int (zI d)] (fun r f' => f' = f ∧ spSign st a b d r) := by
  have hcs := h
  obtain ⟨zt, hX, hzt, hR, hπ, hC, hsp⟩ := h
  -- METHOD A_sign | loc 0=xa 1=a 2=b 3=d | ws xa ta t pa | fld xa.tables=ta
  refine mk_met (by decide) (Nat.le_of_ble_eq_true rfl) (fun p e s m below meth c ls S hr hlocks hw hl => ?_)
  have hx := S.1
  have hb := S.2.1
  have hown : s.vm.findClass R_A = some m.cls := S.2.2.2.1
  have hG := S.2.2.2.2
  have hl : lv_has ls 4 [(0, .ref xa), (1, .int (zI a)), (2, .int (zI b)), (3, .int (zI d))] := hl
  have hg := hw
  refine lv_aload_n hx hb d_A_sign_0 rfl (lv_at hl 0 rfl) ?_
  refine lv_iload_n hx hb d_A_sign_1 rfl (lv_at hl 1 rfl) ?_
  refine lv_iload_n hx hb d_A_sign_2 rfl (lv_at hl 2 rfl) ?_
  refine lv_iload_n hx hb d_A_sign_3 rfl (lv_at hl 3 rfl) ?_
  refine g_oi (c_V (np := 3) S (m_A_hasNumber l D hcs hok ha hb' hd) hw (hX.2.2.2.1.1) (hX.1) rfl ml_A_48 im_A_hasNumber se_A_A_hasNumber in_A co_A_hasNumber (by decide +kernel) rfl ⟨rfl, rfl, by decide, by decide⟩ hl.1 rfl (by simp [Value.category]) d_A_sign_4 ⟨Nat.zero_le _, Nat.zero_le _⟩) hw (fun r1 f1 H locs hp hg => ?_)
  obtain ⟨e1, hp⟩ := hp
  rw [e1] at hg
  rcases hp with ⟨er, i, x, y, h1, hi, h2, h3, hxr, hyc⟩ | ⟨er, hno⟩
  · subst er
    subst h1
    subst h2
    subst h3
    obtain ⟨rs, P, Wt, hT, hA, hP⟩ := hC i hi
    obtain ⟨-, -, hrw, hcl, -⟩ := hok i hi
    have hw : kw D cls (tyl k) L s s.heap f [(xa, cA ta qa pr (tO (π 8))), (ta, cTs k zt), (tO (π i), cT (nI (st i).q) (nI (st i).rows) (nI (st i).cols) (if (st i).red then 1 else 0) (tP (π i)) (tN (π i))), (tP (π i), cP k P)] H locs := ⟨f, hg, xa_kn4 hX hT (by have := hπ.1 i (by omega); omega)⟩
    refine lv_if_ne (tgt := 12) hx hb d_A_sign_7 (by decide) (fun hc => ?_) (fun hc => ?_)
    · -- LOC 0=xa 1=a 2=b 3=d
      refine lv_aload_n hx hb d_A_sign_12 rfl (lv_at hl 0 rfl) ?_
      refine k_get hx hb hG lay_A hown hw 0 rfl rfl 0 (by decide) (hG _ fl_A_11) (fun _ h9 => h9) rfl d_A_sign_13 ?_
      refine lv_iload_n hx hb d_A_sign_16 rfl (lv_at hl 1 rfl) ?_
      refine k_aald hx hb hw 1 2 rfl rfl (i) (rfl) (hi) (by first | decide | omega) (hzt i hi) d_A_sign_17 ?_
      refine lv_iload_n hx hb d_A_sign_18 rfl (lv_at hl 2 rfl) ?_
      refine lv_iload_n hx hb d_A_sign_19 rfl (lv_at hl 3 rfl) ?_
      have hw := hg
      refine g_oi (c_V (np := 2) S (tb_head l D hT (row := x) (col := y) (by omega) (by omega)) hw (hT.1.1.1) (hT.2.1) rfl ml_A_120 im_T_head se_T_T_head in_T co_T_head (by decide +kernel) rfl ⟨rfl, rfl, by decide, by decide⟩ hl.1 rfl (by simp [Value.category]) d_A_sign_20 ⟨Nat.zero_le _, Nat.zero_le _⟩) hw (fun r2 f2 H locs hp2 hg => ?_)
      rw [hp2.1] at hg
      obtain ⟨n, hn5, hhd, hn0⟩ := nm_head (hA x hxr y hyc)
      refine l_top (hp2.2.trans hhd) ?_
      have hw := hg
      have hrng : -2147483648 < ((st i).A x y).sign * (n : Int) ∧ ((st i).A x y).sign * (n : Int) < 2147483648 := by
        rcases Int.lt_trichotomy ((st i).A x y) 0 with h | h | h
        · rw [Int.sign_eq_neg_one_of_neg h]; omega
        · rw [h]; simp
        · rw [Int.sign_eq_one_of_pos h]; omega
      refine g_oi (c_X (np := 1) S (m_signum l D k L f (((st i).A x y).sign * (n : Int)) hrng) hw ml_A_123 st_JI_signum in_JI co_JI_signum (by decide +kernel) rfl ⟨rfl, rfl, by decide, by decide⟩ hl.1 rfl (by simp [Value.category]) d_A_sign_23 ⟨Nat.zero_le _, Nat.zero_le _⟩) hw (fun r3 f3 H locs hp3 hg => ?_)
      rw [hp3.1] at hg
      refine g_reti hx hb hr hlocks hg ⟨rfl, Or.inl ⟨i, x, y, ⟨rfl, hi, rfl, rfl, hxr, hyc⟩, ?_⟩⟩ d_A_sign_26
      rw [hp3.2]
      congr 1
      rw [Int.sign_mul, Int.sign_sign]
      by_cases h : n = 0
      · rw [hn0.mp h]; simp
      · rw [Int.sign_eq_one_of_pos (show (0 : Int) < n by omega), Int.mul_one]
    · exact absurd hc (by decide)
  · subst er
    refine lv_if_ne (tgt := 12) hx hb d_A_sign_7 (by decide) (fun hc => ?_) (fun hc => ?_)
    · exact absurd rfl hc
    · refine lv_iconst (v := 0) hx hb d_A_sign_10 (by decide) ?_
      exact g_reti hx hb hr hlocks hg ⟨rfl, Or.inr ⟨hno, rfl⟩⟩ d_A_sign_11
set_option maxRecDepth 100000 in
set_option maxHeartbeats 4000000 in
theorem m_A_digit (h : CS L own k f xa ta qa pr ln tO tP tN adr zl π st) (hok : ∀ i, i < 8 → okT (st i)) {a b d e0 : Int} (ha : rI a) (hb' : rI b) (hd : rI d) (he : rI e0) : Mi l y_A_digit (Cond.code y_A_digit c_A_digit 5 (some .int) :: G) (rmN 3) D cls (tyl k) L f [.ref xa, .int (zI a), .int (zI b), .int (zI d), .int (zI e0)] (fun r f' => f' = f ∧ spDigit st a b d e0 r) := by
  have hcs := h
  have z0 : rI 0 := ⟨by decide, by decide⟩
  obtain ⟨zt, hX, hzt, hR, hπ, hC, hsp⟩ := h
  -- METHOD A_digit | loc 0=xa 1=a 2=b 3=d 4=e | ws xa ta t pa | fld xa.tables=ta
  refine mk_met (by decide) (Nat.le_of_ble_eq_true rfl) (fun p e s m below meth c ls S hr hlocks hw hl => ?_)
  have hx := S.1
  have hb := S.2.1
  have hown : s.vm.findClass R_A = some m.cls := S.2.2.2.1
  have hG := S.2.2.2.2
  have hl : lv_has ls 5 [(0, .ref xa), (1, .int (zI a)), (2, .int (zI b)), (3, .int (zI d)), (4, .int (zI e0))] := hl
  have hg := hw
  refine lv_aload_n hx hb d_A_digit_0 rfl (lv_at hl 0 rfl) ?_
  refine lv_iload_n hx hb d_A_digit_1 rfl (lv_at hl 1 rfl) ?_
  refine lv_iload_n hx hb d_A_digit_2 rfl (lv_at hl 2 rfl) ?_
  refine lv_iload_n hx hb d_A_digit_3 rfl (lv_at hl 3 rfl) ?_
  refine g_oi (c_V (np := 3) S (m_A_hasNumber l D hcs hok ha hb' hd) hw (hX.2.2.2.1.1) (hX.1) rfl ml_A_48 im_A_hasNumber se_A_A_hasNumber in_A co_A_hasNumber (by decide +kernel) rfl ⟨rfl, rfl, by decide, by decide⟩ hl.1 rfl (by simp [Value.category]) d_A_digit_4 ⟨Nat.zero_le _, Nat.zero_le _⟩) hw (fun r1 f1 H locs hp hg => ?_)
  obtain ⟨e1, hp⟩ := hp
  rw [e1] at hg
  rcases hp with ⟨er, i, x, y, h1, hi, h2, h3, hxr, hyc⟩ | ⟨er, hno⟩
  · subst er
    subst h1
    subst h2
    subst h3
    obtain ⟨rs, P, Wt, hT, hA, hP⟩ := hC i hi
    obtain ⟨-, -, hrw, hcl, -⟩ := hok i hi
    have hw : kw D cls (tyl k) L s s.heap f [(xa, cA ta qa pr (tO (π 8))), (ta, cTs k zt), (tO (π i), cT (nI (st i).q) (nI (st i).rows) (nI (st i).cols) (if (st i).red then 1 else 0) (tP (π i)) (tN (π i))), (tP (π i), cP k P)] H locs := ⟨f, hg, xa_kn4 hX hT (by have := hπ.1 i (by omega); omega)⟩
    refine lv_if_eq (tgt := 15) hx hb d_A_digit_7 (by decide) (fun hc => ?_) (fun hc => ?_)
    · exact absurd hc (by decide)
    · -- LOC 0=xa 1=a 2=b 3=d 4=e
      refine lv_iload hx hb d_A_digit_10 (lv_at hl 4 rfl) ?_
      refine lv_if_ge (tgt := 17) hx hb d_A_digit_12 (by decide) (fun hc => ?_) (fun hc => ?_)
      · have he0 : 0 ≤ e0 := (zI_le z0 he).mp hc
        obtain ⟨z, rfl⟩ : ∃ z : Nat, e0 = z := ⟨e0.toNat, by omega⟩
        refine lv_aload_n hx hb d_A_digit_17 rfl (lv_at hl 0 rfl) ?_
        refine k_get hx hb hG lay_A hown hw 0 rfl rfl 0 (by decide) (hG _ fl_A_11) (fun _ h9 => h9) rfl d_A_digit_18 ?_
        refine lv_iload_n hx hb d_A_digit_21 rfl (lv_at hl 1 rfl) ?_
        refine k_aald hx hb hw 1 2 rfl rfl (i) (rfl) (hi) (by first | decide | omega) (hzt i hi) d_A_digit_22 ?_
        refine lv_iload_n hx hb d_A_digit_23 rfl (lv_at hl 2 rfl) ?_
        refine lv_iload_n hx hb d_A_digit_24 rfl (lv_at hl 3 rfl) ?_
        refine lv_iload hx hb d_A_digit_25 (lv_at hl 4 rfl) ?_
        have hw := hg
        refine g_oi (c_V (np := 3) S (tb_toldDigit l D hT (row := x) (col := y) (by omega) (by omega) (hA x hxr y hyc) (i := z) (by have := he.2; omega)) hw (hT.1.1.1) (hT.2.1) rfl ml_A_129 im_T_toldDigit se_T_T_toldDigit in_T co_T_toldDigit (by decide +kernel) rfl ⟨rfl, rfl, by decide, by decide⟩ hl.1 rfl (by simp [Value.category]) d_A_digit_27 ⟨Nat.zero_le _, Nat.zero_le _⟩) hw (fun r2 f2 H locs hp2 hg => ?_)
        rw [hp2.1] at hg
        exact g_reti hx hb hr hlocks hg ⟨rfl, Or.inl ⟨i, x, y, z, ⟨rfl, hi, rfl, rfl, hxr, hyc⟩, rfl, hp2.2⟩⟩ d_A_digit_30
      · have he0 : ¬ 0 ≤ e0 := fun q => hc ((zI_le z0 he).mpr q)
        refine lv_iconst (v := (-1)) hx hb d_A_digit_15 (by decide) ?_
        exact g_reti hx hb hr hlocks hg ⟨rfl, Or.inr ⟨Or.inr (by omega), rfl⟩⟩ d_A_digit_16
  · subst er
    refine lv_if_eq (tgt := 15) hx hb d_A_digit_7 (by decide) (fun hc => ?_) (fun hc => ?_)
    · refine lv_iconst (v := (-1)) hx hb d_A_digit_15 (by decide) ?_
      exact g_reti hx hb hr hlocks hg ⟨rfl, Or.inr ⟨Or.inl hno, rfl⟩⟩ d_A_digit_16
    · exact absurd rfl hc
set_option maxRecDepth 100000 in
set_option maxHeartbeats 4000000 in
theorem m_A_place (h : CS L own k f xa ta qa pr ln tO tP tN adr zl π st) (hok : ∀ i, i < 8 → okT (st i)) {a b : Int} (ha : rI a) (hb' : rI b) : Mi l y_A_place (Cond.code y_A_place c_A_place 3 (some .int) :: G) (rmN 2) D cls (tyl k) L f [.ref xa, .int (zI a), .int (zI b)] (fun r f' => f' = f ∧ spPlace st a b r) := by
  have hcs := h
  have z0 : rI 0 := ⟨by decide, by decide⟩
  obtain ⟨zt, hX, hzt, hR, hπ, hC, hsp⟩ := h
  -- METHOD A_place | loc 0=xa 1=a 2=b | ws xa ta t pa | fld xa.tables=ta t.places=pa
  refine mk_met (by decide) (Nat.le_of_ble_eq_true rfl) (fun p e s m below meth c ls S hr hlocks hw hl => ?_)
  have hx := S.1
  have hb := S.2.1
  have hown : s.vm.findClass R_A = some m.cls := S.2.2.2.1
  have hG := S.2.2.2.2
  have hl : lv_has ls 3 [(0, .ref xa), (1, .int (zI a)), (2, .int (zI b))] := hl
  have hg := hw
  refine lv_aload_n hx hb d_A_place_0 rfl (lv_at hl 0 rfl) ?_
  refine lv_iload_n hx hb d_A_place_1 rfl (lv_at hl 1 rfl) ?_
  refine g_oi (c_V (np := 1) S (m_A_isReduced l D hcs ha) hw (hX.2.2.2.1.1) (hX.1) rfl ml_A_88 im_A_isReduced se_A_A_isReduced in_A co_A_isReduced (by decide +kernel) rfl ⟨rfl, rfl, by decide, by decide⟩ hl.1 rfl (by simp [Value.category]) d_A_place_2 ⟨Nat.zero_le _, Nat.zero_le _⟩) hw (fun r1 f1 H locs hp hg => ?_)
  obtain ⟨e1, hp⟩ := hp
  rw [e1] at hg
  rcases hp with ⟨er, i, h1, hi, hred⟩ | ⟨er, hno⟩
  · subst er
    subst h1
    obtain ⟨rs, P, Wt, hT, hA, hP⟩ := hC i hi
    obtain ⟨-, -, hrw, hcl, -⟩ := hok i hi
    have hw : kw D cls (tyl k) L s s.heap f [(xa, cA ta qa pr (tO (π 8))), (ta, cTs k zt), (tO (π i), cT (nI (st i).q) (nI (st i).rows) (nI (st i).cols) (if (st i).red then 1 else 0) (tP (π i)) (tN (π i))), (tP (π i), cP k P)] H locs := ⟨f, hg, xa_kn4 hX hT (by have := hπ.1 i (by omega); omega)⟩
    refine lv_if_eq (tgt := 25) hx hb d_A_place_5 (by decide) (fun hc => ?_) (fun hc => ?_)
    · exact absurd hc (by decide)
    · -- LOC 0=xa 1=a 2=b
      refine lv_iload_n hx hb d_A_place_8 rfl (lv_at hl 2 rfl) ?_
      refine lv_if_lt (tgt := 25) hx hb d_A_place_9 (by decide) (fun hc => ?_) (fun hc => ?_)
      · have hb0 : b < 0 := (zI_lt hb' z0).mp hc
        refine lv_iconst (v := (-1)) hx hb d_A_place_25 (by decide) ?_
        exact g_reti hx hb hr hlocks hg ⟨rfl, Or.inr ⟨fun ⟨j, x, q1, q2, q3, q4, q5⟩ => by omega, rfl⟩⟩ d_A_place_26
      · have hb0 : ¬ b < 0 := fun q => hc ((zI_lt hb' z0).mpr q)
        obtain ⟨x, rfl⟩ : ∃ x : Nat, b = x := ⟨b.toNat, by omega⟩
        refine lv_iload_n hx hb d_A_place_12 rfl (lv_at hl 2 rfl) ?_
        refine lv_aload_n hx hb d_A_place_13 rfl (lv_at hl 0 rfl) ?_
        refine k_get hx hb hG lay_A hown hw 0 rfl rfl 0 (by decide) (hG _ fl_A_11) (fun _ h9 => h9) rfl d_A_place_14 ?_
        refine lv_iload_n hx hb d_A_place_17 rfl (lv_at hl 1 rfl) ?_
        refine k_aald hx hb hw 1 2 rfl rfl (i) (rfl) (hi) (by first | decide | omega) (hzt i hi) d_A_place_18 ?_
        refine k_get hx hb hG lay_T hown hw 2 rfl rfl 1 (by decide) (hG _ fl_A_73) (fun _ h9 => h9) rfl d_A_place_19 ?_
        refine lv_icmp_lt (tgt := 27) hx hb d_A_place_22 (by decide) (fun hc => ?_) (fun hc => ?_)
        · have hxr : x < (st i).rows := by
            have := (zI_lt hb' (rI_n (show (st i).rows < 2147483648 by omega))).mp hc
            omega
          refine lv_aload_n hx hb d_A_place_27 rfl (lv_at hl 0 rfl) ?_
          refine k_get hx hb hG lay_A hown hw 0 rfl rfl 0 (by decide) (hG _ fl_A_11) (fun _ h9 => h9) rfl d_A_place_28 ?_
          refine lv_iload_n hx hb d_A_place_31 rfl (lv_at hl 1 rfl) ?_
          refine k_aald hx hb hw 1 2 rfl rfl (i) (rfl) (hi) (by first | decide | omega) (hzt i hi) d_A_place_32 ?_
          refine k_get hx hb hG lay_T hown hw 2 rfl rfl 4 (by decide) (hG _ fl_A_80) (fun _ h9 => h9) rfl d_A_place_33 ?_
          refine lv_iload_n hx hb d_A_place_36 rfl (lv_at hl 2 rfl) ?_
          refine k_iald hx hb hw 3 0 rfl rfl (x) (rfl) (by omega) (by first | decide | omega) d_A_place_37 ?_
          exact g_reti hx hb hr hlocks hg ⟨rfl, Or.inl ⟨i, x, rfl, hi, hred, rfl, hxr, hP hred x hxr⟩⟩ d_A_place_38
        · have hxr : ¬ x < (st i).rows := fun q => hc ((zI_lt hb' (rI_n (show (st i).rows < 2147483648 by omega))).mpr (by omega))
          refine lv_iconst (v := (-1)) hx hb d_A_place_25 (by decide) ?_
          refine g_reti hx hb hr hlocks hg ⟨rfl, Or.inr ⟨fun ⟨j, x', q1, q2, q3, q4, q5⟩ => ?_, rfl⟩⟩ d_A_place_26
          have e1 : i = j := by omega
          have e2 : x = x' := by omega
          subst e1
          subst e2
          exact hxr q5
  · subst er
    refine lv_if_eq (tgt := 25) hx hb d_A_place_5 (by decide) (fun hc => ?_) (fun hc => ?_)
    · refine lv_iconst (v := (-1)) hx hb d_A_place_25 (by decide) ?_
      exact g_reti hx hb hr hlocks hg ⟨rfl, Or.inr ⟨fun ⟨j, x, q1, q2, q3, q4, q5⟩ => hno ⟨j, q1, q2, q3⟩, rfl⟩⟩ d_A_place_26
    · exact absurd rfl hc
set_option maxRecDepth 100000 in
set_option maxHeartbeats 4000000 in
theorem m_A_of (h : CS L own k f xa ta qa pr ln tO tP tN adr zl π st) {a b : Int} (ha : rI a) (hb' : rI b) : Mi l y_A_of (Cond.code y_A_of c_A_of 3 (some .int) :: G) (rmN 2) D cls (tyl k) L f [.ref xa, .int (zI a), .int (zI b)] (fun r f' => f' = f ∧ spOf st a b r) := by
  obtain ⟨zt, hX, hzt, hR, hπ, hC, hsp⟩ := h
  -- METHOD A_of | loc 0=xa 1=a 2=b | ws xa ta t pa | fld xa.tables=ta
  refine mk_met (by decide) (Nat.le_of_ble_eq_true rfl) (fun p e s m below meth c ls S hr hlocks hw hl => ?_)
  have hx := S.1
  have hb := S.2.1
  have hown : s.vm.findClass R_A = some m.cls := S.2.2.2.1
  have hG := S.2.2.2.2
  have hl : lv_has ls 3 [(0, .ref xa), (1, .int (zI a)), (2, .int (zI b))] := hl
  have hg := hw
  refine lv_iload_n hx hb d_A_of_0 rfl (lv_at hl 1 rfl) ?_
  refine g_oi (c_X (np := 1) S (m_A_isTable l D k L f ha) hw ml_A_34 st_A_isTable in_A co_A_isTable (by decide +kernel) rfl ⟨rfl, rfl, by decide, by decide⟩ hl.1 rfl (by simp [Value.category]) d_A_of_1 ⟨Nat.zero_le _, Nat.zero_le _⟩) hw (fun r1 f1 H locs hp hg => ?_)
  rw [hp.1] at hg
  refine l_top hp.2 ?_
  refine lv_if_ne (tgt := 9) hx hb d_A_of_4 (by decide) (fun hc => ?_) (fun hc => ?_)
  · have hn : 0 ≤ a ∧ a < 8 := Classical.byContradiction fun q => hc (if_neg q)
    obtain ⟨i, rfl⟩ : ∃ i : Nat, a = i := ⟨a.toNat, by omega⟩
    have hi : i < 8 := by omega
    obtain ⟨rs, P, Wt, hT, hA, hP⟩ := hC i hi
    have hw : kw D cls (tyl k) L s s.heap f [(xa, cA ta qa pr (tO (π 8))), (ta, cTs k zt), (tO (π i), cT (nI (st i).q) (nI (st i).rows) (nI (st i).cols) (if (st i).red then 1 else 0) (tP (π i)) (tN (π i))), (tP (π i), cP k P)] H locs := ⟨f, hg, xa_kn4 hX hT (by have := hπ.1 i (by omega); omega)⟩
    refine lv_iload_n hx hb d_A_of_9 rfl (lv_at hl 2 rfl) ?_
    by_cases hout : b < 0 ∨ 3 < b
    · refine lv_tableOut (tgt := 88) hx hb d_A_of_10 (by rw [zI_t hb']; omega) (by decide) ?_
      refine lv_iconst (v := (-1)) hx hb d_A_of_88 (by decide) ?_
      exact g_reti hx hb hr hlocks hg ⟨rfl, Or.inl ⟨i, rfl, hi, Or.inr (Or.inr (Or.inr (Or.inr ⟨hout, rfl⟩)))⟩⟩ d_A_of_89
    · have h1 : ¬ (zI b).toInt < 0 := by rw [zI_t hb']; omega
      have h2 : ¬ (3 : Int) < (zI b).toInt := by rw [zI_t hb']; omega
      rcases (show b = 0 ∨ b = 1 ∨ b = 2 ∨ b = 3 by omega) with rfl | rfl | rfl | rfl
      · refine lv_tableIn (off := 30) (tgt := 40) hx hb d_A_of_10 h1 h2 (by rw [zI_t hb']; rfl) (by decide) ?_
        refine lv_aload_n hx hb d_A_of_40 rfl (lv_at hl 0 rfl) ?_
        refine k_get hx hb hG lay_A hown hw 0 rfl rfl 0 (by decide) (hG _ fl_A_11) (fun _ h9 => h9) rfl d_A_of_41 ?_
        refine lv_iload_n hx hb d_A_of_44 rfl (lv_at hl 1 rfl) ?_
        refine k_aald hx hb hw 1 2 rfl rfl (i) (rfl) (hi) (by first | decide | omega) (hzt i hi) d_A_of_45 ?_
        refine k_get hx hb hG lay_T hown hw 2 rfl rfl 0 (by decide) (hG _ fl_A_56) (fun _ h9 => h9) rfl d_A_of_46 ?_
        exact g_reti hx hb hr hlocks hg ⟨rfl, Or.inl ⟨i, rfl, hi, Or.inl ⟨rfl, rfl⟩⟩⟩ d_A_of_49
      · refine lv_tableIn (off := 40) (tgt := 50) hx hb d_A_of_10 h1 h2 (by rw [zI_t hb']; rfl) (by decide) ?_
        refine lv_aload_n hx hb d_A_of_50 rfl (lv_at hl 0 rfl) ?_
        refine k_get hx hb hG lay_A hown hw 0 rfl rfl 0 (by decide) (hG _ fl_A_11) (fun _ h9 => h9) rfl d_A_of_51 ?_
        refine lv_iload_n hx hb d_A_of_54 rfl (lv_at hl 1 rfl) ?_
        refine k_aald hx hb hw 1 2 rfl rfl (i) (rfl) (hi) (by first | decide | omega) (hzt i hi) d_A_of_55 ?_
        refine k_get hx hb hG lay_T hown hw 2 rfl rfl 1 (by decide) (hG _ fl_A_73) (fun _ h9 => h9) rfl d_A_of_56 ?_
        exact g_reti hx hb hr hlocks hg ⟨rfl, Or.inl ⟨i, rfl, hi, Or.inr (Or.inl ⟨rfl, rfl⟩)⟩⟩ d_A_of_59
      · refine lv_tableIn (off := 50) (tgt := 60) hx hb d_A_of_10 h1 h2 (by rw [zI_t hb']; rfl) (by decide) ?_
        refine lv_aload_n hx hb d_A_of_60 rfl (lv_at hl 0 rfl) ?_
        refine k_get hx hb hG lay_A hown hw 0 rfl rfl 0 (by decide) (hG _ fl_A_11) (fun _ h9 => h9) rfl d_A_of_61 ?_
        refine lv_iload_n hx hb d_A_of_64 rfl (lv_at hl 1 rfl) ?_
        refine k_aald hx hb hw 1 2 rfl rfl (i) (rfl) (hi) (by first | decide | omega) (hzt i hi) d_A_of_65 ?_
        refine k_get hx hb hG lay_T hown hw 2 rfl rfl 2 (by decide) (hG _ fl_A_91) (fun _ h9 => h9) rfl d_A_of_66 ?_
        exact g_reti hx hb hr hlocks hg ⟨rfl, Or.inl ⟨i, rfl, hi, Or.inr (Or.inr (Or.inl ⟨rfl, rfl⟩))⟩⟩ d_A_of_69
      · refine lv_tableIn (off := 60) (tgt := 70) hx hb d_A_of_10 h1 h2 (by rw [zI_t hb']; rfl) (by decide) ?_
        refine lv_aload_n hx hb d_A_of_70 rfl (lv_at hl 0 rfl) ?_
        refine k_get hx hb hG lay_A hown hw 0 rfl rfl 0 (by decide) (hG _ fl_A_11) (fun _ h9 => h9) rfl d_A_of_71 ?_
        refine lv_iload_n hx hb d_A_of_74 rfl (lv_at hl 1 rfl) ?_
        refine k_aald hx hb hw 1 2 rfl rfl (i) (rfl) (hi) (by first | decide | omega) (hzt i hi) d_A_of_75 ?_
        refine k_get hx hb hG lay_T hown hw 2 rfl rfl 3 (by decide) (hG _ fl_A_52) (fun _ h9 => h9) rfl d_A_of_76 ?_
        refine lv_if_eq (tgt := 86) hx hb d_A_of_79 (by decide) (fun hc => ?_) (fun hc => ?_)
        · have hr0 : (st i).red ≠ true := fun q => by rw [q] at hc; exact absurd hc (by decide)
          refine lv_iconst (v := 0) hx hb d_A_of_86 (by decide) ?_
          exact g_reti hx hb hr hlocks hg ⟨rfl, Or.inl ⟨i, rfl, hi, Or.inr (Or.inr (Or.inr (Or.inl ⟨rfl, by rw [if_neg hr0]⟩)))⟩⟩ d_A_of_87
        · have hr0 : (st i).red = true := Classical.byContradiction fun q => hc (by rw [if_neg q])
          refine lv_iconst (v := 1) hx hb d_A_of_82 (by decide) ?_
          refine lv_goto (tgt := 87) hx hb d_A_of_83 (by decide) ?_
          exact g_reti hx hb hr hlocks hg ⟨rfl, Or.inl ⟨i, rfl, hi, Or.inr (Or.inr (Or.inr (Or.inl ⟨rfl, by rw [if_pos hr0]⟩)))⟩⟩ d_A_of_87
  · have hn : ¬ (0 ≤ a ∧ a < 8) := fun q => by rw [if_pos q] at hc; exact absurd hc (by decide)
    refine lv_iconst (v := (-1)) hx hb d_A_of_7 (by decide) ?_
    exact g_reti hx hb hr hlocks hg ⟨rfl, Or.inr ⟨hn, rfl⟩⟩ d_A_of_8
end PUB1


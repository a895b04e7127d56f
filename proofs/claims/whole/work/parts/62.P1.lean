-- ===== Residues =====
theorem vup2 {α : Type} (g : Nat → α) (a : Nat) (x y : α) : va_up (va_up g a x) a y = va_up g a y := by
  funext i
  by_cases h : i = a
  · rw [h, va_up_self, va_up_self]
  · rw [va_up_ne _ _ h, va_up_ne _ _ h, va_up_ne _ _ h]
theorem vup0 {α : Type} (g : Nat → α) (a : Nat) : va_up g a (g a) = g := by
  funext i
  by_cases h : i = a
  · rw [h, va_up_self]
  · rw [va_up_ne _ _ h]
theorem nm_sm {w : Nat → Int32} {j : Nat} {v : Int} (h : nm w j v) (h0 : 0 ≤ v) (hb : v.natAbs < B30) : w (j * 6) * w (j * 6 + 1) = zI v := by
  obtain ⟨n, d, h1, h2, h3, h4, h5⟩ := h
  by_cases hn : n = 0
  · rw [hn] at h5
    have : cd B30 0 d = 0 := rfl
    have hv : v = 0 := by omega
    rw [h4, hv, Int.sign_zero, Int.zero_mul]
    show (0 : Int32) * _ = 0
    simp
  · obtain ⟨m9, rfl⟩ : ∃ m9, n = m9 + 1 := ⟨n - 1, by omega⟩
    have h7 := cd_ge (b := B30) (n := m9) (d := d) (h3 (by omega))
    have hm : m9 = 0 := by
      apply Classical.byContradiction
      intro hm
      have : B30 ^ 1 ≤ B30 ^ m9 := Nat.pow_le_pow_right (by decide) (by omega)
      rw [Nat.pow_one] at this
      omega
    subst hm
    have hc : cd B30 (0 + 1) d = d 0 := by show 0 + d 0 * B30 ^ 0 = d 0; rw [Nat.pow_zero]; omega
    have e0 := (h2 0 (by omega)).1
    rw [Nat.add_zero] at e0
    have hv : 0 < v := by
      rw [hc] at h5
      have := h3 (by omega)
      simp at this
      omega
    rw [h4, e0, Int.sign_eq_one_of_pos hv]
    show zI 1 * nI (d 0) = zI v
    rw [← zI_n, zI_mul]
    congr 1
    omega
section INV
variable {p : Program} {l : Launch} {e : Env} {s : State} {m : MethodId} {args : Array Value} {below : List Frame} {meth : Method} {c : Code} {Q : State → Prop} {D : va_G} {k : Nat → ClassId} {L : List Nat} {H0 : Heap}
set_option maxRecDepth 100000 in
set_option maxHeartbeats 4000000 in
theorem w_inv (S : CallFix p m c c_P_inverse 3 s args G R_P) (hr : meth.sig.returnType = some .int) (hlocks : meth.locks = false) {v q c0 : Nat} (hv : v < q) (hq : q ≤ 251) (hc0 : c0 < q) (hc1 : c0 * v % q = 1) {f : Nat → va_E} :
    ∀ (i x : Nat) (H : Heap) (locs : List Loc) (ls : Array Slot), x + i = c0 → 1 ≤ x → lv_has ls 3 [(0, .int (nI v)), (1, .int (nI q)), (2, .int (nI x))] → gw D cls (tyl k) L s s.heap f H locs →
    W p l e (rmN 0) s m args below meth c H locs 0 0 (MQ below (va_Qi (fun r f' => f' = f ∧ ∃ x, r = nI x ∧ 1 ≤ x ∧ x < q ∧ x * v % q = 1) (mst D cls (tyl k) L) (fun q => q ∈ L)) args s 0 0 (fun q => q ∈ L)) (F0 m 2 ls []) := by
  have hx := S.1
  have hb := S.2.1
  have hown : s.vm.findClass R_P = some m.cls := S.2.2.2.1
  have hG := S.2.2.2.2
  intro i
  induction i with
  | zero =>
    intro x H locs ls hx0 h1 hl hg
    have hxc : x = c0 := by omega
    have hrem : nI x * nI v - nI x * nI v / nI q * nI q = nI (x * v % q) := by
      rw [pk_mul]
      have := zI_rem (a := ((x * v : Nat) : Int)) (b := (q : Int)) (rI_n (by have := Nat.mul_le_mul (show x ≤ 251 by omega) (show v ≤ 251 by omega); omega)) (rI_n (by omega)) (by omega)
      rw [zI_n, zI_n] at this
      rw [this, ← zI_n]
      rfl
    -- METHOD P_inverse | loc 0=v 1=q 2=x | ws
    refine lv_iload_n hx hb d_P_inverse_2 rfl (lv_at hl 2 rfl) ?_
    refine lv_iload_n hx hb d_P_inverse_3 rfl (lv_at hl 1 rfl) ?_
    refine lv_icmp_ge (tgt := 24) hx hb d_P_inverse_4 (by decide) (fun hc => ?_) (fun hc => ?_)
    · exact absurd hc (nI_ge (by omega) (by omega))
    · refine lv_iload_n hx hb d_P_inverse_7 rfl (lv_at hl 2 rfl) ?_
      refine lv_iload_n hx hb d_P_inverse_8 rfl (lv_at hl 0 rfl) ?_
      refine lv_imul hx hb d_P_inverse_9 ?_
      refine lv_iload_n hx hb d_P_inverse_10 rfl (lv_at hl 1 rfl) ?_
      refine lv_irem hx hb d_P_inverse_11 (nI_ne0 (by omega) (by omega)) ?_
      refine lv_iconst (v := 1) hx hb d_P_inverse_12 (by decide) ?_
      refine l_top rfl ?_
      refine lv_icmp_ne (tgt := 18) hx hb d_P_inverse_13 (by decide) (fun hc => ?_) (fun hc => ?_)
      · exact absurd (by rw [hrem, hxc, hc1]; rfl) hc
      · -- LOC 0=v 1=q 2=x
        refine lv_iload_n hx hb d_P_inverse_16 rfl (lv_at hl 2 rfl) ?_
        exact g_reti hx hb hr hlocks hg ⟨rfl, x, rfl, h1, by omega, by rw [hxc]; exact hc1⟩ d_P_inverse_17
  | succ i ih =>
    intro x H locs ls hx0 h1 hl hg
    have hrem : nI x * nI v - nI x * nI v / nI q * nI q = nI (x * v % q) := by
      rw [pk_mul]
      have := zI_rem (a := ((x * v : Nat) : Int)) (b := (q : Int)) (rI_n (by have := Nat.mul_le_mul (show x ≤ 251 by omega) (show v ≤ 251 by omega); omega)) (rI_n (by omega)) (by omega)
      rw [zI_n, zI_n] at this
      rw [this, ← zI_n]
      rfl
    -- METHOD P_inverse | loc 0=v 1=q 2=x | ws
    refine lv_iload_n hx hb d_P_inverse_2 rfl (lv_at hl 2 rfl) ?_
    refine lv_iload_n hx hb d_P_inverse_3 rfl (lv_at hl 1 rfl) ?_
    refine lv_icmp_ge (tgt := 24) hx hb d_P_inverse_4 (by decide) (fun hc => ?_) (fun hc => ?_)
    · exact absurd hc (nI_ge (by omega) (by omega))
    · refine lv_iload_n hx hb d_P_inverse_7 rfl (lv_at hl 2 rfl) ?_
      refine lv_iload_n hx hb d_P_inverse_8 rfl (lv_at hl 0 rfl) ?_
      refine lv_imul hx hb d_P_inverse_9 ?_
      refine lv_iload_n hx hb d_P_inverse_10 rfl (lv_at hl 1 rfl) ?_
      refine lv_irem hx hb d_P_inverse_11 (nI_ne0 (by omega) (by omega)) ?_
      refine lv_iconst (v := 1) hx hb d_P_inverse_12 (by decide) ?_
      refine l_top rfl ?_
      refine lv_icmp_ne (tgt := 18) hx hb d_P_inverse_13 (by decide) (fun hc => ?_) (fun hc => ?_)
      · -- LOC 0=v 1=q 2=x
        refine lv_iinc (k := 2) hx hb d_P_inverse_18 hl rfl (ii1 x) (by decide) rfl (fun ls hl => ?_)
        refine lv_goto (tgt := 2) hx hb d_P_inverse_21 (by decide) ?_
        have hl := lv_sub hl [1, 2, 0] rfl
        exact ih (x + 1) H locs ls (by omega) (by omega) hl hg
      · have h9 : x * v % q = 1 := by
          rw [hrem] at hc
          have := (zI_eq (a := ((x * v % q : Nat) : Int)) (b := 1) (rI_n (by have := Nat.mod_lt (x * v) (show 0 < q by omega); omega)) ⟨by decide, by decide⟩).mp hc
          omega
        refine lv_iload_n hx hb d_P_inverse_16 rfl (lv_at hl 2 rfl) ?_
        exact g_reti hx hb hr hlocks hg ⟨rfl, x, rfl, h1, by omega, h9⟩ d_P_inverse_17
end INV
set_option maxRecDepth 100000 in
set_option maxHeartbeats 4000000 in
theorem m_P_inverse (l : Launch) (D : va_G) (k : Nat → ClassId) (L : List Nat) (f : Nat → va_E) (v q c0 : Nat) (hv : v < q) (hq : q ≤ 251) (h1 : 1 ≤ c0) (hc0 : c0 < q) (hc1 : c0 * v % q = 1) : Mi l y_P_inverse (Cond.code y_P_inverse c_P_inverse 3 (some .int) :: G) (rmN 0) D cls (tyl k) L f [.int (nI v), .int (nI q)] (fun r f' => f' = f ∧ ∃ x, r = nI x ∧ 1 ≤ x ∧ x < q ∧ x * v % q = 1) := by
  -- METHOD P_inverse | loc 0=v 1=q | ws
  refine mk_met (by decide) (Nat.le_of_ble_eq_true rfl) (fun p e s m below meth c ls S hr hlocks hw hl => ?_)
  have hx := S.1
  have hb := S.2.1
  have hown : s.vm.findClass R_P = some m.cls := S.2.2.2.1
  have hG := S.2.2.2.2
  have hl : lv_has ls 3 [(0, .int (nI v)), (1, .int (nI q))] := hl
  have hg := hw
  refine lv_iconst (v := 1) hx hb d_P_inverse_0 (by decide) ?_
  refine lv_istore_n hx hb d_P_inverse_1 rfl hl (by decide) rfl (fun ls hl => ?_)
  have hl := lv_sub hl [1, 2, 0] rfl
  exact w_inv S hr hlocks hv hq hc0 hc1 (c0 - 1) 1 _ _ ls (by omega) (by omega) hl hw
/-- a row of residues -/
def rsd (q : Nat) (v : Int) : Prop := 0 ≤ v ∧ v < q
theorem rsd_b {q : Nat} {v : Int} (h : rsd q v) (hq : q ≤ 251) : v.natAbs < B30 := by
  have : B30 = 1073741824 := rfl
  have h1 := h.1
  have h2 := h.2
  omega
section PL
variable {p : Program} {l : Launch} {e : Env} {s : State} {m : MethodId} {args : Array Value} {below : List Frame} {meth : Method} {c : Code} {Q : State → Prop} {D : va_G} {k : Nat → ClassId} {L : List Nat} {H0 : Heap}
variable {own : Nat → Nat} {τ t pa nu : Nat} {rs : Nat → Nat} {rows cols : Nat} {rd : Int32} {P : Nat → Int32} {W0 : Nat → Nat → Int32} {A : Nat → Nat → Int} {q : Nat}
set_option maxRecDepth 100000 in
set_option maxHeartbeats 4000000 in
theorem w_pl (S : CallFix p m c c_P_lead 6 s args G R_P) (hr : meth.sig.returnType = none) (hlocks : meth.locks = false) {pr row col x : Nat} (hrows : rows ≤ 12) (hcols : cols ≤ 12) (hrow : row < rows) (hq0 : 0 < q) (hq : q ≤ 251) (hx : x < q) (hres : ∀ j, j < cols → rsd q (A row j)) {f0 : Nat → va_E} {post : (Nat → va_E) → Prop} (hpost : ∀ (f' : Nat → va_E) (w : Nat → Int32), TB L own k f' τ t pa nu rs (nI q) rows cols rd P (va_up W0 row w) → oe own [τ] f0 f' → (∀ i, i < cols → nm w i ((x * A row i) % q)) → post f') :
    ∀ (i j : Nat) (f : Nat → va_E) (w : Nat → Int32) (H : Heap) (locs : List Loc) (ls : Array Slot), j + i = cols → TB L own k f τ t pa nu rs (nI q) rows cols rd P (va_up W0 row w) → oe own [τ] f0 f → (∀ i, i < cols → nm w i (if i < j then (x * A row i) % q else A row i)) → lv_has ls 6 [(0, .ref pr), (1, .ref t), (2, .int (nI row)), (3, .int (nI col)), (4, .int (nI x)), (5, .int (nI j))] → gw D cls (tyl k) L s s.heap f H locs →
    W p l e (rmN 2) s m args below meth c H locs 0 0 (MQ below (va_Qv post (mst D cls (tyl k) L) (fun q => q ∈ L)) args s 0 0 (fun q => q ∈ L)) (F0 m 18 ls []) := by
  have hxx := hx
  have hx := S.1
  have hb := S.2.1
  have hown : s.vm.findClass R_P = some m.cls := S.2.2.2.1
  have hG := S.2.2.2.2
  intro i
  induction i with
  | zero =>
    intro j f w H locs ls hj hT ho hn hl hg
    have hj : j = cols := by omega
    subst hj
    have hw : kw D cls (tyl k) L s s.heap f [(t, cT (nI q) (nI rows) (nI j) rd pa nu)] H locs := ⟨f, hg, hT.kn1⟩
    -- METHOD P_lead | loc 0=pr 1=t 2=row 3=col 4=x 5=j | ws t
    refine lv_iload hx hb d_P_lead_18 (lv_at hl 5 rfl) ?_
    refine lv_aload_n hx hb d_P_lead_20 rfl (lv_at hl 1 rfl) ?_
    refine k_get hx hb hG lay_T hown hw 0 rfl rfl 2 (by decide) (hG _ fl_P_22) (fun _ h9 => h9) rfl d_P_lead_21 ?_
    refine lv_icmp_ge (tgt := 57) hx hb d_P_lead_24 (by decide) (fun hc => ?_) (fun hc => ?_)
    · exact g_retv hx hb hr hlocks hg (hpost f w hT ho (fun i hi => by have := hn i hi; rw [if_pos hi] at this; exact this)) d_P_lead_57
    · exact absurd (nI_le (Nat.le_refl _) (by omega)) hc
  | succ i ih =>
    intro j f w H locs ls hj hT ho hn hl hg
    have hw : kw D cls (tyl k) L s s.heap f [(t, cT (nI q) (nI rows) (nI cols) rd pa nu)] H locs := ⟨f, hg, hT.kn1⟩
    have hrj := hres j (by omega)
    have hnj := hn j (by omega)
    rw [if_neg (by omega)] at hnj
    -- METHOD P_lead | loc 0=pr 1=t 2=row 3=col 4=x 5=j | ws t
    refine lv_iload hx hb d_P_lead_18 (lv_at hl 5 rfl) ?_
    refine lv_aload_n hx hb d_P_lead_20 rfl (lv_at hl 1 rfl) ?_
    refine k_get hx hb hG lay_T hown hw 0 rfl rfl 2 (by decide) (hG _ fl_P_22) (fun _ h9 => h9) rfl d_P_lead_21 ?_
    refine lv_icmp_ge (tgt := 57) hx hb d_P_lead_24 (by decide) (fun hc => ?_) (fun hc => ?_)
    · exact absurd hc (nI_ge (by omega) (by omega))
    · -- STK
      refine lv_aload_n hx hb d_P_lead_27 rfl (lv_at hl 1 rfl) ?_
      refine lv_iload_n hx hb d_P_lead_28 rfl (lv_at hl 2 rfl) ?_
      refine lv_iload hx hb d_P_lead_29 (lv_at hl 5 rfl) ?_
      refine lv_iload hx hb d_P_lead_31 (lv_at hl 4 rfl) ?_
      refine lv_aload_n hx hb d_P_lead_33 rfl (lv_at hl 1 rfl) ?_
      refine lv_iload_n hx hb d_P_lead_34 rfl (lv_at hl 2 rfl) ?_
      refine lv_iload hx hb d_P_lead_35 (lv_at hl 5 rfl) ?_
      have hw := hg
      refine g_oi (c_V (np := 2) S (tb_small l D hT (row := row) (col := j) (by omega) (by omega)) hw (hT.1.1.1) (hT.2.1) rfl ml_P_7 im_T_small se_T_T_small in_T co_T_small (by decide +kernel) rfl ⟨rfl, rfl, by decide, by decide⟩ hl.1 rfl (by simp [Value.category]) d_P_lead_37 ⟨Nat.zero_le _, Nat.zero_le _⟩) hw (fun r1 f1 H locs hp hg => ?_)
      rw [hp.1] at hg
      have hval : va_up W0 row w row (j * 6) * va_up W0 row w row (j * 6 + 1) = zI (A row j) := by
        rw [va_up_self]
        exact nm_sm hnj hrj.1 (rsd_b hrj hq)
      refine l_top (hp.2.trans hval) ?_
      refine lv_imul hx hb d_P_lead_40 ?_
      have hmul : nI x * zI (A row j) = zI (x * A row j) := by rw [← zI_n, zI_mul]
      refine l_top hmul ?_
      have hw : kw D cls (tyl k) L s s.heap f [(t, cT (nI q) (nI rows) (nI cols) rd pa nu)] H locs := ⟨f, hg, hT.kn1⟩
      refine lv_aload_n hx hb d_P_lead_41 rfl (lv_at hl 1 rfl) ?_
      refine k_get hx hb hG lay_T hown hw 0 rfl rfl 0 (by decide) (hG _ fl_P_13) (fun _ h9 => h9) rfl d_P_lead_42 ?_
      have hw := hg
      have hrj1 := hrj.1
      have hrj2 := hrj.2
      have hbd : 0 ≤ (x : Int) * A row j ∧ (x : Int) * A row j ≤ 251 * 251 := ⟨Int.mul_nonneg (by omega) hrj.1, Int.mul_le_mul (by omega) (by have := hrj.2; omega) hrj.1 (by omega)⟩
      refine g_oi (c_X (np := 2) S (m_floorMod l D k L f (x * A row j) q ⟨by omega, by omega⟩ (by omega) (rI_n (by omega))) hw ml_P_25 st_JM_floorMod in_JM co_JM_floorMod (by decide +kernel) rfl ⟨rfl, rfl, by decide, by decide⟩ hl.1 rfl (by simp [Value.category]) d_P_lead_45 ⟨Nat.zero_le _, Nat.zero_le _⟩) hw (fun r2 f2 H locs hp2 hg => ?_)
      rw [hp2.1] at hg
      refine l_top hp2.2 ?_
      have hw := hg
      have hm1 := Int.emod_nonneg ((x : Int) * A row j) (show (q : Int) ≠ 0 by omega)
      have hm2 := Int.emod_lt_of_pos ((x : Int) * A row j) (show (0 : Int) < q by omega)
      refine g_ov (c_V (np := 3) S (tb_setSmall l D hT (row := row) (col := j) (v := (x * A row j) % q) (by omega) (by omega) (by have : B30 = 1073741824 := rfl; omega)) hw (hT.1.1.1) (hT.2.1) rfl ml_P_30 im_T_setSmall se_T_T_setSmall in_T co_T_setSmall (by decide +kernel) rfl ⟨rfl, rfl, by decide, by decide⟩ hl.1 rfl (by simp [Value.category]) d_P_lead_48 ⟨Nat.zero_le _, Nat.zero_le _⟩) hw (fun f3 H locs hp3 hg => ?_)
      obtain ⟨w1, hT1, ho1, hn1, hn2⟩ := hp3
      rw [vup2] at hT1
      refine lv_iinc (k := 5) hx hb d_P_lead_51 hl rfl (ii1 j) (by decide) rfl (fun ls hl => ?_)
      refine lv_goto (tgt := 18) hx hb d_P_lead_54 (by decide) ?_
      have hl := lv_sub hl [1, 2, 3, 4, 5, 0] rfl
      refine ih (j + 1) f3 w1 H locs ls (by omega) hT1 (ho.trans ho1) (fun i hi => ?_) hl hg
      by_cases e : i = j
      · rw [e, if_pos (by omega)]; exact hn1
      · have := hn2 i _ e (by rw [va_up_self]; exact hn i hi)
        by_cases e2 : i < j
        · rw [if_pos e2] at this; rw [if_pos (by omega)]; exact this
        · rw [if_neg e2] at this; rw [if_neg (by omega)]; exact this
set_option maxRecDepth 100000 in
set_option maxHeartbeats 4000000 in
theorem w_pc (S : CallFix p m c c_P_clear 8 s args G R_P) (hr : meth.sig.returnType = none) (hlocks : meth.locks = false) {pr row led col x : Nat} (hrows : rows ≤ 12) (hcols : cols ≤ 12) (hrow : row < rows) (hled : led < rows) (hne : led ≠ row) (hq0 : 0 < q) (hq : q ≤ 251) (hx : x < q) (hres : ∀ j, j < cols → rsd q (A row j) ∧ rsd q (A led j)) (hlv : ∀ j, j < cols → nm (W0 led) j (A led j)) {f0 : Nat → va_E} {post : (Nat → va_E) → Prop} (hpost : ∀ (f' : Nat → va_E) (w : Nat → Int32), TB L own k f' τ t pa nu rs (nI q) rows cols rd P (va_up W0 row w) → oe own [τ] f0 f' → (∀ i, i < cols → nm w i ((A row i - x * A led i) % q)) → post f') :
    ∀ (i j : Nat) (f : Nat → va_E) (w : Nat → Int32) (H : Heap) (locs : List Loc) (ls : Array Slot), j + i = cols → TB L own k f τ t pa nu rs (nI q) rows cols rd P (va_up W0 row w) → oe own [τ] f0 f → (∀ i, i < cols → nm w i (if i < j then (A row i - x * A led i) % q else A row i)) → lv_has ls 8 [(0, .ref pr), (1, .ref t), (2, .int (nI row)), (3, .int (nI led)), (4, .int (nI col)), (5, .int (nI x)), (6, .int (nI j))] → gw D cls (tyl k) L s s.heap f H locs →
    W p l e (rmN 2) s m args below meth c H locs 0 0 (MQ below (va_Qv post (mst D cls (tyl k) L) (fun q => q ∈ L)) args s 0 0 (fun q => q ∈ L)) (F0 m 12 ls []) := by
  have hxx := hx
  have hx := S.1
  have hb := S.2.1
  have hown : s.vm.findClass R_P = some m.cls := S.2.2.2.1
  have hG := S.2.2.2.2
  intro i
  induction i with
  | zero =>
    intro j f w H locs ls hj hT ho hn hl hg
    have hj : j = cols := by omega
    subst hj
    have hw : kw D cls (tyl k) L s s.heap f [(t, cT (nI q) (nI rows) (nI j) rd pa nu)] H locs := ⟨f, hg, hT.kn1⟩
    -- METHOD P_clear | loc 0=pr 1=t 2=row 3=led 4=col 5=x 6=j | ws t
    refine lv_iload hx hb d_P_clear_12 (lv_at hl 6 rfl) ?_
    refine lv_aload_n hx hb d_P_clear_14 rfl (lv_at hl 1 rfl) ?_
    refine k_get hx hb hG lay_T hown hw 0 rfl rfl 2 (by decide) (hG _ fl_P_22) (fun _ h9 => h9) rfl d_P_clear_15 ?_
    refine lv_icmp_ge (tgt := 63) hx hb d_P_clear_18 (by decide) (fun hc => ?_) (fun hc => ?_)
    · exact g_retv hx hb hr hlocks hg (hpost f w hT ho (fun i hi => by have := hn i hi; rw [if_pos hi] at this; exact this)) d_P_clear_63
    · exact absurd (nI_le (Nat.le_refl _) (by omega)) hc
  | succ i ih =>
    intro j f w H locs ls hj hT ho hn hl hg
    have hw : kw D cls (tyl k) L s s.heap f [(t, cT (nI q) (nI rows) (nI cols) rd pa nu)] H locs := ⟨f, hg, hT.kn1⟩
    obtain ⟨hrj, hrl⟩ := hres j (by omega)
    have hnj := hn j (by omega)
    rw [if_neg (by omega)] at hnj
    -- METHOD P_clear | loc 0=pr 1=t 2=row 3=led 4=col 5=x 6=j | ws t
    refine lv_iload hx hb d_P_clear_12 (lv_at hl 6 rfl) ?_
    refine lv_aload_n hx hb d_P_clear_14 rfl (lv_at hl 1 rfl) ?_
    refine k_get hx hb hG lay_T hown hw 0 rfl rfl 2 (by decide) (hG _ fl_P_22) (fun _ h9 => h9) rfl d_P_clear_15 ?_
    refine lv_icmp_ge (tgt := 63) hx hb d_P_clear_18 (by decide) (fun hc => ?_) (fun hc => ?_)
    · exact absurd hc (nI_ge (by omega) (by omega))
    · -- STK
      refine lv_aload_n hx hb d_P_clear_21 rfl (lv_at hl 1 rfl) ?_
      refine lv_iload_n hx hb d_P_clear_22 rfl (lv_at hl 2 rfl) ?_
      refine lv_iload hx hb d_P_clear_23 (lv_at hl 6 rfl) ?_
      have hw := hg
      refine g_oi (c_V (np := 2) S (tb_small l D hT (row := row) (col := j) (by omega) (by omega)) hw (hT.1.1.1) (hT.2.1) rfl ml_P_7 im_T_small se_T_T_small in_T co_T_small (by decide +kernel) rfl ⟨rfl, rfl, by decide, by decide⟩ hl.1 rfl (by simp [Value.category]) d_P_clear_25 ⟨Nat.zero_le _, Nat.zero_le _⟩) hw (fun r1 f1 H locs hp hg => ?_)
      rw [hp.1] at hg
      have hval : va_up W0 row w row (j * 6) * va_up W0 row w row (j * 6 + 1) = zI (A row j) := by
        rw [va_up_self]
        exact nm_sm hnj hrj.1 (rsd_b hrj hq)
      refine l_top (hp.2.trans hval) ?_
      refine lv_iload hx hb d_P_clear_28 (lv_at hl 5 rfl) ?_
      refine lv_aload_n hx hb d_P_clear_30 rfl (lv_at hl 1 rfl) ?_
      refine lv_iload_n hx hb d_P_clear_31 rfl (lv_at hl 3 rfl) ?_
      refine lv_iload hx hb d_P_clear_32 (lv_at hl 6 rfl) ?_
      have hw := hg
      refine g_oi (c_V (np := 2) S (tb_small l D hT (row := led) (col := j) (by omega) (by omega)) hw (hT.1.1.1) (hT.2.1) rfl ml_P_7 im_T_small se_T_T_small in_T co_T_small (by decide +kernel) rfl ⟨rfl, rfl, by decide, by decide⟩ hl.1 rfl (by simp [Value.category]) d_P_clear_34 ⟨Nat.zero_le _, Nat.zero_le _⟩) hw (fun r2 f2 H locs hp2 hg => ?_)
      rw [hp2.1] at hg
      have hval2 : va_up W0 row w led (j * 6) * va_up W0 row w led (j * 6 + 1) = zI (A led j) := by
        rw [va_up_ne _ _ hne]
        exact nm_sm (hlv j (by omega)) hrl.1 (rsd_b hrl hq)
      refine l_top (hp2.2.trans hval2) ?_
      refine lv_imul hx hb d_P_clear_37 ?_
      refine lv_isub hx hb d_P_clear_38 ?_
      have hmul : zI (A row j) - nI x * zI (A led j) = zI (A row j - x * A led j) := by rw [← zI_n, zI_mul, zI_sub]
      refine l_top hmul ?_
      have hw : kw D cls (tyl k) L s s.heap f [(t, cT (nI q) (nI rows) (nI cols) rd pa nu)] H locs := ⟨f, hg, hT.kn1⟩
      refine lv_istore hx hb d_P_clear_39 hl (by decide) rfl (fun ls hl => ?_)
      refine lv_aload_n hx hb d_P_clear_41 rfl (lv_at hl 2 rfl) ?_
      refine lv_iload_n hx hb d_P_clear_42 rfl (lv_at hl 3 rfl) ?_
      refine lv_iload hx hb d_P_clear_43 (lv_at hl 7 rfl) ?_
      refine lv_iload hx hb d_P_clear_45 (lv_at hl 0 rfl) ?_
      refine lv_aload_n hx hb d_P_clear_47 rfl (lv_at hl 2 rfl) ?_
      refine k_get hx hb hG lay_T hown hw 0 rfl rfl 0 (by decide) (hG _ fl_P_13) (fun _ h9 => h9) rfl d_P_clear_48 ?_
      have hw := hg
      have hrj1 := hrj.1
      have hrj2 := hrj.2
      have hrl1 := hrl.1
      have hrl2 := hrl.2
      have hbd : 0 ≤ (x : Int) * A led j ∧ (x : Int) * A led j ≤ 251 * 251 := ⟨Int.mul_nonneg (by omega) hrl.1, Int.mul_le_mul (by omega) (by have := hrl.2; omega) hrl.1 (by omega)⟩
      refine g_oi (c_X (np := 2) S (m_floorMod l D k L f (A row j - x * A led j) q ⟨by have := hrj.1; omega, by have := hrj.2; omega⟩ (by omega) (rI_n (by omega))) hw ml_P_25 st_JM_floorMod in_JM co_JM_floorMod (by decide +kernel) rfl ⟨rfl, rfl, by decide, by decide⟩ hl.1 rfl (by simp [Value.category]) d_P_clear_51 ⟨Nat.zero_le _, Nat.zero_le _⟩) hw (fun r3 f3 H locs hp3 hg => ?_)
      rw [hp3.1] at hg
      refine l_top hp3.2 ?_
      have hw := hg
      have hm1 := Int.emod_nonneg (A row j - (x : Int) * A led j) (show (q : Int) ≠ 0 by omega)
      have hm2 := Int.emod_lt_of_pos (A row j - (x : Int) * A led j) (show (0 : Int) < q by omega)
      refine g_ov (c_V (np := 3) S (tb_setSmall l D hT (row := row) (col := j) (v := (A row j - x * A led j) % q) (by omega) (by omega) (by have : B30 = 1073741824 := rfl; omega)) hw (hT.1.1.1) (hT.2.1) rfl ml_P_30 im_T_setSmall se_T_T_setSmall in_T co_T_setSmall (by decide +kernel) rfl ⟨rfl, rfl, by decide, by decide⟩ hl.1 rfl (by simp [Value.category]) d_P_clear_54 ⟨Nat.zero_le _, Nat.zero_le _⟩) hw (fun f4 H locs hp4 hg => ?_)
      obtain ⟨w1, hT1, ho1, hn1, hn2⟩ := hp4
      rw [vup2] at hT1
      refine lv_iinc (k := 7) hx hb d_P_clear_57 hl rfl (ii1 j) (by decide) rfl (fun ls hl => ?_)
      refine lv_goto (tgt := 12) hx hb d_P_clear_60 (by decide) ?_
      have hl := lv_sub hl [2, 3, 4, 5, 6, 7, 0] rfl
      refine ih (j + 1) f4 w1 H locs ls (by omega) hT1 (ho.trans ho1) (fun i hi => ?_) hl hg
      by_cases e : i = j
      · rw [e, if_pos (by omega)]; exact hn1
      · have := hn2 i _ e (by rw [va_up_self]; exact hn i hi)
        by_cases e2 : i < j
        · rw [if_pos e2] at this; rw [if_pos (by omega)]; exact this
        · rw [if_neg e2] at this; rw [if_neg (by omega)]; exact this
end PL
section PM
variable (l : Launch) (D : va_G) {L : List Nat} {own : Nat → Nat} {k : Nat → ClassId} {f : Nat → va_E} {τ t pa nu : Nat} {rs : Nat → Nat} {rows cols : Nat} {rd : Int32} {P : Nat → Int32} {W : Nat → Nat → Int32} {A : Nat → Nat → Int} {q : Nat}
set_option maxRecDepth 100000 in
set_option maxHeartbeats 4000000 in
theorem tb_leadP (pr : Nat) (h : TB L own k f τ t pa nu rs (nI q) rows cols rd P W) (hrows : rows ≤ 12) (hcols : cols ≤ 12) {row col : Nat} (hrow : row < rows) (hcol : col < cols) (hA : mt W rows cols A) (hq : q ≤ 251) (hres : ∀ i j, i < rows → j < cols → rsd q (A i j)) {c0 : Nat} (h1 : 1 ≤ c0) (hc0 : c0 < q) (hc1 : ((c0 : Int) * A row col) % q = 1) : Mv l y_P_lead (Cond.code y_P_lead c_P_lead 6 none :: G) (rmN 2) D cls (tyl k) L f [.ref pr, .ref t, .int (nI row), .int (nI col)] (fun f' => ∃ (w1 : Nat → Int32) (x : Nat), 1 ≤ x ∧ x < q ∧ ((x : Int) * A row col) % q = 1 ∧ TB L own k f' τ t pa nu rs (nI q) rows cols rd P (va_up W row w1) ∧ oe own [τ] f f' ∧ mt (va_up W row w1) rows cols (va_up A row (fun j => (x * A row j) % q))) := by
  have hra := hres row col hrow hcol
  -- METHOD P_lead | loc 0=pr 1=t 2=row 3=col | ws t
  refine mk_met (by decide) (Nat.le_of_ble_eq_true rfl) (fun p e s m below meth c ls S hr hlocks hw hl => ?_)
  have hx := S.1
  have hb := S.2.1
  have hown : s.vm.findClass R_P = some m.cls := S.2.2.2.1
  have hG := S.2.2.2.2
  have hl : lv_has ls 6 [(0, .ref pr), (1, .ref t), (2, .int (nI row)), (3, .int (nI col))] := hl
  have hg := hw
  refine lv_aload_n hx hb d_P_lead_0 rfl (lv_at hl 1 rfl) ?_
  refine lv_iload_n hx hb d_P_lead_1 rfl (lv_at hl 2 rfl) ?_
  refine lv_iload_n hx hb d_P_lead_2 rfl (lv_at hl 3 rfl) ?_
  refine g_oi (c_V (np := 2) S (tb_small l D h (row := row) (col := col) (by omega) (by omega)) hw (h.1.1.1) (h.2.1) rfl ml_P_7 im_T_small se_T_T_small in_T co_T_small (by decide +kernel) rfl ⟨rfl, rfl, by decide, by decide⟩ hl.1 rfl (by simp [Value.category]) d_P_lead_3 ⟨Nat.zero_le _, Nat.zero_le _⟩) hw (fun r1 f1 H locs hp hg => ?_)
  rw [hp.1] at hg
  have hval : W row (col * 6) * W row (col * 6 + 1) = nI (A row col).toNat := by
    rw [nm_sm (hA row hrow col hcol) hra.1 (rsd_b hra hq), ← zI_n]
    congr 1
    have := hra.1
    omega
  refine l_top (hp.2.trans hval) ?_
  have hw : kw D cls (tyl k) L s s.heap f [(t, cT (nI q) (nI rows) (nI cols) rd pa nu)] H locs := ⟨f, hg, h.kn1⟩
  refine lv_aload_n hx hb d_P_lead_6 rfl (lv_at hl 1 rfl) ?_
  refine k_get hx hb hG lay_T hown hw 0 rfl rfl 0 (by decide) (hG _ fl_P_13) (fun _ h9 => h9) rfl d_P_lead_7 ?_
  have hw := hg
  have hcv : ((A row col).toNat : Int) = A row col := Int.toNat_of_nonneg hra.1
  refine g_oi (c_X (np := 2) S (m_P_inverse l D k L f (A row col).toNat q c0 (by have := hra.2; omega) hq h1 hc0 (by rw [← hcv] at hc1; exact_mod_cast hc1)) hw ml_P_17 st_P_inverse in_P co_P_inverse (by decide +kernel) rfl ⟨rfl, rfl, by decide, by decide⟩ hl.1 rfl (by simp [Value.category]) d_P_lead_10 ⟨Nat.zero_le _, Nat.zero_le _⟩) hw (fun r2 f2 H locs hp2 hg => ?_)
  rw [hp2.1] at hg
  obtain ⟨x, er, hx1, hx2, hx3⟩ := hp2.2
  refine l_top er ?_
  refine lv_istore hx hb d_P_lead_13 hl (by decide) rfl (fun ls hl => ?_)
  refine lv_iconst (v := 0) hx hb d_P_lead_15 (by decide) ?_
  refine lv_istore hx hb d_P_lead_16 hl (by decide) rfl (fun ls hl => ?_)
  have hl := lv_sub hl [2, 3, 4, 5, 1, 0] rfl
  have hx3' : ((x : Int) * A row col) % q = 1 := by rw [← hcv]; exact_mod_cast hx3
  refine w_pl (W0 := W) (A := A) (own := own) (τ := τ) (pa := pa) (nu := nu) (rs := rs) (rd := rd) (P := P) (f0 := f) (cols := cols) S hr hlocks (pr := pr) (col := col) hrows hcols hrow (by omega) hq hx2 (fun j hj => hres row j hrow hj) (fun f' w a1 a2 a3 => ⟨w, x, hx1, hx2, hx3', a1, a2, mt_row hA a3⟩) cols 0 f (W row) H locs ls (by omega) (by rw [vup0]; exact h) oe.rf (fun i hi => by rw [if_neg (by omega)]; exact hA row hrow i hi) hl hg
set_option maxRecDepth 100000 in
set_option maxHeartbeats 4000000 in
theorem tb_clearP (pr : Nat) (h : TB L own k f τ t pa nu rs (nI q) rows cols rd P W) (hrows : rows ≤ 12) (hcols : cols ≤ 12) {row led col : Nat} (hrow : row < rows) (hled : led < rows) (hne : led ≠ row) (hcol : col < cols) (hA : mt W rows cols A) (hq0 : 0 < q) (hq : q ≤ 251) (hres : ∀ i j, i < rows → j < cols → rsd q (A i j)) : Mv l y_P_clear (Cond.code y_P_clear c_P_clear 8 none :: G) (rmN 2) D cls (tyl k) L f [.ref pr, .ref t, .int (nI row), .int (nI led), .int (nI col)] (fun f' => ∃ (w1 : Nat → Int32), TB L own k f' τ t pa nu rs (nI q) rows cols rd P (va_up W row w1) ∧ oe own [τ] f f' ∧ mt (va_up W row w1) rows cols (va_up A row (fun j => (A row j - A row col * A led j) % q))) := by
  have hra := hres row col hrow hcol
  -- METHOD P_clear | loc 0=pr 1=t 2=row 3=led 4=col | ws t
  refine mk_met (by decide) (Nat.le_of_ble_eq_true rfl) (fun p e s m below meth c ls S hr hlocks hw hl => ?_)
  have hx := S.1
  have hb := S.2.1
  have hown : s.vm.findClass R_P = some m.cls := S.2.2.2.1
  have hG := S.2.2.2.2
  have hl : lv_has ls 8 [(0, .ref pr), (1, .ref t), (2, .int (nI row)), (3, .int (nI led)), (4, .int (nI col))] := hl
  have hg := hw
  refine lv_aload_n hx hb d_P_clear_0 rfl (lv_at hl 1 rfl) ?_
  refine lv_iload_n hx hb d_P_clear_1 rfl (lv_at hl 2 rfl) ?_
  refine lv_iload hx hb d_P_clear_2 (lv_at hl 4 rfl) ?_
  refine g_oi (c_V (np := 2) S (tb_small l D h (row := row) (col := col) (by omega) (by omega)) hw (h.1.1.1) (h.2.1) rfl ml_P_7 im_T_small se_T_T_small in_T co_T_small (by decide +kernel) rfl ⟨rfl, rfl, by decide, by decide⟩ hl.1 rfl (by simp [Value.category]) d_P_clear_4 ⟨Nat.zero_le _, Nat.zero_le _⟩) hw (fun r1 f1 H locs hp hg => ?_)
  rw [hp.1] at hg
  have hcv : ((A row col).toNat : Int) = A row col := Int.toNat_of_nonneg hra.1
  have hval : W row (col * 6) * W row (col * 6 + 1) = nI (A row col).toNat := by
    rw [nm_sm (hA row hrow col hcol) hra.1 (rsd_b hra hq), ← zI_n, hcv]
  refine l_top (hp.2.trans hval) ?_
  refine lv_istore hx hb d_P_clear_7 hl (by decide) rfl (fun ls hl => ?_)
  refine lv_iconst (v := 0) hx hb d_P_clear_9 (by decide) ?_
  refine lv_istore hx hb d_P_clear_10 hl (by decide) rfl (fun ls hl => ?_)
  have hl := lv_sub hl [2, 3, 4, 5, 6, 1, 0] rfl
  refine w_pc (W0 := W) (A := A) (own := own) (τ := τ) (pa := pa) (nu := nu) (rs := rs) (rd := rd) (P := P) (f0 := f) (cols := cols) S hr hlocks (pr := pr) (col := col) (x := (A row col).toNat) hrows hcols hrow hled hne hq0 hq (by have h1 := hra.1; have h2 := hra.2; omega) (fun j hj => ⟨hres row j hrow hj, hres led j hled hj⟩) (hA led hled) (fun f' w a1 a2 a3 => ⟨w, a1, a2, mt_row hA (fun j hj => by have := a3 j hj; rw [hcv] at this; exact this)⟩) cols 0 f (W row) H locs ls (by omega) (by rw [vup0]; exact h) oe.rf (fun i hi => by rw [if_neg (by omega)]; exact hA row hrow i hi) hl hg
end PM


-- ===== Num: isAtMost, often =====
/-- what is borrowed, so that a digit is not below 0 -/
theorem borrow {v : Int} {bo' : Nat} (h : (0 ≤ v ∧ v < 65536 ∧ bo' = 0) ∨ (v < 0 ∧ (bo' : Int) = (65535 - v) / 65536)) : 0 ≤ v + 65536 * bo' ∧ v + 65536 * bo' < 65536 := by
  rcases h with ⟨h1, h2, h3⟩ | ⟨h1, h2⟩
  · subst h3; omega
  · omega
section NAM
variable {p : Program} {l : Launch} {e : Env} {R : Room} {s : State} {m : MethodId} {args : Array Value} {below : List Frame} {meth : Method} {c : Code} {cells slots : Nat} {Q : State → Prop} {D : va_G} {k : Nat → ClassId} {L : List Nat} {f0 : Nat → va_E} {H0 : Heap}
variable {b bl nb o ol no : Nat} {mb mo : Bool} {db do1 : Nat → Nat} {q : Nat}
/-- the two ways to the next borrow, at the same places of two methods -/
theorem zL_bor {v : Int} (h1 : -4294967296 * 2 ≤ v) (h2 : v < 0) : (65535 : Int64) - zL v = lN (65535 - v).toNat ∧ (65535 - v).toNat < 2 ^ 63 := by
  refine ⟨?_, by omega⟩
  rw [show (65535 : Int64) = zL 65535 from by decide +kernel, zL_sub, ← zL_n]
  congr 1
  omega
set_option maxRecDepth 100000 in
set_option maxHeartbeats 4000000 in
theorem w_nam (S : CallFix p m c c_N_isAtMost 8 s args G R_N) (hno : no ≤ 160) (hnb : nb ≤ 160) (hdo : ∀ i, i < 160 → do1 i < D16) (hdb : ∀ i, i < 160 → db i < D16) (hq : q ≤ 65535) {H : Heap} {locs : List Loc} (hw : kw D cls (tyl k) L s H0 f0 [(b, cN bl nb mb), (bl, cE k db), (o, cN ol no mo), (ol, cE k do1)] H locs)
    (kx : ∀ (bo Rr : Nat) (ls : Array Slot), Rr < D16 ^ no → bo ≤ 65536 → (cd D16 no do1 : Int) - (q * cd D16 no (dz nb db) : Nat) = (Rr : Int) - bo * (D16 : Int) ^ no → lv_has ls 8 [(3, .long (lN bo))] → W p l e R s m args below meth c H locs cells slots Q (F0 m 79 ls [])) :
    ∀ (i j bo Rr : Nat) (ls : Array Slot), j + i = no → Rr < D16 ^ j → bo ≤ 65536 → (cd D16 j do1 : Int) - (q * cd D16 j (dz nb db) : Nat) = (Rr : Int) - bo * (D16 : Int) ^ j → lv_has ls 8 [(0, .ref b), (1, .int (nI q)), (2, .ref o), (3, .long (lN bo)), (5, .int (nI j))] →
    W p l e R s m args below meth c H locs cells slots Q (F0 m 5 ls []) := by
  have hx := S.1
  have hb := S.2.1
  have hown : s.vm.findClass R_N = some m.cls := S.2.2.2.1
  have hG := S.2.2.2.2
  intro i
  induction i with
  | zero =>
    intro j bo Rr ls hj hR hbo he hl
    have hj : j = no := by omega
    subst hj
    -- METHOD N_isAtMost | loc 0=b 1=q 2=o 3=bo 5=j | ws b bl o ol | fld b.d=bl o.d=ol
    refine lv_iload hx hb d_N_isAtMost_5 (lv_at hl 4 rfl) ?_
    refine lv_aload_n hx hb d_N_isAtMost_7 rfl (lv_at hl 2 rfl) ?_
    refine k_get hx hb hG lay_N hown hw 2 rfl rfl 1 (by decide) (hG _ fl_N_13) (fun _ h9 => h9) rfl d_N_isAtMost_8 ?_
    refine lv_icmp_ge (tgt := 79) hx hb d_N_isAtMost_11 (by decide) (fun hc => ?_) (fun hc => ?_)
    · exact kx bo Rr ls hR hbo he (lv_sub hl [3] rfl)
    · exact absurd (nI_le (by omega) (by omega)) hc
  | succ i ih =>
    intro j bo Rr ls hj hR hbo he hl
    have hzb' : dz nb db j < 65536 := dz_lt (n := nb) (d := db) (fun i hi => hdb i (by omega)) j
    have hzo' : do1 j < 65536 := hdo j (by omega)
    have hY : dz nb db j * q ≤ 65535 * 65535 := Nat.mul_le_mul (by omega) hq
    have s72 : ∀ (bo' : Nat) (ls : Array Slot), bo' ≤ 65536 → 0 ≤ (do1 j : Int) - bo - (dz nb db j * q : Nat) + 65536 * bo' → (do1 j : Int) - bo - (dz nb db j * q : Nat) + 65536 * bo' < 65536 → lv_has ls 8 [(0, .ref b), (1, .int (nI q)), (2, .ref o), (3, .long (lN bo)), (5, .int (nI j))] → W p l e R s m args below meth c H locs cells slots Q (F0 m 72 ls [.long (lN bo')]) := by
      intro bo' ls hb1 h1 h2 hl
      -- METHOD N_isAtMost | loc 0=b 1=q 2=o 3=bo 5=j | ws b bl o ol | fld b.d=bl o.d=ol
      refine lv_lstore_n hx hb d_N_isAtMost_72 rfl hl (by decide) rfl (fun ls hl => ?_)
      refine lv_iinc (k := 4) hx hb d_N_isAtMost_73 hl rfl (ii1 j) (by decide) rfl (fun ls hl => ?_)
      refine lv_goto (tgt := 5) hx hb d_N_isAtMost_76 (by decide) ?_
      have hl := lv_sub hl [2, 3, 4, 1, 0] rfl
      obtain ⟨v, hv⟩ : ∃ v : Nat, (v : Int) = (do1 j : Int) - bo - (dz nb db j * q : Nat) + 65536 * bo' := ⟨((do1 j : Int) - bo - (dz nb db j * q : Nat) + 65536 * bo').toNat, by omega⟩
      have hv2 : v ≤ 65535 := by omega
      refine ih (j + 1) bo' (Rr + v * D16 ^ j) ls (by omega) ?_ hb1 ?_ hl
      · have := Nat.mul_le_mul_right (D16 ^ j) hv2
        rw [Nat.pow_succ]
        have e : D16 ^ j * D16 = D16 ^ j * 65536 := rfl
        rw [e]; omega
      · have e1 : (cd D16 (j + 1) do1 : Int) = (cd D16 j do1 : Int) + (do1 j : Int) * (D16 : Int) ^ j := by
          show ((cd D16 j do1 + do1 j * D16 ^ j : Nat) : Int) = _
          rw [Int.natCast_add, Int.natCast_mul, Int.natCast_pow]
        have e2 : ((q * cd D16 (j + 1) (dz nb db) : Nat) : Int) = ((q * cd D16 j (dz nb db) : Nat) : Int) + ((dz nb db j * q : Nat) : Int) * (D16 : Int) ^ j := by
          show ((q * (cd D16 j (dz nb db) + dz nb db j * D16 ^ j) : Nat) : Int) = _
          rw [Nat.mul_add, Int.natCast_add, ← Int.natCast_pow, ← Int.natCast_mul, Nat.mul_comm (dz nb db j) q, Nat.mul_assoc]
        have e3 : (D16 : Int) ^ (j + 1) = (D16 : Int) ^ j * 65536 := Int.pow_succ ..
        have e4 : ((Rr + v * D16 ^ j : Nat) : Int) = (Rr : Int) + (v : Int) * (D16 : Int) ^ j := by rw [Int.natCast_add, Int.natCast_mul, Int.natCast_pow]
        rw [e1, e2, e3, e4, hv]
        generalize ((dz nb db j * q : Nat) : Int) = Y at *
        generalize (D16 : Int) ^ j = P at *
        generalize ((q * cd D16 j (dz nb db) : Nat) : Int) = Z at *
        have : (cd D16 j do1 : Int) = (Rr : Int) - bo * P + Z := by omega
        rw [this]
        grind
    have s48 : ∀ (ls : Array Slot), lv_has ls 8 [(0, .ref b), (1, .int (nI q)), (2, .ref o), (3, .long (lN bo)), (5, .int (nI j))] → W p l e R s m args below meth c H locs cells slots Q (F0 m 48 ls [.long (lN (dz nb db j * q)), .long (zL ((do1 j : Int) - bo))]) := by
      intro ls hl
      have rv : rL ((do1 j : Int) - bo - (dz nb db j * q : Nat)) := ⟨by omega, by omega⟩
      -- METHOD N_isAtMost | loc 0=b 1=q 2=o 3=bo 5=j | ws b bl o ol | fld b.d=bl o.d=ol
      refine lv_lsub hx hb d_N_isAtMost_48 ?_
      refine l_topl (show zL ((do1 j : Int) - bo) - lN (dz nb db j * q) = zL ((do1 j : Int) - bo - (dz nb db j * q : Nat)) from zL_sub ((do1 j : Int) - bo) ((dz nb db j * q : Nat) : Int)) ?_
      refine lv_lstore hx hb d_N_isAtMost_49 hl (by decide) rfl (fun ls hl => ?_)
      refine lv_lload hx hb d_N_isAtMost_51 (lv_at hl 0 rfl) ?_
      refine lv_lconst (v := 0) hx hb d_N_isAtMost_53 (by decide) ?_
      refine W.lcmp hx hb d_N_isAtMost_54 ?_
      refine lv_if_ge (tgt := 71) hx hb d_N_isAtMost_55 (by decide) (fun hc => ?_) (fun hc => ?_)
      · have h0 : 0 ≤ (do1 j : Int) - bo - (dz nb db j * q : Nat) := (zL_le (a := 0) ⟨by decide, by decide⟩ rv).mp ((lg_cmp_ge _ _).mp hc)
        refine lv_lconst (v := 0) hx hb d_N_isAtMost_71 (by decide) ?_
        refine s72 0 ls (by omega) (by omega) (by omega) (lv_sub hl [1, 2, 3, 4, 5] rfl)
      · have h0 : ¬ 0 ≤ (do1 j : Int) - bo - (dz nb db j * q : Nat) := fun z => hc ((lg_cmp_ge _ _).mpr ((zL_le (a := 0) ⟨by decide, by decide⟩ rv).mpr z))
        obtain ⟨g1, g2⟩ := zL_bor (v := (do1 j : Int) - bo - (dz nb db j * q : Nat)) (by omega) (by omega)
        refine lv_ldc2 hx hb hown (hG _ ct_N_43) d_N_isAtMost_58 ?_
        refine lv_lload hx hb d_N_isAtMost_61 (lv_at hl 0 rfl) ?_
        refine lv_lsub hx hb d_N_isAtMost_63 ?_
        refine l_topl g1 ?_
        refine lv_ldc2 hx hb hown (hG _ ct_N_24) d_N_isAtMost_64 ?_
        refine lv_ldiv hx hb d_N_isAtMost_67 (by decide) ?_
        refine l_topl (show lN (65535 - ((do1 j : Int) - bo - (dz nb db j * q : Nat))).toNat / 65536 = lN ((65535 - ((do1 j : Int) - bo - (dz nb db j * q : Nat))).toNat / 65536) from pk_lDiv (b := 65536) g2 (by omega) (by omega)) ?_
        refine lv_goto (tgt := 72) hx hb d_N_isAtMost_68 (by decide) ?_
        have hbb := borrow (v := (do1 j : Int) - bo - (dz nb db j * q : Nat)) (bo' := (65535 - ((do1 j : Int) - bo - (dz nb db j * q : Nat))).toNat / 65536) (Or.inr ⟨by omega, by omega⟩)
        refine s72 _ ls (by omega) hbb.1 hbb.2 (lv_sub hl [1, 2, 3, 4, 5] rfl)
    -- METHOD N_isAtMost | loc 0=b 1=q 2=o 3=bo 5=j | ws b bl o ol | fld b.d=bl o.d=ol
    refine lv_iload hx hb d_N_isAtMost_5 (lv_at hl 4 rfl) ?_
    refine lv_aload_n hx hb d_N_isAtMost_7 rfl (lv_at hl 2 rfl) ?_
    refine k_get hx hb hG lay_N hown hw 2 rfl rfl 1 (by decide) (hG _ fl_N_13) (fun _ h9 => h9) rfl d_N_isAtMost_8 ?_
    refine lv_icmp_ge (tgt := 79) hx hb d_N_isAtMost_11 (by decide) (fun hc => ?_) (fun hc => ?_)
    · exact absurd hc (nI_ge (by omega) (by omega))
    refine lv_aload_n hx hb d_N_isAtMost_14 rfl (lv_at hl 2 rfl) ?_
    refine k_get hx hb hG lay_N hown hw 2 rfl rfl 0 (by decide) (hG _ fl_N_7) (fun _ h9 => h9) rfl d_N_isAtMost_15 ?_
    refine lv_iload hx hb d_N_isAtMost_18 (lv_at hl 4 rfl) ?_
    refine k_iald hx hb hw 3 0 rfl rfl (j) (rfl) (by omega) (by first | decide | omega) d_N_isAtMost_20 ?_
    refine lv_i2l hx hb d_N_isAtMost_21 (show (nD do1 j).toInt64 = lN (do1 j) from nI_l (by omega)) ?_
    refine lv_lload_n hx hb d_N_isAtMost_22 rfl (lv_at hl 3 rfl) ?_
    refine lv_lsub hx hb d_N_isAtMost_23 ?_
    refine l_topl (show lN (do1 j) - lN bo = zL ((do1 j : Int) - bo) from zL_sub (do1 j : Int) (bo : Int)) ?_
    refine lv_iload hx hb d_N_isAtMost_24 (lv_at hl 4 rfl) ?_
    refine lv_aload_n hx hb d_N_isAtMost_26 rfl (lv_at hl 0 rfl) ?_
    refine k_get hx hb hG lay_N hown hw 0 rfl rfl 1 (by decide) (hG _ fl_N_13) (fun _ h9 => h9) rfl d_N_isAtMost_27 ?_
    refine lv_icmp_ge (tgt := 47) hx hb d_N_isAtMost_30 (by decide) (fun hc => ?_) (fun hc => ?_)
    · have hge : nb ≤ j := (nI_leI (by omega) (by omega)).mp hc
      refine lv_lconst (v := 0) hx hb d_N_isAtMost_47 (by decide) ?_
      refine l_topl (show (0 : Int64) = lN (dz nb db j * q) by unfold dz; rw [if_neg (by omega), Nat.zero_mul]; rfl) (s48 ls hl)
    · have hlt : ¬ nb ≤ j := fun z => hc ((nI_leI (by omega) (by omega)).mpr z)
      have ez : dz nb db j = db j := by unfold dz; rw [if_pos (by omega)]
      refine lv_aload_n hx hb d_N_isAtMost_33 rfl (lv_at hl 0 rfl) ?_
      refine k_get hx hb hG lay_N hown hw 0 rfl rfl 0 (by decide) (hG _ fl_N_7) (fun _ h9 => h9) rfl d_N_isAtMost_34 ?_
      refine lv_iload hx hb d_N_isAtMost_37 (lv_at hl 4 rfl) ?_
      refine k_iald hx hb hw 1 0 rfl rfl (j) (rfl) (by omega) (by first | decide | omega) d_N_isAtMost_39 ?_
      refine lv_i2l hx hb d_N_isAtMost_40 (show (nD db j).toInt64 = lN (dz nb db j) by rw [ez]; exact nI_l (by omega)) ?_
      refine lv_iload_n hx hb d_N_isAtMost_41 rfl (lv_at hl 1 rfl) ?_
      refine lv_i2l hx hb d_N_isAtMost_42 (show (nI q).toInt64 = lN q from nI_l (by omega)) ?_
      refine lv_lmul hx hb d_N_isAtMost_43 ?_
      refine l_topl (lN_mul _ _) ?_
      refine lv_goto (tgt := 48) hx hb d_N_isAtMost_44 (by decide) ?_
      exact s48 ls hl
end NAM
set_option maxRecDepth 100000 in
set_option maxHeartbeats 4000000 in
theorem m_N_isAtMost (l : Launch) (D : va_G) (k : Nat → ClassId) (L : List Nat) (f : Nat → va_E) (b bl nb o ol no : Nat) (mb mo : Bool) (db do1 : Nat → Nat) (w v : Int) (q : Nat) (hb1 : nr nb mb db w) (ho1 : nr no mo do1 v) (hle : nb ≤ no) (hq : q ≤ 65535) (hk : kn L f f [(b, cN bl nb mb), (bl, cE k db), (o, cN ol no mo), (ol, cE k do1)]) : Mi l y_N_isAtMost (Cond.code y_N_isAtMost c_N_isAtMost 8 (some .boolean) :: G) (rmN 0) D cls (tyl k) L f [.ref b, .int (nI q), .ref o] (fun r f' => f' = f ∧ r = if q * w.natAbs ≤ v.natAbs then 1 else 0) := by
  have hno := ho1.1
  rw [nr_abs hb1, nr_abs ho1]
  -- METHOD N_isAtMost | loc 0=b 1=q 2=o | ws b bl o ol | fld b.d=bl o.d=ol
  refine mk_met (by decide) (Nat.le_of_ble_eq_true rfl) (fun p e s m below meth c ls S hr hlocks hw hl => ?_)
  have hx := S.1
  have hb := S.2.1
  have hown : s.vm.findClass R_N = some m.cls := S.2.2.2.1
  have hG := S.2.2.2.2
  have hl : lv_has ls 8 [(0, .ref b), (1, .int (nI q)), (2, .ref o)] := hl
  have hg := hw
  have hw : kw D cls (tyl k) L s s.heap f [(b, cN bl nb mb), (bl, cE k db), (o, cN ol no mo), (ol, cE k do1)] s.heap [] := ⟨f, hw, hk⟩
  refine lv_lconst (v := 0) hx hb d_N_isAtMost_0 (by decide) ?_
  refine lv_lstore_n hx hb d_N_isAtMost_1 rfl hl (by decide) rfl (fun ls hl => ?_)
  refine lv_iconst (v := 0) hx hb d_N_isAtMost_2 (by decide) ?_
  refine lv_istore hx hb d_N_isAtMost_3 hl (by decide) rfl (fun ls hl => ?_)
  have hl := lv_sub hl [2, 3, 4, 1, 0] rfl
  refine w_nam S hno (by omega) ho1.2.1 hb1.2.1 hq hw (fun bo R ls hR hbo he hl => ?_) no 0 0 0 ls (by omega) (by decide) (by omega) (by show (0 : Int) - ((q * 0 : Nat) : Int) = 0 - 0 * 1; rw [Nat.mul_zero]; rfl) hl
  rw [cd_dz hle] at he
  have hP : ((D16 ^ no : Nat) : Int) = (D16 : Int) ^ no := Int.natCast_pow ..
  refine lv_lload_n hx hb d_N_isAtMost_79 rfl (lv_at hl 0 rfl) ?_
  refine lv_lconst (v := 0) hx hb d_N_isAtMost_80 (by decide) ?_
  refine W.lcmp hx hb d_N_isAtMost_81 ?_
  refine lv_if_ne (tgt := 89) hx hb d_N_isAtMost_82 (by decide) (fun hc => ?_) (fun hc => ?_)
  · have hb0 : bo ≠ 0 := fun z => hc ((lg_cmp_eq _ _).mpr ((pk_lEQ (a := bo) (b := 0) (by omega) (by omega)).mpr z))
    refine lv_iconst (v := 0) hx hb d_N_isAtMost_89 (by decide) ?_
    refine g_retz hx hb hr hlocks hg rfl ⟨rfl, ?_⟩ d_N_isAtMost_90
    rw [if_neg]
    intro hle2
    have h3 : 1 * D16 ^ no ≤ bo * D16 ^ no := Nat.mul_le_mul_right _ (by omega)
    have h4 : ((bo * D16 ^ no : Nat) : Int) = bo * (D16 : Int) ^ no := by rw [Int.natCast_mul, hP]
    rw [← h4] at he
    omega
  · have hb0 : bo = 0 := (pk_lEQ (a := bo) (b := 0) (by omega) (by omega)).mp ((lg_cmp_eq _ _).mp hc)
    refine lv_iconst (v := 1) hx hb d_N_isAtMost_85 (by decide) ?_
    refine lv_goto (tgt := 90) hx hb d_N_isAtMost_86 (by decide) ?_
    refine g_retz hx hb hr hlocks hg rfl ⟨rfl, ?_⟩ d_N_isAtMost_90
    rw [if_pos]
    rw [hb0] at he
    have h3 : ((0 : Nat) : Int) * (D16 : Int) ^ no = 0 := Int.zero_mul _
    rw [h3] at he
    omega
section NOF
variable {p : Program} {l : Launch} {e : Env} {R : Room} {s : State} {m : MethodId} {args : Array Value} {below : List Frame} {meth : Method} {c : Code} {cells slots : Nat} {Q : State → Prop} {D : va_G} {k : Nat → ClassId} {L : List Nat} {f0 : Nat → va_E} {H0 : Heap}
variable {b bl nb o ol no : Nat} {mb mo : Bool} {db do1 : Nat → Nat}
set_option maxRecDepth 100000 in
set_option maxHeartbeats 4000000 in
theorem w_nof1 (S : CallFix p m c c_N_often 9 s args G R_N) {w v : Int} (hb1 : nr nb mb db w) (ho1 : nr no mo do1 v) (hle : nb ≤ no) {f : Nat → va_E} (hk : kn L f f [(b, cN bl nb mb), (bl, cE k db), (o, cN ol no mo), (ol, cE k do1)])
    (kx : ∀ (q : Nat) (H : Heap) (locs : List Loc) (ls : Array Slot), 1 ≤ q → q ≤ 65535 → q * w.natAbs ≤ v.natAbs → v.natAbs < (q + 1) * w.natAbs → lv_has ls 9 [(0, .ref o), (1, .ref b), (2, .int (nI q)), (3, .int (nI q))] → gw D cls (tyl k) L s H0 f H locs → W p l e (rmN 1) s m args below meth c H locs 0 0 Q (F0 m 43 ls [])) :
    ∀ (i lo hi : Nat) (H : Heap) (locs : List Loc) (ls : Array Slot), hi ≤ lo + i → lo ≤ hi → 1 ≤ lo → hi ≤ 65535 → lo * w.natAbs ≤ v.natAbs → v.natAbs < (hi + 1) * w.natAbs → lv_has ls 9 [(0, .ref o), (1, .ref b), (2, .int (nI lo)), (3, .int (nI hi))] → gw D cls (tyl k) L s H0 f H locs →
    W p l e (rmN 1) s m args below meth c H locs 0 0 Q (F0 m 5 ls []) := by
  have hx := S.1
  have hb := S.2.1
  have hown : s.vm.findClass R_N = some m.cls := S.2.2.2.1
  have hG := S.2.2.2.2
  intro i
  induction i with
  | zero =>
    intro lo hi H locs ls h1 h2 h3 h4 h5 h6 hl hg
    have e1 : lo = hi := by omega
    subst e1
    -- METHOD N_often | loc 0=o 1=b 2=lo 3=hi | ws o ol b bl
    refine lv_iload_n hx hb d_N_often_5 rfl (lv_at hl 2 rfl) ?_
    refine lv_iload_n hx hb d_N_often_6 rfl (lv_at hl 3 rfl) ?_
    refine lv_icmp_ge (tgt := 43) hx hb d_N_often_7 (by decide) (fun hc => ?_) (fun hc => ?_)
    · exact kx lo H locs ls h3 h4 h5 h6 hl hg
    · exact absurd (nI_le (by omega) (by omega)) hc
  | succ i ih =>
    intro lo hi H locs ls h1 h2 h3 h4 h5 h6 hl hg
    by_cases e1 : lo = hi
    · subst e1
      -- METHOD N_often | loc 0=o 1=b 2=lo 3=hi | ws o ol b bl
      refine lv_iload_n hx hb d_N_often_5 rfl (lv_at hl 2 rfl) ?_
      refine lv_iload_n hx hb d_N_often_6 rfl (lv_at hl 3 rfl) ?_
      refine lv_icmp_ge (tgt := 43) hx hb d_N_often_7 (by decide) (fun hc => ?_) (fun hc => ?_)
      · exact kx lo H locs ls h3 h4 h5 h6 hl hg
      · exact absurd (nI_le (by omega) (by omega)) hc
    -- METHOD N_often | loc 0=o 1=b 2=lo 3=hi | ws o ol b bl
    refine lv_iload_n hx hb d_N_often_5 rfl (lv_at hl 2 rfl) ?_
    refine lv_iload_n hx hb d_N_often_6 rfl (lv_at hl 3 rfl) ?_
    refine lv_icmp_ge (tgt := 43) hx hb d_N_often_7 (by decide) (fun hc => ?_) (fun hc => ?_)
    · exact absurd hc (nI_ge (by omega) (by omega))
    refine lv_iload_n hx hb d_N_often_10 rfl (lv_at hl 2 rfl) ?_
    refine lv_iload_n hx hb d_N_often_11 rfl (lv_at hl 3 rfl) ?_
    refine lv_iadd hx hb d_N_often_12 ?_
    refine l_top (nI_add lo hi) ?_
    refine lv_iconst (v := 1) hx hb d_N_often_13 (by decide) ?_
    refine lv_iadd hx hb d_N_often_14 ?_
    refine l_top (show nI (lo + hi) + 1 = nI (lo + hi + 1) from nI_add (lo + hi) 1) ?_
    refine lv_iconst (v := 2) hx hb d_N_often_15 (by decide) ?_
    refine lv_idiv hx hb d_N_often_16 (by decide) ?_
    refine l_top (show nI (lo + hi + 1) / 2 = nI ((lo + hi + 1) / 2) from pk_div (d := 2) (by omega) (by omega) (by omega)) ?_
    obtain ⟨md, hmd⟩ : ∃ md, md = (lo + hi + 1) / 2 := ⟨_, rfl⟩
    rw [← hmd]
    have hm1 : lo < md := by omega
    have hm2 : md ≤ hi := by omega
    refine lv_istore hx hb d_N_often_17 hl (by decide) rfl (fun ls hl => ?_)
    refine lv_aload_n hx hb d_N_often_19 rfl (lv_at hl 2 rfl) ?_
    refine lv_iload hx hb d_N_often_20 (lv_at hl 0 rfl) ?_
    refine lv_aload_n hx hb d_N_often_22 rfl (lv_at hl 1 rfl) ?_
    have hw := hg
    refine g_oi (c_X (np := 3) S (m_N_isAtMost l D k L f b bl nb o ol no mb mo db do1 w v md hb1 ho1 hle (by omega) hk) hw ml_N_39 st_N_isAtMost in_N co_N_isAtMost (by decide +kernel) rfl ⟨rfl, rfl, by decide, by decide⟩ hl.1 rfl (by simp [Value.category]) d_N_often_23 ⟨Nat.zero_le _, Nat.zero_le _⟩) hw (fun r1 f1 H locs hp hg => ?_)
    rw [hp.1] at hg
    refine l_top hp.2 ?_
    refine lv_if_eq (tgt := 35) hx hb d_N_often_26 (by decide) (fun hc => ?_) (fun hc => ?_)
    · have hn : ¬ md * w.natAbs ≤ v.natAbs := fun z => by rw [if_pos z] at hc; exact absurd hc (by decide)
      refine lv_iload hx hb d_N_often_35 (lv_at hl 0 rfl) ?_
      refine lv_iconst (v := 1) hx hb d_N_often_37 (by decide) ?_
      refine lv_isub hx hb d_N_often_38 ?_
      refine l_top (show nI md - 1 = nI (md - 1) from pk_sub (b := 1) (by omega)) ?_
      refine lv_istore_n hx hb d_N_often_39 rfl hl (by decide) rfl (fun ls hl => ?_)
      refine lv_goto (tgt := 5) hx hb d_N_often_40 (by decide) ?_
      have hl := lv_sub hl [2, 3, 4, 0] rfl
      exact ih lo (md - 1) H locs ls (by omega) (by omega) h3 (by omega) h5 (by rw [show md - 1 + 1 = md by omega]; omega) hl hg
    · have hn : md * w.natAbs ≤ v.natAbs := Classical.byContradiction fun z => hc (by rw [if_neg z])
      refine lv_iload hx hb d_N_often_29 (lv_at hl 0 rfl) ?_
      refine lv_istore_n hx hb d_N_often_31 rfl hl (by decide) rfl (fun ls hl => ?_)
      refine lv_goto (tgt := 40) hx hb d_N_often_32 (by decide) ?_
      refine lv_goto (tgt := 5) hx hb d_N_often_40 (by decide) ?_
      have hl := lv_sub hl [2, 3, 0, 4] rfl
      exact ih md hi H locs ls (by omega) hm2 (by omega) h4 hn h6 hl hg
set_option maxRecDepth 100000 in
set_option maxHeartbeats 4000000 in
theorem w_nof2 (S : CallFix p m c c_N_often 9 s args G R_N) {q : Nat} (hno : no ≤ 160) (hnb : nb ≤ 160) (hdo : ∀ i, i < 160 → do1 i < D16) (hdb : ∀ i, i < 160 → db i < D16) (hq : q ≤ 65535)
    (kx : ∀ (bo : Nat) (d : Nat → Nat) (H : Heap) (locs : List Loc) (ls : Array Slot), bo ≤ 65536 → (∀ i, i < 160 → d i < D16) → (cd D16 no d : Int) - bo * (D16 : Int) ^ no = (cd D16 no do1 : Int) - (q * cd D16 no (dz nb db) : Nat) → lv_has ls 9 [(0, .ref o), (2, .int (nI q))] → kw D cls (tyl k) L s H0 f0 [(o, cN ol no mo), (ol, cE k d), (b, cN bl nb mb), (bl, cE k db)] H locs → W p l e R s m args below meth c H locs cells slots Q (F0 m 142 ls [])) :
    ∀ (i j bo : Nat) (d : Nat → Nat) (H : Heap) (locs : List Loc) (ls : Array Slot), j + i = no → bo ≤ 65536 → (∀ i, i < 160 → d i < D16) → (∀ t, j ≤ t → d t = do1 t) → (cd D16 j d : Int) - bo * (D16 : Int) ^ j = (cd D16 j do1 : Int) - (q * cd D16 j (dz nb db) : Nat) → lv_has ls 9 [(0, .ref o), (1, .ref b), (2, .int (nI q)), (4, .long (lN bo)), (6, .int (nI j))] → kw D cls (tyl k) L s H0 f0 [(o, cN ol no mo), (ol, cE k d), (b, cN bl nb mb), (bl, cE k db)] H locs →
    W p l e R s m args below meth c H locs cells slots Q (F0 m 49 ls []) := by
  have hx := S.1
  have hb := S.2.1
  have hown : s.vm.findClass R_N = some m.cls := S.2.2.2.1
  have hG := S.2.2.2.2
  intro i
  induction i with
  | zero =>
    intro j bo d H locs ls hj hbo hd hsame he hl hw
    have hj : j = no := by omega
    subst hj
    -- METHOD N_often | loc 0=o 1=b 2=q 4=bo 6=j | ws o ol b bl | fld b.d=bl o.d=ol
    refine lv_iload hx hb d_N_often_49 (lv_at hl 4 rfl) ?_
    refine lv_aload_n hx hb d_N_often_51 rfl (lv_at hl 0 rfl) ?_
    refine k_get hx hb hG lay_N hown hw 0 rfl rfl 1 (by decide) (hG _ fl_N_13) (fun _ h9 => h9) rfl d_N_often_52 ?_
    refine lv_icmp_ge (tgt := 142) hx hb d_N_often_55 (by decide) (fun hc => ?_) (fun hc => ?_)
    · exact kx bo d H locs ls hbo hd he (lv_sub hl [0, 2] rfl) hw
    · exact absurd (nI_le (by omega) (by omega)) hc
  | succ i ih =>
    intro j bo d H locs ls hj hbo hd hsame he hl hw
    have hzb' : dz nb db j < 65536 := dz_lt (n := nb) (d := db) (fun i hi => hdb i (by omega)) j
    have hzo' : do1 j < 65536 := hdo j (by omega)
    have hY : dz nb db j * q ≤ 65535 * 65535 := Nat.mul_le_mul (by omega) hq
    have s117 : ∀ (bo' : Nat) (ls : Array Slot), bo' ≤ 65536 → 0 ≤ (do1 j : Int) - bo - (dz nb db j * q : Nat) + 65536 * bo' → (do1 j : Int) - bo - (dz nb db j * q : Nat) + 65536 * bo' < 65536 → lv_has ls 9 [(7, .long (zL ((do1 j : Int) - bo - (dz nb db j * q : Nat)))), (0, .ref o), (1, .ref b), (2, .int (nI q)), (4, .long (lN bo)), (6, .int (nI j))] → W p l e R s m args below meth c H locs cells slots Q (F0 m 117 ls [.long (lN bo')]) := by
      intro bo' ls hb1 h1 h2 hl
      obtain ⟨v, hv⟩ : ∃ v : Nat, (v : Int) = (do1 j : Int) - bo - (dz nb db j * q : Nat) + 65536 * bo' := ⟨((do1 j : Int) - bo - (dz nb db j * q : Nat) + 65536 * bo').toNat, by omega⟩
      -- METHOD N_often | loc 7=v 0=o 1=b 2=q 4=bo 6=j | ws o ol b bl | fld b.d=bl o.d=ol
      refine lv_lstore hx hb d_N_often_117 hl (by decide) rfl (fun ls hl => ?_)
      refine lv_aload_n hx hb d_N_often_119 rfl (lv_at hl 2 rfl) ?_
      refine k_get hx hb hG lay_N hown hw 0 rfl rfl 0 (by decide) (hG _ fl_N_7) (fun _ h9 => h9) rfl d_N_often_120 ?_
      refine lv_iload hx hb d_N_often_123 (lv_at hl 5 rfl) ?_
      refine lv_lload hx hb d_N_often_125 (lv_at hl 1 rfl) ?_
      refine lv_ldc2 hx hb hown (hG _ ct_N_24) d_N_often_127 ?_
      refine lv_lload hx hb d_N_often_130 (lv_at hl 0 rfl) ?_
      refine lv_lmul hx hb d_N_often_132 ?_
      refine l_topl (show (65536 : Int64) * lN bo' = zL (65536 * (bo' : Int)) from zL_mul 65536 (bo' : Int)) ?_
      refine lv_ladd hx hb d_N_often_133 ?_
      refine l_topl (show zL ((do1 j : Int) - bo - (dz nb db j * q : Nat)) + zL (65536 * (bo' : Int)) = lN v by rw [zL_add, ← hv, zL_n]) ?_
      refine lv_l2i hx hb d_N_often_134 (lN_i _) ?_
      refine k_iast hx hb hw 1 0 rfl rfl (j) (rfl) (by omega) (by first | decide | omega) d_N_often_135 (fun H locs hw => ?_)
      rw [nD_upd] at hw
      refine lv_iinc (k := 5) hx hb d_N_often_136 hl rfl (ii1 j) (by decide) rfl (fun ls hl => ?_)
      refine lv_goto (tgt := 49) hx hb d_N_often_139 (by decide) ?_
      have hl := lv_sub hl [3, 4, 5, 1, 0] rfl
      have h3 := sub_st16 (a := do1 j) (b := dz nb db j * q) (bo' := bo') (v := v) he (by omega)
      refine ih (j + 1) bo' _ H locs ls (by omega) hb1 (fun t ht => ?_) (fun t ht => ?_) (h3.trans ?_) hl hw
      · by_cases e : t = j
        · rw [e, va_up_self]; unfold D16; omega
        · rw [va_up_ne _ _ e]; exact hd t ht
      · rw [va_up_ne _ _ (by omega)]; exact hsame t (by omega)
      · have e1 : (cd D16 (j + 1) do1 : Int) = (cd D16 j do1 : Int) + (do1 j : Int) * (D16 : Int) ^ j := by
          show ((cd D16 j do1 + do1 j * D16 ^ j : Nat) : Int) = _
          rw [Int.natCast_add, Int.natCast_mul, Int.natCast_pow]
        have e2 : ((q * cd D16 (j + 1) (dz nb db) : Nat) : Int) = ((q * cd D16 j (dz nb db) : Nat) : Int) + ((dz nb db j * q : Nat) : Int) * (D16 : Int) ^ j := by
          show ((q * (cd D16 j (dz nb db) + dz nb db j * D16 ^ j) : Nat) : Int) = _
          rw [Nat.mul_add, Int.natCast_add, ← Int.natCast_pow, ← Int.natCast_mul, Nat.mul_comm (dz nb db j) q, Nat.mul_assoc]
        rw [e1, e2, Int.sub_mul]
        generalize ((dz nb db j * q : Nat) : Int) * (D16 : Int) ^ j = Y at *
        generalize (do1 j : Int) * (D16 : Int) ^ j = Z at *
        omega
    have s93 : ∀ (ls : Array Slot), lv_has ls 9 [(0, .ref o), (1, .ref b), (2, .int (nI q)), (4, .long (lN bo)), (6, .int (nI j))] → W p l e R s m args below meth c H locs cells slots Q (F0 m 93 ls [.long (lN (dz nb db j * q)), .long (zL ((do1 j : Int) - bo))]) := by
      intro ls hl
      have rv : rL ((do1 j : Int) - bo - (dz nb db j * q : Nat)) := ⟨by omega, by omega⟩
      -- METHOD N_often | loc 0=o 1=b 2=q 4=bo 6=j | ws o ol b bl | fld b.d=bl o.d=ol
      refine lv_lsub hx hb d_N_often_93 ?_
      refine l_topl (show zL ((do1 j : Int) - bo) - lN (dz nb db j * q) = zL ((do1 j : Int) - bo - (dz nb db j * q : Nat)) from zL_sub ((do1 j : Int) - bo) ((dz nb db j * q : Nat) : Int)) ?_
      refine lv_lstore hx hb d_N_often_94 hl (by decide) rfl (fun ls hl => ?_)
      refine lv_lload hx hb d_N_often_96 (lv_at hl 0 rfl) ?_
      refine lv_lconst (v := 0) hx hb d_N_often_98 (by decide) ?_
      refine W.lcmp hx hb d_N_often_99 ?_
      refine lv_if_ge (tgt := 116) hx hb d_N_often_100 (by decide) (fun hc => ?_) (fun hc => ?_)
      · have h0 : 0 ≤ (do1 j : Int) - bo - (dz nb db j * q : Nat) := (zL_le (a := 0) ⟨by decide, by decide⟩ rv).mp ((lg_cmp_ge _ _).mp hc)
        refine lv_lconst (v := 0) hx hb d_N_often_116 (by decide) ?_
        exact s117 0 ls (by omega) (by omega) (by omega) hl
      · have h0 : ¬ 0 ≤ (do1 j : Int) - bo - (dz nb db j * q : Nat) := fun z => hc ((lg_cmp_ge _ _).mpr ((zL_le (a := 0) ⟨by decide, by decide⟩ rv).mpr z))
        obtain ⟨g1, g2⟩ := zL_bor (v := (do1 j : Int) - bo - (dz nb db j * q : Nat)) (by omega) (by omega)
        refine lv_ldc2 hx hb hown (hG _ ct_N_43) d_N_often_103 ?_
        refine lv_lload hx hb d_N_often_106 (lv_at hl 0 rfl) ?_
        refine lv_lsub hx hb d_N_often_108 ?_
        refine l_topl g1 ?_
        refine lv_ldc2 hx hb hown (hG _ ct_N_24) d_N_often_109 ?_
        refine lv_ldiv hx hb d_N_often_112 (by decide) ?_
        refine l_topl (show lN (65535 - ((do1 j : Int) - bo - (dz nb db j * q : Nat))).toNat / 65536 = lN ((65535 - ((do1 j : Int) - bo - (dz nb db j * q : Nat))).toNat / 65536) from pk_lDiv (b := 65536) g2 (by omega) (by omega)) ?_
        refine lv_goto (tgt := 117) hx hb d_N_often_113 (by decide) ?_
        have hbb := borrow (v := (do1 j : Int) - bo - (dz nb db j * q : Nat)) (bo' := (65535 - ((do1 j : Int) - bo - (dz nb db j * q : Nat))).toNat / 65536) (Or.inr ⟨by omega, by omega⟩)
        exact s117 _ ls (by omega) hbb.1 hbb.2 hl
    -- METHOD N_often | loc 0=o 1=b 2=q 4=bo 6=j | ws o ol b bl | fld b.d=bl o.d=ol
    refine lv_iload hx hb d_N_often_49 (lv_at hl 4 rfl) ?_
    refine lv_aload_n hx hb d_N_often_51 rfl (lv_at hl 0 rfl) ?_
    refine k_get hx hb hG lay_N hown hw 0 rfl rfl 1 (by decide) (hG _ fl_N_13) (fun _ h9 => h9) rfl d_N_often_52 ?_
    refine lv_icmp_ge (tgt := 142) hx hb d_N_often_55 (by decide) (fun hc => ?_) (fun hc => ?_)
    · exact absurd hc (nI_ge (by omega) (by omega))
    refine lv_aload_n hx hb d_N_often_58 rfl (lv_at hl 0 rfl) ?_
    refine k_get hx hb hG lay_N hown hw 0 rfl rfl 0 (by decide) (hG _ fl_N_7) (fun _ h9 => h9) rfl d_N_often_59 ?_
    refine lv_iload hx hb d_N_often_62 (lv_at hl 4 rfl) ?_
    refine k_iald hx hb hw 1 0 rfl rfl (j) (rfl) (by omega) (by first | decide | omega) d_N_often_64 ?_
    refine lv_i2l hx hb d_N_often_65 (show (nD d j).toInt64 = lN (do1 j) by rw [← hsame j (Nat.le_refl _)]; exact nI_l (by rw [hsame j (Nat.le_refl _)]; omega)) ?_
    refine lv_lload hx hb d_N_often_66 (lv_at hl 3 rfl) ?_
    refine lv_lsub hx hb d_N_often_68 ?_
    refine l_topl (show lN (do1 j) - lN bo = zL ((do1 j : Int) - bo) from zL_sub (do1 j : Int) (bo : Int)) ?_
    refine lv_iload hx hb d_N_often_69 (lv_at hl 4 rfl) ?_
    refine lv_aload_n hx hb d_N_often_71 rfl (lv_at hl 1 rfl) ?_
    refine k_get hx hb hG lay_N hown hw 2 rfl rfl 1 (by decide) (hG _ fl_N_13) (fun _ h9 => h9) rfl d_N_often_72 ?_
    refine lv_icmp_ge (tgt := 92) hx hb d_N_often_75 (by decide) (fun hc => ?_) (fun hc => ?_)
    · have hge : nb ≤ j := (nI_leI (by omega) (by omega)).mp hc
      refine lv_lconst (v := 0) hx hb d_N_often_92 (by decide) ?_
      refine l_topl (show (0 : Int64) = lN (dz nb db j * q) by unfold dz; rw [if_neg (by omega), Nat.zero_mul]; rfl) (s93 ls hl)
    · have hlt : ¬ nb ≤ j := fun z => hc ((nI_leI (by omega) (by omega)).mpr z)
      have ez : dz nb db j = db j := by unfold dz; rw [if_pos (by omega)]
      refine lv_aload_n hx hb d_N_often_78 rfl (lv_at hl 1 rfl) ?_
      refine k_get hx hb hG lay_N hown hw 2 rfl rfl 0 (by decide) (hG _ fl_N_7) (fun _ h9 => h9) rfl d_N_often_79 ?_
      refine lv_iload hx hb d_N_often_82 (lv_at hl 4 rfl) ?_
      refine k_iald hx hb hw 3 0 rfl rfl (j) (rfl) (by omega) (by first | decide | omega) d_N_often_84 ?_
      refine lv_i2l hx hb d_N_often_85 (show (nD db j).toInt64 = lN (dz nb db j) by rw [ez]; exact nI_l (by omega)) ?_
      refine lv_iload_n hx hb d_N_often_86 rfl (lv_at hl 2 rfl) ?_
      refine lv_i2l hx hb d_N_often_87 (show (nI q).toInt64 = lN q from nI_l (by omega)) ?_
      refine lv_lmul hx hb d_N_often_88 ?_
      refine l_topl (lN_mul _ _) ?_
      refine lv_goto (tgt := 93) hx hb d_N_often_89 (by decide) ?_
      exact s93 ls hl
end NOF
set_option maxRecDepth 100000 in
set_option maxHeartbeats 4000000 in
theorem m_N_often (l : Launch) (D : va_G) (k : Nat → ClassId) (L : List Nat) (f : Nat → va_E) (o ol no b bl nb : Nat) (mo mb : Bool) (do1 db : Nat → Nat) (R B : Nat) (w : Int) (ho1 : nr no mo do1 (R : Int)) (hb1 : nr nb mb db w) (hB : w.natAbs = B) (hBR : B ≤ R) (hRB : R < 65536 * B) (hk : kn L f f [(o, cN ol no mo), (ol, cE k do1), (b, cN bl nb mb), (bl, cE k db)]) : Mi l y_N_often (Cond.code y_N_often c_N_often 9 (some .int) :: G) (rmN 1) D cls (tyl k) L f [.ref o, .ref b] (fun r f' => r = nI (R / B) ∧ ∃ n' mi' d', nr n' mi' d' ((R % B : Nat) : Int) ∧ kn L f f' [(o, cN ol n' mi'), (ol, cE k d')]) := by
  have hno := ho1.1
  have hle : nb ≤ no := nr_le hb1 ho1 (by omega)
  have hB0 : 0 < B := by omega
  have hRv : ((R : Int)).natAbs = R := by omega
  have hkp : kn L f f [(b, cN bl nb mb), (bl, cE k db), (o, cN ol no mo), (ol, cE k do1)] := kn_sub hk [2, 3, 0, 1] rfl rfl
  -- METHOD N_often | loc 0=o 1=b | ws o ol b bl | fld b.d=bl o.d=ol
  refine mk_met (by decide) (Nat.le_of_ble_eq_true rfl) (fun p e s m below meth c ls S hr hlocks hw hl => ?_)
  have hx := S.1
  have hb := S.2.1
  have hown : s.vm.findClass R_N = some m.cls := S.2.2.2.1
  have hG := S.2.2.2.2
  have hl : lv_has ls 9 [(0, .ref o), (1, .ref b)] := hl
  have hg := hw
  refine lv_iconst (v := 1) hx hb d_N_often_0 (by decide) ?_
  refine lv_istore_n hx hb d_N_often_1 rfl hl (by decide) rfl (fun ls hl => ?_)
  refine lv_ldc hx hb hown (hG _ ct_N_38) d_N_often_2 ?_
  refine lv_istore_n hx hb d_N_often_4 rfl hl (by decide) rfl (fun ls hl => ?_)
  have hl := lv_sub hl [2, 3, 1, 0] rfl
  refine w_nof1 S hb1 ho1 hle hkp (fun q H locs ls hq1 hq2 hq3 hq4 hl hg => ?_) 65534 1 65535 _ _ ls (by omega) (by omega) (by omega) (by omega) (by rw [hB, hRv]; omega) (by rw [hB, hRv]; omega) hl hg
  rw [hB, hRv] at hq3 hq4
  have eq : R / B = q := by
    refine Nat.div_eq_of_lt_le ?_ ?_
    · exact hq3
    · exact hq4
  have er : R % B = R - q * B := by
    have := Nat.div_add_mod R B
    rw [eq, Nat.mul_comm] at this
    omega
  have hw : kw D cls (tyl k) L s s.heap f [(o, cN ol no mo), (ol, cE k do1), (b, cN bl nb mb), (bl, cE k db)] H locs := ⟨f, hg, hk⟩
  refine lv_lconst (v := 0) hx hb d_N_often_43 (by decide) ?_
  refine lv_lstore hx hb d_N_often_44 hl (by decide) rfl (fun ls hl => ?_)
  refine lv_iconst (v := 0) hx hb d_N_often_46 (by decide) ?_
  refine lv_istore hx hb d_N_often_47 hl (by decide) rfl (fun ls hl => ?_)
  have hl := lv_sub hl [2, 3, 4, 1, 0] rfl
  refine w_nof2 S hno (by omega) ho1.2.1 hb1.2.1 hq2 (fun bo d1 H locs ls hbo hd1 he hl hw => ?_) no 0 0 do1 H locs ls (by omega) (by omega) ho1.2.1 (fun _ _ => rfl) (by show (0 : Int) - 0 * 1 = 0 - ((q * 0 : Nat) : Int); rw [Nat.mul_zero]; rfl) hl hw
  rw [cd_dz hle, ← nr_abs ho1, ← nr_abs hb1, hB, hRv] at he
  have hP : ((D16 ^ no : Nat) : Int) = (D16 : Int) ^ no := Int.natCast_pow ..
  have hlt : cd D16 no d1 < D16 ^ no := cd_lt no (fun i hi => hd1 i (by omega))
  have hb0 : bo = 0 := by
    apply Classical.byContradiction
    intro hn
    have h3 : 1 * D16 ^ no ≤ bo * D16 ^ no := Nat.mul_le_mul_right _ (by omega)
    have h4 : ((bo * D16 ^ no : Nat) : Int) = bo * (D16 : Int) ^ no := by rw [Int.natCast_mul, hP]
    rw [← h4] at he
    omega
  rw [hb0] at he
  have h3 : ((0 : Nat) : Int) * (D16 : Int) ^ no = 0 := Int.zero_mul _
  rw [h3] at he
  obtain ⟨f1, hg, hk1⟩ := hw
  have hmo : mo = false := by
    cases mo with
    | false => rfl
    | true => have := (nr_mi ho1).mp rfl; omega
  subst hmo
  have hk2 := kn_two hk hk1
  have hkk := kn_now hk2
  have hw := hg
  refine lv_aload_n hx hb d_N_often_142 rfl (lv_at hl 0 rfl) ?_
  refine g_ov (c_V (np := 0) S (m_N_trim l D k L f1 o ol no false d1 ((R % B : Nat) : Int) hno hd1 (by rw [er, if_neg (by decide)]; omega) hkk) hw ((hkk.1 0 _ rfl).1) ((hkk.1 0 _ rfl).2) rfl ml_N_27 im_N_trim se_N_N_trim in_N co_N_trim (by decide +kernel) rfl ⟨rfl, rfl, by decide, by decide⟩ hl.1 rfl (by simp [Value.category]) d_N_often_143 ⟨Nat.zero_le _, Nat.zero_le _⟩) hw (fun f2 H locs hp hg => ?_)
  obtain ⟨n', mi', -, h1, h2⟩ := hp
  refine lv_iload_n hx hb d_N_often_146 rfl (lv_at hl 1 rfl) ?_
  exact g_reti hx hb hr hlocks hg ⟨by rw [eq], n', mi', d1, h1, kn_tr hk2 h2 rfl⟩ d_N_often_147


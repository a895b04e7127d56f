-- ===== Table: toldDigit =====
def dz (n : Nat) (d : Nat → Nat) (t : Nat) : Nat := if t < n then d t else 0
/-- a digit of 16 bits, from two limbs of 30 -/
theorem td_eq {n : Nat} {d : Nat → Nat} (hd : ∀ t, t < n → d t < B30) (i : Nat) : (dz n d (i * 16 / 30 + 1) * 2 ^ 30 + dz n d (i * 16 / 30)) / 2 ^ (i * 16 % 30) % 65536 = cd B30 n d / 65536 ^ i % 65536 := by
  have hz : ∀ t, dz n d t < B30 := fun t => by
    unfold dz
    by_cases h : t < n
    · rw [if_pos h]; exact hd t h
    · rw [if_neg h]; decide
  generalize hq : i * 16 / 30 = q
  generalize hr : i * 16 % 30 = r
  have hr30 : r < 30 := by omega
  have hqr : 16 * i = 30 * q + r := by omega
  have e1 : cd B30 n d = cd B30 (q + (2 + n)) (dz n d) := by
    have a1 : cd B30 n d = cd B30 n (dz n d) := cd_congr n (fun t ht => by show d t = if t < n then d t else 0; rw [if_pos ht])
    have a2 : cd B30 (q + (2 + n)) (dz n d) = cd B30 n (dz n d) := cd_top (by omega) (fun t h1 _ => by show (if t < n then d t else 0) = 0; rw [if_neg (by omega)])
    rw [a1, a2]
  have e2 := cd_split (b := B30) q (2 + n) (dz n d)
  have e3 := cd_split (b := B30) 2 n (fun t => dz n d (q + t))
  generalize cd B30 n (fun t => dz n d (q + (2 + t))) = Y at e3
  have e4 : cd B30 2 (fun t => dz n d (q + t)) = dz n d q + dz n d (q + 1) * B30 := by
    show (0 + dz n d (q + 0) * B30 ^ 0) + dz n d (q + 1) * B30 ^ 1 = _
    rw [Nat.pow_zero, Nat.pow_one, Nat.add_zero]; omega
  have hlow : cd B30 q (dz n d) < B30 ^ q := cd_lt q (fun t _ => hz t)
  rw [e4] at e3
  have e5 : (65536 : Nat) ^ i = B30 ^ q * 2 ^ r := by
    have a1 : (65536 : Nat) = 2 ^ 16 := by decide
    have a2 : B30 = 2 ^ 30 := by decide
    rw [a1, a2, ← Nat.pow_mul, ← Nat.pow_mul, ← Nat.pow_add, hqr]
  have e8 : cd B30 n d / B30 ^ q = dz n d q + dz n d (q + 1) * B30 + B30 ^ 2 * Y := by
    rw [e1, e2, e3, Nat.add_mul_div_left _ _ (Nat.pow_pos (by decide)), Nat.div_eq_of_lt hlow, Nat.zero_add]
  rw [e5, ← Nat.div_div_eq_div_mul, e8]
  have e6 : B30 ^ 2 * Y = 2 ^ (44 - r) * Y * 65536 * 2 ^ r := by
    have a1 : (65536 : Nat) = 2 ^ 16 := by decide
    have a2 : B30 ^ 2 = 2 ^ (44 - r) * 2 ^ 16 * 2 ^ r := by
      rw [← Nat.pow_add, ← Nat.pow_add, show 44 - r + 16 + r = 60 by omega]; decide
    rw [a1, a2]
    simp only [Nat.mul_comm, Nat.mul_left_comm]
  rw [e6, Nat.add_mul_div_right _ _ (Nat.pow_pos (by decide)), Nat.add_mul_mod_self_right]
  have a3 : B30 = 2 ^ 30 := by decide
  rw [a3, Nat.add_comm]
theorem nI_L {a : Nat} (h : a < 2147483648) : (nI a).toInt64 = lN a := by rw [← zI_n, zIL (rI_n h), zL_n]
theorem lnI (a : Nat) : (lN a).toInt32 = nI a := by rw [← zL_n, zLI, zI_n]
theorem and16 (a : Nat) : nI a &&& 65535 = nI (a % 65536) := by
  rw [pk_and (nI a) 16 (by decide)]
  have e := zI_bv (a : Int)
  rw [zI_n] at e
  rw [e]
  congr 1
  omega
theorem sm_c : ∀ r, r < 30 → (((nI r).toInt64 &&& 63).toBitVec.smod 64).toNat = r := by decide +kernel
section TD
variable (l : Launch) (D : va_G) {L : List Nat} {k : Nat → ClassId} {f : Nat → va_E} {own : Nat → Nat} {τ t pa nu : Nat} {rs : Nat → Nat} {fd : Int32} {rows cols : Nat} {rd : Int32} {P : Nat → Int32} {Wt : Nat → Nat → Int32}
set_option maxRecDepth 100000 in
set_option maxHeartbeats 4000000 in
theorem tb_toldDigit (h : TB L own k f τ t pa nu rs fd rows cols rd P Wt) {row col : Nat} (hrow : row < 12) (hcol : col < 12) {v : Int} (hv : nm (Wt row) col v) {i : Nat} (hi : i < 2 ^ 31) : Mi l y_T_toldDigit (Cond.code y_T_toldDigit c_T_toldDigit 12 (some .int) :: G) (rmN 1) D cls (tyl k) L f [.ref t, .int (nI row), .int (nI col), .int (nI i)] (fun r f' => f' = f ∧ r = nI (v.natAbs / 65536 ^ i % 65536)) := by
  obtain ⟨n, d, hn5, hdg, htop, hhd, habs⟩ := hv
  have hab : (v.sign * (n : Int)).natAbs = n := by
    rcases Int.lt_trichotomy v 0 with h | h | h
    · rw [Int.sign_eq_neg_one_of_neg h]; omega
    · obtain ⟨n2, -, e2, e3⟩ := nm_head ⟨n, d, hn5, hdg, htop, hhd, habs⟩
      have : n = 0 := by
        apply Classical.byContradiction
        intro h0
        obtain ⟨m9, rfl⟩ : ∃ m9, n = m9 + 1 := ⟨n - 1, by omega⟩
        have h7 := cd_ge (b := B30) (n := m9) (d := d) (htop (by omega))
        have h6 : 0 < B30 ^ m9 := Nat.pow_pos (by decide)
        omega
      rw [this]; simp
    · rw [Int.sign_eq_one_of_pos h]; omega
  have hrng : -5 ≤ v.sign * (n : Int) ∧ v.sign * (n : Int) ≤ 5 := by omega
  obtain ⟨z, hz, hzs⟩ := h.2.2.2.1
  -- METHOD T_toldDigit | loc 0=t 1=row 2=col 3=i | ws t nu rr | fld t.numbers=nu
  refine mk_met (by decide) (Nat.le_of_ble_eq_true rfl) (fun p e s m below meth c ls S hr hlocks hw hl => ?_)
  have hx := S.1
  have hb := S.2.1
  have hown : s.vm.findClass R_T = some m.cls := S.2.2.2.1
  have hG := S.2.2.2.2
  have hl : lv_has ls 12 [(0, .ref t), (1, .int (nI row)), (2, .int (nI col)), (3, .int (nI i))] := hl
  have hg := hw
  refine lv_aload_n hx hb d_T_toldDigit_0 rfl (lv_at hl 0 rfl) ?_
  refine lv_iload_n hx hb d_T_toldDigit_1 rfl (lv_at hl 1 rfl) ?_
  refine lv_iload_n hx hb d_T_toldDigit_2 rfl (lv_at hl 2 rfl) ?_
  refine g_oi (c_V (np := 2) S (tb_head l D h (row := row) (col := col) hrow hcol) hw (h.1.1.1) (h.2.1) rfl ml_T_44 im_T_head se_T_T_head in_T co_T_head (by decide +kernel) rfl ⟨rfl, rfl, by decide, by decide⟩ hl.1 rfl (by simp [Value.category]) d_T_toldDigit_3 ⟨Nat.zero_le _, Nat.zero_le _⟩) hw (fun r1 f1 H locs hp hg => ?_)
  rw [hp.1] at hg
  refine l_top (hp.2.trans hhd) ?_
  have hw := hg
  refine g_oi (c_X (np := 1) S (m_abs l D k L f (zI (v.sign * (n : Int)))) hw ml_T_54 st_JM_abs in_JM co_JM_abs (by decide +kernel) rfl ⟨rfl, rfl, by decide, by decide⟩ hl.1 rfl (by simp [Value.category]) d_T_toldDigit_6 ⟨Nat.zero_le _, Nat.zero_le _⟩) hw (fun r2 f2 H locs hp2 hg => ?_)
  rw [hp2.1] at hg
  refine l_top (show r2 = nI n by rw [hp2.2, abs_zI ⟨by omega, by omega⟩, hab, zI_n]) ?_
  refine lv_istore hx hb d_T_toldDigit_9 hl (by decide) rfl (fun ls hl => ?_)
  refine lv_iload_n hx hb d_T_toldDigit_11 rfl (lv_at hl 4 rfl) ?_
  refine lv_iload hx hb d_T_toldDigit_12 (lv_at hl 0 rfl) ?_
  refine lv_bipush (v := 30) hx hb d_T_toldDigit_14 (by decide) ?_
  refine lv_imul hx hb d_T_toldDigit_16 ?_
  refine l_top (pk_mul n 30) ?_
  refine lv_bipush (v := 16) hx hb d_T_toldDigit_17 (by decide) ?_
  refine lv_idiv hx hb d_T_toldDigit_19 (by decide) ?_
  refine l_top (show nI (n * 30) / 16 = nI (n * 30 / 16) from pk_div (d := 16) (by omega) (by omega) (by omega)) ?_
  have hcmp : nI i ≤ nI (n * 30 / 16) ↔ i ≤ n * 30 / 16 := by
    rw [← zI_n, ← zI_n, zI_le (rI_n (by omega)) (rI_n (by omega))]; omega
  refine lv_icmp_le (tgt := 25) hx hb d_T_toldDigit_20 (by decide) (fun hc => ?_) (fun hc => ?_)
  · have hle := hcmp.mp hc
    have hw : kw D cls (tyl k) L s s.heap f [(t, cT fd (nI rows) (nI cols) rd pa nu), (nu, cO k z), (rs row, cR k (Wt row))] H locs := ⟨f, hg, h.kn3 hz hrow⟩
    refine lv_iload_n hx hb d_T_toldDigit_25 rfl (lv_at hl 4 rfl) ?_
    refine lv_bipush (v := 16) hx hb d_T_toldDigit_26 (by decide) ?_
    refine lv_imul hx hb d_T_toldDigit_28 ?_
    refine l_top (pk_mul i 16) ?_
    refine lv_bipush (v := 30) hx hb d_T_toldDigit_29 (by decide) ?_
    refine lv_idiv hx hb d_T_toldDigit_31 (by decide) ?_
    refine l_top (show nI (i * 16) / 30 = nI (i * 16 / 30) from pk_div (d := 30) (by omega) (by omega) (by omega)) ?_
    refine lv_istore hx hb d_T_toldDigit_32 hl (by decide) rfl (fun ls hl => ?_)
    refine lv_iload_n hx hb d_T_toldDigit_34 rfl (lv_at hl 5 rfl) ?_
    refine lv_bipush (v := 16) hx hb d_T_toldDigit_35 (by decide) ?_
    refine lv_imul hx hb d_T_toldDigit_37 ?_
    refine l_top (pk_mul i 16) ?_
    refine lv_bipush (v := 30) hx hb d_T_toldDigit_38 (by decide) ?_
    refine lv_irem hx hb d_T_toldDigit_40 (by decide) ?_
    refine l_top (show nI (i * 16) - nI (i * 16) / 30 * 30 = nI (i * 16 % 30) from pk_rem (d := 30) (by omega) (by omega) (by omega)) ?_
    refine lv_istore hx hb d_T_toldDigit_41 hl (by decide) rfl (fun ls hl => ?_)
    refine lv_iload_n hx hb d_T_toldDigit_43 rfl (lv_at hl 5 rfl) ?_
    refine lv_bipush (v := 6) hx hb d_T_toldDigit_44 (by decide) ?_
    refine lv_imul hx hb d_T_toldDigit_46 ?_
    refine l_top (six col) ?_
    refine lv_iconst (v := 1) hx hb d_T_toldDigit_47 (by decide) ?_
    refine lv_iadd hx hb d_T_toldDigit_48 ?_
    refine l_top (nI_1 _) ?_
    refine lv_istore hx hb d_T_toldDigit_49 hl (by decide) rfl (fun ls hl => ?_)
    have hl := lv_sub hl [4, 5, 6, 7, 3, 2, 1, 0] rfl
    have hdd : ∀ x, dz n d x < B30 := fun x => by
      unfold dz
      by_cases h : x < n
      · rw [if_pos h]; exact (hdg x h).2
      · rw [if_neg h]; decide
    have hB : B30 = 1073741824 := rfl
    have d0 := hdd (i * 16 / 30)
    have d1 := hdd (i * 16 / 30 + 1)
    have hsh : i * 16 % 30 < 30 := by omega
    have hfin : ∀ (ls : Array Slot), lv_has ls 12 [(8, .long (lN (dz n d (i * 16 / 30)))), (0, .ref t), (1, .int (nI row)), (2, .int (nI col)), (3, .int (nI i)), (4, .int (nI n)), (5, .int (nI (i * 16 / 30))), (6, .int (nI (i * 16 % 30))), (7, .int (nI (col * 6 + 1)))] → W p l e (rmN 1) s m ([Value.ref t, Value.int (nI row), Value.int (nI col), Value.int (nI i)].toArray) below meth c H locs 0 0 (MQ below (va_Qi (fun r f' => f' = f ∧ r = nI (v.natAbs / 65536 ^ i % 65536)) (mst D cls (tyl k) L) (fun q => q ∈ L)) ([Value.ref t, Value.int (nI row), Value.int (nI col), Value.int (nI i)].toArray) s 0 0 (fun q => q ∈ L)) (F0 m 105 ls [.long (lN (dz n d (i * 16 / 30 + 1)))]) := by
      intro ls hl
      -- METHOD T_toldDigit | loc 8=lo 0=t 1=row 2=col 3=i 4=n 5=q 6=sh 7=fst | ws t nu rr | fld t.numbers=nu
      refine lv_lstore hx hb d_T_toldDigit_105 hl (by decide) rfl (fun ls hl => ?_)
      refine lv_lload hx hb d_T_toldDigit_107 (lv_at hl 0 rfl) ?_
      refine lv_bipush (v := 30) hx hb d_T_toldDigit_109 (by decide) ?_
      refine lv_lshl hx hb d_T_toldDigit_111 (wb_shl _ (k := 30) (by omega)) ?_
      refine lv_lload hx hb d_T_toldDigit_112 (lv_at hl 1 rfl) ?_
      refine lv_lor hx hb d_T_toldDigit_114 ?_
      refine l_topl (gl_or (k := 30) rfl (show dz n d (i * 16 / 30) < 2 ^ 30 by omega) (by omega)) ?_
      refine lv_iload hx hb d_T_toldDigit_115 (lv_at hl 8 rfl) ?_
      refine lv_lshr hx hb d_T_toldDigit_117 (pf_shr (sm_c _ hsh) (by omega)) ?_
      have hlt : (dz n d (i * 16 / 30 + 1) * 2 ^ 30 + dz n d (i * 16 / 30)) / 2 ^ (i * 16 % 30) < 2 ^ 60 := Nat.lt_of_le_of_lt (Nat.div_le_self _ _) (by omega)
      refine lv_l2i hx hb d_T_toldDigit_118 (lnI _) ?_
      refine lv_ldc hx hb hown (hG _ ct_T_78) d_T_toldDigit_119 ?_
      refine lv_iand hx hb d_T_toldDigit_121 ?_
      refine l_top (and16 _) ?_
      exact g_reti hx hb hr hlocks hg ⟨rfl, by rw [habs, td_eq (fun x hx => (hdg x hx).2) i]⟩ d_T_toldDigit_122
    have hmid : ∀ (ls : Array Slot), lv_has ls 12 [(0, .ref t), (1, .int (nI row)), (2, .int (nI col)), (3, .int (nI i)), (4, .int (nI n)), (5, .int (nI (i * 16 / 30))), (6, .int (nI (i * 16 % 30))), (7, .int (nI (col * 6 + 1)))] → W p l e (rmN 1) s m ([Value.ref t, Value.int (nI row), Value.int (nI col), Value.int (nI i)].toArray) below meth c H locs 0 0 (MQ below (va_Qi (fun r f' => f' = f ∧ r = nI (v.natAbs / 65536 ^ i % 65536)) (mst D cls (tyl k) L) (fun q => q ∈ L)) ([Value.ref t, Value.int (nI row), Value.int (nI col), Value.int (nI i)].toArray) s 0 0 (fun q => q ∈ L)) (F0 m 75 ls [.long (lN (dz n d (i * 16 / 30)))]) := by
      intro ls hl
      -- METHOD T_toldDigit | loc 0=t 1=row 2=col 3=i 4=n 5=q 6=sh 7=fst | ws t nu rr | fld t.numbers=nu
      refine lv_lstore hx hb d_T_toldDigit_75 hl (by decide) rfl (fun ls hl => ?_)
      refine lv_iload hx hb d_T_toldDigit_77 (lv_at hl 6 rfl) ?_
      refine lv_iconst (v := 1) hx hb d_T_toldDigit_79 (by decide) ?_
      refine lv_iadd hx hb d_T_toldDigit_80 ?_
      refine l_top (nI_1 _) ?_
      refine lv_iload hx hb d_T_toldDigit_81 (lv_at hl 5 rfl) ?_
      refine lv_icmp_ge (tgt := 104) hx hb d_T_toldDigit_83 (by decide) (fun hc => ?_) (fun hc => ?_)
      · have hge : ¬ i * 16 / 30 + 1 < n := fun q => absurd hc (nI_ge q (by omega))
        refine lv_lconst (v := 0) hx hb d_T_toldDigit_104 (by decide) ?_
        refine l_topl (show (0 : Int64) = lN (dz n d (i * 16 / 30 + 1)) by unfold dz; rw [if_neg hge]; rfl) ?_
        exact hfin ls hl
      · have hlt : i * 16 / 30 + 1 < n := Classical.byContradiction fun q => hc (nI_le (by omega) (by omega))
        refine lv_aload_n hx hb d_T_toldDigit_86 rfl (lv_at hl 1 rfl) ?_
        refine k_get hx hb hG lay_T hown hw 0 rfl rfl 5 (by decide) (hG _ fl_T_21) (fun _ h9 => h9) rfl d_T_toldDigit_87 ?_
        refine lv_iload_n hx hb d_T_toldDigit_90 rfl (lv_at hl 2 rfl) ?_
        refine k_aaldA hx hb hw 1 1 rfl rfl (row) (rfl) (hrow) (by first | decide | omega) (hzs row hrow) d_T_toldDigit_91 ?_
        refine lv_iload hx hb d_T_toldDigit_92 (lv_at hl 8 rfl) ?_
        refine lv_iload hx hb d_T_toldDigit_94 (lv_at hl 6 rfl) ?_
        refine lv_iadd hx hb d_T_toldDigit_96 ?_
        refine l_top (nI_add _ _) ?_
        refine lv_iconst (v := 1) hx hb d_T_toldDigit_97 (by decide) ?_
        refine lv_iadd hx hb d_T_toldDigit_98 ?_
        refine l_top (nI_1 _) ?_
        refine k_iald hx hb hw 2 0 rfl rfl (col * 6 + 1 + i * 16 / 30 + 1) (rfl) (by omega) (by first | decide | omega) d_T_toldDigit_99 ?_
        have hdv := (hdg (i * 16 / 30 + 1) hlt).1
        rw [← Nat.add_assoc] at hdv
        refine l_top hdv ?_
        refine lv_i2l hx hb d_T_toldDigit_100 (nI_L (by have := (hdg (i * 16 / 30 + 1) hlt).2; omega)) ?_
        refine lv_goto (tgt := 105) hx hb d_T_toldDigit_101 (by decide) ?_
        refine l_topl (show lN (d (i * 16 / 30 + 1)) = lN (dz n d (i * 16 / 30 + 1)) by unfold dz; rw [if_pos hlt]) ?_
        exact hfin ls hl
    refine lv_iload hx hb d_T_toldDigit_51 (lv_at hl 5 rfl) ?_
    refine lv_iload hx hb d_T_toldDigit_53 (lv_at hl 4 rfl) ?_
    refine lv_icmp_ge (tgt := 74) hx hb d_T_toldDigit_55 (by decide) (fun hc => ?_) (fun hc => ?_)
    · have hge : ¬ i * 16 / 30 < n := fun q => absurd hc (nI_ge q (by omega))
      refine lv_lconst (v := 0) hx hb d_T_toldDigit_74 (by decide) ?_
      refine l_topl (show (0 : Int64) = lN (dz n d (i * 16 / 30)) by unfold dz; rw [if_neg hge]; rfl) ?_
      exact hmid ls hl
    · have hlt : i * 16 / 30 < n := Classical.byContradiction fun q => hc (nI_le (by omega) (by omega))
      refine lv_aload_n hx hb d_T_toldDigit_58 rfl (lv_at hl 0 rfl) ?_
      refine k_get hx hb hG lay_T hown hw 0 rfl rfl 5 (by decide) (hG _ fl_T_21) (fun _ h9 => h9) rfl d_T_toldDigit_59 ?_
      refine lv_iload_n hx hb d_T_toldDigit_62 rfl (lv_at hl 1 rfl) ?_
      refine k_aaldA hx hb hw 1 1 rfl rfl (row) (rfl) (hrow) (by first | decide | omega) (hzs row hrow) d_T_toldDigit_63 ?_
      refine lv_iload hx hb d_T_toldDigit_64 (lv_at hl 7 rfl) ?_
      refine lv_iload hx hb d_T_toldDigit_66 (lv_at hl 5 rfl) ?_
      refine lv_iadd hx hb d_T_toldDigit_68 ?_
      refine l_top (nI_add _ _) ?_
      refine k_iald hx hb hw 2 0 rfl rfl (col * 6 + 1 + i * 16 / 30) (rfl) (by omega) (by first | decide | omega) d_T_toldDigit_69 ?_
      refine l_top (hdg (i * 16 / 30) hlt).1 ?_
      refine lv_i2l hx hb d_T_toldDigit_70 (nI_L (by have := (hdg (i * 16 / 30) hlt).2; omega)) ?_
      refine lv_goto (tgt := 75) hx hb d_T_toldDigit_71 (by decide) ?_
      refine l_topl (show lN (d (i * 16 / 30)) = lN (dz n d (i * 16 / 30)) by unfold dz; rw [if_pos hlt]) ?_
      exact hmid ls hl
  · have hgt : ¬ i ≤ n * 30 / 16 := fun q => hc (hcmp.mpr q)
    refine lv_iconst (v := 0) hx hb d_T_toldDigit_23 (by decide) ?_
    refine g_reti hx hb hr hlocks hg ⟨rfl, ?_⟩ d_T_toldDigit_24
    have : v.natAbs / 65536 ^ i = 0 := by
      rw [habs]
      refine Nat.div_eq_of_lt (Nat.lt_of_lt_of_le (cd_lt n (fun t ht => (hdg t ht).2)) ?_)
      have a1 : (65536 : Nat) = 2 ^ 16 := by decide
      have a2 : B30 = 2 ^ 30 := by decide
      rw [a1, a2, ← Nat.pow_mul, ← Nat.pow_mul]
      exact Nat.pow_le_pow_right (by decide) (by omega)
    rw [this]; rfl
end TD


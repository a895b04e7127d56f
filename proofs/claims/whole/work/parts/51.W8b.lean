-- ===== Whole: divide, its loop =====
section DIV
variable {p : Program} {l : Launch} {e : Env} {s : State} {m : MethodId} {args : Array Value} {below : List Frame} {meth : Method} {c : Code} {Q : State → Prop} {D : va_G} {k : Nat → ClassId} {L : List Nat} {f0 : Nat → va_E} {H0 : Heap}
set_option maxRecDepth 100000 in
set_option maxHeartbeats 4000000 in
theorem w_div (S : CallFix p m c c_W_divide 10 s args G R_W) {x xl nx o ol no q ql nq sh tp V : Nat} {gx go gq : Int32} {dd : Nat → Nat} (hnx : nx ≤ 11) (hno : 1 ≤ no) (hnn : no ≤ nx) (hnq : nq = nx - no + 1) (hsh : sh ≤ 29) (hdd : ∀ t, t < 12 → dd t < B30) (hD : 0 < cd B30 no dd) (htop : dd (no - 1) < 2 ^ (30 - sh)) (htp : tp = 2 ^ sh * cd B30 no dd / B30 ^ (no - 1)) (htp2 : B30 ≤ 2 * tp) (htp3 : tp < 1073741824) :
    ∀ (j : Nat) (r rq : Nat → Nat) (H : Heap) (locs : List Loc) (ls : Array Slot), j ≤ nq → (∀ t, t < 12 → r t < B30) → (∀ t, t < 12 → rq t < B30) → V = cd B30 no dd * (B30 ^ j * cd B30 (nq - j) (fun t => rq (j + t))) + cd B30 (j + no) r ∧ cd B30 (j + no) r < cd B30 no dd * B30 ^ j →
    lv_has ls 10 [(0, .ref x), (1, .ref o), (2, .ref q), (3, .int (nI no)), (4, .int (nI sh)), (5, .long (lN tp)), (7, .int (zI ((j : Int) - 1)))] → kw D cls (tyl k) L s H0 f0 [(x, cW xl nx gx), (xl, cD k r), (o, cW ol no go), (ol, cD k dd), (q, cW ql nq gq), (ql, cD k rq)] H locs →
    (∀ (r rq : Nat → Nat) (H : Heap) (locs : List Loc) (ls : Array Slot), (∀ t, t < 12 → r t < B30) → (∀ t, t < 12 → rq t < B30) → V = cd B30 no dd * cd B30 nq rq + cd B30 no r → cd B30 no r < cd B30 no dd → lv_has ls 10 [(0, .ref x), (1, .ref o), (2, .ref q), (3, .int (nI no))] → kw D cls (tyl k) L s H0 f0 [(x, cW xl nx gx), (xl, cD k r), (o, cW ol no go), (ol, cD k dd), (q, cW ql nq gq), (ql, cD k rq)] H locs → W p l e (rmN 2) s m args below meth c H locs 0 0 Q (F0 m 155 ls [])) →
    W p l e (rmN 2) s m args below meth c H locs 0 0 Q (F0 m 105 ls []) := by
  have hx := S.1
  have hb := S.2.1
  have hown : s.vm.findClass R_W = some m.cls := S.2.2.2.1
  have hG := S.2.2.2.2
  intro j
  induction j with
  | zero =>
    intro r rq H locs ls hjq hrr hrq he hl hw kx
    -- METHOD W_divide | loc 0=x 1=o 2=q 3=no 4=sh 5=tp 7=at | ws x xl o ol q ql | fld x.limbs=xl o.limbs=ol q.limbs=ql
    refine lv_iload hx hb d_W_divide_105 (lv_at hl 6 rfl) ?_
    refine lv_if_lt (tgt := 155) hx hb d_W_divide_107 (by decide) (fun hc => ?_) (fun hc => ?_)
    · -- STK
      have hl := lv_sub hl [0, 1, 2, 3] rfl
      refine kx r rq H locs ls hrr hrq ?_ ?_ hl hw
      · have h1 := he.1
        rw [Nat.pow_zero, Nat.one_mul, Nat.sub_zero, Nat.zero_add] at h1
        rw [h1]
        congr 2
        exact cd_congr nq (fun t _ => by rw [Nat.zero_add])
      · have h1 := he.2
        rw [Nat.pow_zero, Nat.mul_one, Nat.zero_add] at h1
        exact h1
    · exact absurd (by decide) hc
  | succ j ih =>
    intro r rq H locs ls hjq hrr hrq he hl hw kx
    have ej : zI (((j + 1 : Nat) : Int) - 1) = nI j := by rw [← zI_n]; congr 1; omega
    rw [ej] at hl
    have hB30 : B30 = 1073741824 := rfl
    have hB0 : 0 < B30 := by decide
    have hPj : 0 < B30 ^ j := Nat.pow_pos hB0
    have hjn : j + no + 1 ≤ 12 := by omega
    generalize hX : cd B30 (no + 1) (fun t => r (j + t)) = X
    have hsplit : cd B30 (j + 1 + no) r = cd B30 j r + B30 ^ j * X := by
      rw [show j + 1 + no = j + (no + 1) by omega, ← hX]; exact cd_split j _ r
    have hlow := cd_lt j (b := B30) (d := r) (fun i hi => hrr i (by omega))
    have hXlt : X < cd B30 no dd * B30 := by
      have h2 := he.2
      rw [hsplit, Nat.pow_succ] at h2
      have h3 : B30 ^ j * X < B30 ^ j * (cd B30 no dd * B30) := by
        rw [Nat.mul_left_comm]
        omega
      exact Nat.lt_of_mul_lt_mul_left h3
    have hDlt : cd B30 no dd < 2 ^ (30 - sh) * B30 ^ (no - 1) := by
      obtain ⟨m, rfl⟩ : ∃ m, no = m + 1 := ⟨no - 1, by omega⟩
      rw [show m + 1 - 1 = m by omega] at htop ⊢
      have h5 := cd_lt m (b := B30) (d := dd) (fun i hi => hdd i (by omega))
      have h6 : (dd m + 1) * B30 ^ m ≤ 2 ^ (30 - sh) * B30 ^ m := Nat.mul_le_mul_right _ htop
      rw [Nat.add_mul, Nat.one_mul] at h6
      show cd B30 m dd + dd m * B30 ^ m < _
      omega
    have hhi : r (j + no) < 2 ^ (30 - sh) := by
      have h7 : r (j + no) * B30 ^ no ≤ X := by rw [← hX]; exact Nat.le_add_left _ _
      have h8 : r (j + no) * B30 ^ no < 2 ^ (30 - sh) * B30 ^ no := by
        have h9 : cd B30 no dd * B30 ≤ 2 ^ (30 - sh) * B30 ^ (no - 1) * B30 := Nat.mul_le_mul_right _ (by omega)
        rw [Nat.mul_assoc, ← Nat.pow_succ, show (no - 1).succ = no by omega] at h9
        omega
      exact Nat.lt_of_mul_lt_mul_right h8
    have hlb : lb r (j + no + 1) 1 < 2 ^ (30 - sh) := by
      unfold lb
      rw [if_pos (by omega), show j + no + 1 - 1 = j + no by omega]
      exact hhi
    have hxt := xt_facts (r := r) (j := j) (no := no) (sh := sh) (fun t ht => hrr t (by omega)) hno (by omega)
    rw [hX] at hxt
    have hgs := guess (B := B30) (P := B30 ^ (no - 1)) (S := 2 ^ sh) (D := cd B30 no dd) (X := X) (t := tp) (xt := tb r (j + no + 1) sh) (g := min (tb r (j + no + 1) sh / tp) (B30 - 1)) (by omega) (Nat.pow_pos hB0) hD hXlt htp htp2 hxt.1 hxt.2 rfl
    rw [show B30 - 1 = 1073741823 by decide +kernel] at hgs
    have hxtlt : tb r (j + no + 1) sh < 9223372036854775808 := by
      have h1 := lb_lt (d := r) (en := j + no + 1) (q := 2) hrr hjn (by omega)
      have h3 := lb_lt (d := r) (en := j + no + 1) (q := 3) hrr hjn (by omega)
      have q1 : lb r (j + no + 1) 1 * B30 + lb r (j + no + 1) 2 < 2 ^ (30 - sh) * B30 := by
        have : (lb r (j + no + 1) 1 + 1) * B30 ≤ 2 ^ (30 - sh) * B30 := Nat.mul_le_mul_right _ hlb
        rw [Nat.add_mul, Nat.one_mul] at this
        omega
      have q2 : (lb r (j + no + 1) 1 * B30 + lb r (j + no + 1) 2) * 2 ^ sh < 2 ^ (30 - sh) * B30 * 2 ^ sh := Nat.mul_lt_mul_of_pos_right q1 (Nat.pow_pos (by omega))
      have q3 : 2 ^ (30 - sh) * B30 * 2 ^ sh = 2 ^ 60 := by
        rw [show B30 = 2 ^ 30 from rfl, Nat.mul_right_comm, ← Nat.pow_add, show 30 - sh + sh = 30 by omega, ← Nat.pow_add]
      have q4 : lb r (j + no + 1) 3 / 2 ^ (30 - sh) ≤ lb r (j + no + 1) 3 := Nat.div_le_self _ _
      unfold tb
      omega
    -- METHOD W_divide | loc 0=x 1=o 2=q 3=no 4=sh 5=tp 7=at | ws x xl o ol q ql | fld x.limbs=xl o.limbs=ol q.limbs=ql
    refine lv_iload hx hb d_W_divide_105 (lv_at hl 6 rfl) ?_
    refine lv_if_lt (tgt := 155) hx hb d_W_divide_107 (by decide) (fun hc => ?_) (fun hc => ?_)
    · exact absurd hc (nI_pos (by omega))
    · obtain ⟨f, hw, hk⟩ := hw
      refine lv_aload_n hx hb d_W_divide_110 rfl (lv_at hl 0 rfl) ?_
      refine lv_iload hx hb d_W_divide_111 (lv_at hl 6 rfl) ?_
      refine lv_iload_n hx hb d_W_divide_113 rfl (lv_at hl 3 rfl) ?_
      refine lv_iadd hx hb d_W_divide_114 ?_
      refine l_top (nI_add _ _) ?_
      refine lv_iconst (v := 1) hx hb d_W_divide_115 (by decide) ?_
      refine lv_iadd hx hb d_W_divide_116 ?_
      refine l_top (nI_1 _) ?_
      refine lv_iload hx hb d_W_divide_117 (lv_at hl 4 rfl) ?_
      refine g_ol (c_V (np := 2) S (m_W_topBelow l D k L f x xl nx gx r (j + no + 1) sh hrr hjn hsh hlb (kn_sub hk [0, 1] rfl rfl)) hw ((hk.1 0 _ rfl).1) ((hk.1 0 _ rfl).2) rfl ml_W_65 im_W_topBelow se_W_W_topBelow in_W co_W_topBelow (by decide +kernel) rfl ⟨rfl, rfl, by decide, by decide⟩ hl.1 rfl (by simp [Value.category]) d_W_divide_119 ⟨Nat.zero_le _, Nat.zero_le _⟩) hw (fun r1 f1 H locs hp hw2 => ?_)
      rw [hp.1] at hw2
      have hw := hw2
      refine l_topl hp.2 ?_
      refine lv_lload hx hb d_W_divide_122 (lv_at hl 5 rfl) ?_
      refine lv_ldiv hx hb d_W_divide_124 (fun h => by have := (pk_lEQ (a := tp) (b := 0) (by omega) (by omega)).mp h; omega) ?_
      refine l_topl (pk_lDiv hxtlt (by omega) (by omega)) ?_
      refine l_topl (zL_n _).symm ?_
      refine lv_ldc2 hx hb hown (hG _ ct_W_43) d_W_divide_125 ?_
      refine l_topl maskL ?_
      refine g_ol (c_X (np := 2) S (m_minL l D k L f ((tb r (j + no + 1) sh / tp : Nat) : Int) ((1073741823 : Nat) : Int) (rL_n (Nat.lt_of_le_of_lt (Nat.div_le_self _ _) hxtlt)) (rL_n (n := 1073741823) (by omega))) hw ml_W_73 st_JM_min_0 in_JM co_JM_min_0 (by decide +kernel) rfl ⟨rfl, rfl, by decide, by decide⟩ hl.1 rfl (by simp [Value.category]) d_W_divide_128 ⟨Nat.zero_le _, Nat.zero_le _⟩) hw (fun r2 f2 H locs hp2 hw3 => ?_)
      rw [hp2.1] at hw3
      refine l_topl (hp2.2.trans (pk_lMin _ _)) ?_
      have hw : kw D cls (tyl k) L s H0 f0 [(x, cW xl nx gx), (xl, cD k r), (o, cW ol no go), (ol, cD k dd), (q, cW ql nq gq), (ql, cD k rq)] H locs := ⟨f, hw3, hk⟩
      refine lv_lstore hx hb d_W_divide_131 hl (by decide) rfl (fun ls hl => ?_)
      refine lv_aload_n hx hb d_W_divide_133 rfl (lv_at hl 3 rfl) ?_
      refine k_get hx hb hG lay_W hown hw 4 rfl rfl 0 (by decide) (hG _ fl_W_11) (fun _ h9 => h9) rfl d_W_divide_134 ?_
      refine lv_iload hx hb d_W_divide_137 (lv_at hl 7 rfl) ?_
      refine lv_aload_n hx hb d_W_divide_139 rfl (lv_at hl 1 rfl) ?_
      refine lv_aload_n hx hb d_W_divide_140 rfl (lv_at hl 2 rfl) ?_
      refine lv_lload hx hb d_W_divide_141 (lv_at hl 0 rfl) ?_
      refine lv_iload hx hb d_W_divide_143 (lv_at hl 7 rfl) ?_
      obtain ⟨f3, hw, hk3⟩ := hw
      generalize hG0 : min (tb r (j + no + 1) sh / tp) 1073741823 = G0 at hl ⊢
      have hgs1 : X / cd B30 no dd ≤ G0 := by rw [← hG0]; exact hgs.1
      have hgs2 : G0 ≤ X / cd B30 no dd + 2 := by rw [← hG0]; exact hgs.2
      have hG1 : G0 ≤ 1073741823 := by rw [← hG0]; exact Nat.min_le_right _ _
      refine g_oi (c_V (np := 3) S (m_W_takeAway l D k L f3 x xl nx o ol no j G0 gx go r dd (by omega) hG1 hrr hdd hD (by rw [hX]; exact hgs1) (by rw [hX]; exact hgs2) (kn_sub hk3 [0, 1, 2, 3] rfl rfl)) hw ((hk3.1 0 _ rfl).1) ((hk3.1 0 _ rfl).2) rfl ml_W_76 im_W_takeAway se_W_W_takeAway in_W co_W_takeAway (by decide +kernel) rfl ⟨rfl, rfl, by decide, by decide⟩ hl.1 rfl (by simp [Value.category]) d_W_divide_145 ⟨Nat.zero_le _, Nat.zero_le _⟩) hw (fun r4 f4 H locs hp4 hw => ?_)
      rw [hX] at hp4
      obtain ⟨hr4, r', hrr', hro, hrt, hrm, hk4⟩ := hp4
      have hk5 : kn L f0 f4 [(x, cW xl nx gx), (xl, cD k r'), (o, cW ol no go), (ol, cD k dd), (q, cW ql nq gq), (ql, cD k rq)] := by
        have nd := kn_nd hk3
        simp only [List.map_cons, List.map_nil, List.nodup_cons, List.mem_cons, List.not_mem_nil, or_false, not_or] at nd
        obtain ⟨⟨n01, n02, n03, n04, n05⟩, ⟨n12, n13, n14, n15⟩, ⟨n23, n24, n25⟩, ⟨n34, n35⟩, n45, -⟩ := nd
        refine kn_join hk3 hk4 (by simp) rfl (fun q hq => ?_)
        simp only [List.mem_cons, List.not_mem_nil, or_false] at hq
        rcases hq with rfl | rfl | rfl | rfl | rfl | rfl
        · exact (hk4.1 0 _ rfl).2
        · exact (hk4.1 1 _ rfl).2
        · exact (hk4.1 2 _ rfl).2
        · exact (hk4.1 3 _ rfl).2
        · rw [kn_off hk4 (by simp; exact ⟨Ne.symm n04, Ne.symm n14, Ne.symm n24, Ne.symm n34⟩)]; exact (hk3.1 4 _ rfl).2
        · rw [kn_off hk4 (by simp; exact ⟨Ne.symm n05, Ne.symm n15, Ne.symm n25, Ne.symm n35⟩)]; exact (hk3.1 5 _ rfl).2
      have hw : kw D cls (tyl k) L s H0 f0 [(x, cW xl nx gx), (xl, cD k r'), (o, cW ol no go), (ol, cD k dd), (q, cW ql nq gq), (ql, cD k rq)] H locs := ⟨f4, hw, hk5⟩
      refine l_top hr4 ?_
      have hqd : X / cd B30 no dd < B30 := Nat.div_lt_of_lt_mul hXlt
      refine k_iast hx hb hw 5 0 rfl rfl (j) (rfl) (by omega) (by first | decide | omega) d_W_divide_148 (fun H locs hw => ?_)
      rw [nD_upd] at hw
      refine lv_iinc (k := 7) hx hb d_W_divide_149 hl rfl rfl (by decide) rfl (fun ls hl => ?_)
      refine lv_goto (tgt := 105) hx hb d_W_divide_152 (by decide) ?_
      have hl := lv_sub hl [2, 3, 4, 5, 6, 7, 0] rfl
      refine ih r' (va_up rq j (X / cd B30 no dd)) H locs ls (by omega) hrr' (fun t ht => ?_) ⟨?_, ?_⟩ (show lv_has ls 10 [(0, .ref x), (1, .ref o), (2, .ref q), (3, .int (nI no)), (4, .int (nI sh)), (5, .long (lN tp)), (7, .int (zI ((j : Int) - 1)))] from ?_) hw kx
      · by_cases e : t = j
        · rw [e, va_up_self]; exact hqd
        · rw [va_up_ne _ _ e]; exact hrq t ht
      · have e1 : cd B30 (nq - j) (fun t => va_up rq j (X / cd B30 no dd) (j + t)) = X / cd B30 no dd + B30 * cd B30 (nq - (j + 1)) (fun t => rq (j + 1 + t)) := by
          rw [show nq - j = 1 + (nq - (j + 1)) by omega, cd_split 1]
          have a1 : cd B30 1 (fun t => va_up rq j (X / cd B30 no dd) (j + t)) = X / cd B30 no dd := by
            show 0 + va_up rq j (X / cd B30 no dd) (j + 0) * B30 ^ 0 = _
            rw [Nat.add_zero, va_up_self, Nat.pow_zero]; omega
          rw [a1, Nat.pow_one, cd_congr (nq - (j + 1)) (d := fun t => va_up rq j (X / cd B30 no dd) (j + (1 + t))) (e := fun t => rq (j + 1 + t)) (fun t _ => by rw [va_up_ne _ _ (by omega)]; congr 1; omega)]
        have e2 : cd B30 (j + no) r' = cd B30 j r + B30 ^ j * (X % cd B30 no dd) := by
          rw [cd_split j no r', hrm, cd_congr j (d := r') (e := r) (fun t ht => hro t (by omega))]
        have e3 := he.1
        rw [hsplit, Nat.pow_succ] at e3
        rw [e1, e2, e3]
        have e4 := Nat.mod_add_div X (cd B30 no dd)
        generalize cd B30 (nq - (j + 1)) (fun t => rq (j + 1 + t)) = QQ
        generalize X / cd B30 no dd = qd at e4 ⊢
        generalize X % cd B30 no dd = md at e4 ⊢
        rw [← e4]
        generalize cd B30 no dd = DD
        generalize B30 ^ j = PP
        generalize cd B30 j r = lw
        generalize B30 = BB
        rw [Nat.mul_add, Nat.mul_add, Nat.mul_add, Nat.mul_left_comm PP DD qd, ← Nat.mul_assoc PP BB QQ]
        omega
      · have e2 : cd B30 (j + no) r' = cd B30 j r + B30 ^ j * (X % cd B30 no dd) := by
          rw [cd_split j no r', hrm, cd_congr j (d := r') (e := r) (fun t ht => hro t (by omega))]
        rw [e2]
        have hml := Nat.mod_lt X hD
        have h7 : B30 ^ j * (X % cd B30 no dd + 1) ≤ B30 ^ j * cd B30 no dd := Nat.mul_le_mul_left _ hml
        rw [Nat.mul_add, Nat.mul_one] at h7
        rw [Nat.mul_comm (cd B30 no dd)]
        omega
      · have e5 : nI j + Int32.ofInt (-1) = zI ((j : Int) - 1) := by rw [← zI_n]; show zI _ + zI _ = _; rw [zI_add]; congr 1
        rw [← e5]; exact hl
end DIV


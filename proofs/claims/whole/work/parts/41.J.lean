-- ===== the JDK's small functions =====
set_option maxRecDepth 100000 in
set_option maxHeartbeats 4000000 in
theorem m_compare (l : Launch) (D : va_G) (k : Nat → ClassId) (L : List Nat) (f : Nat → va_E) (x y : Int32) : Mi l y_JI_compare (Cond.code y_JI_compare c_JI_compare 2 (some .int) :: G) (rmN 0) D cls (tyl k) L f [.int x, .int y] (fun r f' => f' = f ∧ r = if x < y then -1 else if x = y then 0 else 1) := by
  -- METHOD JI_compare | loc 0=x 1=y | ws
  refine mk_metF (by decide +kernel) (Nat.le_of_ble_eq_true rfl) (fun p e s m below meth c ls S hr hlocks hw hl => ?_)
  have hx := S.1
  have hb := S.2.1
  have hown : s.vm.findClass R_JI = some m.cls := S.2.2.2.1
  have hG := S.2.2.2.2
  have hl : lv_has ls 2 [(0, .int x), (1, .int y)] := hl
  have hg := hw
  refine lv_iload_n hx hb d_JI_compare_0 rfl (lv_at hl 0 rfl) ?_
  refine lv_iload_n hx hb d_JI_compare_1 rfl (lv_at hl 1 rfl) ?_
  refine lv_icmp_ge (tgt := 9) hx hb d_JI_compare_2 (by decide) (fun hc => ?_) (fun hc => ?_)
  · have h1 : ¬ x < y := Int32.not_lt.mpr hc
    refine lv_iload_n hx hb d_JI_compare_9 rfl (lv_at hl 0 rfl) ?_
    refine lv_iload_n hx hb d_JI_compare_10 rfl (lv_at hl 1 rfl) ?_
    refine lv_icmp_ne (tgt := 18) hx hb d_JI_compare_11 (by decide) (fun hc => ?_) (fun hc => ?_)
    · -- STK
      refine lv_iconst (v := 1) hx hb d_JI_compare_18 (by decide) ?_
      exact g_reti hx hb hr hlocks hg ⟨rfl, by rw [if_neg h1, if_neg hc]⟩ d_JI_compare_19
    · -- STK
      refine lv_iconst (v := 0) hx hb d_JI_compare_14 (by decide) ?_
      refine lv_goto (tgt := 19) hx hb d_JI_compare_15 (by decide) ?_
      exact g_reti hx hb hr hlocks hg ⟨rfl, by rw [if_neg h1, if_pos hc]⟩ d_JI_compare_19
  · have h1 : x < y := Int32.not_le.mp hc
    refine lv_iconst (v := (-1)) hx hb d_JI_compare_5 (by decide) ?_
    refine lv_goto (tgt := 19) hx hb d_JI_compare_6 (by decide) ?_
    exact g_reti hx hb hr hlocks hg ⟨rfl, by rw [if_pos h1]⟩ d_JI_compare_19
set_option maxRecDepth 100000 in
set_option maxHeartbeats 4000000 in
theorem m_abs (l : Launch) (D : va_G) (k : Nat → ClassId) (L : List Nat) (f : Nat → va_E) (x : Int32) : Mi l y_JM_abs (Cond.code y_JM_abs c_JM_abs 1 (some .int) :: G) (rmN 0) D cls (tyl k) L f [.int x] (fun r f' => f' = f ∧ r = if 0 ≤ x then x else -x) := by
  -- METHOD JM_abs | loc 0=x | ws
  refine mk_metF (by decide +kernel) (Nat.le_of_ble_eq_true rfl) (fun p e s m below meth c ls S hr hlocks hw hl => ?_)
  have hx := S.1
  have hb := S.2.1
  have hown : s.vm.findClass R_JM = some m.cls := S.2.2.2.1
  have hG := S.2.2.2.2
  have hl : lv_has ls 1 [(0, .int x)] := hl
  have hg := hw
  refine lv_iload_n hx hb d_JM_abs_0 rfl (lv_at hl 0 rfl) ?_
  refine lv_if_ge (tgt := 9) hx hb d_JM_abs_1 (by decide) (fun hc => ?_) (fun hc => ?_)
  · refine lv_iload_n hx hb d_JM_abs_9 rfl (lv_at hl 0 rfl) ?_
    exact g_reti hx hb hr hlocks hg ⟨rfl, by rw [if_pos hc]⟩ d_JM_abs_10
  · -- STK
    refine lv_iload_n hx hb d_JM_abs_4 rfl (lv_at hl 0 rfl) ?_
    refine lv_ineg hx hb d_JM_abs_5 ?_
    refine lv_goto (tgt := 10) hx hb d_JM_abs_6 (by decide) ?_
    exact g_reti hx hb hr hlocks hg ⟨rfl, by rw [if_neg hc]⟩ d_JM_abs_10
set_option maxRecDepth 100000 in
set_option maxHeartbeats 4000000 in
theorem m_max (l : Launch) (D : va_G) (k : Nat → ClassId) (L : List Nat) (f : Nat → va_E) (x y : Int32) : Mi l y_JM_max_1 (Cond.code y_JM_max_1 c_JM_max_1 2 (some .int) :: G) (rmN 0) D cls (tyl k) L f [.int x, .int y] (fun r f' => f' = f ∧ r = if x < y then y else x) := by
  -- METHOD JM_max_1 | loc 0=x 1=y | ws
  refine mk_metF (by decide +kernel) (Nat.le_of_ble_eq_true rfl) (fun p e s m below meth c ls S hr hlocks hw hl => ?_)
  have hx := S.1
  have hb := S.2.1
  have hown : s.vm.findClass R_JM = some m.cls := S.2.2.2.1
  have hG := S.2.2.2.2
  have hl : lv_has ls 2 [(0, .int x), (1, .int y)] := hl
  have hg := hw
  refine lv_iload_n hx hb d_JM_max_1_0 rfl (lv_at hl 0 rfl) ?_
  refine lv_iload_n hx hb d_JM_max_1_1 rfl (lv_at hl 1 rfl) ?_
  refine lv_icmp_lt (tgt := 9) hx hb d_JM_max_1_2 (by decide) (fun hc => ?_) (fun hc => ?_)
  · refine lv_iload_n hx hb d_JM_max_1_9 rfl (lv_at hl 1 rfl) ?_
    exact g_reti hx hb hr hlocks hg ⟨rfl, by rw [if_pos hc]⟩ d_JM_max_1_10
  · -- STK
    refine lv_iload_n hx hb d_JM_max_1_5 rfl (lv_at hl 0 rfl) ?_
    refine lv_goto (tgt := 10) hx hb d_JM_max_1_6 (by decide) ?_
    exact g_reti hx hb hr hlocks hg ⟨rfl, by rw [if_neg hc]⟩ d_JM_max_1_10
set_option maxRecDepth 100000 in
set_option maxHeartbeats 4000000 in
theorem m_min (l : Launch) (D : va_G) (k : Nat → ClassId) (L : List Nat) (f : Nat → va_E) (x y : Int32) : Mi l y_JM_min_1 (Cond.code y_JM_min_1 c_JM_min_1 2 (some .int) :: G) (rmN 0) D cls (tyl k) L f [.int x, .int y] (fun r f' => f' = f ∧ r = if y < x then y else x) := by
  -- METHOD JM_min_1 | loc 0=x 1=y | ws
  refine mk_metF (by decide +kernel) (Nat.le_of_ble_eq_true rfl) (fun p e s m below meth c ls S hr hlocks hw hl => ?_)
  have hx := S.1
  have hb := S.2.1
  have hown : s.vm.findClass R_JM = some m.cls := S.2.2.2.1
  have hG := S.2.2.2.2
  have hl : lv_has ls 2 [(0, .int x), (1, .int y)] := hl
  have hg := hw
  refine lv_iload_n hx hb d_JM_min_1_0 rfl (lv_at hl 0 rfl) ?_
  refine lv_iload_n hx hb d_JM_min_1_1 rfl (lv_at hl 1 rfl) ?_
  refine lv_icmp_gt (tgt := 9) hx hb d_JM_min_1_2 (by decide) (fun hc => ?_) (fun hc => ?_)
  · refine lv_iload_n hx hb d_JM_min_1_9 rfl (lv_at hl 1 rfl) ?_
    exact g_reti hx hb hr hlocks hg ⟨rfl, by rw [if_pos hc]⟩ d_JM_min_1_10
  · -- STK
    refine lv_iload_n hx hb d_JM_min_1_5 rfl (lv_at hl 0 rfl) ?_
    refine lv_goto (tgt := 10) hx hb d_JM_min_1_6 (by decide) ?_
    exact g_reti hx hb hr hlocks hg ⟨rfl, by rw [if_neg hc]⟩ d_JM_min_1_10
set_option maxRecDepth 100000 in
set_option maxHeartbeats 4000000 in
theorem m_floorMod (l : Launch) (D : va_G) (k : Nat → ClassId) (L : List Nat) (f : Nat → va_E) (a b : Int) (ha : rI a) (hb0 : 0 < b) (hb1 : rI b) : Mi l y_JM_floorMod (Cond.code y_JM_floorMod c_JM_floorMod 3 (some .int) :: G) (rmN 0) D cls (tyl k) L f [.int (zI a), .int (zI b)] (fun r f' => f' = f ∧ r = zI (a % b)) := by
  -- METHOD JM_floorMod | loc 0=x 1=y | ws
  refine mk_metF (by decide +kernel) (Nat.le_of_ble_eq_true rfl) (fun p e s m below meth c ls S hr hlocks hw hl => ?_)
  have hx := S.1
  have hb := S.2.1
  have hown : s.vm.findClass R_JM = some m.cls := S.2.2.2.1
  have hG := S.2.2.2.2
  have hl : lv_has ls 3 [(0, .int (zI a)), (1, .int (zI b))] := hl
  have hg := hw
  have hbn : ¬ zI b = 0 := fun h => by have := (zI_eq hb1 (b := 0) ⟨by decide, by decide⟩).mp h; omega
  refine lv_iload_n hx hb d_JM_floorMod_0 rfl (lv_at hl 0 rfl) ?_
  refine lv_iload_n hx hb d_JM_floorMod_1 rfl (lv_at hl 1 rfl) ?_
  refine lv_irem hx hb d_JM_floorMod_2 hbn ?_
  refine l_top (zI_rem ha hb1 hb0) ?_
  have hemod : a % b = if 0 ≤ a ∨ b ∣ a then a.tmod b else a.tmod b + b.natAbs := by
    rw [Int.emod_eq_tmod]
    by_cases h : 0 ≤ a ∨ b ∣ a
    · rw [if_pos h, if_pos h]; exact Int.add_zero _
    · rw [if_neg h, if_neg h]
  have hnat : (b.natAbs : Int) = b := by omega
  have hmr : rI (a.tmod b) := by
    have h1 := Int.tmod_lt_of_pos a hb0
    have h2 : -b < a.tmod b := by
      rcases Int.lt_or_le a 0 with h | h
      · have := Int.tmod_lt_of_pos (-a) hb0
        rw [Int.neg_tmod] at this
        omega
      · have := Int.tmod_nonneg b h
        omega
    have := hb1.2
    exact ⟨by omega, by omega⟩
  have hsg : (0 ≤ zI a ^^^ zI b) ↔ 0 ≤ a := by
    have hbp : (zI b).toBitVec.msb = false := by
      rw [BitVec.msb_eq_toInt]
      show decide ((zI b).toInt < 0) = false
      rw [zI_t hb1]
      exact decide_eq_false (by omega)
    have h1 : (zI a ^^^ zI b).toBitVec.msb = (zI a).toBitVec.msb := by
      rw [Int32.toBitVec_xor, BitVec.msb_xor, hbp, Bool.xor_false]
    have h2 : ∀ x : Int32, 0 ≤ x ↔ x.toBitVec.msb = false := by
      intro x
      rw [BitVec.msb_eq_toInt, Int32.le_iff_toInt_le]
      show (0 : Int) ≤ x.toInt ↔ decide (x.toInt < 0) = false
      rw [decide_eq_false_iff_not]
      omega
    rw [h2, h1, ← h2, z_0, zI_le ⟨by decide, by decide⟩ ha]
  refine lv_istore_n hx hb d_JM_floorMod_3 rfl hl (by decide) rfl (fun ls hl => ?_)
  refine lv_iload_n hx hb d_JM_floorMod_4 rfl (lv_at hl 1 rfl) ?_
  refine lv_iload_n hx hb d_JM_floorMod_5 rfl (lv_at hl 2 rfl) ?_
  refine lv_ixor hx hb d_JM_floorMod_6 ?_
  refine lv_if_ge (tgt := 18) hx hb d_JM_floorMod_7 (by decide) (fun hc => ?_) (fun hc => ?_)
  · have h0 : 0 ≤ a := hsg.mp hc
    refine lv_iload_n hx hb d_JM_floorMod_18 rfl (lv_at hl 0 rfl) ?_
    exact g_reti hx hb hr hlocks hg ⟨rfl, by rw [hemod, if_pos (Or.inl h0)]⟩ d_JM_floorMod_19
  · have h0 : ¬ 0 ≤ a := fun h => hc (hsg.mpr h)
    refine lv_iload_n hx hb d_JM_floorMod_10 rfl (lv_at hl 0 rfl) ?_
    refine lv_if_eq (tgt := 18) hx hb d_JM_floorMod_11 (by decide) (fun hc => ?_) (fun hc => ?_)
    · have hz : a.tmod b = 0 := (zI_eq hmr (b := 0) ⟨by decide, by decide⟩).mp hc
      refine lv_iload_n hx hb d_JM_floorMod_18 rfl (lv_at hl 0 rfl) ?_
      exact g_reti hx hb hr hlocks hg ⟨rfl, by rw [hemod, if_pos (Or.inr (Int.dvd_of_tmod_eq_zero hz))]⟩ d_JM_floorMod_19
    · have hz : ¬ b ∣ a := fun h => hc (by rw [Int.tmod_eq_zero_of_dvd h]; rfl)
      refine lv_iload_n hx hb d_JM_floorMod_14 rfl (lv_at hl 0 rfl) ?_
      refine lv_iload_n hx hb d_JM_floorMod_15 rfl (lv_at hl 2 rfl) ?_
      refine lv_iadd hx hb d_JM_floorMod_16 ?_
      refine l_top (zI_add _ _) ?_
      exact g_reti hx hb hr hlocks hg ⟨rfl, by rw [hemod, if_neg (by rintro (h | h); exact h0 h; exact hz h), hnat]⟩ d_JM_floorMod_17


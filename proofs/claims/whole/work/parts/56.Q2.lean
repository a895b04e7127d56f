-- ===== numbers of a table and the family; storeLine =====
set_option maxRecDepth 100000 in
set_option maxHeartbeats 4000000 in
theorem m_W_divide0 (l : Launch) (D : va_G) (k : Nat → ClassId) (L : List Nat) (f : Nat → va_E) (x xl nx o ol q ql nq0 : Nat) (gx go gq0 : Int32) (dx dd dq : Nat → Nat) (hk : kn L f f [(x, cW xl nx gx), (xl, cD k dx), (o, cW ol 0 go), (ol, cD k dd), (q, cW ql nq0 gq0), (ql, cD k dq)]) : Mv l y_W_divide (Cond.code y_W_divide c_W_divide 10 none :: G) (rmN 2) D cls (tyl k) L f [.ref x, .ref o, .ref q] (fun f' => kn L f f' [(x, cW xl nx gx), (xl, cD k dx), (o, cW ol 0 go), (ol, cD k dd), (q, cW ql 0 0), (ql, cD k dq)]) := by
  -- METHOD W_divide | loc 0=x 1=o 2=q | ws x xl o ol q ql | fld x.limbs=xl o.limbs=ol q.limbs=ql
  refine mk_met (by decide) (Nat.le_of_ble_eq_true rfl) (fun p e s m below meth c ls S hr hlocks hw hl => ?_)
  have hx := S.1
  have hb := S.2.1
  have hown : s.vm.findClass R_W = some m.cls := S.2.2.2.1
  have hG := S.2.2.2.2
  have hl : lv_has ls 10 [(0, .ref x), (1, .ref o), (2, .ref q)] := hl
  have hg := hw
  have nd := kn_nd hk
  simp only [List.map_cons, List.map_nil, List.nodup_cons, List.mem_cons, List.not_mem_nil, or_false, not_or] at nd
  obtain ⟨⟨n01, n02, n03, n04, n05⟩, ⟨n12, n13, n14, n15⟩, ⟨n23, n24, n25⟩, ⟨n34, n35⟩, n45, -⟩ := nd
  have hw : kw D cls (tyl k) L s s.heap f [(x, cW xl nx gx), (xl, cD k dx), (o, cW ol 0 go), (ol, cD k dd), (q, cW ql nq0 gq0), (ql, cD k dq)] s.heap [] := ⟨f, hw, hk⟩
  refine lv_aload_n hx hb d_W_divide_0 rfl (lv_at hl 1 rfl) ?_
  refine k_get hx hb hG lay_W hown hw 2 rfl rfl 1 (by decide) (hG _ fl_W_15) (fun _ h9 => h9) rfl d_W_divide_1 ?_
  refine lv_istore_n hx hb d_W_divide_4 rfl hl (by decide) rfl (fun ls hl => ?_)
  refine lv_aload_n hx hb d_W_divide_5 rfl (lv_at hl 3 rfl) ?_
  have hw := hg
  refine g_ov (c_V (np := 0) S (m_W_setZero l D k L f q ql nq0 gq0 (kn_sub hk [4] rfl rfl)) hw ((hk.1 4 _ rfl).1) ((hk.1 4 _ rfl).2) rfl ml_W_34 im_W_setZero se_W_W_setZero in_W co_W_setZero (by decide +kernel) rfl ⟨rfl, rfl, by decide, by decide⟩ hl.1 rfl (by simp [Value.category]) d_W_divide_6 ⟨Nat.zero_le _, Nat.zero_le _⟩) hw (fun f1 H locs hp hw => ?_)
  have hk1 : kn L f f1 [(x, cW xl nx gx), (xl, cD k dx), (o, cW ol 0 go), (ol, cD k dd), (q, cW ql 0 0), (ql, cD k dq)] := by
    refine kn_join hk hp (by simp) rfl (fun q hq => ?_)
    simp only [List.mem_cons, List.not_mem_nil, or_false] at hq
    rcases hq with rfl | rfl | rfl | rfl | rfl | rfl
    · rw [kn_off hp (by simp; exact n04)]; exact (hk.1 0 _ rfl).2
    · rw [kn_off hp (by simp; exact n14)]; exact (hk.1 1 _ rfl).2
    · rw [kn_off hp (by simp; exact n24)]; exact (hk.1 2 _ rfl).2
    · rw [kn_off hp (by simp; exact n34)]; exact (hk.1 3 _ rfl).2
    · exact (hp.1 0 _ rfl).2
    · rw [kn_off hp (by simp; exact Ne.symm n45)]; exact (hk.1 5 _ rfl).2
  refine lv_iload_n hx hb d_W_divide_9 rfl (lv_at hl 0 rfl) ?_
  refine lv_if_eq (tgt := 30) hx hb d_W_divide_10 (by decide) (fun hc => ?_) (fun hc => ?_)
  · exact g_retv hx hb hr hlocks hw hk1 d_W_divide_30
  · exact absurd rfl hc
set_option maxRecDepth 100000 in
set_option maxHeartbeats 4000000 in
theorem n_divide0 (l : Launch) (D : va_G) (k : Nat → ClassId) (L : List Nat) (f : Nat → va_E) (adr : Nat → Nat) (N : Nat) (vals : Nat → Int) (inj : ∀ x y, x < 2 * N → y < 2 * N → adr x = adr y → x = y) (hf : fv L k adr N f vals) (i : Nat) (hi : i < N) (a : Nat) (ha : a < N) (b : Nat) (hb : b < N) (neia : i ≠ a) (neib : i ≠ b) (neab : a ≠ b) (ha0 : vals a = 0) : Mv l y_W_divide (Cond.code y_W_divide c_W_divide 10 none :: G) (rmN 2) D cls (tyl k) L f [.ref (adr (2 * i)), .ref (adr (2 * a)), .ref (adr (2 * b))] (fun f' => fv L k adr N f' (va_up vals b (0)) ∧ fo adr N f f') := by
  obtain ⟨m0, ml0, n0, g0, d0, e0, el0, w0⟩ := hf i hi
  obtain ⟨m1, ml1, n1, g1, d1, e1, el1, w1⟩ := hf a ha
  obtain ⟨m2, ml2, n2, g2, d2, e2, el2, w2⟩ := hf b hb
  have hk : kn L f f [(adr (2 * i), cW (adr (2 * i + 1)) n0 g0), (adr (2 * i + 1), cD k d0), (adr (2 * a), cW (adr (2 * a + 1)) n1 g1), (adr (2 * a + 1), cD k d1), (adr (2 * b), cW (adr (2 * b + 1)) n2 g2), (adr (2 * b + 1), cD k d2)] := by
    refine kn_of (fun q hq => ?_) (nd_map (l := [2 * i, 2 * i + 1, 2 * a, 2 * a + 1, 2 * b, 2 * b + 1]) inj (fun x hx => ?_) ?_)
    · simp only [List.mem_cons, List.not_mem_nil, or_false] at hq
      rcases hq with rfl | rfl | rfl | rfl | rfl | rfl
      · exact ⟨m0, e0⟩
      · exact ⟨ml0, el0⟩
      · exact ⟨m1, e1⟩
      · exact ⟨ml1, el1⟩
      · exact ⟨m2, e2⟩
      · exact ⟨ml2, el2⟩
    · simp only [List.mem_cons, List.not_mem_nil, or_false] at hx
      omega
    · simp only [List.nodup_cons, List.mem_cons, List.not_mem_nil, or_false, not_or, List.nodup_nil, not_false_eq_true, and_true]
      omega
  have hn1 : n1 = 0 := by
    rcases w1.2.2 with ⟨h, -⟩ | ⟨h1, h2, h3⟩
    · exact h
    · exfalso
      obtain ⟨m9, rfl⟩ : ∃ m9, n1 = m9 + 1 := ⟨n1 - 1, by omega⟩
      have h5 := cd_ge (b := B30) (n := m9) (d := d1) h2
      have h6 : 0 < B30 ^ m9 := Nat.pow_pos (by decide)
      rcases h3 with ⟨-, h3⟩ | ⟨-, h3⟩ <;> omega
  subst hn1
  refine Met_mono (m_W_divide0 l D k L f _ _ n0 _ _ _ _ n2 g0 g1 g2 d0 d1 d2 hk) (fun f' hp => ?_)
  have hk2 := hp
  refine fv_step inj hf [2 * i, 2 * i + 1, 2 * a, 2 * a + 1, 2 * b, 2 * b + 1] rfl (fun x hx => by simp only [List.mem_cons, List.not_mem_nil, or_false] at hx; omega) hk2 (fun j hj hjl => ?_) (fun j hj hjl => ?_)
  · simp only [List.mem_cons, List.not_mem_nil, or_false, not_or] at hjl ⊢
    refine ⟨by omega, ?_⟩
    rw [va_up_ne _ _ (show j ≠ b by omega)]
  · simp only [List.mem_cons, List.not_mem_nil, or_false] at hjl
    rcases (show j = i ∨ j = a ∨ j = b by omega) with e | e | e
    · rw [e]; exact ⟨n0, g0, d0, (hk2.1 0 _ rfl).2, (hk2.1 1 _ rfl).2, by rw [va_up_ne _ _ (show i ≠ b by omega)]; exact w0⟩
    · rw [e]; exact ⟨0, g1, d1, (hk2.1 2 _ rfl).2, (hk2.1 3 _ rfl).2, by rw [va_up_ne _ _ (show a ≠ b by omega)]; exact w1⟩
    · rw [e]; exact ⟨0, 0, d2, (hk2.1 4 _ rfl).2, (hk2.1 5 _ rfl).2, by rw [va_up_self]; exact ⟨by omega, w2.2.1, Or.inl ⟨rfl, rfl, rfl⟩⟩⟩
/-- a table's object, its array of rows and one row, apart from the family -/
def tc (L : List Nat) (k : Nat → ClassId) (f : Nat → va_E) (adr : Nat → Nat) (N : Nat) (t pa nu rr : Nat) (fd rw cl rd : Int32) (z : Nat → Option Nat) (w : Nat → Int32) (row : Nat) : Prop := row < 12 ∧ z row = some rr ∧ t ∈ L ∧ nu ∈ L ∧ rr ∈ L ∧ f t = cT fd rw cl rd pa nu ∧ f nu = cO k z ∧ f rr = cR k w ∧ t ≠ nu ∧ t ≠ rr ∧ nu ≠ rr ∧ ∀ x, x < 2 * N → t ≠ adr x ∧ nu ≠ adr x ∧ rr ≠ adr x
theorem tc_kn {L : List Nat} {k : Nat → ClassId} {f : Nat → va_E} {adr : Nat → Nat} {N t pa nu rr : Nat} {fd rw cl rd : Int32} {z : Nat → Option Nat} {w : Nat → Int32} {row i : Nat} (h : tc L k f adr N t pa nu rr fd rw cl rd z w row) (inj : ∀ x y, x < 2 * N → y < 2 * N → adr x = adr y → x = y) (hi : i < N) {n : Nat} {g : Int32} {d : Nat → Nat} (m0 : adr (2 * i) ∈ L) (m1 : adr (2 * i + 1) ∈ L) (e0 : f (adr (2 * i)) = cW (adr (2 * i + 1)) n g) (e1 : f (adr (2 * i + 1)) = cD k d) : kn L f f [(t, cT fd rw cl rd pa nu), (nu, cO k z), (rr, cR k w), (adr (2 * i), cW (adr (2 * i + 1)) n g), (adr (2 * i + 1), cD k d)] := by
  obtain ⟨h1, h2, h3, h4, h5, h6, h7, h8, h9, h10, h11, h12⟩ := h
  have q1 := h12 (2 * i) (by omega)
  have q2 := h12 (2 * i + 1) (by omega)
  have q3 : adr (2 * i) ≠ adr (2 * i + 1) := fun e => by have := inj _ _ (by omega) (by omega) e; omega
  refine kn_of (fun q hq => ?_) (by simp; exact ⟨⟨h9, h10, q1.1, q2.1⟩, ⟨h11, q1.2.1, q2.2.1⟩, ⟨q1.2.2, q2.2.2⟩, q3⟩)
  simp only [List.mem_cons, List.not_mem_nil, or_false] at hq
  rcases hq with rfl | rfl | rfl | rfl | rfl
  · exact ⟨h3, h6⟩
  · exact ⟨h4, h7⟩
  · exact ⟨h5, h8⟩
  · exact ⟨m0, e0⟩
  · exact ⟨m1, e1⟩
set_option maxRecDepth 100000 in
set_option maxHeartbeats 4000000 in
theorem n_load (l : Launch) (D : va_G) (k : Nat → ClassId) (L : List Nat) (f : Nat → va_E) (adr : Nat → Nat) (N : Nat) (vals : Nat → Int) (inj : ∀ x y, x < 2 * N → y < 2 * N → adr x = adr y → x = y) (hf : fv L k adr N f vals) (t pa nu rr : Nat) (fd rw cl rd : Int32) (z : Nat → Option Nat) (w : Nat → Int32) (row : Nat) (h : tc L k f adr N t pa nu rr fd rw cl rd z w row) (col i : Nat) (hcol : col < 12) (hi : i < N) (v : Int) (hv : nm w col v) : Mv l y_T_load (Cond.code y_T_load c_T_load 5 none :: G) (rmN 1) D cls (tyl k) L f [.ref t, .int (nI row), .int (nI col), .ref (adr (2 * i))] (fun f' => fv L k adr N f' (va_up vals i v) ∧ fo adr N f f') := by
  obtain ⟨m0, ml0, n0, g0, d0, e0, el0, w0⟩ := hf i hi
  have hk := tc_kn h inj hi m0 ml0 e0 el0
  refine Met_mono (m_T_load l D k L f t pa nu rr fd rw cl rd z w row col h.1 hcol h.2.1 _ _ n0 g0 d0 v hv w0.2.1 hk) (fun f' hp => ?_)
  obtain ⟨n1, g1, d1, w1, hn5, hk2⟩ := hp
  have hk3 : kn L f f' [(adr (2 * i), cW (adr (2 * i + 1)) n1 g1), (adr (2 * i + 1), cD k d1)] := by
    refine ⟨fun q x hq => ?_, fun a b x y ha hb hxy => ?_, fun q hq => ?_⟩
    · rcases q with _ | _ | q
      · cases hq; exact hk2.1 3 _ rfl
      · cases hq; exact hk2.1 4 _ rfl
      · cases hq
    · have q3 : adr (2 * i) ≠ adr (2 * i + 1) := fun e => by have := inj _ _ (by omega) (by omega) e; omega
      rcases a with _ | _ | a <;> rcases b with _ | _ | b <;> (try cases ha) <;> (try cases hb)
      · rfl
      · exact absurd hxy q3
      · exact absurd hxy.symm q3
      · rfl
    · by_cases c1 : q = t
      · rw [c1, (hk2.1 0 _ rfl).2, (hk.1 0 _ rfl).2]
      · by_cases c2 : q = nu
        · rw [c2, (hk2.1 1 _ rfl).2, (hk.1 1 _ rfl).2]
        · by_cases c3 : q = rr
          · rw [c3, (hk2.1 2 _ rfl).2, (hk.1 2 _ rfl).2]
          · refine kn_off hk2 ?_
            simp only [List.map_cons, List.map_nil, List.mem_cons, List.not_mem_nil, or_false, not_or]
            exact ⟨c1, c2, c3, fun e => hq 0 (cW (adr (2 * i + 1)) n1 g1) (by rw [e]; rfl), fun e => hq 1 (cD k d1) (by rw [e]; rfl)⟩
  refine fv_step inj hf [2 * i, 2 * i + 1] rfl (fun x hx => by simp only [List.mem_cons, List.not_mem_nil, or_false] at hx; omega) hk3 (fun j hj hjl => ?_) (fun j hj hjl => ?_)
  · simp only [List.mem_cons, List.not_mem_nil, or_false, not_or] at hjl ⊢
    exact ⟨by omega, va_up_ne _ _ (by omega)⟩
  · simp only [List.mem_cons, List.not_mem_nil, or_false] at hjl
    have e : j = i := by omega
    rw [e]
    exact ⟨n1, g1, d1, (hk3.1 0 _ rfl).2, (hk3.1 1 _ rfl).2, by rw [va_up_self]; exact w1⟩
set_option maxRecDepth 100000 in
set_option maxHeartbeats 4000000 in
theorem n_store (l : Launch) (D : va_G) (k : Nat → ClassId) (L : List Nat) (f : Nat → va_E) (adr : Nat → Nat) (N : Nat) (vals : Nat → Int) (inj : ∀ x y, x < 2 * N → y < 2 * N → adr x = adr y → x = y) (hf : fv L k adr N f vals) (t pa nu rr : Nat) (fd rw cl rd : Int32) (z : Nat → Option Nat) (w : Nat → Int32) (row : Nat) (h : tc L k f adr N t pa nu rr fd rw cl rd z w row) (col i : Nat) (hcol : col < 12) (hi : i < N) (hv : (vals i).natAbs < B30 ^ 5) : Mv l y_T_store (Cond.code y_T_store c_T_store 5 none :: G) (rmN 1) D cls (tyl k) L f [.ref t, .int (nI row), .int (nI col), .ref (adr (2 * i))] (fun f' => ∃ w' : Nat → Int32, nm w' col (vals i) ∧ (∀ i, i < col * 6 ∨ col * 6 + 6 ≤ i → w' i = w i) ∧ f' rr = cR k w' ∧ ∀ q, q ≠ rr → f' q = f q) := by
  obtain ⟨m0, ml0, n0, g0, d0, e0, el0, w0⟩ := hf i hi
  have hk := tc_kn h inj hi m0 ml0 e0 el0
  refine Met_mono (m_T_store l D k L f t pa nu rr fd rw cl rd z w row col h.1 hcol h.2.1 _ _ n0 g0 d0 (vals i) w0 (wr_cnt w0 hv) hk) (fun f' hp => ?_)
  obtain ⟨w', h1, h2, hk2⟩ := hp
  refine ⟨w', h1, h2, (hk2.1 2 _ rfl).2, fun q hq => ?_⟩
  by_cases c1 : q = t
  · rw [c1, (hk2.1 0 _ rfl).2, (hk.1 0 _ rfl).2]
  · by_cases c2 : q = nu
    · rw [c2, (hk2.1 1 _ rfl).2, (hk.1 1 _ rfl).2]
    · by_cases c4 : q = adr (2 * i)
      · rw [c4, (hk2.1 3 _ rfl).2, (hk.1 3 _ rfl).2]
      · by_cases c5 : q = adr (2 * i + 1)
        · rw [c5, (hk2.1 4 _ rfl).2, (hk.1 4 _ rfl).2]
        · exact kn_off hk2 (by simp; exact ⟨c1, c2, hq, c4, c5⟩)


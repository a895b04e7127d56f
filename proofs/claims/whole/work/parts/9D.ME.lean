-- ===== the reference: shift leave =====
section MSH
variable {p : Program} {l : Launch} {e : Env} {s : State} {m : MethodId} {args : Array Value} {below : List Frame} {meth : Method} {c : Code} {Q : State → Prop} {D : va_G} {k : Nat → ClassId} {L : List Nat} {H0 : Heap}
variable {own : Nat → Nat} {ma : Nat} {ra adr : Nat → Nat} {pr rw cl : Int32} {F R C Lo Pl To Bo Re Sm Pc : Nat → Int32} {V : Nat → Int} {kk n fi gn : Nat} {g0 : Nat → Nat → Int × Int × Int32}
set_option maxRecDepth 100000 in
set_option maxHeartbeats 4000000 in
theorem w_shI (S : CallFix p m c c_M_shift 7 s args G R_M) (hk12 : kk ≤ 12) (hn : n ≤ 12) (hfi : fi ≤ kk) (hgn : gn ≤ n) {i : Nat} (hi1 : fi ≤ i) (hi2 : i < kk) {f0 : Nat → va_E}
    (kx : ∀ (f : Nat → va_E) (V : Nat → Int) (Sm : Nat → Int32) (H : Heap) (locs : List Loc) (ls : Array Slot), MW L own k f ma ra adr pr (nI kk) (nI n) F R C Lo Pl To Bo Re Sm Pc V → oe own [200] f0 f → cel V Sm (fun a u => if u + gn < n ∧ (a + fi < (i + 1) ∨ (a + fi = (i + 1) ∧ u + gn < 0)) then g0 (a + fi) (u + gn) else g0 a u) → lv_has ls 7 [(0, .ref ma), (1, .int (nI fi)), (2, .int (nI gn)), (3, .int (nI i))] → gw D cls (tyl k) L s s.heap f H locs → W p l e (rmN 1) s m args below meth c H locs 0 0 Q (F0 m 105 ls [])) :
    ∀ (d j : Nat) (f : Nat → va_E) (V : Nat → Int) (Sm : Nat → Int32) (H : Heap) (locs : List Loc) (ls : Array Slot), j + d = n → gn ≤ j → MW L own k f ma ra adr pr (nI kk) (nI n) F R C Lo Pl To Bo Re Sm Pc V → oe own [200] f0 f → cel V Sm (fun a u => if u + gn < n ∧ (a + fi < i ∨ (a + fi = i ∧ u + gn < j)) then g0 (a + fi) (u + gn) else g0 a u) → lv_has ls 7 [(0, .ref ma), (1, .int (nI fi)), (2, .int (nI gn)), (3, .int (nI i)), (4, .int (nI j))] → gw D cls (tyl k) L s s.heap f H locs →
    W p l e (rmN 1) s m args below meth c H locs 0 0 Q (F0 m 13 ls []) := by
  have hx := S.1
  have hb := S.2.1
  have hown : s.vm.findClass R_M = some m.cls := S.2.2.2.1
  have hG := S.2.2.2.2
  intro d
  induction d with
  | zero =>
    intro j f V Sm H locs ls hd hgj h ho hD hl hg
    have hw : kw D cls (tyl k) L s s.heap f ((mc k ra adr ma pr (nI kk) (nI n) F R C Lo Pl To Bo Re Sm Pc)) H locs := ⟨f, hg, h.kn⟩
    -- METHOD M_shift | loc 0=m 1=fi 2=gn 3=i 4=j | ws m fa rc cc lo pl to bo re tp bt sm pc | fld m.fields=fa m.rowCounts=rc m.columnCounts=cc m.loose=lo m.places=pl m.tops=to m.bottoms=bo m.residues=re m.top=tp m.bottom=bt m.small=sm m.place=pc m.one=n0 m.two=n1 m.three=n2 m.four=n3 m.five=n4 m.six=n5 m.seven=n6 m.eight=n7 m.above=n8 m.under=n9
    refine lv_iload hx hb d_M_shift_13 (lv_at hl 4 rfl) ?_
    refine lv_aload_n hx hb d_M_shift_15 rfl (lv_at hl 0 rfl) ?_
    refine k_get hx hb hG lay_M hown hw 0 rfl rfl 22 (by decide) (hG _ fl_M_111) (fun _ h9 => h9) rfl d_M_shift_16 ?_
    refine lv_icmp_ge (tgt := 105) hx hb d_M_shift_19 (by decide) (fun hc => ?_) (fun hc => ?_)
    · refine kx f V Sm H locs ls h ho (cel_congr hD (fun a u ha hu => ?_)) (lv_sub hl [0, 1, 2, 3] rfl) hg
      show (if u + gn < n ∧ (a + fi < i ∨ (a + fi = i ∧ u + gn < j)) then _ else _) = (if u + gn < n ∧ (a + fi < i + 1 ∨ (a + fi = i + 1 ∧ u + gn < 0)) then _ else _)
      by_cases q : u + gn < n ∧ (a + fi < i ∨ (a + fi = i ∧ u + gn < j))
      · rw [if_pos q, if_pos (by omega)]
      · rw [if_neg q, if_neg (by omega)]
    · exact absurd (nI_le (by omega) (by omega)) hc
  | succ d ih =>
    intro j f V Sm H locs ls hd hgj h ho hD hl hg
    obtain ⟨x, hx0⟩ : ∃ x, x = 12 * i + j := ⟨_, rfl⟩
    obtain ⟨y, hy0⟩ : ∃ y, y = 12 * (i - fi) + (j - gn) := ⟨_, rfl⟩
    have hx1 : x < 144 := by omega
    have hy1 : y < 144 := by omega
    -- what is read has not been overwritten
    have hsrc : V (10 + x) = (g0 i j).1 ∧ V (154 + x) = (g0 i j).2.1 ∧ Sm x = (g0 i j).2.2 := by
      rw [hx0]
      refine cel_at hD (by omega) (by omega) ?_
      by_cases q : j + gn < n ∧ (i + fi < i ∨ (i + fi = i ∧ j + gn < j))
      · omega
      · rw [if_neg q]
    have hnew : ∀ a u, a < 12 → u < 12 → (if a = i - fi ∧ u = j - gn then g0 i j else if u + gn < n ∧ (a + fi < i ∨ (a + fi = i ∧ u + gn < j)) then g0 (a + fi) (u + gn) else g0 a u) = (if u + gn < n ∧ (a + fi < i ∨ (a + fi = i ∧ u + gn < j + 1)) then g0 (a + fi) (u + gn) else g0 a u) := fun a u ha hu => by
      by_cases e : a = i - fi ∧ u = j - gn
      · obtain ⟨e1, e2⟩ := e
        rw [if_pos ⟨e1, e2⟩, if_pos (by omega), show a + fi = i by omega, show u + gn = j by omega]
      · rw [if_neg e]
        by_cases q : u + gn < n ∧ (a + fi < i ∨ (a + fi = i ∧ u + gn < j))
        · rw [if_pos q, if_pos (by omega)]
        · rw [if_neg q, if_neg (by omega)]
    have nxt : ∀ (f' : Nat → va_E) (V' : Nat → Int) (Sm' : Nat → Int32) (H : Heap) (locs : List Loc) (ls : Array Slot), MW L own k f' ma ra adr pr (nI kk) (nI n) F R C Lo Pl To Bo Re Sm' Pc V' → oe own [200] f0 f' → cel V' Sm' (fun a u => if u + gn < n ∧ (a + fi < i ∨ (a + fi = i ∧ u + gn < (j + 1))) then g0 (a + fi) (u + gn) else g0 a u) → lv_has ls 7 [(0, .ref ma), (1, .int (nI fi)), (2, .int (nI gn)), (3, .int (nI i)), (4, .int (nI j))] → gw D cls (tyl k) L s s.heap f' H locs → W p l e (rmN 1) s m args below meth c H locs 0 0 Q (F0 m 99 ls []) := by
      intro f' V' Sm' H locs ls g1 g2 g3 hl hg
      -- METHOD M_shift | loc 0=m 1=fi 2=gn 3=i 4=j | ws m fa rc cc lo pl to bo re tp bt sm pc | fld m.fields=fa m.rowCounts=rc m.columnCounts=cc m.loose=lo m.places=pl m.tops=to m.bottoms=bo m.residues=re m.top=tp m.bottom=bt m.small=sm m.place=pc m.one=n0 m.two=n1 m.three=n2 m.four=n3 m.five=n4 m.six=n5 m.seven=n6 m.eight=n7 m.above=n8 m.under=n9
      refine lv_iinc (k := 4) hx hb d_M_shift_99 hl rfl (ii1 j) (by decide) rfl (fun ls hl => ?_)
      refine lv_goto (tgt := 13) hx hb d_M_shift_102 (by decide) ?_
      have hl := lv_sub hl [1, 2, 3, 4, 0] rfl
      exact ih (j + 1) f' V' Sm' H locs ls (by omega) (by omega) g1 g2 g3 hl hg
    have hw : kw D cls (tyl k) L s s.heap f ((mc k ra adr ma pr (nI kk) (nI n) F R C Lo Pl To Bo Re Sm Pc)) H locs := ⟨f, hg, h.kn⟩
    -- METHOD M_shift | loc 0=m 1=fi 2=gn 3=i 4=j | ws m fa rc cc lo pl to bo re tp bt sm pc | fld m.fields=fa m.rowCounts=rc m.columnCounts=cc m.loose=lo m.places=pl m.tops=to m.bottoms=bo m.residues=re m.top=tp m.bottom=bt m.small=sm m.place=pc m.one=n0 m.two=n1 m.three=n2 m.four=n3 m.five=n4 m.six=n5 m.seven=n6 m.eight=n7 m.above=n8 m.under=n9
    refine lv_iload hx hb d_M_shift_13 (lv_at hl 4 rfl) ?_
    refine lv_aload_n hx hb d_M_shift_15 rfl (lv_at hl 0 rfl) ?_
    refine k_get hx hb hG lay_M hown hw 0 rfl rfl 22 (by decide) (hG _ fl_M_111) (fun _ h9 => h9) rfl d_M_shift_16 ?_
    refine lv_icmp_ge (tgt := 105) hx hb d_M_shift_19 (by decide) (fun hc => ?_) (fun hc => ?_)
    · exact absurd hc (nI_ge (by omega) (by omega))
    refine lv_bipush (v := 12) hx hb d_M_shift_22 (by decide) ?_
    refine lv_iload_n hx hb d_M_shift_24 rfl (lv_at hl 3 rfl) ?_
    refine lv_imul hx hb d_M_shift_25 ?_
    refine l_top (pk_mul 12 i) ?_
    refine lv_iload hx hb d_M_shift_26 (lv_at hl 4 rfl) ?_
    refine lv_iadd hx hb d_M_shift_28 ?_
    refine l_top (nI_add (12 * i) j) ?_
    refine l_top (show nI (12 * i + j) = nI x by rw [hx0]) ?_
    refine lv_istore hx hb d_M_shift_29 hl (by decide) rfl (fun ls hl => ?_)
    refine lv_bipush (v := 12) hx hb d_M_shift_31 (by decide) ?_
    refine lv_iload_n hx hb d_M_shift_33 rfl (lv_at hl 4 rfl) ?_
    refine lv_iload_n hx hb d_M_shift_34 rfl (lv_at hl 2 rfl) ?_
    refine lv_isub hx hb d_M_shift_35 ?_
    refine l_top (pk_sub hi1) ?_
    refine lv_imul hx hb d_M_shift_36 ?_
    refine l_top (pk_mul 12 (i - fi)) ?_
    refine lv_iload hx hb d_M_shift_37 (lv_at hl 5 rfl) ?_
    refine lv_iadd hx hb d_M_shift_39 ?_
    refine l_top (nI_add (12 * (i - fi)) j) ?_
    refine lv_iload_n hx hb d_M_shift_40 rfl (lv_at hl 3 rfl) ?_
    refine lv_isub hx hb d_M_shift_41 ?_
    refine l_top (pk_sub (by omega)) ?_
    refine l_top (show nI (12 * (i - fi) + j - gn) = nI y by rw [hy0]; congr 1; omega) ?_
    refine lv_istore hx hb d_M_shift_42 hl (by decide) rfl (fun ls hl => ?_)
    refine lv_iload hx hb d_M_shift_44 (lv_at hl 1 rfl) ?_
    refine lv_iload hx hb d_M_shift_46 (lv_at hl 0 rfl) ?_
    refine lv_icmp_eq (tgt := 99) hx hb d_M_shift_48 (by decide) (fun hc => ?_) (fun hc => ?_)
    · have e : x = y := nIj (by omega) (by omega) hc
      refine nxt f V Sm H locs ls h ho (cel_congr hD (fun a u ha hu => ?_)) (lv_sub hl [2, 3, 4, 5, 6] rfl) hg
      have e1 : fi = 0 := by omega
      have e2 : gn = 0 := by omega
      rw [← hnew a u ha hu]
      by_cases q : a = i - fi ∧ u = j - gn
      · rw [if_pos q]
        obtain ⟨q1, q2⟩ := q
        have q3 : a = i := by omega
        have q4 : u = j := by omega
        rw [if_neg (by omega), q3, q4]
      · rw [if_neg q]
    have hxy : x ≠ y := fun z => hc (by rw [z])
    have hw : kw D cls (tyl k) L s s.heap f ((mc k ra adr ma pr (nI kk) (nI n) F R C Lo Pl To Bo Re Sm Pc)) H locs := ⟨f, hg, h.kn⟩
    refine lv_aload_n hx hb d_M_shift_51 rfl (lv_at hl 2 rfl) ?_
    refine k_get hx hb hG lay_M hown hw 0 rfl rfl 16 (by decide) (hG _ fl_M_79) (fun _ h9 => h9) rfl d_M_shift_52 ?_
    refine lv_iload hx hb d_M_shift_55 (lv_at hl 0 rfl) ?_
    refine k_aald hx hb hw 9 4 rfl rfl (y) (rfl) (by omega) (by first | decide | omega) (rfl) d_M_shift_57 ?_
    refine lv_aload_n hx hb d_M_shift_58 rfl (lv_at hl 2 rfl) ?_
    refine k_get hx hb hG lay_M hown hw 0 rfl rfl 16 (by decide) (hG _ fl_M_79) (fun _ h9 => h9) rfl d_M_shift_59 ?_
    refine lv_iload hx hb d_M_shift_62 (lv_at hl 1 rfl) ?_
    refine k_aald hx hb hw 9 4 rfl rfl (x) (rfl) (by omega) (by first | decide | omega) (rfl) d_M_shift_64 ?_
    have hw := hg
    refine g_ov (c_V (np := 1) S (nn_copy l D h.1.2.2.2.2 h.2.2 (i := 10 + y) (a := 10 + x) (by omega) (by omega) (by omega)) hw ((h.2.2 (10 + y) (by omega)).1) ((h.2.2 (10 + y) (by omega)).2.2.choose_spec.choose_spec.choose_spec.1) rfl ml_M_7 im_N_copy se_N_N_copy in_N co_N_copy (by decide +kernel) rfl ⟨rfl, rfl, by decide, by decide⟩ hl.1 rfl (by simp [Value.category]) d_M_shift_65 ⟨Nat.zero_le _, Nat.zero_le _⟩) hw (fun f1 H locs hp hg => ?_)
    obtain ⟨h1, ho1⟩ := h.num hp
    have hw : kw D cls (tyl k) L s s.heap f1 ((mc k ra adr ma pr (nI kk) (nI n) F R C Lo Pl To Bo Re Sm Pc)) H locs := ⟨f1, hg, h1.kn⟩
    refine lv_aload_n hx hb d_M_shift_68 rfl (lv_at hl 2 rfl) ?_
    refine k_get hx hb hG lay_M hown hw 0 rfl rfl 17 (by decide) (hG _ fl_M_83) (fun _ h9 => h9) rfl d_M_shift_69 ?_
    refine lv_iload hx hb d_M_shift_72 (lv_at hl 0 rfl) ?_
    refine k_aald hx hb hw 10 4 rfl rfl (y) (rfl) (by omega) (by first | decide | omega) (rfl) d_M_shift_74 ?_
    refine lv_aload_n hx hb d_M_shift_75 rfl (lv_at hl 2 rfl) ?_
    refine k_get hx hb hG lay_M hown hw 0 rfl rfl 17 (by decide) (hG _ fl_M_83) (fun _ h9 => h9) rfl d_M_shift_76 ?_
    refine lv_iload hx hb d_M_shift_79 (lv_at hl 1 rfl) ?_
    refine k_aald hx hb hw 10 4 rfl rfl (x) (rfl) (by omega) (by first | decide | omega) (rfl) d_M_shift_81 ?_
    have hw := hg
    refine g_ov (c_V (np := 1) S (nn_copy l D h1.1.2.2.2.2 h1.2.2 (i := 154 + y) (a := 154 + x) (by omega) (by omega) (by omega)) hw ((h1.2.2 (154 + y) (by omega)).1) ((h1.2.2 (154 + y) (by omega)).2.2.choose_spec.choose_spec.choose_spec.1) rfl ml_M_7 im_N_copy se_N_N_copy in_N co_N_copy (by decide +kernel) rfl ⟨rfl, rfl, by decide, by decide⟩ hl.1 rfl (by simp [Value.category]) d_M_shift_82 ⟨Nat.zero_le _, Nat.zero_le _⟩) hw (fun f2 H locs hp hg => ?_)
    obtain ⟨h2, ho2⟩ := h1.num hp
    have hw : kw D cls (tyl k) L s s.heap f2 ((mc k ra adr ma pr (nI kk) (nI n) F R C Lo Pl To Bo Re Sm Pc)) H locs := ⟨f2, hg, h2.kn⟩
    refine lv_aload_n hx hb d_M_shift_85 rfl (lv_at hl 2 rfl) ?_
    refine k_get hx hb hG lay_M hown hw 0 rfl rfl 18 (by decide) (hG _ fl_M_86) (fun _ h9 => h9) rfl d_M_shift_86 ?_
    refine lv_iload hx hb d_M_shift_89 (lv_at hl 0 rfl) ?_
    refine lv_aload_n hx hb d_M_shift_91 rfl (lv_at hl 2 rfl) ?_
    refine k_get hx hb hG lay_M hown hw 0 rfl rfl 18 (by decide) (hG _ fl_M_86) (fun _ h9 => h9) rfl d_M_shift_92 ?_
    refine lv_iload hx hb d_M_shift_95 (lv_at hl 1 rfl) ?_
    refine k_iald hx hb hw 11 0 rfl rfl (x) (rfl) (by omega) (by first | decide | omega) d_M_shift_97 ?_
    refine k_iast hx hb hw 11 0 rfl rfl (y) (rfl) (by omega) (by first | decide | omega) d_M_shift_98 (fun H locs hw => ?_)
    obtain ⟨f3, hg, hk3⟩ := hw
    obtain ⟨h3, ho3⟩ := h2.back (rw' := nI kk) (cl' := nI n) hk3
    refine nxt f3 _ _ H locs ls h3 (ho.trans (ho1.trans (ho2.trans ho3))) (cel_congr (cel_set hD (A := i - fi) (U := j - gn) (by omega) (by omega) hy0 (x := (g0 i j).1) (y := (g0 i j).2.1) (z := (g0 i j).2.2) ?_ ?_ (by rw [pk_us]; exact hsrc.2.2) (fun w h1 h2 h3 => ?_) (fun w hw => pk_un hw)) (fun a u ha hu => ?_)) (lv_sub hl [2, 3, 4, 5, 6] rfl) hg
    · rw [va_up_ne _ _ (by omega), va_up_self]; exact hsrc.1
    · rw [va_up_self, va_up_ne _ _ (by omega)]; exact hsrc.2.1
    · rw [va_up_ne _ _ h3, va_up_ne _ _ h2]
    · exact hnew a u ha hu
set_option maxRecDepth 100000 in
set_option maxHeartbeats 4000000 in
theorem w_shO (S : CallFix p m c c_M_shift 7 s args G R_M) (hk12 : kk ≤ 12) (hn : n ≤ 12) (hfi : fi ≤ kk) (hgn : gn ≤ n) {f0 : Nat → va_E}
    (kx : ∀ (f : Nat → va_E) (V : Nat → Int) (Sm : Nat → Int32) (H : Heap) (locs : List Loc) (ls : Array Slot), MW L own k f ma ra adr pr (nI kk) (nI n) F R C Lo Pl To Bo Re Sm Pc V → oe own [200] f0 f → cel V Sm (fun a u => if u + gn < n ∧ (a + fi < kk ∨ (a + fi = kk ∧ u + gn < 0)) then g0 (a + fi) (u + gn) else g0 a u) → lv_has ls 7 [(0, .ref ma), (1, .int (nI fi)), (2, .int (nI gn))] → gw D cls (tyl k) L s s.heap f H locs → W p l e (rmN 1) s m args below meth c H locs 0 0 Q (F0 m 111 ls [])) :
    ∀ (d i : Nat) (f : Nat → va_E) (V : Nat → Int) (Sm : Nat → Int32) (H : Heap) (locs : List Loc) (ls : Array Slot), i + d = kk → fi ≤ i → MW L own k f ma ra adr pr (nI kk) (nI n) F R C Lo Pl To Bo Re Sm Pc V → oe own [200] f0 f → cel V Sm (fun a u => if u + gn < n ∧ (a + fi < i ∨ (a + fi = i ∧ u + gn < 0)) then g0 (a + fi) (u + gn) else g0 a u) → lv_has ls 7 [(0, .ref ma), (1, .int (nI fi)), (2, .int (nI gn)), (3, .int (nI i))] → gw D cls (tyl k) L s s.heap f H locs →
    W p l e (rmN 1) s m args below meth c H locs 0 0 Q (F0 m 2 ls []) := by
  have hx := S.1
  have hb := S.2.1
  have hown : s.vm.findClass R_M = some m.cls := S.2.2.2.1
  have hG := S.2.2.2.2
  intro d
  induction d with
  | zero =>
    intro i f V Sm H locs ls hd hfi1 h ho hD hl hg
    have hd : i = kk := by omega
    subst hd
    have hw : kw D cls (tyl k) L s s.heap f ((mc k ra adr ma pr (nI i) (nI n) F R C Lo Pl To Bo Re Sm Pc)) H locs := ⟨f, hg, h.kn⟩
    -- METHOD M_shift | loc 0=m 1=fi 2=gn 3=i | ws m fa rc cc lo pl to bo re tp bt sm pc | fld m.fields=fa m.rowCounts=rc m.columnCounts=cc m.loose=lo m.places=pl m.tops=to m.bottoms=bo m.residues=re m.top=tp m.bottom=bt m.small=sm m.place=pc m.one=n0 m.two=n1 m.three=n2 m.four=n3 m.five=n4 m.six=n5 m.seven=n6 m.eight=n7 m.above=n8 m.under=n9
    refine lv_iload_n hx hb d_M_shift_2 rfl (lv_at hl 3 rfl) ?_
    refine lv_aload_n hx hb d_M_shift_3 rfl (lv_at hl 0 rfl) ?_
    refine k_get hx hb hG lay_M hown hw 0 rfl rfl 21 (by decide) (hG _ fl_M_108) (fun _ h9 => h9) rfl d_M_shift_4 ?_
    refine lv_icmp_ge (tgt := 111) hx hb d_M_shift_7 (by decide) (fun hc => ?_) (fun hc => ?_)
    · exact kx f V Sm H locs ls h ho hD (lv_sub hl [0, 1, 2] rfl) hg
    · exact absurd (nI_le (by omega) (by omega)) hc
  | succ d ih =>
    intro i f V Sm H locs ls hd hfi1 h ho hD hl hg
    have hw : kw D cls (tyl k) L s s.heap f ((mc k ra adr ma pr (nI kk) (nI n) F R C Lo Pl To Bo Re Sm Pc)) H locs := ⟨f, hg, h.kn⟩
    -- METHOD M_shift | loc 0=m 1=fi 2=gn 3=i | ws m fa rc cc lo pl to bo re tp bt sm pc | fld m.fields=fa m.rowCounts=rc m.columnCounts=cc m.loose=lo m.places=pl m.tops=to m.bottoms=bo m.residues=re m.top=tp m.bottom=bt m.small=sm m.place=pc m.one=n0 m.two=n1 m.three=n2 m.four=n3 m.five=n4 m.six=n5 m.seven=n6 m.eight=n7 m.above=n8 m.under=n9
    refine lv_iload_n hx hb d_M_shift_2 rfl (lv_at hl 3 rfl) ?_
    refine lv_aload_n hx hb d_M_shift_3 rfl (lv_at hl 0 rfl) ?_
    refine k_get hx hb hG lay_M hown hw 0 rfl rfl 21 (by decide) (hG _ fl_M_108) (fun _ h9 => h9) rfl d_M_shift_4 ?_
    refine lv_icmp_ge (tgt := 111) hx hb d_M_shift_7 (by decide) (fun hc => ?_) (fun hc => ?_)
    · exact absurd hc (nI_ge (by omega) (by omega))
    refine lv_iload_n hx hb d_M_shift_10 rfl (lv_at hl 2 rfl) ?_
    refine lv_istore hx hb d_M_shift_11 hl (by decide) rfl (fun ls hl => ?_)
    have hl := lv_sub hl [1, 2, 3, 4, 0] rfl
    refine w_shI S (g0 := g0) hk12 hn hfi hgn (i := i) hfi1 (by omega) (f0 := f0) (fun f2 V2 Sm2 H locs ls h2 ho2 hD2 hl hg => ?_) (n - gn) gn f V Sm H locs ls (by omega) (Nat.le_refl _) h ho (cel_congr hD (fun a u ha hu => ?_)) hl hg
    rotate_left
    · show (if u + gn < n ∧ (a + fi < i ∨ (a + fi = i ∧ u + gn < 0)) then _ else _) = (if u + gn < n ∧ (a + fi < i ∨ (a + fi = i ∧ u + gn < gn)) then _ else _)
      by_cases q : u + gn < n ∧ (a + fi < i ∨ (a + fi = i ∧ u + gn < 0))
      · rw [if_pos q, if_pos (by omega)]
      · rw [if_neg q, if_neg (by omega)]
    refine lv_iinc (k := 3) hx hb d_M_shift_105 hl rfl (ii1 i) (by decide) rfl (fun ls hl => ?_)
    refine lv_goto (tgt := 2) hx hb d_M_shift_108 (by decide) ?_
    have hl := lv_sub hl [1, 2, 3, 0] rfl
    exact ih (i + 1) f2 V2 Sm2 H locs ls (by omega) (by omega) h2 ho2 hD2 hl hg
end MSH
section MSH2
variable (l : Launch) (D : va_G) {L : List Nat} {k : Nat → ClassId} {f : Nat → va_E} {own : Nat → Nat} {ma : Nat} {ra adr : Nat → Nat} {pr rw cl : Int32} {F R C Lo Pl To Bo Re Sm Pc : Nat → Int32} {V : Nat → Int} {kk n fi gn : Nat} {g0 : Nat → Nat → Int × Int × Int32}
set_option maxRecDepth 100000 in
set_option maxHeartbeats 4000000 in
theorem m_M_shift (h : MW L own k f ma ra adr pr (nI kk) (nI n) F R C Lo Pl To Bo Re Sm Pc V) (hk12 : kk ≤ 12) (hn : n ≤ 12) (hfi : fi ≤ kk) (hgn : gn ≤ n) (hD : cel V Sm g0) : Mv l y_M_shift (Cond.code y_M_shift c_M_shift 7 none :: G) (rmN 1) D cls (tyl k) L f [.ref ma, .int (nI fi), .int (nI gn)] (fun f' => ∃ V' Sm', MW L own k f' ma ra adr pr (nI (kk - fi)) (nI (n - gn)) F R C Lo Pl To Bo Re Sm' Pc V' ∧ oe own [200] f f' ∧ cel V' Sm' (fun a u => if u + gn < n ∧ (a + fi < kk ∨ (a + fi = kk ∧ u + gn < 0)) then g0 (a + fi) (u + gn) else g0 a u)) := by
  -- METHOD M_shift | loc 0=m 1=fi 2=gn | ws m fa rc cc lo pl to bo re tp bt sm pc | fld m.fields=fa m.rowCounts=rc m.columnCounts=cc m.loose=lo m.places=pl m.tops=to m.bottoms=bo m.residues=re m.top=tp m.bottom=bt m.small=sm m.place=pc m.one=n0 m.two=n1 m.three=n2 m.four=n3 m.five=n4 m.six=n5 m.seven=n6 m.eight=n7 m.above=n8 m.under=n9
  refine mk_met (by decide) (Nat.le_of_ble_eq_true rfl) (fun p e s m below meth c ls S hr hlocks hw hl => ?_)
  have hx := S.1
  have hb := S.2.1
  have hown : s.vm.findClass R_M = some m.cls := S.2.2.2.1
  have hG := S.2.2.2.2
  have hl : lv_has ls 7 [(0, .ref ma), (1, .int (nI fi)), (2, .int (nI gn))] := hl
  have hg := hw
  refine lv_iload_n hx hb d_M_shift_0 rfl (lv_at hl 1 rfl) ?_
  refine lv_istore_n hx hb d_M_shift_1 rfl hl (by decide) rfl (fun ls hl => ?_)
  have hl := lv_sub hl [1, 2, 3, 0] rfl
  refine w_shO S hk12 hn hfi hgn (f0 := f) (g0 := g0) (fun f2 V2 Sm2 H locs ls h2 ho2 hD2 hl hg => ?_) (kk - fi) fi f V Sm _ _ ls (by omega) (Nat.le_refl _) h oe.rf (cel_congr hD (fun a u ha hu => ?_)) hl hg
  rotate_left
  · show g0 a u = (if u + gn < n ∧ (a + fi < fi ∨ (a + fi = fi ∧ u + gn < 0)) then _ else _)
    rw [if_neg (by omega)]
  have hw : kw D cls (tyl k) L s s.heap f2 ((mc k ra adr ma pr (nI kk) (nI n) F R C Lo Pl To Bo Re Sm2 Pc)) H locs := ⟨f2, hg, h2.kn⟩
  refine lv_aload_n hx hb d_M_shift_111 rfl (lv_at hl 0 rfl) ?_
  refine lv_dup hx hb d_M_shift_112 rfl ?_
  refine k_get hx hb hG lay_M hown hw 0 rfl rfl 21 (by decide) (hG _ fl_M_108) (fun _ h9 => h9) rfl d_M_shift_113 ?_
  refine lv_iload_n hx hb d_M_shift_116 rfl (lv_at hl 1 rfl) ?_
  refine lv_isub hx hb d_M_shift_117 ?_
  refine l_top (pk_sub hfi) ?_
  refine k_put (ty := .int) hx hb hG lay_M ft_M ft_M_ok fn_M hown hw 0 rfl rfl 21 (by decide) (hG _ fl_M_108) (fun _ h9 => h9) rfl (by decide +kernel) rfl rfl (by simp) d_M_shift_118 (fun H locs hw => ?_)
  refine lv_aload_n hx hb d_M_shift_121 rfl (lv_at hl 0 rfl) ?_
  refine lv_dup hx hb d_M_shift_122 rfl ?_
  refine k_get hx hb hG lay_M hown hw 0 rfl rfl 22 (by decide) (hG _ fl_M_111) (fun _ h9 => h9) rfl d_M_shift_123 ?_
  refine lv_iload_n hx hb d_M_shift_126 rfl (lv_at hl 2 rfl) ?_
  refine lv_isub hx hb d_M_shift_127 ?_
  refine l_top (pk_sub hgn) ?_
  refine k_put (ty := .int) hx hb hG lay_M ft_M ft_M_ok fn_M hown hw 0 rfl rfl 22 (by decide) (hG _ fl_M_111) (fun _ h9 => h9) rfl (by decide +kernel) rfl rfl (by simp) d_M_shift_128 (fun H locs hw => ?_)
  obtain ⟨f3, hg, hk3⟩ := hw
  obtain ⟨h3, ho3⟩ := h2.back (rw' := nI (kk - fi)) (cl' := nI (n - gn)) hk3
  exact g_retv hx hb hr hlocks hg ⟨V2, Sm2, h3, ho2.trans ho3, hD2⟩ d_M_shift_131
end MSH2
section MLV
variable {p : Program} {l : Launch} {e : Env} {s : State} {m : MethodId} {args : Array Value} {below : List Frame} {meth : Method} {c : Code} {Q : State → Prop} {D : va_G} {k : Nat → ClassId} {L : List Nat} {H0 : Heap}
variable {own : Nat → Nat} {ma : Nat} {ra adr : Nat → Nat} {pr rw cl : Int32} {F R C Lo Pl To Bo Re Sm Pc : Nat → Int32} {V : Nat → Int} {t kk n set : Nat} {Vt : Nat → Int} {aa : Int} {zz : Int32}
set_option maxRecDepth 100000 in
set_option maxHeartbeats 4000000 in
theorem w_lv1 (S : CallFix p m c c_M_leave 10 s args G R_M) (hn : n ≤ 12) (hset : set < 2 ^ 31) {f : Nat → va_E} (h : MW L own k f ma ra adr pr (nI kk) (nI n) F R C Lo Pl To Bo Re Sm Pc V)
    (kx : ∀ (H : Heap) (locs : List Loc) (ls : Array Slot), lv_has ls 10 [(0, .ref ma), (1, .int (zI aa)), (2, .int (nI t)), (3, .int (nI set)), (4, .int zz), (5, .int (nI (sk set n)))] → gw D cls (tyl k) L s s.heap f H locs → W p l e (rmN 9) s m args below meth c H locs 0 0 Q (F0 m 87 ls [])) :
    ∀ (d j : Nat) (H : Heap) (locs : List Loc) (ls : Array Slot), j + d = n → lv_has ls 10 [(0, .ref ma), (1, .int (zI aa)), (2, .int (nI t)), (3, .int (nI set)), (4, .int zz), (5, .int (nI (sk set j))), (6, .int (nI j))] → gw D cls (tyl k) L s s.heap f H locs →
    W p l e (rmN 9) s m args below meth c H locs 0 0 Q (F0 m 61 ls []) := by
  have hx := S.1
  have hb := S.2.1
  have hown : s.vm.findClass R_M = some m.cls := S.2.2.2.1
  have hG := S.2.2.2.2
  intro d
  induction d with
  | zero =>
    intro j H locs ls hd hl hg
    have hd : j = n := by omega
    subst hd
    have hw : kw D cls (tyl k) L s s.heap f ((mc k ra adr ma pr (nI kk) (nI j) F R C Lo Pl To Bo Re Sm Pc)) H locs := ⟨f, hg, h.kn⟩
    -- METHOD M_leave | loc 0=m 1=aa 2=t 3=set 4=zz 5=gone 6=j | ws m fa rc cc lo pl to bo re tp bt sm pc | fld m.fields=fa m.rowCounts=rc m.columnCounts=cc m.loose=lo m.places=pl m.tops=to m.bottoms=bo m.residues=re m.top=tp m.bottom=bt m.small=sm m.place=pc m.one=n0 m.two=n1 m.three=n2 m.four=n3 m.five=n4 m.six=n5 m.seven=n6 m.eight=n7 m.above=n8 m.under=n9
    refine lv_iload hx hb d_M_leave_61 (lv_at hl 6 rfl) ?_
    refine lv_aload_n hx hb d_M_leave_63 rfl (lv_at hl 0 rfl) ?_
    refine k_get hx hb hG lay_M hown hw 0 rfl rfl 22 (by decide) (hG _ fl_M_111) (fun _ h9 => h9) rfl d_M_leave_64 ?_
    refine lv_icmp_ge (tgt := 87) hx hb d_M_leave_67 (by decide) (fun hc => ?_) (fun hc => ?_)
    · exact kx H locs ls (lv_sub hl [0, 1, 2, 3, 4, 5] rfl) hg
    · exact absurd (nI_le (by omega) (by omega)) hc
  | succ d ih =>
    intro j H locs ls hd hl hg
    have hw : kw D cls (tyl k) L s s.heap f ((mc k ra adr ma pr (nI kk) (nI n) F R C Lo Pl To Bo Re Sm Pc)) H locs := ⟨f, hg, h.kn⟩
    -- METHOD M_leave | loc 0=m 1=aa 2=t 3=set 4=zz 5=gone 6=j | ws m fa rc cc lo pl to bo re tp bt sm pc | fld m.fields=fa m.rowCounts=rc m.columnCounts=cc m.loose=lo m.places=pl m.tops=to m.bottoms=bo m.residues=re m.top=tp m.bottom=bt m.small=sm m.place=pc m.one=n0 m.two=n1 m.three=n2 m.four=n3 m.five=n4 m.six=n5 m.seven=n6 m.eight=n7 m.above=n8 m.under=n9
    refine lv_iload hx hb d_M_leave_61 (lv_at hl 6 rfl) ?_
    refine lv_aload_n hx hb d_M_leave_63 rfl (lv_at hl 0 rfl) ?_
    refine k_get hx hb hG lay_M hown hw 0 rfl rfl 22 (by decide) (hG _ fl_M_111) (fun _ h9 => h9) rfl d_M_leave_64 ?_
    refine lv_icmp_ge (tgt := 87) hx hb d_M_leave_67 (by decide) (fun hc => ?_) (fun hc => ?_)
    · exact absurd hc (nI_ge (by omega) (by omega))
    refine lv_iload hx hb d_M_leave_70 (lv_at hl 5 rfl) ?_
    refine lv_iload_n hx hb d_M_leave_72 rfl (lv_at hl 3 rfl) ?_
    refine lv_iload hx hb d_M_leave_73 (lv_at hl 6 rfl) ?_
    refine lv_ishr hx hb d_M_leave_75 ?_
    refine lv_iconst (v := 1) hx hb d_M_leave_76 (by decide) ?_
    refine lv_iand hx hb d_M_leave_77 ?_
    refine l_top (bit_of hset (show j < 32 by omega)) ?_
    refine lv_iadd hx hb d_M_leave_78 ?_
    refine l_top (nI_add (sk set j) (set / 2 ^ j % 2)) ?_
    refine l_top (show nI (sk set j + set / 2 ^ j % 2) = nI (sk set (j + 1)) by
      rw [sk_s]; congr 2
      by_cases q : set / 2 ^ j % 2 = 0
      · rw [if_pos q, q]
      · rw [if_neg q]; omega) ?_
    refine lv_istore hx hb d_M_leave_79 hl (by decide) rfl (fun ls hl => ?_)
    refine lv_iinc (k := 6) hx hb d_M_leave_81 hl rfl (ii1 j) (by decide) rfl (fun ls hl => ?_)
    refine lv_goto (tgt := 61) hx hb d_M_leave_84 (by decide) ?_
    have hl := lv_sub hl [2, 3, 4, 5, 6, 1, 0] rfl
    exact ih (j + 1) H locs ls (by omega) hl hg
set_option maxRecDepth 100000 in
set_option maxHeartbeats 4000000 in
theorem w_lv2I (S : CallFix p m c c_M_leave 10 s args G R_M) (ht : t < 8) (hk12 : kk ≤ 12) (hn : n ≤ 12) (hset : set < 2 ^ 31) (hsc : ∀ x, x < 144 → sc To (16 * (144 * t + x)) (Vt (10 + x)) ∧ sc Bo (16 * (144 * t + x)) (Vt (154 + x))) {i : Nat} (hi : i < kk) {f0 : Nat → va_E}
    (kx : ∀ (f : Nat → va_E) (V : Nat → Int) (Sm : Nat → Int32) (H : Heap) (locs : List Loc) (ls : Array Slot), MW L own k f ma ra adr pr (nI kk) (nI n) F R C Lo Pl To Bo Re Sm Pc V → oe own [200] f0 f → cel V Sm (fun a u => if u < n ∧ (a < (i + 1) ∨ (a = (i + 1) ∧ rho set n u < 0)) then src Vt Re t a (rho set n u) else (0, 1, 0)) → lv_has ls 10 [(0, .ref ma), (1, .int (zI aa)), (2, .int (nI t)), (3, .int (nI set)), (4, .int zz), (5, .int (nI (sk set n))), (6, .int (nI i))] → gw D cls (tyl k) L s s.heap f H locs → W p l e (rmN 9) s m args below meth c H locs 0 0 Q (F0 m 177 ls [])) :
    ∀ (d j : Nat) (f : Nat → va_E) (V : Nat → Int) (Sm : Nat → Int32) (H : Heap) (locs : List Loc) (ls : Array Slot), j + d = n → MW L own k f ma ra adr pr (nI kk) (nI n) F R C Lo Pl To Bo Re Sm Pc V → oe own [200] f0 f → cel V Sm (fun a u => if u < n ∧ (a < i ∨ (a = i ∧ rho set n u < j)) then src Vt Re t a (rho set n u) else (0, 1, 0)) → lv_has ls 10 [(0, .ref ma), (1, .int (zI aa)), (2, .int (nI t)), (3, .int (nI set)), (4, .int zz), (5, .int (nI (sk set n))), (6, .int (nI i)), (7, .int (nI (sk set j))), (8, .int (nI (sk set n + kc set j))), (9, .int (nI j))] → gw D cls (tyl k) L s s.heap f H locs →
    W p l e (rmN 9) s m args below meth c H locs 0 0 Q (F0 m 109 ls []) := by
  have hx := S.1
  have hb := S.2.1
  have hown : s.vm.findClass R_M = some m.cls := S.2.2.2.1
  have hG := S.2.2.2.2
  intro d
  induction d with
  | zero =>
    intro j f V Sm H locs ls hd h ho hD hl hg
    have hw : kw D cls (tyl k) L s s.heap f ((mc k ra adr ma pr (nI kk) (nI n) F R C Lo Pl To Bo Re Sm Pc)) H locs := ⟨f, hg, h.kn⟩
    -- METHOD M_leave | loc 0=m 1=aa 2=t 3=set 4=zz 5=gone 6=i 7=fr 8=be 9=j | ws m fa rc cc lo pl to bo re tp bt sm pc | fld m.fields=fa m.rowCounts=rc m.columnCounts=cc m.loose=lo m.places=pl m.tops=to m.bottoms=bo m.residues=re m.top=tp m.bottom=bt m.small=sm m.place=pc m.one=n0 m.two=n1 m.three=n2 m.four=n3 m.five=n4 m.six=n5 m.seven=n6 m.eight=n7 m.above=n8 m.under=n9
    refine lv_iload hx hb d_M_leave_109 (lv_at hl 9 rfl) ?_
    refine lv_aload_n hx hb d_M_leave_111 rfl (lv_at hl 0 rfl) ?_
    refine k_get hx hb hG lay_M hown hw 0 rfl rfl 22 (by decide) (hG _ fl_M_111) (fun _ h9 => h9) rfl d_M_leave_112 ?_
    refine lv_icmp_ge (tgt := 177) hx hb d_M_leave_115 (by decide) (fun hc => ?_) (fun hc => ?_)
    · refine kx f V Sm H locs ls h ho (cel_congr hD (fun a u ha hu => ?_)) (lv_sub hl [0, 1, 2, 3, 4, 5, 6] rfl) hg
      show (if u < n ∧ (a < i ∨ (a = i ∧ rho set n u < j)) then _ else _) = (if u < n ∧ (a < i + 1 ∨ (a = i + 1 ∧ rho set n u < 0)) then _ else _)
      by_cases q : u < n ∧ (a < i ∨ (a = i ∧ rho set n u < j))
      · rw [if_pos q, if_pos (by omega)]
      · rw [if_neg q, if_neg (fun z => q ⟨z.1, by have := (rho_ok (set := set) z.1).1; omega⟩)]
    · exact absurd (nI_le (by omega) (by omega)) hc
  | succ d ih =>
    intro j f V Sm H locs ls hd h ho hD hl hg
    have hj : j < n := by omega
    have hpl := pos_lt (set := set) hj
    have hrp := rho_pos (set := set) hj
    have hskc := sk_kc set n
    have hcel : ∀ a u, a < 12 → u < 12 → (if a = i ∧ u = pos set n j then (Vt (10 + (12 * i + j)), Vt (154 + (12 * i + j)), Re (144 * t + (12 * i + j))) else if u < n ∧ (a < i ∨ (a = i ∧ rho set n u < j)) then src Vt Re t a (rho set n u) else (0, 1, 0)) = (if u < n ∧ (a < i ∨ (a = i ∧ rho set n u < j + 1)) then src Vt Re t a (rho set n u) else (0, 1, 0)) := fun a u ha hu => by
      by_cases e : a = i ∧ u = pos set n j
      · obtain ⟨e1, e2⟩ := e
        rw [if_pos ⟨e1, e2⟩, if_pos ⟨by omega, Or.inr ⟨e1, by rw [e2, hrp]; omega⟩⟩, e1, e2, hrp]; rfl
      · rw [if_neg e]
        by_cases q : u < n ∧ (a < i ∨ (a = i ∧ rho set n u < j))
        · rw [if_pos q, if_pos ⟨q.1, by omega⟩]
        · rw [if_neg q, if_neg (fun z => ?_)]
          obtain ⟨z1, z2⟩ := z
          rcases z2 with z2 | ⟨z2, z3⟩
          · exact q ⟨z1, Or.inl z2⟩
          · by_cases z4 : rho set n u = j
            · exact e ⟨z2, by rw [← z4]; exact (rho_ok z1).2.1.symm⟩
            · exact q ⟨z1, Or.inr ⟨z2, by omega⟩⟩
    have hw : kw D cls (tyl k) L s s.heap f ((mc k ra adr ma pr (nI kk) (nI n) F R C Lo Pl To Bo Re Sm Pc)) H locs := ⟨f, hg, h.kn⟩
    -- METHOD M_leave | loc 0=m 1=aa 2=t 3=set 4=zz 5=gone 6=i 7=fr 8=be 9=j | ws m fa rc cc lo pl to bo re tp bt sm pc | fld m.fields=fa m.rowCounts=rc m.columnCounts=cc m.loose=lo m.places=pl m.tops=to m.bottoms=bo m.residues=re m.top=tp m.bottom=bt m.small=sm m.place=pc m.one=n0 m.two=n1 m.three=n2 m.four=n3 m.five=n4 m.six=n5 m.seven=n6 m.eight=n7 m.above=n8 m.under=n9
    refine lv_iload hx hb d_M_leave_109 (lv_at hl 9 rfl) ?_
    refine lv_aload_n hx hb d_M_leave_111 rfl (lv_at hl 0 rfl) ?_
    refine k_get hx hb hG lay_M hown hw 0 rfl rfl 22 (by decide) (hG _ fl_M_111) (fun _ h9 => h9) rfl d_M_leave_112 ?_
    refine lv_icmp_ge (tgt := 177) hx hb d_M_leave_115 (by decide) (fun hc => ?_) (fun hc => ?_)
    · exact absurd hc (nI_ge (by omega) (by omega))
    refine lv_iload_n hx hb d_M_leave_118 rfl (lv_at hl 3 rfl) ?_
    refine lv_iload hx hb d_M_leave_119 (lv_at hl 9 rfl) ?_
    refine lv_ishr hx hb d_M_leave_121 ?_
    refine lv_iconst (v := 1) hx hb d_M_leave_122 (by decide) ?_
    refine lv_iand hx hb d_M_leave_123 ?_
    refine l_top (bit_of hset (show j < 32 by omega)) ?_
    refine lv_iconst (v := 1) hx hb d_M_leave_124 (by decide) ?_
    refine lv_icmp_ne (tgt := 151) hx hb d_M_leave_125 (by decide) (fun hc => ?_) (fun hc => ?_)
    · have hb0 : set / 2 ^ j % 2 = 0 := by
        rcases (show set / 2 ^ j % 2 = 0 ∨ set / 2 ^ j % 2 = 1 by omega) with q | q
        · exact q
        · rw [q] at hc; exact absurd rfl hc
      have ep : pos set n j = sk set n + kc set j := by unfold pos; rw [if_pos hb0]
      refine lv_aload_n hx hb d_M_leave_151 rfl (lv_at hl 0 rfl) ?_
      refine lv_iload_n hx hb d_M_leave_152 rfl (lv_at hl 2 rfl) ?_
      refine lv_iload hx hb d_M_leave_153 (lv_at hl 6 rfl) ?_
      refine lv_iload hx hb d_M_leave_155 (lv_at hl 9 rfl) ?_
      refine lv_bipush (v := 12) hx hb d_M_leave_157 (by decide) ?_
      refine lv_iload hx hb d_M_leave_159 (lv_at hl 6 rfl) ?_
      refine lv_imul hx hb d_M_leave_161 ?_
      refine l_top (pk_mul 12 i) ?_
      refine lv_iload hx hb d_M_leave_162 (lv_at hl 8 rfl) ?_
      refine lv_iadd hx hb d_M_leave_164 ?_
      refine l_top (nI_add (12 * i) (sk set n + kc set j)) ?_
      have hw := hg
      refine g_ov (c_V (np := 4) S (m_M_bring l D h (t := t) (i := i) (j := j) (to := 12 * i + (sk set n + kc set j)) ht (by omega) (by omega) (by omega) (hsc (12 * i + j) (by omega)).1 (hsc (12 * i + j) (by omega)).2) hw (h.1.1.1) (h.2.1 _ (List.mem_cons_self)) rfl ml_M_131 im_M_bring se_M_M_bring in_M co_M_bring (by decide +kernel) rfl ⟨rfl, rfl, by decide, by decide⟩ hl.1 rfl (by simp [Value.category]) d_M_leave_165 ⟨Nat.zero_le _, Nat.zero_le _⟩) hw (fun f1 H locs hp hg => ?_)
      obtain ⟨h1, ho1⟩ := hp
      refine lv_iinc (k := 8) hx hb d_M_leave_168 hl rfl (ii1 (sk set n + kc set j)) (by decide) rfl (fun ls hl => ?_)
      refine lv_iinc (k := 9) hx hb d_M_leave_171 hl rfl (ii1 j) (by decide) rfl (fun ls hl => ?_)
      refine lv_goto (tgt := 109) hx hb d_M_leave_174 (by decide) ?_
      have hl := lv_sub hl [2, 3, 4, 5, 6, 7, 8, 9, 1, 0] rfl
      have e1 : sk set (j + 1) = sk set j := by rw [sk_s, if_pos hb0]; rfl
      have e2 : sk set n + kc set (j + 1) = sk set n + kc set j + 1 := by rw [kc_s, if_pos hb0]; rfl
      refine ih (j + 1) f1 _ _ H locs ls (by omega) h1 (ho.trans ho1) (cel_congr (cel_up (A := i) (U := pos set n j) hD (by omega) (by omega) (by rw [ep]) _ _ _) hcel) (by rw [e1, e2]; exact hl) hg
    · have hb1 : set / 2 ^ j % 2 = 1 := by
        rcases (show set / 2 ^ j % 2 = 0 ∨ set / 2 ^ j % 2 = 1 by omega) with q | q
        · rw [q] at hc; exact absurd hc (by decide)
        · exact q
      have ep : pos set n j = sk set j := by unfold pos; rw [if_neg (by omega)]
      refine lv_aload_n hx hb d_M_leave_128 rfl (lv_at hl 0 rfl) ?_
      refine lv_iload_n hx hb d_M_leave_129 rfl (lv_at hl 2 rfl) ?_
      refine lv_iload hx hb d_M_leave_130 (lv_at hl 6 rfl) ?_
      refine lv_iload hx hb d_M_leave_132 (lv_at hl 9 rfl) ?_
      refine lv_bipush (v := 12) hx hb d_M_leave_134 (by decide) ?_
      refine lv_iload hx hb d_M_leave_136 (lv_at hl 6 rfl) ?_
      refine lv_imul hx hb d_M_leave_138 ?_
      refine l_top (pk_mul 12 i) ?_
      refine lv_iload hx hb d_M_leave_139 (lv_at hl 7 rfl) ?_
      refine lv_iadd hx hb d_M_leave_141 ?_
      refine l_top (nI_add (12 * i) (sk set j)) ?_
      have hw := hg
      refine g_ov (c_V (np := 4) S (m_M_bring l D h (t := t) (i := i) (j := j) (to := 12 * i + sk set j) ht (by omega) (by omega) (by omega) (hsc (12 * i + j) (by omega)).1 (hsc (12 * i + j) (by omega)).2) hw (h.1.1.1) (h.2.1 _ (List.mem_cons_self)) rfl ml_M_131 im_M_bring se_M_M_bring in_M co_M_bring (by decide +kernel) rfl ⟨rfl, rfl, by decide, by decide⟩ hl.1 rfl (by simp [Value.category]) d_M_leave_142 ⟨Nat.zero_le _, Nat.zero_le _⟩) hw (fun f1 H locs hp hg => ?_)
      obtain ⟨h1, ho1⟩ := hp
      refine lv_iinc (k := 7) hx hb d_M_leave_145 hl rfl (ii1 (sk set j)) (by decide) rfl (fun ls hl => ?_)
      refine lv_goto (tgt := 171) hx hb d_M_leave_148 (by decide) ?_
      refine lv_iinc (k := 9) hx hb d_M_leave_171 hl rfl (ii1 j) (by decide) rfl (fun ls hl => ?_)
      refine lv_goto (tgt := 109) hx hb d_M_leave_174 (by decide) ?_
      have hl := lv_sub hl [2, 3, 4, 5, 6, 7, 8, 1, 9, 0] rfl
      have e1 : sk set (j + 1) = sk set j + 1 := by rw [sk_s, if_neg (by omega)]
      have e2 : sk set n + kc set (j + 1) = sk set n + kc set j := by rw [kc_s, if_neg (by omega)]; rfl
      refine ih (j + 1) f1 _ _ H locs ls (by omega) h1 (ho.trans ho1) (cel_congr (cel_up (A := i) (U := pos set n j) hD (by omega) (by omega) (by rw [ep]) _ _ _) hcel) (by rw [e1, e2]; exact hl) hg
set_option maxRecDepth 100000 in
set_option maxHeartbeats 4000000 in
theorem w_lv2O (S : CallFix p m c c_M_leave 10 s args G R_M) (ht : t < 8) (hk12 : kk ≤ 12) (hn : n ≤ 12) (hset : set < 2 ^ 31) (hsc : ∀ x, x < 144 → sc To (16 * (144 * t + x)) (Vt (10 + x)) ∧ sc Bo (16 * (144 * t + x)) (Vt (154 + x))) {f0 : Nat → va_E}
    (kx : ∀ (f : Nat → va_E) (V : Nat → Int) (Sm : Nat → Int32) (H : Heap) (locs : List Loc) (ls : Array Slot), MW L own k f ma ra adr pr (nI kk) (nI n) F R C Lo Pl To Bo Re Sm Pc V → oe own [200] f0 f → cel V Sm (fun a u => if u < n ∧ (a < kk ∨ (a = kk ∧ rho set n u < 0)) then src Vt Re t a (rho set n u) else (0, 1, 0)) → lv_has ls 10 [(0, .ref ma), (1, .int (zI aa)), (2, .int (nI t)), (3, .int (nI set)), (4, .int zz), (5, .int (nI (sk set n)))] → gw D cls (tyl k) L s s.heap f H locs → W p l e (rmN 9) s m args below meth c H locs 0 0 Q (F0 m 183 ls [])) :
    ∀ (d i : Nat) (f : Nat → va_E) (V : Nat → Int) (Sm : Nat → Int32) (H : Heap) (locs : List Loc) (ls : Array Slot), i + d = kk → MW L own k f ma ra adr pr (nI kk) (nI n) F R C Lo Pl To Bo Re Sm Pc V → oe own [200] f0 f → cel V Sm (fun a u => if u < n ∧ (a < i ∨ (a = i ∧ rho set n u < 0)) then src Vt Re t a (rho set n u) else (0, 1, 0)) → lv_has ls 10 [(0, .ref ma), (1, .int (zI aa)), (2, .int (nI t)), (3, .int (nI set)), (4, .int zz), (5, .int (nI (sk set n))), (6, .int (nI i))] → gw D cls (tyl k) L s s.heap f H locs →
    W p l e (rmN 9) s m args below meth c H locs 0 0 Q (F0 m 90 ls []) := by
  have hx := S.1
  have hb := S.2.1
  have hown : s.vm.findClass R_M = some m.cls := S.2.2.2.1
  have hG := S.2.2.2.2
  intro d
  induction d with
  | zero =>
    intro i f V Sm H locs ls hd h ho hD hl hg
    have hd : i = kk := by omega
    subst hd
    have hw : kw D cls (tyl k) L s s.heap f ((mc k ra adr ma pr (nI i) (nI n) F R C Lo Pl To Bo Re Sm Pc)) H locs := ⟨f, hg, h.kn⟩
    -- METHOD M_leave | loc 0=m 1=aa 2=t 3=set 4=zz 5=gone 6=i | ws m fa rc cc lo pl to bo re tp bt sm pc | fld m.fields=fa m.rowCounts=rc m.columnCounts=cc m.loose=lo m.places=pl m.tops=to m.bottoms=bo m.residues=re m.top=tp m.bottom=bt m.small=sm m.place=pc m.one=n0 m.two=n1 m.three=n2 m.four=n3 m.five=n4 m.six=n5 m.seven=n6 m.eight=n7 m.above=n8 m.under=n9
    refine lv_iload hx hb d_M_leave_90 (lv_at hl 6 rfl) ?_
    refine lv_aload_n hx hb d_M_leave_92 rfl (lv_at hl 0 rfl) ?_
    refine k_get hx hb hG lay_M hown hw 0 rfl rfl 21 (by decide) (hG _ fl_M_108) (fun _ h9 => h9) rfl d_M_leave_93 ?_
    refine lv_icmp_ge (tgt := 183) hx hb d_M_leave_96 (by decide) (fun hc => ?_) (fun hc => ?_)
    · exact kx f V Sm H locs ls h ho hD (lv_sub hl [0, 1, 2, 3, 4, 5] rfl) hg
    · exact absurd (nI_le (by omega) (by omega)) hc
  | succ d ih =>
    intro i f V Sm H locs ls hd h ho hD hl hg
    have hw : kw D cls (tyl k) L s s.heap f ((mc k ra adr ma pr (nI kk) (nI n) F R C Lo Pl To Bo Re Sm Pc)) H locs := ⟨f, hg, h.kn⟩
    -- METHOD M_leave | loc 0=m 1=aa 2=t 3=set 4=zz 5=gone 6=i | ws m fa rc cc lo pl to bo re tp bt sm pc | fld m.fields=fa m.rowCounts=rc m.columnCounts=cc m.loose=lo m.places=pl m.tops=to m.bottoms=bo m.residues=re m.top=tp m.bottom=bt m.small=sm m.place=pc m.one=n0 m.two=n1 m.three=n2 m.four=n3 m.five=n4 m.six=n5 m.seven=n6 m.eight=n7 m.above=n8 m.under=n9
    refine lv_iload hx hb d_M_leave_90 (lv_at hl 6 rfl) ?_
    refine lv_aload_n hx hb d_M_leave_92 rfl (lv_at hl 0 rfl) ?_
    refine k_get hx hb hG lay_M hown hw 0 rfl rfl 21 (by decide) (hG _ fl_M_108) (fun _ h9 => h9) rfl d_M_leave_93 ?_
    refine lv_icmp_ge (tgt := 183) hx hb d_M_leave_96 (by decide) (fun hc => ?_) (fun hc => ?_)
    · exact absurd hc (nI_ge (by omega) (by omega))
    refine lv_iconst (v := 0) hx hb d_M_leave_99 (by decide) ?_
    refine lv_istore hx hb d_M_leave_100 hl (by decide) rfl (fun ls hl => ?_)
    refine lv_iload hx hb d_M_leave_102 (lv_at hl 6 rfl) ?_
    refine lv_istore hx hb d_M_leave_104 hl (by decide) rfl (fun ls hl => ?_)
    refine lv_iconst (v := 0) hx hb d_M_leave_106 (by decide) ?_
    refine lv_istore hx hb d_M_leave_107 hl (by decide) rfl (fun ls hl => ?_)
    have hl := lv_sub hl [3, 4, 5, 6, 7, 8, 9, 2, 1, 0] rfl
    refine w_lv2I S ht hk12 hn hset hsc (i := i) (by omega) (f0 := f0) (fun f2 V2 Sm2 H locs ls h2 ho2 hD2 hl hg => ?_) n 0 f V Sm H locs ls (by omega) h ho hD hl hg
    refine lv_iinc (k := 6) hx hb d_M_leave_177 hl rfl (ii1 i) (by decide) rfl (fun ls hl => ?_)
    refine lv_goto (tgt := 90) hx hb d_M_leave_180 (by decide) ?_
    have hl := lv_sub hl [1, 2, 3, 4, 5, 6, 0] rfl
    exact ih (i + 1) f2 V2 Sm2 H locs ls (by omega) h2 ho2 hD2 hl hg
set_option maxRecDepth 100000 in
set_option maxHeartbeats 4000000 in
theorem w_lv3 (S : CallFix p m c c_M_leave 10 s args G R_M) {gn r1 : Nat} (hr12 : r1 ≤ 12) (hgn : gn ≤ 12) {pl1 : Nat → Nat} (hpl : ∀ i, i < r1 → Pc i = nI (pl1 i) ∧ pl1 i < 12) (hmo : ∀ a b, a < b → b < r1 → pl1 a < pl1 b) {f : Nat → va_E} (h : MW L own k f ma ra adr pr (nI r1) cl F R C Lo Pl To Bo Re Sm Pc V)
    (kx : ∀ (mm : Nat) (H : Heap) (locs : List Loc) (ls : Array Slot), mm ≤ r1 → (∀ i, i < mm → pl1 i < gn) → (∀ i, mm ≤ i → i < r1 → gn ≤ pl1 i) → lv_has ls 10 [(0, .ref ma), (1, .int (zI aa)), (5, .int (nI gn)), (6, .int (nI mm))] → gw D cls (tyl k) L s s.heap f H locs → W p l e (rmN 9) s m args below meth c H locs 0 0 Q (F0 m 222 ls [])) :
    ∀ (d mm : Nat) (H : Heap) (locs : List Loc) (ls : Array Slot), mm + d = r1 → (∀ i, i < mm → pl1 i < gn) → lv_has ls 10 [(0, .ref ma), (1, .int (zI aa)), (5, .int (nI gn)), (6, .int (nI mm))] → gw D cls (tyl k) L s s.heap f H locs →
    W p l e (rmN 9) s m args below meth c H locs 0 0 Q (F0 m 195 ls []) := by
  have hx := S.1
  have hb := S.2.1
  have hown : s.vm.findClass R_M = some m.cls := S.2.2.2.1
  have hG := S.2.2.2.2
  intro d
  induction d with
  | zero =>
    intro mm H locs ls hd hm hl hg
    have hw : kw D cls (tyl k) L s s.heap f ((mc k ra adr ma pr (nI r1) cl F R C Lo Pl To Bo Re Sm Pc)) H locs := ⟨f, hg, h.kn⟩
    -- METHOD M_leave | loc 0=m 1=aa 5=gone 6=mm | ws m fa rc cc lo pl to bo re tp bt sm pc | fld m.fields=fa m.rowCounts=rc m.columnCounts=cc m.loose=lo m.places=pl m.tops=to m.bottoms=bo m.residues=re m.top=tp m.bottom=bt m.small=sm m.place=pc m.one=n0 m.two=n1 m.three=n2 m.four=n3 m.five=n4 m.six=n5 m.seven=n6 m.eight=n7 m.above=n8 m.under=n9
    refine lv_iload hx hb d_M_leave_195 (lv_at hl 3 rfl) ?_
    refine lv_aload_n hx hb d_M_leave_197 rfl (lv_at hl 0 rfl) ?_
    refine k_get hx hb hG lay_M hown hw 0 rfl rfl 21 (by decide) (hG _ fl_M_108) (fun _ h9 => h9) rfl d_M_leave_198 ?_
    refine lv_icmp_ge (tgt := 222) hx hb d_M_leave_201 (by decide) (fun hc => ?_) (fun hc => ?_)
    · exact kx mm H locs ls (by omega) hm (fun i h1 h2 => by omega) hl hg
    · exact absurd (nI_le (by omega) (by omega)) hc
  | succ d ih =>
    intro mm H locs ls hd hm hl hg
    obtain ⟨p1, p2⟩ := hpl mm (by omega)
    have hw : kw D cls (tyl k) L s s.heap f ((mc k ra adr ma pr (nI r1) cl F R C Lo Pl To Bo Re Sm Pc)) H locs := ⟨f, hg, h.kn⟩
    -- METHOD M_leave | loc 0=m 1=aa 5=gone 6=mm | ws m fa rc cc lo pl to bo re tp bt sm pc | fld m.fields=fa m.rowCounts=rc m.columnCounts=cc m.loose=lo m.places=pl m.tops=to m.bottoms=bo m.residues=re m.top=tp m.bottom=bt m.small=sm m.place=pc m.one=n0 m.two=n1 m.three=n2 m.four=n3 m.five=n4 m.six=n5 m.seven=n6 m.eight=n7 m.above=n8 m.under=n9
    refine lv_iload hx hb d_M_leave_195 (lv_at hl 3 rfl) ?_
    refine lv_aload_n hx hb d_M_leave_197 rfl (lv_at hl 0 rfl) ?_
    refine k_get hx hb hG lay_M hown hw 0 rfl rfl 21 (by decide) (hG _ fl_M_108) (fun _ h9 => h9) rfl d_M_leave_198 ?_
    refine lv_icmp_ge (tgt := 222) hx hb d_M_leave_201 (by decide) (fun hc => ?_) (fun hc => ?_)
    · exact absurd hc (nI_ge (by omega) (by omega))
    refine lv_aload_n hx hb d_M_leave_204 rfl (lv_at hl 0 rfl) ?_
    refine k_get hx hb hG lay_M hown hw 0 rfl rfl 19 (by decide) (hG _ fl_M_89) (fun _ h9 => h9) rfl d_M_leave_205 ?_
    refine lv_iload hx hb d_M_leave_208 (lv_at hl 3 rfl) ?_
    refine k_iald hx hb hw 12 0 rfl rfl (mm) (rfl) (by omega) (by first | decide | omega) d_M_leave_210 ?_
    refine l_top p1 ?_
    refine lv_iload hx hb d_M_leave_211 (lv_at hl 2 rfl) ?_
    refine lv_icmp_ge (tgt := 222) hx hb d_M_leave_213 (by decide) (fun hc => ?_) (fun hc => ?_)
    · have hge : gn ≤ pl1 mm := (nI_leI (by omega) (by omega)).mp hc
      refine kx mm H locs ls (by omega) hm (fun i h1 h2 => ?_) hl hg
      by_cases e : i = mm
      · rw [e]; exact hge
      · have := hmo mm i (by omega) h2; omega
    · have hlt : ¬ gn ≤ pl1 mm := fun z => hc ((nI_leI (by omega) (by omega)).mpr z)
      refine lv_iinc (k := 3) hx hb d_M_leave_216 hl rfl (ii1 mm) (by decide) rfl (fun ls hl => ?_)
      refine lv_goto (tgt := 195) hx hb d_M_leave_219 (by decide) ?_
      have hl := lv_sub hl [1, 2, 3, 0] rfl
      refine ih (mm + 1) H locs ls (by omega) (fun i hi => ?_) hl hg
      by_cases e : i = mm
      · rw [e]; omega
      · exact hm i (by omega)
end MLV


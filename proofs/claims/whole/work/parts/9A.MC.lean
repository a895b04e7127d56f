-- ===== the reference: sum =====
def cel (V : Nat → Int) (Sm : Nat → Int32) (g : Nat → Nat → Int × Int × Int32) : Prop := ∀ a u, a < 12 → u < 12 → V (10 + (12 * a + u)) = (g a u).1 ∧ V (154 + (12 * a + u)) = (g a u).2.1 ∧ Sm (12 * a + u) = (g a u).2.2
def src (Vt : Nat → Int) (Re : Nat → Int32) (t a u : Nat) : Int × Int × Int32 := (Vt (10 + (12 * a + u)), Vt (154 + (12 * a + u)), Re (144 * t + (12 * a + u)))
theorem cel_up {V : Nat → Int} {Sm : Nat → Int32} {g : Nat → Nat → Int × Int × Int32} (h : cel V Sm g) {A U to : Nat} (hA : A < 12) (hU : U < 12) (e : to = 12 * A + U) (x y : Int) (z : Int32) : cel (va_up (va_up V (10 + to) x) (154 + to) y) (upd Sm to z) (fun a u => if a = A ∧ u = U then (x, y, z) else g a u) := by
  intro a u ha hu
  show va_up (va_up V (10 + to) x) (154 + to) y (10 + (12 * a + u)) = (if a = A ∧ u = U then (x, y, z) else g a u).1 ∧ va_up (va_up V (10 + to) x) (154 + to) y (154 + (12 * a + u)) = (if a = A ∧ u = U then (x, y, z) else g a u).2.1 ∧ upd Sm to z (12 * a + u) = (if a = A ∧ u = U then (x, y, z) else g a u).2.2
  by_cases hc : a = A ∧ u = U
  · obtain ⟨rfl, rfl⟩ := hc
    rw [if_pos ⟨rfl, rfl⟩, ← e, va_up_ne _ _ (by omega), va_up_self, va_up_self, pk_us]
    exact ⟨rfl, rfl, rfl⟩
  · rw [if_neg hc, va_up_ne _ _ (by omega), va_up_ne _ _ (by omega), va_up_ne _ _ (by omega), va_up_ne _ _ (by omega), pk_un (by omega)]
    exact h a u ha hu
theorem cel_congr {V : Nat → Int} {Sm : Nat → Int32} {g g' : Nat → Nat → Int × Int × Int32} (h : cel V Sm g) (e : ∀ a u, a < 12 → u < 12 → g a u = g' a u) : cel V Sm g' := fun a u ha hu => by
  rw [← e a u ha hu]; exact h a u ha hu
theorem cel_at {V : Nat → Int} {Sm : Nat → Int32} {g : Nat → Nat → Int × Int × Int32} (h : cel V Sm g) {a u : Nat} (ha : a < 12) (hu : u < 12) {v : Int × Int × Int32} (e : g a u = v) : V (10 + (12 * a + u)) = v.1 ∧ V (154 + (12 * a + u)) = v.2.1 ∧ Sm (12 * a + u) = v.2.2 := by
  rw [← e]; exact h a u ha hu
theorem cel_0 {V : Nat → Int} {Sm : Nat → Int32} (h : ∀ x, x < 144 → V (10 + x) = 0 ∧ V (154 + x) = 1 ∧ Sm x = 0) : cel V Sm (fun _ _ => (0, 1, 0)) := fun a u ha hu => h (12 * a + u) (by omega)
theorem cel_JB {V : Nat → Int} {Sm : Nat → Int32} {g : Nat → Nat → Int × Int × Int32} (h : cel V Sm g) (hg : ∀ a u, a < 12 → u < 12 → (g a u).1.natAbs < D16 ^ 15 ∧ (g a u).2.1.natAbs < D16 ^ 15) : JB V := fun x hx => by
  have e : x = 12 * (x / 12) + x % 12 := by omega
  obtain ⟨h1, h2, -⟩ := h (x / 12) (x % 12) (by omega) (by omega)
  rw [← e] at h1 h2
  rw [h1, h2]; exact hg _ _ (by omega) (by omega)
section MSU
variable {p : Program} {l : Launch} {e : Env} {s : State} {m : MethodId} {args : Array Value} {below : List Frame} {meth : Method} {c : Code} {Q : State → Prop} {D : va_G} {k : Nat → ClassId} {L : List Nat} {H0 : Heap}
variable {own : Nat → Nat} {ma : Nat} {ra adr : Nat → Nat} {pr rw cl : Int32} {F R C Lo Pl To Bo Re Sm Pc : Nat → Int32} {V : Nat → Int} {ta tb ra0 rb0 ca0 cb0 : Nat} {VA VB : Nat → Int} {aa : Int}
set_option maxRecDepth 100000 in
set_option maxHeartbeats 4000000 in
theorem w_su1I (S : CallFix p m c c_M_sum 6 s args G R_M) (hRa : R ta = nI ra0) (hRb : R tb = nI rb0) (hCa : C ta = nI ca0) (hCb : C tb = nI cb0) (hta : ta < 8) (htb : tb < 8) (hr1 : ra0 + rb0 ≤ 12) (hc1 : ca0 + cb0 ≤ 12) (hsa : (∀ x, x < 144 → sc To (16 * (144 * ta + x)) (VA (10 + x)) ∧ sc Bo (16 * (144 * ta + x)) (VA (154 + x)))) (hsb : (∀ x, x < 144 → sc To (16 * (144 * tb + x)) (VB (10 + x)) ∧ sc Bo (16 * (144 * tb + x)) (VB (154 + x)))) {i : Nat} (hi : i < ra0) {f0 : Nat → va_E}
    (kx : ∀ (f : Nat → va_E) (V : Nat → Int) (Sm : Nat → Int32) (H : Heap) (locs : List Loc) (ls : Array Slot), MW L own k f ma ra adr pr (nI (ra0 + rb0)) (nI (ca0 + cb0)) F R C Lo Pl To Bo Re Sm Pc V → oe own [200] f0 f → cel V Sm (fun a u => if u < ca0 ∧ (a < (i + 1) ∨ (a = (i + 1) ∧ u < 0)) then src VA Re ta a u else (0, 1, 0)) → lv_has ls 6 [(0, .ref ma), (1, .int (zI aa)), (2, .int (nI ta)), (3, .int (nI tb)), (4, .int (nI i))] → gw D cls (tyl k) L s s.heap f H locs → W p l e (rmN 9) s m args below meth c H locs 0 0 Q (F0 m 145 ls [])) :
    ∀ (d j : Nat) (f : Nat → va_E) (V : Nat → Int) (Sm : Nat → Int32) (H : Heap) (locs : List Loc) (ls : Array Slot), j + d = ca0 → MW L own k f ma ra adr pr (nI (ra0 + rb0)) (nI (ca0 + cb0)) F R C Lo Pl To Bo Re Sm Pc V → oe own [200] f0 f → cel V Sm (fun a u => if u < ca0 ∧ (a < i ∨ (a = i ∧ u < j)) then src VA Re ta a u else (0, 1, 0)) → lv_has ls 6 [(0, .ref ma), (1, .int (zI aa)), (2, .int (nI ta)), (3, .int (nI tb)), (4, .int (nI i)), (5, .int (nI j))] → gw D cls (tyl k) L s s.heap f H locs →
    W p l e (rmN 9) s m args below meth c H locs 0 0 Q (F0 m 111 ls []) := by
  have hx := S.1
  have hb := S.2.1
  have hown : s.vm.findClass R_M = some m.cls := S.2.2.2.1
  have hG := S.2.2.2.2
  intro d
  induction d with
  | zero =>
    intro j f V Sm H locs ls hd h ho hD hl hg
    have hw : kw D cls (tyl k) L s s.heap f ((mc k ra adr ma pr (nI (ra0 + rb0)) (nI (ca0 + cb0)) F R C Lo Pl To Bo Re Sm Pc)) H locs := ⟨f, hg, h.kn⟩
    -- METHOD M_sum | loc 0=m 1=aa 2=ta 3=tb 4=i 5=j | ws m fa rc cc lo pl to bo re tp bt sm pc | fld m.fields=fa m.rowCounts=rc m.columnCounts=cc m.loose=lo m.places=pl m.tops=to m.bottoms=bo m.residues=re m.top=tp m.bottom=bt m.small=sm m.place=pc m.one=n0 m.two=n1 m.three=n2 m.four=n3 m.five=n4 m.six=n5 m.seven=n6 m.eight=n7 m.above=n8 m.under=n9
    refine lv_iload hx hb d_M_sum_111 (lv_at hl 5 rfl) ?_
    refine lv_aload_n hx hb d_M_sum_113 rfl (lv_at hl 0 rfl) ?_
    refine k_get hx hb hG lay_M hown hw 0 rfl rfl 10 (by decide) (hG _ fl_M_60) (fun _ h9 => h9) rfl d_M_sum_114 ?_
    refine lv_iload_n hx hb d_M_sum_117 rfl (lv_at hl 2 rfl) ?_
    refine k_iald hx hb hw 3 0 rfl rfl (ta) (rfl) (by omega) (by first | decide | omega) d_M_sum_118 ?_
    refine l_top hCa ?_
    refine lv_icmp_ge (tgt := 145) hx hb d_M_sum_119 (by decide) (fun hc => ?_) (fun hc => ?_)
    · refine kx f V Sm H locs ls h ho (cel_congr hD (fun a u ha hu => ?_)) (lv_sub hl [0, 1, 2, 3, 4] rfl) hg
      show (if u < ca0 ∧ (a < i ∨ (a = i ∧ u < j)) then src VA Re ta a u else (0, 1, 0)) = (if u < ca0 ∧ (a < i + 1 ∨ (a = i + 1 ∧ u < 0)) then src VA Re ta a u else (0, 1, 0))
      by_cases q : u < ca0 ∧ (a < i ∨ (a = i ∧ u < j))
      · rw [if_pos q, if_pos (by omega)]
      · rw [if_neg q, if_neg (by omega)]
    · exact absurd (nI_le (by omega) (by omega)) hc
  | succ d ih =>
    intro j f V Sm H locs ls hd h ho hD hl hg
    have hw : kw D cls (tyl k) L s s.heap f ((mc k ra adr ma pr (nI (ra0 + rb0)) (nI (ca0 + cb0)) F R C Lo Pl To Bo Re Sm Pc)) H locs := ⟨f, hg, h.kn⟩
    -- METHOD M_sum | loc 0=m 1=aa 2=ta 3=tb 4=i 5=j | ws m fa rc cc lo pl to bo re tp bt sm pc | fld m.fields=fa m.rowCounts=rc m.columnCounts=cc m.loose=lo m.places=pl m.tops=to m.bottoms=bo m.residues=re m.top=tp m.bottom=bt m.small=sm m.place=pc m.one=n0 m.two=n1 m.three=n2 m.four=n3 m.five=n4 m.six=n5 m.seven=n6 m.eight=n7 m.above=n8 m.under=n9
    refine lv_iload hx hb d_M_sum_111 (lv_at hl 5 rfl) ?_
    refine lv_aload_n hx hb d_M_sum_113 rfl (lv_at hl 0 rfl) ?_
    refine k_get hx hb hG lay_M hown hw 0 rfl rfl 10 (by decide) (hG _ fl_M_60) (fun _ h9 => h9) rfl d_M_sum_114 ?_
    refine lv_iload_n hx hb d_M_sum_117 rfl (lv_at hl 2 rfl) ?_
    refine k_iald hx hb hw 3 0 rfl rfl (ta) (rfl) (by omega) (by first | decide | omega) d_M_sum_118 ?_
    refine l_top hCa ?_
    refine lv_icmp_ge (tgt := 145) hx hb d_M_sum_119 (by decide) (fun hc => ?_) (fun hc => ?_)
    · exact absurd hc (nI_ge (by omega) (by omega))
    refine lv_aload_n hx hb d_M_sum_122 rfl (lv_at hl 0 rfl) ?_
    refine lv_iload_n hx hb d_M_sum_123 rfl (lv_at hl 2 rfl) ?_
    refine lv_iload hx hb d_M_sum_124 (lv_at hl 4 rfl) ?_
    refine lv_iload hx hb d_M_sum_126 (lv_at hl 5 rfl) ?_
    refine lv_bipush (v := 12) hx hb d_M_sum_128 (by decide) ?_
    refine lv_iload hx hb d_M_sum_130 (lv_at hl 4 rfl) ?_
    refine lv_imul hx hb d_M_sum_132 ?_
    refine l_top (pk_mul 12 i) ?_
    refine lv_iload hx hb d_M_sum_133 (lv_at hl 5 rfl) ?_
    refine lv_iadd hx hb d_M_sum_135 ?_
    refine l_top (nI_add (12 * i) j) ?_
    have hw := hg
    refine g_ov (c_V (np := 4) S (m_M_bring l D h (t := ta) (i := i) (j := j) (to := 12 * i + j) hta (by omega) (by omega) (by omega) (hsa (12 * i + j) (by omega)).1 (hsa (12 * i + j) (by omega)).2) hw (h.1.1.1) (h.2.1 _ (List.mem_cons_self)) rfl ml_M_131 im_M_bring se_M_M_bring in_M co_M_bring (by decide +kernel) rfl ⟨rfl, rfl, by decide, by decide⟩ hl.1 rfl (by simp [Value.category]) d_M_sum_136 ⟨Nat.zero_le _, Nat.zero_le _⟩) hw (fun f1 H locs hp hg => ?_)
    obtain ⟨h1, ho1⟩ := hp
    refine lv_iinc (k := 5) hx hb d_M_sum_139 hl rfl (ii1 j) (by decide) rfl (fun ls hl => ?_)
    refine lv_goto (tgt := 111) hx hb d_M_sum_142 (by decide) ?_
    have hl := lv_sub hl [1, 2, 3, 4, 5, 0] rfl
    refine ih (j + 1) f1 _ _ H locs ls (by omega) h1 (ho.trans ho1) (cel_congr (cel_up hD (by omega) (by omega) rfl _ _ _) (fun a u ha hu => ?_)) hl hg
    show (if a = i ∧ u = j then _ else if u < ca0 ∧ (a < i ∨ (a = i ∧ u < j)) then src VA Re ta a u else (0, 1, 0)) = (if u < ca0 ∧ (a < i ∨ (a = i ∧ u < j + 1)) then src VA Re ta a u else (0, 1, 0))
    by_cases q : a = i ∧ u = j
    · obtain ⟨rfl, rfl⟩ := q
      rw [if_pos ⟨rfl, rfl⟩, if_pos (by omega)]; rfl
    · rw [if_neg q]
      by_cases q2 : u < ca0 ∧ (a < i ∨ (a = i ∧ u < j))
      · rw [if_pos q2, if_pos (by omega)]
      · rw [if_neg q2, if_neg (by omega)]
set_option maxRecDepth 100000 in
set_option maxHeartbeats 4000000 in
theorem w_su1O (S : CallFix p m c c_M_sum 6 s args G R_M) (hRa : R ta = nI ra0) (hRb : R tb = nI rb0) (hCa : C ta = nI ca0) (hCb : C tb = nI cb0) (hta : ta < 8) (htb : tb < 8) (hr1 : ra0 + rb0 ≤ 12) (hc1 : ca0 + cb0 ≤ 12) (hsa : (∀ x, x < 144 → sc To (16 * (144 * ta + x)) (VA (10 + x)) ∧ sc Bo (16 * (144 * ta + x)) (VA (154 + x)))) (hsb : (∀ x, x < 144 → sc To (16 * (144 * tb + x)) (VB (10 + x)) ∧ sc Bo (16 * (144 * tb + x)) (VB (154 + x)))) {f0 : Nat → va_E}
    (kx : ∀ (f : Nat → va_E) (V : Nat → Int) (Sm : Nat → Int32) (H : Heap) (locs : List Loc) (ls : Array Slot), MW L own k f ma ra adr pr (nI (ra0 + rb0)) (nI (ca0 + cb0)) F R C Lo Pl To Bo Re Sm Pc V → oe own [200] f0 f → cel V Sm (fun a u => if u < ca0 ∧ (a < ra0 ∨ (a = ra0 ∧ u < 0)) then src VA Re ta a u else (0, 1, 0)) → lv_has ls 6 [(0, .ref ma), (1, .int (zI aa)), (2, .int (nI ta)), (3, .int (nI tb))] → gw D cls (tyl k) L s s.heap f H locs → W p l e (rmN 9) s m args below meth c H locs 0 0 Q (F0 m 151 ls [])) :
    ∀ (d i : Nat) (f : Nat → va_E) (V : Nat → Int) (Sm : Nat → Int32) (H : Heap) (locs : List Loc) (ls : Array Slot), i + d = ra0 → MW L own k f ma ra adr pr (nI (ra0 + rb0)) (nI (ca0 + cb0)) F R C Lo Pl To Bo Re Sm Pc V → oe own [200] f0 f → cel V Sm (fun a u => if u < ca0 ∧ (a < i ∨ (a = i ∧ u < 0)) then src VA Re ta a u else (0, 1, 0)) → lv_has ls 6 [(0, .ref ma), (1, .int (zI aa)), (2, .int (nI ta)), (3, .int (nI tb)), (4, .int (nI i))] → gw D cls (tyl k) L s s.heap f H locs →
    W p l e (rmN 9) s m args below meth c H locs 0 0 Q (F0 m 97 ls []) := by
  have hx := S.1
  have hb := S.2.1
  have hown : s.vm.findClass R_M = some m.cls := S.2.2.2.1
  have hG := S.2.2.2.2
  intro d
  induction d with
  | zero =>
    intro i f V Sm H locs ls hd h ho hD hl hg
    have hd : i = ra0 := by omega
    subst hd
    have hw : kw D cls (tyl k) L s s.heap f ((mc k ra adr ma pr (nI (i + rb0)) (nI (ca0 + cb0)) F R C Lo Pl To Bo Re Sm Pc)) H locs := ⟨f, hg, h.kn⟩
    -- METHOD M_sum | loc 0=m 1=aa 2=ta 3=tb 4=i | ws m fa rc cc lo pl to bo re tp bt sm pc | fld m.fields=fa m.rowCounts=rc m.columnCounts=cc m.loose=lo m.places=pl m.tops=to m.bottoms=bo m.residues=re m.top=tp m.bottom=bt m.small=sm m.place=pc m.one=n0 m.two=n1 m.three=n2 m.four=n3 m.five=n4 m.six=n5 m.seven=n6 m.eight=n7 m.above=n8 m.under=n9
    refine lv_iload hx hb d_M_sum_97 (lv_at hl 4 rfl) ?_
    refine lv_aload_n hx hb d_M_sum_99 rfl (lv_at hl 0 rfl) ?_
    refine k_get hx hb hG lay_M hown hw 0 rfl rfl 9 (by decide) (hG _ fl_M_57) (fun _ h9 => h9) rfl d_M_sum_100 ?_
    refine lv_iload_n hx hb d_M_sum_103 rfl (lv_at hl 2 rfl) ?_
    refine k_iald hx hb hw 2 0 rfl rfl (ta) (rfl) (by omega) (by first | decide | omega) d_M_sum_104 ?_
    refine l_top hRa ?_
    refine lv_icmp_ge (tgt := 151) hx hb d_M_sum_105 (by decide) (fun hc => ?_) (fun hc => ?_)
    · exact kx f V Sm H locs ls h ho hD (lv_sub hl [0, 1, 2, 3] rfl) hg
    · exact absurd (nI_le (by omega) (by omega)) hc
  | succ d ih =>
    intro i f V Sm H locs ls hd h ho hD hl hg
    have hw : kw D cls (tyl k) L s s.heap f ((mc k ra adr ma pr (nI (ra0 + rb0)) (nI (ca0 + cb0)) F R C Lo Pl To Bo Re Sm Pc)) H locs := ⟨f, hg, h.kn⟩
    -- METHOD M_sum | loc 0=m 1=aa 2=ta 3=tb 4=i | ws m fa rc cc lo pl to bo re tp bt sm pc | fld m.fields=fa m.rowCounts=rc m.columnCounts=cc m.loose=lo m.places=pl m.tops=to m.bottoms=bo m.residues=re m.top=tp m.bottom=bt m.small=sm m.place=pc m.one=n0 m.two=n1 m.three=n2 m.four=n3 m.five=n4 m.six=n5 m.seven=n6 m.eight=n7 m.above=n8 m.under=n9
    refine lv_iload hx hb d_M_sum_97 (lv_at hl 4 rfl) ?_
    refine lv_aload_n hx hb d_M_sum_99 rfl (lv_at hl 0 rfl) ?_
    refine k_get hx hb hG lay_M hown hw 0 rfl rfl 9 (by decide) (hG _ fl_M_57) (fun _ h9 => h9) rfl d_M_sum_100 ?_
    refine lv_iload_n hx hb d_M_sum_103 rfl (lv_at hl 2 rfl) ?_
    refine k_iald hx hb hw 2 0 rfl rfl (ta) (rfl) (by omega) (by first | decide | omega) d_M_sum_104 ?_
    refine l_top hRa ?_
    refine lv_icmp_ge (tgt := 151) hx hb d_M_sum_105 (by decide) (fun hc => ?_) (fun hc => ?_)
    · exact absurd hc (nI_ge (by omega) (by omega))
    refine lv_iconst (v := 0) hx hb d_M_sum_108 (by decide) ?_
    refine lv_istore hx hb d_M_sum_109 hl (by decide) rfl (fun ls hl => ?_)
    have hl := lv_sub hl [1, 2, 3, 4, 5, 0] rfl
    refine w_su1I S hRa hRb hCa hCb hta htb hr1 hc1 hsa hsb (i := i) (by omega) (f0 := f0) (fun f2 V2 Sm2 H locs ls h2 ho2 hD2 hl hg => ?_) ca0 0 f V Sm H locs ls (by omega) h ho hD hl hg
    refine lv_iinc (k := 4) hx hb d_M_sum_145 hl rfl (ii1 i) (by decide) rfl (fun ls hl => ?_)
    refine lv_goto (tgt := 97) hx hb d_M_sum_148 (by decide) ?_
    have hl := lv_sub hl [1, 2, 3, 4, 0] rfl
    exact ih (i + 1) f2 V2 Sm2 H locs ls (by omega) h2 ho2 hD2 hl hg
set_option maxRecDepth 100000 in
set_option maxHeartbeats 4000000 in
theorem w_su2I (S : CallFix p m c c_M_sum 6 s args G R_M) (hRa : R ta = nI ra0) (hRb : R tb = nI rb0) (hCa : C ta = nI ca0) (hCb : C tb = nI cb0) (hta : ta < 8) (htb : tb < 8) (hr1 : ra0 + rb0 ≤ 12) (hc1 : ca0 + cb0 ≤ 12) (hsa : (∀ x, x < 144 → sc To (16 * (144 * ta + x)) (VA (10 + x)) ∧ sc Bo (16 * (144 * ta + x)) (VA (154 + x)))) (hsb : (∀ x, x < 144 → sc To (16 * (144 * tb + x)) (VB (10 + x)) ∧ sc Bo (16 * (144 * tb + x)) (VB (154 + x)))) {i : Nat} (hi : i < rb0) {f0 : Nat → va_E}
    (kx : ∀ (f : Nat → va_E) (V : Nat → Int) (Sm : Nat → Int32) (H : Heap) (locs : List Loc) (ls : Array Slot), MW L own k f ma ra adr pr (nI (ra0 + rb0)) (nI (ca0 + cb0)) F R C Lo Pl To Bo Re Sm Pc V → oe own [200] f0 f → cel V Sm (fun a u => if ra0 ≤ a ∧ ca0 ≤ u ∧ u < ca0 + cb0 ∧ (a < ra0 + (i + 1) ∨ (a = ra0 + (i + 1) ∧ u < ca0 + 0)) then src VB Re tb (a - ra0) (u - ca0) else if u < ca0 ∧ a < ra0 then src VA Re ta a u else (0, 1, 0)) → lv_has ls 6 [(0, .ref ma), (1, .int (zI aa)), (2, .int (nI ta)), (3, .int (nI tb)), (4, .int (nI i))] → gw D cls (tyl k) L s s.heap f H locs → W p l e (rmN 9) s m args below meth c H locs 0 0 Q (F0 m 216 ls [])) :
    ∀ (d j : Nat) (f : Nat → va_E) (V : Nat → Int) (Sm : Nat → Int32) (H : Heap) (locs : List Loc) (ls : Array Slot), j + d = cb0 → MW L own k f ma ra adr pr (nI (ra0 + rb0)) (nI (ca0 + cb0)) F R C Lo Pl To Bo Re Sm Pc V → oe own [200] f0 f → cel V Sm (fun a u => if ra0 ≤ a ∧ ca0 ≤ u ∧ u < ca0 + cb0 ∧ (a < ra0 + i ∨ (a = ra0 + i ∧ u < ca0 + j)) then src VB Re tb (a - ra0) (u - ca0) else if u < ca0 ∧ a < ra0 then src VA Re ta a u else (0, 1, 0)) → lv_has ls 6 [(0, .ref ma), (1, .int (zI aa)), (2, .int (nI ta)), (3, .int (nI tb)), (4, .int (nI i)), (5, .int (nI j))] → gw D cls (tyl k) L s s.heap f H locs →
    W p l e (rmN 9) s m args below meth c H locs 0 0 Q (F0 m 168 ls []) := by
  have hx := S.1
  have hb := S.2.1
  have hown : s.vm.findClass R_M = some m.cls := S.2.2.2.1
  have hG := S.2.2.2.2
  intro d
  induction d with
  | zero =>
    intro j f V Sm H locs ls hd h ho hD hl hg
    have hw : kw D cls (tyl k) L s s.heap f ((mc k ra adr ma pr (nI (ra0 + rb0)) (nI (ca0 + cb0)) F R C Lo Pl To Bo Re Sm Pc)) H locs := ⟨f, hg, h.kn⟩
    -- METHOD M_sum | loc 0=m 1=aa 2=ta 3=tb 4=i 5=j | ws m fa rc cc lo pl to bo re tp bt sm pc | fld m.fields=fa m.rowCounts=rc m.columnCounts=cc m.loose=lo m.places=pl m.tops=to m.bottoms=bo m.residues=re m.top=tp m.bottom=bt m.small=sm m.place=pc m.one=n0 m.two=n1 m.three=n2 m.four=n3 m.five=n4 m.six=n5 m.seven=n6 m.eight=n7 m.above=n8 m.under=n9
    refine lv_iload hx hb d_M_sum_168 (lv_at hl 5 rfl) ?_
    refine lv_aload_n hx hb d_M_sum_170 rfl (lv_at hl 0 rfl) ?_
    refine k_get hx hb hG lay_M hown hw 0 rfl rfl 10 (by decide) (hG _ fl_M_60) (fun _ h9 => h9) rfl d_M_sum_171 ?_
    refine lv_iload_n hx hb d_M_sum_174 rfl (lv_at hl 3 rfl) ?_
    refine k_iald hx hb hw 3 0 rfl rfl (tb) (rfl) (by omega) (by first | decide | omega) d_M_sum_175 ?_
    refine l_top hCb ?_
    refine lv_icmp_ge (tgt := 216) hx hb d_M_sum_176 (by decide) (fun hc => ?_) (fun hc => ?_)
    · refine kx f V Sm H locs ls h ho (cel_congr hD (fun a u ha hu => ?_)) (lv_sub hl [0, 1, 2, 3, 4] rfl) hg
      show (if ra0 ≤ a ∧ ca0 ≤ u ∧ u < ca0 + cb0 ∧ (a < ra0 + i ∨ (a = ra0 + i ∧ u < ca0 + j)) then src VB Re tb (a - ra0) (u - ca0) else if u < ca0 ∧ a < ra0 then src VA Re ta a u else (0, 1, 0)) = (if ra0 ≤ a ∧ ca0 ≤ u ∧ u < ca0 + cb0 ∧ (a < ra0 + (i + 1) ∨ (a = ra0 + (i + 1) ∧ u < ca0 + 0)) then src VB Re tb (a - ra0) (u - ca0) else if u < ca0 ∧ a < ra0 then src VA Re ta a u else (0, 1, 0))
      by_cases q : ra0 ≤ a ∧ ca0 ≤ u ∧ u < ca0 + cb0 ∧ (a < ra0 + i ∨ (a = ra0 + i ∧ u < ca0 + j))
      · rw [if_pos q, if_pos (by omega)]
      · rw [if_neg q]
        by_cases q2 : ra0 ≤ a ∧ ca0 ≤ u ∧ u < ca0 + cb0 ∧ (a < ra0 + (i + 1) ∨ (a = ra0 + (i + 1) ∧ u < ca0 + 0))
        · omega
        · rw [if_neg q2]
    · exact absurd (nI_le (by omega) (by omega)) hc
  | succ d ih =>
    intro j f V Sm H locs ls hd h ho hD hl hg
    have hw : kw D cls (tyl k) L s s.heap f ((mc k ra adr ma pr (nI (ra0 + rb0)) (nI (ca0 + cb0)) F R C Lo Pl To Bo Re Sm Pc)) H locs := ⟨f, hg, h.kn⟩
    -- METHOD M_sum | loc 0=m 1=aa 2=ta 3=tb 4=i 5=j | ws m fa rc cc lo pl to bo re tp bt sm pc | fld m.fields=fa m.rowCounts=rc m.columnCounts=cc m.loose=lo m.places=pl m.tops=to m.bottoms=bo m.residues=re m.top=tp m.bottom=bt m.small=sm m.place=pc m.one=n0 m.two=n1 m.three=n2 m.four=n3 m.five=n4 m.six=n5 m.seven=n6 m.eight=n7 m.above=n8 m.under=n9
    refine lv_iload hx hb d_M_sum_168 (lv_at hl 5 rfl) ?_
    refine lv_aload_n hx hb d_M_sum_170 rfl (lv_at hl 0 rfl) ?_
    refine k_get hx hb hG lay_M hown hw 0 rfl rfl 10 (by decide) (hG _ fl_M_60) (fun _ h9 => h9) rfl d_M_sum_171 ?_
    refine lv_iload_n hx hb d_M_sum_174 rfl (lv_at hl 3 rfl) ?_
    refine k_iald hx hb hw 3 0 rfl rfl (tb) (rfl) (by omega) (by first | decide | omega) d_M_sum_175 ?_
    refine l_top hCb ?_
    refine lv_icmp_ge (tgt := 216) hx hb d_M_sum_176 (by decide) (fun hc => ?_) (fun hc => ?_)
    · exact absurd hc (nI_ge (by omega) (by omega))
    refine lv_aload_n hx hb d_M_sum_179 rfl (lv_at hl 0 rfl) ?_
    refine lv_iload_n hx hb d_M_sum_180 rfl (lv_at hl 3 rfl) ?_
    refine lv_iload hx hb d_M_sum_181 (lv_at hl 4 rfl) ?_
    refine lv_iload hx hb d_M_sum_183 (lv_at hl 5 rfl) ?_
    refine lv_bipush (v := 12) hx hb d_M_sum_185 (by decide) ?_
    refine lv_aload_n hx hb d_M_sum_187 rfl (lv_at hl 0 rfl) ?_
    refine k_get hx hb hG lay_M hown hw 0 rfl rfl 9 (by decide) (hG _ fl_M_57) (fun _ h9 => h9) rfl d_M_sum_188 ?_
    refine lv_iload_n hx hb d_M_sum_191 rfl (lv_at hl 2 rfl) ?_
    refine k_iald hx hb hw 2 0 rfl rfl (ta) (rfl) (by omega) (by first | decide | omega) d_M_sum_192 ?_
    refine l_top hRa ?_
    refine lv_iload hx hb d_M_sum_193 (lv_at hl 4 rfl) ?_
    refine lv_iadd hx hb d_M_sum_195 ?_
    refine l_top (nI_add ra0 i) ?_
    refine lv_imul hx hb d_M_sum_196 ?_
    refine l_top (pk_mul 12 (ra0 + i)) ?_
    refine lv_aload_n hx hb d_M_sum_197 rfl (lv_at hl 0 rfl) ?_
    refine k_get hx hb hG lay_M hown hw 0 rfl rfl 10 (by decide) (hG _ fl_M_60) (fun _ h9 => h9) rfl d_M_sum_198 ?_
    refine lv_iload_n hx hb d_M_sum_201 rfl (lv_at hl 2 rfl) ?_
    refine k_iald hx hb hw 3 0 rfl rfl (ta) (rfl) (by omega) (by first | decide | omega) d_M_sum_202 ?_
    refine l_top hCa ?_
    refine lv_iadd hx hb d_M_sum_203 ?_
    refine l_top (nI_add (12 * (ra0 + i)) ca0) ?_
    refine lv_iload hx hb d_M_sum_204 (lv_at hl 5 rfl) ?_
    refine lv_iadd hx hb d_M_sum_206 ?_
    refine l_top (nI_add (12 * (ra0 + i) + ca0) j) ?_
    have hw := hg
    refine g_ov (c_V (np := 4) S (m_M_bring l D h (t := tb) (i := i) (j := j) (to := 12 * (ra0 + i) + ca0 + j) htb (by omega) (by omega) (by omega) (hsb (12 * i + j) (by omega)).1 (hsb (12 * i + j) (by omega)).2) hw (h.1.1.1) (h.2.1 _ (List.mem_cons_self)) rfl ml_M_131 im_M_bring se_M_M_bring in_M co_M_bring (by decide +kernel) rfl ⟨rfl, rfl, by decide, by decide⟩ hl.1 rfl (by simp [Value.category]) d_M_sum_207 ⟨Nat.zero_le _, Nat.zero_le _⟩) hw (fun f1 H locs hp hg => ?_)
    obtain ⟨h1, ho1⟩ := hp
    refine lv_iinc (k := 5) hx hb d_M_sum_210 hl rfl (ii1 j) (by decide) rfl (fun ls hl => ?_)
    refine lv_goto (tgt := 168) hx hb d_M_sum_213 (by decide) ?_
    have hl := lv_sub hl [1, 2, 3, 4, 5, 0] rfl
    refine ih (j + 1) f1 _ _ H locs ls (by omega) h1 (ho.trans ho1) (cel_congr (cel_up (A := ra0 + i) (U := ca0 + j) hD (by omega) (by omega) (by omega) _ _ _) (fun a u ha hu => ?_)) hl hg
    show (if a = ra0 + i ∧ u = ca0 + j then _ else if ra0 ≤ a ∧ ca0 ≤ u ∧ u < ca0 + cb0 ∧ (a < ra0 + i ∨ (a = ra0 + i ∧ u < ca0 + j)) then src VB Re tb (a - ra0) (u - ca0) else if u < ca0 ∧ a < ra0 then src VA Re ta a u else (0, 1, 0)) = (if ra0 ≤ a ∧ ca0 ≤ u ∧ u < ca0 + cb0 ∧ (a < ra0 + i ∨ (a = ra0 + i ∧ u < ca0 + (j + 1))) then src VB Re tb (a - ra0) (u - ca0) else if u < ca0 ∧ a < ra0 then src VA Re ta a u else (0, 1, 0))
    by_cases q : a = ra0 + i ∧ u = ca0 + j
    · obtain ⟨rfl, rfl⟩ := q
      rw [if_pos ⟨rfl, rfl⟩, if_pos (by omega), Nat.add_sub_cancel_left, Nat.add_sub_cancel_left]; rfl
    · rw [if_neg q]
      by_cases q2 : ra0 ≤ a ∧ ca0 ≤ u ∧ u < ca0 + cb0 ∧ (a < ra0 + i ∨ (a = ra0 + i ∧ u < ca0 + j))
      · rw [if_pos q2, if_pos (by omega)]
      · rw [if_neg q2]
        by_cases q3 : ra0 ≤ a ∧ ca0 ≤ u ∧ u < ca0 + cb0 ∧ (a < ra0 + i ∨ (a = ra0 + i ∧ u < ca0 + (j + 1)))
        · omega
        · rw [if_neg q3]
set_option maxRecDepth 100000 in
set_option maxHeartbeats 4000000 in
theorem w_su2O (S : CallFix p m c c_M_sum 6 s args G R_M) (hRa : R ta = nI ra0) (hRb : R tb = nI rb0) (hCa : C ta = nI ca0) (hCb : C tb = nI cb0) (hta : ta < 8) (htb : tb < 8) (hr1 : ra0 + rb0 ≤ 12) (hc1 : ca0 + cb0 ≤ 12) (hsa : (∀ x, x < 144 → sc To (16 * (144 * ta + x)) (VA (10 + x)) ∧ sc Bo (16 * (144 * ta + x)) (VA (154 + x)))) (hsb : (∀ x, x < 144 → sc To (16 * (144 * tb + x)) (VB (10 + x)) ∧ sc Bo (16 * (144 * tb + x)) (VB (154 + x)))) {f0 : Nat → va_E}
    (kx : ∀ (f : Nat → va_E) (V : Nat → Int) (Sm : Nat → Int32) (H : Heap) (locs : List Loc) (ls : Array Slot), MW L own k f ma ra adr pr (nI (ra0 + rb0)) (nI (ca0 + cb0)) F R C Lo Pl To Bo Re Sm Pc V → oe own [200] f0 f → cel V Sm (fun a u => if ra0 ≤ a ∧ ca0 ≤ u ∧ u < ca0 + cb0 ∧ (a < ra0 + rb0 ∨ (a = ra0 + rb0 ∧ u < ca0 + 0)) then src VB Re tb (a - ra0) (u - ca0) else if u < ca0 ∧ a < ra0 then src VA Re ta a u else (0, 1, 0)) → lv_has ls 6 [(0, .ref ma), (1, .int (zI aa)), (2, .int (nI ta)), (3, .int (nI tb))] → gw D cls (tyl k) L s s.heap f H locs → W p l e (rmN 9) s m args below meth c H locs 0 0 Q (F0 m 222 ls [])) :
    ∀ (d i : Nat) (f : Nat → va_E) (V : Nat → Int) (Sm : Nat → Int32) (H : Heap) (locs : List Loc) (ls : Array Slot), i + d = rb0 → MW L own k f ma ra adr pr (nI (ra0 + rb0)) (nI (ca0 + cb0)) F R C Lo Pl To Bo Re Sm Pc V → oe own [200] f0 f → cel V Sm (fun a u => if ra0 ≤ a ∧ ca0 ≤ u ∧ u < ca0 + cb0 ∧ (a < ra0 + i ∨ (a = ra0 + i ∧ u < ca0 + 0)) then src VB Re tb (a - ra0) (u - ca0) else if u < ca0 ∧ a < ra0 then src VA Re ta a u else (0, 1, 0)) → lv_has ls 6 [(0, .ref ma), (1, .int (zI aa)), (2, .int (nI ta)), (3, .int (nI tb)), (4, .int (nI i))] → gw D cls (tyl k) L s s.heap f H locs →
    W p l e (rmN 9) s m args below meth c H locs 0 0 Q (F0 m 154 ls []) := by
  have hx := S.1
  have hb := S.2.1
  have hown : s.vm.findClass R_M = some m.cls := S.2.2.2.1
  have hG := S.2.2.2.2
  intro d
  induction d with
  | zero =>
    intro i f V Sm H locs ls hd h ho hD hl hg
    have hd : i = rb0 := by omega
    subst hd
    have hw : kw D cls (tyl k) L s s.heap f ((mc k ra adr ma pr (nI (ra0 + i)) (nI (ca0 + cb0)) F R C Lo Pl To Bo Re Sm Pc)) H locs := ⟨f, hg, h.kn⟩
    -- METHOD M_sum | loc 0=m 1=aa 2=ta 3=tb 4=i | ws m fa rc cc lo pl to bo re tp bt sm pc | fld m.fields=fa m.rowCounts=rc m.columnCounts=cc m.loose=lo m.places=pl m.tops=to m.bottoms=bo m.residues=re m.top=tp m.bottom=bt m.small=sm m.place=pc m.one=n0 m.two=n1 m.three=n2 m.four=n3 m.five=n4 m.six=n5 m.seven=n6 m.eight=n7 m.above=n8 m.under=n9
    refine lv_iload hx hb d_M_sum_154 (lv_at hl 4 rfl) ?_
    refine lv_aload_n hx hb d_M_sum_156 rfl (lv_at hl 0 rfl) ?_
    refine k_get hx hb hG lay_M hown hw 0 rfl rfl 9 (by decide) (hG _ fl_M_57) (fun _ h9 => h9) rfl d_M_sum_157 ?_
    refine lv_iload_n hx hb d_M_sum_160 rfl (lv_at hl 3 rfl) ?_
    refine k_iald hx hb hw 2 0 rfl rfl (tb) (rfl) (by omega) (by first | decide | omega) d_M_sum_161 ?_
    refine l_top hRb ?_
    refine lv_icmp_ge (tgt := 222) hx hb d_M_sum_162 (by decide) (fun hc => ?_) (fun hc => ?_)
    · exact kx f V Sm H locs ls h ho hD (lv_sub hl [0, 1, 2, 3] rfl) hg
    · exact absurd (nI_le (by omega) (by omega)) hc
  | succ d ih =>
    intro i f V Sm H locs ls hd h ho hD hl hg
    have hw : kw D cls (tyl k) L s s.heap f ((mc k ra adr ma pr (nI (ra0 + rb0)) (nI (ca0 + cb0)) F R C Lo Pl To Bo Re Sm Pc)) H locs := ⟨f, hg, h.kn⟩
    -- METHOD M_sum | loc 0=m 1=aa 2=ta 3=tb 4=i | ws m fa rc cc lo pl to bo re tp bt sm pc | fld m.fields=fa m.rowCounts=rc m.columnCounts=cc m.loose=lo m.places=pl m.tops=to m.bottoms=bo m.residues=re m.top=tp m.bottom=bt m.small=sm m.place=pc m.one=n0 m.two=n1 m.three=n2 m.four=n3 m.five=n4 m.six=n5 m.seven=n6 m.eight=n7 m.above=n8 m.under=n9
    refine lv_iload hx hb d_M_sum_154 (lv_at hl 4 rfl) ?_
    refine lv_aload_n hx hb d_M_sum_156 rfl (lv_at hl 0 rfl) ?_
    refine k_get hx hb hG lay_M hown hw 0 rfl rfl 9 (by decide) (hG _ fl_M_57) (fun _ h9 => h9) rfl d_M_sum_157 ?_
    refine lv_iload_n hx hb d_M_sum_160 rfl (lv_at hl 3 rfl) ?_
    refine k_iald hx hb hw 2 0 rfl rfl (tb) (rfl) (by omega) (by first | decide | omega) d_M_sum_161 ?_
    refine l_top hRb ?_
    refine lv_icmp_ge (tgt := 222) hx hb d_M_sum_162 (by decide) (fun hc => ?_) (fun hc => ?_)
    · exact absurd hc (nI_ge (by omega) (by omega))
    refine lv_iconst (v := 0) hx hb d_M_sum_165 (by decide) ?_
    refine lv_istore hx hb d_M_sum_166 hl (by decide) rfl (fun ls hl => ?_)
    have hl := lv_sub hl [1, 2, 3, 4, 5, 0] rfl
    refine w_su2I S hRa hRb hCa hCb hta htb hr1 hc1 hsa hsb (i := i) (by omega) (f0 := f0) (fun f2 V2 Sm2 H locs ls h2 ho2 hD2 hl hg => ?_) cb0 0 f V Sm H locs ls (by omega) h ho hD hl hg
    refine lv_iinc (k := 4) hx hb d_M_sum_216 hl rfl (ii1 i) (by decide) rfl (fun ls hl => ?_)
    refine lv_goto (tgt := 154) hx hb d_M_sum_219 (by decide) ?_
    have hl := lv_sub hl [1, 2, 3, 4, 0] rfl
    exact ih (i + 1) f2 V2 Sm2 H locs ls (by omega) h2 ho2 hD2 hl hg
end MSU
/-- where the reference's sum begins to reduce -/
theorem sum_startR {x x' : Tb} (hok : okT x) (hred : x.red = true) (hok' : okT x') (hred' : x'.red = true) (hq' : x'.q = x.q) (hc12 : x.cols + x'.cols ≤ 12) {V VA VB : Nat → Int} {Sm Re : Nat → Int32} {ta tb : Nat} (hKA : KT x.q x.cols x.rows x.A (PP x) VA (fun z => Re (144 * ta + z))) (hKB : KT x'.q x'.cols x'.rows x'.A (PP x') VB (fun z => Re (144 * tb + z)))
    (hD : cel V Sm (fun a u => if x.rows ≤ a ∧ x.cols ≤ u ∧ u < x.cols + x'.cols ∧ (a < x.rows + x'.rows ∨ (a = x.rows + x'.rows ∧ u < x.cols + 0)) then src VB Re tb (a - x.rows) (u - x.cols) else if u < x.cols ∧ a < x.rows then src VA Re ta a u else (0, 1, 0))) : ∃ N X, okR x.q N (x.cols + x'.cols) X ∧ RI x.q N (x.cols + x'.cols) (x.rows + x'.rows) X (blk x.cols x.rows x.A x'.A) 0 0 V Sm id := by
  obtain ⟨hq, h251, hrw, hcl, -, hR⟩ := hok
  obtain ⟨hrd, htl, hsm⟩ := hR hred
  obtain ⟨-, -, hrw', hcl', -, hR'⟩ := hok'
  obtain ⟨hrd', htl', hsm'⟩ := hR' hred'
  have eP : ∀ i, PP x i = x.A i (x.pl i) := fun i => by unfold PP; rw [if_pos hred]
  have eP' : ∀ i, PP x' i = x'.A i (x'.pl i) := fun i => by unfold PP; rw [if_pos hred']
  have hle := rd_le hrd
  have hle' := rd_le hrd'
  rw [hq'] at hrd' htl'
  have hrd2 := sum_rd hrd hrd'
  have htl2 := sum_tl (by omega) hrd htl htl'
  -- the cells
  have c11 : ∀ i j, i < x.rows → j < x.cols → av V i j = av VA i j ∧ bv V i j = bv VA i j ∧ Sm (12 * i + j) = Re (144 * ta + (12 * i + j)) := fun i j hi hj => by
    refine cel_at hD (by omega) (by omega) (v := src VA Re ta i j) ?_
    rw [if_neg (by omega), if_pos ⟨hj, hi⟩]
  have c22 : ∀ i j, i < x'.rows → j < x'.cols → av V (x.rows + i) (x.cols + j) = av VB i j ∧ bv V (x.rows + i) (x.cols + j) = bv VB i j ∧ Sm (12 * (x.rows + i) + (x.cols + j)) = Re (144 * tb + (12 * i + j)) := fun i j hi hj => by
    refine cel_at hD (by omega) (by omega) (v := src VB Re tb i j) ?_
    rw [if_pos (by omega), Nat.add_sub_cancel_left, Nat.add_sub_cancel_left]
  have c00 : ∀ a u, a < 12 → u < 12 → ¬ (x.rows ≤ a ∧ x.cols ≤ u ∧ u < x.cols + x'.cols ∧ a < x.rows + x'.rows) → ¬ (u < x.cols ∧ a < x.rows) → av V a u = 0 ∧ bv V a u = 1 ∧ Sm (12 * a + u) = 0 := fun a u ha hu h1 h2 => by
    refine cel_at hD ha hu (v := (0, 1, 0)) ?_
    rw [if_neg (by omega), if_neg h2]
  have hJ : JB V := cel_JB hD (fun a u ha hu => by
    by_cases h1 : x.rows ≤ a ∧ x.cols ≤ u ∧ u < x.cols + x'.cols ∧ (a < x.rows + x'.rows ∨ (a = x.rows + x'.rows ∧ u < x.cols + 0))
    · rw [if_pos h1]; exact hKB.1 _ (by omega)
    · rw [if_neg h1]
      by_cases h2 : u < x.cols ∧ a < x.rows
      · rw [if_pos h2]; exact hKA.1 _ (by omega)
      · rw [if_neg h2]; exact p15_0)
  by_cases h0 : x.q = 0
  · obtain ⟨s1, s2⟩ := hsm h0
    obtain ⟨s1', s2'⟩ := hsm' (hq'.trans h0)
    rw [h0] at hrd2 htl2
    have hg := gh_self hrd2 htl2
    have hs : sml (x.cols + x'.cols) (sp 0 (x.cols + x'.cols) (x.rows + x'.rows) (blk x.cols x.rows x.A x'.A)) := sml_iff (sum_sp dm0) (smb_sum (lin_sp _ _ _) (lin_sp _ _ _) s1 s1')
    have hokR : okR x.q (x.cols + x'.cols) (x.cols + x'.cols) (sp 0 (x.cols + x'.cols) (x.rows + x'.rows) (blk x.cols x.rows x.A x'.A)) := ⟨fun _ => ⟨lin_sp _ _ _, Nat.le_refl _, smC_of (Nat.le_refl _) (lin_sp _ _ _) hs, smb_mono (by decide +kernel) hs⟩, fun z => absurd h0 z⟩
    refine ⟨_, _, hokR, RI_0 id hokR (by omega) (by omega) (fun _ => ⟨⟨_, _, hg, rcl_self, ?_⟩, fun i j hi hj => gh_bd hg hs hi j hj, fun t u h1 h2 h3 => ?_⟩) (fun z => absurd h0 z)⟩
    · intro i j hi hj
      by_cases hi1 : i < x.rows
      · by_cases hj1 : j < x.cols
        · obtain ⟨e1, e2, -⟩ := c11 i j hi1 hj1
          obtain ⟨g1, g2⟩ := hKA.2.1 h0 i j hi1 hj1
          rw [eP] at g2
          rw [e1, e2, bpl1 hi1, blk11 hi1 (hrd.1 i hi1).1, blk11 hi1 hj1]
          exact ⟨g1, g2⟩
        · obtain ⟨e1, e2, -⟩ := c00 i j (by omega) (by omega) (by omega) (by omega)
          have : blk x.cols x.rows x.A x'.A i j = 0 := by
            have := blk12 (n1 := x.cols) (A1 := x.A) (A2 := x'.A) (j := j - x.cols) hi1
            rwa [show x.cols + (j - x.cols) = j by omega] at this
          rw [e1, e2, this]
          exact ⟨⟨by decide, by decide⟩, by simp⟩
      · obtain ⟨i', rfl⟩ : ∃ i', i = x.rows + i' := ⟨i - x.rows, by omega⟩
        by_cases hj1 : j < x.cols
        · obtain ⟨e1, e2, -⟩ := c00 (x.rows + i') j (by omega) (by omega) (by omega) (by omega)
          rw [e1, e2, blk21 hj1]
          exact ⟨⟨by decide, by decide⟩, by simp⟩
        · obtain ⟨j', rfl⟩ : ∃ j', j = x.cols + j' := ⟨j - x.cols, by omega⟩
          obtain ⟨e1, e2, -⟩ := c22 i' j' (by omega) (by omega)
          obtain ⟨g1, g2⟩ := hKB.2.1 (hq'.trans h0) i' j' (by omega) (by omega)
          rw [eP'] at g2
          rw [e1, e2, bpl2, blk22, blk22]
          exact ⟨g1, g2⟩
    · obtain ⟨e1, e2, -⟩ := c00 t u h1 h2 (by omega) (by omega)
      rw [e1, e2]; exact p15_0
  · have hp := hq.resolve_left h0
    have hokR : okR x.q 0 (x.cols + x'.cols) (fun _ => True) := ⟨fun z => absurd z h0, fun _ => ⟨hp, h251⟩⟩
    refine ⟨_, _, hokR, RI_0 id hokR (by omega) (by omega) (fun z => absurd z h0) (fun _ => ⟨hJ, fun i j hi hj => ?_, fun i j hi hj => ?_⟩)⟩
    · have := htl2 i hi
      unfold tl at this
      rw [if_neg (by omega)] at this
      exact this.2 j hj
    · by_cases hi1 : i < x.rows
      · by_cases hj1 : j < x.cols
        · rw [(c11 i j hi1 hj1).2.2, blk11 hi1 hj1]; exact hKA.2.2 h0 i j hi1 hj1
        · have : blk x.cols x.rows x.A x'.A i j = 0 := by
            have := blk12 (n1 := x.cols) (A1 := x.A) (A2 := x'.A) (j := j - x.cols) hi1
            rwa [show x.cols + (j - x.cols) = j by omega] at this
          rw [(c00 i j (by omega) (by omega) (by omega) (by omega)).2.2, this]; rfl
      · obtain ⟨i', rfl⟩ : ∃ i', i = x.rows + i' := ⟨i - x.rows, by omega⟩
        by_cases hj1 : j < x.cols
        · rw [(c00 (x.rows + i') j (by omega) (by omega) (by omega) (by omega)).2.2, blk21 hj1]; rfl
        · obtain ⟨j', rfl⟩ : ∃ j', j = x.cols + j' := ⟨j - x.cols, by omega⟩
          rw [(c22 i' j' (by omega) (by omega)).2.2, blk22]; exact hKB.2.2 (by rw [hq']; exact h0) i' j' (by omega) (by omega)
section MPUB3
variable (l : Launch) (D : va_G) {L : List Nat} {own : Nat → Nat} {k : Nat → ClassId} {f : Nat → va_E} {ma : Nat} {ra adr : Nat → Nat} {st : Nat → Tb}
set_option maxRecDepth 100000 in
set_option maxHeartbeats 4000000 in
theorem m_M_sum (hRS : RS L own k f ma ra adr st) (hok : ∀ i, i < 8 → okT (st i)) {a b d : Int} (ha : rI a) (hb' : rI b) (hd : rI d) : Mi l y_M_sum (Cond.code y_M_sum c_M_sum 6 (some .int) :: G) (rmN 9) D cls (tyl k) L f [.ref ma, .int (zI a), .int (zI b), .int (zI d)] (fun r f' => ∃ st', RS L own k f' ma ra adr st' ∧ oe own [200] f f' ∧ spSum st a b d st' r) := by
  have hRS0 := hRS
  obtain ⟨pr, rw, cl, F, R, C, Lo, Pl, To, Bo, Re, Sm, Pc, V, h, hT⟩ := hRS
  have hLr : ∀ i, i < 8 → (Lo i = 0 ↔ (st i).red = true) := fun i hi => by
    rw [(hT i hi).2.2.2.1]
    cases (st i).red <;> simp
  -- METHOD M_sum | loc 0=m 1=a 2=b 3=d | ws m fa rc cc lo pl to bo re tp bt sm pc | fld m.fields=fa m.rowCounts=rc m.columnCounts=cc m.loose=lo m.places=pl m.tops=to m.bottoms=bo m.residues=re m.top=tp m.bottom=bt m.small=sm m.place=pc m.one=n0 m.two=n1 m.three=n2 m.four=n3 m.five=n4 m.six=n5 m.seven=n6 m.eight=n7 m.above=n8 m.under=n9
  refine mk_met (by decide) (Nat.le_of_ble_eq_true rfl) (fun p e s m below meth c ls S hr hlocks hw hl => ?_)
  have hx := S.1
  have hb := S.2.1
  have hown : s.vm.findClass R_M = some m.cls := S.2.2.2.1
  have hG := S.2.2.2.2
  have hl : lv_has ls 6 [(0, .ref ma), (1, .int (zI a)), (2, .int (zI b)), (3, .int (zI d))] := hl
  have hg := hw
  have bad : ∀ (H : Heap) (locs : List Loc) (ls : Array Slot), (¬ ∃ i u v : Nat, isSu st a b d i u v) → gw D cls (tyl k) L s s.heap f H locs → W p l e (rmN 9) s m ([.ref ma, .int (zI a), .int (zI b), .int (zI d)] : List Value).toArray below meth c H locs 0 0 (MQ below (va_Qi (fun r f' => ∃ st', RS L own k f' ma ra adr st' ∧ oe own [200] f f' ∧ spSum st a b d st' r) (mst D cls (tyl k) L) (fun q => q ∈ L)) ([.ref ma, .int (zI a), .int (zI b), .int (zI d)] : List Value).toArray s 0 0 (fun q => q ∈ L)) (F0 m 56 ls []) := by
    intro H locs ls hno hg
    refine lv_iconst (v := (-1)) hx hb d_M_sum_56 (by decide) ?_
    exact g_reti hx hb hr hlocks hg ⟨st, hRS0, oe.rf, Or.inr ⟨hno, rfl, rfl⟩⟩ d_M_sum_57
  refine lv_iload_n hx hb d_M_sum_0 rfl (lv_at hl 1 rfl) ?_
  refine g_oi (c_X (np := 1) S (m_M_isTable l D k L f ha) hw ml_M_101 st_M_isTable in_M co_M_isTable (by decide +kernel) rfl ⟨rfl, rfl, by decide, by decide⟩ hl.1 rfl (by simp [Value.category]) d_M_sum_1 ⟨Nat.zero_le _, Nat.zero_le _⟩) hw (fun r1 f1 H locs hp hg => ?_)
  rw [hp.1] at hg
  refine l_top hp.2 ?_
  refine lv_if_eq (tgt := 56) hx hb d_M_sum_4 (by decide) (fun hc => ?_) (fun hc => ?_)
  · have hn : ¬ (0 ≤ a ∧ a < 8) := fun q => by rw [if_pos q] at hc; exact absurd hc (by decide)
    exact bad H locs ls (fun ⟨i, u, v, q⟩ => hn (by have := q.1; have := q.2.1; omega)) hg
  have hn : 0 ≤ a ∧ a < 8 := Classical.byContradiction fun q => hc (if_neg q)
  obtain ⟨i, hai⟩ : ∃ i : Nat, a = i := ⟨a.toNat, by omega⟩
  have hi : i < 8 := by omega
  refine lv_aload_n hx hb d_M_sum_7 rfl (lv_at hl 0 rfl) ?_
  refine lv_iload_n hx hb d_M_sum_8 rfl (lv_at hl 2 rfl) ?_
  have hw := hg
  refine g_oi (c_V (np := 1) S (m_M_isReduced l D h hb') hw (h.1.1.1) (h.2.1 _ (List.mem_cons_self)) rfl ml_M_191 im_M_isReduced se_M_M_isReduced in_M co_M_isReduced (by decide +kernel) rfl ⟨rfl, rfl, by decide, by decide⟩ hl.1 rfl (by simp [Value.category]) d_M_sum_9 ⟨Nat.zero_le _, Nat.zero_le _⟩) hw (fun r1 f1 H locs hp hg => ?_)
  obtain ⟨e1, hp⟩ := hp
  rw [e1] at hg
  rcases hp with ⟨er, u, h1, hu, hredu⟩ | ⟨er, hno⟩
  rotate_left
  · subst er
    refine lv_if_eq (tgt := 56) hx hb d_M_sum_12 (by decide) (fun hc => ?_) (fun hc => ?_)
    · exact bad H locs ls (fun ⟨i, u, v, q⟩ => hno ⟨u, q.2.2.1, q.2.2.2.1, (hLr u q.2.2.2.1).mpr q.2.2.2.2.1⟩) hg
    · exact absurd rfl hc
  subst er
  refine lv_if_eq (tgt := 56) hx hb d_M_sum_12 (by decide) (fun hc => ?_) (fun hc => ?_)
  · exact absurd hc (by decide)
  refine lv_aload_n hx hb d_M_sum_15 rfl (lv_at hl 0 rfl) ?_
  refine lv_iload_n hx hb d_M_sum_16 rfl (lv_at hl 3 rfl) ?_
  have hw := hg
  refine g_oi (c_V (np := 1) S (m_M_isReduced l D h hd) hw (h.1.1.1) (h.2.1 _ (List.mem_cons_self)) rfl ml_M_191 im_M_isReduced se_M_M_isReduced in_M co_M_isReduced (by decide +kernel) rfl ⟨rfl, rfl, by decide, by decide⟩ hl.1 rfl (by simp [Value.category]) d_M_sum_17 ⟨Nat.zero_le _, Nat.zero_le _⟩) hw (fun r1 f1 H locs hp hg => ?_)
  obtain ⟨e1, hp⟩ := hp
  rw [e1] at hg
  rcases hp with ⟨er, v, h2, hv, hredv⟩ | ⟨er, hno⟩
  rotate_left
  · subst er
    refine lv_if_eq (tgt := 56) hx hb d_M_sum_20 (by decide) (fun hc => ?_) (fun hc => ?_)
    · exact bad H locs ls (fun ⟨i, u, v, q⟩ => hno ⟨v, q.2.2.2.2.2.1, q.2.2.2.2.2.2.1, (hLr v q.2.2.2.2.2.2.1).mpr q.2.2.2.2.2.2.2.1⟩) hg
    · exact absurd rfl hc
  subst er
  have hru := (hLr u hu).mp hredu
  have hrv := (hLr v hv).mp hredv
  obtain ⟨t1, t2, t3, t4, t5, VA, t6, t7⟩ := hT u hu
  obtain ⟨v1, v2, v3, v4, v5, VB, v6, v7⟩ := hT v hv
  have hoku := hok u hu
  have hokv := hok v hv
  obtain ⟨hq, h251, hrwu, hclu, -, hRu⟩ := hok u hu
  obtain ⟨hqv, h251v, hrwv, hclv, -, hRv⟩ := hok v hv
  have hleu := rd_le (hRu hru).1
  have hlev := rd_le (hRv hrv).1
  have hsm : ∀ i' u' v', isSu st a b d i' u' v' → u' = u ∧ v' = v := fun i' u' v' q => ⟨by have := q.2.2.1; omega, by have := q.2.2.2.2.2.1; omega⟩
  have hw : kw D cls (tyl k) L s s.heap f ((mc k ra adr ma pr rw cl F R C Lo Pl To Bo Re Sm Pc)) H locs := ⟨f, hg, h.kn⟩
  refine lv_if_eq (tgt := 56) hx hb d_M_sum_20 (by decide) (fun hc => ?_) (fun hc => ?_)
  · exact absurd hc (by decide)
  refine lv_aload_n hx hb d_M_sum_23 rfl (lv_at hl 0 rfl) ?_
  refine k_get hx hb hG lay_M hown hw 0 rfl rfl 8 (by decide) (hG _ fl_M_53) (fun _ h9 => h9) rfl d_M_sum_24 ?_
  refine lv_iload_n hx hb d_M_sum_27 rfl (lv_at hl 2 rfl) ?_
  refine k_iald hx hb hw 1 0 rfl rfl (u) (by rw [h1]; rfl) (hu) (by first | decide | omega) d_M_sum_28 ?_
  refine l_top t1 ?_
  refine lv_aload_n hx hb d_M_sum_29 rfl (lv_at hl 0 rfl) ?_
  refine k_get hx hb hG lay_M hown hw 0 rfl rfl 8 (by decide) (hG _ fl_M_53) (fun _ h9 => h9) rfl d_M_sum_30 ?_
  refine lv_iload_n hx hb d_M_sum_33 rfl (lv_at hl 3 rfl) ?_
  refine k_iald hx hb hw 1 0 rfl rfl (v) (by rw [h2]; rfl) (hv) (by first | decide | omega) d_M_sum_34 ?_
  refine l_top v1 ?_
  refine lv_icmp_ne (tgt := 56) hx hb d_M_sum_35 (by decide) (fun hc => ?_) (fun hc => ?_)
  · refine bad H locs ls (fun ⟨i', u', v', q⟩ => hc ?_) hg
    obtain ⟨e1, e2⟩ := hsm _ _ _ q
    have h9 := q.2.2.2.2.2.2.2.2.1
    rw [e1, e2] at h9
    rw [h9]
  have hqq : (st v).q = (st u).q := (nIj (by omega) (by omega) hc).symm
  refine lv_aload_n hx hb d_M_sum_38 rfl (lv_at hl 0 rfl) ?_
  refine k_get hx hb hG lay_M hown hw 0 rfl rfl 10 (by decide) (hG _ fl_M_60) (fun _ h9 => h9) rfl d_M_sum_39 ?_
  refine lv_iload_n hx hb d_M_sum_42 rfl (lv_at hl 2 rfl) ?_
  refine k_iald hx hb hw 3 0 rfl rfl (u) (by rw [h1]; rfl) (hu) (by first | decide | omega) d_M_sum_43 ?_
  refine l_top t3 ?_
  refine lv_aload_n hx hb d_M_sum_44 rfl (lv_at hl 0 rfl) ?_
  refine k_get hx hb hG lay_M hown hw 0 rfl rfl 10 (by decide) (hG _ fl_M_60) (fun _ h9 => h9) rfl d_M_sum_45 ?_
  refine lv_iload_n hx hb d_M_sum_48 rfl (lv_at hl 3 rfl) ?_
  refine k_iald hx hb hw 3 0 rfl rfl (v) (by rw [h2]; rfl) (hv) (by first | decide | omega) d_M_sum_49 ?_
  refine l_top v3 ?_
  refine lv_iadd hx hb d_M_sum_50 ?_
  refine l_top (nI_add (st u).cols (st v).cols) ?_
  refine lv_bipush (v := 12) hx hb d_M_sum_51 (by decide) ?_
  refine lv_icmp_le (tgt := 58) hx hb d_M_sum_53 (by decide) (fun hc => ?_) (fun hc => ?_)
  rotate_left
  · refine bad H locs ls (fun ⟨i', u', v', q⟩ => hc ?_) hg
    obtain ⟨e1, e2⟩ := hsm _ _ _ q
    have h9 := q.2.2.2.2.2.2.2.2.2
    rw [e1, e2] at h9
    exact nI_le (b := 12) h9 (by omega)
  have hcc : (st u).cols + (st v).cols ≤ 12 := (nI_leI (b := 12) (by omega) (by omega)).mp hc
  subst hai
  subst h1
  subst h2
  refine lv_aload_n hx hb d_M_sum_58 rfl (lv_at hl 0 rfl) ?_
  refine lv_aload_n hx hb d_M_sum_59 rfl (lv_at hl 0 rfl) ?_
  refine k_get hx hb hG lay_M hown hw 0 rfl rfl 8 (by decide) (hG _ fl_M_53) (fun _ h9 => h9) rfl d_M_sum_60 ?_
  refine lv_iload_n hx hb d_M_sum_63 rfl (lv_at hl 2 rfl) ?_
  refine k_iald hx hb hw 1 0 rfl rfl (u) (rfl) (hu) (by first | decide | omega) d_M_sum_64 ?_
  refine l_top t1 ?_
  refine lv_aload_n hx hb d_M_sum_65 rfl (lv_at hl 0 rfl) ?_
  refine k_get hx hb hG lay_M hown hw 0 rfl rfl 9 (by decide) (hG _ fl_M_57) (fun _ h9 => h9) rfl d_M_sum_66 ?_
  refine lv_iload_n hx hb d_M_sum_69 rfl (lv_at hl 2 rfl) ?_
  refine k_iald hx hb hw 2 0 rfl rfl (u) (rfl) (hu) (by first | decide | omega) d_M_sum_70 ?_
  refine l_top t2 ?_
  refine lv_aload_n hx hb d_M_sum_71 rfl (lv_at hl 0 rfl) ?_
  refine k_get hx hb hG lay_M hown hw 0 rfl rfl 9 (by decide) (hG _ fl_M_57) (fun _ h9 => h9) rfl d_M_sum_72 ?_
  refine lv_iload_n hx hb d_M_sum_75 rfl (lv_at hl 3 rfl) ?_
  refine k_iald hx hb hw 2 0 rfl rfl (v) (rfl) (hv) (by first | decide | omega) d_M_sum_76 ?_
  refine l_top v2 ?_
  refine lv_iadd hx hb d_M_sum_77 ?_
  refine l_top (nI_add (st u).rows (st v).rows) ?_
  refine lv_aload_n hx hb d_M_sum_78 rfl (lv_at hl 0 rfl) ?_
  refine k_get hx hb hG lay_M hown hw 0 rfl rfl 10 (by decide) (hG _ fl_M_60) (fun _ h9 => h9) rfl d_M_sum_79 ?_
  refine lv_iload_n hx hb d_M_sum_82 rfl (lv_at hl 2 rfl) ?_
  refine k_iald hx hb hw 3 0 rfl rfl (u) (rfl) (hu) (by first | decide | omega) d_M_sum_83 ?_
  refine l_top t3 ?_
  refine lv_aload_n hx hb d_M_sum_84 rfl (lv_at hl 0 rfl) ?_
  refine k_get hx hb hG lay_M hown hw 0 rfl rfl 10 (by decide) (hG _ fl_M_60) (fun _ h9 => h9) rfl d_M_sum_85 ?_
  refine lv_iload_n hx hb d_M_sum_88 rfl (lv_at hl 3 rfl) ?_
  refine k_iald hx hb hw 3 0 rfl rfl (v) (rfl) (hv) (by first | decide | omega) d_M_sum_89 ?_
  refine l_top v3 ?_
  refine lv_iadd hx hb d_M_sum_90 ?_
  refine l_top (nI_add (st u).cols (st v).cols) ?_
  have hw := hg
  refine g_ov (c_V (np := 3) S (m_M_empty l D h (nI (st u).q) (nI ((st u).rows + (st v).rows)) (nI ((st u).cols + (st v).cols))) hw (h.1.1.1) (h.2.1 _ (List.mem_cons_self)) rfl ml_M_127 im_M_empty se_M_M_empty in_M co_M_empty (by decide +kernel) rfl ⟨rfl, rfl, by decide, by decide⟩ hl.1 rfl (by simp [Value.category]) d_M_sum_91 ⟨Nat.zero_le _, Nat.zero_le _⟩) hw (fun f2 H locs hp hg => ?_)
  obtain ⟨V2, Sm2, h2, ho2, hE2⟩ := hp
  refine lv_iconst (v := 0) hx hb d_M_sum_94 (by decide) ?_
  refine lv_istore hx hb d_M_sum_95 hl (by decide) rfl (fun ls hl => ?_)
  have hl := lv_sub hl [1, 2, 3, 4, 0] rfl
  refine w_su1O S t2 v2 t3 v3 hu hv (by omega) hcc t6 v6 (f0 := f) (fun f3 V3 Sm3 H locs ls h3 ho3 hD3 hl hg => ?_) (st u).rows 0 f2 V2 Sm2 H locs ls (by omega) h2 ho2 (cel_congr (cel_0 hE2) (fun a u ha hu => (if_neg (by omega)).symm)) hl hg
  refine lv_iconst (v := 0) hx hb d_M_sum_151 (by decide) ?_
  refine lv_istore hx hb d_M_sum_152 hl (by decide) rfl (fun ls hl => ?_)
  have hl := lv_sub hl [1, 2, 3, 4, 0] rfl
  refine w_su2O S t2 v2 t3 v3 hu hv (by omega) hcc t6 v6 (f0 := f) (fun f4 V4 Sm4 H locs ls h4 ho4 hD4 hl hg => ?_) (st v).rows 0 f3 V3 Sm3 H locs ls (by omega) h3 ho3 (cel_congr hD3 (fun a w ha hw => ?_)) hl hg
  rotate_left
  · show (if w < (st u).cols ∧ (a < (st u).rows ∨ (a = (st u).rows ∧ w < 0)) then src VA Re u a w else (0, 1, 0)) = (if (st u).rows ≤ a ∧ (st u).cols ≤ w ∧ w < (st u).cols + (st v).cols ∧ (a < (st u).rows + 0 ∨ (a = (st u).rows + 0 ∧ w < (st u).cols + 0)) then src VB Re v (a - (st u).rows) (w - (st u).cols) else if w < (st u).cols ∧ a < (st u).rows then src VA Re u a w else (0, 1, 0))
    rw [if_neg (show ¬ ((st u).rows ≤ a ∧ (st u).cols ≤ w ∧ w < (st u).cols + (st v).cols ∧ (a < (st u).rows + 0 ∨ (a = (st u).rows + 0 ∧ w < (st u).cols + 0))) by omega)]
    by_cases q : w < (st u).cols ∧ a < (st u).rows
    · rw [if_pos q, if_pos (by omega)]
    · rw [if_neg q, if_neg (by omega)]
  obtain ⟨N, X, hokR, hRI⟩ := sum_startR hoku hru hokv hrv hqq hcc t7 v7 hD4
  refine lv_aload_n hx hb d_M_sum_222 rfl (lv_at hl 0 rfl) ?_
  refine lv_iload_n hx hb d_M_sum_223 rfl (lv_at hl 1 rfl) ?_
  have hw := hg
  refine g_oi (c_V (np := 1) S (m_M_finish l D h4 (st := st) (t := i) (fun s hs _ => ⟨hT s hs, (hok s hs).2.2.1, (hok s hs).2.2.2.1⟩) hi (by omega) hcc hokR hq h251 hRI) hw (h4.1.1.1) (h4.2.1 _ (List.mem_cons_self)) rfl ml_M_188 im_M_finish se_M_M_finish in_M co_M_finish (by decide +kernel) rfl ⟨rfl, rfl, by decide, by decide⟩ hl.1 rfl (by simp [Value.category]) d_M_sum_224 ⟨Nat.zero_le _, Nat.zero_le _⟩) hw (fun r5 f5 H locs hp hg => ?_)
  obtain ⟨y, g1, g2, g3, g4⟩ := hp
  refine g_reti hx hb hr hlocks hg ⟨_, g2, ho4.trans g3, Or.inl ⟨i, u, v, ⟨rfl, hi, rfl, hu, hru, rfl, hv, hrv, hqq, hcc⟩, y, ?_, rfl, g4⟩⟩ d_M_sum_227
  exact ⟨g1.1, g1.2.1, g1.2.2.1, g1.2.2.2.1, g1.2.2.2.2.1, g1.2.2.2.2.2.1, fun x => (sum_sp (dmX hq) x).trans (g1.2.2.2.2.2.2 x)⟩
end MPUB3


-- ===== the reference: dual =====
theorem cel_set {V V' : Nat → Int} {Sm Sm' : Nat → Int32} {g : Nat → Nat → Int × Int × Int32} (h : cel V Sm g) {A U to : Nat} (hA : A < 12) (hU : U < 12) (e : to = 12 * A + U) {x y : Int} {z : Int32} (h1 : V' (10 + to) = x) (h2 : V' (154 + to) = y) (h3 : Sm' to = z) (h4 : ∀ w, 10 ≤ w → w ≠ 10 + to → w ≠ 154 + to → V' w = V w) (h5 : ∀ w, w ≠ to → Sm' w = Sm w) : cel V' Sm' (fun a u => if a = A ∧ u = U then (x, y, z) else g a u) := by
  intro a u ha hu
  show V' (10 + (12 * a + u)) = (if a = A ∧ u = U then (x, y, z) else g a u).1 ∧ V' (154 + (12 * a + u)) = (if a = A ∧ u = U then (x, y, z) else g a u).2.1 ∧ Sm' (12 * a + u) = (if a = A ∧ u = U then (x, y, z) else g a u).2.2
  by_cases hc : a = A ∧ u = U
  · obtain ⟨rfl, rfl⟩ := hc
    rw [if_pos ⟨rfl, rfl⟩, ← e]
    exact ⟨h1, h2, h3⟩
  · rw [if_neg hc, h4 _ (by omega) (by omega) (by omega), h4 _ (by omega) (by omega) (by omega), h5 _ (by omega)]
    exact h a u ha hu
/-- a row of the dual, as it is brought together -/
def drw (Vt : Nat → Int) (A : Nat → Nat → Int) (pl : Nat → Nat) (q col : Nat) : Nat → Nat → Int × Int × Int32
  | 0 => fun u => if u = col then (1, 1, 1) else (0, 1, 0)
  | i + 1 => fun u => if u = pl i then (-Vt (10 + (12 * i + col)), Vt (154 + (12 * i + col)), if q = 0 then 0 else zI ((-A i col) % q)) else drw Vt A pl q col i u
theorem drw_col {Vt : Nat → Int} {A : Nat → Nat → Int} {pl : Nat → Nat} {q col : Nat} : ∀ (k : Nat), (∀ i, i < k → pl i ≠ col) → drw Vt A pl q col k col = (1, 1, 1)
  | 0, _ => if_pos rfl
  | k + 1, h => by
    show (if col = pl k then _ else drw Vt A pl q col k col) = _
    rw [if_neg (fun e => h k (by omega) e.symm)]; exact drw_col k (fun i hi => h i (by omega))
theorem drw_pl {Vt : Nat → Int} {A : Nat → Nat → Int} {pl : Nat → Nat} {q col : Nat} : ∀ (k : Nat) {i : Nat}, i < k → (∀ a b, a < k → b < k → pl a = pl b → a = b) → drw Vt A pl q col k (pl i) = (-Vt (10 + (12 * i + col)), Vt (154 + (12 * i + col)), if q = 0 then 0 else zI ((-A i col) % q))
  | 0, i, hi, _ => absurd hi (Nat.not_lt_zero i)
  | k + 1, i, hi, hinj => by
    show (if pl i = pl k then _ else drw Vt A pl q col k (pl i)) = _
    by_cases e : i = k
    · subst e; rw [if_pos rfl]
    · rw [if_neg (fun z => e (hinj i k hi (by omega) z))]
      exact drw_pl k (by omega) (fun a b ha hb => hinj a b (by omega) (by omega))
theorem drw_oth {Vt : Nat → Int} {A : Nat → Nat → Int} {pl : Nat → Nat} {q col u : Nat} : ∀ (k : Nat), u ≠ col → (∀ i, i < k → pl i ≠ u) → drw Vt A pl q col k u = (0, 1, 0)
  | 0, h, _ => if_neg h
  | k + 1, h, h2 => by
    show (if u = pl k then _ else drw Vt A pl q col k u) = _
    rw [if_neg (fun e => h2 k (by omega) e.symm)]; exact drw_oth k h (fun i hi => h2 i (by omega))
section MDU
variable {p : Program} {l : Launch} {e : Env} {s : State} {m : MethodId} {args : Array Value} {below : List Frame} {meth : Method} {c : Code} {Q : State → Prop} {D : va_G} {k : Nat → ClassId} {L : List Nat} {H0 : Heap}
variable {own : Nat → Nat} {ma : Nat} {ra adr : Nat → Nat} {pr rw cl : Int32} {F R C Lo Pl To Bo Re Sm Pc : Nat → Int32} {V : Nat → Int} {t kk n q : Nat} {Vt : Nat → Int} {A : Nat → Nat → Int} {pl : Nat → Nat} {aa : Int}
set_option maxRecDepth 100000 in
set_option maxHeartbeats 4000000 in
theorem w_du1 (S : CallFix p m c c_M_dual 7 s args G R_M) (hR : R t = nI kk) (ht : t < 8) (hk12 : kk ≤ 12) (hn : n ≤ 12) (hq : q ≤ 251) (hPl : ∀ i, i < kk → Pl (12 * t + i) = nI (pl i) ∧ pl i < n) (hnp : npc pl kk n + kk = n) (hsc : ∀ x, x < 144 → sc To (16 * (144 * t + x)) (Vt (10 + x)) ∧ sc Bo (16 * (144 * t + x)) (Vt (154 + x))) (hRe : q ≠ 0 → ∀ i j, i < kk → j < n → Re (144 * t + (12 * i + j)) = zI (A i j) ∧ rsd q (A i j)) {f : Nat → va_E} {j rr : Nat} (h : MW L own k f ma ra adr (nI q) (nI rr) (nI n) F R C Lo Pl To Bo Re Sm Pc V) (hj : j < n)
    (kx : ∀ (b : Bool) (H : Heap) (locs : List Loc) (ls : Array Slot), (b = true ↔ isPl pl kk j) → lv_has ls 7 [(0, .ref ma), (1, .int (zI aa)), (2, .int (nI t)), (3, .int (nI j)), (4, .int (bI b))] → gw D cls (tyl k) L s s.heap f H locs → W p l e (rmN 9) s m args below meth c H locs 0 0 Q (F0 m 95 ls [])) :
    ∀ (d i : Nat) (b : Bool) (H : Heap) (locs : List Loc) (ls : Array Slot), i + d = kk → (b = true ↔ ∃ z, z < i ∧ pl z = j) → lv_has ls 7 [(0, .ref ma), (1, .int (zI aa)), (2, .int (nI t)), (3, .int (nI j)), (4, .int (bI b)), (5, .int (nI i))] → gw D cls (tyl k) L s s.heap f H locs →
    W p l e (rmN 9) s m args below meth c H locs 0 0 Q (F0 m 50 ls []) := by
  have hx := S.1
  have hb := S.2.1
  have hown : s.vm.findClass R_M = some m.cls := S.2.2.2.1
  have hG := S.2.2.2.2
  intro d
  induction d with
  | zero =>
    intro i b H locs ls hd hb0 hl hg
    have hd : i = kk := by omega
    subst hd
    have hw : kw D cls (tyl k) L s s.heap f ((mc k ra adr ma (nI q) (nI rr) (nI n) F R C Lo Pl To Bo Re Sm Pc)) H locs := ⟨f, hg, h.kn⟩
    -- METHOD M_dual | loc 0=m 1=aa 2=t 3=j 4=b 5=i | ws m fa rc cc lo pl to bo re tp bt sm pc | fld m.fields=fa m.rowCounts=rc m.columnCounts=cc m.loose=lo m.places=pl m.tops=to m.bottoms=bo m.residues=re m.top=tp m.bottom=bt m.small=sm m.place=pc m.one=n0 m.two=n1 m.three=n2 m.four=n3 m.five=n4 m.six=n5 m.seven=n6 m.eight=n7 m.above=n8 m.under=n9
    refine lv_iload hx hb d_M_dual_50 (lv_at hl 5 rfl) ?_
    refine lv_aload_n hx hb d_M_dual_52 rfl (lv_at hl 0 rfl) ?_
    refine k_get hx hb hG lay_M hown hw 0 rfl rfl 9 (by decide) (hG _ fl_M_57) (fun _ h9 => h9) rfl d_M_dual_53 ?_
    refine lv_iload_n hx hb d_M_dual_56 rfl (lv_at hl 2 rfl) ?_
    refine k_iald hx hb hw 2 0 rfl rfl (t) (rfl) (by omega) (by first | decide | omega) d_M_dual_57 ?_
    refine l_top hR ?_
    refine lv_icmp_ge (tgt := 95) hx hb d_M_dual_58 (by decide) (fun hc => ?_) (fun hc => ?_)
    · exact kx b H locs ls hb0 (lv_sub hl [0, 1, 2, 3, 4] rfl) hg
    · exact absurd (nI_le (by omega) (by omega)) hc
  | succ d ih =>
    intro i b H locs ls hd hb0 hl hg
    obtain ⟨p1, p2⟩ := hPl i (by omega)
    have hw : kw D cls (tyl k) L s s.heap f ((mc k ra adr ma (nI q) (nI rr) (nI n) F R C Lo Pl To Bo Re Sm Pc)) H locs := ⟨f, hg, h.kn⟩
    have nxt : ∀ (b' : Bool) (ls : Array Slot), (b' = true ↔ ∃ z, z < i + 1 ∧ pl z = j) → lv_has ls 7 [(0, .ref ma), (1, .int (zI aa)), (2, .int (nI t)), (3, .int (nI j)), (4, .int (bI b)), (5, .int (nI i))] → W p l e (rmN 9) s m args below meth c H locs 0 0 Q (F0 m 87 ls [.int (bI b')]) := by
      intro b' ls hb' hl
      -- METHOD M_dual | loc 0=m 1=aa 2=t 3=j 4=b 5=i | ws m fa rc cc lo pl to bo re tp bt sm pc | fld m.fields=fa m.rowCounts=rc m.columnCounts=cc m.loose=lo m.places=pl m.tops=to m.bottoms=bo m.residues=re m.top=tp m.bottom=bt m.small=sm m.place=pc m.one=n0 m.two=n1 m.three=n2 m.four=n3 m.five=n4 m.six=n5 m.seven=n6 m.eight=n7 m.above=n8 m.under=n9
      refine lv_istore hx hb d_M_dual_87 hl (by decide) rfl (fun ls hl => ?_)
      refine lv_iinc (k := 5) hx hb d_M_dual_89 hl rfl (ii1 i) (by decide) rfl (fun ls hl => ?_)
      refine lv_goto (tgt := 50) hx hb d_M_dual_92 (by decide) ?_
      have hl := lv_sub hl [2, 3, 4, 5, 1, 0] rfl
      exact ih (i + 1) b' H locs ls (by omega) hb' hl hg
    -- METHOD M_dual | loc 0=m 1=aa 2=t 3=j 4=b 5=i | ws m fa rc cc lo pl to bo re tp bt sm pc | fld m.fields=fa m.rowCounts=rc m.columnCounts=cc m.loose=lo m.places=pl m.tops=to m.bottoms=bo m.residues=re m.top=tp m.bottom=bt m.small=sm m.place=pc m.one=n0 m.two=n1 m.three=n2 m.four=n3 m.five=n4 m.six=n5 m.seven=n6 m.eight=n7 m.above=n8 m.under=n9
    refine lv_iload hx hb d_M_dual_50 (lv_at hl 5 rfl) ?_
    refine lv_aload_n hx hb d_M_dual_52 rfl (lv_at hl 0 rfl) ?_
    refine k_get hx hb hG lay_M hown hw 0 rfl rfl 9 (by decide) (hG _ fl_M_57) (fun _ h9 => h9) rfl d_M_dual_53 ?_
    refine lv_iload_n hx hb d_M_dual_56 rfl (lv_at hl 2 rfl) ?_
    refine k_iald hx hb hw 2 0 rfl rfl (t) (rfl) (by omega) (by first | decide | omega) d_M_dual_57 ?_
    refine l_top hR ?_
    refine lv_icmp_ge (tgt := 95) hx hb d_M_dual_58 (by decide) (fun hc => ?_) (fun hc => ?_)
    · exact absurd hc (nI_ge (by omega) (by omega))
    refine lv_iload hx hb d_M_dual_61 (lv_at hl 4 rfl) ?_
    refine lv_if_ne (tgt := 82) hx hb d_M_dual_63 (by decide) (fun hc => ?_) (fun hc => ?_)
    · have hbt : b = true := by
        cases b with
        | true => rfl
        | false => exact absurd rfl hc
      obtain ⟨z, z1, z2⟩ := hb0.mp hbt
      refine lv_iconst (v := 1) hx hb d_M_dual_82 (by decide) ?_
      refine lv_goto (tgt := 87) hx hb d_M_dual_83 (by decide) ?_
      exact nxt true ls ⟨fun _ => ⟨z, by omega, z2⟩, fun _ => rfl⟩ hl
    have hbf : ¬ ∃ z, z < i ∧ pl z = j := fun z => by rw [hb0.mpr z] at hc; exact absurd hc (by decide)
    refine lv_aload_n hx hb d_M_dual_66 rfl (lv_at hl 0 rfl) ?_
    refine k_get hx hb hG lay_M hown hw 0 rfl rfl 12 (by decide) (hG _ fl_M_67) (fun _ h9 => h9) rfl d_M_dual_67 ?_
    refine lv_bipush (v := 12) hx hb d_M_dual_70 (by decide) ?_
    refine lv_iload_n hx hb d_M_dual_72 rfl (lv_at hl 2 rfl) ?_
    refine lv_imul hx hb d_M_dual_73 ?_
    refine l_top (pk_mul 12 t) ?_
    refine lv_iload hx hb d_M_dual_74 (lv_at hl 5 rfl) ?_
    refine lv_iadd hx hb d_M_dual_76 ?_
    refine l_top (nI_add (12 * t) i) ?_
    refine k_iald hx hb hw 5 0 rfl rfl ((12 * t + i)) (rfl) (by omega) (by first | decide | omega) d_M_dual_77 ?_
    refine l_top p1 ?_
    refine lv_iload_n hx hb d_M_dual_78 rfl (lv_at hl 3 rfl) ?_
    refine lv_icmp_ne (tgt := 86) hx hb d_M_dual_79 (by decide) (fun hc => ?_) (fun hc => ?_)
    · have hne : pl i ≠ j := fun z => hc (by rw [z])
      refine lv_iconst (v := 0) hx hb d_M_dual_86 (by decide) ?_
      refine nxt false ls ⟨fun z => (by cases z), fun ⟨z, z1, z2⟩ => ?_⟩ hl
      by_cases e : z = i
      · rw [e] at z2; exact absurd z2 hne
      · exact absurd ⟨z, by omega, z2⟩ hbf
    · have he : pl i = j := nIj (by omega) (by omega) hc
      refine lv_iconst (v := 1) hx hb d_M_dual_82 (by decide) ?_
      refine lv_goto (tgt := 87) hx hb d_M_dual_83 (by decide) ?_
      exact nxt true ls ⟨fun _ => ⟨i, by omega, he⟩, fun _ => rfl⟩ hl
set_option maxRecDepth 100000 in
set_option maxHeartbeats 4000000 in
theorem w_du2 (S : CallFix p m c c_M_dual 7 s args G R_M) (hR : R t = nI kk) (ht : t < 8) (hk12 : kk ≤ 12) (hn : n ≤ 12) (hq : q ≤ 251) (hPl : ∀ i, i < kk → Pl (12 * t + i) = nI (pl i) ∧ pl i < n) (hnp : npc pl kk n + kk = n) (hsc : ∀ x, x < 144 → sc To (16 * (144 * t + x)) (Vt (10 + x)) ∧ sc Bo (16 * (144 * t + x)) (Vt (154 + x))) (hRe : q ≠ 0 → ∀ i j, i < kk → j < n → Re (144 * t + (12 * i + j)) = zI (A i j) ∧ rsd q (A i j)) {j : Nat} (hj : j < n) (hjn : ¬ isPl pl kk j) {f0 : Nat → va_E}
    (kx : ∀ (f : Nat → va_E) (V : Nat → Int) (Sm : Nat → Int32) (H : Heap) (locs : List Loc) (ls : Array Slot), MW L own k f ma ra adr (nI q) (nI (npc pl kk j)) (nI n) F R C Lo Pl To Bo Re Sm Pc V → oe own [200] f0 f → cel V Sm (fun a u => if a < npc pl kk j then drw Vt A pl q (dcl pl kk n a) kk u else if a = npc pl kk j then drw Vt A pl q j kk u else (0, 1, 0)) → lv_has ls 7 [(0, .ref ma), (1, .int (zI aa)), (2, .int (nI t)), (3, .int (nI j))] → gw D cls (tyl k) L s s.heap f H locs → W p l e (rmN 9) s m args below meth c H locs 0 0 Q (F0 m 233 ls [])) :
    ∀ (d i : Nat) (f : Nat → va_E) (V : Nat → Int) (Sm : Nat → Int32) (H : Heap) (locs : List Loc) (ls : Array Slot), i + d = kk → MW L own k f ma ra adr (nI q) (nI (npc pl kk j)) (nI n) F R C Lo Pl To Bo Re Sm Pc V → oe own [200] f0 f → cel V Sm (fun a u => if a < npc pl kk j then drw Vt A pl q (dcl pl kk n a) kk u else if a = npc pl kk j then drw Vt A pl q j i u else (0, 1, 0)) → lv_has ls 7 [(0, .ref ma), (1, .int (zI aa)), (2, .int (nI t)), (3, .int (nI j)), (5, .int (nI i))] → gw D cls (tyl k) L s s.heap f H locs →
    W p l e (rmN 9) s m args below meth c H locs 0 0 Q (F0 m 139 ls []) := by
  have hx := S.1
  have hb := S.2.1
  have hown : s.vm.findClass R_M = some m.cls := S.2.2.2.1
  have hG := S.2.2.2.2
  have hrl : npc pl kk j < 12 := by have := npc_lt hj hjn; omega
  intro d
  induction d with
  | zero =>
    intro i f V Sm H locs ls hd h ho hD hl hg
    have hd : i = kk := by omega
    subst hd
    have hw : kw D cls (tyl k) L s s.heap f ((mc k ra adr ma (nI q) (nI (npc pl i j)) (nI n) F R C Lo Pl To Bo Re Sm Pc)) H locs := ⟨f, hg, h.kn⟩
    -- METHOD M_dual | loc 0=m 1=aa 2=t 3=j 5=i | ws m fa rc cc lo pl to bo re tp bt sm pc | fld m.fields=fa m.rowCounts=rc m.columnCounts=cc m.loose=lo m.places=pl m.tops=to m.bottoms=bo m.residues=re m.top=tp m.bottom=bt m.small=sm m.place=pc m.one=n0 m.two=n1 m.three=n2 m.four=n3 m.five=n4 m.six=n5 m.seven=n6 m.eight=n7 m.above=n8 m.under=n9
    refine lv_iload hx hb d_M_dual_139 (lv_at hl 4 rfl) ?_
    refine lv_aload_n hx hb d_M_dual_141 rfl (lv_at hl 0 rfl) ?_
    refine k_get hx hb hG lay_M hown hw 0 rfl rfl 9 (by decide) (hG _ fl_M_57) (fun _ h9 => h9) rfl d_M_dual_142 ?_
    refine lv_iload_n hx hb d_M_dual_145 rfl (lv_at hl 2 rfl) ?_
    refine k_iald hx hb hw 2 0 rfl rfl (t) (rfl) (by omega) (by first | decide | omega) d_M_dual_146 ?_
    refine l_top hR ?_
    refine lv_icmp_ge (tgt := 233) hx hb d_M_dual_147 (by decide) (fun hc => ?_) (fun hc => ?_)
    · exact kx f V Sm H locs ls h ho hD (lv_sub hl [0, 1, 2, 3] rfl) hg
    · exact absurd (nI_le (by omega) (by omega)) hc
  | succ d ih =>
    intro i f V Sm H locs ls hd h ho hD hl hg
    obtain ⟨p1, p2⟩ := hPl i (by omega)
    obtain ⟨x, hx0⟩ : ∃ x, x = 12 * npc pl kk j + pl i := ⟨_, rfl⟩
    have hx1 : x < 144 := by omega
    have hw : kw D cls (tyl k) L s s.heap f ((mc k ra adr ma (nI q) (nI (npc pl kk j)) (nI n) F R C Lo Pl To Bo Re Sm Pc)) H locs := ⟨f, hg, h.kn⟩
    -- METHOD M_dual | loc 0=m 1=aa 2=t 3=j 5=i | ws m fa rc cc lo pl to bo re tp bt sm pc | fld m.fields=fa m.rowCounts=rc m.columnCounts=cc m.loose=lo m.places=pl m.tops=to m.bottoms=bo m.residues=re m.top=tp m.bottom=bt m.small=sm m.place=pc m.one=n0 m.two=n1 m.three=n2 m.four=n3 m.five=n4 m.six=n5 m.seven=n6 m.eight=n7 m.above=n8 m.under=n9
    refine lv_iload hx hb d_M_dual_139 (lv_at hl 4 rfl) ?_
    refine lv_aload_n hx hb d_M_dual_141 rfl (lv_at hl 0 rfl) ?_
    refine k_get hx hb hG lay_M hown hw 0 rfl rfl 9 (by decide) (hG _ fl_M_57) (fun _ h9 => h9) rfl d_M_dual_142 ?_
    refine lv_iload_n hx hb d_M_dual_145 rfl (lv_at hl 2 rfl) ?_
    refine k_iald hx hb hw 2 0 rfl rfl (t) (rfl) (by omega) (by first | decide | omega) d_M_dual_146 ?_
    refine l_top hR ?_
    refine lv_icmp_ge (tgt := 233) hx hb d_M_dual_147 (by decide) (fun hc => ?_) (fun hc => ?_)
    · exact absurd hc (nI_ge (by omega) (by omega))
    refine lv_bipush (v := 12) hx hb d_M_dual_150 (by decide) ?_
    refine lv_aload_n hx hb d_M_dual_152 rfl (lv_at hl 0 rfl) ?_
    refine k_get hx hb hG lay_M hown hw 0 rfl rfl 21 (by decide) (hG _ fl_M_108) (fun _ h9 => h9) rfl d_M_dual_153 ?_
    refine lv_imul hx hb d_M_dual_156 ?_
    refine l_top (pk_mul 12 (npc pl kk j)) ?_
    refine lv_aload_n hx hb d_M_dual_157 rfl (lv_at hl 0 rfl) ?_
    refine k_get hx hb hG lay_M hown hw 0 rfl rfl 12 (by decide) (hG _ fl_M_67) (fun _ h9 => h9) rfl d_M_dual_158 ?_
    refine lv_bipush (v := 12) hx hb d_M_dual_161 (by decide) ?_
    refine lv_iload_n hx hb d_M_dual_163 rfl (lv_at hl 2 rfl) ?_
    refine lv_imul hx hb d_M_dual_164 ?_
    refine l_top (pk_mul 12 t) ?_
    refine lv_iload hx hb d_M_dual_165 (lv_at hl 4 rfl) ?_
    refine lv_iadd hx hb d_M_dual_167 ?_
    refine l_top (nI_add (12 * t) i) ?_
    refine k_iald hx hb hw 5 0 rfl rfl ((12 * t + i)) (rfl) (by omega) (by first | decide | omega) d_M_dual_168 ?_
    refine l_top p1 ?_
    refine lv_iadd hx hb d_M_dual_169 ?_
    refine l_top (nI_add (12 * npc pl kk j) (pl i)) ?_
    refine l_top (show nI (12 * npc pl kk j + pl i) = nI x by rw [hx0]) ?_
    refine lv_istore hx hb d_M_dual_170 hl (by decide) rfl (fun ls hl => ?_)
    refine lv_aload_n hx hb d_M_dual_172 rfl (lv_at hl 1 rfl) ?_
    refine lv_iload_n hx hb d_M_dual_173 rfl (lv_at hl 3 rfl) ?_
    refine lv_iload hx hb d_M_dual_174 (lv_at hl 5 rfl) ?_
    refine lv_iload_n hx hb d_M_dual_176 rfl (lv_at hl 4 rfl) ?_
    refine lv_iload hx hb d_M_dual_177 (lv_at hl 0 rfl) ?_
    have hw := hg
    refine g_ov (c_V (np := 4) S (m_M_bring l D h (t := t) (i := i) (j := j) (to := x) ht (by omega) (by omega) hx1 (hsc (12 * i + j) (by omega)).1 (hsc (12 * i + j) (by omega)).2) hw (h.1.1.1) (h.2.1 _ (List.mem_cons_self)) rfl ml_M_131 im_M_bring se_M_M_bring in_M co_M_bring (by decide +kernel) rfl ⟨rfl, rfl, by decide, by decide⟩ hl.1 rfl (by simp [Value.category]) d_M_dual_179 ⟨Nat.zero_le _, Nat.zero_le _⟩) hw (fun f1 H locs hp hg => ?_)
    obtain ⟨h1, ho1⟩ := hp
    have hw : kw D cls (tyl k) L s s.heap f1 ((mc k ra adr ma (nI q) (nI (npc pl kk j)) (nI n) F R C Lo Pl To Bo Re (upd Sm x (Re (144 * t + (12 * i + j)))) Pc)) H locs := ⟨f1, hg, h1.kn⟩
    refine lv_aload_n hx hb d_M_dual_182 rfl (lv_at hl 1 rfl) ?_
    refine k_get hx hb hG lay_M hown hw 0 rfl rfl 16 (by decide) (hG _ fl_M_79) (fun _ h9 => h9) rfl d_M_dual_183 ?_
    refine lv_iload hx hb d_M_dual_186 (lv_at hl 0 rfl) ?_
    refine k_aald hx hb hw 9 4 rfl rfl (x) (rfl) (by omega) (by first | decide | omega) (rfl) d_M_dual_188 ?_
    have hw := hg
    refine g_ov (c_V (np := 0) S (nn_turn l D h1.1.2.2.2.2 h1.2.2 (i := 10 + x) (by omega)) hw ((h1.2.2 (10 + x) (by omega)).1) ((h1.2.2 (10 + x) (by omega)).2.2.choose_spec.choose_spec.choose_spec.1) rfl ml_M_139 im_N_turn se_N_N_turn in_N co_N_turn (by decide +kernel) rfl ⟨rfl, rfl, by decide, by decide⟩ hl.1 rfl (by simp [Value.category]) d_M_dual_189 ⟨Nat.zero_le _, Nat.zero_le _⟩) hw (fun f2 H locs hp hg => ?_)
    obtain ⟨h2, ho2⟩ := h1.num hp
    have fin : ∀ (f3 : Nat → va_E) (v : Int32) (H : Heap) (locs : List Loc) (ls : Array Slot), v = (if q = 0 then 0 else zI ((-A i j) % q)) → MW L own k f3 ma ra adr (nI q) (nI (npc pl kk j)) (nI n) F R C Lo Pl To Bo Re (upd (upd Sm x (Re (144 * t + (12 * i + j)))) x v) Pc (va_up (va_up (va_up V (10 + x) (Vt (10 + (12 * i + j)))) (154 + x) (Vt (154 + (12 * i + j)))) (10 + x) (-(va_up (va_up V (10 + x) (Vt (10 + (12 * i + j)))) (154 + x) (Vt (154 + (12 * i + j))) (10 + x)))) → oe own [200] f0 f3 → lv_has ls 7 [(0, .ref ma), (1, .int (zI aa)), (2, .int (nI t)), (3, .int (nI j)), (5, .int (nI i))] → gw D cls (tyl k) L s s.heap f3 H locs → W p l e (rmN 9) s m args below meth c H locs 0 0 Q (F0 m 227 ls []) := by
      intro f3 v H locs ls hv h3 ho3 hl hg
      -- METHOD M_dual | loc 0=m 1=aa 2=t 3=j 5=i | ws m fa rc cc lo pl to bo re tp bt sm pc | fld m.fields=fa m.rowCounts=rc m.columnCounts=cc m.loose=lo m.places=pl m.tops=to m.bottoms=bo m.residues=re m.top=tp m.bottom=bt m.small=sm m.place=pc m.one=n0 m.two=n1 m.three=n2 m.four=n3 m.five=n4 m.six=n5 m.seven=n6 m.eight=n7 m.above=n8 m.under=n9
      refine lv_iinc (k := 4) hx hb d_M_dual_227 hl rfl (ii1 i) (by decide) rfl (fun ls hl => ?_)
      refine lv_goto (tgt := 139) hx hb d_M_dual_230 (by decide) ?_
      have hl := lv_sub hl [1, 2, 3, 4, 0] rfl
      refine ih (i + 1) f3 _ _ H locs ls (by omega) h3 ho3 (cel_congr (cel_set hD (A := npc pl kk j) (U := pl i) hrl (by omega) hx0 (x := -Vt (10 + (12 * i + j))) (y := Vt (154 + (12 * i + j))) (z := v) ?_ ?_ pk_us (fun w h1 h2 h3 => ?_) (fun w hw => ?_)) (fun a u ha hu => ?_)) hl hg
      · rw [va_up_self, va_up_ne _ _ (by omega), va_up_self]
      · rw [va_up_ne _ _ (by omega), va_up_self]
      · rw [va_up_ne _ _ h2, va_up_ne _ _ h3, va_up_ne _ _ h2]
      · rw [pk_un hw, pk_un hw]
      · show (if a = npc pl kk j ∧ u = pl i then _ else if a < npc pl kk j then drw Vt A pl q (dcl pl kk n a) kk u else if a = npc pl kk j then drw Vt A pl q j i u else (0, 1, 0)) = (if a < npc pl kk j then drw Vt A pl q (dcl pl kk n a) kk u else if a = npc pl kk j then (if u = pl i then _ else drw Vt A pl q j i u) else (0, 1, 0))
        by_cases e1 : a = npc pl kk j
        · subst e1
          rw [if_neg (Nat.lt_irrefl _), if_neg (Nat.lt_irrefl _), if_pos rfl, if_pos rfl]
          by_cases e2 : u = pl i
          · rw [if_pos ⟨rfl, e2⟩, if_pos e2, hv]
          · rw [if_neg (fun z => e2 z.2), if_neg e2]
        · rw [if_neg (fun z => e1 z.1), if_neg e1, if_neg e1]
    have hw : kw D cls (tyl k) L s s.heap f2 ((mc k ra adr ma (nI q) (nI (npc pl kk j)) (nI n) F R C Lo Pl To Bo Re (upd Sm x (Re (144 * t + (12 * i + j)))) Pc)) H locs := ⟨f2, hg, h2.kn⟩
    -- METHOD M_dual | loc 6=k 0=m 1=aa 2=t 3=j 5=i | ws m fa rc cc lo pl to bo re tp bt sm pc | fld m.fields=fa m.rowCounts=rc m.columnCounts=cc m.loose=lo m.places=pl m.tops=to m.bottoms=bo m.residues=re m.top=tp m.bottom=bt m.small=sm m.place=pc m.one=n0 m.two=n1 m.three=n2 m.four=n3 m.five=n4 m.six=n5 m.seven=n6 m.eight=n7 m.above=n8 m.under=n9
    refine lv_aload_n hx hb d_M_dual_192 rfl (lv_at hl 1 rfl) ?_
    refine k_get hx hb hG lay_M hown hw 0 rfl rfl 18 (by decide) (hG _ fl_M_86) (fun _ h9 => h9) rfl d_M_dual_193 ?_
    refine lv_iload hx hb d_M_dual_196 (lv_at hl 0 rfl) ?_
    refine lv_aload_n hx hb d_M_dual_198 rfl (lv_at hl 1 rfl) ?_
    refine k_get hx hb hG lay_M hown hw 0 rfl rfl 20 (by decide) (hG _ fl_M_105) (fun _ h9 => h9) rfl d_M_dual_199 ?_
    refine lv_if_ne (tgt := 209) hx hb d_M_dual_202 (by decide) (fun hc => ?_) (fun hc => ?_)
    · have h0 : q ≠ 0 := fun z => hc (by rw [z]; rfl)
      obtain ⟨r1, r2⟩ := hRe h0 i j (by omega) hj
      have rq : rI (q : Int) := rI_n (by omega)
      have hr1 := r2.1
      have hr2 := r2.2
      refine lv_aload_n hx hb d_M_dual_209 rfl (lv_at hl 1 rfl) ?_
      refine k_get hx hb hG lay_M hown hw 0 rfl rfl 20 (by decide) (hG _ fl_M_105) (fun _ h9 => h9) rfl d_M_dual_210 ?_
      refine lv_aload_n hx hb d_M_dual_213 rfl (lv_at hl 1 rfl) ?_
      refine k_get hx hb hG lay_M hown hw 0 rfl rfl 18 (by decide) (hG _ fl_M_86) (fun _ h9 => h9) rfl d_M_dual_214 ?_
      refine lv_iload hx hb d_M_dual_217 (lv_at hl 0 rfl) ?_
      refine k_iald hx hb hw 11 0 rfl rfl (x) (rfl) (by omega) (by first | decide | omega) d_M_dual_219 ?_
      refine l_top (show upd Sm x (Re (144 * t + (12 * i + j))) x = zI (A i j) by rw [pk_us]; exact r1) ?_
      refine lv_isub hx hb d_M_dual_220 ?_
      refine l_top (show nI q - zI (A i j) = zI ((q : Int) - A i j) by rw [← zI_n]; exact zI_sub _ _) ?_
      refine lv_aload_n hx hb d_M_dual_221 rfl (lv_at hl 1 rfl) ?_
      refine k_get hx hb hG lay_M hown hw 0 rfl rfl 20 (by decide) (hG _ fl_M_105) (fun _ h9 => h9) rfl d_M_dual_222 ?_
      refine lv_irem hx hb d_M_dual_225 (nI_ne0 (Nat.pos_of_ne_zero h0) (by omega)) ?_
      refine l_top (show zI ((q : Int) - A i j) - zI ((q : Int) - A i j) / nI q * nI q = zI ((-A i j) % q) by
        rw [← zI_n, zI_rem ⟨by omega, by omega⟩ rq (by omega), Int.tmod_eq_emod_of_nonneg (by omega), show (q : Int) - A i j = -A i j + q by omega, Int.add_emod_right]) ?_
      refine k_iast hx hb hw 11 0 rfl rfl (x) (rfl) (by omega) (by first | decide | omega) d_M_dual_226 (fun H locs hw => ?_)
      obtain ⟨f3, hg, hk3⟩ := hw
      obtain ⟨h3, ho3⟩ := h2.back (pr' := nI q) (rw' := nI (npc pl kk j)) (cl' := nI n) hk3
      exact fin f3 _ H locs ls (by rw [if_neg h0]) h3 (ho.trans (ho1.trans (ho2.trans ho3))) (lv_sub hl [1, 2, 3, 4, 5] rfl) hg
    · have h0 : q = 0 := Classical.byContradiction fun z => nI_ne0 (Nat.pos_of_ne_zero z) (by omega) hc
      refine lv_iconst (v := 0) hx hb d_M_dual_205 (by decide) ?_
      refine lv_goto (tgt := 226) hx hb d_M_dual_206 (by decide) ?_
      refine k_iast hx hb hw 11 0 rfl rfl (x) (rfl) (by omega) (by first | decide | omega) d_M_dual_226 (fun H locs hw => ?_)
      obtain ⟨f3, hg, hk3⟩ := hw
      obtain ⟨h3, ho3⟩ := h2.back (pr' := nI q) (rw' := nI (npc pl kk j)) (cl' := nI n) hk3
      exact fin f3 _ H locs ls (by rw [if_pos h0]) h3 (ho.trans (ho1.trans (ho2.trans ho3))) (lv_sub hl [1, 2, 3, 4, 5] rfl) hg
set_option maxRecDepth 100000 in
set_option maxHeartbeats 4000000 in
theorem w_du3 (S : CallFix p m c c_M_dual 7 s args G R_M) (hR : R t = nI kk) (ht : t < 8) (hk12 : kk ≤ 12) (hn : n ≤ 12) (hq : q ≤ 251) (hPl : ∀ i, i < kk → Pl (12 * t + i) = nI (pl i) ∧ pl i < n) (hnp : npc pl kk n + kk = n) (hsc : ∀ x, x < 144 → sc To (16 * (144 * t + x)) (Vt (10 + x)) ∧ sc Bo (16 * (144 * t + x)) (Vt (154 + x))) (hRe : q ≠ 0 → ∀ i j, i < kk → j < n → Re (144 * t + (12 * i + j)) = zI (A i j) ∧ rsd q (A i j)) {f0 : Nat → va_E}
    (kx : ∀ (f : Nat → va_E) (V : Nat → Int) (Sm : Nat → Int32) (H : Heap) (locs : List Loc) (ls : Array Slot), MW L own k f ma ra adr (nI q) (nI (npc pl kk n)) (nI n) F R C Lo Pl To Bo Re Sm Pc V → oe own [200] f0 f → cel V Sm (fun a u => if a < npc pl kk n then drw Vt A pl q (dcl pl kk n a) kk u else (0, 1, 0)) → lv_has ls 7 [(0, .ref ma), (1, .int (zI aa))] → gw D cls (tyl k) L s s.heap f H locs → W p l e (rmN 9) s m args below meth c H locs 0 0 Q (F0 m 249 ls [])) :
    ∀ (d j : Nat) (f : Nat → va_E) (V : Nat → Int) (Sm : Nat → Int32) (H : Heap) (locs : List Loc) (ls : Array Slot), j + d = n → MW L own k f ma ra adr (nI q) (nI (npc pl kk j)) (nI n) F R C Lo Pl To Bo Re Sm Pc V → oe own [200] f0 f → cel V Sm (fun a u => if a < npc pl kk j then drw Vt A pl q (dcl pl kk n a) kk u else (0, 1, 0)) → lv_has ls 7 [(0, .ref ma), (1, .int (zI aa)), (2, .int (nI t)), (3, .int (nI j))] → gw D cls (tyl k) L s s.heap f H locs →
    W p l e (rmN 9) s m args below meth c H locs 0 0 Q (F0 m 36 ls []) := by
  have hx := S.1
  have hb := S.2.1
  have hown : s.vm.findClass R_M = some m.cls := S.2.2.2.1
  have hG := S.2.2.2.2
  intro d
  induction d with
  | zero =>
    intro j f V Sm H locs ls hd h ho hD hl hg
    have hd : j = n := by omega
    subst hd
    have hw : kw D cls (tyl k) L s s.heap f ((mc k ra adr ma (nI q) (nI (npc pl kk j)) (nI j) F R C Lo Pl To Bo Re Sm Pc)) H locs := ⟨f, hg, h.kn⟩
    -- METHOD M_dual | loc 0=m 1=aa 2=t 3=j | ws m fa rc cc lo pl to bo re tp bt sm pc | fld m.fields=fa m.rowCounts=rc m.columnCounts=cc m.loose=lo m.places=pl m.tops=to m.bottoms=bo m.residues=re m.top=tp m.bottom=bt m.small=sm m.place=pc m.one=n0 m.two=n1 m.three=n2 m.four=n3 m.five=n4 m.six=n5 m.seven=n6 m.eight=n7 m.above=n8 m.under=n9
    refine lv_iload_n hx hb d_M_dual_36 rfl (lv_at hl 3 rfl) ?_
    refine lv_aload_n hx hb d_M_dual_37 rfl (lv_at hl 0 rfl) ?_
    refine k_get hx hb hG lay_M hown hw 0 rfl rfl 22 (by decide) (hG _ fl_M_111) (fun _ h9 => h9) rfl d_M_dual_38 ?_
    refine lv_icmp_ge (tgt := 249) hx hb d_M_dual_41 (by decide) (fun hc => ?_) (fun hc => ?_)
    · exact kx f V Sm H locs ls h ho hD (lv_sub hl [0, 1] rfl) hg
    · exact absurd (nI_le (by omega) (by omega)) hc
  | succ d ih =>
    intro j f V Sm H locs ls hd h ho hD hl hg
    have hj : j < n := by omega
    have hw : kw D cls (tyl k) L s s.heap f ((mc k ra adr ma (nI q) (nI (npc pl kk j)) (nI n) F R C Lo Pl To Bo Re Sm Pc)) H locs := ⟨f, hg, h.kn⟩
    -- METHOD M_dual | loc 0=m 1=aa 2=t 3=j | ws m fa rc cc lo pl to bo re tp bt sm pc | fld m.fields=fa m.rowCounts=rc m.columnCounts=cc m.loose=lo m.places=pl m.tops=to m.bottoms=bo m.residues=re m.top=tp m.bottom=bt m.small=sm m.place=pc m.one=n0 m.two=n1 m.three=n2 m.four=n3 m.five=n4 m.six=n5 m.seven=n6 m.eight=n7 m.above=n8 m.under=n9
    refine lv_iload_n hx hb d_M_dual_36 rfl (lv_at hl 3 rfl) ?_
    refine lv_aload_n hx hb d_M_dual_37 rfl (lv_at hl 0 rfl) ?_
    refine k_get hx hb hG lay_M hown hw 0 rfl rfl 22 (by decide) (hG _ fl_M_111) (fun _ h9 => h9) rfl d_M_dual_38 ?_
    refine lv_icmp_ge (tgt := 249) hx hb d_M_dual_41 (by decide) (fun hc => ?_) (fun hc => ?_)
    · exact absurd hc (nI_ge (by omega) (by omega))
    refine lv_iconst (v := 0) hx hb d_M_dual_44 (by decide) ?_
    refine lv_istore hx hb d_M_dual_45 hl (by decide) rfl (fun ls hl => ?_)
    refine lv_iconst (v := 0) hx hb d_M_dual_47 (by decide) ?_
    refine lv_istore hx hb d_M_dual_48 hl (by decide) rfl (fun ls hl => ?_)
    have hl := lv_sub hl [2, 3, 4, 5, 1, 0] rfl
    refine w_du1 S hR ht hk12 hn hq hPl hnp hsc hRe h hj (fun b H locs ls hb0 hl hg => ?_) kk 0 false H locs ls (by omega) ⟨fun z => (by cases z), fun ⟨z, z1, _⟩ => by omega⟩ hl hg
    -- METHOD M_dual | loc 0=m 1=aa 2=t 3=j 4=b | ws m fa rc cc lo pl to bo re tp bt sm pc | fld m.fields=fa m.rowCounts=rc m.columnCounts=cc m.loose=lo m.places=pl m.tops=to m.bottoms=bo m.residues=re m.top=tp m.bottom=bt m.small=sm m.place=pc m.one=n0 m.two=n1 m.three=n2 m.four=n3 m.five=n4 m.six=n5 m.seven=n6 m.eight=n7 m.above=n8 m.under=n9
    refine lv_iload hx hb d_M_dual_95 (lv_at hl 4 rfl) ?_
    refine lv_if_eq (tgt := 103) hx hb d_M_dual_97 (by decide) (fun hc => ?_) (fun hc => ?_)
    rotate_left
    · have hbt : b = true := by
        cases b with
        | true => rfl
        | false => exact absurd rfl hc
      have hp := hb0.mp hbt
      have e : npc pl kk (j + 1) = npc pl kk j := by
        show npc pl kk j + (if isPl pl kk j then 0 else 1) = _
        rw [if_pos hp]; rfl
      refine lv_goto (tgt := 243) hx hb d_M_dual_100 (by decide) ?_
      refine lv_iinc (k := 3) hx hb d_M_dual_243 hl rfl (ii1 j) (by decide) rfl (fun ls hl => ?_)
      refine lv_goto (tgt := 36) hx hb d_M_dual_246 (by decide) ?_
      have hl := lv_sub hl [1, 2, 3, 0] rfl
      exact ih (j + 1) f V Sm H locs ls (by omega) (by rw [e]; exact h) ho (by rw [e]; exact hD) hl hg
    have hbf : b = false := bI_0.mp hc
    have hjn : ¬ isPl pl kk j := fun z => by rw [hb0.mpr z] at hbf; cases hbf
    have hrl : npc pl kk j < 12 := by have := npc_lt hj hjn; omega
    have e : npc pl kk (j + 1) = npc pl kk j + 1 := by
      show npc pl kk j + (if isPl pl kk j then 0 else 1) = _
      rw [if_neg hjn]
    have hdc := dcl_npc hj hjn
    obtain ⟨x, hx0⟩ : ∃ x, x = 12 * npc pl kk j + j := ⟨_, rfl⟩
    have hw : kw D cls (tyl k) L s s.heap f ((mc k ra adr ma (nI q) (nI (npc pl kk j)) (nI n) F R C Lo Pl To Bo Re Sm Pc)) H locs := ⟨f, hg, h.kn⟩
    refine lv_aload_n hx hb d_M_dual_103 rfl (lv_at hl 0 rfl) ?_
    refine k_get hx hb hG lay_M hown hw 0 rfl rfl 16 (by decide) (hG _ fl_M_79) (fun _ h9 => h9) rfl d_M_dual_104 ?_
    refine lv_bipush (v := 12) hx hb d_M_dual_107 (by decide) ?_
    refine lv_aload_n hx hb d_M_dual_109 rfl (lv_at hl 0 rfl) ?_
    refine k_get hx hb hG lay_M hown hw 0 rfl rfl 21 (by decide) (hG _ fl_M_108) (fun _ h9 => h9) rfl d_M_dual_110 ?_
    refine lv_imul hx hb d_M_dual_113 ?_
    refine l_top (pk_mul 12 (npc pl kk j)) ?_
    refine lv_iload_n hx hb d_M_dual_114 rfl (lv_at hl 3 rfl) ?_
    refine lv_iadd hx hb d_M_dual_115 ?_
    refine l_top (nI_add (12 * npc pl kk j) j) ?_
    refine l_top (show nI (12 * npc pl kk j + j) = nI x by rw [hx0]) ?_
    refine k_aald hx hb hw 9 4 rfl rfl (x) (rfl) (by omega) (by first | decide | omega) (rfl) d_M_dual_116 ?_
    refine lv_lconst (v := 1) hx hb d_M_dual_117 (by decide) ?_
    refine l_topl (show (1 : Int64) = zL 1 by decide +kernel) ?_
    have hw := hg
    refine g_ov (c_V (np := 1) S (nn_small l D h.1.2.2.2.2 h.2.2 (i := 10 + x) (by omega) (v := 1) (by decide)) hw ((h.2.2 (10 + x) (by omega)).1) ((h.2.2 (10 + x) (by omega)).2.2.choose_spec.choose_spec.choose_spec.1) rfl ml_M_117 im_N_small se_N_N_small in_N co_N_small (by decide +kernel) rfl ⟨rfl, rfl, by decide, by decide⟩ hl.1 rfl (by simp [Value.category]) d_M_dual_118 ⟨Nat.zero_le _, Nat.zero_le _⟩) hw (fun f1 H locs hp hg => ?_)
    obtain ⟨h1, ho1⟩ := h.num hp
    have hw : kw D cls (tyl k) L s s.heap f1 ((mc k ra adr ma (nI q) (nI (npc pl kk j)) (nI n) F R C Lo Pl To Bo Re Sm Pc)) H locs := ⟨f1, hg, h1.kn⟩
    refine lv_aload_n hx hb d_M_dual_121 rfl (lv_at hl 0 rfl) ?_
    refine k_get hx hb hG lay_M hown hw 0 rfl rfl 18 (by decide) (hG _ fl_M_86) (fun _ h9 => h9) rfl d_M_dual_122 ?_
    refine lv_bipush (v := 12) hx hb d_M_dual_125 (by decide) ?_
    refine lv_aload_n hx hb d_M_dual_127 rfl (lv_at hl 0 rfl) ?_
    refine k_get hx hb hG lay_M hown hw 0 rfl rfl 21 (by decide) (hG _ fl_M_108) (fun _ h9 => h9) rfl d_M_dual_128 ?_
    refine lv_imul hx hb d_M_dual_131 ?_
    refine l_top (pk_mul 12 (npc pl kk j)) ?_
    refine lv_iload_n hx hb d_M_dual_132 rfl (lv_at hl 3 rfl) ?_
    refine lv_iadd hx hb d_M_dual_133 ?_
    refine l_top (nI_add (12 * npc pl kk j) j) ?_
    refine l_top (show nI (12 * npc pl kk j + j) = nI x by rw [hx0]) ?_
    refine lv_iconst (v := 1) hx hb d_M_dual_134 (by decide) ?_
    refine k_iast hx hb hw 11 0 rfl rfl (x) (rfl) (by omega) (by first | decide | omega) d_M_dual_135 (fun H locs hw => ?_)
    obtain ⟨f2, hg, hk2⟩ := hw
    obtain ⟨h2, ho2⟩ := h1.back (pr' := nI q) (rw' := nI (npc pl kk j)) (cl' := nI n) hk2
    refine lv_iconst (v := 0) hx hb d_M_dual_136 (by decide) ?_
    refine lv_istore hx hb d_M_dual_137 hl (by decide) rfl (fun ls hl => ?_)
    have hl := lv_sub hl [1, 2, 3, 4, 0] rfl
    have hb154 : V (154 + x) = 1 := by
      have := (cel_at hD hrl (show j < 12 by omega) (v := (0, 1, 0)) (if_neg (Nat.lt_irrefl _))).2.1
      rw [hx0]; exact this
    refine w_du2 S hR ht hk12 hn hq hPl hnp hsc hRe hj hjn (f0 := f0) (fun f3 V3 Sm3 H locs ls h3 ho3 hD3 hl hg => ?_) kk 0 f2 _ _ H locs ls (by omega) h2 (ho.trans (ho1.trans ho2)) (cel_congr (cel_set hD (A := npc pl kk j) (U := j) hrl (by omega) hx0 (x := 1) (y := 1) (z := 1) (va_up_self _ _ _) (by rw [va_up_ne _ _ (by omega)]; exact hb154) pk_us (fun w _ h2 _ => va_up_ne _ _ h2) (fun w hw => pk_un hw)) (fun a u ha hu => ?_)) hl hg
    rotate_left
    · show (if a = npc pl kk j ∧ u = j then _ else if a < npc pl kk j then drw Vt A pl q (dcl pl kk n a) kk u else (0, 1, 0)) = (if a < npc pl kk j then drw Vt A pl q (dcl pl kk n a) kk u else if a = npc pl kk j then (if u = j then (1, 1, 1) else (0, 1, 0)) else (0, 1, 0))
      by_cases e1 : a = npc pl kk j
      · subst e1
        rw [if_neg (Nat.lt_irrefl _), if_neg (Nat.lt_irrefl _), if_pos rfl]
        by_cases e2 : u = j
        · rw [if_pos ⟨rfl, e2⟩, if_pos e2]
        · rw [if_neg (fun z => e2 z.2), if_neg e2]
      · rw [if_neg (fun z => e1 z.1), if_neg e1]
    have hw : kw D cls (tyl k) L s s.heap f3 ((mc k ra adr ma (nI q) (nI (npc pl kk j)) (nI n) F R C Lo Pl To Bo Re Sm3 Pc)) H locs := ⟨f3, hg, h3.kn⟩
    refine lv_aload_n hx hb d_M_dual_233 rfl (lv_at hl 0 rfl) ?_
    refine lv_dup hx hb d_M_dual_234 rfl ?_
    refine k_get hx hb hG lay_M hown hw 0 rfl rfl 21 (by decide) (hG _ fl_M_108) (fun _ h9 => h9) rfl d_M_dual_235 ?_
    refine lv_iconst (v := 1) hx hb d_M_dual_238 (by decide) ?_
    refine lv_iadd hx hb d_M_dual_239 ?_
    refine l_top (show nI (npc pl kk j) + 1 = nI (npc pl kk j + 1) from nI_add (npc pl kk j) 1) ?_
    refine k_put (ty := .int) hx hb hG lay_M ft_M ft_M_ok fn_M hown hw 0 rfl rfl 21 (by decide) (hG _ fl_M_108) (fun _ h9 => h9) rfl (by decide +kernel) rfl rfl (by simp) d_M_dual_240 (fun H locs hw => ?_)
    obtain ⟨f4, hg, hk4⟩ := hw
    obtain ⟨h4, ho4⟩ := h3.back (pr' := nI q) (rw' := nI (npc pl kk j + 1)) (cl' := nI n) hk4
    refine lv_iinc (k := 3) hx hb d_M_dual_243 hl rfl (ii1 j) (by decide) rfl (fun ls hl => ?_)
    refine lv_goto (tgt := 36) hx hb d_M_dual_246 (by decide) ?_
    have hl := lv_sub hl [1, 2, 3, 0] rfl
    refine ih (j + 1) f4 V3 Sm3 H locs ls (by omega) (by rw [e]; exact h4) (ho3.trans ho4) (cel_congr hD3 (fun a u ha hu => ?_)) hl hg
    show (if a < npc pl kk j then drw Vt A pl q (dcl pl kk n a) kk u else if a = npc pl kk j then drw Vt A pl q j kk u else (0, 1, 0)) = (if a < npc pl kk (j + 1) then drw Vt A pl q (dcl pl kk n a) kk u else (0, 1, 0))
    rw [e]
    by_cases e1 : a < npc pl kk j
    · rw [if_pos e1, if_pos (by omega)]
    · rw [if_neg e1]
      by_cases e2 : a = npc pl kk j
      · rw [if_pos e2, if_pos (by omega), e2, hdc]
      · rw [if_neg e2, if_neg (by omega)]
end MDU
/-- where the reference's dual begins to reduce -/
theorem dual_startR {x : Tb} (hok : okT x) (hred : x.red = true) {V Vt : Nat → Int} {Sm Re : Nat → Int32} {t : Nat} (hKT : KT x.q x.cols x.rows x.A (PP x) Vt (fun z => Re (144 * t + z))) (hD : cel V Sm (fun a u => if a < npc x.pl x.rows x.cols then drw Vt x.A x.pl x.q (dcl x.pl x.rows x.cols a) x.rows u else (0, 1, 0))) : ∃ N X, okR x.q N x.cols X ∧ RI x.q N x.cols (x.cols - x.rows) X (fun r => dRow x.q x.cols x.rows x.A x.pl (dcl x.pl x.rows x.cols r)) 0 0 V Sm id := by
  obtain ⟨hq, h251, hrw, hcl, -, hR⟩ := hok
  obtain ⟨hrd, htl, hsm⟩ := hR hred
  have eP : ∀ i, PP x i = x.A i (x.pl i) := fun i => by unfold PP; rw [if_pos hred]
  have hnp := npc_rd hrd
  have hle := rd_le hrd
  obtain ⟨dc1, dc2, dc3⟩ := dcl_ok hrd
  have hinj : ∀ a b, a < x.rows → b < x.rows → x.pl a = x.pl b → a = b := fun a b ha hb e => rd_inj hrd ha hb e
  have cin : ∀ a u, a < x.cols - x.rows → u < x.cols → av V a u = (drw Vt x.A x.pl x.q (dcl x.pl x.rows x.cols a) x.rows u).1 ∧ bv V a u = (drw Vt x.A x.pl x.q (dcl x.pl x.rows x.cols a) x.rows u).2.1 ∧ Sm (12 * a + u) = (drw Vt x.A x.pl x.q (dcl x.pl x.rows x.cols a) x.rows u).2.2 := fun a u ha hu => cel_at hD (by omega) (by omega) (if_pos (by omega))
  -- three kinds of columns
  have hdr1 : ∀ r, r < x.cols - x.rows → drw Vt x.A x.pl x.q (dcl x.pl x.rows x.cols r) x.rows (dcl x.pl x.rows x.cols r) = (1, 1, 1) := fun r hr => drw_col _ (dc1 r hr).2
  have hdr2 : ∀ r i, i < x.rows → drw Vt x.A x.pl x.q (dcl x.pl x.rows x.cols r) x.rows (x.pl i) = (-Vt (10 + (12 * i + dcl x.pl x.rows x.cols r)), Vt (154 + (12 * i + dcl x.pl x.rows x.cols r)), if x.q = 0 then 0 else zI ((-x.A i (dcl x.pl x.rows x.cols r)) % x.q)) := fun r i hi => drw_pl _ hi hinj
  have hdr3 : ∀ r u, u ≠ dcl x.pl x.rows x.cols r → (∀ i, i < x.rows → x.pl i ≠ u) → drw Vt x.A x.pl x.q (dcl x.pl x.rows x.cols r) x.rows u = (0, 1, 0) := fun r u h1 h2 => drw_oth _ h1 h2
  have hJ : JB V := cel_JB hD (fun a u ha hu => by
    by_cases h1 : a < npc x.pl x.rows x.cols
    · rw [if_pos h1]
      by_cases e1 : u = dcl x.pl x.rows x.cols a
      · rw [e1, hdr1 a (by omega)]; exact ⟨p15_0.2, p15_0.2⟩
      · by_cases e2 : ∃ i, i < x.rows ∧ x.pl i = u
        · obtain ⟨i, hi, e⟩ := e2
          rw [← e, hdr2 a i hi]
          have := hKT.1 (12 * i + dcl x.pl x.rows x.cols a) (by have := (dc1 a (by omega)).1; omega)
          exact ⟨by rw [Int.natAbs_neg]; exact this.1, this.2⟩
        · rw [hdr3 a u e1 (fun i hi e => e2 ⟨i, hi, e⟩)]; exact p15_0
    · rw [if_neg h1]; exact p15_0)
  by_cases h0 : x.q = 0
  · obtain ⟨s1, s2⟩ := hsm h0
    have hrd0 : rd 0 x.cols x.rows x.A x.pl := by rw [h0] at hrd; exact hrd
    have htl0 : ∀ r, r < x.rows → tl 0 x.cols (x.A r) (x.pl r) := fun r hr => by have := htl r hr; rw [h0] at this; exact this
    have hpos : ∀ r, r < x.rows → 0 < x.A r (x.pl r) := fun r hr => by
      have := htl0 r hr
      unfold tl at this
      rw [if_pos rfl] at this
      exact this.2
    have hg := du_gh hrd0 htl0
    have hokR : okR x.q x.cols x.cols (og x.cols x.rows x.A) := ⟨fun _ => ⟨lin_og _ _ _, Nat.le_refl _, smC_of (Nat.le_refl _) (lin_og _ _ _) s2, smb_mono (by decide +kernel) s2⟩, fun z => absurd h0 z⟩
    have e0 : (fun r => dRow x.q x.cols x.rows x.A x.pl (dcl x.pl x.rows x.cols r)) = (fun r => dRow 0 x.cols x.rows x.A x.pl (dcl x.pl x.rows x.cols r)) := by rw [h0]
    rw [e0]
    refine ⟨_, _, hokR, RI_0 id hokR (by omega) hcl (fun _ => ⟨⟨_, _, hg, rcl_self, fun r u hr hu => ?_⟩, fun i j hi hj => gh_bd hg s2 hi j hj, fun t u h1 h2 h3 => ?_⟩) (fun z => absurd h0 z)⟩
    · obtain ⟨hcol, hncol⟩ := dc1 r hr
      obtain ⟨a1, a2, a3, a4⟩ := fdq_of hrd0 hpos hcol hncol x.rows (Nat.le_refl _)
      have eD : dRow 0 x.cols x.rows x.A x.pl (dcl x.pl x.rows x.cols r) = fdq x.A (dcl x.pl x.rows x.cols r) x.pl x.cols (fun _ => 0) x.rows := by unfold dRow; rw [if_pos rfl]
      obtain ⟨c1, c2, -⟩ := cin r u hr hu
      rw [c1, c2]
      show low _ _ ∧ _ * dRow 0 x.cols x.rows x.A x.pl (dcl x.pl x.rows x.cols r) (dcl x.pl x.rows x.cols r) = _ * dRow 0 x.cols x.rows x.A x.pl (dcl x.pl x.rows x.cols r) u
      rw [eD]
      by_cases e1 : u = dcl x.pl x.rows x.cols r
      · rw [e1, hdr1 r hr]; exact ⟨⟨by decide, by decide⟩, rfl⟩
      · by_cases e2 : ∃ i, i < x.rows ∧ x.pl i = u
        · obtain ⟨i, hi, e⟩ := e2
          subst e
          rw [hdr2 r i hi]
          obtain ⟨g1, g2⟩ := hKT.2.1 h0 i (dcl x.pl x.rows x.cols r) hi hcol
          rw [eP] at g2
          have a3i := a3 i hi
          have hp := hpos i hi
          generalize fdq x.A (dcl x.pl x.rows x.cols r) x.pl x.cols (fun _ => 0) x.rows (x.pl i) = Fi at a3i ⊢
          generalize fdq x.A (dcl x.pl x.rows x.cols r) x.pl x.cols (fun _ => 0) x.rows (dcl x.pl x.rows x.cols r) = Fc at a3i ⊢
          refine ⟨⟨g1.1, by show Int.gcd (-_) _ = 1; rw [Int.neg_gcd]; exact g1.2⟩, ?_⟩
          show -Vt (10 + (12 * i + dcl x.pl x.rows x.cols r)) * Fc = Vt (154 + (12 * i + dcl x.pl x.rows x.cols r)) * Fi
          have g2 : Vt (10 + (12 * i + dcl x.pl x.rows x.cols r)) * x.A i (x.pl i) = Vt (154 + (12 * i + dcl x.pl x.rows x.cols r)) * x.A i (dcl x.pl x.rows x.cols r) := g2
          refine cancel3 (x := x.A i (x.pl i)) (by omega) ?_
          generalize Vt (10 + (12 * i + dcl x.pl x.rows x.cols r)) = a at g2 ⊢
          generalize Vt (154 + (12 * i + dcl x.pl x.rows x.cols r)) = b at g2 ⊢
          generalize x.A i (x.pl i) = P at g2 a3i ⊢
          generalize x.A i (dcl x.pl x.rows x.cols r) = Q at g2 a3i ⊢
          calc P * (-a * Fc) = -(a * P) * Fc := by grind
            _ = -(b * Q) * Fc := by rw [g2]
            _ = b * -(Fc * Q) := by grind
            _ = b * (Fi * P) := by rw [show -(Fc * Q) = Fi * P by omega]
            _ = P * (b * Fi) := by grind
        · have hno : ∀ i, i < x.rows → x.pl i ≠ u := fun i hi e => e2 ⟨i, hi, e⟩
          rw [hdr3 r u e1 hno, a2 u e1 hno]
          exact ⟨⟨by decide, by decide⟩, by simp⟩
    · obtain ⟨c1, c2, -⟩ : av V t u = 0 ∧ bv V t u = 1 ∧ True := by
        by_cases ht : t < x.cols - x.rows
        · -- a column beyond the table's
          have hu : x.cols ≤ u := by omega
          obtain ⟨c1, c2, -⟩ := cel_at hD h1 h2 (v := (0, 1, 0)) (by
            show (if t < npc x.pl x.rows x.cols then _ else _) = _
            rw [if_pos (by omega)]
            exact hdr3 t u (by have := (dc1 t ht).1; omega) (fun i hi e => by have := (hrd.1 i hi).1; omega))
          exact ⟨c1, c2, trivial⟩
        · obtain ⟨c1, c2, -⟩ := cel_at hD h1 h2 (v := (0, 1, 0)) (if_neg (by omega))
          exact ⟨c1, c2, trivial⟩
      rw [c1, c2]; exact p15_0
  · have hp := hq.resolve_left h0
    have hokR : okR x.q 0 x.cols (fun _ => True) := ⟨fun z => absurd z h0, fun _ => ⟨hp, h251⟩⟩
    refine ⟨_, _, hokR, RI_0 id hokR (by omega) hcl (fun z => absurd z h0) (fun _ => ⟨hJ, fun r u hr hu => ?_, fun r u hr hu => ?_⟩)⟩
    · have e : dRow x.q x.cols x.rows x.A x.pl (dcl x.pl x.rows x.cols r) = fdp x.A (dcl x.pl x.rows x.cols r) x.pl x.q (fun _ => 0) x.rows := by unfold dRow; rw [if_neg h0]
      show rsd x.q (dRow x.q x.cols x.rows x.A x.pl (dcl x.pl x.rows x.cols r) u)
      rw [e]
      exact (fdp_of hrd hp.1 (dc1 r hr).2 x.rows (Nat.le_refl _)).2.2.2 u
    · obtain ⟨hcol, hncol⟩ := dc1 r hr
      obtain ⟨a1, a2, a3, a4⟩ := fdp_of hrd hp.1 hncol x.rows (Nat.le_refl _)
      have e : dRow x.q x.cols x.rows x.A x.pl (dcl x.pl x.rows x.cols r) = fdp x.A (dcl x.pl x.rows x.cols r) x.pl x.q (fun _ => 0) x.rows := by unfold dRow; rw [if_neg h0]
      rw [(cin r u hr hu).2.2, e]
      by_cases e1 : u = dcl x.pl x.rows x.cols r
      · rw [e1, hdr1 r hr, a1]; rfl
      · by_cases e2 : ∃ i, i < x.rows ∧ x.pl i = u
        · obtain ⟨i, hi, e⟩ := e2
          rw [← e, hdr2 r i hi, a3 i hi]
          show (if x.q = 0 then 0 else _) = _
          rw [if_neg h0]
        · have hno : ∀ i, i < x.rows → x.pl i ≠ u := fun i hi e => e2 ⟨i, hi, e⟩
          rw [hdr3 r u e1 hno, a2 u e1 hno]; rfl
section MPUB4
variable (l : Launch) (D : va_G) {L : List Nat} {own : Nat → Nat} {k : Nat → ClassId} {f : Nat → va_E} {ma : Nat} {ra adr : Nat → Nat} {st : Nat → Tb}
set_option maxRecDepth 100000 in
set_option maxHeartbeats 4000000 in
theorem m_M_dual (hRS : RS L own k f ma ra adr st) (hok : ∀ i, i < 8 → okT (st i)) {a b : Int} (ha : rI a) (hb' : rI b) : Mi l y_M_dual (Cond.code y_M_dual c_M_dual 7 (some .int) :: G) (rmN 9) D cls (tyl k) L f [.ref ma, .int (zI a), .int (zI b)] (fun r f' => ∃ st', RS L own k f' ma ra adr st' ∧ oe own [200] f f' ∧ spDual st a b st' r) := by
  have hRS0 := hRS
  obtain ⟨pr, rw, cl, F, R, C, Lo, Pl, To, Bo, Re, Sm, Pc, V, h, hT⟩ := hRS
  have hLr : ∀ i, i < 8 → (Lo i = 0 ↔ (st i).red = true) := fun i hi => by
    rw [(hT i hi).2.2.2.1]
    cases (st i).red <;> simp
  -- METHOD M_dual | loc 0=m 1=a 2=b | ws m fa rc cc lo pl to bo re tp bt sm pc | fld m.fields=fa m.rowCounts=rc m.columnCounts=cc m.loose=lo m.places=pl m.tops=to m.bottoms=bo m.residues=re m.top=tp m.bottom=bt m.small=sm m.place=pc m.one=n0 m.two=n1 m.three=n2 m.four=n3 m.five=n4 m.six=n5 m.seven=n6 m.eight=n7 m.above=n8 m.under=n9
  refine mk_met (by decide) (Nat.le_of_ble_eq_true rfl) (fun p e s m below meth c ls S hr hlocks hw hl => ?_)
  have hx := S.1
  have hb := S.2.1
  have hown : s.vm.findClass R_M = some m.cls := S.2.2.2.1
  have hG := S.2.2.2.2
  have hl : lv_has ls 7 [(0, .ref ma), (1, .int (zI a)), (2, .int (zI b))] := hl
  have hg := hw
  have bad : ∀ (H : Heap) (locs : List Loc) (ls : Array Slot), ¬ (0 ≤ a ∧ a < 8 ∧ ∃ j : Nat, b = j ∧ j < 8 ∧ (st j).red = true) → gw D cls (tyl k) L s s.heap f H locs → W p l e (rmN 9) s m ([.ref ma, .int (zI a), .int (zI b)] : List Value).toArray below meth c H locs 0 0 (MQ below (va_Qi (fun r f' => ∃ st', RS L own k f' ma ra adr st' ∧ oe own [200] f f' ∧ spDual st a b st' r) (mst D cls (tyl k) L) (fun q => q ∈ L)) ([.ref ma, .int (zI a), .int (zI b)] : List Value).toArray s 0 0 (fun q => q ∈ L)) (F0 m 15 ls []) := by
    intro H locs ls hno hg
    refine lv_iconst (v := (-1)) hx hb d_M_dual_15 (by decide) ?_
    exact g_reti hx hb hr hlocks hg ⟨st, hRS0, oe.rf, Or.inr ⟨hno, rfl, rfl⟩⟩ d_M_dual_16
  refine lv_iload_n hx hb d_M_dual_0 rfl (lv_at hl 1 rfl) ?_
  refine g_oi (c_X (np := 1) S (m_M_isTable l D k L f ha) hw ml_M_101 st_M_isTable in_M co_M_isTable (by decide +kernel) rfl ⟨rfl, rfl, by decide, by decide⟩ hl.1 rfl (by simp [Value.category]) d_M_dual_1 ⟨Nat.zero_le _, Nat.zero_le _⟩) hw (fun r1 f1 H locs hp hg => ?_)
  rw [hp.1] at hg
  refine l_top hp.2 ?_
  refine lv_if_eq (tgt := 15) hx hb d_M_dual_4 (by decide) (fun hc => ?_) (fun hc => ?_)
  · have hn : ¬ (0 ≤ a ∧ a < 8) := fun q => by rw [if_pos q] at hc; exact absurd hc (by decide)
    exact bad H locs ls (fun q => hn ⟨q.1, q.2.1⟩) hg
  have hn : 0 ≤ a ∧ a < 8 := Classical.byContradiction fun q => hc (if_neg q)
  refine lv_aload_n hx hb d_M_dual_7 rfl (lv_at hl 0 rfl) ?_
  refine lv_iload_n hx hb d_M_dual_8 rfl (lv_at hl 2 rfl) ?_
  have hw := hg
  refine g_oi (c_V (np := 1) S (m_M_isReduced l D h hb') hw (h.1.1.1) (h.2.1 _ (List.mem_cons_self)) rfl ml_M_191 im_M_isReduced se_M_M_isReduced in_M co_M_isReduced (by decide +kernel) rfl ⟨rfl, rfl, by decide, by decide⟩ hl.1 rfl (by simp [Value.category]) d_M_dual_9 ⟨Nat.zero_le _, Nat.zero_le _⟩) hw (fun r1 f1 H locs hp hg => ?_)
  obtain ⟨e1, hp⟩ := hp
  rw [e1] at hg
  rcases hp with ⟨er, u, h1, hu, hredu⟩ | ⟨er, hno⟩
  rotate_left
  · subst er
    refine lv_if_ne (tgt := 17) hx hb d_M_dual_12 (by decide) (fun hc => ?_) (fun hc => ?_)
    · exact absurd rfl hc
    · exact bad H locs ls (fun q => by
        obtain ⟨j, j1, j2, j3⟩ := q.2.2
        exact hno ⟨j, j1, j2, (hLr j j2).mpr j3⟩) hg
  subst er
  obtain ⟨i, rfl⟩ : ∃ i : Nat, a = i := ⟨a.toNat, by omega⟩
  have hi : i < 8 := by omega
  subst h1
  have hru := (hLr u hu).mp hredu
  obtain ⟨t1, t2, t3, t4, t5, Vt, t6, t7⟩ := hT u hu
  have hoku := hok u hu
  obtain ⟨hq, h251, hrw, hcl, -, hRu⟩ := hok u hu
  obtain ⟨hrd, htl, hsm⟩ := hRu hru
  have hle := rd_le hrd
  have hnp := npc_rd hrd
  have hw : kw D cls (tyl k) L s s.heap f ((mc k ra adr ma pr rw cl F R C Lo Pl To Bo Re Sm Pc)) H locs := ⟨f, hg, h.kn⟩
  refine lv_if_ne (tgt := 17) hx hb d_M_dual_12 (by decide) (fun hc => ?_) (fun hc => ?_)
  rotate_left
  · exact absurd hc (by decide)
  refine lv_aload_n hx hb d_M_dual_17 rfl (lv_at hl 0 rfl) ?_
  refine lv_aload_n hx hb d_M_dual_18 rfl (lv_at hl 0 rfl) ?_
  refine k_get hx hb hG lay_M hown hw 0 rfl rfl 8 (by decide) (hG _ fl_M_53) (fun _ h9 => h9) rfl d_M_dual_19 ?_
  refine lv_iload_n hx hb d_M_dual_22 rfl (lv_at hl 2 rfl) ?_
  refine k_iald hx hb hw 1 0 rfl rfl (u) (rfl) (hu) (by first | decide | omega) d_M_dual_23 ?_
  refine l_top t1 ?_
  refine lv_iconst (v := 0) hx hb d_M_dual_24 (by decide) ?_
  refine lv_aload_n hx hb d_M_dual_25 rfl (lv_at hl 0 rfl) ?_
  refine k_get hx hb hG lay_M hown hw 0 rfl rfl 10 (by decide) (hG _ fl_M_60) (fun _ h9 => h9) rfl d_M_dual_26 ?_
  refine lv_iload_n hx hb d_M_dual_29 rfl (lv_at hl 2 rfl) ?_
  refine k_iald hx hb hw 3 0 rfl rfl (u) (rfl) (hu) (by first | decide | omega) d_M_dual_30 ?_
  refine l_top t3 ?_
  have hw := hg
  refine g_ov (c_V (np := 3) S (m_M_empty l D h (nI (st u).q) 0 (nI (st u).cols)) hw (h.1.1.1) (h.2.1 _ (List.mem_cons_self)) rfl ml_M_127 im_M_empty se_M_M_empty in_M co_M_empty (by decide +kernel) rfl ⟨rfl, rfl, by decide, by decide⟩ hl.1 rfl (by simp [Value.category]) d_M_dual_31 ⟨Nat.zero_le _, Nat.zero_le _⟩) hw (fun f2 H locs hp hg => ?_)
  obtain ⟨V2, Sm2, h2, ho2, hE2⟩ := hp
  refine lv_iconst (v := 0) hx hb d_M_dual_34 (by decide) ?_
  refine lv_istore_n hx hb d_M_dual_35 rfl hl (by decide) rfl (fun ls hl => ?_)
  have hl := lv_sub hl [1, 2, 3, 0] rfl
  refine w_du3 S (n := (st u).cols) (kk := (st u).rows) (q := (st u).q) (pl := (st u).pl) (A := (st u).A) t2 hu hrw hcl h251 (fun z hz => ⟨t5 hru z hz, (hrd.1 z hz).1⟩) (by omega) t6 (fun h0 z w hz hw => ⟨t7.2.2 h0 z w hz hw, ?_⟩) (f0 := f) (fun f3 V3 Sm3 H locs ls h3 ho3 hD3 hl hg => ?_) (st u).cols 0 f2 V2 Sm2 H locs ls (by omega) h2 ho2 (cel_congr (cel_0 hE2) (fun a w ha hw => (if_neg (Nat.not_lt_zero _)).symm)) hl hg
  · have := htl z hz
    unfold tl at this
    rw [if_neg (by omega)] at this
    exact this.2 w hw
  obtain ⟨N, X, hokR, hRI⟩ := dual_startR hoku hru t7 hD3
  rw [hnp] at h3
  refine lv_aload_n hx hb d_M_dual_249 rfl (lv_at hl 0 rfl) ?_
  refine lv_iload_n hx hb d_M_dual_250 rfl (lv_at hl 1 rfl) ?_
  have hw := hg
  refine g_oi (c_V (np := 1) S (m_M_finish l D h3 (st := st) (t := i) (fun s hs _ => ⟨hT s hs, (hok s hs).2.2.1, (hok s hs).2.2.2.1⟩) hi (by omega) hcl hokR hq h251 hRI) hw (h3.1.1.1) (h3.2.1 _ (List.mem_cons_self)) rfl ml_M_188 im_M_finish se_M_M_finish in_M co_M_finish (by decide +kernel) rfl ⟨rfl, rfl, by decide, by decide⟩ hl.1 rfl (by simp [Value.category]) d_M_dual_251 ⟨Nat.zero_le _, Nat.zero_le _⟩) hw (fun r5 f5 H locs hp hg => ?_)
  obtain ⟨y, g1, g2, g3, g4⟩ := hp
  have hD := dual_sp (dmX hq) hrd (dD_of hq hrd htl)
  refine g_reti hx hb hr hlocks hg ⟨_, g2, ho3.trans g3, Or.inl ⟨i, u, rfl, hi, rfl, hu, hru, y, ?_, rfl, g4⟩⟩ d_M_dual_254
  exact ⟨g1.1, g1.2.1, g1.2.2.1, g1.2.2.2.1, g1.2.2.2.2.1, g1.2.2.2.2.2.1, fun x => (hD x).trans (g1.2.2.2.2.2.2 x)⟩
end MPUB4


-- ===== the reference: empty bring keep =====
section MW5
variable {f' : Nat → va_E} {L : List Nat} {k : Nat → ClassId} {f : Nat → va_E} {own : Nat → Nat} {ma : Nat} {ra adr : Nat → Nat} {pr rw cl : Int32} {F R C Lo Pl To Bo Re Sm Pc : Nat → Int32} {V : Nat → Int}
theorem MW.kTo (h : MW L own k f ma ra adr pr rw cl F R C Lo Pl To Bo Re Sm Pc V) {i : Nat} (hi : i < 298) {n : Nat} {mi : Bool} {d : Nat → Nat} (e1 : f (adr (2 * i)) = cN (adr (2 * i + 1)) n mi) (e2 : f (adr (2 * i + 1)) = cE k d) : kn' L f f [(adr (2 * i), cN (adr (2 * i + 1)) n mi), (adr (2 * i + 1), cE k d), (ra 5, cI k 18432 To)] := by
  obtain ⟨m1, ml1, -⟩ := h.2.2 i hi
  refine kn_of (fun q hq => ?_) ?_
  · simp only [List.mem_cons, List.not_mem_nil, or_false] at hq
    rcases hq with rfl | rfl | rfl
    · exact ⟨m1, e1⟩
    · exact ⟨ml1, e2⟩
    · exact ⟨(h.1.2.1 5 (by decide)).1, h.2.1 _ (by simp)⟩
  · simp
    refine ⟨⟨fun e => ?_, fun e => (h.1.2.2.2.1 (2 * i) (by omega)).2.2 5 (by decide) e⟩, fun e => (h.1.2.2.2.1 (2 * i + 1) (by omega)).2.2 5 (by decide) e⟩
    have := h.1.2.2.2.2 (2 * i) (2 * i + 1) (by omega) (by omega) e
    omega
theorem MW.setTo (h : MW L own k f ma ra adr pr rw cl F R C Lo Pl To Bo Re Sm Pc V) {i : Nat} (hi : i < 298) {n : Nat} {mi : Bool} {d : Nat → Nat} {T' : Nat → Int32} (hk0 : kn' L f f [(adr (2 * i), cN (adr (2 * i + 1)) n mi), (adr (2 * i + 1), cE k d), (ra 5, cI k 18432 To)]) (hk : kn' L f f' [(adr (2 * i), cN (adr (2 * i + 1)) n mi), (adr (2 * i + 1), cE k d), (ra 5, cI k 18432 T')]) : MW L own k f' ma ra adr pr rw cl F R C Lo Pl T' Bo Re Sm Pc V ∧ oe own [200] f f' := by
  have hk1 : kn' L f f' [(ra 5, cI k 18432 T')] := by
    refine kn_pick hk (fun q hq => ?_) (by simp) (fun q hq hn => ?_)
    · simp only [List.mem_cons, List.not_mem_nil, or_false] at hq
      rw [hq]; simp
    · simp only [List.mem_cons, List.not_mem_nil, or_false] at hq hn
      rcases hq with q1 | q1 | q1
      · rw [q1]; exact (hk0.1 0 _ rfl).2
      · rw [q1]; exact (hk0.1 1 _ rfl).2
      · exact absurd q1 hn
  refine h.back (kn_over h.kn hk1 rfl (fun q hq => ?_) (fun q hq => ?_))
  · simp only [List.mem_cons, List.not_mem_nil, or_false] at hq
    rw [hq]; simp
  · have nd := mc_nd h.1
    simp only [List.nodup_cons, List.mem_cons, List.not_mem_nil, or_false, not_or] at nd
    simp only [List.mem_cons, List.not_mem_nil, or_false] at hq
    rcases hq with rfl | rfl | rfl | rfl | rfl | rfl | rfl | rfl | rfl | rfl | rfl | rfl | rfl
    · refine Or.inr ⟨by simp, fun z hz => ?_⟩
      simp only [List.mem_cons, List.not_mem_nil, or_false] at hz
      rw [hz]
      simp [nd]
      try exact fun e => absurd e.symm (by simp [nd])
    · refine Or.inr ⟨by simp, fun z hz => ?_⟩
      simp only [List.mem_cons, List.not_mem_nil, or_false] at hz
      rw [hz]
      simp [nd]
      try exact fun e => absurd e.symm (by simp [nd])
    · refine Or.inr ⟨by simp, fun z hz => ?_⟩
      simp only [List.mem_cons, List.not_mem_nil, or_false] at hz
      rw [hz]
      simp [nd]
      try exact fun e => absurd e.symm (by simp [nd])
    · refine Or.inr ⟨by simp, fun z hz => ?_⟩
      simp only [List.mem_cons, List.not_mem_nil, or_false] at hz
      rw [hz]
      simp [nd]
      try exact fun e => absurd e.symm (by simp [nd])
    · refine Or.inr ⟨by simp, fun z hz => ?_⟩
      simp only [List.mem_cons, List.not_mem_nil, or_false] at hz
      rw [hz]
      simp [nd]
      try exact fun e => absurd e.symm (by simp [nd])
    · refine Or.inr ⟨by simp, fun z hz => ?_⟩
      simp only [List.mem_cons, List.not_mem_nil, or_false] at hz
      rw [hz]
      simp [nd]
      try exact fun e => absurd e.symm (by simp [nd])
    · exact Or.inl (by simp)
    · refine Or.inr ⟨by simp, fun z hz => ?_⟩
      simp only [List.mem_cons, List.not_mem_nil, or_false] at hz
      rw [hz]
      simp [nd]
      try exact fun e => absurd e.symm (by simp [nd])
    · refine Or.inr ⟨by simp, fun z hz => ?_⟩
      simp only [List.mem_cons, List.not_mem_nil, or_false] at hz
      rw [hz]
      simp [nd]
      try exact fun e => absurd e.symm (by simp [nd])
    · refine Or.inr ⟨by simp, fun z hz => ?_⟩
      simp only [List.mem_cons, List.not_mem_nil, or_false] at hz
      rw [hz]
      simp [nd]
      try exact fun e => absurd e.symm (by simp [nd])
    · refine Or.inr ⟨by simp, fun z hz => ?_⟩
      simp only [List.mem_cons, List.not_mem_nil, or_false] at hz
      rw [hz]
      simp [nd]
      try exact fun e => absurd e.symm (by simp [nd])
    · refine Or.inr ⟨by simp, fun z hz => ?_⟩
      simp only [List.mem_cons, List.not_mem_nil, or_false] at hz
      rw [hz]
      simp [nd]
      try exact fun e => absurd e.symm (by simp [nd])
    · refine Or.inr ⟨by simp, fun z hz => ?_⟩
      simp only [List.mem_cons, List.not_mem_nil, or_false] at hz
      rw [hz]
      simp [nd]
      try exact fun e => absurd e.symm (by simp [nd])
theorem MW.kBo (h : MW L own k f ma ra adr pr rw cl F R C Lo Pl To Bo Re Sm Pc V) {i : Nat} (hi : i < 298) {n : Nat} {mi : Bool} {d : Nat → Nat} (e1 : f (adr (2 * i)) = cN (adr (2 * i + 1)) n mi) (e2 : f (adr (2 * i + 1)) = cE k d) : kn' L f f [(adr (2 * i), cN (adr (2 * i + 1)) n mi), (adr (2 * i + 1), cE k d), (ra 6, cI k 18432 Bo)] := by
  obtain ⟨m1, ml1, -⟩ := h.2.2 i hi
  refine kn_of (fun q hq => ?_) ?_
  · simp only [List.mem_cons, List.not_mem_nil, or_false] at hq
    rcases hq with rfl | rfl | rfl
    · exact ⟨m1, e1⟩
    · exact ⟨ml1, e2⟩
    · exact ⟨(h.1.2.1 6 (by decide)).1, h.2.1 _ (by simp)⟩
  · simp
    refine ⟨⟨fun e => ?_, fun e => (h.1.2.2.2.1 (2 * i) (by omega)).2.2 6 (by decide) e⟩, fun e => (h.1.2.2.2.1 (2 * i + 1) (by omega)).2.2 6 (by decide) e⟩
    have := h.1.2.2.2.2 (2 * i) (2 * i + 1) (by omega) (by omega) e
    omega
theorem MW.setBo (h : MW L own k f ma ra adr pr rw cl F R C Lo Pl To Bo Re Sm Pc V) {i : Nat} (hi : i < 298) {n : Nat} {mi : Bool} {d : Nat → Nat} {T' : Nat → Int32} (hk0 : kn' L f f [(adr (2 * i), cN (adr (2 * i + 1)) n mi), (adr (2 * i + 1), cE k d), (ra 6, cI k 18432 Bo)]) (hk : kn' L f f' [(adr (2 * i), cN (adr (2 * i + 1)) n mi), (adr (2 * i + 1), cE k d), (ra 6, cI k 18432 T')]) : MW L own k f' ma ra adr pr rw cl F R C Lo Pl To T' Re Sm Pc V ∧ oe own [200] f f' := by
  have hk1 : kn' L f f' [(ra 6, cI k 18432 T')] := by
    refine kn_pick hk (fun q hq => ?_) (by simp) (fun q hq hn => ?_)
    · simp only [List.mem_cons, List.not_mem_nil, or_false] at hq
      rw [hq]; simp
    · simp only [List.mem_cons, List.not_mem_nil, or_false] at hq hn
      rcases hq with q1 | q1 | q1
      · rw [q1]; exact (hk0.1 0 _ rfl).2
      · rw [q1]; exact (hk0.1 1 _ rfl).2
      · exact absurd q1 hn
  refine h.back (kn_over h.kn hk1 rfl (fun q hq => ?_) (fun q hq => ?_))
  · simp only [List.mem_cons, List.not_mem_nil, or_false] at hq
    rw [hq]; simp
  · have nd := mc_nd h.1
    simp only [List.nodup_cons, List.mem_cons, List.not_mem_nil, or_false, not_or] at nd
    simp only [List.mem_cons, List.not_mem_nil, or_false] at hq
    rcases hq with rfl | rfl | rfl | rfl | rfl | rfl | rfl | rfl | rfl | rfl | rfl | rfl | rfl
    · refine Or.inr ⟨by simp, fun z hz => ?_⟩
      simp only [List.mem_cons, List.not_mem_nil, or_false] at hz
      rw [hz]
      simp [nd]
      try exact fun e => absurd e.symm (by simp [nd])
    · refine Or.inr ⟨by simp, fun z hz => ?_⟩
      simp only [List.mem_cons, List.not_mem_nil, or_false] at hz
      rw [hz]
      simp [nd]
      try exact fun e => absurd e.symm (by simp [nd])
    · refine Or.inr ⟨by simp, fun z hz => ?_⟩
      simp only [List.mem_cons, List.not_mem_nil, or_false] at hz
      rw [hz]
      simp [nd]
      try exact fun e => absurd e.symm (by simp [nd])
    · refine Or.inr ⟨by simp, fun z hz => ?_⟩
      simp only [List.mem_cons, List.not_mem_nil, or_false] at hz
      rw [hz]
      simp [nd]
      try exact fun e => absurd e.symm (by simp [nd])
    · refine Or.inr ⟨by simp, fun z hz => ?_⟩
      simp only [List.mem_cons, List.not_mem_nil, or_false] at hz
      rw [hz]
      simp [nd]
      try exact fun e => absurd e.symm (by simp [nd])
    · refine Or.inr ⟨by simp, fun z hz => ?_⟩
      simp only [List.mem_cons, List.not_mem_nil, or_false] at hz
      rw [hz]
      simp [nd]
      try exact fun e => absurd e.symm (by simp [nd])
    · refine Or.inr ⟨by simp, fun z hz => ?_⟩
      simp only [List.mem_cons, List.not_mem_nil, or_false] at hz
      rw [hz]
      simp [nd]
      try exact fun e => absurd e.symm (by simp [nd])
    · exact Or.inl (by simp)
    · refine Or.inr ⟨by simp, fun z hz => ?_⟩
      simp only [List.mem_cons, List.not_mem_nil, or_false] at hz
      rw [hz]
      simp [nd]
      try exact fun e => absurd e.symm (by simp [nd])
    · refine Or.inr ⟨by simp, fun z hz => ?_⟩
      simp only [List.mem_cons, List.not_mem_nil, or_false] at hz
      rw [hz]
      simp [nd]
      try exact fun e => absurd e.symm (by simp [nd])
    · refine Or.inr ⟨by simp, fun z hz => ?_⟩
      simp only [List.mem_cons, List.not_mem_nil, or_false] at hz
      rw [hz]
      simp [nd]
      try exact fun e => absurd e.symm (by simp [nd])
    · refine Or.inr ⟨by simp, fun z hz => ?_⟩
      simp only [List.mem_cons, List.not_mem_nil, or_false] at hz
      rw [hz]
      simp [nd]
      try exact fun e => absurd e.symm (by simp [nd])
    · refine Or.inr ⟨by simp, fun z hz => ?_⟩
      simp only [List.mem_cons, List.not_mem_nil, or_false] at hz
      rw [hz]
      simp [nd]
      try exact fun e => absurd e.symm (by simp [nd])
end MW5
section MST5
variable (l : Launch) (D : va_G) {L : List Nat} {k : Nat → ClassId} {f : Nat → va_E} {own : Nat → Nat} {ma : Nat} {ra adr : Nat → Nat} {pr rw cl : Int32} {F R C Lo Pl To Bo Re Sm Pc : Nat → Int32} {V : Nat → Int}
set_option maxRecDepth 100000 in
set_option maxHeartbeats 4000000 in
theorem mm_store5 (h : MW L own k f ma ra adr pr rw cl F R C Lo Pl To Bo Re Sm Pc V) {i at0 : Nat} (hi : i < 298) (hv : (V i).natAbs < D16 ^ 15) (hat : at0 + 16 ≤ 18432) : Mv l y_M_store (Cond.code y_M_store c_M_store 4 none :: G) (rmN 0) D cls (tyl k) L f [.ref (adr (2 * i)), .ref (ra 5), .int (nI at0)] (fun f' => ∃ T', sc T' at0 (V i) ∧ (∀ t, t < at0 ∨ at0 + 16 ≤ t → T' t = To t) ∧ MW L own k f' ma ra adr pr rw cl F R C Lo Pl T' Bo Re Sm Pc V ∧ oe own [200] f f') := by
  obtain ⟨m1, ml1, n1, g1, d1, e1, el1, w1⟩ := h.2.2 i hi
  have hk := h.kTo hi e1 el1
  refine Met_mono (m_M_store l D k L f _ _ _ n1 at0 g1 d1 To _ w1 (nr_cnt w1 hv) hat hk) (fun f' hp => ?_)
  obtain ⟨T', h1, h2, h3⟩ := hp
  obtain ⟨h4, h5⟩ := h.setTo hi hk h3
  exact ⟨T', h1, h2, h4, h5⟩
set_option maxRecDepth 100000 in
set_option maxHeartbeats 4000000 in
theorem mm_fetch5 (h : MW L own k f ma ra adr pr rw cl F R C Lo Pl To Bo Re Sm Pc V) {i at0 : Nat} {v : Int} (hi : i < 298) (hv : sc To at0 v) (hat : at0 + 16 ≤ 18432) : Mv l y_M_fetch (Cond.code y_M_fetch c_M_fetch 4 none :: G) (rmN 0) D cls (tyl k) L f [.ref (adr (2 * i)), .ref (ra 5), .int (nI at0)] (fun f' => MW L own k f' ma ra adr pr rw cl F R C Lo Pl To Bo Re Sm Pc (va_up V i v) ∧ oe own [200] f f') := by
  obtain ⟨m1, ml1, n1, g1, d1, e1, el1, w1⟩ := h.2.2 i hi
  have hk := h.kTo hi e1 el1
  refine Met_mono (m_M_fetch l D k L f _ _ _ n1 at0 g1 d1 To v hv w1.2.1 hat hk) (fun f' hp => ?_)
  obtain ⟨n', mi', d', h1, h2⟩ := hp
  exact h.num (fn_two h.1.2.2.2.2 h.2.2 hi h2 h1)
set_option maxRecDepth 100000 in
set_option maxHeartbeats 4000000 in
theorem mm_store6 (h : MW L own k f ma ra adr pr rw cl F R C Lo Pl To Bo Re Sm Pc V) {i at0 : Nat} (hi : i < 298) (hv : (V i).natAbs < D16 ^ 15) (hat : at0 + 16 ≤ 18432) : Mv l y_M_store (Cond.code y_M_store c_M_store 4 none :: G) (rmN 0) D cls (tyl k) L f [.ref (adr (2 * i)), .ref (ra 6), .int (nI at0)] (fun f' => ∃ T', sc T' at0 (V i) ∧ (∀ t, t < at0 ∨ at0 + 16 ≤ t → T' t = Bo t) ∧ MW L own k f' ma ra adr pr rw cl F R C Lo Pl To T' Re Sm Pc V ∧ oe own [200] f f') := by
  obtain ⟨m1, ml1, n1, g1, d1, e1, el1, w1⟩ := h.2.2 i hi
  have hk := h.kBo hi e1 el1
  refine Met_mono (m_M_store l D k L f _ _ _ n1 at0 g1 d1 Bo _ w1 (nr_cnt w1 hv) hat hk) (fun f' hp => ?_)
  obtain ⟨T', h1, h2, h3⟩ := hp
  obtain ⟨h4, h5⟩ := h.setBo hi hk h3
  exact ⟨T', h1, h2, h4, h5⟩
set_option maxRecDepth 100000 in
set_option maxHeartbeats 4000000 in
theorem mm_fetch6 (h : MW L own k f ma ra adr pr rw cl F R C Lo Pl To Bo Re Sm Pc V) {i at0 : Nat} {v : Int} (hi : i < 298) (hv : sc Bo at0 v) (hat : at0 + 16 ≤ 18432) : Mv l y_M_fetch (Cond.code y_M_fetch c_M_fetch 4 none :: G) (rmN 0) D cls (tyl k) L f [.ref (adr (2 * i)), .ref (ra 6), .int (nI at0)] (fun f' => MW L own k f' ma ra adr pr rw cl F R C Lo Pl To Bo Re Sm Pc (va_up V i v) ∧ oe own [200] f f') := by
  obtain ⟨m1, ml1, n1, g1, d1, e1, el1, w1⟩ := h.2.2 i hi
  have hk := h.kBo hi e1 el1
  refine Met_mono (m_M_fetch l D k L f _ _ _ n1 at0 g1 d1 Bo v hv w1.2.1 hat hk) (fun f' hp => ?_)
  obtain ⟨n', mi', d', h1, h2⟩ := hp
  exact h.num (fn_two h.1.2.2.2.2 h.2.2 hi h2 h1)
end MST5
section MEM5
variable {p : Program} {l : Launch} {e : Env} {s : State} {m : MethodId} {args : Array Value} {below : List Frame} {meth : Method} {c : Code} {Q : State → Prop} {D : va_G} {k : Nat → ClassId} {L : List Nat} {H0 : Heap}
variable {own : Nat → Nat} {ma : Nat} {ra adr : Nat → Nat} {pr rw cl : Int32} {F R C Lo Pl To Bo Re Sm Pc : Nat → Int32} {V : Nat → Int}
set_option maxRecDepth 100000 in
set_option maxHeartbeats 4000000 in
theorem w_empty (S : CallFix p m c c_M_empty 5 s args G R_M) (hr : meth.sig.returnType = none) (hlocks : meth.locks = false) {q0 r0 n0 : Int32} {f0 : Nat → va_E} :
    ∀ (d x : Nat) (f : Nat → va_E) (V : Nat → Int) (Sm : Nat → Int32) (H : Heap) (locs : List Loc) (ls : Array Slot), x + d = 144 → MW L own k f ma ra adr q0 r0 n0 F R C Lo Pl To Bo Re Sm Pc V → oe own [200] f0 f → (∀ y, y < x → V (10 + y) = 0 ∧ V (154 + y) = 1 ∧ Sm y = 0) → lv_has ls 5 [(0, .ref ma), (4, .int (nI x))] → gw D cls (tyl k) L s s.heap f H locs →
    W p l e (rmN 2) s m args below meth c H locs 0 0 (MQ below (va_Qv (fun f' => ∃ V' Sm', MW L own k f' ma ra adr q0 r0 n0 F R C Lo Pl To Bo Re Sm' Pc V' ∧ oe own [200] f0 f' ∧ (∀ x, x < 144 → V' (10 + x) = 0 ∧ V' (154 + x) = 1 ∧ Sm' x = 0)) (mst D cls (tyl k) L) (fun q => q ∈ L)) args s 0 0 (fun q => q ∈ L)) (F0 m 18 ls []) := by
  have hx := S.1
  have hb := S.2.1
  have hown : s.vm.findClass R_M = some m.cls := S.2.2.2.1
  have hG := S.2.2.2.2
  intro d
  induction d with
  | zero =>
    intro x f V Sm H locs ls hd h ho hE hl hg
    have hd : x = 144 := by omega
    subst hd
    -- METHOD M_empty | loc 0=m 4=x | ws m fa rc cc lo pl to bo re tp bt sm pc | fld m.fields=fa m.rowCounts=rc m.columnCounts=cc m.loose=lo m.places=pl m.tops=to m.bottoms=bo m.residues=re m.top=tp m.bottom=bt m.small=sm m.place=pc m.one=n0 m.two=n1 m.three=n2 m.four=n3 m.five=n4 m.six=n5 m.seven=n6 m.eight=n7 m.above=n8 m.under=n9
    refine lv_iload hx hb d_M_empty_18 (lv_at hl 1 rfl) ?_
    refine lv_sipush (v := 144) hx hb d_M_empty_20 (by decide) ?_
    refine lv_icmp_ge (tgt := 61) hx hb d_M_empty_23 (by decide) (fun hc => ?_) (fun hc => ?_)
    · exact g_retv hx hb hr hlocks hg ⟨V, Sm, h, ho, hE⟩ d_M_empty_61
    · exact absurd (show (144 : Int32) ≤ nI 144 by decide) hc
  | succ d ih =>
    intro x f V Sm H locs ls hd h ho hE hl hg
    have hx1 : x < 144 := by omega
    have hw : kw D cls (tyl k) L s s.heap f ((mc k ra adr ma q0 r0 n0 F R C Lo Pl To Bo Re Sm Pc)) H locs := ⟨f, hg, h.kn⟩
    -- METHOD M_empty | loc 0=m 4=x | ws m fa rc cc lo pl to bo re tp bt sm pc | fld m.fields=fa m.rowCounts=rc m.columnCounts=cc m.loose=lo m.places=pl m.tops=to m.bottoms=bo m.residues=re m.top=tp m.bottom=bt m.small=sm m.place=pc m.one=n0 m.two=n1 m.three=n2 m.four=n3 m.five=n4 m.six=n5 m.seven=n6 m.eight=n7 m.above=n8 m.under=n9
    refine lv_iload hx hb d_M_empty_18 (lv_at hl 1 rfl) ?_
    refine lv_sipush (v := 144) hx hb d_M_empty_20 (by decide) ?_
    refine lv_icmp_ge (tgt := 61) hx hb d_M_empty_23 (by decide) (fun hc => ?_) (fun hc => ?_)
    · exact absurd hc (nI_ge (a := x) (b := 144) (by omega) (by omega))
    refine lv_aload_n hx hb d_M_empty_26 rfl (lv_at hl 0 rfl) ?_
    refine k_get hx hb hG lay_M hown hw 0 rfl rfl 16 (by decide) (hG _ fl_M_79) (fun _ h9 => h9) rfl d_M_empty_27 ?_
    refine lv_iload hx hb d_M_empty_30 (lv_at hl 1 rfl) ?_
    refine k_aald hx hb hw 9 4 rfl rfl (x) (rfl) (by omega) (by first | decide | omega) (rfl) d_M_empty_32 ?_
    have hw := hg
    refine g_ov (c_V (np := 0) S (nn_zero l D h.1.2.2.2.2 h.2.2 (i := 10 + x) (by omega)) hw ((h.2.2 (10 + x) (by omega)).1) ((h.2.2 (10 + x) (by omega)).2.2.choose_spec.choose_spec.choose_spec.1) rfl ml_M_114 im_N_zero se_N_N_zero in_N co_N_zero (by decide +kernel) rfl ⟨rfl, rfl, by decide, by decide⟩ hl.1 rfl (by simp [Value.category]) d_M_empty_33 ⟨Nat.zero_le _, Nat.zero_le _⟩) hw (fun f1 H locs hp hg => ?_)
    obtain ⟨h1, ho1⟩ := h.num hp
    have hw : kw D cls (tyl k) L s s.heap f1 ((mc k ra adr ma q0 r0 n0 F R C Lo Pl To Bo Re Sm Pc)) H locs := ⟨f1, hg, h1.kn⟩
    refine lv_aload_n hx hb d_M_empty_36 rfl (lv_at hl 0 rfl) ?_
    refine k_get hx hb hG lay_M hown hw 0 rfl rfl 17 (by decide) (hG _ fl_M_83) (fun _ h9 => h9) rfl d_M_empty_37 ?_
    refine lv_iload hx hb d_M_empty_40 (lv_at hl 1 rfl) ?_
    refine k_aald hx hb hw 10 4 rfl rfl (x) (rfl) (by omega) (by first | decide | omega) (rfl) d_M_empty_42 ?_
    refine lv_lconst (v := 1) hx hb d_M_empty_43 (by decide) ?_
    refine l_topl (show (1 : Int64) = zL 1 by decide +kernel) ?_
    have hw := hg
    refine g_ov (c_V (np := 1) S (nn_small l D h1.1.2.2.2.2 h1.2.2 (i := 154 + x) (by omega) (v := 1) (by decide)) hw ((h1.2.2 (154 + x) (by omega)).1) ((h1.2.2 (154 + x) (by omega)).2.2.choose_spec.choose_spec.choose_spec.1) rfl ml_M_117 im_N_small se_N_N_small in_N co_N_small (by decide +kernel) rfl ⟨rfl, rfl, by decide, by decide⟩ hl.1 rfl (by simp [Value.category]) d_M_empty_44 ⟨Nat.zero_le _, Nat.zero_le _⟩) hw (fun f2 H locs hp hg => ?_)
    obtain ⟨h2, ho2⟩ := h1.num hp
    have hw : kw D cls (tyl k) L s s.heap f2 ((mc k ra adr ma q0 r0 n0 F R C Lo Pl To Bo Re Sm Pc)) H locs := ⟨f2, hg, h2.kn⟩
    refine lv_aload_n hx hb d_M_empty_47 rfl (lv_at hl 0 rfl) ?_
    refine k_get hx hb hG lay_M hown hw 0 rfl rfl 18 (by decide) (hG _ fl_M_86) (fun _ h9 => h9) rfl d_M_empty_48 ?_
    refine lv_iload hx hb d_M_empty_51 (lv_at hl 1 rfl) ?_
    refine lv_iconst (v := 0) hx hb d_M_empty_53 (by decide) ?_
    refine k_iast hx hb hw 11 0 rfl rfl (x) (rfl) (by omega) (by first | decide | omega) d_M_empty_54 (fun H locs hw => ?_)
    obtain ⟨f3, hg, hk3⟩ := hw
    obtain ⟨h3, ho3⟩ := h2.back (pr' := q0) (rw' := r0) (cl' := n0) hk3
    refine lv_iinc (k := 1) hx hb d_M_empty_55 hl rfl (ii1 x) (by decide) rfl (fun ls hl => ?_)
    refine lv_goto (tgt := 18) hx hb d_M_empty_58 (by decide) ?_
    have hl := lv_sub hl [1, 0] rfl
    refine ih (x + 1) f3 _ _ H locs ls (by omega) h3 (ho.trans (ho1.trans (ho2.trans ho3))) (fun y hy => ?_) hl hg
    by_cases e : y = x
    · subst e
      rw [va_up_ne _ _ (by omega), va_up_self, va_up_self, pk_us]
      exact ⟨rfl, rfl, rfl⟩
    · rw [va_up_ne _ _ (by omega), va_up_ne _ _ (by omega), va_up_ne _ _ (by omega), va_up_ne _ _ (by omega), pk_un e]
      exact hE y (by omega)
set_option maxRecDepth 100000 in
set_option maxHeartbeats 4000000 in
theorem w_keepI (S : CallFix p m c c_M_keep 5 s args G R_M) {t i : Nat} (ht : t < 8) (hi : i < 12) (hJ : JB V) {f0 : Nat → va_E} {To0 Bo0 Re0 : Nat → Int32}
    (kx : ∀ (f : Nat → va_E) (To Bo Re : Nat → Int32) (H : Heap) (locs : List Loc) (ls : Array Slot), MW L own k f ma ra adr pr rw cl F R C Lo Pl To Bo Re Sm Pc V → oe own [200] f0 f → ((∀ x, x < 12 * i + 12 → sc To (16 * (144 * t + x)) (V (10 + x)) ∧ sc Bo (16 * (144 * t + x)) (V (154 + x)) ∧ Re (144 * t + x) = Sm x) ∧ (∀ z, z < 16 * (144 * t) ∨ 16 * (144 * t + 144) ≤ z → To z = To0 z ∧ Bo z = Bo0 z) ∧ ∀ z, z < 144 * t ∨ 144 * t + 144 ≤ z → Re z = Re0 z) → lv_has ls 5 [(0, .ref ma), (1, .int (nI t)), (2, .int (nI i))] → gw D cls (tyl k) L s s.heap f H locs → W p l e (rmN 1) s m args below meth c H locs 0 0 Q (F0 m 147 ls [])) :
    ∀ (d j : Nat) (f : Nat → va_E) (To Bo Re : Nat → Int32) (H : Heap) (locs : List Loc) (ls : Array Slot), j + d = 12 → MW L own k f ma ra adr pr rw cl F R C Lo Pl To Bo Re Sm Pc V → oe own [200] f0 f → ((∀ x, x < 12 * i + j → sc To (16 * (144 * t + x)) (V (10 + x)) ∧ sc Bo (16 * (144 * t + x)) (V (154 + x)) ∧ Re (144 * t + x) = Sm x) ∧ (∀ z, z < 16 * (144 * t) ∨ 16 * (144 * t + 144) ≤ z → To z = To0 z ∧ Bo z = Bo0 z) ∧ ∀ z, z < 144 * t ∨ 144 * t + 144 ≤ z → Re z = Re0 z) → lv_has ls 5 [(0, .ref ma), (1, .int (nI t)), (2, .int (nI i)), (3, .int (nI j))] → gw D cls (tyl k) L s s.heap f H locs →
    W p l e (rmN 1) s m args below meth c H locs 0 0 Q (F0 m 57 ls []) := by
  have hx := S.1
  have hb := S.2.1
  have hown : s.vm.findClass R_M = some m.cls := S.2.2.2.1
  have hG := S.2.2.2.2
  intro d
  induction d with
  | zero =>
    intro j f To Bo Re H locs ls hd h ho hD hl hg
    have hd : j = 12 := by omega
    subst hd
    -- METHOD M_keep | loc 0=m 1=t 2=i 3=j | ws m fa rc cc lo pl to bo re tp bt sm pc | fld m.fields=fa m.rowCounts=rc m.columnCounts=cc m.loose=lo m.places=pl m.tops=to m.bottoms=bo m.residues=re m.top=tp m.bottom=bt m.small=sm m.place=pc m.one=n0 m.two=n1 m.three=n2 m.four=n3 m.five=n4 m.six=n5 m.seven=n6 m.eight=n7 m.above=n8 m.under=n9
    refine lv_iload_n hx hb d_M_keep_57 rfl (lv_at hl 3 rfl) ?_
    refine lv_bipush (v := 12) hx hb d_M_keep_58 (by decide) ?_
    refine lv_icmp_ge (tgt := 147) hx hb d_M_keep_60 (by decide) (fun hc => ?_) (fun hc => ?_)
    · exact kx f To Bo Re H locs ls h ho hD (lv_sub hl [0, 1, 2] rfl) hg
    · exact absurd (show (12 : Int32) ≤ nI 12 by decide) hc
  | succ d ih =>
    intro j f To Bo Re H locs ls hd h ho hD hl hg
    obtain ⟨x, hx0⟩ : ∃ x, x = 12 * i + j := ⟨_, rfl⟩
    have hx1 : x < 144 := by omega
    rw [← hx0] at hD
    have hw : kw D cls (tyl k) L s s.heap f ((mc k ra adr ma pr rw cl F R C Lo Pl To Bo Re Sm Pc)) H locs := ⟨f, hg, h.kn⟩
    -- METHOD M_keep | loc 0=m 1=t 2=i 3=j | ws m fa rc cc lo pl to bo re tp bt sm pc | fld m.fields=fa m.rowCounts=rc m.columnCounts=cc m.loose=lo m.places=pl m.tops=to m.bottoms=bo m.residues=re m.top=tp m.bottom=bt m.small=sm m.place=pc m.one=n0 m.two=n1 m.three=n2 m.four=n3 m.five=n4 m.six=n5 m.seven=n6 m.eight=n7 m.above=n8 m.under=n9
    refine lv_iload_n hx hb d_M_keep_57 rfl (lv_at hl 3 rfl) ?_
    refine lv_bipush (v := 12) hx hb d_M_keep_58 (by decide) ?_
    refine lv_icmp_ge (tgt := 147) hx hb d_M_keep_60 (by decide) (fun hc => ?_) (fun hc => ?_)
    · exact absurd hc (nI_ge (a := j) (b := 12) (by omega) (by omega))
    refine lv_bipush (v := 12) hx hb d_M_keep_63 (by decide) ?_
    refine lv_iload_n hx hb d_M_keep_65 rfl (lv_at hl 2 rfl) ?_
    refine lv_imul hx hb d_M_keep_66 ?_
    refine l_top (pk_mul 12 i) ?_
    refine lv_iload_n hx hb d_M_keep_67 rfl (lv_at hl 3 rfl) ?_
    refine lv_iadd hx hb d_M_keep_68 ?_
    refine l_top (nI_add (12 * i) j) ?_
    refine l_top (show nI (12 * i + j) = nI x by rw [hx0]) ?_
    refine lv_istore hx hb d_M_keep_69 hl (by decide) rfl (fun ls hl => ?_)
    refine lv_aload_n hx hb d_M_keep_71 rfl (lv_at hl 1 rfl) ?_
    refine k_get hx hb hG lay_M hown hw 0 rfl rfl 16 (by decide) (hG _ fl_M_79) (fun _ h9 => h9) rfl d_M_keep_72 ?_
    refine lv_iload hx hb d_M_keep_75 (lv_at hl 0 rfl) ?_
    refine k_aald hx hb hw 9 4 rfl rfl (x) (rfl) (by omega) (by first | decide | omega) (rfl) d_M_keep_77 ?_
    refine lv_aload_n hx hb d_M_keep_78 rfl (lv_at hl 1 rfl) ?_
    refine k_get hx hb hG lay_M hown hw 0 rfl rfl 13 (by decide) (hG _ fl_M_70) (fun _ h9 => h9) rfl d_M_keep_79 ?_
    refine lv_bipush (v := 16) hx hb d_M_keep_82 (by decide) ?_
    refine lv_sipush (v := 144) hx hb d_M_keep_84 (by decide) ?_
    refine lv_iload_n hx hb d_M_keep_87 rfl (lv_at hl 2 rfl) ?_
    refine lv_imul hx hb d_M_keep_88 ?_
    refine l_top (pk_mul 144 t) ?_
    refine lv_iload hx hb d_M_keep_89 (lv_at hl 0 rfl) ?_
    refine lv_iadd hx hb d_M_keep_91 ?_
    refine l_top (nI_add (144 * t) x) ?_
    refine lv_imul hx hb d_M_keep_92 ?_
    refine l_top (pk_mul 16 (144 * t + x)) ?_
    have hw := hg
    refine g_ov (c_X (np := 3) S (mm_store5 l D h (i := 10 + x) (at0 := 16 * (144 * t + x)) (by omega) (hJ x hx1).1 (by omega)) hw ml_M_124 st_M_store in_M co_M_store (by decide +kernel) rfl ⟨rfl, rfl, by decide, by decide⟩ hl.1 rfl (by simp [Value.category]) d_M_keep_93 ⟨Nat.zero_le _, Nat.zero_le _⟩) hw (fun f1 H locs hp hg => ?_)
    obtain ⟨To1, s1, s2, h1, ho1⟩ := hp
    have hw : kw D cls (tyl k) L s s.heap f1 ((mc k ra adr ma pr rw cl F R C Lo Pl To1 Bo Re Sm Pc)) H locs := ⟨f1, hg, h1.kn⟩
    refine lv_aload_n hx hb d_M_keep_96 rfl (lv_at hl 1 rfl) ?_
    refine k_get hx hb hG lay_M hown hw 0 rfl rfl 17 (by decide) (hG _ fl_M_83) (fun _ h9 => h9) rfl d_M_keep_97 ?_
    refine lv_iload hx hb d_M_keep_100 (lv_at hl 0 rfl) ?_
    refine k_aald hx hb hw 10 4 rfl rfl (x) (rfl) (by omega) (by first | decide | omega) (rfl) d_M_keep_102 ?_
    refine lv_aload_n hx hb d_M_keep_103 rfl (lv_at hl 1 rfl) ?_
    refine k_get hx hb hG lay_M hown hw 0 rfl rfl 14 (by decide) (hG _ fl_M_73) (fun _ h9 => h9) rfl d_M_keep_104 ?_
    refine lv_bipush (v := 16) hx hb d_M_keep_107 (by decide) ?_
    refine lv_sipush (v := 144) hx hb d_M_keep_109 (by decide) ?_
    refine lv_iload_n hx hb d_M_keep_112 rfl (lv_at hl 2 rfl) ?_
    refine lv_imul hx hb d_M_keep_113 ?_
    refine l_top (pk_mul 144 t) ?_
    refine lv_iload hx hb d_M_keep_114 (lv_at hl 0 rfl) ?_
    refine lv_iadd hx hb d_M_keep_116 ?_
    refine l_top (nI_add (144 * t) x) ?_
    refine lv_imul hx hb d_M_keep_117 ?_
    refine l_top (pk_mul 16 (144 * t + x)) ?_
    have hw := hg
    refine g_ov (c_X (np := 3) S (mm_store6 l D h1 (i := 154 + x) (at0 := 16 * (144 * t + x)) (by omega) (hJ x hx1).2 (by omega)) hw ml_M_124 st_M_store in_M co_M_store (by decide +kernel) rfl ⟨rfl, rfl, by decide, by decide⟩ hl.1 rfl (by simp [Value.category]) d_M_keep_118 ⟨Nat.zero_le _, Nat.zero_le _⟩) hw (fun f2 H locs hp hg => ?_)
    obtain ⟨Bo1, s3, s4, h2, ho2⟩ := hp
    have hw : kw D cls (tyl k) L s s.heap f2 ((mc k ra adr ma pr rw cl F R C Lo Pl To1 Bo1 Re Sm Pc)) H locs := ⟨f2, hg, h2.kn⟩
    refine lv_aload_n hx hb d_M_keep_121 rfl (lv_at hl 1 rfl) ?_
    refine k_get hx hb hG lay_M hown hw 0 rfl rfl 15 (by decide) (hG _ fl_M_76) (fun _ h9 => h9) rfl d_M_keep_122 ?_
    refine lv_sipush (v := 144) hx hb d_M_keep_125 (by decide) ?_
    refine lv_iload_n hx hb d_M_keep_128 rfl (lv_at hl 2 rfl) ?_
    refine lv_imul hx hb d_M_keep_129 ?_
    refine l_top (pk_mul 144 t) ?_
    refine lv_iload hx hb d_M_keep_130 (lv_at hl 0 rfl) ?_
    refine lv_iadd hx hb d_M_keep_132 ?_
    refine l_top (nI_add (144 * t) x) ?_
    refine lv_aload_n hx hb d_M_keep_133 rfl (lv_at hl 1 rfl) ?_
    refine k_get hx hb hG lay_M hown hw 0 rfl rfl 18 (by decide) (hG _ fl_M_86) (fun _ h9 => h9) rfl d_M_keep_134 ?_
    refine lv_iload hx hb d_M_keep_137 (lv_at hl 0 rfl) ?_
    refine k_iald hx hb hw 11 0 rfl rfl (x) (rfl) (by omega) (by first | decide | omega) d_M_keep_139 ?_
    refine k_iast hx hb hw 8 0 rfl rfl ((144 * t + x)) (rfl) (by omega) (by first | decide | omega) d_M_keep_140 (fun H locs hw => ?_)
    obtain ⟨f3, hg, hk3⟩ := hw
    obtain ⟨h3, ho3⟩ := h2.back (To' := To1) (Bo' := Bo1) hk3
    refine lv_iinc (k := 4) hx hb d_M_keep_141 hl rfl (ii1 j) (by decide) rfl (fun ls hl => ?_)
    refine lv_goto (tgt := 57) hx hb d_M_keep_144 (by decide) ?_
    have hl := lv_sub hl [2, 3, 4, 0] rfl
    refine ih (j + 1) f3 To1 Bo1 _ H locs ls (by omega) h3 (ho.trans (ho1.trans (ho2.trans ho3))) ⟨fun y hy => ?_, fun z hz => ?_, fun z hz => ?_⟩ hl hg
    · by_cases e : y = x
      · subst e
        rw [pk_us]; exact ⟨s1, s3, rfl⟩
      · obtain ⟨a1, a2, a3⟩ := hD.1 y (by omega)
        rw [pk_un (by omega)]
        exact ⟨sc_same a1 (fun z h1 h2 => s2 z (by omega)), sc_same a2 (fun z h1 h2 => s4 z (by omega)), a3⟩
    · rw [s2 z (by omega), s4 z (by omega)]; exact hD.2.1 z hz
    · rw [pk_un (by omega)]; exact hD.2.2 z hz
set_option maxRecDepth 100000 in
set_option maxHeartbeats 4000000 in
theorem w_keepO (S : CallFix p m c c_M_keep 5 s args G R_M) (hr : meth.sig.returnType = none) (hlocks : meth.locks = false) {t : Nat} (ht : t < 8) (hJ : JB V) {f0 : Nat → va_E} {To0 Bo0 Re0 Pl0 : Nat → Int32} :
    ∀ (d i : Nat) (f : Nat → va_E) (Pl To Bo Re : Nat → Int32) (H : Heap) (locs : List Loc) (ls : Array Slot), i + d = 12 → MW L own k f ma ra adr pr rw cl F R C Lo Pl To Bo Re Sm Pc V → oe own [200] f0 f → ((∀ x, x < i → Pl (12 * t + x) = Pc x) ∧ ∀ z, z < 12 * t ∨ 12 * t + 12 ≤ z → Pl z = Pl0 z) → ((∀ x, x < 12 * i → sc To (16 * (144 * t + x)) (V (10 + x)) ∧ sc Bo (16 * (144 * t + x)) (V (154 + x)) ∧ Re (144 * t + x) = Sm x) ∧ (∀ z, z < 16 * (144 * t) ∨ 16 * (144 * t + 144) ≤ z → To z = To0 z ∧ Bo z = Bo0 z) ∧ ∀ z, z < 144 * t ∨ 144 * t + 144 ≤ z → Re z = Re0 z) → lv_has ls 5 [(0, .ref ma), (1, .int (nI t)), (2, .int (nI i))] → gw D cls (tyl k) L s s.heap f H locs →
    W p l e (rmN 1) s m args below meth c H locs 0 0 (MQ below (va_Qv (fun f' => ∃ Pl' To' Bo' Re', MW L own k f' ma ra adr pr rw cl F R C Lo Pl' To' Bo' Re' Sm Pc V ∧ oe own [200] f0 f' ∧ ((∀ x, x < 12 → Pl' (12 * t + x) = Pc x) ∧ ∀ z, z < 12 * t ∨ 12 * t + 12 ≤ z → Pl' z = Pl0 z) ∧ ((∀ x, x < 144 → sc To' (16 * (144 * t + x)) (V (10 + x)) ∧ sc Bo' (16 * (144 * t + x)) (V (154 + x)) ∧ Re' (144 * t + x) = Sm x) ∧ (∀ z, z < 16 * (144 * t) ∨ 16 * (144 * t + 144) ≤ z → To' z = To0 z ∧ Bo' z = Bo0 z) ∧ ∀ z, z < 144 * t ∨ 144 * t + 144 ≤ z → Re' z = Re0 z)) (mst D cls (tyl k) L) (fun q => q ∈ L)) args s 0 0 (fun q => q ∈ L)) (F0 m 32 ls []) := by
  have hx := S.1
  have hb := S.2.1
  have hown : s.vm.findClass R_M = some m.cls := S.2.2.2.1
  have hG := S.2.2.2.2
  intro d
  induction d with
  | zero =>
    intro i f Pl To Bo Re H locs ls hd h ho hP hD hl hg
    have hd : i = 12 := by omega
    subst hd
    -- METHOD M_keep | loc 0=m 1=t 2=i | ws m fa rc cc lo pl to bo re tp bt sm pc | fld m.fields=fa m.rowCounts=rc m.columnCounts=cc m.loose=lo m.places=pl m.tops=to m.bottoms=bo m.residues=re m.top=tp m.bottom=bt m.small=sm m.place=pc m.one=n0 m.two=n1 m.three=n2 m.four=n3 m.five=n4 m.six=n5 m.seven=n6 m.eight=n7 m.above=n8 m.under=n9
    refine lv_iload_n hx hb d_M_keep_32 rfl (lv_at hl 2 rfl) ?_
    refine lv_bipush (v := 12) hx hb d_M_keep_33 (by decide) ?_
    refine lv_icmp_ge (tgt := 153) hx hb d_M_keep_35 (by decide) (fun hc => ?_) (fun hc => ?_)
    · exact g_retv hx hb hr hlocks hg ⟨Pl, To, Bo, Re, h, ho, hP, hD⟩ d_M_keep_153
    · exact absurd (show (12 : Int32) ≤ nI 12 by decide) hc
  | succ d ih =>
    intro i f Pl To Bo Re H locs ls hd h ho hP hD hl hg
    have hw : kw D cls (tyl k) L s s.heap f ((mc k ra adr ma pr rw cl F R C Lo Pl To Bo Re Sm Pc)) H locs := ⟨f, hg, h.kn⟩
    -- METHOD M_keep | loc 0=m 1=t 2=i | ws m fa rc cc lo pl to bo re tp bt sm pc | fld m.fields=fa m.rowCounts=rc m.columnCounts=cc m.loose=lo m.places=pl m.tops=to m.bottoms=bo m.residues=re m.top=tp m.bottom=bt m.small=sm m.place=pc m.one=n0 m.two=n1 m.three=n2 m.four=n3 m.five=n4 m.six=n5 m.seven=n6 m.eight=n7 m.above=n8 m.under=n9
    refine lv_iload_n hx hb d_M_keep_32 rfl (lv_at hl 2 rfl) ?_
    refine lv_bipush (v := 12) hx hb d_M_keep_33 (by decide) ?_
    refine lv_icmp_ge (tgt := 153) hx hb d_M_keep_35 (by decide) (fun hc => ?_) (fun hc => ?_)
    · exact absurd hc (nI_ge (a := i) (b := 12) (by omega) (by omega))
    refine lv_aload_n hx hb d_M_keep_38 rfl (lv_at hl 0 rfl) ?_
    refine k_get hx hb hG lay_M hown hw 0 rfl rfl 12 (by decide) (hG _ fl_M_67) (fun _ h9 => h9) rfl d_M_keep_39 ?_
    refine lv_bipush (v := 12) hx hb d_M_keep_42 (by decide) ?_
    refine lv_iload_n hx hb d_M_keep_44 rfl (lv_at hl 1 rfl) ?_
    refine lv_imul hx hb d_M_keep_45 ?_
    refine l_top (pk_mul 12 t) ?_
    refine lv_iload_n hx hb d_M_keep_46 rfl (lv_at hl 2 rfl) ?_
    refine lv_iadd hx hb d_M_keep_47 ?_
    refine l_top (nI_add (12 * t) i) ?_
    refine lv_aload_n hx hb d_M_keep_48 rfl (lv_at hl 0 rfl) ?_
    refine k_get hx hb hG lay_M hown hw 0 rfl rfl 19 (by decide) (hG _ fl_M_89) (fun _ h9 => h9) rfl d_M_keep_49 ?_
    refine lv_iload_n hx hb d_M_keep_52 rfl (lv_at hl 2 rfl) ?_
    refine k_iald hx hb hw 12 0 rfl rfl (i) (rfl) (by omega) (by first | decide | omega) d_M_keep_53 ?_
    refine k_iast hx hb hw 5 0 rfl rfl ((12 * t + i)) (rfl) (by omega) (by first | decide | omega) d_M_keep_54 (fun H locs hw => ?_)
    obtain ⟨f1, hg, hk1⟩ := hw
    obtain ⟨h1, ho1⟩ := h.back hk1
    refine lv_iconst (v := 0) hx hb d_M_keep_55 (by decide) ?_
    refine lv_istore_n hx hb d_M_keep_56 rfl hl (by decide) rfl (fun ls hl => ?_)
    have hl := lv_sub hl [1, 2, 3, 0] rfl
    refine w_keepI S ht (i := i) (by omega) hJ (f0 := f0) (To0 := To0) (Bo0 := Bo0) (Re0 := Re0) (fun f2 To2 Bo2 Re2 H locs ls h2 ho2 hD2 hl hg => ?_) 12 0 f1 To Bo Re H locs ls (by omega) h1 (ho.trans ho1) hD hl hg
    refine lv_iinc (k := 2) hx hb d_M_keep_147 hl rfl (ii1 i) (by decide) rfl (fun ls hl => ?_)
    refine lv_goto (tgt := 32) hx hb d_M_keep_150 (by decide) ?_
    have hl := lv_sub hl [1, 2, 0] rfl
    refine ih (i + 1) f2 _ To2 Bo2 Re2 H locs ls (by omega) h2 ho2 ⟨fun y hy => ?_, fun z hz => ?_⟩ hD2 hl hg
    · by_cases e : y = i
      · rw [e, pk_us]
      · rw [pk_un (by omega)]; exact hP.1 y (by omega)
    · rw [pk_un (by omega)]; exact hP.2 z hz
end MEM5
section MKE
variable (l : Launch) (D : va_G) {L : List Nat} {k : Nat → ClassId} {f : Nat → va_E} {own : Nat → Nat} {ma : Nat} {ra adr : Nat → Nat} {pr rw cl : Int32} {F R C Lo Pl To Bo Re Sm Pc : Nat → Int32} {V : Nat → Int}
set_option maxRecDepth 100000 in
set_option maxHeartbeats 4000000 in
theorem m_M_empty (h : MW L own k f ma ra adr pr rw cl F R C Lo Pl To Bo Re Sm Pc V) (q0 r0 n0 : Int32) : Mv l y_M_empty (Cond.code y_M_empty c_M_empty 5 none :: G) (rmN 2) D cls (tyl k) L f [.ref ma, .int q0, .int r0, .int n0] (fun f' => ∃ V' Sm', MW L own k f' ma ra adr q0 r0 n0 F R C Lo Pl To Bo Re Sm' Pc V' ∧ oe own [200] f f' ∧ (∀ x, x < 144 → V' (10 + x) = 0 ∧ V' (154 + x) = 1 ∧ Sm' x = 0)) := by
  -- METHOD M_empty | loc 0=m 1=q 2=r 3=n | ws m fa rc cc lo pl to bo re tp bt sm pc | fld m.fields=fa m.rowCounts=rc m.columnCounts=cc m.loose=lo m.places=pl m.tops=to m.bottoms=bo m.residues=re m.top=tp m.bottom=bt m.small=sm m.place=pc m.one=n0 m.two=n1 m.three=n2 m.four=n3 m.five=n4 m.six=n5 m.seven=n6 m.eight=n7 m.above=n8 m.under=n9
  refine mk_met (by decide) (Nat.le_of_ble_eq_true rfl) (fun p e s m below meth c ls S hr hlocks hw hl => ?_)
  have hx := S.1
  have hb := S.2.1
  have hown : s.vm.findClass R_M = some m.cls := S.2.2.2.1
  have hG := S.2.2.2.2
  have hl : lv_has ls 5 [(0, .ref ma), (1, .int q0), (2, .int r0), (3, .int n0)] := hl
  have hg := hw
  have hw : kw D cls (tyl k) L s s.heap f ((mc k ra adr ma pr rw cl F R C Lo Pl To Bo Re Sm Pc)) s.heap [] := ⟨f, hw, h.kn⟩
  refine lv_aload_n hx hb d_M_empty_0 rfl (lv_at hl 0 rfl) ?_
  refine lv_iload_n hx hb d_M_empty_1 rfl (lv_at hl 1 rfl) ?_
  refine k_put (ty := .int) hx hb hG lay_M ft_M ft_M_ok fn_M hown hw 0 rfl rfl 20 (by decide) (hG _ fl_M_105) (fun _ h9 => h9) rfl (by decide +kernel) rfl rfl (by simp) d_M_empty_2 (fun H locs hw => ?_)
  refine lv_aload_n hx hb d_M_empty_5 rfl (lv_at hl 0 rfl) ?_
  refine lv_iload_n hx hb d_M_empty_6 rfl (lv_at hl 2 rfl) ?_
  refine k_put (ty := .int) hx hb hG lay_M ft_M ft_M_ok fn_M hown hw 0 rfl rfl 21 (by decide) (hG _ fl_M_108) (fun _ h9 => h9) rfl (by decide +kernel) rfl rfl (by simp) d_M_empty_7 (fun H locs hw => ?_)
  refine lv_aload_n hx hb d_M_empty_10 rfl (lv_at hl 0 rfl) ?_
  refine lv_iload_n hx hb d_M_empty_11 rfl (lv_at hl 3 rfl) ?_
  refine k_put (ty := .int) hx hb hG lay_M ft_M ft_M_ok fn_M hown hw 0 rfl rfl 22 (by decide) (hG _ fl_M_111) (fun _ h9 => h9) rfl (by decide +kernel) rfl rfl (by simp) d_M_empty_12 (fun H locs hw => ?_)
  refine lv_iconst (v := 0) hx hb d_M_empty_15 (by decide) ?_
  refine lv_istore hx hb d_M_empty_16 hl (by decide) rfl (fun ls hl => ?_)
  have hl := lv_sub hl [1, 0] rfl
  obtain ⟨f1, hg, hk1⟩ := hw
  obtain ⟨h1, ho1⟩ := h.back (pr' := q0) (rw' := r0) (cl' := n0) hk1
  exact w_empty S hr hlocks 144 0 f1 V Sm _ _ ls (by omega) h1 ho1 (fun y hy => by omega) hl hg
set_option maxRecDepth 100000 in
set_option maxHeartbeats 4000000 in
theorem m_M_keep (h : MW L own k f ma ra adr pr rw cl F R C Lo Pl To Bo Re Sm Pc V) {t : Nat} (ht : t < 8) (hJ : JB V) : Mv l y_M_keep (Cond.code y_M_keep c_M_keep 5 none :: G) (rmN 1) D cls (tyl k) L f [.ref ma, .int (nI t)] (fun f' => ∃ Pl' To' Bo' Re', MW L own k f' ma ra adr pr rw cl (upd F t pr) (upd R t rw) (upd C t cl) Lo Pl' To' Bo' Re' Sm Pc V ∧ oe own [200] f f' ∧ ((∀ x, x < 12 → Pl' (12 * t + x) = Pc x) ∧ ∀ z, z < 12 * t ∨ 12 * t + 12 ≤ z → Pl' z = Pl z) ∧ ((∀ x, x < 144 → sc To' (16 * (144 * t + x)) (V (10 + x)) ∧ sc Bo' (16 * (144 * t + x)) (V (154 + x)) ∧ Re' (144 * t + x) = Sm x) ∧ (∀ z, z < 16 * (144 * t) ∨ 16 * (144 * t + 144) ≤ z → To' z = To z ∧ Bo' z = Bo z) ∧ ∀ z, z < 144 * t ∨ 144 * t + 144 ≤ z → Re' z = Re z)) := by
  -- METHOD M_keep | loc 0=m 1=t | ws m fa rc cc lo pl to bo re tp bt sm pc | fld m.fields=fa m.rowCounts=rc m.columnCounts=cc m.loose=lo m.places=pl m.tops=to m.bottoms=bo m.residues=re m.top=tp m.bottom=bt m.small=sm m.place=pc m.one=n0 m.two=n1 m.three=n2 m.four=n3 m.five=n4 m.six=n5 m.seven=n6 m.eight=n7 m.above=n8 m.under=n9
  refine mk_met (by decide) (Nat.le_of_ble_eq_true rfl) (fun p e s m below meth c ls S hr hlocks hw hl => ?_)
  have hx := S.1
  have hb := S.2.1
  have hown : s.vm.findClass R_M = some m.cls := S.2.2.2.1
  have hG := S.2.2.2.2
  have hl : lv_has ls 5 [(0, .ref ma), (1, .int (nI t))] := hl
  have hg := hw
  have hw : kw D cls (tyl k) L s s.heap f ((mc k ra adr ma pr rw cl F R C Lo Pl To Bo Re Sm Pc)) s.heap [] := ⟨f, hw, h.kn⟩
  refine lv_aload_n hx hb d_M_keep_0 rfl (lv_at hl 0 rfl) ?_
  refine k_get hx hb hG lay_M hown hw 0 rfl rfl 8 (by decide) (hG _ fl_M_53) (fun _ h9 => h9) rfl d_M_keep_1 ?_
  refine lv_iload_n hx hb d_M_keep_4 rfl (lv_at hl 1 rfl) ?_
  refine lv_aload_n hx hb d_M_keep_5 rfl (lv_at hl 0 rfl) ?_
  refine k_get hx hb hG lay_M hown hw 0 rfl rfl 20 (by decide) (hG _ fl_M_105) (fun _ h9 => h9) rfl d_M_keep_6 ?_
  refine k_iast hx hb hw 1 0 rfl rfl (t) (rfl) (by omega) (by first | decide | omega) d_M_keep_9 (fun H locs hw => ?_)
  refine lv_aload_n hx hb d_M_keep_10 rfl (lv_at hl 0 rfl) ?_
  refine k_get hx hb hG lay_M hown hw 0 rfl rfl 9 (by decide) (hG _ fl_M_57) (fun _ h9 => h9) rfl d_M_keep_11 ?_
  refine lv_iload_n hx hb d_M_keep_14 rfl (lv_at hl 1 rfl) ?_
  refine lv_aload_n hx hb d_M_keep_15 rfl (lv_at hl 0 rfl) ?_
  refine k_get hx hb hG lay_M hown hw 0 rfl rfl 21 (by decide) (hG _ fl_M_108) (fun _ h9 => h9) rfl d_M_keep_16 ?_
  refine k_iast hx hb hw 2 0 rfl rfl (t) (rfl) (by omega) (by first | decide | omega) d_M_keep_19 (fun H locs hw => ?_)
  refine lv_aload_n hx hb d_M_keep_20 rfl (lv_at hl 0 rfl) ?_
  refine k_get hx hb hG lay_M hown hw 0 rfl rfl 10 (by decide) (hG _ fl_M_60) (fun _ h9 => h9) rfl d_M_keep_21 ?_
  refine lv_iload_n hx hb d_M_keep_24 rfl (lv_at hl 1 rfl) ?_
  refine lv_aload_n hx hb d_M_keep_25 rfl (lv_at hl 0 rfl) ?_
  refine k_get hx hb hG lay_M hown hw 0 rfl rfl 22 (by decide) (hG _ fl_M_111) (fun _ h9 => h9) rfl d_M_keep_26 ?_
  refine k_iast hx hb hw 3 0 rfl rfl (t) (rfl) (by omega) (by first | decide | omega) d_M_keep_29 (fun H locs hw => ?_)
  refine lv_iconst (v := 0) hx hb d_M_keep_30 (by decide) ?_
  refine lv_istore_n hx hb d_M_keep_31 rfl hl (by decide) rfl (fun ls hl => ?_)
  have hl := lv_sub hl [1, 2, 0] rfl
  obtain ⟨f1, hg, hk1⟩ := hw
  obtain ⟨h1, ho1⟩ := h.back hk1
  exact w_keepO S hr hlocks ht hJ (f0 := f) 12 0 f1 Pl To Bo Re _ _ ls (by omega) h1 ho1 ⟨fun y hy => by omega, fun _ _ => rfl⟩ ⟨fun y hy => by omega, fun _ _ => ⟨rfl, rfl⟩, fun _ _ => rfl⟩ hl hg
set_option maxRecDepth 100000 in
set_option maxHeartbeats 4000000 in
theorem m_M_bring (h : MW L own k f ma ra adr pr rw cl F R C Lo Pl To Bo Re Sm Pc V) {t i j to : Nat} {a b : Int} (ht : t < 8) (hi : i < 12) (hj : j < 12) (hto : to < 144) (ha : sc To (16 * (144 * t + (12 * i + j))) a) (hb' : sc Bo (16 * (144 * t + (12 * i + j))) b) : Mv l y_M_bring (Cond.code y_M_bring c_M_bring 6 none :: G) (rmN 1) D cls (tyl k) L f [.ref ma, .int (nI t), .int (nI i), .int (nI j), .int (nI to)] (fun f' => MW L own k f' ma ra adr pr rw cl F R C Lo Pl To Bo Re (upd Sm to (Re (144 * t + (12 * i + j)))) Pc (va_up (va_up V (10 + to) a) (154 + to) b) ∧ oe own [200] f f') := by
  -- METHOD M_bring | loc 0=m 1=t 2=i 3=j 4=to | ws m fa rc cc lo pl to bo re tp bt sm pc | fld m.fields=fa m.rowCounts=rc m.columnCounts=cc m.loose=lo m.places=pl m.tops=to m.bottoms=bo m.residues=re m.top=tp m.bottom=bt m.small=sm m.place=pc m.one=n0 m.two=n1 m.three=n2 m.four=n3 m.five=n4 m.six=n5 m.seven=n6 m.eight=n7 m.above=n8 m.under=n9
  refine mk_met (by decide) (Nat.le_of_ble_eq_true rfl) (fun p e s m below meth c ls S hr hlocks hw hl => ?_)
  have hx := S.1
  have hb := S.2.1
  have hown : s.vm.findClass R_M = some m.cls := S.2.2.2.1
  have hG := S.2.2.2.2
  have hl : lv_has ls 6 [(0, .ref ma), (1, .int (nI t)), (2, .int (nI i)), (3, .int (nI j)), (4, .int (nI to))] := hl
  have hg := hw
  have hw : kw D cls (tyl k) L s s.heap f ((mc k ra adr ma pr rw cl F R C Lo Pl To Bo Re Sm Pc)) s.heap [] := ⟨f, hw, h.kn⟩
  obtain ⟨x, hx0⟩ : ∃ x, x = 144 * t + (12 * i + j) := ⟨_, rfl⟩
  rw [← hx0] at ha hb' ⊢
  have hx1 : x < 1152 := by omega
  refine lv_sipush (v := 144) hx hb d_M_bring_0 (by decide) ?_
  refine lv_iload_n hx hb d_M_bring_3 rfl (lv_at hl 1 rfl) ?_
  refine lv_imul hx hb d_M_bring_4 ?_
  refine l_top (pk_mul 144 t) ?_
  refine lv_bipush (v := 12) hx hb d_M_bring_5 (by decide) ?_
  refine lv_iload_n hx hb d_M_bring_7 rfl (lv_at hl 2 rfl) ?_
  refine lv_imul hx hb d_M_bring_8 ?_
  refine l_top (pk_mul 12 i) ?_
  refine lv_iadd hx hb d_M_bring_9 ?_
  refine l_top (nI_add (144 * t) (12 * i)) ?_
  refine lv_iload_n hx hb d_M_bring_10 rfl (lv_at hl 3 rfl) ?_
  refine lv_iadd hx hb d_M_bring_11 ?_
  refine l_top (nI_add (144 * t + 12 * i) j) ?_
  refine l_top (show nI (144 * t + 12 * i + j) = nI x by rw [hx0, Nat.add_assoc]) ?_
  refine lv_istore hx hb d_M_bring_12 hl (by decide) rfl (fun ls hl => ?_)
  refine lv_aload_n hx hb d_M_bring_14 rfl (lv_at hl 1 rfl) ?_
  refine k_get hx hb hG lay_M hown hw 0 rfl rfl 16 (by decide) (hG _ fl_M_79) (fun _ h9 => h9) rfl d_M_bring_15 ?_
  refine lv_iload hx hb d_M_bring_18 (lv_at hl 5 rfl) ?_
  refine k_aald hx hb hw 9 4 rfl rfl (to) (rfl) (by omega) (by first | decide | omega) (rfl) d_M_bring_20 ?_
  refine lv_aload_n hx hb d_M_bring_21 rfl (lv_at hl 1 rfl) ?_
  refine k_get hx hb hG lay_M hown hw 0 rfl rfl 13 (by decide) (hG _ fl_M_70) (fun _ h9 => h9) rfl d_M_bring_22 ?_
  refine lv_bipush (v := 16) hx hb d_M_bring_25 (by decide) ?_
  refine lv_iload hx hb d_M_bring_27 (lv_at hl 0 rfl) ?_
  refine lv_imul hx hb d_M_bring_29 ?_
  refine l_top (pk_mul 16 x) ?_
  have hw := hg
  refine g_ov (c_X (np := 3) S (mm_fetch5 l D h (i := 10 + to) (at0 := 16 * x) (v := a) (by omega) ha (by omega)) hw ml_M_120 st_M_fetch in_M co_M_fetch (by decide +kernel) rfl ⟨rfl, rfl, by decide, by decide⟩ hl.1 rfl (by simp [Value.category]) d_M_bring_30 ⟨Nat.zero_le _, Nat.zero_le _⟩) hw (fun f1 H locs hp hg => ?_)
  obtain ⟨h1, ho1⟩ := hp
  have hw : kw D cls (tyl k) L s s.heap f1 ((mc k ra adr ma pr rw cl F R C Lo Pl To Bo Re Sm Pc)) H locs := ⟨f1, hg, h1.kn⟩
  refine lv_aload_n hx hb d_M_bring_33 rfl (lv_at hl 1 rfl) ?_
  refine k_get hx hb hG lay_M hown hw 0 rfl rfl 17 (by decide) (hG _ fl_M_83) (fun _ h9 => h9) rfl d_M_bring_34 ?_
  refine lv_iload hx hb d_M_bring_37 (lv_at hl 5 rfl) ?_
  refine k_aald hx hb hw 10 4 rfl rfl (to) (rfl) (by omega) (by first | decide | omega) (rfl) d_M_bring_39 ?_
  refine lv_aload_n hx hb d_M_bring_40 rfl (lv_at hl 1 rfl) ?_
  refine k_get hx hb hG lay_M hown hw 0 rfl rfl 14 (by decide) (hG _ fl_M_73) (fun _ h9 => h9) rfl d_M_bring_41 ?_
  refine lv_bipush (v := 16) hx hb d_M_bring_44 (by decide) ?_
  refine lv_iload hx hb d_M_bring_46 (lv_at hl 0 rfl) ?_
  refine lv_imul hx hb d_M_bring_48 ?_
  refine l_top (pk_mul 16 x) ?_
  have hw := hg
  refine g_ov (c_X (np := 3) S (mm_fetch6 l D h1 (i := 154 + to) (at0 := 16 * x) (v := b) (by omega) hb' (by omega)) hw ml_M_120 st_M_fetch in_M co_M_fetch (by decide +kernel) rfl ⟨rfl, rfl, by decide, by decide⟩ hl.1 rfl (by simp [Value.category]) d_M_bring_49 ⟨Nat.zero_le _, Nat.zero_le _⟩) hw (fun f2 H locs hp hg => ?_)
  obtain ⟨h2, ho2⟩ := hp
  have hw : kw D cls (tyl k) L s s.heap f2 ((mc k ra adr ma pr rw cl F R C Lo Pl To Bo Re Sm Pc)) H locs := ⟨f2, hg, h2.kn⟩
  refine lv_aload_n hx hb d_M_bring_52 rfl (lv_at hl 1 rfl) ?_
  refine k_get hx hb hG lay_M hown hw 0 rfl rfl 18 (by decide) (hG _ fl_M_86) (fun _ h9 => h9) rfl d_M_bring_53 ?_
  refine lv_iload hx hb d_M_bring_56 (lv_at hl 5 rfl) ?_
  refine lv_aload_n hx hb d_M_bring_58 rfl (lv_at hl 1 rfl) ?_
  refine k_get hx hb hG lay_M hown hw 0 rfl rfl 15 (by decide) (hG _ fl_M_76) (fun _ h9 => h9) rfl d_M_bring_59 ?_
  refine lv_iload hx hb d_M_bring_62 (lv_at hl 0 rfl) ?_
  refine k_iald hx hb hw 8 0 rfl rfl (x) (rfl) (by omega) (by first | decide | omega) d_M_bring_64 ?_
  refine k_iast hx hb hw 11 0 rfl rfl (to) (rfl) (by omega) (by first | decide | omega) d_M_bring_65 (fun H locs hw => ?_)
  obtain ⟨f3, hg, hk3⟩ := hw
  obtain ⟨h3, ho3⟩ := h2.back hk3
  exact g_retv hx hb hr hlocks hg ⟨h3, ho1.trans (ho2.trans ho3)⟩ d_M_bring_66
end MKE


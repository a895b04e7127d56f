-- ===== a family of Wholes: number i lies at adr (2 i), its limbs at adr (2 i + 1) =====
def fv (L : List Nat) (k : Nat → ClassId) (adr : Nat → Nat) (N : Nat) (f : Nat → va_E) (vals : Nat → Int) : Prop := ∀ i, i < N → adr (2 * i) ∈ L ∧ adr (2 * i + 1) ∈ L ∧ ∃ (n : Nat) (g : Int32) (d : Nat → Nat), f (adr (2 * i)) = cW (adr (2 * i + 1)) n g ∧ f (adr (2 * i + 1)) = cD k d ∧ wr n g d (vals i)
/-- what is not of the family is as it was -/
def fo (adr : Nat → Nat) (N : Nat) (f f' : Nat → va_E) : Prop := ∀ q, (∀ x, x < 2 * N → q ≠ adr x) → f' q = f q
theorem fo.rf {adr : Nat → Nat} {N : Nat} {f : Nat → va_E} : fo adr N f f := fun _ _ => rfl
theorem fo.trans {adr : Nat → Nat} {N : Nat} {f g h : Nat → va_E} (h1 : fo adr N f g) (h2 : fo adr N g h) : fo adr N f h := fun q hq => (h2 q hq).trans (h1 q hq)
theorem nd_map {adr : Nat → Nat} {M : Nat} {l : List Nat} (inj : ∀ x y, x < M → y < M → adr x = adr y → x = y) (hl : ∀ x ∈ l, x < M) (hn : l.Nodup) : (l.map adr).Nodup := by
  induction l with
  | nil => exact List.nodup_nil
  | cons a l ih =>
    rw [List.nodup_cons] at hn
    rw [List.map_cons, List.nodup_cons]
    refine ⟨fun hm => ?_, ih (fun x hx => hl x (List.mem_cons_of_mem _ hx)) hn.2⟩
    obtain ⟨b, hb, e⟩ := List.mem_map.mp hm
    have := inj b a (hl b (List.mem_cons_of_mem _ hb)) (hl a List.mem_cons_self) e
    exact hn.1 (this ▸ hb)
theorem fv_step {L : List Nat} {k : Nat → ClassId} {adr : Nat → Nat} {N : Nat} {f f' : Nat → va_E} {vals vals' : Nat → Int} {ws : va_W} (inj : ∀ x y, x < 2 * N → y < 2 * N → adr x = adr y → x = y) (hf : fv L k adr N f vals) (l : List Nat) (hws : ws.map (fun q => q.1) = l.map adr) (hl : ∀ x ∈ l, x < 2 * N) (hk : kn L f f' ws)
    (hold : ∀ j, j < N → 2 * j ∉ l → 2 * j + 1 ∉ l ∧ vals' j = vals j) (hnew : ∀ j, j < N → 2 * j ∈ l → ∃ (n : Nat) (g : Int32) (d : Nat → Nat), f' (adr (2 * j)) = cW (adr (2 * j + 1)) n g ∧ f' (adr (2 * j + 1)) = cD k d ∧ wr n g d (vals' j)) : fv L k adr N f' vals' ∧ fo adr N f f' := by
  refine ⟨fun j hj => ?_, fun q hq => ?_⟩
  · obtain ⟨h1, h2, h3⟩ := hf j hj
    refine ⟨h1, h2, ?_⟩
    by_cases hm : 2 * j ∈ l
    · exact hnew j hj hm
    · obtain ⟨n, g, d, e1, e2, e3⟩ := h3
      obtain ⟨hm2, ev⟩ := hold j hj hm
      have off : ∀ x, x < 2 * N → x ∉ l → f' (adr x) = f (adr x) := fun x hx hxl => by
        refine kn_off hk ?_
        rw [hws]
        intro hin
        obtain ⟨y, hy, e⟩ := List.mem_map.mp hin
        exact hxl (inj y x (hl y hy) hx e ▸ hy)
      refine ⟨n, g, d, by rw [off _ (by omega) hm]; exact e1, by rw [off _ (by omega) hm2]; exact e2, by rw [ev]; exact e3⟩
  · refine kn_off hk ?_
    rw [hws]
    intro hin
    obtain ⟨y, hy, e⟩ := List.mem_map.mp hin
    exact hq y (hl y hy) e.symm
/-- a number below B30 ^ m has m limbs at most -/
theorem wr_cnt {n m : Nat} {g : Int32} {d : Nat → Nat} {v : Int} (h : wr n g d v) (hv : v.natAbs < B30 ^ m) : n ≤ m := by
  rcases h.2.2 with ⟨h1, -⟩ | ⟨h1, h2, -⟩
  · omega
  · rw [wr_abs h] at hv
    obtain ⟨n', rfl⟩ : ∃ n', n = n' + 1 := ⟨n - 1, by omega⟩
    have h5 := cd_ge (b := B30) (n := n') (d := d) h2
    have h6 : B30 ^ n' < B30 ^ m := by omega
    have := (Nat.pow_lt_pow_iff_right (show 1 < B30 by decide)).mp h6
    omega
theorem Met_mono {l : Launch} {y : MethodName} {ws : List Cond} {rm : Room} {D : va_G} {cl : List vw_C} {tys : List (ClassId × FieldType)} {L : List Nat} {f : Nat → va_E} {as : List Value} {post post' : (Nat → va_E) → Prop} (h : Mv l y ws rm D cl tys L f as post) (hp : ∀ f', post f' → post' f') : Mv l y ws rm D cl tys L f as post' := by
  refine MetFree.mono h (fun _ _ hq => hq) (fun _ _ _ _ _ hq => hq) (fun a st o t _ hq => ?_)
  obtain ⟨⟨⟨u, h1, h2, h3⟩, h4⟩, h5⟩ := hq
  exact ⟨⟨⟨u, h1, hp u h2, h3⟩, h4⟩, h5⟩
set_option maxRecDepth 100000 in
set_option maxHeartbeats 4000000 in
theorem n_setZero (l : Launch) (D : va_G) (k : Nat → ClassId) (L : List Nat) (f : Nat → va_E) (adr : Nat → Nat) (N : Nat) (vals : Nat → Int) (inj : ∀ x y, x < 2 * N → y < 2 * N → adr x = adr y → x = y) (hf : fv L k adr N f vals) (i : Nat) (hi : i < N)   : Mv l y_W_setZero (Cond.code y_W_setZero c_W_setZero 1 none :: G) (rmN 0) D cls (tyl k) L f [.ref (adr (2 * i))] (fun f' => fv L k adr N f' (va_up vals i (0)) ∧ fo adr N f f') := by
  obtain ⟨m0, ml0, n0, g0, d0, e0, el0, w0⟩ := hf i hi
  have hk : kn L f f [(adr (2 * i), cW (adr (2 * i + 1)) n0 g0), (adr (2 * i + 1), cD k d0)] := by
    refine kn_of (fun q hq => ?_) (nd_map (l := [2 * i, 2 * i + 1]) inj (fun x hx => ?_) ?_)
    · simp only [List.mem_cons, List.not_mem_nil, or_false] at hq
      rcases hq with rfl | rfl
      · exact ⟨m0, e0⟩
      · exact ⟨ml0, el0⟩
    · simp only [List.mem_cons, List.not_mem_nil, or_false] at hx
      omega
    · simp only [List.nodup_cons, List.mem_cons, List.not_mem_nil, or_false, not_or, List.nodup_nil, not_false_eq_true, and_true]
      omega
  refine Met_mono (m_W_setZero l D k L f _ _ n0 g0 (kn_sub hk [0] rfl rfl)) (fun f' hp => ?_)
  have hk2 : kn L f f' [(adr (2 * i), cW (adr (2 * i + 1)) 0 0), (adr (2 * i + 1), cD k d0)] := by
    have nd := kn_nd hk
    simp only [List.map_cons, List.map_nil, List.nodup_cons, List.mem_cons, List.not_mem_nil, or_false, not_or] at nd
    obtain ⟨n01, -⟩ := nd
    refine kn_join hk hp (by simp) rfl (fun q hq => ?_)
    simp only [List.mem_cons, List.not_mem_nil, or_false] at hq
    rcases hq with rfl | rfl
    · exact (hp.1 0 _ rfl).2
    · rw [kn_off hp (by simp; exact Ne.symm n01)]; exact (hk.1 1 _ rfl).2
  refine fv_step inj hf [2 * i, 2 * i + 1] rfl (fun x hx => by simp only [List.mem_cons, List.not_mem_nil, or_false] at hx; omega) hk2 (fun j hj hjl => ?_) (fun j hj hjl => ?_)
  · simp only [List.mem_cons, List.not_mem_nil, or_false, not_or] at hjl ⊢
    refine ⟨by omega, ?_⟩
    rw [va_up_ne _ _ (show j ≠ i by omega)]
  · simp only [List.mem_cons, List.not_mem_nil, or_false] at hjl
    rcases (show j = i by omega) with e
    · rw [e]; exact ⟨0, 0, d0, (hk2.1 0 _ rfl).2, (hk2.1 1 _ rfl).2, by rw [va_up_self]; exact ⟨by omega, w0.2.1, Or.inl ⟨rfl, rfl, rfl⟩⟩⟩
theorem wr_neg {n : Nat} {g : Int32} {d : Nat → Nat} {v : Int} (h : wr n g d v) : wr n (-g) d (-v) := by
  refine ⟨h.1, h.2.1, ?_⟩
  rcases h.2.2 with ⟨h1, h2, h3⟩ | ⟨h1, h2, ⟨h3, h4⟩ | ⟨h3, h4⟩⟩
  · exact Or.inl ⟨h1, by rw [h2]; decide, by omega⟩
  · exact Or.inr ⟨h1, h2, Or.inr ⟨by rw [h3], by omega⟩⟩
  · exact Or.inr ⟨h1, h2, Or.inl ⟨by rw [h3]; decide, by omega⟩⟩
set_option maxRecDepth 100000 in
set_option maxHeartbeats 4000000 in
theorem n_negate (l : Launch) (D : va_G) (k : Nat → ClassId) (L : List Nat) (f : Nat → va_E) (adr : Nat → Nat) (N : Nat) (vals : Nat → Int) (inj : ∀ x y, x < 2 * N → y < 2 * N → adr x = adr y → x = y) (hf : fv L k adr N f vals) (i : Nat) (hi : i < N)   : Mv l y_W_negate (Cond.code y_W_negate c_W_negate 1 none :: G) (rmN 0) D cls (tyl k) L f [.ref (adr (2 * i))] (fun f' => fv L k adr N f' (va_up vals i (-vals i)) ∧ fo adr N f f') := by
  obtain ⟨m0, ml0, n0, g0, d0, e0, el0, w0⟩ := hf i hi
  have hk : kn L f f [(adr (2 * i), cW (adr (2 * i + 1)) n0 g0), (adr (2 * i + 1), cD k d0)] := by
    refine kn_of (fun q hq => ?_) (nd_map (l := [2 * i, 2 * i + 1]) inj (fun x hx => ?_) ?_)
    · simp only [List.mem_cons, List.not_mem_nil, or_false] at hq
      rcases hq with rfl | rfl
      · exact ⟨m0, e0⟩
      · exact ⟨ml0, el0⟩
    · simp only [List.mem_cons, List.not_mem_nil, or_false] at hx
      omega
    · simp only [List.nodup_cons, List.mem_cons, List.not_mem_nil, or_false, not_or, List.nodup_nil, not_false_eq_true, and_true]
      omega
  refine Met_mono (m_W_negate l D k L f _ _ n0 g0 (kn_sub hk [0] rfl rfl)) (fun f' hp => ?_)
  have hk2 : kn L f f' [(adr (2 * i), cW (adr (2 * i + 1)) n0 (-g0)), (adr (2 * i + 1), cD k d0)] := by
    have nd := kn_nd hk
    simp only [List.map_cons, List.map_nil, List.nodup_cons, List.mem_cons, List.not_mem_nil, or_false, not_or] at nd
    obtain ⟨n01, -⟩ := nd
    refine kn_join hk hp (by simp) rfl (fun q hq => ?_)
    simp only [List.mem_cons, List.not_mem_nil, or_false] at hq
    rcases hq with rfl | rfl
    · exact (hp.1 0 _ rfl).2
    · rw [kn_off hp (by simp; exact Ne.symm n01)]; exact (hk.1 1 _ rfl).2
  refine fv_step inj hf [2 * i, 2 * i + 1] rfl (fun x hx => by simp only [List.mem_cons, List.not_mem_nil, or_false] at hx; omega) hk2 (fun j hj hjl => ?_) (fun j hj hjl => ?_)
  · simp only [List.mem_cons, List.not_mem_nil, or_false, not_or] at hjl ⊢
    refine ⟨by omega, ?_⟩
    rw [va_up_ne _ _ (show j ≠ i by omega)]
  · simp only [List.mem_cons, List.not_mem_nil, or_false] at hjl
    rcases (show j = i by omega) with e
    · rw [e]; exact ⟨n0, (-g0), d0, (hk2.1 0 _ rfl).2, (hk2.1 1 _ rfl).2, by rw [va_up_self]; exact wr_neg w0⟩
set_option maxRecDepth 100000 in
set_option maxHeartbeats 4000000 in
theorem n_setSize (l : Launch) (D : va_G) (k : Nat → ClassId) (L : List Nat) (f : Nat → va_E) (adr : Nat → Nat) (N : Nat) (vals : Nat → Int) (inj : ∀ x y, x < 2 * N → y < 2 * N → adr x = adr y → x = y) (hf : fv L k adr N f vals) (i : Nat) (hi : i < N) (a : Nat) (ha : a < N) (neia : i ≠ a)  : Mv l y_W_setSize (Cond.code y_W_setSize c_W_setSize 2 none :: G) (rmN 1) D cls (tyl k) L f [.ref (adr (2 * i)), .ref (adr (2 * a))] (fun f' => fv L k adr N f' (va_up vals i (((vals a).natAbs : Int))) ∧ fo adr N f f') := by
  obtain ⟨m0, ml0, n0, g0, d0, e0, el0, w0⟩ := hf i hi
  obtain ⟨m1, ml1, n1, g1, d1, e1, el1, w1⟩ := hf a ha
  have hk : kn L f f [(adr (2 * i), cW (adr (2 * i + 1)) n0 g0), (adr (2 * i + 1), cD k d0), (adr (2 * a), cW (adr (2 * a + 1)) n1 g1), (adr (2 * a + 1), cD k d1)] := by
    refine kn_of (fun q hq => ?_) (nd_map (l := [2 * i, 2 * i + 1, 2 * a, 2 * a + 1]) inj (fun x hx => ?_) ?_)
    · simp only [List.mem_cons, List.not_mem_nil, or_false] at hq
      rcases hq with rfl | rfl | rfl | rfl
      · exact ⟨m0, e0⟩
      · exact ⟨ml0, el0⟩
      · exact ⟨m1, e1⟩
      · exact ⟨ml1, el1⟩
    · simp only [List.mem_cons, List.not_mem_nil, or_false] at hx
      omega
    · simp only [List.nodup_cons, List.mem_cons, List.not_mem_nil, or_false, not_or, List.nodup_nil, not_false_eq_true, and_true]
      omega
  refine Met_mono (m_W_setSize l D k L f _ _ n0 _ _ n1 g0 g1 d0 d1 _ w0.2.1 hk w1) (fun f' hp => ?_)
  obtain ⟨g', d', w', hk2⟩ := hp
  refine fv_step inj hf [2 * i, 2 * i + 1, 2 * a, 2 * a + 1] rfl (fun x hx => by simp only [List.mem_cons, List.not_mem_nil, or_false] at hx; omega) hk2 (fun j hj hjl => ?_) (fun j hj hjl => ?_)
  · simp only [List.mem_cons, List.not_mem_nil, or_false, not_or] at hjl ⊢
    refine ⟨by omega, ?_⟩
    rw [va_up_ne _ _ (show j ≠ i by omega)]
  · simp only [List.mem_cons, List.not_mem_nil, or_false] at hjl
    rcases (show j = i ∨ j = a by omega) with e | e
    · rw [e]; exact ⟨n1, g', d', (hk2.1 0 _ rfl).2, (hk2.1 1 _ rfl).2, by rw [va_up_self]; exact w'⟩
    · rw [e]; exact ⟨n1, g1, d1, (hk2.1 2 _ rfl).2, (hk2.1 3 _ rfl).2, by rw [va_up_ne _ _ (show a ≠ i by omega)]; exact w1⟩
set_option maxRecDepth 100000 in
set_option maxHeartbeats 4000000 in
theorem n_setProduct (l : Launch) (D : va_G) (k : Nat → ClassId) (L : List Nat) (f : Nat → va_E) (adr : Nat → Nat) (N : Nat) (vals : Nat → Int) (inj : ∀ x y, x < 2 * N → y < 2 * N → adr x = adr y → x = y) (hf : fv L k adr N f vals) (i : Nat) (hi : i < N) (a : Nat) (ha : a < N) (b : Nat) (hb : b < N) (neia : i ≠ a) (neib : i ≠ b) (neab : a ≠ b) (ha5 : (vals a).natAbs < B30 ^ 6) (hb5 : (vals b).natAbs < B30 ^ 6) : Mv l y_W_setProduct (Cond.code y_W_setProduct c_W_setProduct 9 none :: G) (rmN 2) D cls (tyl k) L f [.ref (adr (2 * i)), .ref (adr (2 * a)), .ref (adr (2 * b))] (fun f' => fv L k adr N f' (va_up vals i (vals a * vals b)) ∧ fo adr N f f') := by
  obtain ⟨m0, ml0, n0, g0, d0, e0, el0, w0⟩ := hf i hi
  obtain ⟨m1, ml1, n1, g1, d1, e1, el1, w1⟩ := hf a ha
  obtain ⟨m2, ml2, n2, g2, d2, e2, el2, w2⟩ := hf b hb
  have hk : kn L f f [(adr (2 * i), cW (adr (2 * i + 1)) n0 g0), (adr (2 * i + 1), cD k d0), (adr (2 * a), cW (adr (2 * a + 1)) n1 g1), (adr (2 * a + 1), cD k d1), (adr (2 * b), cW (adr (2 * b + 1)) n2 g2), (adr (2 * b + 1), cD k d2)] := by
    refine kn_of (fun q hq => ?_) (nd_map (l := [2 * i, 2 * i + 1, 2 * a, 2 * a + 1, 2 * b, 2 * b + 1]) inj (fun x hx => ?_) ?_)
    · simp only [List.mem_cons, List.not_mem_nil, or_false] at hq
      rcases hq with rfl | rfl | rfl | rfl | rfl | rfl
      · exact ⟨m0, e0⟩
      · exact ⟨ml0, el0⟩
      · exact ⟨m1, e1⟩
      · exact ⟨ml1, el1⟩
      · exact ⟨m2, e2⟩
      · exact ⟨ml2, el2⟩
    · simp only [List.mem_cons, List.not_mem_nil, or_false] at hx
      omega
    · simp only [List.nodup_cons, List.mem_cons, List.not_mem_nil, or_false, not_or, List.nodup_nil, not_false_eq_true, and_true]
      omega
  refine Met_mono (m_W_setProduct l D k L f _ _ n0 _ _ n1 _ _ n2 g0 g1 g2 d0 d1 d2 _ _ w1 w2 w0.2.1 (by have q1 := wr_cnt w1 ha5; have q2 := wr_cnt w2 hb5; omega) hk) (fun f' hp => ?_)
  obtain ⟨n', g', d', w', hk2⟩ := hp
  refine fv_step inj hf [2 * i, 2 * i + 1, 2 * a, 2 * a + 1, 2 * b, 2 * b + 1] rfl (fun x hx => by simp only [List.mem_cons, List.not_mem_nil, or_false] at hx; omega) hk2 (fun j hj hjl => ?_) (fun j hj hjl => ?_)
  · simp only [List.mem_cons, List.not_mem_nil, or_false, not_or] at hjl ⊢
    refine ⟨by omega, ?_⟩
    rw [va_up_ne _ _ (show j ≠ i by omega)]
  · simp only [List.mem_cons, List.not_mem_nil, or_false] at hjl
    rcases (show j = i ∨ j = a ∨ j = b by omega) with e | e | e
    · rw [e]; exact ⟨n', g', d', (hk2.1 0 _ rfl).2, (hk2.1 1 _ rfl).2, by rw [va_up_self]; exact w'⟩
    · rw [e]; exact ⟨n1, g1, d1, (hk2.1 2 _ rfl).2, (hk2.1 3 _ rfl).2, by rw [va_up_ne _ _ (show a ≠ i by omega)]; exact w1⟩
    · rw [e]; exact ⟨n2, g2, d2, (hk2.1 4 _ rfl).2, (hk2.1 5 _ rfl).2, by rw [va_up_ne _ _ (show b ≠ i by omega)]; exact w2⟩
set_option maxRecDepth 100000 in
set_option maxHeartbeats 4000000 in
theorem n_subtract (l : Launch) (D : va_G) (k : Nat → ClassId) (L : List Nat) (f : Nat → va_E) (adr : Nat → Nat) (N : Nat) (vals : Nat → Int) (inj : ∀ x y, x < 2 * N → y < 2 * N → adr x = adr y → x = y) (hf : fv L k adr N f vals) (i : Nat) (hi : i < N) (a : Nat) (ha : a < N) (neia : i ≠ a) (hi5 : (vals i).natAbs < B30 ^ 11) (ha5 : (vals a).natAbs < B30 ^ 11) : Mv l y_W_subtract (Cond.code y_W_subtract c_W_subtract 2 none :: G) (rmN 2) D cls (tyl k) L f [.ref (adr (2 * i)), .ref (adr (2 * a))] (fun f' => fv L k adr N f' (va_up vals i (vals i - vals a)) ∧ fo adr N f f') := by
  obtain ⟨m0, ml0, n0, g0, d0, e0, el0, w0⟩ := hf i hi
  obtain ⟨m1, ml1, n1, g1, d1, e1, el1, w1⟩ := hf a ha
  have hk : kn L f f [(adr (2 * i), cW (adr (2 * i + 1)) n0 g0), (adr (2 * i + 1), cD k d0), (adr (2 * a), cW (adr (2 * a + 1)) n1 g1), (adr (2 * a + 1), cD k d1)] := by
    refine kn_of (fun q hq => ?_) (nd_map (l := [2 * i, 2 * i + 1, 2 * a, 2 * a + 1]) inj (fun x hx => ?_) ?_)
    · simp only [List.mem_cons, List.not_mem_nil, or_false] at hq
      rcases hq with rfl | rfl | rfl | rfl
      · exact ⟨m0, e0⟩
      · exact ⟨ml0, el0⟩
      · exact ⟨m1, e1⟩
      · exact ⟨ml1, el1⟩
    · simp only [List.mem_cons, List.not_mem_nil, or_false] at hx
      omega
    · simp only [List.nodup_cons, List.mem_cons, List.not_mem_nil, or_false, not_or, List.nodup_nil, not_false_eq_true, and_true]
      omega
  refine Met_mono (m_W_subtract l D k L f _ _ n0 _ _ n1 g0 g1 d0 d1 _ _ w0 w1 (wr_cnt w0 hi5) (wr_cnt w1 ha5) hk) (fun f' hp => ?_)
  obtain ⟨n', g', d', w', hk2⟩ := hp
  refine fv_step inj hf [2 * i, 2 * i + 1, 2 * a, 2 * a + 1] rfl (fun x hx => by simp only [List.mem_cons, List.not_mem_nil, or_false] at hx; omega) hk2 (fun j hj hjl => ?_) (fun j hj hjl => ?_)
  · simp only [List.mem_cons, List.not_mem_nil, or_false, not_or] at hjl ⊢
    refine ⟨by omega, ?_⟩
    rw [va_up_ne _ _ (show j ≠ i by omega)]
  · simp only [List.mem_cons, List.not_mem_nil, or_false] at hjl
    rcases (show j = i ∨ j = a by omega) with e | e
    · rw [e]; exact ⟨n', g', d', (hk2.1 0 _ rfl).2, (hk2.1 1 _ rfl).2, by rw [va_up_self]; exact w'⟩
    · rw [e]; exact ⟨n1, g1, d1, (hk2.1 2 _ rfl).2, (hk2.1 3 _ rfl).2, by rw [va_up_ne _ _ (show a ≠ i by omega)]; exact w1⟩
set_option maxRecDepth 100000 in
set_option maxHeartbeats 4000000 in
theorem n_divide (l : Launch) (D : va_G) (k : Nat → ClassId) (L : List Nat) (f : Nat → va_E) (adr : Nat → Nat) (N : Nat) (vals : Nat → Int) (inj : ∀ x y, x < 2 * N → y < 2 * N → adr x = adr y → x = y) (hf : fv L k adr N f vals) (i : Nat) (hi : i < N) (a : Nat) (ha : a < N) (b : Nat) (hb : b < N) (neia : i ≠ a) (neib : i ≠ b) (neab : a ≠ b) (ha0 : vals a ≠ 0) (hi5 : (vals i).natAbs < B30 ^ 11) : Mv l y_W_divide (Cond.code y_W_divide c_W_divide 10 none :: G) (rmN 2) D cls (tyl k) L f [.ref (adr (2 * i)), .ref (adr (2 * a)), .ref (adr (2 * b))] (fun f' => fv L k adr N f' (va_up (va_up vals i ((vals i).tmod (vals a))) b ((vals i).tdiv (vals a))) ∧ fo adr N f f') := by
  obtain ⟨m0, ml0, n0, g0, d0, e0, el0, w0⟩ := hf i hi
  obtain ⟨m1, ml1, n1, g1, d1, e1, el1, w1⟩ := hf a ha
  obtain ⟨m2, ml2, n2, g2, d2, e2, el2, w2⟩ := hf b hb
  have hk : kn L f f [(adr (2 * i), cW (adr (2 * i + 1)) n0 g0), (adr (2 * i + 1), cD k d0), (adr (2 * a), cW (adr (2 * a + 1)) n1 g1), (adr (2 * a + 1), cD k d1), (adr (2 * b), cW (adr (2 * b + 1)) n2 g2), (adr (2 * b + 1), cD k d2)] := by
    refine kn_of (fun q hq => ?_) (nd_map (l := [2 * i, 2 * i + 1, 2 * a, 2 * a + 1, 2 * b, 2 * b + 1]) inj (fun x hx => ?_) ?_)
    · simp only [List.mem_cons, List.not_mem_nil, or_false] at hq
      rcases hq with rfl | rfl | rfl | rfl | rfl | rfl
      · exact ⟨m0, e0⟩
      · exact ⟨ml0, el0⟩
      · exact ⟨m1, e1⟩
      · exact ⟨ml1, el1⟩
      · exact ⟨m2, e2⟩
      · exact ⟨ml2, el2⟩
    · simp only [List.mem_cons, List.not_mem_nil, or_false] at hx
      omega
    · simp only [List.nodup_cons, List.mem_cons, List.not_mem_nil, or_false, not_or, List.nodup_nil, not_false_eq_true, and_true]
      omega
  refine Met_mono (m_W_divide l D k L f _ _ n0 _ _ n1 _ _ n2 g0 g1 g2 d0 d1 d2 _ _ w0 w1 ha0 (wr_cnt w0 hi5) w2.2.1 hk) (fun f' hp => ?_)
  obtain ⟨n', g', d', n'', g'', d'', w', w'', hk2⟩ := hp
  refine fv_step inj hf [2 * i, 2 * i + 1, 2 * a, 2 * a + 1, 2 * b, 2 * b + 1] rfl (fun x hx => by simp only [List.mem_cons, List.not_mem_nil, or_false] at hx; omega) hk2 (fun j hj hjl => ?_) (fun j hj hjl => ?_)
  · simp only [List.mem_cons, List.not_mem_nil, or_false, not_or] at hjl ⊢
    refine ⟨by omega, ?_⟩
    rw [va_up_ne _ _ (show j ≠ b by omega), va_up_ne _ _ (show j ≠ i by omega)]
  · simp only [List.mem_cons, List.not_mem_nil, or_false] at hjl
    rcases (show j = i ∨ j = a ∨ j = b by omega) with e | e | e
    · rw [e]; exact ⟨n', g', d', (hk2.1 0 _ rfl).2, (hk2.1 1 _ rfl).2, by rw [va_up_ne _ _ (show i ≠ b by omega), va_up_self]; exact w'⟩
    · rw [e]; exact ⟨n1, g1, d1, (hk2.1 2 _ rfl).2, (hk2.1 3 _ rfl).2, by rw [va_up_ne _ _ (show a ≠ b by omega), va_up_ne _ _ (show a ≠ i by omega)]; exact w1⟩
    · rw [e]; exact ⟨n'', g'', d'', (hk2.1 4 _ rfl).2, (hk2.1 5 _ rfl).2, by rw [va_up_self]; exact w''⟩


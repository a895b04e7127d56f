-- ===== Num: quotient =====
theorem cd_shift {b n c : Nat} {d e : Nat → Nat} (h0 : e 0 = c) (h : ∀ t, t < n → e (t + 1) = d t) : cd b (n + 1) e = c + b * cd b n d := by
  rw [show n + 1 = 1 + n by omega, cd_split 1 n e]
  have e1 : cd b 1 e = c := by show 0 + e 0 * b ^ 0 = c; rw [h0, Nat.pow_zero]; omega
  rw [e1, Nat.pow_one, cd_congr (b := b) n (d := fun t => e (1 + t)) (e := d) (fun t ht => by show e (1 + t) = d t; rw [Nat.add_comm]; exact h t ht)]
/-- the quotient's and the rest's next step -/
theorem q_step {D : Nat} {A B i c : Nat} (hB : 0 < B) (hc : A / D ^ i = A / D ^ (i + 1) * D + c) : A / D ^ i / B = (A / D ^ (i + 1) / B) * D + (A / D ^ (i + 1) % B * D + c) / B ∧ A / D ^ i % B = (A / D ^ (i + 1) % B * D + c) % B := by
  generalize A / D ^ (i + 1) = Y at hc ⊢
  rw [hc]
  have h := Nat.div_add_mod Y B
  generalize Y / B = q at h ⊢
  generalize Y % B = r at h ⊢
  subst h
  have e : (B * q + r) * D + c = (r * D + c) + B * (q * D) := by
    rw [Nat.add_mul, Nat.mul_assoc]; omega
  rw [e]
  constructor
  · rw [Nat.add_mul_div_left _ _ hB]; omega
  · rw [Nat.add_mul_mod_self_left]
theorem cd_dig {n : Nat} {d : Nat → Nat} (hd : ∀ i, i < n → d i < D16) {i : Nat} (hi : i < n) : cd D16 n d / D16 ^ i = cd D16 n d / D16 ^ (i + 1) * D16 + d i := by
  have e1 : cd D16 n d = cd D16 i d + D16 ^ i * cd D16 (n - i) (fun t => d (i + t)) := by
    have := cd_split (b := D16) i (n - i) d
    rwa [show i + (n - i) = n by omega] at this
  have e2 : cd D16 (n - i) (fun t => d (i + t)) = d i + D16 * cd D16 (n - i - 1) (fun t => d (i + (1 + t))) := by
    have := cd_split (b := D16) 1 (n - i - 1) (fun t => d (i + t))
    rw [show 1 + (n - i - 1) = n - i by omega] at this
    rw [this]
    have e3 : cd D16 1 (fun t => d (i + t)) = d i := by show 0 + d (i + 0) * D16 ^ 0 = d i; rw [Nat.pow_zero, Nat.add_zero]; omega
    rw [e3, Nat.pow_one]
  have hlow : cd D16 i d < D16 ^ i := cd_lt i (fun t ht => hd t (by omega))
  have hP : 0 < D16 ^ i := Nat.pow_pos (by decide)
  have q1 : cd D16 n d / D16 ^ i = d i + D16 * cd D16 (n - i - 1) (fun t => d (i + (1 + t))) := by
    rw [e1, Nat.add_mul_div_left _ _ hP, Nat.div_eq_of_lt hlow, Nat.zero_add, e2]
  have q2 : cd D16 n d / D16 ^ (i + 1) = cd D16 (n - i - 1) (fun t => d (i + (1 + t))) := by
    rw [Nat.pow_succ, ← Nat.div_div_eq_div_mul, q1, Nat.add_mul_div_left _ _ (by decide), Nat.div_eq_of_lt (hd i hi), Nat.zero_add]
  rw [q1, q2, Nat.mul_comm]; omega
theorem kn_over {L : List Nat} {f f1 f2 : Nat → va_E} {ws ws' wc : va_W} (h : kn L f f1 ws) (h2 : kn L f1 f2 wc) (hm : ws'.map (fun q => q.1) = ws.map (fun q => q.1)) (hin : ∀ q ∈ wc, q ∈ ws') (hold : ∀ q ∈ ws', q ∈ wc ∨ (q ∈ ws ∧ ∀ z ∈ wc, z.1 ≠ q.1)) : kn L f f2 ws' := by
  have hnd : (ws'.map (fun q => q.1)).Nodup := by rw [hm]; exact kn_nd h
  have hval : ∀ q ∈ ws', q.1 ∈ L ∧ f2 q.1 = q.2 := fun q hq => by
    rcases hold q hq with h3 | ⟨h3, h4⟩
    · obtain ⟨i, hi⟩ := List.getElem?_of_mem h3
      exact h2.1 i q hi
    · obtain ⟨i, hi⟩ := List.getElem?_of_mem h3
      refine ⟨(h.1 i q hi).1, ?_⟩
      rw [h2.2.2 q.1 (fun j e1 hj => h4 _ (List.mem_of_getElem? hj) rfl)]
      exact (h.1 i q hi).2
  refine ⟨fun k q hk => hval q (List.mem_of_getElem? hk), fun i j x y hi hj e => ?_, fun q hq => ?_⟩
  · have hi' : (ws'.map (fun q => q.1))[i]? = some x.1 := by rw [List.getElem?_map, hi]; rfl
    have hj' : (ws'.map (fun q => q.1))[j]? = some x.1 := by rw [List.getElem?_map, hj, e]; rfl
    exact (List.getElem?_inj (List.getElem?_eq_some_iff.mp hi').1 hnd).mp (hi'.trans hj'.symm)
  · have hnot : q ∉ ws'.map (fun q => q.1) := fun hq2 => by
      obtain ⟨y, hy, e⟩ := List.mem_map.mp hq2
      obtain ⟨i, hi⟩ := List.getElem?_of_mem hy
      exact hq i y.2 (by rw [hi, ← e])
    rw [h2.2.2 q (fun j e1 hj => hnot (List.mem_map.mpr ⟨(q, e1), hin _ (List.mem_of_getElem? hj), rfl⟩))]
    exact h.2.2 q (fun j e1 hj => hnot (by rw [hm]; exact List.mem_map.mpr ⟨(q, e1), List.mem_of_getElem? hj, rfl⟩))
theorem nr_sg {n : Nat} {mi : Bool} {d : Nat → Nat} {v : Int} (h : nr n mi d v) : v.sign = if v = 0 then 0 else if mi then -1 else 1 := by
  by_cases h0 : v = 0
  · rw [if_pos h0, h0]; rfl
  · rw [if_neg h0]
    cases mi with
    | true => rw [if_pos rfl]; exact Int.sign_eq_neg_one_of_neg ((nr_mi h).mp rfl)
    | false =>
      rw [if_neg (by decide)]
      refine Int.sign_eq_one_of_pos ?_
      have : ¬ v < 0 := fun q => by have := (nr_mi h).mpr q; cases this
      omega
theorem kn_upd67 {L : List Nat} {f f1 f2 : Nat → va_E} {c0 c1 c2 c3 c4 c5 c6 c7 : Nat × va_E} {e6 e7 : va_E} (h : kn L f f1 [c0, c1, c2, c3, c4, c5, c6, c7]) (h2 : kn L f1 f2 [(c6.1, e6), (c7.1, e7)]) : kn L f f2 [c0, c1, c2, c3, c4, c5, (c6.1, e6), (c7.1, e7)] := by
  have nd := kn_nd h
  simp only [List.map_cons, List.map_nil, List.nodup_cons, List.mem_cons, List.not_mem_nil, or_false, not_or] at nd
  obtain ⟨⟨n01, n02, n03, n04, n05, n06, n07⟩, ⟨n12, n13, n14, n15, n16, n17⟩, ⟨n23, n24, n25, n26, n27⟩, ⟨n34, n35, n36, n37⟩, ⟨n45, n46, n47⟩, ⟨n56, n57⟩, n67, -⟩ := nd
  refine kn_over h h2 rfl (fun q hq => ?_) (fun q hq => ?_)
  · simp only [List.mem_cons, List.not_mem_nil, or_false] at hq
    rcases hq with rfl | rfl <;> simp
  simp only [List.mem_cons, List.not_mem_nil, or_false] at hq
  rcases hq with rfl | rfl | rfl | rfl | rfl | rfl | rfl | rfl
  · refine Or.inr ⟨by simp, fun z hz => ?_⟩
    simp only [List.mem_cons, List.not_mem_nil, or_false] at hz
    rcases hz with rfl | rfl
    · exact fun q => n06 q.symm
    · exact fun q => n07 q.symm
  · refine Or.inr ⟨by simp, fun z hz => ?_⟩
    simp only [List.mem_cons, List.not_mem_nil, or_false] at hz
    rcases hz with rfl | rfl
    · exact fun q => n16 q.symm
    · exact fun q => n17 q.symm
  · refine Or.inr ⟨by simp, fun z hz => ?_⟩
    simp only [List.mem_cons, List.not_mem_nil, or_false] at hz
    rcases hz with rfl | rfl
    · exact fun q => n26 q.symm
    · exact fun q => n27 q.symm
  · refine Or.inr ⟨by simp, fun z hz => ?_⟩
    simp only [List.mem_cons, List.not_mem_nil, or_false] at hz
    rcases hz with rfl | rfl
    · exact fun q => n36 q.symm
    · exact fun q => n37 q.symm
  · refine Or.inr ⟨by simp, fun z hz => ?_⟩
    simp only [List.mem_cons, List.not_mem_nil, or_false] at hz
    rcases hz with rfl | rfl
    · exact fun q => n46 q.symm
    · exact fun q => n47 q.symm
  · refine Or.inr ⟨by simp, fun z hz => ?_⟩
    simp only [List.mem_cons, List.not_mem_nil, or_false] at hz
    rcases hz with rfl | rfl
    · exact fun q => n56 q.symm
    · exact fun q => n57 q.symm
  · exact Or.inl (by simp)
  · exact Or.inl (by simp)
theorem kn_upd01 {L : List Nat} {f f1 f2 : Nat → va_E} {c0 c1 c2 c3 c4 c5 c6 c7 : Nat × va_E} {e0 e1 : va_E} (h : kn L f f1 [c0, c1, c2, c3, c4, c5, c6, c7]) (h2 : kn L f1 f2 [(c0.1, e0), (c1.1, e1)]) : kn L f f2 [(c0.1, e0), (c1.1, e1), c2, c3, c4, c5, c6, c7] := by
  have nd := kn_nd h
  simp only [List.map_cons, List.map_nil, List.nodup_cons, List.mem_cons, List.not_mem_nil, or_false, not_or] at nd
  obtain ⟨⟨n01, n02, n03, n04, n05, n06, n07⟩, ⟨n12, n13, n14, n15, n16, n17⟩, ⟨n23, n24, n25, n26, n27⟩, ⟨n34, n35, n36, n37⟩, ⟨n45, n46, n47⟩, ⟨n56, n57⟩, n67, -⟩ := nd
  refine kn_over h h2 rfl (fun q hq => ?_) (fun q hq => ?_)
  · simp only [List.mem_cons, List.not_mem_nil, or_false] at hq
    rcases hq with rfl | rfl <;> simp
  simp only [List.mem_cons, List.not_mem_nil, or_false] at hq
  rcases hq with rfl | rfl | rfl | rfl | rfl | rfl | rfl | rfl
  · exact Or.inl (by simp)
  · exact Or.inl (by simp)
  · refine Or.inr ⟨by simp, fun z hz => ?_⟩
    simp only [List.mem_cons, List.not_mem_nil, or_false] at hz
    rcases hz with rfl | rfl
    · exact n02
    · exact n12
  · refine Or.inr ⟨by simp, fun z hz => ?_⟩
    simp only [List.mem_cons, List.not_mem_nil, or_false] at hz
    rcases hz with rfl | rfl
    · exact n03
    · exact n13
  · refine Or.inr ⟨by simp, fun z hz => ?_⟩
    simp only [List.mem_cons, List.not_mem_nil, or_false] at hz
    rcases hz with rfl | rfl
    · exact n04
    · exact n14
  · refine Or.inr ⟨by simp, fun z hz => ?_⟩
    simp only [List.mem_cons, List.not_mem_nil, or_false] at hz
    rcases hz with rfl | rfl
    · exact n05
    · exact n15
  · refine Or.inr ⟨by simp, fun z hz => ?_⟩
    simp only [List.mem_cons, List.not_mem_nil, or_false] at hz
    rcases hz with rfl | rfl
    · exact n06
    · exact n16
  · refine Or.inr ⟨by simp, fun z hz => ?_⟩
    simp only [List.mem_cons, List.not_mem_nil, or_false] at hz
    rcases hz with rfl | rfl
    · exact n07
    · exact n17
theorem kn_upd6 {L : List Nat} {f f1 f2 : Nat → va_E} {c0 c1 c2 c3 c4 c5 c6 c7 : Nat × va_E} {e6 : va_E} (h : kn L f f1 [c0, c1, c2, c3, c4, c5, c6, c7]) (h2 : kn L f1 f2 [(c6.1, e6)]) : kn L f f2 [c0, c1, c2, c3, c4, c5, (c6.1, e6), c7] := by
  have nd := kn_nd h
  simp only [List.map_cons, List.map_nil, List.nodup_cons, List.mem_cons, List.not_mem_nil, or_false, not_or] at nd
  obtain ⟨⟨n01, n02, n03, n04, n05, n06, n07⟩, ⟨n12, n13, n14, n15, n16, n17⟩, ⟨n23, n24, n25, n26, n27⟩, ⟨n34, n35, n36, n37⟩, ⟨n45, n46, n47⟩, ⟨n56, n57⟩, n67, -⟩ := nd
  refine kn_over h h2 rfl (fun q hq => ?_) (fun q hq => ?_)
  · simp only [List.mem_cons, List.not_mem_nil, or_false] at hq
    subst hq; simp
  simp only [List.mem_cons, List.not_mem_nil, or_false] at hq
  rcases hq with rfl | rfl | rfl | rfl | rfl | rfl | rfl | rfl
  · refine Or.inr ⟨by simp, fun z hz => ?_⟩
    simp only [List.mem_cons, List.not_mem_nil, or_false] at hz
    subst hz
    exact fun q => n06 q.symm
  · refine Or.inr ⟨by simp, fun z hz => ?_⟩
    simp only [List.mem_cons, List.not_mem_nil, or_false] at hz
    subst hz
    exact fun q => n16 q.symm
  · refine Or.inr ⟨by simp, fun z hz => ?_⟩
    simp only [List.mem_cons, List.not_mem_nil, or_false] at hz
    subst hz
    exact fun q => n26 q.symm
  · refine Or.inr ⟨by simp, fun z hz => ?_⟩
    simp only [List.mem_cons, List.not_mem_nil, or_false] at hz
    subst hz
    exact fun q => n36 q.symm
  · refine Or.inr ⟨by simp, fun z hz => ?_⟩
    simp only [List.mem_cons, List.not_mem_nil, or_false] at hz
    subst hz
    exact fun q => n46 q.symm
  · refine Or.inr ⟨by simp, fun z hz => ?_⟩
    simp only [List.mem_cons, List.not_mem_nil, or_false] at hz
    subst hz
    exact fun q => n56 q.symm
  · exact Or.inl (by simp)
  · refine Or.inr ⟨by simp, fun z hz => ?_⟩
    simp only [List.mem_cons, List.not_mem_nil, or_false] at hz
    subst hz
    exact n67
section NQ
variable {p : Program} {l : Launch} {e : Env} {R : Room} {s : State} {m : MethodId} {args : Array Value} {below : List Frame} {meth : Method} {c : Code} {cells slots : Nat} {Q : State → Prop} {D : va_G} {k : Nat → ClassId} {L : List Nat} {f0 : Nat → va_E} {H0 : Heap}
variable {x xl n a al na b bl nb r rl nr1 : Nat} {mi ma mb mr : Bool} {d da db : Nat → Nat}
set_option maxRecDepth 100000 in
set_option maxHeartbeats 4000000 in
theorem w_nq1 (S : CallFix p m c c_N_quotient 6 s args G R_N) {i : Int32} {dr0 : Nat → Nat} (hn : nr1 < 160) (hdr0 : ∀ t, t < 160 → dr0 t < D16)
    (kx : ∀ (dr : Nat → Nat) (H : Heap) (locs : List Loc) (ls : Array Slot), (∀ t, t < 160 → dr t < D16) → (∀ t, t < nr1 → dr (t + 1) = dr0 t) → lv_has ls 6 [(0, .ref x), (1, .ref a), (2, .ref b), (3, .ref r), (4, .int i)] → kw D cls (tyl k) L s H0 f0 [(x, cN xl n mi), (xl, cE k d), (a, cN al na ma), (al, cE k da), (b, cN bl nb mb), (bl, cE k db), (r, cN rl nr1 mr), (rl, cE k dr)] H locs → W p l e R s m args below meth c H locs cells slots Q (F0 m 50 ls [])) :
    ∀ (q : Nat) (dr : Nat → Nat) (H : Heap) (locs : List Loc) (ls : Array Slot), q ≤ nr1 → (∀ t, t < 160 → dr t < D16) → (∀ t, t < q → dr t = dr0 t) → (∀ t, q ≤ t → t < nr1 → dr (t + 1) = dr0 t) → lv_has ls 6 [(0, .ref x), (1, .ref a), (2, .ref b), (3, .ref r), (4, .int i), (5, .int (nI q))] → kw D cls (tyl k) L s H0 f0 [(x, cN xl n mi), (xl, cE k d), (a, cN al na ma), (al, cE k da), (b, cN bl nb mb), (bl, cE k db), (r, cN rl nr1 mr), (rl, cE k dr)] H locs →
    W p l e R s m args below meth c H locs cells slots Q (F0 m 23 ls []) := by
  have hx := S.1
  have hb := S.2.1
  have hown : s.vm.findClass R_N = some m.cls := S.2.2.2.1
  have hG := S.2.2.2.2
  intro q
  induction q with
  | zero =>
    intro dr H locs ls hq hdr h1 h2 hl hw
    -- METHOD N_quotient | loc 0=x 1=a 2=b 3=r 4=i 5=q | ws x xl a al b bl r rl | fld x.d=xl a.d=al b.d=bl r.d=rl
    refine lv_iload hx hb d_N_quotient_23 (lv_at hl 5 rfl) ?_
    refine lv_if_le (tgt := 50) hx hb d_N_quotient_25 (by decide) (fun hc => ?_) (fun hc => ?_)
    · exact kx dr H locs ls hdr (fun t ht => h2 t (by omega) ht) (lv_sub hl [0, 1, 2, 3, 4] rfl) hw
    · exact absurd (by decide) hc
  | succ q ih =>
    intro dr H locs ls hq hdr h1 h2 hl hw
    -- METHOD N_quotient | loc 0=x 1=a 2=b 3=r 4=i 5=q | ws x xl a al b bl r rl | fld x.d=xl a.d=al b.d=bl r.d=rl
    refine lv_iload hx hb d_N_quotient_23 (lv_at hl 5 rfl) ?_
    refine lv_if_le (tgt := 50) hx hb d_N_quotient_25 (by decide) (fun hc => ?_) (fun hc => ?_)
    · exact absurd hc (nI_nle (by omega) (by omega))
    refine lv_aload_n hx hb d_N_quotient_28 rfl (lv_at hl 3 rfl) ?_
    refine k_get hx hb hG lay_N hown hw 6 rfl rfl 0 (by decide) (hG _ fl_N_7) (fun _ h9 => h9) rfl d_N_quotient_29 ?_
    refine lv_iload hx hb d_N_quotient_32 (lv_at hl 5 rfl) ?_
    refine lv_aload_n hx hb d_N_quotient_34 rfl (lv_at hl 3 rfl) ?_
    refine k_get hx hb hG lay_N hown hw 6 rfl rfl 0 (by decide) (hG _ fl_N_7) (fun _ h9 => h9) rfl d_N_quotient_35 ?_
    refine lv_iload hx hb d_N_quotient_38 (lv_at hl 5 rfl) ?_
    refine lv_iconst (v := 1) hx hb d_N_quotient_40 (by decide) ?_
    refine lv_isub hx hb d_N_quotient_41 ?_
    refine l_top (nI_pred q) ?_
    refine k_iald hx hb hw 7 0 rfl rfl (q) (rfl) (by omega) (by first | decide | omega) d_N_quotient_42 ?_
    refine k_iast hx hb hw 7 0 rfl rfl ((q + 1)) (rfl) (by omega) (by first | decide | omega) d_N_quotient_43 (fun H locs hw => ?_)
    rw [show nD dr q = nI (dr q) from rfl, nD_upd] at hw
    refine lv_iinc (k := 5) hx hb d_N_quotient_44 hl rfl (show nI (q + 1) + Int32.ofInt (-1) = nI q from pk_m1 q) (by decide) rfl (fun ls hl => ?_)
    refine lv_goto (tgt := 23) hx hb d_N_quotient_47 (by decide) ?_
    have hl := lv_sub hl [1, 2, 3, 4, 5, 0] rfl
    refine ih _ H locs ls (by omega) (fun t ht => ?_) (fun t ht => ?_) (fun t h3 h4 => ?_) hl hw
    · by_cases e : t = q + 1
      · rw [e, va_up_self]; exact hdr q (by omega)
      · rw [va_up_ne _ _ e]; exact hdr t ht
    · rw [va_up_ne _ _ (by omega)]; exact h1 t (by omega)
    · by_cases e : t = q
      · rw [e, va_up_self]; exact h1 q (by omega)
      · rw [va_up_ne _ _ (by omega)]; exact h2 t (by omega) h4
end NQ
section NQ2
variable {p : Program} {l : Launch} {e : Env} {R : Room} {s : State} {m : MethodId} {args : Array Value} {below : List Frame} {meth : Method} {c : Code} {cells slots : Nat} {Q : State → Prop} {D : va_G} {k : Nat → ClassId} {L : List Nat} {f0 : Nat → va_E} {H0 : Heap}
variable {x xl n a al na b bl nb r rl : Nat} {mi ma mb : Bool} {da db : Nat → Nat}
set_option maxRecDepth 100000 in
set_option maxHeartbeats 4000000 in
theorem w_nq2 (S : CallFix p m c c_N_quotient 6 s args G R_N) {v w : Int} (hv : nr na ma da v) (hw2 : nr nb mb db w) (hw0 : w ≠ 0) (hnb : nb ≤ 159) {f : Nat → va_E} {d0 dr0 : Nat → Nat} {nr0 : Nat} {mr0 : Bool} (hk0 : kn L f f [(x, cN xl n mi), (xl, cE k d0), (a, cN al na ma), (al, cE k da), (b, cN bl nb mb), (bl, cE k db), (r, cN rl nr0 mr0), (rl, cE k dr0)])
    (kx : ∀ (d : Nat → Nat) (nr1 : Nat) (mr : Bool) (dr : Nat → Nat) (H : Heap) (locs : List Loc) (ls : Array Slot), (∀ t, t < 160 → d t < D16) → cd D16 na d = v.natAbs / w.natAbs → nr nr1 mr dr ((v.natAbs % w.natAbs : Nat) : Int) → lv_has ls 6 [(0, .ref x), (1, .ref a), (2, .ref b), (3, .ref r)] → kw D cls (tyl k) L s s.heap f [(x, cN xl n mi), (xl, cE k d), (a, cN al na ma), (al, cE k da), (b, cN bl nb mb), (bl, cE k db), (r, cN rl nr1 mr), (rl, cE k dr)] H locs → W p l e (rmN 2) s m args below meth c H locs 0 0 Q (F0 m 111 ls [])) :
    ∀ (i : Nat) (d : Nat → Nat) (nr1 : Nat) (mr : Bool) (dr : Nat → Nat) (H : Heap) (locs : List Loc) (ls : Array Slot), i ≤ na → (∀ t, t < 160 → d t < D16) → cd D16 (na - i) (fun t => d (i + t)) = v.natAbs / D16 ^ i / w.natAbs → nr nr1 mr dr ((v.natAbs / D16 ^ i % w.natAbs : Nat) : Int) → lv_has ls 6 [(0, .ref x), (1, .ref a), (2, .ref b), (3, .ref r), (4, .int (zI ((i : Int) - 1)))] → kw D cls (tyl k) L s s.heap f [(x, cN xl n mi), (xl, cE k d), (a, cN al na ma), (al, cE k da), (b, cN bl nb mb), (bl, cE k db), (r, cN rl nr1 mr), (rl, cE k dr)] H locs →
    W p l e (rmN 2) s m args below meth c H locs 0 0 Q (F0 m 12 ls []) := by
  have hx := S.1
  have hb := S.2.1
  have hown : s.vm.findClass R_N = some m.cls := S.2.2.2.1
  have hG := S.2.2.2.2
  have hna := hv.1
  have hav := nr_abs hv
  have hB : 0 < w.natAbs := by omega
  have nd := kn_nd hk0
  intro i
  induction i with
  | zero =>
    intro d nr1 mr dr H locs ls hi hd he hr1 hl hw
    -- METHOD N_quotient | loc 0=x 1=a 2=b 3=r 4=i | ws x xl a al b bl r rl | fld x.d=xl a.d=al b.d=bl r.d=rl
    refine lv_iload hx hb d_N_quotient_12 (lv_at hl 4 rfl) ?_
    refine lv_if_lt (tgt := 111) hx hb d_N_quotient_14 (by decide) (fun hc => ?_) (fun hc => ?_)
    · refine kx d nr1 mr dr H locs ls hd ?_ ?_ (lv_sub hl [0, 1, 2, 3] rfl) hw
      · rw [Nat.pow_zero, Nat.div_one] at he
        rw [← he, Nat.sub_zero]
        exact cd_congr na (fun t _ => by rw [Nat.zero_add])
      · rw [Nat.pow_zero, Nat.div_one] at hr1; exact hr1
    · exact absurd (by decide) hc
  | succ i ih =>
    intro d nr1 mr dr H locs ls hi hd he hr1 hl hw
    have e1 : zI (((i + 1 : Nat) : Int) - 1) = nI i := by rw [← zI_n]; congr 1; omega
    rw [e1] at hl
    have hmr : mr = false := by
      cases mr with
      | false => rfl
      | true => have := (nr_mi hr1).mp rfl; omega
    subst hmr
    have hRB : v.natAbs / D16 ^ (i + 1) % w.natAbs < w.natAbs := Nat.mod_lt _ hB
    have hnr : nr1 ≤ nb := nr_le hr1 hw2 (by omega)
    have hdi : da i < 65536 := hv.2.1 i (by omega)
    obtain ⟨R0, hR0⟩ : ∃ R0, R0 = v.natAbs / D16 ^ (i + 1) % w.natAbs := ⟨_, rfl⟩
    rw [← hR0] at hr1 hRB
    have hcR : cd D16 nr1 dr = R0 := by rw [← nr_abs hr1]; omega
    have hdg : v.natAbs / D16 ^ i = v.natAbs / D16 ^ (i + 1) * D16 + da i := by rw [hav]; exact cd_dig (fun t ht => hv.2.1 t (by omega)) (show i < na by omega)
    obtain ⟨q1, q2⟩ := q_step (B := w.natAbs) hB hdg
    rw [← hR0] at q1 q2
    -- METHOD N_quotient | loc 0=x 1=a 2=b 3=r 4=i | ws x xl a al b bl r rl | fld x.d=xl a.d=al b.d=bl r.d=rl
    refine lv_iload hx hb d_N_quotient_12 (lv_at hl 4 rfl) ?_
    refine lv_if_lt (tgt := 111) hx hb d_N_quotient_14 (by decide) (fun hc => ?_) (fun hc => ?_)
    · exact absurd hc (nI0 (by omega))
    refine lv_aload_n hx hb d_N_quotient_17 rfl (lv_at hl 3 rfl) ?_
    refine k_get hx hb hG lay_N hown hw 6 rfl rfl 1 (by decide) (hG _ fl_N_13) (fun _ h9 => h9) rfl d_N_quotient_18 ?_
    refine lv_istore hx hb d_N_quotient_21 hl (by decide) rfl (fun ls hl => ?_)
    have hl := lv_sub hl [1, 2, 3, 4, 5, 0] rfl
    refine w_nq1 S (dr0 := dr) (by omega) hr1.2.1 (fun dr1 H locs ls hdr1 hsh hl hw => ?_) nr1 dr H locs ls (Nat.le_refl _) hr1.2.1 (fun _ _ => rfl) (fun t h1 h2 => by omega) hl hw
    refine lv_aload_n hx hb d_N_quotient_50 rfl (lv_at hl 3 rfl) ?_
    refine k_get hx hb hG lay_N hown hw 6 rfl rfl 0 (by decide) (hG _ fl_N_7) (fun _ h9 => h9) rfl d_N_quotient_51 ?_
    refine lv_iconst (v := 0) hx hb d_N_quotient_54 (by decide) ?_
    refine lv_aload_n hx hb d_N_quotient_55 rfl (lv_at hl 1 rfl) ?_
    refine k_get hx hb hG lay_N hown hw 2 rfl rfl 0 (by decide) (hG _ fl_N_7) (fun _ h9 => h9) rfl d_N_quotient_56 ?_
    refine lv_iload hx hb d_N_quotient_59 (lv_at hl 4 rfl) ?_
    refine k_iald hx hb hw 3 0 rfl rfl (i) (rfl) (by omega) (by first | decide | omega) d_N_quotient_61 ?_
    refine k_iast hx hb hw 7 0 rfl rfl (0) (rfl) (by omega) (by first | decide | omega) d_N_quotient_62 (fun H locs hw => ?_)
    rw [show nD da i = nI (da i) from rfl, nD_upd] at hw
    refine lv_aload_n hx hb d_N_quotient_63 rfl (lv_at hl 3 rfl) ?_
    refine lv_dup hx hb d_N_quotient_64 rfl ?_
    refine k_get hx hb hG lay_N hown hw 6 rfl rfl 1 (by decide) (hG _ fl_N_13) (fun _ h9 => h9) rfl d_N_quotient_65 ?_
    refine lv_iconst (v := 1) hx hb d_N_quotient_68 (by decide) ?_
    refine lv_iadd hx hb d_N_quotient_69 ?_
    refine l_top (show nI nr1 + 1 = nI (nr1 + 1) from nI_add nr1 1) ?_
    refine k_put (ty := .int) hx hb hG lay_N ft_N ft_N_ok fn_N hown hw 6 rfl rfl 1 (by decide) (hG _ fl_N_13) (fun _ h9 => h9) rfl (by decide +kernel) rfl rfl (by simp) d_N_quotient_70 (fun H locs hw => ?_)
    refine lv_aload_n hx hb d_N_quotient_73 rfl (lv_at hl 3 rfl) ?_
    have hdr2 : ∀ t, t < 160 → va_up dr1 0 (da i) t < D16 := fun t ht => by
      by_cases e : t = 0
      · rw [e, va_up_self]; exact hdi
      · rw [va_up_ne _ _ e]; exact hdr1 t ht
    have hval : cd D16 (nr1 + 1) (va_up dr1 0 (da i)) = R0 * D16 + da i := by
      rw [cd_shift (c := da i) (d := dr) (by rw [va_up_self]) (fun t ht => by rw [va_up_ne _ _ (by omega)]; exact hsh t ht), hcR, Nat.mul_comm]; omega
    obtain ⟨f1, hg, hk1⟩ := hw
    have hw := hg
    have hkr : kn L f1 f1 [(r, cN rl (nr1 + 1) false), (rl, cE k (va_up dr1 0 (da i)))] := kn_sub (kn_now hk1) [6, 7] rfl rfl
    refine g_ov (c_V (np := 0) S (m_N_trim l D k L f1 r rl (nr1 + 1) false (va_up dr1 0 (da i)) ((R0 * D16 + da i : Nat) : Int) (by omega) hdr2 (by rw [if_neg (by decide), hval]) hkr) hw ((hkr.1 0 _ rfl).1) ((hkr.1 0 _ rfl).2) rfl ml_N_27 im_N_trim se_N_N_trim in_N co_N_trim (by decide +kernel) rfl ⟨rfl, rfl, by decide, by decide⟩ hl.1 rfl (by simp [Value.category]) d_N_quotient_74 ⟨Nat.zero_le _, Nat.zero_le _⟩) hw (fun f2 H locs hp hg => ?_)
    obtain ⟨nr2, mr2, hnr2, hr2, hk2⟩ := hp
    have hw : kw D cls (tyl k) L s s.heap f [(x, cN xl n mi), (xl, cE k d), (a, cN al na ma), (al, cE k da), (b, cN bl nb mb), (bl, cE k db), (r, cN rl nr2 mr2), (rl, cE k (va_up dr1 0 (da i)))] H locs := ⟨f2, hg, kn_upd67 hk1 hk2⟩
    refine lv_aload_n hx hb d_N_quotient_77 rfl (lv_at hl 0 rfl) ?_
    refine k_get hx hb hG lay_N hown hw 0 rfl rfl 0 (by decide) (hG _ fl_N_7) (fun _ h9 => h9) rfl d_N_quotient_78 ?_
    refine lv_iload hx hb d_N_quotient_81 (lv_at hl 4 rfl) ?_
    refine lv_iconst (v := 0) hx hb d_N_quotient_83 (by decide) ?_
    refine k_iast hx hb hw 1 0 rfl rfl (i) (rfl) (by omega) (by first | decide | omega) d_N_quotient_84 (fun H locs hw => ?_)
    rw [show (0 : Int32) = nI 0 from rfl, nD_upd] at hw
    obtain ⟨f3, hg, hk3⟩ := hw
    have hw := hg
    have hk3n := kn_now hk3
    have hkc : kn L f3 f3 [(r, cN rl nr2 mr2), (rl, cE k (va_up dr1 0 (da i))), (b, cN bl nb mb), (bl, cE k db)] := kn_sub hk3n [6, 7, 4, 5] rfl rfl
    have hdig : ∀ (y : Nat), y < D16 → ∀ t, t < 160 → va_up (va_up d i 0) i y t < D16 := fun y hy t ht => by
      by_cases e : t = i
      · rw [e, va_up_self]; exact hy
      · rw [va_up_ne _ _ e, va_up_ne _ _ e]; exact hd t ht
    have hcdq : ∀ (y : Nat) (g : Nat → Nat), g i = y → (∀ t, t ≠ i → g t = d t) → cd D16 (na - i) (fun t => g (i + t)) = v.natAbs / D16 ^ (i + 1) / w.natAbs * D16 + y := fun y g h1 h2 => by
      have := cd_shift (b := D16) (n := na - (i + 1)) (c := y) (d := fun t => d (i + 1 + t)) (e := fun t => g (i + t)) h1 (fun t _ => by
        show g (i + (t + 1)) = d (i + 1 + t)
        rw [h2 _ (by omega)]; congr 1; omega)
      rw [show na - (i + 1) + 1 = na - i by omega, he] at this
      rw [this, Nat.mul_comm]; omega
    have hRD : R0 * D16 + da i < 65536 * w.natAbs := by
      have h1 : (R0 + 1) * 65536 ≤ w.natAbs * 65536 := Nat.mul_le_mul_right _ hRB
      show R0 * 65536 + da i < _
      omega
    refine lv_aload_n hx hb d_N_quotient_85 rfl (lv_at hl 3 rfl) ?_
    refine lv_aload_n hx hb d_N_quotient_86 rfl (lv_at hl 2 rfl) ?_
    refine g_oi (c_V (np := 1) S (m_N_compareSize l D k L f3 r rl nr2 b bl nb mr2 mb (va_up dr1 0 (da i)) db _ w hr2 hw2 hkc) hw ((hkc.1 0 _ rfl).1) ((hkc.1 0 _ rfl).2) rfl ml_N_30 im_N_compareSize se_N_N_compareSize in_N co_N_compareSize (by decide +kernel) rfl ⟨rfl, rfl, by decide, by decide⟩ hl.1 rfl (by simp [Value.category]) d_N_quotient_87 ⟨Nat.zero_le _, Nat.zero_le _⟩) hw (fun r4 f4 H locs hp4 hg => ?_)
    obtain ⟨e4, er4⟩ := hp4
    rw [e4] at hg
    have enat : ((R0 * D16 + da i : Nat) : Int).natAbs = R0 * D16 + da i := by omega
    rw [enat] at er4
    by_cases hlt : R0 * D16 + da i < w.natAbs
    · have h41 : r4 = -1 := by rw [er4]; unfold ord3; rw [if_pos hlt]
      subst h41
      refine lv_if_lt (tgt := 105) hx hb d_N_quotient_90 (by decide) (fun hc => ?_) (fun hc => ?_)
      rotate_left
      · exact absurd (by decide) hc
      have hw : kw D cls (tyl k) L s s.heap f [(x, cN xl n mi), (xl, cE k (va_up d i 0)), (a, cN al na ma), (al, cE k da), (b, cN bl nb mb), (bl, cE k db), (r, cN rl nr2 mr2), (rl, cE k (va_up dr1 0 (da i)))] H locs := ⟨f3, hg, hk3⟩
      refine lv_iinc (k := 4) hx hb d_N_quotient_105 hl rfl (show nI i + Int32.ofInt (-1) = zI ((i : Int) - 1) from (zI_add (i : Int) (-1)).trans (by congr 1)) (by decide) rfl (fun ls hl => ?_)
      refine lv_goto (tgt := 12) hx hb d_N_quotient_108 (by decide) ?_
      have hl := lv_sub hl [1, 2, 3, 4, 0] rfl
      refine ih _ nr2 mr2 _ H locs ls (by omega) (fun t ht => ?_) ?_ ?_ hl hw
      · by_cases e : t = i
        · rw [e, va_up_self]; decide
        · rw [va_up_ne _ _ e]; exact hd t ht
      · rw [hcdq 0 _ (va_up_self _ _ _) (fun t ht => va_up_ne _ _ ht), q1, Nat.div_eq_of_lt hlt]
      · rw [q2, Nat.mod_eq_of_lt hlt]; exact hr2
    · have h41 : ¬ r4 < 0 := by
        rw [er4]; unfold ord3; rw [if_neg hlt]
        split <;> decide
      refine lv_if_lt (tgt := 105) hx hb d_N_quotient_90 (by decide) (fun hc => ?_) (fun hc => ?_)
      · exact absurd hc h41
      have hw : kw D cls (tyl k) L s s.heap f [(x, cN xl n mi), (xl, cE k (va_up d i 0)), (a, cN al na ma), (al, cE k da), (b, cN bl nb mb), (bl, cE k db), (r, cN rl nr2 mr2), (rl, cE k (va_up dr1 0 (da i)))] H locs := ⟨f3, hg, hk3⟩
      refine lv_aload_n hx hb d_N_quotient_93 rfl (lv_at hl 0 rfl) ?_
      refine k_get hx hb hG lay_N hown hw 0 rfl rfl 0 (by decide) (hG _ fl_N_7) (fun _ h9 => h9) rfl d_N_quotient_94 ?_
      refine lv_iload hx hb d_N_quotient_97 (lv_at hl 4 rfl) ?_
      refine lv_aload_n hx hb d_N_quotient_99 rfl (lv_at hl 3 rfl) ?_
      refine lv_aload_n hx hb d_N_quotient_100 rfl (lv_at hl 2 rfl) ?_
      have hw := hg
      refine g_oi (c_X (np := 2) S (m_N_often l D k L f3 r rl nr2 b bl nb mr2 mb (va_up dr1 0 (da i)) db (R0 * D16 + da i) w.natAbs w hr2 hw2 rfl (by omega) hRD hkc) hw ml_N_34 st_N_often in_N co_N_often (by decide +kernel) rfl ⟨rfl, rfl, by decide, by decide⟩ hl.1 rfl (by simp [Value.category]) d_N_quotient_101 ⟨Nat.zero_le _, Nat.zero_le _⟩) hw (fun r5 f5 H locs hp5 hg => ?_)
      obtain ⟨er5, nr5, mr5, dr5, hr5, hk5⟩ := hp5
      subst er5
      have hq65 : (R0 * D16 + da i) / w.natAbs < D16 := (Nat.div_lt_iff_lt_mul hB).mpr hRD
      have hw : kw D cls (tyl k) L s s.heap f [(x, cN xl n mi), (xl, cE k (va_up d i 0)), (a, cN al na ma), (al, cE k da), (b, cN bl nb mb), (bl, cE k db), (r, cN rl nr5 mr5), (rl, cE k dr5)] H locs := ⟨f5, hg, kn_upd67 hk3 hk5⟩
      refine k_iast hx hb hw 1 0 rfl rfl (i) (rfl) (by omega) (by first | decide | omega) d_N_quotient_104 (fun H locs hw => ?_)
      rw [nD_upd] at hw
      refine lv_iinc (k := 4) hx hb d_N_quotient_105 hl rfl (show nI i + Int32.ofInt (-1) = zI ((i : Int) - 1) from (zI_add (i : Int) (-1)).trans (by congr 1)) (by decide) rfl (fun ls hl => ?_)
      refine lv_goto (tgt := 12) hx hb d_N_quotient_108 (by decide) ?_
      have hl := lv_sub hl [1, 2, 3, 4, 0] rfl
      refine ih _ nr5 mr5 _ H locs ls (by omega) (hdig _ hq65) ?_ ?_ hl hw
      · rw [hcdq _ _ (va_up_self _ _ _) (fun t ht => by rw [va_up_ne _ _ ht, va_up_ne _ _ ht]), q1]
      · rw [q2]; exact hr5
end NQ2
set_option maxRecDepth 100000 in
set_option maxHeartbeats 4000000 in
theorem m_N_quotient (l : Launch) (D : va_G) (k : Nat → ClassId) (L : List Nat) (f : Nat → va_E) (x xl n a al na b bl nb r rl nr1 : Nat) (mi ma mb mr : Bool) (d da db dr : Nat → Nat) (v w : Int) (hv : nr na ma da v) (hw2 : nr nb mb db w) (hw0 : w ≠ 0) (hnb : nb ≤ 159) (hd : ∀ i, i < 160 → d i < D16) (hdr : ∀ i, i < 160 → dr i < D16) (hk : kn L f f [(x, cN xl n mi), (xl, cE k d), (a, cN al na ma), (al, cE k da), (b, cN bl nb mb), (bl, cE k db), (r, cN rl nr1 mr), (rl, cE k dr)]) : Mv l y_N_quotient (Cond.code y_N_quotient c_N_quotient 6 none :: G) (rmN 2) D cls (tyl k) L f [.ref x, .ref a, .ref b, .ref r] (fun f' => ∃ n' mi' d' nr' mr' dr', nr n' mi' d' (v.tdiv w) ∧ nr nr' mr' dr' ((v.natAbs % w.natAbs : Nat) : Int) ∧ kn L f f' [(x, cN xl n' mi'), (xl, cE k d'), (r, cN rl nr' mr'), (rl, cE k dr')]) := by
  have hna := hv.1
  have hav := nr_abs hv
  have hkr : kn L f f [(r, cN rl nr1 mr)] := kn_sub hk [6] rfl rfl
  -- METHOD N_quotient | loc 0=x 1=a 2=b 3=r | ws x xl a al b bl r rl | fld x.d=xl a.d=al b.d=bl r.d=rl
  refine mk_met (by decide) (Nat.le_of_ble_eq_true rfl) (fun p e s m below meth c ls S hr hlocks hw hl => ?_)
  have hx := S.1
  have hb := S.2.1
  have hown : s.vm.findClass R_N = some m.cls := S.2.2.2.1
  have hG := S.2.2.2.2
  have hl : lv_has ls 6 [(0, .ref x), (1, .ref a), (2, .ref b), (3, .ref r)] := hl
  have hg := hw
  have fin : ∀ (m1 : Bool) (d1 : Nat → Nat) (nr2 : Nat) (mr2 : Bool) (dr2 : Nat → Nat) (H : Heap) (locs : List Loc) (ls : Array Slot), (ma != mb) = m1 → (∀ t, t < 160 → d1 t < D16) → cd D16 na d1 = v.natAbs / w.natAbs → nr nr2 mr2 dr2 ((v.natAbs % w.natAbs : Nat) : Int) → lv_has ls 6 [(0, .ref x)] → kw D cls (tyl k) L s s.heap f [(x, cN xl na m1), (xl, cE k d1), (a, cN al na ma), (al, cE k da), (b, cN bl nb mb), (bl, cE k db), (r, cN rl nr2 mr2), (rl, cE k dr2)] H locs → W p l e (rmN 2) s m ([.ref x, .ref a, .ref b, .ref r] : List Value).toArray below meth c H locs 0 0 (MQ below (va_Qv (fun f' => ∃ n' mi' d' nr' mr' dr', nr n' mi' d' (v.tdiv w) ∧ nr nr' mr' dr' ((v.natAbs % w.natAbs : Nat) : Int) ∧ kn L f f' [(x, cN xl n' mi'), (xl, cE k d'), (r, cN rl nr' mr'), (rl, cE k dr')]) (mst D cls (tyl k) L) (fun q => q ∈ L)) ([.ref x, .ref a, .ref b, .ref r] : List Value).toArray s 0 0 (fun q => q ∈ L)) (F0 m 139 ls []) := by
    intro m1 d1 nr2 mr2 dr2 H locs ls hm1 hd1 hc1 hr2 hl hw
    obtain ⟨f1, hg, hk1⟩ := hw
    have hk2 : kn L f1 f1 [(x, cN xl na m1), (xl, cE k d1)] := kn_sub (kn_now hk1) [0, 1] rfl rfl
    have hval : v.tdiv w = if m1 then -(cd D16 na d1 : Int) else (cd D16 na d1 : Int) := by
      rw [hc1, ← hm1, td_sgn, nr_sg hv, nr_sg hw2]
      by_cases h0 : v = 0
      · rw [h0]; simp
      · have hv1 : v.sign ≠ 0 := fun q => h0 (Int.sign_eq_zero_iff_zero.mp q)
        cases ma <;> cases mb
        all_goals
          simp [h0, hw0]
    have hw := hg
    -- METHOD N_quotient | loc 0=x | ws x xl
    refine lv_aload_n hx hb d_N_quotient_139 rfl (lv_at hl 0 rfl) ?_
    refine g_ov (c_V (np := 0) S (m_N_trim l D k L f1 x xl na m1 d1 (v.tdiv w) (by omega) hd1 hval hk2) hw ((hk2.1 0 _ rfl).1) ((hk2.1 0 _ rfl).2) rfl ml_N_27 im_N_trim se_N_N_trim in_N co_N_trim (by decide +kernel) rfl ⟨rfl, rfl, by decide, by decide⟩ hl.1 rfl (by simp [Value.category]) d_N_quotient_140 ⟨Nat.zero_le _, Nat.zero_le _⟩) hw (fun f2 H locs hp hg => ?_)
    obtain ⟨n', mi', -, h1, h2⟩ := hp
    refine g_retv hx hb hr hlocks hg ⟨n', mi', d1, nr2, mr2, dr2, h1, hr2, ?_⟩ d_N_quotient_143
    have hk3 : kn L f f2 [(x, cN xl n' mi'), (xl, cE k d1), (a, cN al na ma), (al, cE k da), (b, cN bl nb mb), (bl, cE k db), (r, cN rl nr2 mr2), (rl, cE k dr2)] := kn_upd01 hk1 h2
    refine kn_pick hk3 (fun q hq => ?_) ?_ (fun q hq hn => ?_)
    · simp only [List.mem_cons, List.not_mem_nil, or_false] at hq
      rcases hq with rfl | rfl | rfl | rfl <;> simp
    · have nd := kn_nd hk
      simp only [List.map_cons, List.map_nil, List.nodup_cons, List.mem_cons, List.not_mem_nil, or_false, not_or] at nd ⊢
      simp [nd]
    · simp only [List.mem_cons, List.not_mem_nil, or_false, not_or] at hq hn
      rcases hq with q1 | q1 | q1 | q1 | q1 | q1 | q1 | q1
      · exact absurd q1 hn.1
      · exact absurd q1 hn.2.1
      · rw [q1]; exact (hk.1 2 _ rfl).2
      · rw [q1]; exact (hk.1 3 _ rfl).2
      · rw [q1]; exact (hk.1 4 _ rfl).2
      · rw [q1]; exact (hk.1 5 _ rfl).2
      · exact absurd q1 hn.2.2.1
      · exact absurd q1 hn.2.2.2
  -- METHOD N_quotient | loc 0=x 1=a 2=b 3=r | ws x xl a al b bl r rl | fld x.d=xl a.d=al b.d=bl r.d=rl
  refine lv_aload_n hx hb d_N_quotient_0 rfl (lv_at hl 3 rfl) ?_
  refine g_ov (c_V (np := 0) S (m_N_zero l D k L f r rl nr1 mr hkr) hw ((hkr.1 0 _ rfl).1) ((hkr.1 0 _ rfl).2) rfl ml_N_21 im_N_zero se_N_N_zero in_N co_N_zero (by decide +kernel) rfl ⟨rfl, rfl, by decide, by decide⟩ hl.1 rfl (by simp [Value.category]) d_N_quotient_1 ⟨Nat.zero_le _, Nat.zero_le _⟩) hw (fun f1 H locs hp hg => ?_)
  have hw : kw D cls (tyl k) L s s.heap f [(x, cN xl n mi), (xl, cE k d), (a, cN al na ma), (al, cE k da), (b, cN bl nb mb), (bl, cE k db), (r, cN rl 0 false), (rl, cE k dr)] H locs := ⟨f1, hg, kn_upd6 hk hp⟩
  refine lv_aload_n hx hb d_N_quotient_4 rfl (lv_at hl 1 rfl) ?_
  refine k_get hx hb hG lay_N hown hw 2 rfl rfl 1 (by decide) (hG _ fl_N_13) (fun _ h9 => h9) rfl d_N_quotient_5 ?_
  refine lv_iconst (v := 1) hx hb d_N_quotient_8 (by decide) ?_
  refine lv_isub hx hb d_N_quotient_9 ?_
  refine l_top (show nI na - 1 = zI ((na : Int) - 1) from zI_sub (na : Int) 1) ?_
  refine lv_istore hx hb d_N_quotient_10 hl (by decide) rfl (fun ls hl => ?_)
  have hl := lv_sub hl [1, 2, 3, 4, 0] rfl
  have hlt : v.natAbs < D16 ^ na := by rw [hav]; exact cd_lt na (fun i hi => hv.2.1 i (by omega))
  refine w_nq2 S hv hw2 hw0 hnb hk (fun d1 nr2 mr2 dr2 H locs ls hd1 hc1 hr2 hl hw => ?_) na d 0 false dr H locs ls (Nat.le_refl _) hd ?_ ?_ hl hw
  rotate_left
  · rw [Nat.sub_self, Nat.div_eq_of_lt hlt, Nat.zero_div]; rfl
  · rw [Nat.div_eq_of_lt hlt, Nat.zero_mod]; exact nr_0 hdr
  refine lv_aload_n hx hb d_N_quotient_111 rfl (lv_at hl 0 rfl) ?_
  refine lv_aload_n hx hb d_N_quotient_112 rfl (lv_at hl 1 rfl) ?_
  refine k_get hx hb hG lay_N hown hw 2 rfl rfl 1 (by decide) (hG _ fl_N_13) (fun _ h9 => h9) rfl d_N_quotient_113 ?_
  refine k_put (ty := .int) hx hb hG lay_N ft_N ft_N_ok fn_N hown hw 0 rfl rfl 1 (by decide) (hG _ fl_N_13) (fun _ h9 => h9) rfl (by decide +kernel) rfl rfl (by simp) d_N_quotient_116 (fun H locs hw => ?_)
  refine lv_aload_n hx hb d_N_quotient_119 rfl (lv_at hl 0 rfl) ?_
  refine lv_aload_n hx hb d_N_quotient_120 rfl (lv_at hl 1 rfl) ?_
  refine k_get hx hb hG lay_N hown hw 2 rfl rfl 2 (by decide) (hG _ fl_N_17) (fun _ h9 => h9) rfl d_N_quotient_121 ?_
  refine lv_aload_n hx hb d_N_quotient_124 rfl (lv_at hl 2 rfl) ?_
  refine k_get hx hb hG lay_N hown hw 4 rfl rfl 2 (by decide) (hG _ fl_N_17) (fun _ h9 => h9) rfl d_N_quotient_125 ?_
  refine lv_icmp_eq (tgt := 135) hx hb d_N_quotient_128 (by decide) (fun hc => ?_) (fun hc => ?_)
  · have hm : ma = mb := bI_inj.mp hc
    refine lv_iconst (v := 0) hx hb d_N_quotient_135 (by decide) ?_
    refine k_put (ty := .boolean) hx hb hG lay_N ft_N ft_N_ok fn_N hown hw 0 rfl rfl 2 (by decide) (hG _ fl_N_17) (fun _ h9 => h9) rfl (by decide +kernel) rfl rfl (by simp) d_N_quotient_136 (fun H locs hw => ?_)
    exact fin false d1 nr2 mr2 dr2 H locs ls (by rw [hm]; cases mb <;> rfl) hd1 hc1 hr2 (lv_sub hl [0] rfl) hw
  · have hm : ma ≠ mb := fun q => hc (by rw [q])
    refine lv_iconst (v := 1) hx hb d_N_quotient_131 (by decide) ?_
    refine lv_goto (tgt := 136) hx hb d_N_quotient_132 (by decide) ?_
    refine k_put (ty := .boolean) hx hb hG lay_N ft_N ft_N_ok fn_N hown hw 0 rfl rfl 2 (by decide) (hG _ fl_N_17) (fun _ h9 => h9) rfl (by decide +kernel) rfl rfl (by simp) d_N_quotient_136 (fun H locs hw => ?_)
    exact fin true d1 nr2 mr2 dr2 H locs ls (by cases ma <;> cases mb <;> first | rfl | exact absurd rfl hm) hd1 hc1 hr2 (lv_sub hl [0] rfl) hw


-- ===== LineTables: keepSpare dual =====
theorem nI_sb {a b : Nat} (h : b ≤ a) : nI a - nI b = nI (a - b) := by
  show zI (a : Int) - zI (b : Int) = zI ((a - b : Nat) : Int)
  rw [zI_sub]; congr 1; omega
section KS
variable (l : Launch) (D : va_G) {L : List Nat} {k : Nat → ClassId} {f : Nat → va_E} {own : Nat → Nat} {τ t pa nu : Nat} {rs : Nat → Nat} {fd : Int32} {rows cols : Nat} {rd : Int32} {P : Nat → Int32} {Wt : Nat → Nat → Int32} {xa ta pr sp : Nat} {zt : Nat → Option Nat} {qa : Nat}
set_option maxRecDepth 100000 in
set_option maxHeartbeats 4000000 in
theorem m_A_keepSpare (hX : XA L own k f xa ta qa pr t zt) (hT : TB L own k f τ t pa nu rs fd rows cols rd P Wt) (hτ : τ ≠ 101) {i n old : Nat} (hi : i < 8) (hz : zt i = some old) : Mi l y_A_keepSpare (Cond.code y_A_keepSpare c_A_keepSpare 4 (some .int) :: G) (rmN 0) D cls (tyl k) L f [.ref xa, .int (nI i), .int (nI n)] (fun r f' => r = nI n ∧ XA L own k f' xa ta qa pr old (va_up zt i (some t)) ∧ TB L own k f' τ t pa nu rs fd n cols 1 P Wt ∧ oe own [101, τ] f f') := by
  have hk3 : kn L f f [(xa, cA ta qa pr t), (ta, cTs k zt), (t, cT fd (nI rows) (nI cols) rd pa nu)] := kn_sub (xa_kn4 hX hT hτ) [0, 1, 2] rfl rfl
  -- METHOD A_keepSpare | loc 0=xa 1=i 2=n | ws xa ta t | fld xa.tables=ta xa.spare=t
  refine mk_met (by decide) (Nat.le_of_ble_eq_true rfl) (fun p e s m below meth c ls S hr hlocks hw hl => ?_)
  have hx := S.1
  have hb := S.2.1
  have hown : s.vm.findClass R_A = some m.cls := S.2.2.2.1
  have hG := S.2.2.2.2
  have hl : lv_has ls 4 [(0, .ref xa), (1, .int (nI i)), (2, .int (nI n))] := hl
  have hg := hw
  have hw : kw D cls (tyl k) L s s.heap f [(xa, cA ta qa pr t), (ta, cTs k zt), (t, cT fd (nI rows) (nI cols) rd pa nu)] s.heap [] := ⟨f, hg, hk3⟩
  refine lv_aload_n hx hb d_A_keepSpare_0 rfl (lv_at hl 0 rfl) ?_
  refine k_get hx hb hG lay_A hown hw 0 rfl rfl 3 (by decide) (hG _ fl_A_16) (fun _ h9 => h9) rfl d_A_keepSpare_1 ?_
  refine lv_astore_n hx hb d_A_keepSpare_4 rfl hl (by decide) rfl (fun ls hl => ?_)
  refine lv_aload_n hx hb d_A_keepSpare_5 rfl (lv_at hl 1 rfl) ?_
  refine lv_aload_n hx hb d_A_keepSpare_6 rfl (lv_at hl 1 rfl) ?_
  refine k_get hx hb hG lay_A hown hw 0 rfl rfl 0 (by decide) (hG _ fl_A_11) (fun _ h9 => h9) rfl d_A_keepSpare_7 ?_
  refine lv_iload_n hx hb d_A_keepSpare_10 rfl (lv_at hl 2 rfl) ?_
  refine k_aald hx hb hw 1 2 rfl rfl (i) (rfl) (hi) (by first | decide | omega) (hz) d_A_keepSpare_11 ?_
  refine k_put (ty := .object "LineTables$Table") hx hb hG lay_A ft_A ft_A_ok fn_A hown hw 0 rfl rfl 3 (by decide) (hG _ fl_A_16) (fun _ h9 => h9) rfl (by decide +kernel) rfl rfl (by simp) d_A_keepSpare_12 (fun H locs hw => ?_)
  refine lv_aload_n hx hb d_A_keepSpare_15 rfl (lv_at hl 1 rfl) ?_
  refine k_get hx hb hG lay_A hown hw 0 rfl rfl 0 (by decide) (hG _ fl_A_11) (fun _ h9 => h9) rfl d_A_keepSpare_16 ?_
  refine lv_iload_n hx hb d_A_keepSpare_19 rfl (lv_at hl 2 rfl) ?_
  refine lv_aload_n hx hb d_A_keepSpare_20 rfl (lv_at hl 0 rfl) ?_
  refine k_aastO hx hb hw 1 2 2 3 rfl rfl rfl rfl i rfl hi (by decide) d_A_keepSpare_21 (fun H locs hw => ?_)
  refine lv_aload_n hx hb d_A_keepSpare_22 rfl (lv_at hl 0 rfl) ?_
  refine lv_iload_n hx hb d_A_keepSpare_23 rfl (lv_at hl 3 rfl) ?_
  refine k_put (ty := .int) hx hb hG lay_T ft_T ft_T_ok fn_T hown hw 2 rfl rfl 1 (by decide) (hG _ fl_A_73) (fun _ h9 => h9) rfl (by decide +kernel) rfl rfl (by simp) d_A_keepSpare_24 (fun H locs hw => ?_)
  refine lv_aload_n hx hb d_A_keepSpare_27 rfl (lv_at hl 0 rfl) ?_
  refine lv_iconst (v := 1) hx hb d_A_keepSpare_28 (by decide) ?_
  refine k_put (ty := .boolean) hx hb hG lay_T ft_T ft_T_ok fn_T hown hw 2 rfl rfl 3 (by decide) (hG _ fl_A_52) (fun _ h9 => h9) rfl (by decide +kernel) rfl rfl (by simp) d_A_keepSpare_29 (fun H locs hw => ?_)
  refine lv_iload_n hx hb d_A_keepSpare_32 rfl (lv_at hl 3 rfl) ?_
  obtain ⟨f', hg, hk⟩ := hw
  have hk : kn L f f' [(xa, cA ta qa pr old), (ta, cTs k (va_up zt i (some t))), (t, cT fd (nI n) (nI cols) 1 pa nu)] := hk
  have v0 := (hk.1 0 _ rfl).2
  have v1 := (hk.1 1 _ rfl).2
  have hne : ∀ q, own q = τ → q ≠ xa ∧ q ≠ ta := fun q e => ⟨fun e2 => by rw [e2, hX.2.2.2.1.2] at e; exact hτ e.symm, fun e2 => by rw [e2, hX.2.2.2.2.1.2] at e; exact hτ e.symm⟩
  have hpr : f' pr = f pr := kn_off hk (by
    simp
    refine ⟨fun e => ?_, fun e => ?_, fun e => ?_⟩
    · have h1 := hX.2.2.1; rw [e, hX.1] at h1; cases h1
    · have h1 := hX.2.2.1; rw [e, hX.2.1] at h1; cases h1
    · have h1 := hX.2.2.2.2.2.2; rw [e, hT.1.1.2] at h1; exact hτ h1)
  have hoff : ∀ q, q ≠ t → own q = τ → f' q = f q := fun q h1 h2 => kn_off hk (by simp; exact ⟨(hne q h2).1, (hne q h2).2, h1⟩)
  refine g_reti hx hb hr hlocks hg ⟨rfl, ⟨v0, v1, hpr.trans hX.2.2.1, hX.2.2.2⟩, ?_, fun q hq => ?_⟩ d_A_keepSpare_33
  · -- the table is as it was but for its rows and that it is reduced
    have e2 : ∀ q, own q = τ → f' q = va_up f t (cT fd (nI n) (nI cols) 1 pa nu) q := fun q hq => by
      by_cases e : q = t
      · rw [e, va_up_self]; exact (hk.1 2 _ rfl).2
      · rw [va_up_ne _ _ e]; exact hoff q e hq
    have hT1 := (hT.obj (f' := va_up f t (cT fd (nI n) (nI cols) 1 pa nu)) (kn_put hT.kn1 (i := 0) rfl)).1
    exact hT1.frame e2
  · simp at hq
    refine kn_off hk ?_
    simp
    refine ⟨fun e => ?_, fun e => ?_, fun e => ?_⟩
    · rw [e] at hq; exact hq.1 hX.2.2.2.1.2
    · rw [e] at hq; exact hq.1 hX.2.2.2.2.1.2
    · rw [e] at hq; exact hq.2 hT.1.1.2
end KS
theorem CS_swap {L : List Nat} {own : Nat → Nat} {k : Nat → ClassId} {f : Nat → va_E} {xa ta qa pr ln : Nat} {tO tP tN adr : Nat → Nat} {zl : Nat → Option Nat} {π : Nat → Nat} {st : Nat → Tb} {f' : Nat → va_E} {zt : Nat → Option Nat} (h : CS L own k f xa ta qa pr ln tO tP tN adr zl π st) (hzt : ∀ j, j < 8 → zt j = some (tO (π j))) {i : Nat} (hi : i < 8) {y : Tb} (hX : XA L own k f' xa ta qa pr (tO (π i)) (va_up zt i (some (tO (π 8))))) (hT : CT L own k f' tO tP tN (π 8) y) (hR : RQ L own k f' adr qa ln zl) (ho : oe own [π 8, 100, 101] f f') : CS L own k f' xa ta qa pr ln tO tP tN adr zl (sw π i 8) (va_up st i y) ∧ oe own CO f f' := by
  obtain ⟨zt0, hX0, hzt0, -, hπ, hC, -⟩ := h
  have p8 := hπ.1 8 (by omega)
  have hpi := hπ.1 i (by omega)
  have hs8 : sw π i 8 8 = π i := by rw [sw_right]
  have hsi : sw π i 8 i = π 8 := by
    rw [sw_left]
  have hso : ∀ j, j < 8 → j ≠ i → sw π i 8 j = π j := fun j h1 h2 => sw_other _ h2 (by omega)
  have hnot : ∀ j, j < 8 → π j ∉ [π 8, 100, 101] := fun j hj => by
    have := hπ.1 j (by omega)
    simp
    exact ⟨fun e => by have := hπ.2 j 8 (by omega) (by omega) e; omega, by omega, by omega⟩
  refine ⟨⟨va_up zt i (some (tO (π 8))), by rw [hs8]; exact hX, fun j hj => ?_, hR, ⟨fun j hj => ?_, fun a b ha hb e => ?_⟩, fun j hj => ?_, ?_⟩, ho.mono (fun x hx => ?_)⟩
  · by_cases e : j = i
    · rw [e, va_up_self, hsi]
    · rw [va_up_ne _ _ e, hso j hj e]; exact hzt j hj
  · by_cases e8 : j = 8
    · rw [e8, hs8]; exact hpi
    · by_cases e : j = i
      · rw [e, hsi]; exact p8
      · rw [hso j (by omega) e]; exact hπ.1 j hj
  · -- a swap is one to one
    have key : ∀ z, z ≤ 8 → ∃ z', z' ≤ 8 ∧ sw π i 8 z = π z' ∧ z' = (if z = 8 then i else if z = i then 8 else z) := fun z hz => by
      by_cases e8 : z = 8
      · exact ⟨i, by omega, by rw [e8, hs8], by rw [if_pos e8]⟩
      · by_cases e : z = i
        · exact ⟨8, by omega, by rw [e, hsi], by rw [if_neg e8, if_pos e]⟩
        · exact ⟨z, hz, hso z (by omega) e, by rw [if_neg e8, if_neg e]⟩
    obtain ⟨a', a1, a2, a3⟩ := key a ha
    obtain ⟨b', b1, b2, b3⟩ := key b hb
    rw [a2, b2] at e
    have := hπ.2 a' b' a1 b1 e
    rw [a3, b3] at this
    repeat' split at this
    all_goals omega
  · by_cases e : j = i
    · rw [e, va_up_self, hsi]; exact hT
    · rw [va_up_ne _ _ e, hso j hj e]; exact (hC j hj).keep ho (hnot j hj)
  · rw [hs8]
    obtain ⟨rs, P, Wt, h1, -⟩ := hC i hi
    exact ⟨rs, _, _, _, _, P, Wt, h1.keep ho (hnot i hi)⟩
  · simp at hx
    rcases hx with rfl | rfl | rfl
    · exact CO_le p8
    · unfold CO; simp
    · unfold CO; simp
def spDual (st : Nat → Tb) (a b : Int) (st' : Nat → Tb) (r : Int32) : Prop := (∃ i j : Nat, a = i ∧ i < 8 ∧ b = j ∧ j < 8 ∧ (st j).red = true ∧ ∃ y, LRT (st j).q (st j).cols (dualV (st j).q (st j).cols (st j).rows (st j).A) y ∧ st' = va_up st i y ∧ r = nI y.rows) ∨ (¬ (0 ≤ a ∧ a < 8 ∧ ∃ j : Nat, b = j ∧ j < 8 ∧ (st j).red = true) ∧ st' = st ∧ r = -1)
section DUAL
variable {p : Program} {l : Launch} {e : Env} {s : State} {m : MethodId} {args : Array Value} {below : List Frame} {meth : Method} {c : Code} {Q : State → Prop} {D : va_G} {k : Nat → ClassId} {L : List Nat} {H0 : Heap}
variable {own : Nat → Nat} {τ t pa nu : Nat} {rs : Nat → Nat} {rdd : Int32} {P : Nat → Int32} {τ2 t2 pa2 nu2 : Nat} {rs2 : Nat → Nat} {rows2 cols : Nat} {rd2 : Int32} {P2 : Nat → Int32} {W2 : Nat → Nat → Int32} {adr : Nat → Nat} {qa ln : Nat} {zl : Nat → Option Nat} {xa ta pr : Nat} {zt : Nat → Option Nat} {q : Nat} {A2 : Nat → Nat → Int} {pl : Nat → Nat} {a b : Int}
theorem du_kn {f : Nat → va_E} {Wt : Nat → Nat → Int32} (hX : XA L own k f xa ta qa pr t zt) (hT : TB L own k f τ t pa nu rs (nI q) (cols - rows2) cols rdd P Wt) (hF : TB L own k f τ2 t2 pa2 nu2 rs2 (nI q) rows2 cols rd2 P2 W2) (hτ : τ ≠ 101) (hτ2 : τ2 ≠ 101) (hne : τ2 ≠ τ) : kn L f f [(xa, cA ta qa pr t), (t2, cT (nI q) (nI rows2) (nI cols) rd2 pa2 nu2), (t, cT (nI q) (nI (cols - rows2)) (nI cols) rdd pa nu)] := by
  have o1 := hX.2.2.2.1
  have o2 := hF.1.1
  have o3 := hT.1.1
  refine kn_of (fun q hq => ?_) (by
    simp
    refine ⟨⟨fun e => ?_, fun e => ?_⟩, fun e => ?_⟩
    · have h1 := o1.2; rw [e, o2.2] at h1; exact hτ2 h1
    · have h1 := o1.2; rw [e, o3.2] at h1; exact hτ h1
    · have h1 := o2.2; rw [e, o3.2] at h1; exact hne h1.symm)
  simp only [List.mem_cons, List.not_mem_nil, or_false] at hq
  rcases hq with rfl | rfl | rfl
  · exact ⟨o1.1, hX.1⟩
  · exact ⟨o2.1, hF.2.1⟩
  · exact ⟨o3.1, hT.2.1⟩
set_option maxRecDepth 100000 in
set_option maxHeartbeats 4000000 in
theorem w_dual (S : CallFix p m c c_A_dual 6 s args G R_A) (hτ0 : τ ≠ 100) (hτ : τ ≠ 101) (hτ20 : τ2 ≠ 100) (hτ2 : τ2 ≠ 101) (hne : τ2 ≠ τ) (hq : q = 0 ∨ prm q) (hq2 : q ≤ 251) (hrows2 : rows2 ≤ 12) (hcols : cols ≤ 12) (hA2 : mt W2 rows2 cols A2) (hrd : rd q cols rows2 A2 pl) (htl : ∀ r, r < rows2 → tl q cols (A2 r) (pl r)) (hsm : q = 0 → sml cols (og cols rows2 A2)) (hP2 : ∀ i, i < rows2 → P2 i = nI (pl i)) {f0 : Nat → va_E}
    (kx : ∀ (f : Nat → va_E) (Wt : Nat → Nat → Int32) (H : Heap) (locs : List Loc) (ls : Array Slot), TB L own k f τ t pa nu rs (nI q) (cols - rows2) cols rdd P Wt → TB L own k f τ2 t2 pa2 nu2 rs2 (nI q) rows2 cols rd2 P2 W2 → XA L own k f xa ta qa pr t zt → RQ L own k f adr qa ln zl → oe own [τ, 100] f0 f → mt Wt (cols - rows2) cols (fun r => dRow q cols rows2 A2 pl (dcl pl rows2 cols r)) → lv_has ls 6 [(0, .ref xa), (1, .int (zI a))] → gw D cls (tyl k) L s s.heap f H locs → W p l e (rmN 7) s m args below meth c H locs 0 0 Q (F0 m 110 ls [])) :
    ∀ (i cc : Nat) (f : Nat → va_E) (Wt : Nat → Nat → Int32) (H : Heap) (locs : List Loc) (ls : Array Slot), cc + i = cols → TB L own k f τ t pa nu rs (nI q) (cols - rows2) cols rdd P Wt → TB L own k f τ2 t2 pa2 nu2 rs2 (nI q) rows2 cols rd2 P2 W2 → XA L own k f xa ta qa pr t zt → RQ L own k f adr qa ln zl → oe own [τ, 100] f0 f → (∀ r, r < npc pl rows2 cc → ∀ j, j < cols → nm (Wt r) j (dRow q cols rows2 A2 pl (dcl pl rows2 cols r) j)) → (∀ r, npc pl rows2 cc ≤ r → r < cols - rows2 → ∀ j, j < cols → nm (Wt r) j 0) → lv_has ls 6 [(0, .ref xa), (1, .int (zI a)), (2, .int (zI b)), (3, .ref t2), (4, .int (nI (npc pl rows2 cc))), (5, .int (nI cc))] → gw D cls (tyl k) L s s.heap f H locs →
    W p l e (rmN 7) s m args below meth c H locs 0 0 Q (F0 m 54 ls []) := by
  have hx := S.1
  have hb := S.2.1
  have hown : s.vm.findClass R_A = some m.cls := S.2.2.2.1
  have hG := S.2.2.2.2
  have hnp := npc_rd hrd
  have hpl12 : ∀ i, i < rows2 → P2 i = nI (pl i) ∧ pl i < 12 := fun i hi => ⟨hP2 i hi, by have := (hrd.1 i hi).1; omega⟩
  have hplc : ∀ i, i < rows2 → P2 i = nI (pl i) ∧ pl i < cols := fun i hi => ⟨hP2 i hi, (hrd.1 i hi).1⟩
  intro i
  induction i with
  | zero =>
    intro cc f Wt H locs ls hj hT hF hX hR ho hd1 hd2 hl hg
    have hj : cc = cols := by omega
    have hw : kw D cls (tyl k) L s s.heap f [(xa, cA ta qa pr t), (t2, cT (nI q) (nI rows2) (nI cols) rd2 pa2 nu2), (t, cT (nI q) (nI (cols - rows2)) (nI cols) rdd pa nu)] H locs := ⟨f, hg, du_kn hX hT hF hτ hτ2 hne⟩
    -- METHOD A_dual | loc 0=xa 1=a 2=b 3=t2 4=row 5=cc | ws xa t2 t | fld xa.spare=t
    refine lv_iload hx hb d_A_dual_54 (lv_at hl 5 rfl) ?_
    refine lv_aload_n hx hb d_A_dual_56 rfl (lv_at hl 3 rfl) ?_
    refine k_get hx hb hG lay_T hown hw 1 rfl rfl 2 (by decide) (hG _ fl_A_91) (fun _ h9 => h9) rfl d_A_dual_57 ?_
    refine lv_icmp_ge (tgt := 110) hx hb d_A_dual_60 (by decide) (fun hc => ?_) (fun hc => ?_)
    · refine kx f Wt H locs ls hT hF hX hR ho (fun r hr => hd1 r (by rw [hj, hnp]; exact hr)) (lv_sub hl [0, 1] rfl) hg
    · exact absurd (nI_le (by omega) (by omega)) hc
  | succ i ih =>
    intro cc f Wt H locs ls hj hT hF hX hR ho hd1 hd2 hl hg
    have hw : kw D cls (tyl k) L s s.heap f [(xa, cA ta qa pr t), (t2, cT (nI q) (nI rows2) (nI cols) rd2 pa2 nu2), (t, cT (nI q) (nI (cols - rows2)) (nI cols) rdd pa nu)] H locs := ⟨f, hg, du_kn hX hT hF hτ hτ2 hne⟩
    have hcc : cc < cols := by omega
    have hle : npc pl rows2 cc ≤ cols - rows2 := by rw [← hnp]; exact npc_mono _ _ (by omega)
    -- METHOD A_dual | loc 0=xa 1=a 2=b 3=t2 4=row 5=cc | ws xa t2 t | fld xa.spare=t
    refine lv_iload hx hb d_A_dual_54 (lv_at hl 5 rfl) ?_
    refine lv_aload_n hx hb d_A_dual_56 rfl (lv_at hl 3 rfl) ?_
    refine k_get hx hb hG lay_T hown hw 1 rfl rfl 2 (by decide) (hG _ fl_A_91) (fun _ h9 => h9) rfl d_A_dual_57 ?_
    refine lv_icmp_ge (tgt := 110) hx hb d_A_dual_60 (by decide) (fun hc => ?_) (fun hc => ?_)
    · exact absurd hc (nI_ge (by omega) (by omega))
    refine lv_aload_n hx hb d_A_dual_63 rfl (lv_at hl 3 rfl) ?_
    refine lv_iload hx hb d_A_dual_64 (lv_at hl 5 rfl) ?_
    have hw := hg
    refine g_oi (c_V (np := 1) S (tb_hasPlace l D hF hrows2 (col := cc) (by omega) hpl12) hw (hF.1.1.1) (hF.2.1) rfl ml_A_94 im_T_hasPlace se_T_T_hasPlace in_T co_T_hasPlace (by decide +kernel) rfl ⟨rfl, rfl, by decide, by decide⟩ hl.1 rfl (by simp [Value.category]) d_A_dual_66 ⟨Nat.zero_le _, Nat.zero_le _⟩) hw (fun r1 f1 H locs hp hg => ?_)
    obtain ⟨e1, hp⟩ := hp
    rw [e1] at hg
    rcases hp with ⟨er, hyes⟩ | ⟨er, hno⟩
    · subst er
      refine lv_if_ne (tgt := 104) hx hb d_A_dual_69 (by decide) (fun hc => ?_) (fun hc => ?_)
      rotate_left
      · exact absurd hc (by decide)
      have en : npc pl rows2 (cc + 1) = npc pl rows2 cc := by
        show npc pl rows2 cc + (if isPl pl rows2 cc then 0 else 1) = _
        rw [if_pos hyes]; rfl
      refine lv_iinc (k := 5) hx hb d_A_dual_104 hl rfl (ii1 cc) (by decide) rfl (fun ls hl => ?_)
      refine lv_goto (tgt := 54) hx hb d_A_dual_107 (by decide) ?_
      have hl := lv_sub hl [1, 2, 3, 4, 5, 0] rfl
      exact ih (cc + 1) f Wt H locs ls (by omega) hT hF hX hR ho (by rw [en]; exact hd1) (by rw [en]; exact hd2) (by rw [en]; exact hl) hg
    subst er
    have hnpl : ¬ isPl pl rows2 cc := fun ⟨x, hx, e⟩ => hno x hx e
    have hlt : npc pl rows2 cc < cols - rows2 := by rw [← hnp]; exact npc_lt hcc hnpl
    have en : npc pl rows2 (cc + 1) = npc pl rows2 cc + 1 := by
      show npc pl rows2 cc + (if isPl pl rows2 cc then 0 else 1) = _
      rw [if_neg hnpl]
    have hdc := dcl_npc hcc hnpl
    have hw : kw D cls (tyl k) L s s.heap f [(xa, cA ta qa pr t), (t2, cT (nI q) (nI rows2) (nI cols) rd2 pa2 nu2), (t, cT (nI q) (nI (cols - rows2)) (nI cols) rdd pa nu)] H locs := ⟨f, hg, du_kn hX hT hF hτ hτ2 hne⟩
    refine lv_if_ne (tgt := 104) hx hb d_A_dual_69 (by decide) (fun hc => ?_) (fun hc => ?_)
    · exact absurd rfl hc
    refine lv_iload hx hb d_A_dual_72 (lv_at hl 4 rfl) ?_
    refine lv_aload_n hx hb d_A_dual_74 rfl (lv_at hl 0 rfl) ?_
    refine k_get hx hb hG lay_A hown hw 0 rfl rfl 3 (by decide) (hG _ fl_A_16) (fun _ h9 => h9) rfl d_A_dual_75 ?_
    refine k_get hx hb hG lay_T hown hw 2 rfl rfl 1 (by decide) (hG _ fl_A_73) (fun _ h9 => h9) rfl d_A_dual_78 ?_
    refine lv_icmp_ge (tgt := 104) hx hb d_A_dual_81 (by decide) (fun hc => ?_) (fun hc => ?_)
    · exact absurd hc (nI_ge (by omega) (by omega))
    have hv0 : ∀ j, j < cols → nm (Wt (npc pl rows2 cc)) j ((fun _ => (0 : Int)) j) := hd2 _ (Nat.le_refl _) hlt
    have hnext : ∀ (f' : Nat → va_E) (w : Nat → Int32) (H : Heap) (locs : List Loc) (ls : Array Slot), RQ L own k f' adr qa ln zl → TB L own k f' τ t pa nu rs (nI q) (cols - rows2) cols rdd P (va_up Wt (npc pl rows2 cc) w) → oe own [τ, 100] f f' → (∀ j, j < cols → nm w j (dRow q cols rows2 A2 pl cc j)) → lv_has ls 6 [(0, .ref xa), (1, .int (zI a)), (2, .int (zI b)), (3, .ref t2), (4, .int (nI (npc pl rows2 cc))), (5, .int (nI cc))] → gw D cls (tyl k) L s s.heap f' H locs → W p l e (rmN 7) s m args below meth c H locs 0 0 Q (F0 m 101 ls []) := by
      intro f' w H locs ls hR' hT' ho' hw' hl hg
      -- METHOD A_dual | loc 0=xa 1=a 2=b 3=t2 4=row 5=cc | ws xa t2 t | fld xa.spare=t
      refine lv_iinc (k := 4) hx hb d_A_dual_101 hl rfl (ii1 (npc pl rows2 cc)) (by decide) rfl (fun ls hl => ?_)
      refine lv_iinc (k := 5) hx hb d_A_dual_104 hl rfl (ii1 cc) (by decide) rfl (fun ls hl => ?_)
      refine lv_goto (tgt := 54) hx hb d_A_dual_107 (by decide) ?_
      have hl := lv_sub hl [2, 3, 4, 5, 1, 0] rfl
      refine ih (cc + 1) f' _ H locs ls (by omega) hT' (hF.keep ho' (by simp; exact ⟨hne, hτ20⟩)) (hX.keep ho' (by simp; exact fun e => hτ e.symm)) hR' (ho.trans ho') (fun r hr j hj => ?_) (fun r hr1 hr2 j hj => ?_) (by rw [en]; exact hl) hg
      · rw [en] at hr
        by_cases er : r = npc pl rows2 cc
        · rw [er, va_up_self, hdc]; exact hw' j hj
        · rw [va_up_ne _ _ er]; exact hd1 r (by omega) j hj
      · rw [en] at hr1
        rw [va_up_ne _ _ (by omega)]; exact hd2 r (by omega) hr2 j hj
    refine lv_aload_n hx hb d_A_dual_84 rfl (lv_at hl 0 rfl) ?_
    refine lv_aload_n hx hb d_A_dual_85 rfl (lv_at hl 3 rfl) ?_
    have hw := hg
    refine g_or (c_V (np := 1) S (m_A_kindOf l D hX hF hτ2 (by omega)) hw (hX.2.2.2.1.1) (hX.1) rfl ml_A_97 im_A_kindOf se_A_A_kindOf in_A co_A_kindOf (by decide +kernel) rfl ⟨rfl, rfl, by decide, by decide⟩ hl.1 rfl (by simp [Value.category]) d_A_dual_86 ⟨Nat.zero_le _, Nat.zero_le _⟩) hw (fun r2 f2 H locs hp2 hg => ?_)
    obtain ⟨e2, e3⟩ := hp2
    rw [e2] at hg
    have hw : kw D cls (tyl k) L s s.heap f [(xa, cA ta qa pr t), (t2, cT (nI q) (nI rows2) (nI cols) rd2 pa2 nu2), (t, cT (nI q) (nI (cols - rows2)) (nI cols) rdd pa nu)] H locs := ⟨f, hg, du_kn hX hT hF hτ hτ2 hne⟩
    by_cases h0 : q = 0
    · rw [if_pos h0] at e3
      subst e3
      have hrd0 : rd 0 cols rows2 A2 pl := by rw [h0] at hrd; exact hrd
      have htl0 : ∀ r, r < rows2 → tl 0 cols (A2 r) (pl r) := fun r hr => by have := htl r hr; rw [h0] at this; exact this
      have eD : dRow q cols rows2 A2 pl cc = fdq A2 cc pl cols (fun _ => 0) rows2 := by unfold dRow; rw [if_pos h0]
      refine lv_aload_n hx hb d_A_dual_89 rfl (lv_at hl 0 rfl) ?_
      refine k_get hx hb hG lay_A hown hw 0 rfl rfl 3 (by decide) (hG _ fl_A_16) (fun _ h9 => h9) rfl d_A_dual_90 ?_
      refine lv_iload hx hb d_A_dual_93 (lv_at hl 4 rfl) ?_
      refine lv_aload_n hx hb d_A_dual_95 rfl (lv_at hl 3 rfl) ?_
      refine lv_iload hx hb d_A_dual_96 (lv_at hl 5 rfl) ?_
      have hw := hg
      refine g_ov (c_A (np := 4) S (tb_fillDualQ l D (row := npc pl rows2 cc) (col := cc) hT hF hR (by omega) hcols hrows2 hlt hcc hτ0 hτ20 hne hA2 hplc hv0 (fun r hr j hj => NB_lt (fdq_bd hrd0 htl0 (hsm h0) hcc hno (by omega) hj))) hw (hR.1.1) (hR.2.2.2.2.choose_spec.choose_spec.choose_spec.2.2.1) rfl ml_A_101 sm_K_fillDual im_Q_fillDual se_Q_Q_fillDual in_Q co_Q_fillDual hw.1.2.2.2.2 (by decide +kernel) rfl ⟨rfl, rfl, by decide, by decide⟩ hl.1 rfl (by simp [Value.category]) d_A_dual_98 ⟨Nat.zero_le _, Nat.zero_le _⟩) hw (fun f3 H locs hp3 hg => ?_)
      obtain ⟨hR3, w3, hT3, ho3, hw3⟩ := hp3
      exact hnext f3 w3 H locs ls hR3 hT3 ho3 (by rw [eD]; exact hw3) hl hg
    · rw [if_neg h0] at e3
      subst e3
      have hpr := hq.resolve_left h0
      have h2 := hpr.1
      have eD : dRow q cols rows2 A2 pl cc = fdp A2 cc pl q (fun _ => 0) rows2 := by unfold dRow; rw [if_neg h0]
      have hres : ∀ i j, i < rows2 → j < cols → rsd q (A2 i j) := fun i j hi hj => by
        have := htl i hi
        unfold tl at this
        rw [if_neg (by omega)] at this
        exact this.2 j hj
      refine lv_aload_n hx hb d_A_dual_89 rfl (lv_at hl 0 rfl) ?_
      refine k_get hx hb hG lay_A hown hw 0 rfl rfl 3 (by decide) (hG _ fl_A_16) (fun _ h9 => h9) rfl d_A_dual_90 ?_
      refine lv_iload hx hb d_A_dual_93 (lv_at hl 4 rfl) ?_
      refine lv_aload_n hx hb d_A_dual_95 rfl (lv_at hl 3 rfl) ?_
      refine lv_iload hx hb d_A_dual_96 (lv_at hl 5 rfl) ?_
      have hw := hg
      refine g_ov (c_A (np := 4) S (tb_fillDualP l D r2 (row := npc pl rows2 cc) (col := cc) hT hF (by omega) hcols hrows2 hlt hcc hne hA2 hplc hv0 rfl (by omega) hq2 hres) hw (hX.2.2.2.2.2.1) (hX.2.2.1) rfl ml_A_101 sm_K_fillDual im_P_fillDual se_P_P_fillDual in_P co_P_fillDual hw.1.2.2.2.2 (by decide +kernel) rfl ⟨rfl, rfl, by decide, by decide⟩ hl.1 rfl (by simp [Value.category]) d_A_dual_98 ⟨Nat.zero_le _, Nat.zero_le _⟩) hw (fun f3 H locs hp3 hg => ?_)
      obtain ⟨w3, hT3, ho3, hw3⟩ := hp3
      have ho3' : oe own [τ, 100] f f3 := ho3.mono (fun x hx => by simp at hx ⊢; exact Or.inl hx)
      exact hnext f3 w3 H locs ls (hR.keep ho3 (by simp; exact fun e => hτ0 e.symm)) hT3 ho3' (by rw [eD]; exact hw3) hl hg
end DUAL
section PUB4
variable (l : Launch) (D : va_G) {L : List Nat} {own : Nat → Nat} {k : Nat → ClassId} {f : Nat → va_E} {xa ta qa pr ln : Nat} {tO tP tN adr : Nat → Nat} {zl : Nat → Option Nat} {π : Nat → Nat} {st : Nat → Tb}
set_option maxRecDepth 100000 in
set_option maxHeartbeats 4000000 in
theorem m_A_dual (h : CS L own k f xa ta qa pr ln tO tP tN adr zl π st) (hok : ∀ i, i < 8 → okT (st i)) {a b : Int} (ha : rI a) (hb' : rI b) : Mi l y_A_dual (Cond.code y_A_dual c_A_dual 6 (some .int) :: G) (rmN 7) D cls (tyl k) L f [.ref xa, .int (zI a), .int (zI b)] (fun r f' => ∃ π' st', CS L own k f' xa ta qa pr ln tO tP tN adr zl π' st' ∧ oe own CO f f' ∧ spDual st a b st' r) := by
  have hcs := h
  obtain ⟨zt, hX, hzt, hR, hπ, hC, hsp⟩ := h
  -- METHOD A_dual | loc 0=xa 1=a 2=b | ws xa ta t pa | fld xa.tables=ta xa.spare=s0
  refine mk_met (by decide) (Nat.le_of_ble_eq_true rfl) (fun p e s m below meth c ls S hr hlocks hw hl => ?_)
  have hx := S.1
  have hb := S.2.1
  have hown : s.vm.findClass R_A = some m.cls := S.2.2.2.1
  have hG := S.2.2.2.2
  have hl : lv_has ls 6 [(0, .ref xa), (1, .int (zI a)), (2, .int (zI b))] := hl
  have hg := hw
  refine lv_iload_n hx hb d_A_dual_0 rfl (lv_at hl 1 rfl) ?_
  refine g_oi (c_X (np := 1) S (m_A_isTable l D k L f ha) hw ml_A_34 st_A_isTable in_A co_A_isTable (by decide +kernel) rfl ⟨rfl, rfl, by decide, by decide⟩ hl.1 rfl (by simp [Value.category]) d_A_dual_1 ⟨Nat.zero_le _, Nat.zero_le _⟩) hw (fun r1 f1 H locs hp hg => ?_)
  rw [hp.1] at hg
  refine l_top hp.2 ?_
  refine lv_if_eq (tgt := 15) hx hb d_A_dual_4 (by decide) (fun hc => ?_) (fun hc => ?_)
  · have hn : ¬ (0 ≤ a ∧ a < 8) := fun q => by rw [if_pos q] at hc; exact absurd hc (by decide)
    refine lv_iconst (v := (-1)) hx hb d_A_dual_15 (by decide) ?_
    exact g_reti hx hb hr hlocks hg ⟨π, st, hcs, oe.rf, Or.inr ⟨fun q => hn ⟨q.1, q.2.1⟩, rfl, rfl⟩⟩ d_A_dual_16
  have hn : 0 ≤ a ∧ a < 8 := Classical.byContradiction fun q => hc (if_neg q)
  obtain ⟨i, rfl⟩ : ∃ i : Nat, a = i := ⟨a.toNat, by omega⟩
  have hi : i < 8 := by omega
  have hw := hg
  refine lv_aload_n hx hb d_A_dual_7 rfl (lv_at hl 0 rfl) ?_
  refine lv_iload_n hx hb d_A_dual_8 rfl (lv_at hl 2 rfl) ?_
  refine g_oi (c_V (np := 1) S (m_A_isReduced l D hcs hb') hw (hX.2.2.2.1.1) (hX.1) rfl ml_A_88 im_A_isReduced se_A_A_isReduced in_A co_A_isReduced (by decide +kernel) rfl ⟨rfl, rfl, by decide, by decide⟩ hl.1 rfl (by simp [Value.category]) d_A_dual_9 ⟨Nat.zero_le _, Nat.zero_le _⟩) hw (fun r1 f1 H locs hp hg => ?_)
  obtain ⟨e1, hp⟩ := hp
  rw [e1] at hg
  rcases hp with ⟨er, j, h1, hj, hred⟩ | ⟨er, hno⟩
  rotate_left
  · subst er
    refine lv_if_ne (tgt := 17) hx hb d_A_dual_12 (by decide) (fun hc => ?_) (fun hc => ?_)
    · exact absurd rfl hc
    refine lv_iconst (v := (-1)) hx hb d_A_dual_15 (by decide) ?_
    exact g_reti hx hb hr hlocks hg ⟨π, st, hcs, oe.rf, Or.inr ⟨fun q => hno q.2.2, rfl, rfl⟩⟩ d_A_dual_16
  subst er
  subst h1
  obtain ⟨rs, P, Wt, hT, hA, hP⟩ := hC j hj
  obtain ⟨rs0, fd0, rows0, cols0, rd0, P0, W0, hS⟩ := hsp
  have hokj := hok j hj
  obtain ⟨hq, h251, hrw, hcl, -, hRd⟩ := hok j hj
  obtain ⟨hrd, htl, hsm⟩ := hRd hred
  have hpj := hπ.1 j (by omega)
  have hp8 := hπ.1 8 (by omega)
  have hne : π j ≠ π 8 := fun e => by have := hπ.2 j 8 (by omega) (by omega) e; omega
  have hle := rd_le hrd
  have hw : kw D cls (tyl k) L s s.heap f [(xa, cA ta qa pr (tO (π 8))), (ta, cTs k zt), (tO (π j), cT (nI (st j).q) (nI (st j).rows) (nI (st j).cols) (if (st j).red then 1 else 0) (tP (π j)) (tN (π j))), (tP (π j), cP k P)] H locs := ⟨f, hg, xa_kn4 hX hT (by have := hπ.1 j (by omega); omega)⟩
  refine lv_if_ne (tgt := 17) hx hb d_A_dual_12 (by decide) (fun hc => ?_) (fun hc => ?_)
  rotate_left
  · exact absurd hc (by decide)
  refine lv_aload_n hx hb d_A_dual_17 rfl (lv_at hl 0 rfl) ?_
  refine k_get hx hb hG lay_A hown hw 0 rfl rfl 0 (by decide) (hG _ fl_A_11) (fun _ h9 => h9) rfl d_A_dual_18 ?_
  refine lv_iload_n hx hb d_A_dual_21 rfl (lv_at hl 2 rfl) ?_
  refine k_aald hx hb hw 1 2 rfl rfl (j) (rfl) (hj) (by first | decide | omega) (hzt j hj) d_A_dual_22 ?_
  refine lv_astore_n hx hb d_A_dual_23 rfl hl (by decide) rfl (fun ls hl => ?_)
  refine lv_aload_n hx hb d_A_dual_24 rfl (lv_at hl 1 rfl) ?_
  refine k_get hx hb hG lay_A hown hw 0 rfl rfl 3 (by decide) (hG _ fl_A_16) (fun _ h9 => h9) rfl d_A_dual_25 ?_
  refine lv_aload_n hx hb d_A_dual_28 rfl (lv_at hl 0 rfl) ?_
  refine k_get hx hb hG lay_T hown hw 2 rfl rfl 0 (by decide) (hG _ fl_A_56) (fun _ h9 => h9) rfl d_A_dual_29 ?_
  refine lv_aload_n hx hb d_A_dual_32 rfl (lv_at hl 0 rfl) ?_
  refine k_get hx hb hG lay_T hown hw 2 rfl rfl 2 (by decide) (hG _ fl_A_91) (fun _ h9 => h9) rfl d_A_dual_33 ?_
  refine lv_aload_n hx hb d_A_dual_36 rfl (lv_at hl 0 rfl) ?_
  refine k_get hx hb hG lay_T hown hw 2 rfl rfl 1 (by decide) (hG _ fl_A_73) (fun _ h9 => h9) rfl d_A_dual_37 ?_
  refine lv_isub hx hb d_A_dual_40 ?_
  refine l_top (nI_sb hle) ?_
  refine lv_aload_n hx hb d_A_dual_41 rfl (lv_at hl 0 rfl) ?_
  refine k_get hx hb hG lay_T hown hw 2 rfl rfl 2 (by decide) (hG _ fl_A_91) (fun _ h9 => h9) rfl d_A_dual_42 ?_
  have hw := hg
  refine g_ov (c_V (np := 3) S (tb_start l D hS (fd' := nI (st j).q) (rows' := (st j).cols - (st j).rows) (cols' := (st j).cols) (by omega)) hw (hS.1.1.1) (hS.2.1) rfl ml_A_44 im_T_start se_T_T_start in_T co_T_start (by decide +kernel) rfl ⟨rfl, rfl, by decide, by decide⟩ hl.1 rfl (by simp [Value.category]) d_A_dual_45 ⟨Nat.zero_le _, Nat.zero_le _⟩) hw (fun f2 H locs hp2 hg => ?_)
  obtain ⟨W2, hT2, ho2, hz2⟩ := hp2
  refine lv_iconst (v := 0) hx hb d_A_dual_48 (by decide) ?_
  refine lv_istore hx hb d_A_dual_49 hl (by decide) rfl (fun ls hl => ?_)
  refine lv_iconst (v := 0) hx hb d_A_dual_51 (by decide) ?_
  refine lv_istore hx hb d_A_dual_52 hl (by decide) rfl (fun ls hl => ?_)
  have hl := lv_sub hl [3, 4, 5, 2, 1, 0] rfl
  have hF2 := hT.keep ho2 (by simp; exact hne)
  have hX2 := hX.keep ho2 (by simp; omega)
  have hR2 := hR.keep ho2 (by simp; omega)
  have ho2' : oe own [π 8, 100] f f2 := ho2.mono (fun x hx => by simp at hx ⊢; exact Or.inl hx)
  refine w_dual (pl := (st j).pl) (A2 := (st j).A) (f0 := f) S (by omega) (by omega) (by omega) (by omega) hne hq h251 hrw hcl hA hrd htl (fun h0 => (hsm h0).2) (hP hred) (fun f9 W3 H locs ls hT3 hF3 hX3 hR3 ho3 hA3 hl hg => ?_) (st j).cols 0 f2 W2 H locs ls (by omega) hT2 hF2 hX2 hR2 ho2' (fun r hr => absurd hr (Nat.not_lt_zero r)) (fun r _ hr x hx => nm_zero (hz2 r hr _ (by omega))) hl hg
  obtain ⟨N, V, hXX, hI⟩ := dual_start hokj hred id 4095
  have hw : kw D cls (tyl k) L s s.heap f9 [(xa, cA ta qa pr (tO (π 8))), (ta, cTs k zt)] H locs := ⟨f9, hg, xa_kn2 hX3⟩
  refine lv_aload_n hx hb d_A_dual_110 rfl (lv_at hl 0 rfl) ?_
  refine lv_iload_n hx hb d_A_dual_111 rfl (lv_at hl 1 rfl) ?_
  refine lv_aload_n hx hb d_A_dual_112 rfl (lv_at hl 0 rfl) ?_
  refine lv_aload_n hx hb d_A_dual_113 rfl (lv_at hl 0 rfl) ?_
  refine k_get hx hb hG lay_A hown hw 0 rfl rfl 3 (by decide) (hG _ fl_A_16) (fun _ h9 => h9) rfl d_A_dual_114 ?_
  refine lv_sipush (v := 4095) hx hb d_A_dual_117 (by decide) ?_
  have hw := hg
  refine g_oi (c_V (np := 2) S (tb_sweepX l D (set := 4095) hX3 hT3 hR3 (by omega) (by omega) (by omega) (by decide) (by omega) hcl hXX hA3 hI) hw (hX3.2.2.2.1.1) (hX3.1) rfl ml_A_69 im_A_sweep se_A_A_sweep in_A co_A_sweep (by decide +kernel) rfl ⟨rfl, rfl, by decide, by decide⟩ hl.1 rfl (by simp [Value.category]) d_A_dual_120 ⟨Nat.zero_le _, Nat.zero_le _⟩) hw (fun r4 f4 H locs hp4 hg => ?_)
  obtain ⟨hR4, n, rs4, W4, P4, A4, pl4, er, hn4, hT4, ho4, hA4, hI4, hP4⟩ := hp4
  subst er
  have hX4 := hX3.keep ho4 (by simp; omega)
  have hw := hg
  refine g_oi (c_V (np := 2) S (m_A_keepSpare l D hX4 hT4 (by omega) (i := i) (n := n) hi (hzt i hi)) hw (hX4.2.2.2.1.1) (hX4.1) rfl ml_A_107 im_A_keepSpare se_A_A_keepSpare in_A co_A_keepSpare (by decide +kernel) rfl ⟨rfl, rfl, by decide, by decide⟩ hl.1 rfl (by simp [Value.category]) d_A_dual_123 ⟨Nat.zero_le _, Nat.zero_le _⟩) hw (fun r5 f5 H locs hp5 hg => ?_)
  obtain ⟨er, hX5, hT5, ho5⟩ := hp5
  subst er
  have hL := inv_LR hXX (fun j hj => bs4095 j (by omega)) hI4
  have hD := dual_sp (dmX hq) hrd (dD_of hq hrd htl)
  have ho : oe own [π 8, 100, 101] f f5 := (ho3.mono (fun x hx => by simp at hx ⊢; omega)).trans ((ho4.mono (fun x hx => by simp at hx ⊢; omega)).trans (ho5.mono (fun x hx => by simp at hx ⊢; omega)))
  obtain ⟨g1, g2⟩ := CS_swap hcs hzt hi (y := mkT (st j).q n (st j).cols true A4 pl4) hX5 ⟨rs4, P4, W4, hT5, fun x hx j hj => hA4 x (by have : x < n := hx; omega) j hj, fun _ x hx => hP4 x hx⟩ (hR4.keep ho5 (by simp; omega)) ho
  exact g_reti hx hb hr hlocks hg ⟨_, _, g1, g2, Or.inl ⟨i, j, rfl, hi, rfl, hj, hred, mkT (st j).q n (st j).cols true A4 pl4, ⟨rfl, rfl, rfl, hL.1, hL.2.1, hL.2.2.1, fun x => (hD x).trans (hL.2.2.2 x)⟩, rfl, rfl⟩⟩ d_A_dual_126
end PUB4


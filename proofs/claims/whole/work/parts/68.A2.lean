-- ===== LineTables: sweep =====
theorem mt_sw {Wt : Nat → Nat → Int32} {rows cols a b : Nat} {A : Nat → Nat → Int} (h : mt Wt rows cols A) (ha : a < rows) (hb : b < rows) : mt (sw Wt a b) rows cols (sw A a b) := by
  intro i hi j hj
  by_cases e2 : i = b
  · rw [e2, sw_right, sw_right]; exact h a ha j hj
  · by_cases e1 : i = a
    · rw [e1, sw_left, sw_left]; exact h b hb j hj
    · rw [sw_other _ e1 e2, sw_other _ e1 e2]; exact h i hi j hj
theorem nI_nem {a : Nat} (h : a < 2147483648) : ¬ nI a = -1 := fun e => by
  have h1 := (zI_eq (a := (a : Int)) (b := -1) (rI_n h) ⟨by decide, by decide⟩).mp (by rw [zI_n, e]; decide)
  omega
section SWP
variable {p : Program} {l : Launch} {e : Env} {s : State} {m : MethodId} {args : Array Value} {below : List Frame} {meth : Method} {c : Code} {Q : State → Prop} {D : va_G} {k : Nat → ClassId} {L : List Nat} {H0 : Heap}
variable {own : Nat → Nat} {τ t pa nu : Nat} {rows cols : Nat} {rd : Int32} {adr : Nat → Nat} {qa ln : Nat} {zl : Nat → Option Nat} {xa ta pr sp : Nat} {zt : Nat → Option Nat} {q set : Nat} {Inv : Nat → Nat → (Nat → Nat → Int) → (Nat → Nat) → Prop}
set_option maxRecDepth 100000 in
set_option maxHeartbeats 4000000 in
theorem w_swp (S : CallFix p m c c_A_sweep 6 s args G R_A) (hr : meth.sig.returnType = some .int) (hlocks : meth.locks = false) (hτ0 : τ ≠ 100) (hτ : τ ≠ 101) (hq : q < 2 ^ 31) (hset : set < 2 ^ 31) (hrows : rows ≤ 12) (hcols : cols ≤ 12) (hskip : ∀ c n A pl, Inv c n A pl → c < cols → (set / 2 ^ c % 2 = 0 ∨ ∀ x, n ≤ x → x < rows → A x c = 0) → Inv (c + 1) n A pl) (hpiv : ∀ c n A pl r, Inv c n A pl → c < cols → set / 2 ^ c % 2 = 1 → n ≤ r → r < rows → A r c ≠ 0 → (∀ x, n ≤ x → x < r → A x c = 0) → pvok q (sw A n r) rows cols n c ∧ ∀ B, pvr q (sw A n r) rows cols n c B → Inv (c + 1) (n + 1) B (va_up pl n c)) {f0 : Nat → va_E} :
    ∀ (i cc n : Nat) (f : Nat → va_E) (rs : Nat → Nat) (Wt : Nat → Nat → Int32) (P : Nat → Int32) (A : Nat → Nat → Int) (pl : Nat → Nat) (H : Heap) (locs : List Loc) (ls : Array Slot), cc + i = cols → n ≤ rows → TB L own k f τ t pa nu rs (nI q) rows cols rd P Wt → XA L own k f xa ta qa pr sp zt → RQ L own k f adr qa ln zl → oe own [τ, 100] f0 f → mt Wt rows cols A → Inv cc n A pl → (∀ i, i < n → P i = nI (pl i)) → lv_has ls 6 [(0, .ref xa), (1, .ref t), (2, .int (nI set)), (3, .int (nI n)), (4, .int (nI cc))] → gw D cls (tyl k) L s s.heap f H locs →
    W p l e (rmN 6) s m args below meth c H locs 0 0 (MQ below (va_Qi (fun r f' => RQ L own k f' adr qa ln zl ∧ ∃ (n : Nat) (rs : Nat → Nat) (Wt : Nat → Nat → Int32) (P : Nat → Int32) (A : Nat → Nat → Int) (pl : Nat → Nat), r = nI n ∧ n ≤ rows ∧ TB L own k f' τ t pa nu rs (nI q) rows cols rd P Wt ∧ oe own [τ, 100] f0 f' ∧ mt Wt rows cols A ∧ Inv cols n A pl ∧ ∀ i, i < n → P i = nI (pl i)) (mst D cls (tyl k) L) (fun q => q ∈ L)) args s 0 0 (fun q => q ∈ L)) (F0 m 5 ls []) := by
  have hx := S.1
  have hb := S.2.1
  have hown : s.vm.findClass R_A = some m.cls := S.2.2.2.1
  have hG := S.2.2.2.2
  intro i
  induction i with
  | zero =>
    intro cc n f rs Wt P A pl H locs ls hj hn hT hX hR ho hA hI hP hl hg
    have hj : cc = cols := by omega
    subst hj
    have hw : kw D cls (tyl k) L s s.heap f [(t, cT (nI q) (nI rows) (nI cc) rd pa nu)] H locs := ⟨f, hg, hT.kn1⟩
    -- METHOD A_sweep | loc 0=xa 1=t 2=set 3=n 4=cc | ws t
    refine lv_iload hx hb d_A_sweep_5 (lv_at hl 4 rfl) ?_
    refine lv_aload_n hx hb d_A_sweep_7 rfl (lv_at hl 1 rfl) ?_
    refine k_get hx hb hG lay_T hown hw 0 rfl rfl 2 (by decide) (hG _ fl_A_91) (fun _ h9 => h9) rfl d_A_sweep_8 ?_
    refine lv_icmp_ge (tgt := 66) hx hb d_A_sweep_11 (by decide) (fun hc => ?_) (fun hc => ?_)
    · -- LOC 0=xa 1=t 2=set 3=n 4=cc
      refine lv_iload_n hx hb d_A_sweep_66 rfl (lv_at hl 3 rfl) ?_
      exact g_reti hx hb hr hlocks hg ⟨hR, n, rs, Wt, P, A, pl, rfl, hn, hT, ho, hA, hI, hP⟩ d_A_sweep_67
    · exact absurd (nI_le (Nat.le_refl _) (by omega)) hc
  | succ i ih =>
    intro cc n f rs Wt P A pl H locs ls hj hn hT hX hR ho hA hI hP hl hg
    have hw : kw D cls (tyl k) L s s.heap f [(t, cT (nI q) (nI rows) (nI cols) rd pa nu)] H locs := ⟨f, hg, hT.kn1⟩
    have hm2 : set / 2 ^ cc % 2 < 2 := Nat.mod_lt _ (by omega)
    have hskp : (set / 2 ^ cc % 2 = 0 ∨ ∀ x, n ≤ x → x < rows → A x cc = 0) → ∀ (ls : Array Slot) (H : Heap) (locs : List Loc), lv_has ls 6 [(0, .ref xa), (1, .ref t), (2, .int (nI set)), (3, .int (nI n)), (4, .int (nI cc))] → gw D cls (tyl k) L s s.heap f H locs → W p l e (rmN 6) s m args below meth c H locs 0 0 (MQ below (va_Qi (fun r f' => RQ L own k f' adr qa ln zl ∧ ∃ (n : Nat) (rs : Nat → Nat) (Wt : Nat → Nat → Int32) (P : Nat → Int32) (A : Nat → Nat → Int) (pl : Nat → Nat), r = nI n ∧ n ≤ rows ∧ TB L own k f' τ t pa nu rs (nI q) rows cols rd P Wt ∧ oe own [τ, 100] f0 f' ∧ mt Wt rows cols A ∧ Inv cols n A pl ∧ ∀ i, i < n → P i = nI (pl i)) (mst D cls (tyl k) L) (fun q => q ∈ L)) args s 0 0 (fun q => q ∈ L)) (F0 m 34 ls [.int (-1)]) := by
      intro h ls H locs hl hg
      -- METHOD A_sweep | loc 0=xa 1=t 2=set 3=n 4=cc | ws t
      refine lv_istore hx hb d_A_sweep_34 hl (by decide) rfl (fun ls hl => ?_)
      refine lv_iload hx hb d_A_sweep_36 (lv_at hl 0 rfl) ?_
      refine lv_iconst (v := (-1)) hx hb d_A_sweep_38 (by decide) ?_
      refine lv_icmp_eq (tgt := 60) hx hb d_A_sweep_39 (by decide) (fun hc => ?_) (fun hc => ?_)
      · refine lv_iinc (k := 5) hx hb d_A_sweep_60 hl rfl (ii1 cc) (by decide) rfl (fun ls hl => ?_)
        refine lv_goto (tgt := 5) hx hb d_A_sweep_63 (by decide) ?_
        have hl := lv_sub hl [2, 3, 4, 5, 0] rfl
        exact ih (cc + 1) n f rs Wt P A pl H locs ls (by omega) hn hT hX hR ho hA (hskip cc n A pl hI (by omega) h) hP hl hg
      · exact absurd rfl hc
    -- METHOD A_sweep | loc 0=xa 1=t 2=set 3=n 4=cc | ws t
    refine lv_iload hx hb d_A_sweep_5 (lv_at hl 4 rfl) ?_
    refine lv_aload_n hx hb d_A_sweep_7 rfl (lv_at hl 1 rfl) ?_
    refine k_get hx hb hG lay_T hown hw 0 rfl rfl 2 (by decide) (hG _ fl_A_91) (fun _ h9 => h9) rfl d_A_sweep_8 ?_
    refine lv_icmp_ge (tgt := 66) hx hb d_A_sweep_11 (by decide) (fun hc => ?_) (fun hc => ?_)
    · exact absurd hc (nI_ge (by omega) (by omega))
    · -- STK
      refine lv_iload_n hx hb d_A_sweep_14 rfl (lv_at hl 2 rfl) ?_
      refine lv_iload hx hb d_A_sweep_15 (lv_at hl 4 rfl) ?_
      refine lv_ishr hx hb d_A_sweep_17 ?_
      refine lv_iconst (v := 1) hx hb d_A_sweep_18 (by decide) ?_
      refine lv_iand hx hb d_A_sweep_19 ?_
      refine l_top (bit_of hset (show cc < 32 by omega)) ?_
      refine lv_if_ne (tgt := 27) hx hb d_A_sweep_20 (by decide) (fun hc => ?_) (fun hc => ?_)
      · have hb1 : set / 2 ^ cc % 2 = 1 := by
          rcases (show set / 2 ^ cc % 2 = 0 ∨ set / 2 ^ cc % 2 = 1 by omega) with h | h
          · rw [h] at hc; exact absurd rfl hc
          · exact h
        refine lv_aload_n hx hb d_A_sweep_27 rfl (lv_at hl 1 rfl) ?_
        refine lv_iload_n hx hb d_A_sweep_28 rfl (lv_at hl 3 rfl) ?_
        refine lv_iload hx hb d_A_sweep_29 (lv_at hl 4 rfl) ?_
        have hw := hg
        refine g_oi (c_V (np := 2) S (tb_findRow l D hT hrows (col := cc) (from1 := n) (by omega) hn (A := A) (fun i hi => hA i hi cc (by omega))) hw (hT.1.1.1) (hT.2.1) rfl ml_A_136 im_T_findRow se_T_T_findRow in_T co_T_findRow (by decide +kernel) rfl ⟨rfl, rfl, by decide, by decide⟩ hl.1 rfl (by simp [Value.category]) d_A_sweep_31 ⟨Nat.zero_le _, Nat.zero_le _⟩) hw (fun r1 f1 H locs hp hg => ?_)
        obtain ⟨e1, hp⟩ := hp
        rw [e1] at hg
        rcases hp with ⟨r, hr1, hr2, er, hr3, hr4⟩ | ⟨er, hall⟩
        · refine l_top er ?_
          obtain ⟨hok, hnext⟩ := hpiv cc n A pl r hI (by omega) hb1 hr1 hr2 hr3 hr4
          refine lv_istore hx hb d_A_sweep_34 hl (by decide) rfl (fun ls hl => ?_)
          refine lv_iload hx hb d_A_sweep_36 (lv_at hl 0 rfl) ?_
          refine lv_iconst (v := (-1)) hx hb d_A_sweep_38 (by decide) ?_
          refine lv_icmp_eq (tgt := 60) hx hb d_A_sweep_39 (by decide) (fun hc => ?_) (fun hc => ?_)
          · exact absurd hc (nI_nem (by omega))
          · -- STK
            refine lv_aload_n hx hb d_A_sweep_42 rfl (lv_at hl 2 rfl) ?_
            refine lv_iload_n hx hb d_A_sweep_43 rfl (lv_at hl 4 rfl) ?_
            refine lv_iload hx hb d_A_sweep_44 (lv_at hl 0 rfl) ?_
            have hw := hg
            refine g_ov (c_V (np := 2) S (tb_swap l D hT (a := n) (b := r) (by omega) (by omega)) hw (hT.1.1.1) (hT.2.1) rfl ml_A_139 im_T_swapRows se_T_T_swapRows in_T co_T_swapRows (by decide +kernel) rfl ⟨rfl, rfl, by decide, by decide⟩ hl.1 rfl (by simp [Value.category]) d_A_sweep_46 ⟨Nat.zero_le _, Nat.zero_le _⟩) hw (fun f2 H locs hp2 hg => ?_)
            obtain ⟨hT2, ho2⟩ := hp2
            have hX2 := hX.keep ho2 (by simp; omega)
            have hR2 := hR.keep ho2 (by simp; omega)
            refine lv_aload_n hx hb d_A_sweep_49 rfl (lv_at hl 1 rfl) ?_
            refine lv_aload_n hx hb d_A_sweep_50 rfl (lv_at hl 2 rfl) ?_
            refine lv_iload_n hx hb d_A_sweep_51 rfl (lv_at hl 4 rfl) ?_
            refine lv_iload hx hb d_A_sweep_52 (lv_at hl 5 rfl) ?_
            have hw := hg
            refine g_ov (c_V (np := 3) S (tb_pivot l D hX2 hT2 hR2 hτ0 hτ hq hrows hcols (row := n) (col := cc) (by omega) (by omega) (mt_sw hA (by omega) hr2) hok) hw (hX2.2.2.2.1.1) (hX2.1) rfl ml_A_84 im_A_pivot se_A_A_pivot in_A co_A_pivot (by decide +kernel) rfl ⟨rfl, rfl, by decide, by decide⟩ hl.1 rfl (by simp [Value.category]) d_A_sweep_54 ⟨Nat.zero_le _, Nat.zero_le _⟩) hw (fun f3 H locs hp3 hg => ?_)
            obtain ⟨g1, W3, B, g2, g3, g4, g5⟩ := hp3
            refine lv_iinc (k := 4) hx hb d_A_sweep_57 hl rfl (ii1 n) (by decide) rfl (fun ls hl => ?_)
            refine lv_iinc (k := 5) hx hb d_A_sweep_60 hl rfl (ii1 cc) (by decide) rfl (fun ls hl => ?_)
            refine lv_goto (tgt := 5) hx hb d_A_sweep_63 (by decide) ?_
            have hl := lv_sub hl [3, 4, 5, 1, 0] rfl
            refine ih (cc + 1) (n + 1) f3 _ W3 _ B _ H locs ls (by omega) (by omega) g2 (hX2.keep g3 (by simp; omega)) g1 ((ho.trans (ho2.mono (by simp))).trans g3) g4 (hnext B g5) (fun i hi => ?_) hl hg
            by_cases e : i = n
            · rw [e, pk_us, va_up_self]
            · rw [pk_un e, va_up_ne _ _ e]; exact hP i (by omega)
        · refine l_top er ?_
          exact hskp (Or.inr hall) ls H locs hl hg
      · have hb1 : set / 2 ^ cc % 2 = 0 := by
          rcases (show set / 2 ^ cc % 2 = 0 ∨ set / 2 ^ cc % 2 = 1 by omega) with h | h
          · exact h
          · rw [h] at hc; exact absurd hc (by decide)
        refine lv_iconst (v := (-1)) hx hb d_A_sweep_23 (by decide) ?_
        refine lv_goto (tgt := 34) hx hb d_A_sweep_24 (by decide) ?_
        exact hskp (Or.inl hb1) ls H locs hl hg
end SWP
section SWM
variable (l : Launch) (D : va_G) {L : List Nat} {k : Nat → ClassId} {f : Nat → va_E} {own : Nat → Nat} {τ t pa nu : Nat} {rs : Nat → Nat} {rows cols : Nat} {rd : Int32} {P : Nat → Int32} {Wt : Nat → Nat → Int32} {adr : Nat → Nat} {qa ln : Nat} {zl : Nat → Option Nat} {xa ta pr sp : Nat} {zt : Nat → Option Nat} {q set : Nat} {Inv : Nat → Nat → (Nat → Nat → Int) → (Nat → Nat) → Prop} {A : Nat → Nat → Int} {pl : Nat → Nat}
set_option maxRecDepth 100000 in
set_option maxHeartbeats 4000000 in
theorem tb_sweep (hX : XA L own k f xa ta qa pr sp zt) (hT : TB L own k f τ t pa nu rs (nI q) rows cols rd P Wt) (hR : RQ L own k f adr qa ln zl) (hτ0 : τ ≠ 100) (hτ : τ ≠ 101) (hq : q < 2 ^ 31) (hset : set < 2 ^ 31) (hrows : rows ≤ 12) (hcols : cols ≤ 12) (hskip : ∀ c n A pl, Inv c n A pl → c < cols → (set / 2 ^ c % 2 = 0 ∨ ∀ x, n ≤ x → x < rows → A x c = 0) → Inv (c + 1) n A pl) (hpiv : ∀ c n A pl r, Inv c n A pl → c < cols → set / 2 ^ c % 2 = 1 → n ≤ r → r < rows → A r c ≠ 0 → (∀ x, n ≤ x → x < r → A x c = 0) → pvok q (sw A n r) rows cols n c ∧ ∀ B, pvr q (sw A n r) rows cols n c B → Inv (c + 1) (n + 1) B (va_up pl n c)) (hA : mt Wt rows cols A) (hI : Inv 0 0 A pl) : Mi l y_A_sweep (Cond.code y_A_sweep c_A_sweep 6 (some .int) :: G) (rmN 6) D cls (tyl k) L f [.ref xa, .ref t, .int (nI set)] (fun r f' => RQ L own k f' adr qa ln zl ∧ ∃ (n : Nat) (rs : Nat → Nat) (Wt : Nat → Nat → Int32) (P : Nat → Int32) (A : Nat → Nat → Int) (pl : Nat → Nat), r = nI n ∧ n ≤ rows ∧ TB L own k f' τ t pa nu rs (nI q) rows cols rd P Wt ∧ oe own [τ, 100] f f' ∧ mt Wt rows cols A ∧ Inv cols n A pl ∧ ∀ i, i < n → P i = nI (pl i)) := by
  -- METHOD A_sweep | loc 0=xa 1=t 2=set | ws t
  refine mk_met (by decide) (Nat.le_of_ble_eq_true rfl) (fun p e s m below meth c ls S hr hlocks hw hl => ?_)
  have hx := S.1
  have hb := S.2.1
  have hown : s.vm.findClass R_A = some m.cls := S.2.2.2.1
  have hG := S.2.2.2.2
  have hl : lv_has ls 6 [(0, .ref xa), (1, .ref t), (2, .int (nI set))] := hl
  have hg := hw
  refine lv_iconst (v := 0) hx hb d_A_sweep_0 (by decide) ?_
  refine lv_istore_n hx hb d_A_sweep_1 rfl hl (by decide) rfl (fun ls hl => ?_)
  refine lv_iconst (v := 0) hx hb d_A_sweep_2 (by decide) ?_
  refine lv_istore hx hb d_A_sweep_3 hl (by decide) rfl (fun ls hl => ?_)
  have hl := lv_sub hl [2, 3, 4, 1, 0] rfl
  exact w_swp S hr hlocks hτ0 hτ hq hset hrows hcols hskip hpiv cols 0 0 f rs Wt P A pl _ _ ls (by omega) (by omega) hT hX hR oe.rf hA hI (fun i hi => by omega) hl hg
end SWM


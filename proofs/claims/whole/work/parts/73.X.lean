-- ===== sweep, of either kind =====
def bsS (set : Nat) (j : Nat) : Prop := set / 2 ^ j % 2 = 1
def invX (q N n k : Nat) (V : (Nat → Int) → Prop) (bs : Nat → Prop) (A0 : Nat → Nat → Int) (c nxt : Nat) (A : Nat → Nat → Int) (pl : Nat → Nat) : Prop := (q = 0 ∧ invQ N n k V bs A0 c nxt A pl) ∨ (q ≠ 0 ∧ invP q n k bs A0 c nxt A pl)
def okX (q N n : Nat) (V : (Nat → Int) → Prop) : Prop := (q = 0 → lin N V ∧ n ≤ N ∧ smC N n V) ∧ (q ≠ 0 → prm q ∧ q ≤ 251)
theorem invX_skip {q N n k set : Nat} {V : (Nat → Int) → Prop} {A0 : Nat → Nat → Int} {c nxt : Nat} {A : Nat → Nat → Int} {pl : Nat → Nat} (h : invX q N n k V (bsS set) A0 c nxt A pl) (hs : set / 2 ^ c % 2 = 0 ∨ ∀ x, nxt ≤ x → x < k → A x c = 0) : invX q N n k V (bsS set) A0 (c + 1) nxt A pl := by
  have hs' : ¬ bsS set c ∨ ∀ x, nxt ≤ x → x < k → A x c = 0 := hs.elim (fun z => Or.inl (fun y => by unfold bsS at y; omega)) Or.inr
  rcases h with ⟨h0, h⟩ | ⟨h0, h⟩
  · exact Or.inl ⟨h0, invQ_skip h hs'⟩
  · exact Or.inr ⟨h0, invP_skip h hs'⟩
theorem invX_piv {q N n k set : Nat} {V : (Nat → Int) → Prop} (hX : okX q N n V) {A0 : Nat → Nat → Int} {c nxt r : Nat} {A : Nat → Nat → Int} {pl : Nat → Nat} (h : invX q N n k V (bsS set) A0 c nxt A pl) (hc : c < n) (hb : set / 2 ^ c % 2 = 1) (hr1 : nxt ≤ r) (hr2 : r < k) (hne : A r c ≠ 0) :
    pvok q (sw A nxt r) k n nxt c ∧ ∀ B, pvr q (sw A nxt r) k n nxt c B → invX q N n k V (bsS set) A0 (c + 1) (nxt + 1) B (va_up pl nxt c) := by
  have hne' : sw A nxt r nxt c ≠ 0 := by rw [sw_left]; exact hne
  rcases h with ⟨h0, h⟩ | ⟨h0, h⟩
  · obtain ⟨hl, hn, hs⟩ := hX.1 h0
    obtain ⟨a1, a2⟩ := invQ_piv hl hn hs h hc hb hr1 hr2 hne
    refine ⟨⟨hne', fun _ => a1, fun z => absurd h0 z⟩, fun B hB => ?_⟩
    rcases hB with ⟨-, e⟩ | ⟨z, -⟩
    · rw [e]; exact Or.inl ⟨h0, a2⟩
    · exact absurd h0 z
  · obtain ⟨hp, h251⟩ := hX.2 h0
    obtain ⟨a1, a2, a3⟩ := invP_piv hp h hc hb hr1 hr2 hne
    refine ⟨⟨hne', fun z => absurd z h0, fun _ => ⟨h251, a1, a2⟩⟩, fun B hB => ?_⟩
    rcases hB with ⟨z, -⟩ | ⟨-, x, x1, x2, x3, e⟩
    · exact absurd z h0
    · rw [e]; exact Or.inr ⟨h0, a3 x x1 x2 x3⟩
section SWX
variable (l : Launch) (D : va_G) {L : List Nat} {k : Nat → ClassId} {f : Nat → va_E} {own : Nat → Nat} {τ t pa nu : Nat} {rs : Nat → Nat} {rows cols : Nat} {rd : Int32} {P : Nat → Int32} {Wt : Nat → Nat → Int32} {adr : Nat → Nat} {qa ln : Nat} {zl : Nat → Option Nat} {xa ta pr sp : Nat} {zt : Nat → Option Nat} {q set N : Nat} {V : (Nat → Int) → Prop} {A : Nat → Nat → Int} {pl : Nat → Nat}
theorem tb_sweepX (hX : XA L own k f xa ta qa pr sp zt) (hT : TB L own k f τ t pa nu rs (nI q) rows cols rd P Wt) (hR : RQ L own k f adr qa ln zl) (hτ0 : τ ≠ 100) (hτ : τ ≠ 101) (hq : q < 2 ^ 31) (hset : set < 2 ^ 31) (hrows : rows ≤ 12) (hcols : cols ≤ 12) (hok : okX q N cols V) (hA : mt Wt rows cols A) (hI : invX q N cols rows V (bsS set) A 0 0 A pl) : Mi l y_A_sweep (Cond.code y_A_sweep c_A_sweep 6 (some .int) :: G) (rmN 6) D cls (tyl k) L f [.ref xa, .ref t, .int (nI set)] (fun r f' => RQ L own k f' adr qa ln zl ∧ ∃ (n : Nat) (rs : Nat → Nat) (Wt : Nat → Nat → Int32) (P : Nat → Int32) (A' : Nat → Nat → Int) (pl : Nat → Nat), r = nI n ∧ n ≤ rows ∧ TB L own k f' τ t pa nu rs (nI q) rows cols rd P Wt ∧ oe own [τ, 100] f f' ∧ mt Wt rows cols A' ∧ invX q N cols rows V (bsS set) A cols n A' pl ∧ ∀ i, i < n → P i = nI (pl i)) :=
  tb_sweep l D (Inv := invX q N cols rows V (bsS set) A) hX hT hR hτ0 hτ hq hset hrows hcols (fun c n A pl h _ hs => invX_skip h hs) (fun c n A pl r h hc hb h1 h2 h3 _ => invX_piv hok h hc hb h1 h2 h3) hA hI
end SWX
-- what a whole sweep leaves: the table of its space, reduced from the left, as it is told
def LR (q n : Nat) (V : (Nat → Int) → Prop) (k : Nat) (A : Nat → Nat → Int) (pl : Nat → Nat) : Prop := rd q n k A pl ∧ lf q k A pl ∧ (∀ r, r < k → tl q n (A r) (pl r)) ∧ ∀ x, V x ↔ sp q n k A x
theorem dmX {q : Nat} (h : q = 0 ∨ prm q) : dm (q : Int) := by
  rcases h with rfl | h
  · exact dm0
  · exact dmP h
theorem LR_un {q n k k' : Nat} {V : (Nat → Int) → Prop} {A A' : Nat → Nat → Int} {pl pl' : Nat → Nat} (hq : q = 0 ∨ prm q) (h : LR q n V k A pl) (h' : LR q n V k' A' pl') : k = k' ∧ (∀ r, r < k → pl r = pl' r) ∧ ∀ r j, r < k → j < n → A r j = A' r j :=
  lf_eq (dmX hq) (by omega) h.1 h'.1 h.2.1 h'.2.1 (fun r hr => (h'.2.2.2 _).mp ((h.2.2.2 _).mpr (sp_row (dmX hq) hr))) (fun r hr => (h.2.2.2 _).mp ((h'.2.2.2 _).mpr (sp_row (dmX hq) hr))) h.2.2.1 h'.2.2.1
/-- rows that are 0 don't count -/
theorem sp_cut {p : Int} {n k m : Nat} {A : Nat → Nat → Int} (hp : dm p) (hmk : m ≤ k) (h0 : ∀ i j, m ≤ i → i < k → j < n → p ∣ A i j) (x : Nat → Int) : sp p n k A x ↔ sp p n m A x := by
  constructor
  · intro hx
    refine sp_trans hp hx (fun i hi => ?_)
    by_cases h : i < m
    · exact sp_row hp h
    · exact sp_0 hp (fun j hj => h0 i j (by omega) hi hj)
  · intro hx
    exact sp_trans hp hx (fun i hi => sp_row hp (by omega))
theorem sps_iff {p : Int} {n k : Nat} {A A0 : Nat → Nat → Int} (hp : dm p) (h : sps p n k A0 A) (x : Nat → Int) : sp p n k A0 x ↔ sp p n k A x := ⟨fun hx => sp_trans hp hx (fun i hi => h.2 i hi), fun hx => sp_trans hp hx (fun i hi => h.1 i hi)⟩
theorem pr_rd {p : Int} {n k c nxt : Nat} {bs : Nat → Prop} {A : Nat → Nat → Int} {pl : Nat → Nat} (hc : c ≤ n) (h : pr p n k bs c nxt A pl) : rd p n nxt A pl := ⟨fun r hr => ⟨by have := (h.2.1 r hr).1; omega, (h.2.1 r hr).2.2⟩, fun r q hr hq hne => h.2.2.1 r q hr (by have := h.1; omega) hne⟩
theorem inv_LR {q N n k nxt set : Nat} {V : (Nat → Int) → Prop} {A0 A : Nat → Nat → Int} {pl : Nat → Nat} (hX : okX q N n V) (hbs : ∀ j, j < n → bsS set j) (h : invX q N n k V (bsS set) A0 n nxt A pl) : LR q n (sp q n k A0) nxt A pl := by
  have hd : dm (q : Int) := by
    by_cases h0 : q = 0
    · exact dmX (Or.inl h0)
    · exact dmX (Or.inr (hX.2 h0).1)
  have hcore : pr q n k (bsS set) n nxt A pl ∧ sps q n k A0 A ∧ ∀ r, r < nxt → tl q n (A r) (pl r) := by
    rcases h with ⟨h0, h⟩ | ⟨h0, h⟩
    · subst h0
      refine ⟨h.2.1, h.2.2.1, fun r hr => ?_⟩
      show if ((0 : Nat) : Int) = 0 then _ else _
      rw [if_pos (show ((0 : Nat) : Int) = 0 from rfl)]; exact h.2.2.2.1 r hr
    · refine ⟨h.1, h.2.1, fun r hr => ?_⟩
      show if (q : Int) = 0 then _ else _
      rw [if_neg (by omega)]
      exact ⟨h.2.2.2 r hr, fun j hj => h.2.2.1 r j (by have := h.1.1; omega) hj⟩
  obtain ⟨hpr, hsp, htl⟩ := hcore
  refine ⟨pr_rd (Nat.le_refl _) hpr, ⟨hpr.2.2.2.2.1, fun r j hr hj => hpr.2.2.2.2.2 r j hr hj (hbs j (by have := (hpr.2.1 r hr).1; omega))⟩, htl, fun x => (sps_iff hd hsp x).trans (sp_cut hd hpr.1 (fun i j h1 h2 h3 => hpr.2.2.2.1 i j h1 h2 h3 (hbs j h3)) x)⟩
theorem bs4095 : ∀ j, j < 12 → bsS 4095 j := by
  unfold bsS
  decide
-- abstract tables
def Tb : Type := Nat × Nat × Nat × Bool × (Nat → Nat → Int) × (Nat → Nat)
def Tb.q (x : Tb) : Nat := x.1
def Tb.rows (x : Tb) : Nat := x.2.1
def Tb.cols (x : Tb) : Nat := x.2.2.1
def Tb.red (x : Tb) : Bool := x.2.2.2.1
def Tb.A (x : Tb) : Nat → Nat → Int := x.2.2.2.2.1
def Tb.pl (x : Tb) : Nat → Nat := x.2.2.2.2.2
def mkT (q rows cols : Nat) (red : Bool) (A : Nat → Nat → Int) (pl : Nat → Nat) : Tb := (q, rows, cols, red, A, pl)
def teq (x y : Tb) : Prop := x.q = y.q ∧ x.rows = y.rows ∧ x.cols = y.cols ∧ x.red = y.red ∧ (∀ i j, i < x.rows → j < x.cols → x.A i j = y.A i j) ∧ (x.red = true → ∀ i, i < x.rows → x.pl i = y.pl i)
def okT (x : Tb) : Prop := (x.q = 0 ∨ prm x.q) ∧ x.q ≤ 251 ∧ x.rows ≤ 12 ∧ x.cols ≤ 12 ∧ (x.red = false → ∀ i j, i < x.rows → j < x.cols → (x.q = 0 → (x.A i j).natAbs ≤ 999) ∧ (x.q ≠ 0 → rsd x.q (x.A i j))) ∧ (x.red = true → rd x.q x.cols x.rows x.A x.pl ∧ (∀ r, r < x.rows → tl x.q x.cols (x.A r) (x.pl r)) ∧ (x.q = 0 → sml x.cols (sp 0 x.cols x.rows x.A) ∧ sml x.cols (og x.cols x.rows x.A)))
def LRT (q n : Nat) (V : (Nat → Int) → Prop) (y : Tb) : Prop := y.q = q ∧ y.cols = n ∧ y.red = true ∧ LR q n V y.rows y.A y.pl
theorem LRT_un {q n : Nat} {V : (Nat → Int) → Prop} {y y' : Tb} (hq : q = 0 ∨ prm q) (h : LRT q n V y) (h' : LRT q n V y') : teq y y' := by
  obtain ⟨e1, e2, e3⟩ := LR_un hq h.2.2.2 h'.2.2.2
  exact ⟨h.1.trans h'.1.symm, e1, h.2.1.trans h'.2.1.symm, h.2.2.1.trans h'.2.2.1.symm, fun i j hi hj => e3 i j hi (by rw [h.2.1] at hj; exact hj), fun _ i hi => e2 i hi⟩
/-- a reduced table has no more rows than columns -/
theorem rd_le {p : Int} {n k : Nat} {T : Nat → Nat → Int} {pl : Nat → Nat} (h : rd p n k T pl) : k ≤ n := by
  apply Classical.byContradiction
  intro hn
  obtain ⟨i, j, hij, hj, e⟩ := php n k pl (by omega) (fun i hi => (h.1 i hi).1)
  exact (h.1 j hj).2 (by rw [← e]; exact h.2 i j (by omega) hj (by omega))
theorem rd_inj {p : Int} {n k : Nat} {T : Nat → Nat → Int} {pl : Nat → Nat} (h : rd p n k T pl) {i j : Nat} (hi : i < k) (hj : j < k) (e : pl i = pl j) : i = j := Classical.byContradiction fun hne => (h.1 j hj).2 (by rw [← e]; exact h.2 i j hi hj (Ne.symm hne))


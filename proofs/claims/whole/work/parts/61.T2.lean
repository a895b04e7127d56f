-- ===== a whole table, and the Rationals, each with its owner =====
def tloc (L : List Nat) (own : Nat → Nat) (τ t pa nu : Nat) (rs : Nat → Nat) : Prop := (t ∈ L ∧ own t = τ) ∧ (pa ∈ L ∧ own pa = τ) ∧ (nu ∈ L ∧ own nu = τ) ∧ (∀ i, i < 12 → rs i ∈ L ∧ own (rs i) = τ ∧ t ≠ rs i ∧ pa ≠ rs i ∧ nu ≠ rs i) ∧ t ≠ pa ∧ t ≠ nu ∧ pa ≠ nu ∧ ∀ i j, i < 12 → j < 12 → rs i = rs j → i = j
def TB (L : List Nat) (own : Nat → Nat) (k : Nat → ClassId) (f : Nat → va_E) (τ t pa nu : Nat) (rs : Nat → Nat) (fd : Int32) (rows cols : Nat) (rd : Int32) (P : Nat → Int32) (W : Nat → Nat → Int32) : Prop := tloc L own τ t pa nu rs ∧ f t = cT fd (nI rows) (nI cols) rd pa nu ∧ f pa = cP k P ∧ (∃ z, f nu = cO k z ∧ ∀ i, i < 12 → z i = some (rs i)) ∧ ∀ i, i < 12 → f (rs i) = cR k (W i)
def RQ (L : List Nat) (own : Nat → Nat) (k : Nat → ClassId) (f : Nat → va_E) (adr : Nat → Nat) (qa ln : Nat) (zl : Nat → Option Nat) : Prop := qs L adr qa ln zl ∧ own qa = 100 ∧ own ln = 100 ∧ (∀ x, x < 2 * 19 → own (adr x) = 100) ∧ qst L k adr qa ln zl f
/-- only what has one of these owners has changed -/
def oe (own : Nat → Nat) (S : List Nat) (f f' : Nat → va_E) : Prop := ∀ q, own q ∉ S → f' q = f q
theorem oe.rf {own : Nat → Nat} {S : List Nat} {f : Nat → va_E} : oe own S f f := fun _ _ => rfl
theorem oe.trans {own : Nat → Nat} {S : List Nat} {f g h : Nat → va_E} (h1 : oe own S f g) (h2 : oe own S g h) : oe own S f h := fun q hq => (h2 q hq).trans (h1 q hq)
theorem oe.mono {own : Nat → Nat} {S S' : List Nat} {f g : Nat → va_E} (h1 : oe own S f g) (h : ∀ x, x ∈ S → x ∈ S') : oe own S' f g := fun q hq => h1 q (fun m => hq (h _ m))
theorem TB.frame {L : List Nat} {own : Nat → Nat} {k : Nat → ClassId} {f : Nat → va_E} {τ t pa nu : Nat} {rs : Nat → Nat} {fd : Int32} {rows cols : Nat} {rd : Int32} {P : Nat → Int32} {W : Nat → Nat → Int32} {f' : Nat → va_E} (h : TB L own k f τ t pa nu rs fd rows cols rd P W) (ho : ∀ q, own q = τ → f' q = f q) : TB L own k f' τ t pa nu rs fd rows cols rd P W := by
  obtain ⟨h1, h2, h3, ⟨z, h4, h5⟩, h6⟩ := h
  exact ⟨h1, (ho t h1.1.2).trans h2, (ho pa h1.2.1.2).trans h3, ⟨z, (ho nu h1.2.2.1.2).trans h4, h5⟩, fun i hi => (ho _ (h1.2.2.2.1 i hi).2.1).trans (h6 i hi)⟩
theorem TB.keep {L : List Nat} {own : Nat → Nat} {k : Nat → ClassId} {f : Nat → va_E} {τ t pa nu : Nat} {rs : Nat → Nat} {fd : Int32} {rows cols : Nat} {rd : Int32} {P : Nat → Int32} {W : Nat → Nat → Int32} {f' : Nat → va_E} {S : List Nat} (h : TB L own k f τ t pa nu rs fd rows cols rd P W) (ho : oe own S f f') (hs : τ ∉ S) : TB L own k f' τ t pa nu rs fd rows cols rd P W := h.frame (fun q e => ho q (by rw [e]; exact hs))
theorem RQ.keep {L : List Nat} {own : Nat → Nat} {k : Nat → ClassId} {f f' : Nat → va_E} {adr : Nat → Nat} {qa ln : Nat} {zl : Nat → Option Nat} {S : List Nat} (h : RQ L own k f adr qa ln zl) (ho : oe own S f f') (hs : 100 ∉ S) : RQ L own k f' adr qa ln zl := by
  obtain ⟨h1, h2, h3, h4, cc, rr, vals, h5, h6, h7, h8⟩ := h
  have hq : ∀ q, own q = 100 → f' q = f q := fun q e => ho q (by rw [e]; exact hs)
  refine ⟨h1, h2, h3, h4, cc, rr, vals, h5, fun i hi => ?_, (hq qa h2).trans h7, (hq ln h3).trans h8⟩
  obtain ⟨a1, a2, n, g, d, a3, a4, a5⟩ := h6 i hi
  exact ⟨a1, a2, n, g, d, (hq _ (h4 _ (by omega))).trans a3, (hq _ (h4 _ (by omega))).trans a4, a5⟩
theorem TB.row {L : List Nat} {own : Nat → Nat} {k : Nat → ClassId} {f : Nat → va_E} {τ t pa nu : Nat} {rs : Nat → Nat} {fd : Int32} {rows cols : Nat} {rd : Int32} {P : Nat → Int32} {W : Nat → Nat → Int32} {f' : Nat → va_E} {row : Nat} {w1 : Nat → Int32} (h : TB L own k f τ t pa nu rs fd rows cols rd P W) (hrow : row < 12) (h1 : f' (rs row) = cR k w1) (ho : ∀ q, own q = τ → q ≠ rs row → f' q = f q) : TB L own k f' τ t pa nu rs fd rows cols rd P (va_up W row w1) := by
  obtain ⟨g1, g2, g3, ⟨z, g4, g5⟩, g6⟩ := h
  have hr := g1.2.2.2.1 row hrow
  refine ⟨g1, (ho t g1.1.2 hr.2.2.1).trans g2, (ho pa g1.2.1.2 hr.2.2.2.1).trans g3, ⟨z, (ho nu g1.2.2.1.2 hr.2.2.2.2).trans g4, g5⟩, fun i hi => ?_⟩
  by_cases e : i = row
  · rw [e, va_up_self]; exact h1
  · rw [va_up_ne _ _ e]
    exact (ho _ (g1.2.2.2.1 i hi).2.1 (fun q => e (g1.2.2.2.2.2.2.2 i row hi hrow q))).trans (g6 i hi)
/-- the table's object, array of rows and a row -/
theorem TB.kn3 {L : List Nat} {own : Nat → Nat} {k : Nat → ClassId} {f : Nat → va_E} {τ t pa nu : Nat} {rs : Nat → Nat} {fd : Int32} {rows cols : Nat} {rd : Int32} {P : Nat → Int32} {W : Nat → Nat → Int32} (h : TB L own k f τ t pa nu rs fd rows cols rd P W) {z : Nat → Option Nat} (hz : f nu = cO k z) {row : Nat} (hrow : row < 12) : kn L f f [(t, cT fd (nI rows) (nI cols) rd pa nu), (nu, cO k z), (rs row, cR k (W row))] := by
  have hr := h.1.2.2.2.1 row hrow
  refine kn_of (fun q hq => ?_) (by simp; exact ⟨⟨h.1.2.2.2.2.2.1, hr.2.2.1⟩, hr.2.2.2.2⟩)
  simp only [List.mem_cons, List.not_mem_nil, or_false] at hq
  rcases hq with rfl | rfl | rfl
  · exact ⟨h.1.1.1, h.2.1⟩
  · exact ⟨h.1.2.2.1.1, hz⟩
  · exact ⟨hr.1, h.2.2.2.2 row hrow⟩
theorem TB.kn2 {L : List Nat} {own : Nat → Nat} {k : Nat → ClassId} {f : Nat → va_E} {τ t pa nu : Nat} {rs : Nat → Nat} {fd : Int32} {rows cols : Nat} {rd : Int32} {P : Nat → Int32} {W : Nat → Nat → Int32} (h : TB L own k f τ t pa nu rs fd rows cols rd P W) : kn L f f [(t, cT fd (nI rows) (nI cols) rd pa nu), (pa, cP k P)] := by
  refine kn_of (fun q hq => ?_) (by simp; exact h.1.2.2.2.2.1)
  simp only [List.mem_cons, List.not_mem_nil, or_false] at hq
  rcases hq with rfl | rfl
  · exact ⟨h.1.1.1, h.2.1⟩
  · exact ⟨h.1.2.1.1, h.2.2.1⟩
theorem TB.kn1 {L : List Nat} {own : Nat → Nat} {k : Nat → ClassId} {f : Nat → va_E} {τ t pa nu : Nat} {rs : Nat → Nat} {fd : Int32} {rows cols : Nat} {rd : Int32} {P : Nat → Int32} {W : Nat → Nat → Int32} (h : TB L own k f τ t pa nu rs fd rows cols rd P W) : kn L f f [(t, cT fd (nI rows) (nI cols) rd pa nu)] := kn_sub h.kn2 [0] rfl rfl
/-- behind a method that knew object, rows and a row and changed the row alone -/
theorem TB.row3 {L : List Nat} {own : Nat → Nat} {k : Nat → ClassId} {f : Nat → va_E} {τ t pa nu : Nat} {rs : Nat → Nat} {fd : Int32} {rows cols : Nat} {rd : Int32} {P : Nat → Int32} {W : Nat → Nat → Int32} {f' : Nat → va_E} (h : TB L own k f τ t pa nu rs fd rows cols rd P W) {z : Nat → Option Nat} (hz : f nu = cO k z) {row : Nat} {w1 : Nat → Int32} (hrow : row < 12) (hk : kn L f f' [(t, cT fd (nI rows) (nI cols) rd pa nu), (nu, cO k z), (rs row, cR k w1)]) : TB L own k f' τ t pa nu rs fd rows cols rd P (va_up W row w1) ∧ ∀ q, q ≠ rs row → f' q = f q := by
  have ho : ∀ q, q ≠ rs row → f' q = f q := fun q hq => by
    by_cases e1 : q = t
    · rw [e1, (hk.1 0 _ rfl).2, h.2.1]
    · by_cases e2 : q = nu
      · rw [e2, (hk.1 1 _ rfl).2, hz]
      · exact kn_off hk (by simp; exact ⟨e1, e2, hq⟩)
  exact ⟨h.row hrow (hk.1 2 _ rfl).2 (fun q _ hq => ho q hq), ho⟩
section TRQ
variable {L : List Nat} {own : Nat → Nat} {k : Nat → ClassId} {f : Nat → va_E} {τ t pa nu : Nat} {rs : Nat → Nat} {fd : Int32} {rows cols : Nat} {rd : Int32} {P : Nat → Int32} {W : Nat → Nat → Int32} {adr : Nat → Nat} {qa ln : Nat} {zl : Nat → Option Nat}
theorem TB.tc (h : TB L own k f τ t pa nu rs fd rows cols rd P W) (hq : RQ L own k f adr qa ln zl) (hτ : τ ≠ 100) {z : Nat → Option Nat} (hz : f nu = cO k z) (hzs : ∀ i, i < 12 → z i = some (rs i)) {row : Nat} (hrow : row < 12) : tc L k f adr 19 t pa nu (rs row) fd (nI rows) (nI cols) rd z (W row) row := by
  have hr := h.1.2.2.2.1 row hrow
  refine ⟨hrow, hzs row hrow, h.1.1.1, h.1.2.2.1.1, hr.1, h.2.1, hz, h.2.2.2.2 row hrow, h.1.2.2.2.2.2.1, hr.2.2.1, hr.2.2.2.2, fun x hx => ?_⟩
  have ha := hq.2.2.2.1 x hx
  refine ⟨fun e => ?_, fun e => ?_, fun e => ?_⟩
  · have := h.1.1.2; rw [e] at this; omega
  · have := h.1.2.2.1.2; rw [e] at this; omega
  · have := hr.2.1; rw [e] at this; omega
theorem TB.qt (h : TB L own k f τ t pa nu rs fd rows cols rd P W) (hq : RQ L own k f adr qa ln zl) (hτ : τ ≠ 100) {row : Nat} (hrow : row < 12) : qt L adr qa ln t nu (rs row) := by
  have hr := h.1.2.2.2.1 row hrow
  have h1 := hq.2.1
  have h2 := hq.2.2.1
  have a1 := h.1.1.2
  have a2 := h.1.2.2.1.2
  have a3 := hr.2.1
  refine ⟨h.1.1.1, hq.1.2.2.1, fun e => ?_, fun e => ?_, fun e => ?_, fun e => ?_, fun e => ?_, fun e => ?_⟩ <;> first | (rw [e] at h1; omega) | (rw [e] at h2; omega)
/-- behind lead, clear, balance -/
theorem TB.back {f' : Nat → va_E} (h : TB L own k f τ t pa nu rs fd rows cols rd P W) (hq : RQ L own k f adr qa ln zl) (hτ : τ ≠ 100) {row : Nat} (hrow : row < 12) {w1 : Nat → Int32} (hs : qst L k adr qa ln zl f') (h1 : f' (rs row) = cR k w1) (ho : qo adr qa (rs row) f f') : RQ L own k f' adr qa ln zl ∧ TB L own k f' τ t pa nu rs fd rows cols rd P (va_up W row w1) ∧ oe own [τ, 100] f f' := by
  have hr := h.1.2.2.2.1 row hrow
  have hoff : ∀ q, own q ≠ 100 → q ≠ rs row → f' q = f q := fun q h1 h2 => ho q h2 (fun e => h1 (by rw [e]; exact hq.2.1)) (fun x hx e => h1 (by rw [e]; exact hq.2.2.2.1 x hx))
  refine ⟨⟨hq.1, hq.2.1, hq.2.2.1, hq.2.2.2.1, hs⟩, h.row hrow h1 (fun q e h2 => hoff q (by omega) h2), fun q hm => ?_⟩
  simp only [List.mem_cons, List.not_mem_nil, or_false, not_or] at hm
  exact hoff q hm.2 (fun e => hm.1 (by rw [e]; exact hr.2.1))
end TRQ
/-- the table's numbers -/
def mt (W : Nat → Nat → Int32) (rows cols : Nat) (A : Nat → Nat → Int) : Prop := ∀ i, i < rows → ∀ j, j < cols → nm (W i) j (A i j)
theorem mt_row {W : Nat → Nat → Int32} {rows cols row : Nat} {A : Nat → Nat → Int} {w1 : Nat → Int32} {v : Nat → Int} (h : mt W rows cols A) (h1 : ∀ j, j < cols → nm w1 j (v j)) : mt (va_up W row w1) rows cols (va_up A row v) := by
  intro i hi j hj
  by_cases e : i = row
  · rw [e, va_up_self, va_up_self]; exact h1 j hj
  · rw [va_up_ne _ _ e, va_up_ne _ _ e]; exact h i hi j hj
section TM
variable (l : Launch) (D : va_G) {L : List Nat} {own : Nat → Nat} {k : Nat → ClassId} {f : Nat → va_E} {τ t pa nu : Nat} {rs : Nat → Nat} {fd : Int32} {rows cols : Nat} {rd : Int32} {P : Nat → Int32} {W : Nat → Nat → Int32}
theorem tb_isZero (h : TB L own k f τ t pa nu rs fd rows cols rd P W) {row col : Nat} (hrow : row < 12) (hcol : col < 12) {v : Int} (hv : nm (W row) col v) : Mi l y_T_isZero (Cond.code y_T_isZero c_T_isZero 3 (some .boolean) :: G) (rmN 1) D cls (tyl k) L f [.ref t, .int (nI row), .int (nI col)] (fun r f' => f' = f ∧ r = if W row (col * 6) = 0 then 1 else 0) := by
  obtain ⟨z, hz, hzs⟩ := h.2.2.2.1
  exact m_T_isZero l D k L f t pa nu (rs row) fd _ _ rd z (W row) row col hrow hcol (hzs row hrow) (h.kn3 hz hrow)
theorem tb_head (h : TB L own k f τ t pa nu rs fd rows cols rd P W) {row col : Nat} (hrow : row < 12) (hcol : col < 12) : Mi l y_T_head (Cond.code y_T_head c_T_head 3 (some .int) :: G) (rmN 0) D cls (tyl k) L f [.ref t, .int (nI row), .int (nI col)] (fun r f' => f' = f ∧ r = W row (col * 6)) := by
  obtain ⟨z, hz, hzs⟩ := h.2.2.2.1
  exact m_T_head l D k L f t pa nu (rs row) fd _ _ rd z (W row) row col hrow hcol (hzs row hrow) (h.kn3 hz hrow)
theorem tb_small (h : TB L own k f τ t pa nu rs fd rows cols rd P W) {row col : Nat} (hrow : row < 12) (hcol : col < 12) : Mi l y_T_small (Cond.code y_T_small c_T_small 3 (some .int) :: G) (rmN 1) D cls (tyl k) L f [.ref t, .int (nI row), .int (nI col)] (fun r f' => f' = f ∧ r = W row (col * 6) * W row (col * 6 + 1)) := by
  obtain ⟨z, hz, hzs⟩ := h.2.2.2.1
  exact m_T_small l D k L f t pa nu (rs row) fd _ _ rd z (W row) row col hrow hcol (hzs row hrow) (h.kn3 hz hrow)
theorem tb_setSmall (h : TB L own k f τ t pa nu rs fd rows cols rd P W) {row col : Nat} (hrow : row < 12) (hcol : col < 12) {v : Int} (hv : v.natAbs < B30) : Mv l y_T_setSmall (Cond.code y_T_setSmall c_T_setSmall 4 none :: G) (rmN 1) D cls (tyl k) L f [.ref t, .int (nI row), .int (nI col), .int (zI v)] (fun f' => ∃ w1, TB L own k f' τ t pa nu rs fd rows cols rd P (va_up W row w1) ∧ oe own [τ] f f' ∧ nm w1 col v ∧ ∀ j u, j ≠ col → nm (W row) j u → nm w1 j u) := by
  obtain ⟨z, hz, hzs⟩ := h.2.2.2.1
  have hb : B30 = 1073741824 := rfl
  refine Met_mono (m_T_setSmall l D k L f t pa nu (rs row) fd _ _ rd z (W row) row col hrow hcol (hzs row hrow) v (by omega) (h.kn3 hz hrow)) (fun f' hp => ?_)
  obtain ⟨h1, h2⟩ := h.row3 hz hrow hp
  refine ⟨_, h1, fun q hm => h2 q (fun e => hm ?_), nm_small ?_ ?_ hv, fun j u hj hu => nm_far hu (fun i hi => ?_) hj⟩
  · rw [e]; simp; exact (h.1.2.2.2.1 row hrow).2.1
  · rw [pk_un (by omega), pk_us]
  · rw [pk_us]
  · rw [pk_un (by omega), pk_un (by omega)]
variable {adr : Nat → Nat} {qa ln : Nat} {zl : Nat → Option Nat} {A : Nat → Nat → Int}
theorem tb_leadQ (h : TB L own k f τ t pa nu rs fd rows cols rd P W) (hq : RQ L own k f adr qa ln zl) (hτ : τ ≠ 100) (hrows : rows ≤ 12) (hcols : cols ≤ 12) {row col : Nat} (hrow : row < rows) (hcol : col < cols) (hA : mt W rows cols A) : Mv l y_Q_lead (Cond.code y_Q_lead c_Q_lead 5 none :: G) (rmN 4) D cls (tyl k) L f [.ref qa, .ref t, .int (nI row), .int (nI col)] (fun f' => RQ L own k f' adr qa ln zl ∧ ∃ w1, TB L own k f' τ t pa nu rs fd rows cols rd P (va_up W row w1) ∧ oe own [τ, 100] f f' ∧ mt (va_up W row w1) rows cols (va_up A row (ld cols (A row) col))) := by
  obtain ⟨z, hz, hzs⟩ := h.2.2.2.1
  refine Met_mono (m_Q_lead l D k L f adr qa ln cols t pa nu (rs row) row col fd _ rd z zl (W row) (A row) hq.1 (h.qt hq hτ (by omega)) hcols hq.2.2.2.2 (h.tc hq hτ hz hzs (by omega)) hcol (hA row hrow)) (fun f' hp => ?_)
  obtain ⟨h1, ⟨w1, h2, h3, h4⟩, h5⟩ := hp
  obtain ⟨g1, g2, g3⟩ := h.back hq hτ (by omega) h1 h2 h5
  exact ⟨g1, w1, g2, g3, mt_row hA h3⟩
theorem tb_clearQ (h : TB L own k f τ t pa nu rs fd rows cols rd P W) (hq : RQ L own k f adr qa ln zl) (hτ : τ ≠ 100) (hrows : rows ≤ 12) (hcols : cols ≤ 12) {row led col : Nat} (hrow : row < rows) (hled : led < rows) (hcol : col < cols) (hA : mt W rows cols A) (hbo : ∀ j, j < cols → (ou (gd (cl1 (A row) (A led) col) cols) (cl1 (A row) (A led) col j)).natAbs < B30 ^ 5) : Mv l y_Q_clear (Cond.code y_Q_clear c_Q_clear 6 none :: G) (rmN 4) D cls (tyl k) L f [.ref qa, .ref t, .int (nI row), .int (nI led), .int (nI col)] (fun f' => RQ L own k f' adr qa ln zl ∧ ∃ w1, TB L own k f' τ t pa nu rs fd rows cols rd P (va_up W row w1) ∧ oe own [τ, 100] f f' ∧ mt (va_up W row w1) rows cols (va_up A row (fun j => ou (gd (cl1 (A row) (A led) col) cols) (cl1 (A row) (A led) col j)))) := by
  obtain ⟨z, hz, hzs⟩ := h.2.2.2.1
  refine Met_mono (m_Q_clear l D k L f adr qa ln cols t pa nu (rs row) (rs led) row led col fd _ rd z zl (W row) (W led) (A row) (A led) hq.1 (h.qt hq hτ (by omega)) hcols hq.2.2.2.2 (h.tc hq hτ hz hzs (by omega)) (h.tc hq hτ hz hzs (by omega)) hcol (hA row hrow) (hA led hled) hbo) (fun f' hp => ?_)
  obtain ⟨h1, ⟨w1, h2, h3, h4⟩, h5⟩ := hp
  obtain ⟨g1, g2, g3⟩ := h.back hq hτ (by omega) h1 h2 h5
  exact ⟨g1, w1, g2, g3, mt_row hA h3⟩
end TM


-- ===== the reference: leave =====
theorem shl_1 : ∀ c, c < 13 → (1 : Int32) <<< (nI c &&& 31) = nI (2 ^ c) := by decide +kernel
theorem p2_12 : ∀ c, c < 13 → 2 ^ c ≤ 4096 := by decide
theorem rd_perm {p : Int} {n k set : Nat} {A : Nat → Nat → Int} {pl : Nat → Nat} (h : rd p n k A pl) : rd p n k (fun i u => A i (rho set n u)) (fun i => pos set n (pl i)) :=
  ⟨fun r hr => ⟨pos_lt (h.1 r hr).1, by show ¬ p ∣ A r (rho set n (pos set n (pl r))); rw [rho_pos (h.1 r hr).1]; exact (h.1 r hr).2⟩, fun r q hr hq hne => by show p ∣ A q (rho set n (pos set n (pl r))); rw [rho_pos (h.1 r hr).1]; exact h.2 r q hr hq hne⟩
theorem tl_perm {p : Int} {n set c : Nat} {x : Nat → Int} (hc : c < n) (h : tl p n x c) : tl p n (fun u => x (rho set n u)) (pos set n c) := by
  unfold tl at h ⊢
  by_cases e : p = 0
  · rw [if_pos e] at h ⊢
    refine ⟨fun d hd => h.1 d (fun j hj => ?_), ?_⟩
    · have this : d ∣ x (rho set n (pos set n j)) := hd _ (pos_lt hj)
      rwa [rho_pos hj] at this
    · show 0 < x (rho set n (pos set n c))
      rw [rho_pos hc]; exact h.2
  · rw [if_neg e] at h ⊢
    refine ⟨?_, fun j hj => h.2 _ (rho_ok hj).1⟩
    show x (rho set n (pos set n c)) = 1
    rw [rho_pos hc]; exact h.1
theorem sml_perm {n k set : Nat} {A : Nat → Nat → Int} {pl : Nat → Nat} (hrd : rd 0 n k A pl) (htl : ∀ r, r < k → tl 0 n (A r) (pl r)) (h : sml n (sp 0 n k A)) : sml n (sp 0 n k (fun i u => A i (rho set n u))) := by
  refine sml_iff (fun x => ⟨(gh_perm (set := set) (gh_self hrd htl)).2.2.2 x, fun hx => ?_⟩) (sml_del (g := rho set n) (fun j hj => (rho_ok hj).1) (lin_sp _ _ _) h)
  refine ⟨fun j => x (pos set n j), 1, (sp_perm (set := set) _).mpr (sp_congr dm0 hx (fun u hu => ?_)), by omega, fun j hj => ?_⟩
  · show (0 : Int) ∣ x (pos set n (rho set n u)) - x u
    rw [(rho_ok hu).2.1, Int.sub_self]; exact Int.dvd_zero 0
  · show 1 * x j = x (pos set n (rho set n j))
    rw [(rho_ok hj).2.1, Int.one_mul]
theorem lv_KT {x : Tb} (hred : x.red = true) (hrw : x.rows ≤ 12) (hcl : x.cols ≤ 12) (hrd : rd x.q x.cols x.rows x.A x.pl) {V Vt : Nat → Int} {Sm Re : Nat → Int32} {t set : Nat} (hKT : KT x.q x.cols x.rows x.A (PP x) Vt (fun z => Re (144 * t + z))) (hD : cel V Sm (fun a u => if u < x.cols ∧ (a < x.rows ∨ (a = x.rows ∧ rho set x.cols u < 0)) then src Vt Re t a (rho set x.cols u) else (0, 1, 0))) : KT x.q x.cols x.rows (fun i u => x.A i (rho set x.cols u)) (fun i => x.A i (rho set x.cols (pos set x.cols (x.pl i)))) V Sm := by
  have eP : ∀ i, i < x.rows → PP x i = x.A i (rho set x.cols (pos set x.cols (x.pl i))) := fun i hi => by unfold PP; rw [if_pos hred, rho_pos (hrd.1 i hi).1]
  have cin : ∀ i j, i < x.rows → j < x.cols → av V i j = av Vt i (rho set x.cols j) ∧ bv V i j = bv Vt i (rho set x.cols j) ∧ Sm (12 * i + j) = Re (144 * t + (12 * i + rho set x.cols j)) := fun i j hi hj => cel_at hD (by omega) (by omega) (if_pos ⟨hj, Or.inl hi⟩)
  refine ⟨cel_JB hD (fun a u ha hu => ?_), fun h0 i j hi hj => ?_, fun h0 i j hi hj => ?_⟩
  · by_cases q : u < x.cols ∧ (a < x.rows ∨ (a = x.rows ∧ rho set x.cols u < 0))
    · rw [if_pos q]
      have := hKT.1 (12 * a + rho set x.cols u) (by have := (rho_ok (set := set) q.1).1; omega)
      exact this
    · rw [if_neg q]; exact p15_0
  · obtain ⟨c1, c2, -⟩ := cin i j hi hj
    rw [c1, c2]
    have := hKT.2.1 h0 i (rho set x.cols j) hi (rho_ok hj).1
    rw [eP i hi] at this
    exact this
  · rw [(cin i j hi hj).2.2]; exact hKT.2.2 h0 i _ hi (rho_ok hj).1
/-- a sweep over some columns of a reduced table's rows -/
theorem kt_start {q n n0 k : Nat} {B : Nat → Nat → Int} {ph : Nat → Nat} (hq : q = 0 ∨ prm q) (h251 : q ≤ 251) (hk : k ≤ 12) (hn : n ≤ 12) {κ : Nat → Nat} (hκ : ∀ j, j < n → κ j < n0) (hrd : rd q n0 k B ph) (htl : ∀ r, r < k → tl q n0 (B r) (ph r)) (hsm : q = 0 → sml n0 (sp 0 n0 k B)) {V : Nat → Int} {Sm : Nat → Int32} (hJ : JB V) (hQ : q = 0 → ∀ i j, i < k → j < n → low (av V i j) (bv V i j) ∧ av V i j * B i (ph i) = bv V i j * B i (κ j)) (hP : q ≠ 0 → ∀ i j, i < k → j < n → Sm (12 * i + j) = zI (B i (κ j))) : ∃ N X, okR q N n X ∧ RI q N n k X (fun i j => B i (κ j)) 0 0 V Sm id := by
  by_cases h0 : q = 0
  · have s1 := hsm h0
    rw [h0] at hrd htl
    have hg := gh_self hrd htl
    have hge := gh_ext (n := n) (κ := κ) hg hκ
    have hs2 := ext_sm (n := n) (κ := κ) hκ (lin_sp n0 k B) s1
    have hokR : okR q (n + n0) n (del n0 (n + n0) (xg n κ) (sp 0 n0 k B)) := ⟨fun _ => ⟨lin_del (lin_sp _ _ _), by omega, smC_of (by omega) (lin_del (lin_sp _ _ _)) hs2, smb_mono (by decide +kernel) hs2⟩, fun z => absurd h0 z⟩
    refine ⟨_, _, hokR, RI_0 id hokR hk hn (fun _ => ⟨⟨_, _, hge, ext_rcl (n0 := n0) (A := B) (fun i hi => ⟨1, by omega, fun j hj => by rw [Int.one_mul]⟩), fun i j hi hj => ?_⟩, fun i j hi hj => gh_bd hg s1 hi _ (hκ j hj), fun t u h1 h2 h3 => hJ (12 * t + u) (by omega)⟩) (fun z => absurd h0 z)⟩
    obtain ⟨g1, g2⟩ := hQ h0 i j hi hj
    refine ⟨g1, ?_⟩
    have e1 : xg n κ (n + ph i) = ph i := by unfold xg; rw [if_neg (by omega)]; omega
    have e2 : xg n κ j = κ j := by unfold xg; rw [if_pos hj]
    show av V i j * B i (xg n κ (n + ph i)) = bv V i j * B i (xg n κ j)
    rw [e1, e2]; exact g2
  · have hp := hq.resolve_left h0
    have hokR : okR q 0 n (fun _ => True) := ⟨fun z => absurd z h0, fun _ => ⟨hp, h251⟩⟩
    refine ⟨_, _, hokR, RI_0 id hokR hk hn (fun z => absurd z h0) (fun _ => ⟨hJ, fun i j hi hj => ?_, hP h0⟩)⟩
    have := htl i hi
    unfold tl at this
    rw [if_neg (by omega)] at this
    exact this.2 _ (hκ j hj)
/-- the last sweep of leave -/
theorem lv_last {q n r1 m g : Nat} {B : Nat → Nat → Int} {ph : Nat → Nat} (hq : q = 0 ∨ prm q) (h251 : q ≤ 251) (hr1 : r1 ≤ 12) (hn : n ≤ 12) (hm : m ≤ r1) (hrd : rd q n (r1 - m) (fun i => B (i + m)) (fun i => ph (i + m))) (htl : ∀ r, r < r1 - m → tl q n (B (r + m)) (ph (r + m))) (hsm : q = 0 → sml n (sp 0 n (r1 - m) (fun i => B (i + m)))) {V V2 : Nat → Int} {Sm Sm2 : Nat → Int32} (hKT : KT q n r1 B (fun i => B i (ph i)) V Sm) (hD : cel V2 Sm2 (fun a u => if u + g < n ∧ (a + m < r1 ∨ (a + m = r1 ∧ u + g < 0)) then (V (10 + (12 * (a + m) + (u + g))), V (154 + (12 * (a + m) + (u + g))), Sm (12 * (a + m) + (u + g))) else (V (10 + (12 * a + u)), V (154 + (12 * a + u)), Sm (12 * a + u)))) : ∃ N X, okR q N (n - g) X ∧ RI q N (n - g) (r1 - m) X (fun i j => B (i + m) (g + j)) 0 0 V2 Sm2 id := by
  have cin : ∀ i j, i < r1 - m → j < n - g → av V2 i j = av V (i + m) (j + g) ∧ bv V2 i j = bv V (i + m) (j + g) ∧ Sm2 (12 * i + j) = Sm (12 * (i + m) + (j + g)) := fun i j hi hj => cel_at hD (by omega) (by omega) (if_pos ⟨by omega, Or.inl (by omega)⟩)
  refine kt_start (B := fun i => B (i + m)) (κ := fun j => g + j) hq h251 (by omega) (by omega) (fun j hj => by omega) hrd htl hsm (cel_JB hD (fun a u ha hu => ?_)) (fun h0 i j hi hj => ?_) (fun h0 i j hi hj => ?_)
  · by_cases q : u + g < n ∧ (a + m < r1 ∨ (a + m = r1 ∧ u + g < 0))
    · rw [if_pos q]; exact hKT.1 (12 * (a + m) + (u + g)) (by omega)
    · rw [if_neg q]; exact hKT.1 (12 * a + u) (by omega)
  · obtain ⟨c1, c2, -⟩ := cin i j hi hj
    rw [c1, c2, Nat.add_comm g j]
    exact hKT.2.1 h0 (i + m) (j + g) (by omega) (by omega)
  · rw [(cin i j hi hj).2.2, Nat.add_comm g j]; exact hKT.2.2 h0 (i + m) (j + g) (by omega) (by omega)
section MLVP
variable (l : Launch) (D : va_G) {L : List Nat} {own : Nat → Nat} {k : Nat → ClassId} {f : Nat → va_E} {ma : Nat} {ra adr : Nat → Nat} {st : Nat → Tb}
set_option maxRecDepth 100000 in
set_option maxHeartbeats 4000000 in
theorem m_M_leave (hRS : RS L own k f ma ra adr st) (hok : ∀ i, i < 8 → okT (st i)) {a b d : Int} {z : Bool} (ha : rI a) (hb' : rI b) (hd : rI d) : Mi l y_M_leave (Cond.code y_M_leave c_M_leave 10 (some .int) :: G) (rmN 9) D cls (tyl k) L f [.ref ma, .int (zI a), .int (zI b), .int (zI d), .int (if z then 1 else 0)] (fun r f' => ∃ st', RS L own k f' ma ra adr st' ∧ oe own [200] f f' ∧ spLeave st a b d z st' r) := by
  have hRS0 := hRS
  have z0 : rI 0 := ⟨by decide, by decide⟩
  obtain ⟨pr, rw, cl, F, R, C, Lo, Pl, To, Bo, Re, Sm, Pc, V, h, hT⟩ := hRS
  have hLr : ∀ i, i < 8 → (Lo i = 0 ↔ (st i).red = true) := fun i hi => by
    rw [(hT i hi).2.2.2.1]
    cases (st i).red with
    | true => exact ⟨fun _ => rfl, fun _ => rfl⟩
    | false => exact ⟨fun z => absurd z (by decide), fun z => (by cases z)⟩
  -- METHOD M_leave | loc 0=m 1=a 2=b 3=d 4=z | ws m fa rc cc lo pl to bo re tp bt sm pc | fld m.fields=fa m.rowCounts=rc m.columnCounts=cc m.loose=lo m.places=pl m.tops=to m.bottoms=bo m.residues=re m.top=tp m.bottom=bt m.small=sm m.place=pc m.one=n0 m.two=n1 m.three=n2 m.four=n3 m.five=n4 m.six=n5 m.seven=n6 m.eight=n7 m.above=n8 m.under=n9
  refine mk_met (by decide) (Nat.le_of_ble_eq_true rfl) (fun p e s m below meth c ls S hr hlocks hw hl => ?_)
  have hx := S.1
  have hb := S.2.1
  have hown : s.vm.findClass R_M = some m.cls := S.2.2.2.1
  have hG := S.2.2.2.2
  have hl : lv_has ls 10 [(0, .ref ma), (1, .int (zI a)), (2, .int (zI b)), (3, .int (zI d)), (4, .int (if z then 1 else 0))] := hl
  have hg := hw
  have bad : ∀ (H : Heap) (locs : List Loc) (ls : Array Slot), (¬ ∃ i j set : Nat, isLv st a b d i j set) → gw D cls (tyl k) L s s.heap f H locs → W p l e (rmN 9) s m ([.ref ma, .int (zI a), .int (zI b), .int (zI d), .int (if z then 1 else 0)] : List Value).toArray below meth c H locs 0 0 (MQ below (va_Qi (fun r f' => ∃ st', RS L own k f' ma ra adr st' ∧ oe own [200] f f' ∧ spLeave st a b d z st' r) (mst D cls (tyl k) L) (fun q => q ∈ L)) ([.ref ma, .int (zI a), .int (zI b), .int (zI d), .int (if z then 1 else 0)] : List Value).toArray s 0 0 (fun q => q ∈ L)) (F0 m 31 ls []) := by
    intro H locs ls hno hg
    refine lv_iconst (v := (-1)) hx hb d_M_leave_31 (by decide) ?_
    exact g_reti hx hb hr hlocks hg ⟨st, hRS0, oe.rf, Or.inr ⟨hno, rfl, rfl⟩⟩ d_M_leave_32
  refine lv_iload_n hx hb d_M_leave_0 rfl (lv_at hl 1 rfl) ?_
  refine g_oi (c_X (np := 1) S (m_M_isTable l D k L f ha) hw ml_M_101 st_M_isTable in_M co_M_isTable (by decide +kernel) rfl ⟨rfl, rfl, by decide, by decide⟩ hl.1 rfl (by simp [Value.category]) d_M_leave_1 ⟨Nat.zero_le _, Nat.zero_le _⟩) hw (fun r1 f1 H locs hp hg => ?_)
  rw [hp.1] at hg
  refine l_top hp.2 ?_
  refine lv_if_eq (tgt := 31) hx hb d_M_leave_4 (by decide) (fun hc => ?_) (fun hc => ?_)
  · have hn : ¬ (0 ≤ a ∧ a < 8) := fun q => by rw [if_pos q] at hc; exact absurd hc (by decide)
    exact bad H locs ls (fun ⟨i, j, set, q⟩ => hn (by have := q.1; have := q.2.1; omega)) hg
  have hn : 0 ≤ a ∧ a < 8 := Classical.byContradiction fun q => hc (if_neg q)
  refine lv_aload_n hx hb d_M_leave_7 rfl (lv_at hl 0 rfl) ?_
  refine lv_iload_n hx hb d_M_leave_8 rfl (lv_at hl 2 rfl) ?_
  have hw := hg
  refine g_oi (c_V (np := 1) S (m_M_isReduced l D h hb') hw (h.1.1.1) (h.2.1 _ (List.mem_cons_self)) rfl ml_M_191 im_M_isReduced se_M_M_isReduced in_M co_M_isReduced (by decide +kernel) rfl ⟨rfl, rfl, by decide, by decide⟩ hl.1 rfl (by simp [Value.category]) d_M_leave_9 ⟨Nat.zero_le _, Nat.zero_le _⟩) hw (fun r1 f1 H locs hp hg => ?_)
  obtain ⟨e1, hp⟩ := hp
  rw [e1] at hg
  rcases hp with ⟨er, u, h1, hu, hredu⟩ | ⟨er, hno⟩
  rotate_left
  · subst er
    refine lv_if_eq (tgt := 31) hx hb d_M_leave_12 (by decide) (fun hc => ?_) (fun hc => ?_)
    · exact bad H locs ls (fun ⟨i, j, set, q⟩ => hno ⟨j, q.2.2.1, q.2.2.2.1, (hLr j q.2.2.2.1).mpr q.2.2.2.2.1⟩) hg
    · exact absurd rfl hc
  subst er
  obtain ⟨i, hai⟩ : ∃ i : Nat, a = i := ⟨a.toNat, by omega⟩
  have hi : i < 8 := by omega
  have hru := (hLr u hu).mp hredu
  obtain ⟨t1, t2, t3, t4, t5, Vt, t6, t7⟩ := hT u hu
  have hoku := hok u hu
  obtain ⟨hq, h251, hrw, hcl, -, hRu⟩ := hok u hu
  obtain ⟨hrd, htl, hsm⟩ := hRu hru
  have hle := rd_le hrd
  have hw : kw D cls (tyl k) L s s.heap f ((mc k ra adr ma pr rw cl F R C Lo Pl To Bo Re Sm Pc)) H locs := ⟨f, hg, h.kn⟩
  refine lv_if_eq (tgt := 31) hx hb d_M_leave_12 (by decide) (fun hc => ?_) (fun hc => ?_)
  · exact absurd hc (by decide)
  refine lv_iload_n hx hb d_M_leave_15 rfl (lv_at hl 3 rfl) ?_
  refine lv_if_lt (tgt := 31) hx hb d_M_leave_16 (by decide) (fun hc => ?_) (fun hc => ?_)
  · have hn2 : d < 0 := (zI_lt hd z0).mp hc
    exact bad H locs ls (fun ⟨i, j, set, q⟩ => by have := q.2.2.2.2.2.1; omega) hg
  have hn2 : ¬ d < 0 := fun q => hc ((zI_lt hd z0).mpr q)
  obtain ⟨set, hds⟩ : ∃ i : Nat, d = i := ⟨d.toNat, by omega⟩
  have hset : set < 2 ^ 31 := by have := hd.2; omega
  have hp12 := p2_12 (st u).cols (by omega)
  refine lv_iload_n hx hb d_M_leave_19 rfl (lv_at hl 3 rfl) ?_
  refine lv_iconst (v := 1) hx hb d_M_leave_20 (by decide) ?_
  refine lv_aload_n hx hb d_M_leave_21 rfl (lv_at hl 0 rfl) ?_
  refine k_get hx hb hG lay_M hown hw 0 rfl rfl 10 (by decide) (hG _ fl_M_60) (fun _ h9 => h9) rfl d_M_leave_22 ?_
  refine lv_iload_n hx hb d_M_leave_25 rfl (lv_at hl 2 rfl) ?_
  refine k_iald hx hb hw 3 0 rfl rfl (u) (by rw [h1]; rfl) (hu) (by first | decide | omega) d_M_leave_26 ?_
  refine l_top t3 ?_
  refine lv_ishl hx hb d_M_leave_27 ?_
  refine l_top (shl_1 (st u).cols (by omega)) ?_
  refine lv_icmp_lt (tgt := 33) hx hb d_M_leave_28 (by decide) (fun hc => ?_) (fun hc => ?_)
  rotate_left
  · refine bad H locs ls (fun ⟨i', j', set', q⟩ => hc ?_) hg
    have e1 : set' = set := by have := q.2.2.2.2.2.1; omega
    have e2 : j' = u := by have := q.2.2.1; omega
    have h9 := q.2.2.2.2.2.2
    rw [e1, e2] at h9
    rw [hds]
    exact (nI_ltI hset (by omega)).mpr h9
  have hset2 : set < 2 ^ (st u).cols := by
    rw [hds] at hc
    exact (nI_ltI hset (by omega)).mp hc
  have hskc := sk_kc set (st u).cols
  subst hds
  subst hai
  subst h1
  have fin : ∀ (f3 : Nat → va_E) (V3 : Nat → Int) (Sm3 Pc3 : Nat → Int32) (r1 mm : Nat) (B : Nat → Nat → Int) (ph : Nat → Nat) (H : Heap) (locs : List Loc) (ls : Array Slot), MW L own k f3 ma ra adr (nI (st u).q) (nI r1) (nI (st u).cols) F R C Lo Pl To Bo Re Sm3 Pc3 V3 → oe own [200] f f3 → mm ≤ r1 → r1 ≤ 12 → rd (st u).q (st u).cols (r1 - mm) (fun i => B (i + mm)) (fun i => ph (i + mm)) → (∀ r, r < r1 - mm → tl (st u).q (st u).cols (B (r + mm)) (ph (r + mm))) → ((st u).q = 0 → sml (st u).cols (sp 0 (st u).cols (r1 - mm) (fun i => B (i + mm)))) → KT (st u).q (st u).cols r1 B (fun i => B i (ph i)) V3 Sm3 → (∀ w, leaveV (st u).q (st u).cols (st u).rows (st u).A set z w ↔ sp (st u).q (kc set (st u).cols) (r1 - mm) (fun i j => B (i + mm) (sk set (st u).cols + j)) w) → lv_has ls 10 [(0, .ref ma), (1, .int (zI (i : Int))), (5, .int (nI (sk set (st u).cols))), (6, .int (nI mm))] → gw D cls (tyl k) L s s.heap f3 H locs → W p l e (rmN 9) s m ([.ref ma, .int (zI (i : Int)), .int (zI (u : Int)), .int (zI (set : Int)), .int (if z then 1 else 0)] : List Value).toArray below meth c H locs 0 0 (MQ below (va_Qi (fun r f' => ∃ st', RS L own k f' ma ra adr st' ∧ oe own [200] f f' ∧ spLeave st (i : Int) (u : Int) (set : Int) z st' r) (mst D cls (tyl k) L) (fun q => q ∈ L)) ([.ref ma, .int (zI (i : Int)), .int (zI (u : Int)), .int (zI (set : Int)), .int (if z then 1 else 0)] : List Value).toArray s 0 0 (fun q => q ∈ L)) (F0 m 222 ls []) := by
    intro f3 V3 Sm3 Pc3 r1 mm B ph H locs ls h3 ho3 hm hr1 hrd3 htl3 hsm3 hKT3 hV hl hg
    refine lv_aload_n hx hb d_M_leave_222 rfl (lv_at hl 0 rfl) ?_
    refine lv_iload hx hb d_M_leave_223 (lv_at hl 3 rfl) ?_
    refine lv_iload hx hb d_M_leave_225 (lv_at hl 2 rfl) ?_
    have hw := hg
    refine g_ov (c_V (np := 2) S (m_M_shift l D h3 (kk := r1) (n := (st u).cols) (fi := mm) (gn := sk set (st u).cols) (g0 := fun a w => (V3 (10 + (12 * a + w)), V3 (154 + (12 * a + w)), Sm3 (12 * a + w))) hr1 hcl hm (by omega) (fun a w _ _ => ⟨rfl, rfl, rfl⟩)) hw (h3.1.1.1) (h3.2.1 _ (List.mem_cons_self)) rfl ml_M_194 im_M_shift se_M_M_shift in_M co_M_shift (by decide +kernel) rfl ⟨rfl, rfl, by decide, by decide⟩ hl.1 rfl (by simp [Value.category]) d_M_leave_227 ⟨Nat.zero_le _, Nat.zero_le _⟩) hw (fun f4 H locs hp hg => ?_)
    obtain ⟨V4, Sm4, h4, ho4, hD4⟩ := hp
    obtain ⟨N, X, hokR, hRI⟩ := lv_last hq h251 hr1 hcl hm hrd3 htl3 hsm3 hKT3 hD4
    refine lv_aload_n hx hb d_M_leave_230 rfl (lv_at hl 0 rfl) ?_
    refine lv_iload_n hx hb d_M_leave_231 rfl (lv_at hl 1 rfl) ?_
    have hw := hg
    refine g_oi (c_V (np := 1) S (m_M_finish l D h4 (st := st) (t := i) (fun s hs _ => ⟨hT s hs, (hok s hs).2.2.1, (hok s hs).2.2.2.1⟩) hi (by omega) (by omega) hokR hq h251 hRI) hw (h4.1.1.1) (h4.2.1 _ (List.mem_cons_self)) rfl ml_M_188 im_M_finish se_M_M_finish in_M co_M_finish (by decide +kernel) rfl ⟨rfl, rfl, by decide, by decide⟩ hl.1 rfl (by simp [Value.category]) d_M_leave_232 ⟨Nat.zero_le _, Nat.zero_le _⟩) hw (fun r5 f5 H locs hp hg => ?_)
    obtain ⟨y, g1, g2, g3, g4⟩ := hp
    have ekc : (st u).cols - sk set (st u).cols = kc set (st u).cols := by omega
    rw [ekc] at g1
    refine g_reti hx hb hr hlocks hg ⟨_, g2, ho3.trans (ho4.trans g3), Or.inl ⟨i, u, set, ⟨rfl, hi, rfl, hu, hru, rfl, hset2⟩, y, ?_, rfl, g4⟩⟩ d_M_leave_235
    exact ⟨g1.1, g1.2.1, g1.2.2.1, g1.2.2.2.1, g1.2.2.2.2.1, g1.2.2.2.2.2.1, fun x => (hV x).trans (g1.2.2.2.2.2.2 x)⟩
  refine lv_aload_n hx hb d_M_leave_33 rfl (lv_at hl 0 rfl) ?_
  refine lv_aload_n hx hb d_M_leave_34 rfl (lv_at hl 0 rfl) ?_
  refine k_get hx hb hG lay_M hown hw 0 rfl rfl 8 (by decide) (hG _ fl_M_53) (fun _ h9 => h9) rfl d_M_leave_35 ?_
  refine lv_iload_n hx hb d_M_leave_38 rfl (lv_at hl 2 rfl) ?_
  refine k_iald hx hb hw 1 0 rfl rfl (u) (rfl) (hu) (by first | decide | omega) d_M_leave_39 ?_
  refine l_top t1 ?_
  refine lv_aload_n hx hb d_M_leave_40 rfl (lv_at hl 0 rfl) ?_
  refine k_get hx hb hG lay_M hown hw 0 rfl rfl 9 (by decide) (hG _ fl_M_57) (fun _ h9 => h9) rfl d_M_leave_41 ?_
  refine lv_iload_n hx hb d_M_leave_44 rfl (lv_at hl 2 rfl) ?_
  refine k_iald hx hb hw 2 0 rfl rfl (u) (rfl) (hu) (by first | decide | omega) d_M_leave_45 ?_
  refine l_top t2 ?_
  refine lv_aload_n hx hb d_M_leave_46 rfl (lv_at hl 0 rfl) ?_
  refine k_get hx hb hG lay_M hown hw 0 rfl rfl 10 (by decide) (hG _ fl_M_60) (fun _ h9 => h9) rfl d_M_leave_47 ?_
  refine lv_iload_n hx hb d_M_leave_50 rfl (lv_at hl 2 rfl) ?_
  refine k_iald hx hb hw 3 0 rfl rfl (u) (rfl) (hu) (by first | decide | omega) d_M_leave_51 ?_
  refine l_top t3 ?_
  have hw := hg
  refine g_ov (c_V (np := 3) S (m_M_empty l D h (nI (st u).q) (nI (st u).rows) (nI (st u).cols)) hw (h.1.1.1) (h.2.1 _ (List.mem_cons_self)) rfl ml_M_127 im_M_empty se_M_M_empty in_M co_M_empty (by decide +kernel) rfl ⟨rfl, rfl, by decide, by decide⟩ hl.1 rfl (by simp [Value.category]) d_M_leave_52 ⟨Nat.zero_le _, Nat.zero_le _⟩) hw (fun f2 H locs hp hg => ?_)
  obtain ⟨V2, Sm2, h2, ho2, hE2⟩ := hp
  refine lv_iconst (v := 0) hx hb d_M_leave_55 (by decide) ?_
  refine lv_istore hx hb d_M_leave_56 hl (by decide) rfl (fun ls hl => ?_)
  refine lv_iconst (v := 0) hx hb d_M_leave_58 (by decide) ?_
  refine lv_istore hx hb d_M_leave_59 hl (by decide) rfl (fun ls hl => ?_)
  have hl := lv_sub hl [2, 3, 4, 5, 6, 1, 0] rfl
  refine w_lv1 S (n := (st u).cols) (kk := (st u).rows) (set := set) (t := u) hcl hset h2 (fun H locs ls hl hg => ?_) (st u).cols 0 H locs ls (by omega) hl hg
  -- METHOD M_leave | loc 0=m 1=a 2=b 3=d 4=z 5=gone | ws m fa rc cc lo pl to bo re tp bt sm pc | fld m.fields=fa m.rowCounts=rc m.columnCounts=cc m.loose=lo m.places=pl m.tops=to m.bottoms=bo m.residues=re m.top=tp m.bottom=bt m.small=sm m.place=pc m.one=n0 m.two=n1 m.three=n2 m.four=n3 m.five=n4 m.six=n5 m.seven=n6 m.eight=n7 m.above=n8 m.under=n9
  refine lv_iconst (v := 0) hx hb d_M_leave_87 (by decide) ?_
  refine lv_istore hx hb d_M_leave_88 hl (by decide) rfl (fun ls hl => ?_)
  have hl := lv_sub hl [1, 2, 3, 4, 5, 6, 0] rfl
  refine w_lv2O S (n := (st u).cols) (kk := (st u).rows) (set := set) (t := u) (Vt := Vt) hu hrw hcl hset t6 (f0 := f) (fun f3 V3 Sm3 H locs ls h3 ho3 hD3 hl hg => ?_) (st u).rows 0 f2 V2 Sm2 H locs ls (by omega) h2 ho2 (cel_congr (cel_0 hE2) (fun a w ha hw => (if_neg (by omega)).symm)) hl hg
  have hKT3 := lv_KT hru hrw hcl hrd t7 hD3
  have hrdp := rd_perm (set := set) hrd
  have htlp : ∀ r, r < (st u).rows → tl (st u).q (st u).cols (fun w => (st u).A r (rho set (st u).cols w)) (pos set (st u).cols ((st u).pl r)) := fun r hr => tl_perm (hrd.1 r hr).1 (htl r hr)
  have hsmp : (st u).q = 0 → sml (st u).cols (sp 0 (st u).cols (st u).rows (fun i w => (st u).A i (rho set (st u).cols w))) := fun h0 => by
    have hrd0 := hrd
    have htl0 := htl
    rw [h0] at hrd0 htl0
    exact sml_perm hrd0 htl0 (hsm h0).1
  refine lv_iconst (v := 0) hx hb d_M_leave_183 (by decide) ?_
  refine lv_istore hx hb d_M_leave_184 hl (by decide) rfl (fun ls hl => ?_)
  refine lv_iload hx hb d_M_leave_186 (lv_at hl 5 rfl) ?_
  refine lv_if_eq (tgt := 222) hx hb d_M_leave_188 (by decide) (fun hc => ?_) (fun hc => ?_)
  · have hz : z = false := by
      cases z with
      | false => rfl
      | true => exact absurd hc (by decide)
    have hl := lv_sub hl [1, 2, 6, 0] rfl
    refine fin f3 V3 Sm3 _ (st u).rows 0 _ _ H locs ls h3 ho3 (Nat.zero_le _) hrw hrdp htlp hsmp hKT3 (fun w => ?_) hl hg
    subst hz
    refine (leave_f (dmX hq) w).trans ?_
    have e : (fun i j => (st u).A i (kcl set (st u).cols j)) = (fun i j => (st u).A (i + 0) (rho set (st u).cols (sk set (st u).cols + j))) := by
      funext i j
      rw [rho_add, Nat.add_zero]
    rw [e]; exact Iff.rfl
  have hz : z = true := by
    cases z with
    | true => rfl
    | false => exact absurd rfl hc
  obtain ⟨N, X, hokR, hRI⟩ := kt_start (κ := id) hq h251 hrw hcl (fun j hj => hj) hrdp htlp hsmp hKT3.1 hKT3.2.1 hKT3.2.2
  refine lv_aload_n hx hb d_M_leave_191 rfl (lv_at hl 1 rfl) ?_
  have hw := hg
  refine g_ov (c_V (np := 0) S (m_M_reduceAll l D (q := (st u).q) (Inv := RI (st u).q N (st u).cols (st u).rows X (fun i j => (st u).A i (rho set (st u).cols (id j)))) (pl := id) h3 (by omega) hrw hcl (fun c r V Sm pl h1 h2 h3 => RI_skip c r V Sm pl hokR h1 h2 h3) (fun c r V Sm pl i h1 h2 h3 h4 h5 V1 Sm1 h6 => RI_piv hrw hcl hokR c r V Sm pl i h1 h2 h3 h4 h5 V1 Sm1 h6) hRI) hw (h3.1.1.1) (h3.2.1 _ (List.mem_cons_self)) rfl ml_M_172 im_M_reduceAll se_M_M_reduceAll in_M co_M_reduceAll (by decide +kernel) rfl ⟨rfl, rfl, by decide, by decide⟩ hl.1 rfl (by simp [Value.category]) d_M_leave_192 ⟨Nat.zero_le _, Nat.zero_le _⟩) hw (fun f4 H locs hp hg => ?_)
  obtain ⟨r1, V4, Sm4, Pc4, pl4, h4, ho4, hr4, hI4, hP4⟩ := hp
  obtain ⟨A1, hLR, hKT4⟩ := RI_end hokR hr4 hI4
  obtain ⟨l1, l2, l3, l4⟩ := hLR
  have hl := lv_sub hl [1, 2, 6, 0] rfl
  refine w_lv3 S (gn := sk set (st u).cols) (r1 := r1) (pl1 := pl4) (by omega) (by omega) (fun x hx => ⟨hP4 x hx, by have := (l1.1 x hx).1; omega⟩) (fun x y hxy hy => l2.1 x y hxy hy) h4 (fun mm H locs ls hm hm1 hm2 hl hg => ?_) r1 0 H locs ls (by omega) (fun x hx => absurd hx (Nat.not_lt_zero x)) hl hg
  refine fin f4 V4 Sm4 _ r1 mm A1 pl4 H locs ls h4 (ho3.trans ho4) hm (by omega) ⟨fun r hr => l1.1 (r + mm) (by omega), fun r q hr hq hne => l1.2 (r + mm) (q + mm) (by omega) (by omega) (by omega)⟩ (fun r hr => l3 (r + mm) (by omega)) (fun h0 => ?_) hKT4 (fun w => ?_) hl hg
  · rw [h0] at l1 l2 l4
    exact sml_iff (sec_rows l1 l2 hm hm1 hm2) (sml_sec (fun x => Iff.rfl) (sml_iff l4 (hsmp h0)))
  · subst hz
    exact leave_p (dmX hq) l1 l2 l4 hm hm1 hm2 w
end MLVP


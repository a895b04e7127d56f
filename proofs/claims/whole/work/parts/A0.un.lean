-- ===== both sides answer by the same relation: the answers are the same, the new tables too =====
theorem teq_rf (x : Tb) : teq x x := ⟨rfl, rfl, rfl, rfl, fun _ _ _ _ => rfl, fun _ _ _ => rfl⟩
theorem up_teq {st : Nat → Tb} {j : Nat} {y2 y1 : Tb} (h : teq y2 y1) : ∀ i, i < 8 → teq (va_up st j y2 i) (va_up st j y1 i) := fun i _ => by
  by_cases e : i = j
  · rw [e, va_up_self, va_up_self]; exact h
  · rw [va_up_ne _ _ e, va_up_ne _ _ e]; exact teq_rf _
theorem RS_teq {L : List Nat} {own : Nat → Nat} {k : Nat → ClassId} {f : Nat → va_E} {ma : Nat} {ra adr : Nat → Nat} {st1 st2 : Nat → Tb} (h : RS L own k f ma ra adr st2) (e : ∀ i, i < 8 → teq (st2 i) (st1 i)) (hok : ∀ i, i < 8 → okT (st1 i)) : RS L own k f ma ra adr st1 := by
  obtain ⟨pr, rw, cl, F, R, C, Lo, Pl, To, Bo, Re, Sm, Pc, V, h, hT⟩ := h
  refine ⟨pr, rw, cl, F, R, C, Lo, Pl, To, Bo, Re, Sm, Pc, V, h, fun t ht => ?_⟩
  have ho := hok t ht
  obtain ⟨e1, e2, e3, e4, e5, e6⟩ := e t ht
  refine teq_RTb (hT t ht) (e t ht) (by have := ho.2.2.1; omega) (by have := ho.2.2.2.1; omega) (fun hr i hi => ?_)
  rw [e6 hr i hi, e3]
  exact ((ho.2.2.2.2.2 (by rw [← e4]; exact hr)).1.1 i (by omega)).1
theorem CS.keep {L : List Nat} {own : Nat → Nat} {k : Nat → ClassId} {f f' : Nat → va_E} {xa ta qa pr ln : Nat} {tO tP tN adr : Nat → Nat} {zl : Nat → Option Nat} {π : Nat → Nat} {st : Nat → Tb} (h : CS L own k f xa ta qa pr ln tO tP tN adr zl π st) (ho : oe own [200] f f') : CS L own k f' xa ta qa pr ln tO tP tN adr zl π st := by
  obtain ⟨zt, hX, hzt, hR, hπ, hC, rs, fd, rows, cols, rd, P, Wt, hS⟩ := h
  exact ⟨zt, hX.keep ho (by decide), hzt, hR.keep ho (by decide), hπ, fun i hi => (hC i hi).keep ho (by simp; have := hπ.1 i (by omega); omega), rs, fd, rows, cols, rd, P, Wt, hS.keep ho (by simp; have := hπ.1 8 (by omega); omega)⟩
theorem un_of {st : Nat → Tb} {a b : Int} {r1 r2 : Int32} (h1 : spOf st a b r1) (h2 : spOf st a b r2) : r1 = r2 := by
  rcases h1 with ⟨i, a1, a2, h1⟩ | ⟨n1, h1⟩ <;> rcases h2 with ⟨j, b1, b2, h2⟩ | ⟨n2, h2⟩
  · have e : i = j := by omega
    subst e
    rcases h1 with h1 | h1 | h1 | h1 | h1 <;> rcases h2 with h2 | h2 | h2 | h2 | h2 <;> first | exact h1.2.trans h2.2.symm | (have := h1.1; have := h2.1; omega)
  · omega
  · omega
  · rw [h1, h2]
theorem un_place {st : Nat → Tb} {a b : Int} {r1 r2 : Int32} (h1 : spPlace st a b r1) (h2 : spPlace st a b r2) : r1 = r2 := by
  rcases h1 with ⟨i, x, a1, a2, a3, a4, a5, h1⟩ | ⟨n1, h1⟩ <;> rcases h2 with ⟨j, y, b1, b2, b3, b4, b5, h2⟩ | ⟨n2, h2⟩
  · have e : i = j := by omega
    have e2 : x = y := by omega
    subst e
    subst e2
    rw [h1, h2]
  · exact absurd ⟨i, x, a1, a2, a3, a4, a5⟩ n2
  · exact absurd ⟨j, y, b1, b2, b3, b4, b5⟩ n1
  · rw [h1, h2]
theorem at_un {st : Nat → Tb} {a b d : Int} {i x y i' x' y' : Nat} (h : isAt st a b d i x y) (h' : isAt st a b d i' x' y') : i' = i ∧ x' = x ∧ y' = y := by
  obtain ⟨a1, -, a2, a3, -⟩ := h
  obtain ⟨b1, -, b2, b3, -⟩ := h'
  omega
theorem un_sign {st : Nat → Tb} {a b d : Int} {r1 r2 : Int32} (h1 : spSign st a b d r1) (h2 : spSign st a b d r2) : r1 = r2 := by
  rcases h1 with ⟨i, x, y, a1, h1⟩ | ⟨n1, h1⟩ <;> rcases h2 with ⟨i', x', y', b1, h2⟩ | ⟨n2, h2⟩
  · obtain ⟨e1, e2, e3⟩ := at_un a1 b1
    rw [h1, h2, e1, e2, e3]
  · exact absurd ⟨i, x, y, a1⟩ n2
  · exact absurd ⟨i', x', y', b1⟩ n1
  · rw [h1, h2]
theorem un_digit {st : Nat → Tb} {a b d e : Int} {r1 r2 : Int32} (h1 : spDigit st a b d e r1) (h2 : spDigit st a b d e r2) : r1 = r2 := by
  rcases h1 with ⟨i, x, y, z, a1, a2, h1⟩ | ⟨n1, h1⟩ <;> rcases h2 with ⟨i', x', y', z', b1, b2, h2⟩ | ⟨n2, h2⟩
  · obtain ⟨e1, e2, e3⟩ := at_un a1 b1
    have e4 : z' = z := by omega
    rw [h1, h2, e1, e2, e3, e4]
  · rcases n2 with q | q
    · exact absurd ⟨i, x, y, a1⟩ q
    · omega
  · rcases n1 with q | q
    · exact absurd ⟨i', x', y', b1⟩ q
    · omega
  · rw [h1, h2]
def un2 (r1 r2 : Int32) (st1 st2 : Nat → Tb) : Prop := r1 = r2 ∧ (∀ i, i < 8 → teq (st2 i) (st1 i))
theorem un2_rf {r1 r2 : Int32} {st1 st2 : Nat → Tb} (h : r1 = r2) (e : st1 = st2) : un2 r1 r2 st1 st2 := ⟨h, fun i _ => by rw [e]; exact teq_rf _⟩
theorem un2_L {st st1 st2 : Nat → Tb} {r1 r2 : Int32} {q n i : Nat} {V : (Nat → Int) → Prop} {y1 y2 : Tb} (hq : q = 0 ∨ prm q) (h1 : LRT q n V y1) (h2 : LRT q n V y2) (e1 : st1 = va_up st i y1) (e2 : st2 = va_up st i y2) (f1 : r1 = nI y1.rows) (f2 : r2 = nI y2.rows) : un2 r1 r2 st1 st2 := by
  have ht := LRT_un hq h2 h1
  refine ⟨by rw [f1, f2, ht.2.1], fun j hj => ?_⟩
  rw [e1, e2]; exact up_teq ht j hj
theorem un_begin {st st1 st2 : Nat → Tb} {a b c d : Int} {r1 r2 : Int32} (h1 : spBegin st a b c d st1 r1) (h2 : spBegin st a b c d st2 r2) : un2 r1 r2 st1 st2 := by
  rcases h1 with ⟨i, q, rw1, cl, a1, a2, a3, a4, a5, a6, a7, a8, a9, s1, h1⟩ | ⟨n1, s1, h1⟩ <;> rcases h2 with ⟨i', q', rw2, cl', b1, b2, b3, b4, b5, b6, b7, b8, b9, s2, h2⟩ | ⟨n2, s2, h2⟩
  · refine un2_rf (by rw [h1, h2]) ?_
    have e1 : i' = i := by omega
    have e2 : q' = q := by omega
    have e3 : rw2 = rw1 := by omega
    have e4 : cl' = cl := by omega
    rw [s1, s2, e1, e2, e3, e4]
  · exact absurd ⟨by omega, by omega, ⟨q, a3, a4, a5⟩, by omega, by omega, by omega, by omega⟩ n2
  · exact absurd ⟨by omega, by omega, ⟨q', b3, b4, b5⟩, by omega, by omega, by omega, by omega⟩ n1
  · exact un2_rf (by rw [h1, h2]) (by rw [s1, s2])
theorem un_put {st st1 st2 : Nat → Tb} {a b c d : Int} {r1 r2 : Int32} (h1 : spPut st a b c d st1 r1) (h2 : spPut st a b c d st2 r2) : un2 r1 r2 st1 st2 := by
  rcases h1 with ⟨i, x, y, a1, a2, a3, a4, s1, h1⟩ | ⟨n1, s1, h1⟩ <;> rcases h2 with ⟨i', x', y', b1, b2, b3, b4, s2, h2⟩ | ⟨n2, s2, h2⟩
  · obtain ⟨e1, e2, e3⟩ := at_un a1 b1
    exact un2_rf (by rw [h1, h2]) (by rw [s1, s2, e1, e2, e3])
  · exact absurd ⟨⟨i, x, y, a1, a2⟩, a3, a4⟩ n2
  · exact absurd ⟨⟨i', x', y', b1, b2⟩, b3, b4⟩ n1
  · exact un2_rf (by rw [h1, h2]) (by rw [s1, s2])
theorem un_reduce {st st1 st2 : Nat → Tb} {a : Int} {r1 r2 : Int32} (hok : ∀ i, i < 8 → okT (st i)) (h1 : spReduce st a st1 r1) (h2 : spReduce st a st2 r2) : un2 r1 r2 st1 st2 := by
  rcases h1 with ⟨i, a1, a2, h1⟩ | ⟨n1, s1, h1⟩ <;> rcases h2 with ⟨i', b1, b2, h2⟩ | ⟨n2, s2, h2⟩
  · have e1 : i' = i := by omega
    subst e1
    rcases h1 with ⟨c1, s1, h1⟩ | ⟨c1, y1, l1, s1, h1⟩ <;> rcases h2 with ⟨c2, s2, h2⟩ | ⟨c2, y2, l2, s2, h2⟩
    · exact un2_rf (by rw [h1, h2]) (by rw [s1, s2])
    · rw [c1] at c2; cases c2
    · rw [c1] at c2; cases c2
    · exact un2_L (hok _ b2).1 l1 l2 s1 s2 h1 h2
  · omega
  · omega
  · exact un2_rf (by rw [h1, h2]) (by rw [s1, s2])
theorem un_turn {st st1 st2 : Nat → Tb} {a b d : Int} {r1 r2 : Int32} (hok : ∀ i, i < 8 → okT (st i)) (h1 : spTurn st a b d st1 r1) (h2 : spTurn st a b d st2 r2) : un2 r1 r2 st1 st2 := by
  rcases h1 with ⟨i, x, y, a1, a2, a3, t1, l1, s1, h1⟩ | ⟨n1, s1, h1⟩ <;> rcases h2 with ⟨i', x', y', b1, b2, b3, t2, l2, s2, h2⟩ | ⟨n2, s2, h2⟩
  · obtain ⟨e1, e2, e3⟩ := at_un a1 b1
    subst e1
    subst e2
    subst e3
    refine ⟨by rw [h1, h2], fun j hj => ?_⟩
    rw [s1, s2]; exact up_teq (TRN_un (hok _ a1.2.1).1 l2 l1) j hj
  · exact absurd ⟨i, x, y, a1, a2, a3⟩ n2
  · exact absurd ⟨i', x', y', b1, b2, b3⟩ n1
  · exact un2_rf (by rw [h1, h2]) (by rw [s1, s2])
theorem un_dual {st st1 st2 : Nat → Tb} {a b : Int} {r1 r2 : Int32} (hok : ∀ i, i < 8 → okT (st i)) (h1 : spDual st a b st1 r1) (h2 : spDual st a b st2 r2) : un2 r1 r2 st1 st2 := by
  rcases h1 with ⟨i, j, a1, a2, a3, a4, a5, y1, l1, s1, h1⟩ | ⟨n1, s1, h1⟩ <;> rcases h2 with ⟨i', j', b1, b2, b3, b4, b5, y2, l2, s2, h2⟩ | ⟨n2, s2, h2⟩
  · have e1 : i' = i := by omega
    have e2 : j' = j := by omega
    subst e1
    subst e2
    exact un2_L (hok _ a4).1 l1 l2 s1 s2 h1 h2
  · exact absurd ⟨by omega, by omega, j, a3, a4, a5⟩ n2
  · exact absurd ⟨by omega, by omega, j', b3, b4, b5⟩ n1
  · exact un2_rf (by rw [h1, h2]) (by rw [s1, s2])
theorem un_leave {st st1 st2 : Nat → Tb} {a b d : Int} {z : Bool} {r1 r2 : Int32} (hok : ∀ i, i < 8 → okT (st i)) (h1 : spLeave st a b d z st1 r1) (h2 : spLeave st a b d z st2 r2) : un2 r1 r2 st1 st2 := by
  rcases h1 with ⟨i, j, set, a1, y1, l1, s1, h1⟩ | ⟨n1, s1, h1⟩ <;> rcases h2 with ⟨i', j', set', b1, y2, l2, s2, h2⟩ | ⟨n2, s2, h2⟩
  · obtain ⟨c1, c2, c3, c4, c5, c6, c7⟩ := a1
    obtain ⟨d1, d2, d3, d4, d5, d6, d7⟩ := b1
    have e1 : i' = i := by omega
    have e2 : j' = j := by omega
    have e3 : set' = set := by omega
    subst e1
    subst e2
    subst e3
    exact un2_L (hok _ c4).1 l1 l2 s1 s2 h1 h2
  · exact absurd ⟨i, j, set, a1⟩ n2
  · exact absurd ⟨i', j', set', b1⟩ n1
  · exact un2_rf (by rw [h1, h2]) (by rw [s1, s2])
theorem un_sum {st st1 st2 : Nat → Tb} {a b d : Int} {r1 r2 : Int32} (hok : ∀ i, i < 8 → okT (st i)) (h1 : spSum st a b d st1 r1) (h2 : spSum st a b d st2 r2) : un2 r1 r2 st1 st2 := by
  rcases h1 with ⟨i, u, v, a1, y1, l1, s1, h1⟩ | ⟨n1, s1, h1⟩ <;> rcases h2 with ⟨i', u', v', b1, y2, l2, s2, h2⟩ | ⟨n2, s2, h2⟩
  · obtain ⟨c1, c2, c3, c4, c5, c6, c7, -⟩ := a1
    obtain ⟨d1, d2, d3, d4, d5, d6, d7, -⟩ := b1
    have e1 : i' = i := by omega
    have e2 : u' = u := by omega
    have e3 : v' = v := by omega
    subst e1
    subst e2
    subst e3
    exact un2_L (hok _ c4).1 l1 l2 s1 s2 h1 h2
  · exact absurd ⟨i, u, v, a1⟩ n2
  · exact absurd ⟨i', u', v', b1⟩ n1
  · exact un2_rf (by rw [h1, h2]) (by rw [s1, s2])
-- the tables stay good
theorem ok_begin {st st1 : Nat → Tb} {a b c d : Int} {r : Int32} (hok : ∀ i, i < 8 → okT (st i)) (h : spBegin st a b c d st1 r) : ∀ i, i < 8 → okT (st1 i) := by
  rcases h with ⟨i, q, rw1, cl, a1, a2, a3, a4, a5, a6, a7, a8, a9, s1, -⟩ | ⟨-, s1, -⟩
  · rw [s1]
    refine okT_up hok ⟨a4, a5, a7, a9, fun _ x y _ _ => ⟨fun _ => by show (0 : Int).natAbs ≤ 999; decide, fun h0 => ⟨Int.le_refl _, by show (0 : Int) < ((q : Nat) : Int); have : q ≠ 0 := h0; omega⟩⟩, fun z => by cases z⟩
  · rw [s1]; exact hok
theorem ok_put {st st1 : Nat → Tb} {a b c d : Int} {r : Int32} (hok : ∀ i, i < 8 → okT (st i)) (h : spPut st a b c d st1 r) : ∀ i, i < 8 → okT (st1 i) := by
  rcases h with ⟨i, x, y, a1, a2, a3, a4, s1, -⟩ | ⟨-, s1, -⟩
  · rw [s1]
    obtain ⟨o1, o2, o3, o4, o5, -⟩ := hok i a1.2.1
    refine okT_up hok ⟨o1, o2, o3, o4, fun _ x' y' hx hy => ?_, fun z => by cases z⟩
    have h5 := o5 a2 x' y' hx hy
    show ((st i).q = 0 → (va_up (st i).A x (va_up ((st i).A x) y (if (st i).q = 0 then d else d % (st i).q)) x' y').natAbs ≤ 999) ∧ ((st i).q ≠ 0 → rsd (st i).q (va_up (st i).A x (va_up ((st i).A x) y (if (st i).q = 0 then d else d % (st i).q)) x' y'))
    by_cases e1 : x' = x
    · subst e1
      rw [va_up_self]
      by_cases e2 : y' = y
      · subst e2
        rw [va_up_self]
        refine ⟨fun h0 => ?_, fun h0 => ?_⟩
        · rw [if_pos h0]; omega
        · rw [if_neg h0]; exact ⟨Int.emod_nonneg _ (by omega), Int.emod_lt_of_pos _ (by omega)⟩
      · rw [va_up_ne _ _ e2]; exact h5
    · rw [va_up_ne _ _ e1]; exact h5
  · rw [s1]; exact hok
theorem ok_reduce {st st1 : Nat → Tb} {a : Int} {r : Int32} (hok : ∀ i, i < 8 → okT (st i)) (h : spReduce st a st1 r) : ∀ i, i < 8 → okT (st1 i) := by
  rcases h with ⟨i, a1, a2, h⟩ | ⟨-, s1, -⟩
  · rcases h with ⟨-, s1, -⟩ | ⟨c1, y, l1, s1, -⟩
    · rw [s1]; exact hok
    · rw [s1]; exact okT_up hok (reduce_ok (hok i a2) c1 l1)
  · rw [s1]; exact hok
theorem ok_turn {st st1 : Nat → Tb} {a b d : Int} {r : Int32} (hok : ∀ i, i < 8 → okT (st i)) (h : spTurn st a b d st1 r) : ∀ i, i < 8 → okT (st1 i) := by
  rcases h with ⟨i, x, y, a1, a2, -, t, l1, s1, -⟩ | ⟨-, s1, -⟩
  · rw [s1]; exact okT_up hok (TRN_ok (hok i a1.2.1) a2 l1)
  · rw [s1]; exact hok
theorem ok_dual {st st1 : Nat → Tb} {a b : Int} {r : Int32} (hok : ∀ i, i < 8 → okT (st i)) (h : spDual st a b st1 r) : ∀ i, i < 8 → okT (st1 i) := by
  rcases h with ⟨i, j, a1, a2, a3, a4, a5, y, l1, s1, -⟩ | ⟨-, s1, -⟩
  · rw [s1]; exact okT_up hok (dual_ok (hok j a4) a5 l1)
  · rw [s1]; exact hok
theorem ok_sum {st st1 : Nat → Tb} {a b d : Int} {r : Int32} (hok : ∀ i, i < 8 → okT (st i)) (h : spSum st a b d st1 r) : ∀ i, i < 8 → okT (st1 i) := by
  rcases h with ⟨i, u, v, a1, y, l1, s1, -⟩ | ⟨-, s1, -⟩
  · obtain ⟨c1, c2, c3, c4, c5, c6, c7, c8, c9, c10⟩ := a1
    rw [s1]; exact okT_up hok (sum_ok (hok u c4) c5 (hok v c7) c8 c9 c10 l1)
  · rw [s1]; exact hok

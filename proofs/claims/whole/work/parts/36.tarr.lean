/-- one end of the program and the reference's entries e, all but clock and silence -/
def RE (g : Nat → Int32) (Li Lo : List Int32) (st en au he lo ow fl ti gd ak sp se sd op th : Nat → Int32) (Ls : Nat → List Int32) (e : Nat) : Prop :=
  (st e = g 5 ∧ en e = g 0 ∧ au e = g 1 ∧ he e = g 2) ∧ (lo e = g 8 ∧ ow e = g 9 ∧ fl e = g 10 ∧ ti e = g 11 ∧ gd e = g 12 ∧ ak e = g 13) ∧
  (sp e = g 14 ∧ se e = g 15 ∧ sd e = g 16 ∧ th e = g 19 ∧ Ls (2 * e) = Lo ∧ Ls (2 * e + 1) = Li) ∧ (g 5 = 5 → op (2 * e) = g 18 ∧ op (2 * e + 1) = g 17)
/-- behind an arrival: the fault, and the clock that begins anew -/
def RA (g : Nat → Int32) (ck qu : Nat → Int32) (e : Nat) (r : Int32) : Prop := (g 3 = 0 → r = 0 ∧ qu e = g 7 ∧ (g 4 = 0 → ck e = g 6) ∧ (¬ g 4 = 0 → ck e = -1 ∧ g 6 = 0)) ∧ (¬ g 3 = 0 → ¬ r = 0)
theorem ne1 (e : Nat) : 2 * e + 1 ≠ 2 * e := by omega
theorem ne2 (e : Nat) : 2 * e ≠ 2 * e + 1 := by omega
theorem ne3 {e o : Nat} (h : o ≠ e) : 2 * o ≠ 2 * e := by omega
theorem ne4 {e o : Nat} : 2 * o ≠ 2 * e + 1 := by omega
theorem ne5 {e o : Nat} : 2 * o + 1 ≠ 2 * e := by omega
theorem ne6 {e o : Nat} (h : o ≠ e) : 2 * o + 1 ≠ 2 * e + 1 := by omega

theorem arr_tie {st : Nat → Int32} {ck : Nat → Int32} {en : Nat → Int32} {au : Nat → Int32} {he : Nat → Int32} {qu : Nat → Int32} {lo : Nat → Int32} {ow : Nat → Int32} {fl : Nat → Int32} {ti : Nat → Int32} {gd : Nat → Int32} {ak : Nat → Int32} {sp : Nat → Int32} {se : Nat → Int32} {sd : Nat → Int32} {op : Nat → Int32} {th : Nat → Int32} {Ls : Nat → List Int32} {st' : Nat → Int32} {ck' : Nat → Int32} {he' : Nat → Int32} {qu' : Nat → Int32} {lo' : Nat → Int32} {ow' : Nat → Int32} {ti' : Nat → Int32} {gd' : Nat → Int32} {op' : Nat → Int32} {Ls' : Nat → List Int32} {g g' : Nat → Int32} {Li Li' Lo : List Int32} {x y r : Int32} {s c h l q w kx e o : Nat} (heo : o ≠ e) (hS : CoreS g s c h l q w) (hL : CoreL g Li Lo w) (hl : l ≤ h) (hx : cls x kx) (hr : kx = 4 → s = 5 → 1 ≤ w)
    (hR : RE g Li Lo st en au he lo ow fl ti gd ak sp se sd op th Ls e) (hck : ck e = g 6) (hqu : qu e = g 7)
    (e1 : (g', Li') = s_End_arrival g Li x y) (e2 : (r, st', ck', he', qu', lo', ow', ti', gd', op', Ls') = s_Model_arrival st ck he qu lo ow ti gd op Ls e x y) :
    (RE g' Li' Lo st' en au he' lo' ow' fl ti' gd' ak sp se sd op' th Ls' e ∧ RA g' ck' qu' e r) ∧ st' o = st o ∧ ck' o = ck o ∧ he' o = he o ∧ qu' o = qu o ∧ lo' o = lo o ∧ ow' o = ow o ∧ ti' o = ti o ∧ gd' o = gd o ∧ op' (2 * o) = op (2 * o) ∧ op' (2 * o + 1) = op (2 * o + 1) ∧ Ls' (2 * o) = Ls (2 * o) ∧ Ls' (2 * o + 1) = Ls (2 * o + 1) := by
  obtain ⟨A, B, C, D, E, F, G, H, I⟩ := hS
  obtain ⟨L1, L2, L3, L4, L5, L6, L7⟩ := hL
  obtain ⟨⟨p1, p2, p3, p4⟩, ⟨p5, p6, p7, p8, p9, p10⟩, ⟨p11, p12, p13, p14, p15, p16⟩, p17⟩ := hR
  have k3 := ne3 heo
  have k6 := ne6 heo
  unfold s_End_arrival at e1
  unfold s_Model_arrival at e2
  by_cases s0 : s = 0
  · have h50 : g 5 = 0 := by rw [A.1, s0]; rfl
    have hs0 : st e = 0 := p1.trans h50
    rw [if_pos h50] at e1
    rw [if_pos hs0] at e2
    obtain ⟨rfl, rfl⟩ := Prod.mk.injEq .. ▸ e1
    simp only [Prod.mk.injEq] at e2
    obtain ⟨rfl, rfl, rfl, rfl, rfl, rfl, rfl, rfl, rfl, rfl, rfl⟩ := e2
    exact ⟨⟨⟨⟨p1, p2, p3, p4⟩, ⟨p5, p6, p7, p8, p9, p10⟩, ⟨p11, p12, p13, p14, p15, p16⟩, p17⟩, ⟨fun _ => ⟨rfl, hqu, fun _ => hck, fun h9 => absurd rfl h9⟩, fun h9 => absurd rfl h9⟩⟩, rfl, rfl, rfl, rfl, rfl, rfl, rfl, rfl, rfl, rfl, rfl, rfl⟩
  · have h50 : ¬ g 5 = 0 := st_ne A.1 A.2 0 (by omega) s0
    have hs0 : ¬ st e = 0 := by rw [p1]; exact h50
    rw [if_neg h50] at e1
    rw [if_neg hs0] at e2
    have FAULT : ∀ {g1 : Nat → Int32}, (g', Li') = (upd (upd (upd g 3 1) 4 0) 7 0, Li) → (r, st', ck', he', qu', lo', ow', ti', gd', op', Ls') = ((1 : Int32), st, ck, he, upd qu e 0, lo, ow, ti, gd, op, Ls) → (RE g' Li' Lo st' en au he' lo' ow' fl ti' gd' ak sp se sd op' th Ls' e ∧ RA g' ck' qu' e r) ∧ st' o = st o ∧ ck' o = ck o ∧ he' o = he o ∧ qu' o = qu o ∧ lo' o = lo o ∧ ow' o = ow o ∧ ti' o = ti o ∧ gd' o = gd o ∧ op' (2 * o) = op (2 * o) ∧ op' (2 * o + 1) = op (2 * o + 1) ∧ Ls' (2 * o) = Ls (2 * o) ∧ Ls' (2 * o + 1) = Ls (2 * o + 1) := by
      intro g1 e1 e2
      obtain ⟨rfl, rfl⟩ := Prod.mk.injEq .. ▸ e1
      simp only [Prod.mk.injEq] at e2
      obtain ⟨rfl, rfl, rfl, rfl, rfl, rfl, rfl, rfl, rfl, rfl, rfl⟩ := e2
      exact ⟨⟨⟨⟨p1, p2, p3, p4⟩, ⟨p5, p6, p7, p8, p9, p10⟩, ⟨p11, p12, p13, p14, p15, p16⟩, p17⟩, ⟨fun h9 => absurd h9 (by show ¬ (1 : Int32) = 0; decide), fun _ => by decide⟩⟩, rfl, rfl, rfl, pk_un heo, rfl, rfl, rfl, rfl, rfl, rfl, rfl, rfl⟩
    rcases cls_cases hx with ⟨rfl, rfl⟩ | ⟨rfl, rfl⟩ | ⟨rfl, rfl⟩ | ⟨rfl, t, ht, hx2, hx3, hx4, hx5, hx6⟩ | ⟨rfl, b, hb, hx2, hx3, hx4, hx5, hx6⟩
    · rw [if_pos rfl] at e1
      simp only [s_End_noticeSilence, bnd, if_pos] at e1 e2
      by_cases hh : h = 0
      · subst hh
        have h2 : (upd (upd g 3 0) 4 0) 2 = 0 := D.1
        have h2e : he e = 0 := p4.trans D.1
        rw [if_pos h2] at e1
        rw [if_pos h2e, if_pos rfl] at e2
        obtain ⟨rfl, rfl⟩ := Prod.mk.injEq .. ▸ e1
        simp only [Prod.mk.injEq] at e2
        obtain ⟨rfl, rfl, rfl, rfl, rfl, rfl, rfl, rfl, rfl, rfl, rfl⟩ := e2
        have l0 : l = 0 := by omega
        subst l0
        exact ⟨⟨⟨⟨p1, p2, p3, p4⟩, ⟨p5, p6, p7, p8, p9, p10⟩, ⟨p11, p12, p13, p14, p15, p16⟩, p17⟩, ⟨fun _ => ⟨rfl, pk_us.trans E.symm, fun _ => hck, fun h9 => absurd rfl h9⟩, fun h9 => absurd rfl h9⟩⟩, rfl, rfl, rfl, pk_un heo, rfl, rfl, rfl, rfl, rfl, rfl, rfl, rfl⟩
      · have h1 : h = 1 := by have := D.2; omega
        subst h1
        have h2 : ¬ (upd (upd g 3 0) 4 0) 2 = 0 := by
          show ¬ g 2 = 0
          rw [D.1]; decide
        have h2e : ¬ he e = 0 := by rw [p4, D.1]; decide
        rw [if_neg h2] at e1
        rw [if_neg h2e, if_neg (by decide)] at e2
        have h7 : (upd (upd g 3 0) 4 0) 7 = nI l := E
        rw [h7, n1] at e1
        rw [hqu, E] at e2
        have hll : l = 0 ∨ l = 1 := by omega
        rcases hll with rfl | rfl
        · rw [if_pos (by decide)] at e1
          rw [if_pos (by decide)] at e2
          obtain ⟨rfl, rfl⟩ := Prod.mk.injEq .. ▸ e1
          simp only [Prod.mk.injEq] at e2
          obtain ⟨rfl, rfl, rfl, rfl, rfl, rfl, rfl, rfl, rfl, rfl, rfl⟩ := e2
          exact ⟨⟨⟨⟨p1, p2, p3, p4⟩, ⟨p5, p6, p7, p8, p9, p10⟩, ⟨p11, p12, p13, p14, p15, p16⟩, p17⟩, ⟨fun _ => ⟨rfl, pk_us.trans (by rfl), fun _ => hck, fun h9 => absurd rfl h9⟩, fun h9 => absurd rfl h9⟩⟩, rfl, rfl, rfl, pk_un heo, rfl, rfl, rfl, rfl, rfl, rfl, rfl, rfl⟩
        · rw [if_neg (by decide)] at e1
          rw [if_neg (by decide)] at e2
          obtain ⟨rfl, rfl⟩ := Prod.mk.injEq .. ▸ e1
          simp only [Prod.mk.injEq] at e2
          obtain ⟨rfl, rfl, rfl, rfl, rfl, rfl, rfl, rfl, rfl, rfl, rfl⟩ := e2
          exact ⟨⟨⟨⟨p1, p2, p3, p4⟩, ⟨p5, p6, p7, p8, p9, p10⟩, ⟨p11, p12, p13, p14, p15, p16⟩, p17⟩, ⟨fun h9 => absurd h9 (by show ¬ (1 : Int32) = 0; decide), fun _ => by decide⟩⟩, rfl, rfl, rfl, pk_un heo, rfl, rfl, rfl, rfl, rfl, rfl, rfl, rfl⟩
    · rw [if_neg (by decide)] at e1
      simp only [bnd] at e2
      have hx3 : ¬ (259 : Int32) = -3 := by decide
      have hy3 : (if (259 : Int32) = -3 then (if he e = 0 then (0 : Int32) else 1) else 0) = 0 := if_neg hx3
      rw [hy3, if_neg hx3] at e2
      by_cases hy : y = 0
      · rw [if_pos hy, if_pos rfl] at e1
        rw [if_pos hy, if_pos trivial] at e2
        unfold s_Model_arrival_123 at e2
        rw [if_pos rfl] at e2
        obtain ⟨rfl, rfl⟩ := Prod.mk.injEq .. ▸ e1
        simp only [Prod.mk.injEq] at e2
        obtain ⟨rfl, rfl, rfl, rfl, rfl, rfl, rfl, rfl, rfl, rfl, rfl⟩ := e2
        exact ⟨⟨⟨⟨p1, p2, p3, pk_us⟩, ⟨p5, p6, p7, p8, p9, p10⟩, ⟨p11, p12, p13, p14, p15, p16⟩, p17⟩, ⟨fun _ => ⟨rfl, pk_us, fun _ => hck, fun h9 => absurd rfl h9⟩, fun h9 => absurd rfl h9⟩⟩, rfl, rfl, pk_un heo, pk_un heo, rfl, rfl, rfl, rfl, rfl, rfl, rfl, rfl⟩
      · rw [if_neg hy] at e1 e2
        exact FAULT (g1 := g) e1 e2
    · rw [if_neg (by decide)] at e1
      simp only [bnd] at e2
      have hx3 : ¬ (258 : Int32) = -3 := by decide
      have hy3 : (if (258 : Int32) = -3 then (if he e = 0 then (0 : Int32) else 1) else 0) = 0 := if_neg hx3
      rw [hy3, if_neg hx3] at e2
      by_cases hy : y = 0
      · rw [if_pos hy, if_neg (by decide), if_pos rfl] at e1
        rw [if_pos hy, if_neg (show ¬ (258 : Int32) = 259 by decide)] at e2
        simp only [s_End_arriveCredit, bnd, s_End_begin] at e1
        by_cases s4 : s = 4
        · subst s4
          have h5 : (upd (upd (upd g 3 0) 4 0) 7 0) 5 = 4 := A.1
          have hs4 : st e = 4 := p1.trans A.1
          rw [if_pos h5, if_pos h5] at e1
          rw [hs4, if_neg (show ¬ (4 : Int32) = 5 by decide), if_pos (show (0 : Int32) = 0 from rfl), if_pos trivial, if_pos (show (4 : Int32) = 4 from rfl)] at e2
          unfold s_Model_arrival_123 at e2
          rw [if_neg (show ¬ (258 : Int32) = 259 by decide), if_pos (show (258 : Int32) = 258 from rfl), if_pos (show (0 : Int32) = 0 from rfl)] at e2
          obtain ⟨rfl, rfl⟩ := Prod.mk.injEq .. ▸ e1
          simp only [Prod.mk.injEq] at e2
          obtain ⟨rfl, rfl, rfl, rfl, rfl, rfl, rfl, rfl, rfl, rfl, rfl⟩ := e2
          have I2 := I (by decide)
          have e8 : lo e + 8 = g 8 + 8 := by rw [p5]
          exact ⟨⟨⟨⟨pk_us, p2, p3, p4⟩, ⟨pk_us.trans e8, p6, p7, p8, p9, p10⟩, ⟨p11, p12, p13, p14, p15, p16⟩, fun _ => ⟨(pk_un (ne2 e)).trans (pk_us.trans I2.2.symm), pk_us.trans I2.1.symm⟩⟩, ⟨fun _ => ⟨rfl, pk_us, fun h9 => absurd h9 (by show ¬ (1 : Int32) = 0; decide), fun _ => ⟨pk_us, rfl⟩⟩, fun h9 => absurd rfl h9⟩⟩, pk_un heo, pk_un heo, rfl, pk_un heo, pk_un heo, rfl, rfl, rfl, (pk_un ne4).trans (pk_un k3), (pk_un k6).trans (pk_un ne5), rfl, rfl⟩
        · have h5 : ¬ (upd (upd (upd g 3 0) 4 0) 7 0) 5 = 4 := st_ne A.1 A.2 4 (by omega) s4
          have hs4 : ¬ st e = 4 := by rw [p1]; exact h5
          rw [if_neg h5] at e1
          by_cases s5 : s = 5
          · subst s5
            have h55 : (upd (upd (upd g 3 0) 4 0) 7 0) 5 = 5 := A.1
            have hs5 : st e = 5 := p1.trans A.1
            rw [if_pos h55, if_neg h5] at e1
            rw [if_pos hs5, if_neg (show ¬ (1 : Int32) = 0 by decide)] at e2
            unfold s_Model_arrival_123 at e2
            rw [if_neg (show ¬ (258 : Int32) = 259 by decide), if_pos (show (258 : Int32) = 258 from rfl), if_neg (show ¬ (1 : Int32) = 0 by decide)] at e2
            obtain ⟨rfl, rfl⟩ := Prod.mk.injEq .. ▸ e1
            simp only [Prod.mk.injEq] at e2
            obtain ⟨rfl, rfl, rfl, rfl, rfl, rfl, rfl, rfl, rfl, rfl, rfl⟩ := e2
            have e8 : lo e + 8 = g 8 + 8 := by rw [p5]
            exact ⟨⟨⟨⟨p1, p2, p3, p4⟩, ⟨pk_us.trans e8, p6, p7, p8, p9, p10⟩, ⟨p11, p12, p13, p14, p15, p16⟩, p17⟩, ⟨fun _ => ⟨rfl, pk_us, fun _ => hck, fun h9 => absurd rfl h9⟩, fun h9 => absurd rfl h9⟩⟩, rfl, rfl, rfl, pk_un heo, pk_un heo, rfl, rfl, rfl, rfl, rfl, rfl, rfl⟩
          · have h55 : ¬ (upd (upd (upd g 3 0) 4 0) 7 0) 5 = 5 := st_ne A.1 A.2 5 (by omega) s5
            have hs5 : ¬ st e = 5 := by rw [p1]; exact h55
            rw [if_neg h55] at e1
            rw [if_neg hs5, if_pos (show (0 : Int32) = 0 from rfl), if_pos trivial, if_neg hs4] at e2
            refine FAULT (g1 := g) (e1.trans ?_) e2
            congr 1
            funext k
            simp only [upd]
            by_cases k3' : k = 3
            · subst k3'; rfl
            · simp [k3']
      · rw [if_neg hy] at e1 e2
        exact FAULT (g1 := g) e1 e2
    · rw [if_neg hx3] at e1
      simp only [bnd] at e2
      have hy3 : (if x = -3 then (if he e = 0 then (0 : Int32) else 1) else 0) = 0 := if_neg hx3
      rw [hy3, if_neg hx3] at e2
      by_cases hy : y = 0
      · rw [if_pos hy, if_neg hx4, if_neg hx5, if_neg hx6] at e1
        rw [if_pos hy, if_neg hx4] at e2
        simp only [s_End_arriveTime, bnd] at e1
        by_cases s5 : s = 5
        · subst s5
          have h55 : (upd (upd (upd g 3 0) 4 0) 7 0) 5 = 5 := A.1
          have hs5 : st e = 5 := p1.trans A.1
          have hx7 : ¬ x ≤ 259 := fun h9 => hx6 (by rw [hx2] at h9 ⊢; exact nI_lt (b := 260) (by have := (nI_leI (a := 260 + t) (b := 259) (by omega) (by decide)).mp h9; omega) (by decide))
          rw [if_pos h55] at e1
          rw [if_pos hs5, if_neg (show ¬ (1 : Int32) = 0 by decide)] at e2
          unfold s_Model_arrival_123 at e2
          rw [if_neg hx4, if_neg hx5, if_neg hx7] at e2
          simp only [bnd] at e2
          rw [p8, p9] at e2
          have h11 : (upd (upd (upd g 3 0) 4 0) 7 0) 11 = g 11 := rfl
          have h12 : (upd (upd (upd g 3 0) 4 0) 7 0) 12 = g 12 := rfl
          rw [h11, h12] at e1
          by_cases hm : x - 260 = g 11 + 1 - (g 11 + 1) / 64 * 64
          · rw [if_pos hm] at e1
            rw [if_pos hm.symm] at e2
            obtain ⟨rfl, rfl⟩ := Prod.mk.injEq .. ▸ e1
            simp only [Prod.mk.injEq] at e2
            obtain ⟨rfl, rfl, rfl, rfl, rfl, rfl, rfl, rfl, rfl, rfl, rfl⟩ := e2
            exact ⟨⟨⟨⟨p1, p2, p3, p4⟩, ⟨p5, p6, p7, pk_us, pk_us, p10⟩, ⟨p11, p12, p13, p14, p15, p16⟩, p17⟩, ⟨fun _ => ⟨rfl, pk_us, fun _ => hck, fun h9 => absurd rfl h9⟩, fun h9 => absurd rfl h9⟩⟩, rfl, rfl, rfl, pk_un heo, rfl, rfl, pk_un heo, pk_un heo, rfl, rfl, rfl, rfl⟩
          · rw [if_neg hm] at e1
            rw [if_neg (fun h9 => hm h9.symm)] at e2
            obtain ⟨rfl, rfl⟩ := Prod.mk.injEq .. ▸ e1
            simp only [Prod.mk.injEq] at e2
            obtain ⟨rfl, rfl, rfl, rfl, rfl, rfl, rfl, rfl, rfl, rfl, rfl⟩ := e2
            exact ⟨⟨⟨⟨p1, p2, p3, p4⟩, ⟨p5, p6, p7, pk_us, pk_us, p10⟩, ⟨p11, p12, p13, p14, p15, p16⟩, p17⟩, ⟨fun _ => ⟨rfl, pk_us, fun _ => hck, fun h9 => absurd rfl h9⟩, fun h9 => absurd rfl h9⟩⟩, rfl, rfl, rfl, pk_un heo, rfl, rfl, pk_un heo, pk_un heo, rfl, rfl, rfl, rfl⟩
        · have h55 : ¬ (upd (upd (upd g 3 0) 4 0) 7 0) 5 = 5 := st_ne A.1 A.2 5 (by omega) s5
          have hs5 : ¬ st e = 5 := by rw [p1]; exact h55
          rw [if_neg h55] at e1
          rw [if_neg hs5, if_pos (show (0 : Int32) = 0 from rfl), if_neg hx5] at e2
          refine FAULT (g1 := g) (e1.trans ?_) e2
          congr 1
          funext k
          simp only [upd]
          by_cases k3' : k = 3
          · subst k3'; rfl
          · simp [k3']
      · rw [if_neg hy] at e1 e2
        exact FAULT (g1 := g) e1 e2
    · rw [if_neg hx3] at e1
      simp only [bnd] at e2
      have hy3 : (if x = -3 then (if he e = 0 then (0 : Int32) else 1) else 0) = 0 := if_neg hx3
      rw [hy3, if_neg hx3] at e2
      by_cases hy : y = 0
      · rw [if_pos hy, if_neg hx4, if_neg hx5, if_pos hx6] at e1
        rw [if_pos hy, if_neg hx4] at e2
        simp only [s_End_arrivePacketCharacter, s_Inlet_receive, bnd, bnd2] at e1
        by_cases s5 : s = 5
        · subst s5
          have hw := hr rfl rfl
          have h55 : (upd (upd (upd g 3 0) 4 0) 7 0) 5 = 5 := A.1
          have hs5 : st e = 5 := p1.trans A.1
          have hx7 : x ≤ 259 := by rw [hx2]; exact nI_le (b := 259) (by omega) (by decide)
          rw [if_pos h55] at e1
          rw [if_pos hs5, if_neg (show ¬ (1 : Int32) = 0 by decide)] at e2
          unfold s_Model_arrival_123 at e2
          rw [if_neg hx4, if_neg hx5, if_pos hx7] at e2
          simp only [bnd, s_Model_add] at e2
          have L2' := L2 (Or.inl (by omega))
          have hal : s_Row_append 25 Li x = Li ++ [x] := by unfold s_Row_append; rw [if_pos (by omega)]
          rw [hal] at e1
          obtain ⟨rfl, rfl⟩ := Prod.mk.injEq .. ▸ e1
          simp only [Prod.mk.injEq] at e2
          obtain ⟨rfl, rfl, rfl, rfl, rfl, rfl, rfl, rfl, rfl, rfl, rfl⟩ := e2
          have e9 : ow e - 1 = g 9 - 1 := by rw [p6]
          have eL : Ls (2 * e + 1) ++ [x] = Li ++ [x] := by rw [p16]
          have p18 := p17 A.1
          exact ⟨⟨⟨⟨p1, p2, p3, p4⟩, ⟨p5, pk_us.trans e9, p7, p8, p9, p10⟩, ⟨p11, p12, p13, p14, (va_up_ne _ _ (ne2 e)).trans p15, (va_up_self _ _ _).trans eL⟩, fun _ => ⟨(pk_un (ne2 e)).trans p18.1, pk_us⟩⟩, ⟨fun _ => ⟨rfl, pk_us, fun _ => hck, fun h9 => absurd rfl h9⟩, fun h9 => absurd rfl h9⟩⟩, rfl, rfl, rfl, pk_un heo, rfl, pk_un heo, rfl, rfl, pk_un ne4, pk_un k6, va_up_ne _ _ ne4, va_up_ne _ _ k6⟩
        · have h55 : ¬ (upd (upd (upd g 3 0) 4 0) 7 0) 5 = 5 := st_ne A.1 A.2 5 (by omega) s5
          have hs5 : ¬ st e = 5 := by rw [p1]; exact h55
          rw [if_neg h55] at e1
          rw [if_neg hs5, if_pos (show (0 : Int32) = 0 from rfl), if_neg hx5] at e2
          refine FAULT (g1 := g) (e1.trans ?_) e2
          congr 1
          funext k
          simp only [upd]
          by_cases k3' : k = 3
          · subst k3'; rfl
          · simp [k3']
      · rw [if_neg hy] at e1 e2
        exact FAULT (g1 := g) e1 e2

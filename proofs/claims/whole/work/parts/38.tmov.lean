theorem fall_tie {st : Nat → Int32} {ck : Nat → Int32} {en : Nat → Int32} {au : Nat → Int32} {he : Nat → Int32} {qu : Nat → Int32} {lo : Nat → Int32} {ow : Nat → Int32} {fl : Nat → Int32} {ti : Nat → Int32} {gd : Nat → Int32} {ak : Nat → Int32} {sp : Nat → Int32} {se : Nat → Int32} {sd : Nat → Int32} {op : Nat → Int32} {th : Nat → Int32} {Ls : Nat → List Int32} {st' : Nat → Int32} {ck' : Nat → Int32} {he' : Nat → Int32} {qu' : Nat → Int32} {lo' : Nat → Int32} {ow' : Nat → Int32} {fl' : Nat → Int32} {th' : Nat → Int32} {Ls' : Nat → List Int32} {g g' : Nat → Int32} {Li Li' Lo Lo' : List Int32} {e o : Nat} (heo : o ≠ e) (hLi : g 17 ≠ 0 → Li.length ≤ 24) (hLo : Lo.length ≤ 64)
    (hR : RE g Li Lo st en au he lo ow fl ti gd ak sp se sd op th Ls e)
    (e1 : (g', Li', Lo') = s_End_fall g Li Lo) (e2 : (st', ck', he', qu', lo', ow', fl', th', Ls') = s_Model_fall st ck he qu lo ow fl op th Ls e) :
    (RE g' Li' Lo' st' en au he' lo' ow' fl' ti gd ak sp se sd op th' Ls' e ∧ ck' e = g' 6 ∧ qu' e = g' 7) ∧ st' o = st o ∧ ck' o = ck o ∧ he' o = he o ∧ qu' o = qu o ∧ lo' o = lo o ∧ ow' o = ow o ∧ fl' o = fl o ∧ th' o = th o ∧ Ls' (2 * o) = Ls (2 * o) ∧ Ls' (2 * o + 1) = Ls (2 * o + 1) := by
  obtain ⟨⟨p1, p2, p3, p4⟩, ⟨p5, p6, p7, p8, p9, p10⟩, ⟨p11, p12, p13, p14, p15, p16⟩, p17⟩ := hR
  have k3 := ne3 heo
  have k6 := ne6 heo
  simp only [s_End_fall, s_End_begin, bnd, bnd2, bnd3] at e1
  simp only [s_Model_fall, bnd] at e2
  by_cases h5 : g 5 = 5
  · have hs5 : st e = 5 := p1.trans h5
    obtain ⟨p18, p19⟩ := p17 h5
    rw [if_pos h5] at e1
    rw [if_pos hs5, if_neg (show ¬ (1 : Int32) = 0 by decide)] at e2
    -- the inlet
    have hin : ∃ Ls1, (st', ck', he', qu', lo', ow', fl', th', Ls') = s_Model_fall_55 st ck he qu lo ow fl op th e 1 Ls1 ∧ Ls1 (2 * e + 1) = (s_Inlet_breakOff Li (g 17)).1 ∧ (∀ j, j ≠ 2 * e + 1 → Ls1 j = Ls j) := by
      by_cases h17 : g 17 = 0
      · rw [if_pos (p19.trans h17)] at e2
        refine ⟨Ls, e2, ?_, fun _ _ => rfl⟩
        unfold s_Inlet_breakOff; rw [if_pos h17]; exact p16
      · rw [if_neg (by rw [p19]; exact h17)] at e2
        refine ⟨_, e2, ?_, fun j hj => va_up_ne _ _ hj⟩
        unfold s_Inlet_breakOff s_Row_append; rw [if_neg h17, if_pos (by have := hLi h17; omega)]
        exact (va_up_self _ _ _).trans (by rw [p16]; rfl)
    obtain ⟨Ls1, e3, i1, i2⟩ := hin
    clear e2
    have hout : ∃ th2 Ls2, (st', ck', he', qu', lo', ow', fl', th', Ls') = s_Model_fall_124 st ck he qu lo ow fl e th2 Ls2 ∧ th2 e = (s_Outlet_breakOff (g 18) (g 19) Lo).2.1 ∧ Ls2 (2 * e) = (s_Outlet_breakOff (g 18) (g 19) Lo).2.2 ∧ (∀ j, j ≠ e → th2 j = th j) ∧ (∀ j, j ≠ 2 * e → Ls2 j = Ls1 j) := by
      unfold s_Model_fall_55 at e3
      rw [if_neg (show ¬ (1 : Int32) = 0 by decide)] at e3
      have hLs1 : Ls1 (2 * e) = Lo := (i2 _ (ne2 e)).trans p15
      by_cases h18 : g 18 = 0
      · rw [if_pos (p18.trans h18)] at e3
        refine ⟨th, Ls1, e3, ?_, ?_, fun _ _ => rfl, fun _ _ => rfl⟩
        · unfold s_Outlet_breakOff; rw [if_pos h18]; exact p14
        · unfold s_Outlet_breakOff; rw [if_pos h18]; exact hLs1
      · rw [if_neg (by rw [p18]; exact h18), hLs1] at e3
        obtain ⟨th1, Ls2, k1, k2, k4, k5, k7⟩ := brk_tie (st := st) (ck := ck) (he := he) (qu := qu) (lo := lo) (ow := ow) (fl := fl) (e := e) Lo.length Lo (upd th e 1) Ls1 hLo rfl hLs1
        rw [k1] at e3
        rw [pk_us] at k2 k4
        refine ⟨th1, Ls2, e3, ?_, ?_, fun j hj => (k5 j hj).trans (pk_un hj), k7⟩
        · unfold s_Outlet_breakOff; rw [if_neg h18]; exact k2
        · unfold s_Outlet_breakOff; rw [if_neg h18]; exact k4
    obtain ⟨th2, Ls2, e4, j1, j2, j3, j4⟩ := hout
    clear e3
    unfold s_Model_fall_124 at e4
    simp only [Prod.mk.injEq] at e4
    obtain ⟨rfl, rfl, rfl, rfl, rfl, rfl, rfl, rfl, rfl⟩ := e4
    simp only [Prod.mk.injEq] at e1
    obtain ⟨rfl, rfl, rfl⟩ := e1
    have e10 : fl e + 1 = g 10 + 1 := by rw [p7]
    exact ⟨⟨⟨⟨pk_us, p2, p3, pk_us⟩, ⟨pk_us, pk_us, pk_us.trans e10, p8, p9, p10⟩, ⟨p11, p12, p13, j1, j2, (j4 _ (ne1 e)).trans i1⟩, fun h9 => absurd h9 (by show ¬ (0 : Int32) = 5; decide)⟩, pk_us, pk_us⟩, pk_un heo, pk_un heo, pk_un heo, pk_un heo, pk_un heo, pk_un heo, pk_un heo, j3 _ heo, (j4 _ k3).trans (i2 _ ne4), (j4 _ ne5).trans (i2 _ k6)⟩
  · have hs5 : ¬ st e = 5 := by rw [p1]; exact h5
    rw [if_neg h5] at e1
    rw [if_neg hs5, if_pos (show (0 : Int32) = 0 from rfl)] at e2
    unfold s_Model_fall_55 s_Model_fall_124 at e2
    rw [if_pos (show (0 : Int32) = 0 from rfl)] at e2
    simp only [Prod.mk.injEq] at e2
    obtain ⟨rfl, rfl, rfl, rfl, rfl, rfl, rfl, rfl, rfl⟩ := e2
    simp only [Prod.mk.injEq] at e1
    obtain ⟨rfl, rfl, rfl⟩ := e1
    have e10 : fl e + 1 = g 10 + 1 := by rw [p7]
    exact ⟨⟨⟨⟨pk_us, p2, p3, pk_us⟩, ⟨pk_us, pk_us, pk_us.trans e10, p8, p9, p10⟩, ⟨p11, p12, p13, p14, p15, p16⟩, fun h9 => absurd h9 (by show ¬ (0 : Int32) = 5; decide)⟩, pk_us, pk_us⟩, pk_un heo, pk_un heo, pk_un heo, pk_un heo, pk_un heo, pk_un heo, pk_un heo, rfl, rfl, rfl⟩
/-- the reference's moving on of one end: late or fall -/
def mvM (st ck en au he qu lo ow fl op th : Nat → Int32) (Ls : Nat → List Int32) (e : Nat) (r : Int32) : (Nat → Int32) × (Nat → Int32) × (Nat → Int32) × (Nat → Int32) × (Nat → Int32) × (Nat → Int32) × (Nat → Int32) × (Nat → Int32) × (Nat → List Int32) :=
  if r = 0 then bnd3 (s_Model_late st ck en au he e) (fun r9 st9 ck9 => bnd (α := Int32) (if r9 = 0 then (0) else (1)) (fun y11 => if y11 = 0 then (st9, ck9, he, qu, lo, ow, fl, th, Ls) else s_Model_fall st9 ck9 he qu lo ow fl op th Ls e)) else s_Model_fall st ck he qu lo ow fl op th Ls e
theorem mov_tie0 {st : Nat → Int32} {ck : Nat → Int32} {en : Nat → Int32} {au : Nat → Int32} {he : Nat → Int32} {qu : Nat → Int32} {lo : Nat → Int32} {ow : Nat → Int32} {fl : Nat → Int32} {ti : Nat → Int32} {gd : Nat → Int32} {ak : Nat → Int32} {sp : Nat → Int32} {se : Nat → Int32} {sd : Nat → Int32} {op : Nat → Int32} {th : Nat → Int32} {Ls : Nat → List Int32} {st' : Nat → Int32} {ck' : Nat → Int32} {he' : Nat → Int32} {qu' : Nat → Int32} {lo' : Nat → Int32} {ow' : Nat → Int32} {fl' : Nat → Int32} {th' : Nat → Int32} {Ls' : Nat → List Int32} {g g' : Nat → Int32} {Li Li' Lo Lo' : List Int32} {s c h l q w e o : Nat} (heo : o ≠ e)
    (A : g 5 = nI s ∧ s ≤ 5) (B : (s = 0 ∨ s = 1 ∨ s = 3 ∨ s = 4) → g 6 = nI c) (C : (s = 0 → c ≤ 6) ∧ ((s = 1 ∨ s = 3 ∨ s = 4) → c ≤ 12)) (D : g 2 = nI h ∧ h ≤ 1)
    (hL : CoreL g Li Lo w) (hR : RE g Li Lo st en au he lo ow fl ti gd ak sp se sd op th Ls e) (hck : ck e + 1 = g 6) (hqu : qu e = g 7)
    (e1 : (g', Li', Lo') = if (g 5) = 0 then (bnd (s_End_beginAfter g 6 1) (fun g4 => (g4, Li, Lo))) else (if (g 5) = 1 then (bnd (s_End_beginAfter g 12 2) (fun g6 => (g6, Li, Lo))) else (if (g 5) = 2 then (if (g 0) = 0 then (if (g 1) = 0 then (g, Li, Lo) else (if (g 2) = 0 then (g, Li, Lo) else (bnd (s_End_begin g 3) (fun g12 => (g12, Li, Lo))))) else (bnd (s_End_begin g 3) (fun g9 => (g9, Li, Lo)))) else (if (g 5) = 3 then (if (g 2) = 0 then (bnd3 (s_End_fallAfterPatience g Li Lo) (fun g15 Li15 Lo15 => (g15, Li15, Lo15))) else (bnd (s_End_begin g 4) (fun g16 => (g16, Li, Lo)))) else (if (g 5) = 4 then (bnd3 (s_End_fallAfterPatience g Li Lo) (fun g18 Li18 Lo18 => (g18, Li18, Lo18))) else (if (g 0) = 0 then (if (g 1) = 0 then (bnd3 (s_End_fall g Li Lo) (fun g21 Li21 Lo21 => (g21, Li21, Lo21))) else (g, Li, Lo)) else (g, Li, Lo)))))))
    (e2 : (st', ck', he', qu', lo', ow', fl', th', Ls') = mvM st ck en au he qu lo ow fl op th Ls e 0) :
    (RE g' Li' Lo' st' en au he' lo' ow' fl' ti gd ak sp se sd op th' Ls' e ∧ ck' e = g' 6 ∧ qu' e = g' 7) ∧ st' o = st o ∧ ck' o = ck o ∧ he' o = he o ∧ qu' o = qu o ∧ lo' o = lo o ∧ ow' o = ow o ∧ fl' o = fl o ∧ th' o = th o ∧ Ls' (2 * o) = Ls (2 * o) ∧ Ls' (2 * o + 1) = Ls (2 * o + 1) := by
  obtain ⟨L1, L2, L3, L4, L5, L6, L7⟩ := hL
  have hLi : g 17 ≠ 0 → Li.length ≤ 24 := fun h9 => by have := L2 (Or.inr h9); omega
  have hR0 := hR
  obtain ⟨⟨p1, p2, p3, p4⟩, ⟨p5, p6, p7, p8, p9, p10⟩, ⟨p11, p12, p13, p14, p15, p16⟩, p17⟩ := hR
  simp only [s_End_beginAfter, s_End_fallAfterPatience, bnd] at e1
  unfold mvM at e2
  rw [if_pos (show (0 : Int32) = 0 from rfl)] at e2
  have hs : s = 0 ∨ s = 1 ∨ s = 2 ∨ s = 3 ∨ s = 4 ∨ s = 5 := by have := A.2; omega
  rcases hs with rfl | rfl | rfl | rfl | rfl | rfl

  · have h5 : g 5 = 0 := A.1
    rw [late0 (p1.trans h5)] at e2
    rw [if_pos h5] at e1
    have h6 := B (by omega)
    rw [hck, h6] at e2
    by_cases hc : c = 6
    · subst hc
      rw [if_neg (by rw [h6]; decide)] at e1
      rw [if_pos (show nI 6 = 6 from rfl)] at e2
      simp only [bnd, bnd3, if_pos] at e2
      simp only [Prod.mk.injEq] at e1 e2
      obtain ⟨rfl, rfl, rfl⟩ := e1
      obtain ⟨rfl, rfl, rfl, rfl, rfl, rfl, rfl, rfl, rfl⟩ := e2
      exact ⟨⟨⟨⟨pk_us, p2, p3, p4⟩, ⟨p5, p6, p7, p8, p9, p10⟩, ⟨p11, p12, p13, p14, p15, p16⟩, fun h9 => absurd h9 (by show ¬ (1 : Int32) = 5; decide)⟩, pk_us, hqu⟩, pk_un heo, (pk_un heo).trans (pk_un heo), rfl, rfl, rfl, rfl, rfl, rfl, rfl, rfl⟩
    · have hc2 : c < 6 := by have := C; omega
      rw [if_pos (by rw [h6]; exact nI_lt (b := 6) hc2 (by decide))] at e1
      have hne : ¬ nI c = 6 := fun h9 => hc ((nI_eq (a := c) (b := 6) (by omega) (by decide)).mp h9)
      rw [if_neg hne] at e2
      simp only [bnd, bnd3, if_pos] at e2
      rw [← h6, ← hck] at e2
      simp only [Prod.mk.injEq] at e1 e2
      obtain ⟨rfl, rfl, rfl⟩ := e1
      obtain ⟨rfl, rfl, rfl, rfl, rfl, rfl, rfl, rfl, rfl⟩ := e2
      exact ⟨⟨⟨⟨p1, p2, p3, p4⟩, ⟨p5, p6, p7, p8, p9, p10⟩, ⟨p11, p12, p13, p14, p15, p16⟩, p17⟩, pk_us.trans hck, hqu⟩, rfl, pk_un heo, rfl, rfl, rfl, rfl, rfl, rfl, rfl, rfl⟩
  · have h50 : ¬ g 5 = 0 := st_ne A.1 A.2 0 (by omega) (by omega)
    have h5 : g 5 = 1 := A.1
    rw [late1 (p1.trans h5)] at e2
    rw [if_neg h50, if_pos h5] at e1
    have h6 := B (by omega)
    rw [hck, h6] at e2
    by_cases hc : c = 12
    · subst hc
      rw [if_neg (by rw [h6]; decide)] at e1
      rw [if_pos (show nI 12 = 12 from rfl)] at e2
      simp only [bnd, bnd3, if_pos] at e2
      simp only [Prod.mk.injEq] at e1 e2
      obtain ⟨rfl, rfl, rfl⟩ := e1
      obtain ⟨rfl, rfl, rfl, rfl, rfl, rfl, rfl, rfl, rfl⟩ := e2
      exact ⟨⟨⟨⟨pk_us, p2, p3, p4⟩, ⟨p5, p6, p7, p8, p9, p10⟩, ⟨p11, p12, p13, p14, p15, p16⟩, fun h9 => absurd h9 (by show ¬ (2 : Int32) = 5; decide)⟩, pk_us, hqu⟩, pk_un heo, (pk_un heo).trans (pk_un heo), rfl, rfl, rfl, rfl, rfl, rfl, rfl, rfl⟩
    · have hc2 : c < 12 := by have := C; omega
      rw [if_pos (by rw [h6]; exact nI_lt (b := 12) hc2 (by decide))] at e1
      have hne : ¬ nI c = 12 := fun h9 => hc ((nI_eq (a := c) (b := 12) (by omega) (by decide)).mp h9)
      rw [if_neg hne] at e2
      simp only [bnd, bnd3, if_pos] at e2
      rw [← h6, ← hck] at e2
      simp only [Prod.mk.injEq] at e1 e2
      obtain ⟨rfl, rfl, rfl⟩ := e1
      obtain ⟨rfl, rfl, rfl, rfl, rfl, rfl, rfl, rfl, rfl⟩ := e2
      exact ⟨⟨⟨⟨p1, p2, p3, p4⟩, ⟨p5, p6, p7, p8, p9, p10⟩, ⟨p11, p12, p13, p14, p15, p16⟩, p17⟩, pk_us.trans hck, hqu⟩, rfl, pk_un heo, rfl, rfl, rfl, rfl, rfl, rfl, rfl, rfl⟩
  · have h50 : ¬ g 5 = 0 := st_ne A.1 A.2 0 (by omega) (by omega)
    have h51 : ¬ g 5 = 1 := st_ne A.1 A.2 1 (by omega) (by omega)
    have h5 : g 5 = 2 := A.1
    rw [late2 (p1.trans h5), p2, p3, p4] at e2
    rw [if_neg h50, if_neg h51, if_pos h5] at e1
    by_cases g0 : g 0 = 0
    · rw [if_pos g0] at e1 e2
      by_cases g1 : g 1 = 0
      · rw [if_pos g1] at e1 e2
        simp only [bnd, bnd3, if_pos] at e2
        simp only [Prod.mk.injEq] at e1 e2
        obtain ⟨rfl, rfl, rfl⟩ := e1
        obtain ⟨rfl, rfl, rfl, rfl, rfl, rfl, rfl, rfl, rfl⟩ := e2
        exact ⟨⟨⟨⟨p1, p2, p3, p4⟩, ⟨p5, p6, p7, p8, p9, p10⟩, ⟨p11, p12, p13, p14, p15, p16⟩, p17⟩, pk_us.trans hck, hqu⟩, rfl, pk_un heo, rfl, rfl, rfl, rfl, rfl, rfl, rfl, rfl⟩
      · rw [if_neg g1] at e1 e2
        by_cases g2 : g 2 = 0
        · rw [if_pos g2] at e1 e2
          simp only [bnd, bnd3, if_pos] at e2
          simp only [Prod.mk.injEq] at e1 e2
          obtain ⟨rfl, rfl, rfl⟩ := e1
          obtain ⟨rfl, rfl, rfl, rfl, rfl, rfl, rfl, rfl, rfl⟩ := e2
          exact ⟨⟨⟨⟨p1, p2, p3, p4⟩, ⟨p5, p6, p7, p8, p9, p10⟩, ⟨p11, p12, p13, p14, p15, p16⟩, p17⟩, pk_us.trans hck, hqu⟩, rfl, pk_un heo, rfl, rfl, rfl, rfl, rfl, rfl, rfl, rfl⟩
        · rw [if_neg g2] at e1 e2
          simp only [bnd, bnd3, if_pos] at e2
          simp only [Prod.mk.injEq] at e1 e2
          obtain ⟨rfl, rfl, rfl⟩ := e1
          obtain ⟨rfl, rfl, rfl, rfl, rfl, rfl, rfl, rfl, rfl⟩ := e2
          exact ⟨⟨⟨⟨pk_us, p2, p3, p4⟩, ⟨p5, p6, p7, p8, p9, p10⟩, ⟨p11, p12, p13, p14, p15, p16⟩, fun h9 => absurd h9 (by show ¬ (3 : Int32) = 5; decide)⟩, pk_us, hqu⟩, pk_un heo, (pk_un heo).trans (pk_un heo), rfl, rfl, rfl, rfl, rfl, rfl, rfl, rfl⟩
    · rw [if_neg g0] at e1 e2
      simp only [bnd, bnd3, if_pos] at e2
      simp only [Prod.mk.injEq] at e1 e2
      obtain ⟨rfl, rfl, rfl⟩ := e1
      obtain ⟨rfl, rfl, rfl, rfl, rfl, rfl, rfl, rfl, rfl⟩ := e2
      exact ⟨⟨⟨⟨pk_us, p2, p3, p4⟩, ⟨p5, p6, p7, p8, p9, p10⟩, ⟨p11, p12, p13, p14, p15, p16⟩, fun h9 => absurd h9 (by show ¬ (3 : Int32) = 5; decide)⟩, pk_us, hqu⟩, pk_un heo, (pk_un heo).trans (pk_un heo), rfl, rfl, rfl, rfl, rfl, rfl, rfl, rfl⟩
  · have h50 : ¬ g 5 = 0 := st_ne A.1 A.2 0 (by omega) (by omega)
    have h51 : ¬ g 5 = 1 := st_ne A.1 A.2 1 (by omega) (by omega)
    have h52 : ¬ g 5 = 2 := st_ne A.1 A.2 2 (by omega) (by omega)
    have h5 : g 5 = 3 := A.1
    rw [late3 (p1.trans h5), p4] at e2
    rw [if_neg h50, if_neg h51, if_neg h52, if_pos h5] at e1
    by_cases g2 : g 2 = 0
    · rw [if_pos g2] at e1 e2
      have h6 := B (by omega)
      rw [hck, h6] at e2
      by_cases hc : c = 12
      · subst hc
        rw [if_neg (by rw [h6]; decide)] at e1
        rw [if_pos (show nI 12 = 12 from rfl)] at e2
        simp only [bnd, bnd3] at e2
        rw [if_neg (show ¬ (1 : Int32) = 0 by decide), if_neg (show ¬ (1 : Int32) = 0 by decide)] at e2
        have hf := fall_tie (ck := upd ck e (nI 12)) (qu := qu) heo hLi L5 hR0 e1 e2
        exact ⟨hf.1, hf.2.1, hf.2.2.1.trans (pk_un heo), hf.2.2.2⟩
      · have hc2 : c < 12 := by have := C; omega
        rw [if_pos (by rw [h6]; exact nI_lt (b := 12) hc2 (by decide))] at e1
        have hne : ¬ nI c = 12 := fun h9 => hc ((nI_eq (a := c) (b := 12) (by omega) (by decide)).mp h9)
        rw [if_neg hne] at e2
        simp only [bnd, bnd3, if_pos] at e2
        rw [← h6, ← hck] at e2
        simp only [Prod.mk.injEq] at e1 e2
        obtain ⟨rfl, rfl, rfl⟩ := e1
        obtain ⟨rfl, rfl, rfl, rfl, rfl, rfl, rfl, rfl, rfl⟩ := e2
        exact ⟨⟨⟨⟨p1, p2, p3, p4⟩, ⟨p5, p6, p7, p8, p9, p10⟩, ⟨p11, p12, p13, p14, p15, p16⟩, p17⟩, pk_us.trans hck, hqu⟩, rfl, pk_un heo, rfl, rfl, rfl, rfl, rfl, rfl, rfl, rfl⟩
    · rw [if_neg g2] at e1 e2
      simp only [bnd, bnd3, if_pos] at e2
      simp only [Prod.mk.injEq] at e1 e2
      obtain ⟨rfl, rfl, rfl⟩ := e1
      obtain ⟨rfl, rfl, rfl, rfl, rfl, rfl, rfl, rfl, rfl⟩ := e2
      exact ⟨⟨⟨⟨pk_us, p2, p3, p4⟩, ⟨p5, p6, p7, p8, p9, p10⟩, ⟨p11, p12, p13, p14, p15, p16⟩, fun h9 => absurd h9 (by show ¬ (4 : Int32) = 5; decide)⟩, pk_us, hqu⟩, pk_un heo, (pk_un heo).trans (pk_un heo), rfl, rfl, rfl, rfl, rfl, rfl, rfl, rfl⟩
  · have h50 : ¬ g 5 = 0 := st_ne A.1 A.2 0 (by omega) (by omega)
    have h51 : ¬ g 5 = 1 := st_ne A.1 A.2 1 (by omega) (by omega)
    have h52 : ¬ g 5 = 2 := st_ne A.1 A.2 2 (by omega) (by omega)
    have h53 : ¬ g 5 = 3 := st_ne A.1 A.2 3 (by omega) (by omega)
    have h5 : g 5 = 4 := A.1
    rw [late4 (p1.trans h5)] at e2
    rw [if_neg h50, if_neg h51, if_neg h52, if_neg h53, if_pos h5] at e1
    have h6 := B (by omega)
    rw [hck, h6] at e2
    by_cases hc : c = 12
    · subst hc
      rw [if_neg (by rw [h6]; decide)] at e1
      rw [if_pos (show nI 12 = 12 from rfl)] at e2
      simp only [bnd, bnd3] at e2
      rw [if_neg (show ¬ (1 : Int32) = 0 by decide), if_neg (show ¬ (1 : Int32) = 0 by decide)] at e2
      have hf := fall_tie (ck := upd ck e (nI 12)) (qu := qu) heo hLi L5 hR0 e1 e2
      exact ⟨hf.1, hf.2.1, hf.2.2.1.trans (pk_un heo), hf.2.2.2⟩
    · have hc2 : c < 12 := by have := C; omega
      rw [if_pos (by rw [h6]; exact nI_lt (b := 12) hc2 (by decide))] at e1
      have hne : ¬ nI c = 12 := fun h9 => hc ((nI_eq (a := c) (b := 12) (by omega) (by decide)).mp h9)
      rw [if_neg hne] at e2
      simp only [bnd, bnd3, if_pos] at e2
      rw [← h6, ← hck] at e2
      simp only [Prod.mk.injEq] at e1 e2
      obtain ⟨rfl, rfl, rfl⟩ := e1
      obtain ⟨rfl, rfl, rfl, rfl, rfl, rfl, rfl, rfl, rfl⟩ := e2
      exact ⟨⟨⟨⟨p1, p2, p3, p4⟩, ⟨p5, p6, p7, p8, p9, p10⟩, ⟨p11, p12, p13, p14, p15, p16⟩, p17⟩, pk_us.trans hck, hqu⟩, rfl, pk_un heo, rfl, rfl, rfl, rfl, rfl, rfl, rfl, rfl⟩
  · have h50 : ¬ g 5 = 0 := st_ne A.1 A.2 0 (by omega) (by omega)
    have h51 : ¬ g 5 = 1 := st_ne A.1 A.2 1 (by omega) (by omega)
    have h52 : ¬ g 5 = 2 := st_ne A.1 A.2 2 (by omega) (by omega)
    have h53 : ¬ g 5 = 3 := st_ne A.1 A.2 3 (by omega) (by omega)
    have h54 : ¬ g 5 = 4 := st_ne A.1 A.2 4 (by omega) (by omega)
    have h5 : g 5 = 5 := A.1
    rw [late5 (p1.trans h5), p2, p3] at e2
    rw [if_neg h50, if_neg h51, if_neg h52, if_neg h53, if_neg h54] at e1
    by_cases g0 : g 0 = 0
    · rw [if_pos g0] at e1 e2
      by_cases g1 : g 1 = 0
      · rw [if_pos g1] at e1 e2
        simp only [bnd, bnd3] at e2
        rw [if_neg (show ¬ (1 : Int32) = 0 by decide), if_neg (show ¬ (1 : Int32) = 0 by decide)] at e2
        have hf := fall_tie (ck := upd ck e (ck e + 1)) (qu := qu) heo hLi L5 hR0 e1 e2
        exact ⟨hf.1, hf.2.1, hf.2.2.1.trans (pk_un heo), hf.2.2.2⟩
      · rw [if_neg g1] at e1 e2
        simp only [bnd, bnd3, if_pos] at e2
        simp only [Prod.mk.injEq] at e1 e2
        obtain ⟨rfl, rfl, rfl⟩ := e1
        obtain ⟨rfl, rfl, rfl, rfl, rfl, rfl, rfl, rfl, rfl⟩ := e2
        exact ⟨⟨⟨⟨p1, p2, p3, p4⟩, ⟨p5, p6, p7, p8, p9, p10⟩, ⟨p11, p12, p13, p14, p15, p16⟩, p17⟩, pk_us.trans hck, hqu⟩, rfl, pk_un heo, rfl, rfl, rfl, rfl, rfl, rfl, rfl, rfl⟩
    · rw [if_neg g0] at e1 e2
      simp only [bnd, bnd3, if_pos] at e2
      simp only [Prod.mk.injEq] at e1 e2
      obtain ⟨rfl, rfl, rfl⟩ := e1
      obtain ⟨rfl, rfl, rfl, rfl, rfl, rfl, rfl, rfl, rfl⟩ := e2
      exact ⟨⟨⟨⟨p1, p2, p3, p4⟩, ⟨p5, p6, p7, p8, p9, p10⟩, ⟨p11, p12, p13, p14, p15, p16⟩, p17⟩, pk_us.trans hck, hqu⟩, rfl, pk_un heo, rfl, rfl, rfl, rfl, rfl, rfl, rfl, rfl⟩

theorem mov_tie {st : Nat → Int32} {ck : Nat → Int32} {en : Nat → Int32} {au : Nat → Int32} {he : Nat → Int32} {qu : Nat → Int32} {lo : Nat → Int32} {ow : Nat → Int32} {fl : Nat → Int32} {ti : Nat → Int32} {gd : Nat → Int32} {ak : Nat → Int32} {sp : Nat → Int32} {se : Nat → Int32} {sd : Nat → Int32} {op : Nat → Int32} {th : Nat → Int32} {Ls : Nat → List Int32} {st' : Nat → Int32} {ck' : Nat → Int32} {he' : Nat → Int32} {qu' : Nat → Int32} {lo' : Nat → Int32} {ow' : Nat → Int32} {fl' : Nat → Int32} {th' : Nat → Int32} {Ls' : Nat → List Int32} {g g' : Nat → Int32} {Li Li' Lo Lo' : List Int32} {r : Int32} {s c h l q w f b e o : Nat} (heo : o ≠ e)
    (hS : CoreS g s c h l q w) (hL : CoreL g Li Lo w) (h3 : g 3 = nI f) (hf : f ≤ 1) (h4 : g 4 = nI b) (hb : b = 0 ∨ b = 1 ∧ s = 5) (hR : RE g Li Lo st en au he lo ow fl ti gd ak sp se sd op th Ls e) (hA : RA g ck qu e r)
    (e1 : (g', Li', Lo') = s_End_moveOn g Li Lo) (e2 : (st', ck', he', qu', lo', ow', fl', th', Ls') = mvM st ck en au he qu lo ow fl op th Ls e r) :
    (RE g' Li' Lo' st' en au he' lo' ow' fl' ti gd ak sp se sd op th' Ls' e ∧ ck' e = g' 6 ∧ qu' e = g' 7) ∧ st' o = st o ∧ ck' o = ck o ∧ he' o = he o ∧ qu' o = qu o ∧ lo' o = lo o ∧ ow' o = ow o ∧ fl' o = fl o ∧ th' o = th o ∧ Ls' (2 * o) = Ls (2 * o) ∧ Ls' (2 * o + 1) = Ls (2 * o + 1) := by
  unfold s_End_moveOn at e1
  have hff : f = 0 ∨ f = 1 := by omega
  rcases hff with rfl | rfl
  · have h30 : g 3 = 0 := h3
    obtain ⟨rfl, a1, a2, a3⟩ := hA.1 h30
    rw [if_pos h30] at e1
    obtain ⟨A, B, C, D, E, F, G, H, I⟩ := hS
    rcases hb with rfl | ⟨rfl, rfl⟩
    · have h40 : g 4 = 0 := h4
      rw [if_pos h40] at e1
      have a4 := a2 h40
      exact mov_tie0 (g := upd g 6 (g 6 + 1)) (s := s) (c := c + 1) (h := h) (l := l) (q := q) (w := w) (ck := ck) (qu := qu) heo A (fun h9 => by show g 6 + 1 = _; rw [B h9, n1]) ⟨fun h9 => by have := C.1 h9; omega, fun h9 => by have := C.2 h9; omega⟩ D hL hR (by rw [a4]; rfl) a1 e1 e2
    · have h40 : ¬ g 4 = 0 := by rw [h4]; decide
      rw [if_neg h40] at e1
      have a4 := a3 h40
      exact mov_tie0 (g := g) (s := 5) (c := c) (h := h) (l := l) (q := q) (w := w) (ck := ck) (qu := qu) heo A B ⟨fun h9 => by omega, fun h9 => by omega⟩ D hL hR (by rw [a4.1, a4.2]; rfl) a1 e1 e2
  · have h30 : ¬ g 3 = 0 := by rw [h3]; decide
    have r0 := hA.2 h30
    rw [if_neg h30] at e1
    unfold mvM at e2
    rw [if_neg r0] at e2
    obtain ⟨L1, L2, L3, L4, L5, L6, L7⟩ := hL
    exact fall_tie heo (fun h9 => by have := L2 (Or.inr h9); omega) L5 hR e1 e2
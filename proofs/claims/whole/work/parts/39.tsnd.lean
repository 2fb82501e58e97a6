theorem canLend_m {ow : Nat → Int32} {Ls : Nat → List Int32} {Li : List Int32} {w e : Nat} (h9 : ow e = nI w) (h8 : Ls (2 * e + 1) = Li) (h : Li.length + w ≤ 25) : s_Model_canLend ow Ls e = if Li.length + w ≤ 16 then 1 else 0 := by
  simp only [s_Model_canLend, bnd]
  rw [h9, h8, nI_add]
  by_cases hc : Li.length + w ≤ 16
  · rw [if_pos hc, if_neg (fun h9 => by have := (nI_ltI (a := 16) (b := Li.length + w) (by decide) (by omega)).mp h9; omega)]
  · have hd : (16 : Int32) < nI (Li.length + w) := (nI_ltI (a := 16) (b := Li.length + w) (by decide) (by omega)).mpr (by omega)
    rw [if_neg hc, if_pos hd]
section
variable {st ak ow lo op : Nat → Int32} {Ls : Nat → List Int32} {e : Nat}
theorem cho3 (h : st e = 3) : s_Model_choose st ak ow lo op Ls e = (259, ak, ow, lo, op, Ls) := by
  have h1 : ¬ (3 : Int32) = 5 := by decide
  simp only [s_Model_choose, bnd, h, h1, if_true, if_false]
theorem cho4 (h : st e = 4) : s_Model_choose st ak ow lo op Ls e = if s_Model_canLend ow Ls e = 0 then (259, ak, ow, lo, op, Ls) else (258, ak, upd ow e (ow e + 8), lo, op, Ls) := by
  have h1 : ¬ (4 : Int32) = 5 := by decide
  have h2 : ¬ (4 : Int32) = 3 := by decide
  simp only [s_Model_choose, bnd, h, h1, h2, if_true, if_false]
theorem cho5 (h : st e = 5) : s_Model_choose st ak ow lo op Ls e = if ak e = -3 then (if s_Model_canLend ow Ls e = 0 then (if nI ((Ls (2 * e)).length) ≤ 0 then (259, ak, ow, lo, op, Ls) else (if lo e ≤ 0 then (259, ak, ow, lo, op, Ls) else ((Ls (2 * e)).headD 0, ak, ow, upd lo e (lo e - 1), upd op (2 * e) (if 256 ≤ (Ls (2 * e)).headD 0 then 0 else 1), va_up Ls (2 * e) (Ls (2 * e)).tail))) else (258, ak, upd ow e (ow e + 8), lo, op, Ls)) else (260 + ak e, upd ak e (-3), ow, lo, op, Ls) := by
  have h1 : ¬ (1 : Int32) = 0 := by decide
  have h2 : ¬ (5 : Int32) = 3 := by decide
  simp only [s_Model_choose, bnd, bnd2, s_Model_remove, h, h1, h2, if_true, if_false]
  rfl
end
theorem cho_tie {st : Nat → Int32} {en : Nat → Int32} {au : Nat → Int32} {he : Nat → Int32} {lo : Nat → Int32} {ow : Nat → Int32} {fl : Nat → Int32} {ti : Nat → Int32} {gd : Nat → Int32} {ak : Nat → Int32} {sp : Nat → Int32} {se : Nat → Int32} {sd : Nat → Int32} {op : Nat → Int32} {th : Nat → Int32} {Ls : Nat → List Int32} {ak' : Nat → Int32} {ow' : Nat → Int32} {lo' : Nat → Int32} {op' : Nat → Int32} {Ls' : Nat → List Int32} {g g' : Nat → Int32} {Li Lo Lo' : List Int32} {r r1 : Int32} {s c h l q w e o : Nat} (heo : o ≠ e) (hs3 : 3 ≤ s)
    (hS : CoreS g s c h l q w) (hL : CoreL g Li Lo w) (hR : RE g Li Lo st en au he lo ow fl ti gd ak sp se sd op th Ls e)
    (e1 : (r1, g', Lo') = s_End_nextCharacter g Li Lo) (e2 : (r, ak', ow', lo', op', Ls') = s_Model_choose st ak ow lo op Ls e) :
    (r1 = r ∧ RE g' Li Lo' st en au he lo' ow' fl ti gd ak' sp se sd op' th Ls' e ∧ g' 6 = g 6 ∧ g' 7 = g 7 ∧ g' 14 = g 14) ∧ ak' o = ak o ∧ ow' o = ow o ∧ lo' o = lo o ∧ op' (2 * o) = op (2 * o) ∧ op' (2 * o + 1) = op (2 * o + 1) ∧ Ls' (2 * o) = Ls (2 * o) ∧ Ls' (2 * o + 1) = Ls (2 * o + 1) := by
  obtain ⟨A, B, C, D, E, F, G, H, I⟩ := hS
  obtain ⟨L1, L2, L3, L4, L5, L6, L7⟩ := hL
  obtain ⟨⟨p1, p2, p3, p4⟩, ⟨p5, p6, p7, p8, p9, p10⟩, ⟨p11, p12, p13, p14, p15, p16⟩, p17⟩ := hR
  have k3 := ne3 heo
  have k6 := ne6 heo
  have hcl := canLend_w (g := g) H.1 L1
  have hcm := canLend_m (ow := ow) (Ls := Ls) (e := e) (p6.trans H.1) p16 L1
  simp only [s_End_nextCharacter, s_End_nextInRun, s_End_lend, bnd2, bnd3, hcl] at e1
  have hs : s = 3 ∨ s = 4 ∨ s = 5 := by have := A.2; omega
  have STAY : (r1, g', Lo') = ((259 : Int32), g, Lo) → (r, ak', ow', lo', op', Ls') = ((259 : Int32), ak, ow, lo, op, Ls) → (r1 = r ∧ RE g' Li Lo' st en au he lo' ow' fl ti gd ak' sp se sd op' th Ls' e ∧ g' 6 = g 6 ∧ g' 7 = g 7 ∧ g' 14 = g 14) ∧ ak' o = ak o ∧ ow' o = ow o ∧ lo' o = lo o ∧ op' (2 * o) = op (2 * o) ∧ op' (2 * o + 1) = op (2 * o + 1) ∧ Ls' (2 * o) = Ls (2 * o) ∧ Ls' (2 * o + 1) = Ls (2 * o + 1) := by
    intro e1 e2
    simp only [Prod.mk.injEq] at e1 e2
    obtain ⟨rfl, rfl, rfl⟩ := e1
    obtain ⟨rfl, rfl, rfl, rfl, rfl, rfl⟩ := e2
    exact ⟨⟨rfl, ⟨⟨p1, p2, p3, p4⟩, ⟨p5, p6, p7, p8, p9, p10⟩, ⟨p11, p12, p13, p14, p15, p16⟩, p17⟩, rfl, rfl, rfl⟩, rfl, rfl, rfl, rfl, rfl, rfl, rfl⟩
  have LEND : (r1, g', Lo') = ((258 : Int32), upd g 9 (g 9 + 8), Lo) → (r, ak', ow', lo', op', Ls') = ((258 : Int32), ak, upd ow e (ow e + 8), lo, op, Ls) → (r1 = r ∧ RE g' Li Lo' st en au he lo' ow' fl ti gd ak' sp se sd op' th Ls' e ∧ g' 6 = g 6 ∧ g' 7 = g 7 ∧ g' 14 = g 14) ∧ ak' o = ak o ∧ ow' o = ow o ∧ lo' o = lo o ∧ op' (2 * o) = op (2 * o) ∧ op' (2 * o + 1) = op (2 * o + 1) ∧ Ls' (2 * o) = Ls (2 * o) ∧ Ls' (2 * o + 1) = Ls (2 * o + 1) := by
    intro e1 e2
    simp only [Prod.mk.injEq] at e1 e2
    obtain ⟨rfl, rfl, rfl⟩ := e1
    obtain ⟨rfl, rfl, rfl, rfl, rfl, rfl⟩ := e2
    have e9 : ow e + 8 = g 9 + 8 := by rw [p6]
    exact ⟨⟨rfl, ⟨⟨p1, p2, p3, p4⟩, ⟨p5, pk_us.trans e9, p7, p8, p9, p10⟩, ⟨p11, p12, p13, p14, p15, p16⟩, p17⟩, rfl, rfl, rfl⟩, rfl, pk_un heo, rfl, rfl, rfl, rfl, rfl⟩
  rcases hs with rfl | rfl | rfl
  · have h53 : g 5 = 3 := A.1
    rw [cho3 (p1.trans h53)] at e2
    rw [if_pos h53] at e1
    exact STAY e1 e2
  · have h53 : ¬ g 5 = 3 := st_ne A.1 A.2 3 (by omega) (by omega)
    have h54 : g 5 = 4 := A.1
    rw [cho4 (p1.trans h54), hcm] at e2
    rw [if_neg h53, if_pos h54] at e1
    by_cases hc : Li.length + w ≤ 16
    · rw [if_pos hc, if_neg (show ¬ (1 : Int32) = 0 by decide)] at e1 e2
      exact LEND e1 e2
    · rw [if_neg hc, if_pos (show (0 : Int32) = 0 from rfl)] at e1 e2
      exact STAY e1 e2
  · have h53 : ¬ g 5 = 3 := st_ne A.1 A.2 3 (by omega) (by omega)
    have h54 : ¬ g 5 = 4 := st_ne A.1 A.2 4 (by omega) (by omega)
    have h55 : g 5 = 5 := A.1
    rw [cho5 (p1.trans h55), hcm, p10] at e2
    rw [if_neg h53, if_neg h54, if_pos h55] at e1
    obtain ⟨p18, p19⟩ := p17 h55
    by_cases h13 : g 13 = -3
    · rw [if_pos h13] at e1 e2
      by_cases hc : Li.length + w ≤ 16
      · rw [if_pos hc, if_neg (show ¬ (1 : Int32) = 0 by decide)] at e1 e2
        exact LEND e1 e2
      · rw [if_neg hc, if_pos (show (0 : Int32) = 0 from rfl)] at e1 e2
        rw [p15, p5] at e2
        by_cases h8 : g 8 ≤ 0
        · rw [if_pos h8] at e1 e2
          rw [ite_self] at e2
          exact STAY e1 e2
        · rw [if_neg h8] at e1 e2
          cases Lo with
          | nil =>
            rw [if_pos (show s_Outlet_size [] ≤ 0 by decide)] at e1
            rw [if_pos (show nI ([] : List Int32).length ≤ 0 by decide)] at e2
            exact STAY e1 e2
          | cons d Lo =>
            have hn : ¬ nI (d :: Lo).length ≤ 0 := nI_nle (by simp) (by omega)
            have hn2 : ¬ s_Outlet_size (d :: Lo) ≤ 0 := hn
            rw [if_neg hn2] at e1
            rw [if_neg hn] at e2
            simp only [s_Outlet_removeFirst, s_Row_removeFirst, bnd2, List.headD_cons, List.tail_cons] at e1 e2
            simp only [Prod.mk.injEq] at e1 e2
            obtain ⟨rfl, rfl, rfl⟩ := e1
            obtain ⟨rfl, rfl, rfl, rfl, rfl, rfl⟩ := e2
            have hop : (if 256 ≤ r then (0 : Int32) else 1) = s_MemoryLink_isData r := rfl
            exact ⟨⟨rfl, ⟨⟨p1, p2, p3, p4⟩, ⟨pk_us, p6, p7, p8, p9, p10⟩, ⟨p11, p12, p13, p14, va_up_self _ _ _, (va_up_ne _ _ (ne1 e)).trans p16⟩, fun _ => ⟨pk_us.trans hop, (pk_un (ne1 e)).trans p19⟩⟩, rfl, rfl, rfl⟩, rfl, rfl, pk_un heo, pk_un k3, pk_un ne5, va_up_ne _ _ k3, va_up_ne _ _ ne5⟩
    · rw [if_neg h13] at e1 e2
      simp only [Prod.mk.injEq] at e1 e2
      obtain ⟨rfl, rfl, rfl⟩ := e1
      obtain ⟨rfl, rfl, rfl, rfl, rfl, rfl⟩ := e2
      exact ⟨⟨rfl, ⟨⟨p1, p2, p3, p4⟩, ⟨p5, p6, p7, p8, p9, pk_us⟩, ⟨p11, p12, p13, p14, p15, p16⟩, p17⟩, rfl, rfl, rfl⟩, pk_un heo, rfl, rfl, rfl, rfl, rfl, rfl⟩
theorem snd_tie {st : Nat → Int32} {en : Nat → Int32} {au : Nat → Int32} {he : Nat → Int32} {lo : Nat → Int32} {ow : Nat → Int32} {fl : Nat → Int32} {ti : Nat → Int32} {gd : Nat → Int32} {ak : Nat → Int32} {sp : Nat → Int32} {se : Nat → Int32} {sd : Nat → Int32} {op : Nat → Int32} {th : Nat → Int32} {Ls : Nat → List Int32} {ak' : Nat → Int32} {ow' : Nat → Int32} {lo' : Nat → Int32} {op' : Nat → Int32} {Ls' : Nat → List Int32} {se' : Nat → Int32} {sd' : Nat → Int32} {sp' : Nat → Int32} {g g' : Nat → Int32} {Li Lo Lo' : List Int32} {s c h l q w e o : Nat} (heo : o ≠ e)
    (hS : CoreS g s c h l q w) (hL : CoreL g Li Lo w) (hR : RE g Li Lo st en au he lo ow fl ti gd ak sp se sd op th Ls e)
    (e1 : (g', Lo') = s_End_transmit g Li Lo) (e2 : (ak', ow', lo', op', Ls', se', sd', sp') = s_Model_send st ak ow lo op Ls se sd sp e) :
    (RE g' Li Lo' st en au he lo' ow' fl ti gd ak' sp' se' sd' op' th Ls' e ∧ g' 6 = g 6 ∧ g' 7 = g 7) ∧ ak' o = ak o ∧ ow' o = ow o ∧ lo' o = lo o ∧ op' (2 * o) = op (2 * o) ∧ op' (2 * o + 1) = op (2 * o + 1) ∧ Ls' (2 * o) = Ls (2 * o) ∧ Ls' (2 * o + 1) = Ls (2 * o + 1) ∧ se' o = se o ∧ sd' o = sd o ∧ sp' o = sp o := by
  have hR0 := hR
  obtain ⟨⟨p1, p2, p3, p4⟩, ⟨p5, p6, p7, p8, p9, p10⟩, ⟨p11, p12, p13, p14, p15, p16⟩, p17⟩ := hR
  have A := hS.1
  simp only [s_End_transmit, bnd3, bnd] at e1
  simp only [s_Model_send, bnd, bnd6] at e2
  by_cases hs : s < 3
  · have hlt : st e < 3 := by rw [p1, A.1]; exact nI_lt (b := 3) hs (by decide)
    have h53 : ¬ g 5 = 3 := st_ne A.1 A.2 3 (by omega) (by omega)
    have h54 : ¬ g 5 = 4 := st_ne A.1 A.2 4 (by omega) (by omega)
    have h55 : ¬ g 5 = 5 := st_ne A.1 A.2 5 (by omega) (by omega)
    have hn : s_End_nextCharacter g Li Lo = (-3, g, Lo) := by unfold s_End_nextCharacter; rw [if_neg h53, if_neg h54, if_neg h55]
    rw [hn] at e1
    simp only [if_pos] at e1
    rw [if_pos hlt, if_pos (show (0 : Int32) = 0 from rfl), if_pos (show (0 : Int32) = 0 from rfl), if_pos (show (0 : Int32) = 0 from rfl), p11] at e2
    simp only [Prod.mk.injEq] at e1 e2
    obtain ⟨rfl, rfl⟩ := e1
    obtain ⟨rfl, rfl, rfl, rfl, rfl, rfl, rfl, rfl⟩ := e2
    have h14 : (if g 14 = 0 then (0 : Int32) else 1) = g 14 := by
      rcases hL.2.2.2.2.2.2 with h9 | h9
      · rw [h9]; rfl
      · rw [h9]; rfl
    exact ⟨⟨⟨⟨p1, p2, p3, p4⟩, ⟨p5, p6, p7, p8, p9, p10⟩, ⟨pk_us.trans h14, pk_us, pk_us, p14, p15, p16⟩, p17⟩, rfl, rfl⟩, rfl, rfl, rfl, rfl, rfl, rfl, rfl, pk_un heo, pk_un heo, pk_un heo⟩
  · have hlt : ¬ st e < 3 := by rw [p1, A.1]; exact nI_nlt (b := 3) (by omega) (by have := A.2; omega)
    have hne : ¬ (s_End_nextCharacter g Li Lo).1 = -3 := by
      obtain ⟨q3, w3, k, _, _, n3, n4⟩ := next_core (r := (s_End_nextCharacter g Li Lo).1) (g1 := (s_End_nextCharacter g Li Lo).2.1) (Lo1 := (s_End_nextCharacter g Li Lo).2.2) hS hL rfl
      refine cls_ne3 n3 ?_
      have := A.2
      obtain ⟨n5, n6, n7, n8, _⟩ := n4
      omega
    rw [if_neg hlt, if_neg (show ¬ (1 : Int32) = 0 by decide), if_neg (show ¬ (1 : Int32) = 0 by decide), if_neg (show ¬ (1 : Int32) = 0 by decide), p11] at e2
    rw [if_neg hne] at e1
    have hT := cho_tie (e := e) (o := o) (r := (s_Model_choose st ak ow lo op Ls e).1) (ak' := (s_Model_choose st ak ow lo op Ls e).2.1) (ow' := (s_Model_choose st ak ow lo op Ls e).2.2.1) (lo' := (s_Model_choose st ak ow lo op Ls e).2.2.2.1) (op' := (s_Model_choose st ak ow lo op Ls e).2.2.2.2.1) (Ls' := (s_Model_choose st ak ow lo op Ls e).2.2.2.2.2) (r1 := (s_End_nextCharacter g Li Lo).1) (g' := (s_End_nextCharacter g Li Lo).2.1) (Lo' := (s_End_nextCharacter g Li Lo).2.2) heo (by omega) hS hL hR0 rfl rfl
    generalize s_Model_choose st ak ow lo op Ls e = M at e2 hT
    generalize s_End_nextCharacter g Li Lo = N at e1 hT
    obtain ⟨m1, m2, m3, m4, m5, m6⟩ := M
    obtain ⟨n1, n2, n3⟩ := N
    dsimp only at e1 e2 hT
    obtain ⟨⟨rfl, t2, t3, t4, t5⟩, f1, f2, f3, f4, f5, f6, f7⟩ := hT
    clear hR0 p1 p2 p3 p4 p5 p6 p7 p8 p9 p10 p17 p11 p12 p13 p14 p15 p16
    obtain ⟨⟨p1, p2, p3, p4⟩, ⟨p5, p6, p7, p8, p9, p10⟩, ⟨p11, p12, p13, p14, p15, p16⟩, p17⟩ := t2
    by_cases h14 : g 14 = 0
    · rw [if_pos (t5.trans h14)] at e1
      rw [if_pos h14] at e2
      rw [if_pos (show (0 : Int32) = 0 from rfl)] at e1
      rw [ite_self] at e2
      simp only [Prod.mk.injEq] at e1 e2
      obtain ⟨rfl, rfl⟩ := e1
      obtain ⟨rfl, rfl, rfl, rfl, rfl, rfl, rfl, rfl⟩ := e2
      exact ⟨⟨⟨⟨p1, p2, p3, p4⟩, ⟨p5, p6, p7, p8, p9, p10⟩, ⟨pk_us.trans (h14.symm.trans t5.symm), pk_us, pk_us, p14, p15, p16⟩, p17⟩, t3, t4⟩, f1, f2, f3, f4, f5, f6, f7, pk_un heo, pk_un heo, pk_un heo⟩
    · have h14b : ¬ n2 14 = 0 := by rw [t5]; exact h14
      rw [if_neg h14b] at e1
      rw [if_neg h14] at e2
      rw [if_neg (show ¬ (1 : Int32) = 0 by decide)] at e1
      rw [ite_self] at e2
      simp only [Prod.mk.injEq] at e1 e2
      obtain ⟨rfl, rfl⟩ := e1
      obtain ⟨rfl, rfl, rfl, rfl, rfl, rfl, rfl, rfl⟩ := e2
      exact ⟨⟨⟨⟨p1, p2, p3, p4⟩, ⟨p5, p6, p7, p8, p9, p10⟩, ⟨pk_us, pk_us, pk_us, p14, p15, p16⟩, p17⟩, t3, t4⟩, f1, f2, f3, f4, f5, f6, f7, pk_un heo, pk_un heo, pk_un heo⟩
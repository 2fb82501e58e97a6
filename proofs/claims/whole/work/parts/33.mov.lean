theorem brk_sub : ∀ (n w : Nat) (t : Int32) (L : List Int32), ChL L → ChL (lp_breakOff n w t L).2.2 ∧ (lp_breakOff n w t L).2.2.length ≤ L.length := by
  intro n
  induction n with
  | zero => intro w t L h; exact ⟨h, Nat.le_refl _⟩
  | succ n ih =>
    intro w t L h
    unfold lp_breakOff
    split
    · exact ⟨h, Nat.le_refl _⟩
    · split
      · exact ⟨h, Nat.le_refl _⟩
      · simp only [bnd2, s_Row_removeFirst]
        exact ⟨(ih _ _ _ (ch_tail h)).1, Nat.le_trans (ih _ _ _ (ch_tail h)).2 (by rw [List.length_tail]; omega)⟩
theorem brk0 : ∀ (n w : Nat) (t : Int32) (L : List Int32), (lp_breakOff n w t L).1 = 0 := by
  intro n
  induction n with
  | zero => intro w t L; rfl
  | succ n ih =>
    intro w t L
    unfold lp_breakOff
    split
    · rfl
    · split
      · rfl
      · simp only [bnd2, s_Row_removeFirst]
        exact ih _ _ _
theorem obrk {o t : Int32} {L : List Int32} (h : ChL L) : (s_Outlet_breakOff o t L).1 = 0 ∧ ChL (s_Outlet_breakOff o t L).2.2 ∧ (s_Outlet_breakOff o t L).2.2.length ≤ L.length := by
  unfold s_Outlet_breakOff
  split
  · rename_i h0; exact ⟨h0, h, Nat.le_refl _⟩
  · exact ⟨brk0 _ _ _ _, brk_sub _ _ _ _ h⟩
theorem ibrk {o : Int32} {L : List Int32} (h : ChL L) (h1 : L.length ≤ 25) (h2 : o ≠ 0 → L.length ≤ 24) : (s_Inlet_breakOff L o).2 = 0 ∧ ChL (s_Inlet_breakOff L o).1 ∧ (s_Inlet_breakOff L o).1.length ≤ 25 := by
  unfold s_Inlet_breakOff
  split
  · rename_i h0; exact ⟨h0, h, h1⟩
  · rename_i h0
    refine ⟨rfl, ch_app (b := 257) h (by omega) rfl, ?_⟩
    show (s_Row_append 25 L 257).length ≤ 25
    rw [app_len (by have := h2 h0; omega)]
    have := h2 h0; omega
theorem fall_core {g g' : Nat → Int32} {Li Li' Lo Lo' : List Int32} {s c h l q w : Nat} (hS : CoreS g s c h l q w) (hL : CoreL g Li Lo w) (e : (g', Li', Lo') = s_End_fall g Li Lo) : CoreS g' 0 0 0 0 0 0 ∧ CoreL g' Li' Lo' 0 := by
  obtain ⟨A, B, C, D, E, F, G, H, I⟩ := hS
  obtain ⟨L1, L2, L3, L4, L5, L6, L7⟩ := hL
  simp only [s_End_fall, bnd, bnd2, bnd3, s_End_begin] at e
  by_cases s5 : s = 5
  · have h5 : g 5 = 5 := by rw [A.1, s5]; rfl
    rw [if_pos h5] at e
    obtain ⟨rfl, e2⟩ := Prod.mk.injEq .. ▸ e
    obtain ⟨rfl, rfl⟩ := Prod.mk.injEq .. ▸ e2
    have i1 := ibrk (o := g 17) L3 (by omega) (fun h9 => by have := L2 (Or.inr h9); omega)
    have o1 := obrk (o := g 18) (t := g 19) L4
    exact ⟨⟨⟨rfl, by omega⟩, fun _ => rfl, ⟨fun _ => by omega, fun _ => by omega⟩, ⟨rfl, by omega⟩, rfl, ⟨fun _ => rfl, fun h9 => by omega⟩, ⟨rfl, fun _ => rfl, by omega⟩, ⟨rfl, fun _ => rfl⟩, fun _ => ⟨i1.1, o1.1⟩⟩,
      ⟨i1.2.2, fun h9 => by
        rcases h9 with h9 | h9
        · exact absurd rfl h9
        · exact absurd i1.1 h9, i1.2.1, o1.2.1, Nat.le_trans o1.2.2 L5, L6, L7⟩⟩
  · have h5 : ¬ g 5 = 5 := st_ne A.1 A.2 5 (by omega) s5
    rw [if_neg h5] at e
    obtain ⟨rfl, e2⟩ := Prod.mk.injEq .. ▸ e
    obtain ⟨rfl, rfl⟩ := Prod.mk.injEq .. ▸ e2
    exact ⟨⟨⟨rfl, by omega⟩, fun _ => rfl, ⟨fun _ => by omega, fun _ => by omega⟩, ⟨rfl, by omega⟩, rfl, ⟨fun _ => rfl, fun h9 => by omega⟩, ⟨rfl, fun _ => rfl, by omega⟩, ⟨rfl, fun _ => rfl⟩, fun _ => I s5⟩,
      ⟨by omega, fun h9 => by
        rcases h9 with h9 | h9
        · exact absurd rfl h9
        · exact absurd (I s5).1 h9, L3, L4, L5, L6, L7⟩⟩
/-- moving on without a fault, the clock already set: c is the clock's new number -/
theorem mov_core0 {g g' : Nat → Int32} {Li Li' Lo Lo' : List Int32} {s c h l q w : Nat}
    (A : g 5 = nI s ∧ s ≤ 5) (B : (s = 0 ∨ s = 1 ∨ s = 3 ∨ s = 4) → g 6 = nI c) (C : (s = 0 → c ≤ 6) ∧ ((s = 1 ∨ s = 3 ∨ s = 4) → c ≤ 12)) (D : g 2 = nI h ∧ h ≤ 1) (E : g 7 = nI l) (F : (s = 0 → h = 0) ∧ (4 ≤ s → h = 1)) (G : g 8 = nI q ∧ (s ≠ 5 → q = 0) ∧ q ≤ 33) (H : g 9 = nI w ∧ (s < 4 → w = 0)) (I : s ≠ 5 → g 17 = 0 ∧ g 18 = 0)
    (hL : CoreL g Li Lo w) (hl : l ≤ h)
    (e : (g', Li', Lo') = if (g 5) = 0 then (bnd (s_End_beginAfter g 6 1) (fun g4 => (g4, Li, Lo))) else (if (g 5) = 1 then (bnd (s_End_beginAfter g 12 2) (fun g6 => (g6, Li, Lo))) else (if (g 5) = 2 then (if (g 0) = 0 then (if (g 1) = 0 then (g, Li, Lo) else (if (g 2) = 0 then (g, Li, Lo) else (bnd (s_End_begin g 3) (fun g12 => (g12, Li, Lo))))) else (bnd (s_End_begin g 3) (fun g9 => (g9, Li, Lo)))) else (if (g 5) = 3 then (if (g 2) = 0 then (bnd3 (s_End_fallAfterPatience g Li Lo) (fun g15 Li15 Lo15 => (g15, Li15, Lo15))) else (bnd (s_End_begin g 4) (fun g16 => (g16, Li, Lo)))) else (if (g 5) = 4 then (bnd3 (s_End_fallAfterPatience g Li Lo) (fun g18 Li18 Lo18 => (g18, Li18, Lo18))) else (if (g 0) = 0 then (if (g 1) = 0 then (bnd3 (s_End_fall g Li Lo) (fun g21 Li21 Lo21 => (g21, Li21, Lo21))) else (g, Li, Lo)) else (g, Li, Lo))))))) :
    ∃ s2 c2 h2 l2 q2 w2 : Nat, CoreS g' s2 c2 h2 l2 q2 w2 ∧ CoreL g' Li' Lo' w2 ∧ l2 ≤ h2 ∧ ((s2 = 0 ∧ c2 = 0 ∧ h2 = 0 ∧ l2 = 0 ∧ q2 = 0 ∧ w2 = 0) ∨ (h2 = h ∧ l2 = l ∧ q2 = q ∧ w2 = w ∧ ((s2 = s ∧ c2 = c) ∨ (s = 0 ∧ c = 6 ∧ s2 = 1) ∨ (s = 1 ∧ s2 = 2) ∨ (s = 2 ∧ s2 = 3) ∨ (s = 3 ∧ h = 1 ∧ s2 = 4)))) := by
  obtain ⟨L1, L2, L3, L4, L5, L6, L7⟩ := hL
  simp only [s_End_beginAfter, s_End_fallAfterPatience, bnd] at e
  have hs : s = 0 ∨ s = 1 ∨ s = 2 ∨ s = 3 ∨ s = 4 ∨ s = 5 := by have := A.2; omega
  -- a fall
  have hfall : ∀ {ss cc : Nat}, CoreS g ss cc h l q w → (g', Li', Lo') = s_End_fall g Li Lo → ∃ s2 c2 h2 l2 q2 w2 : Nat, CoreS g' s2 c2 h2 l2 q2 w2 ∧ CoreL g' Li' Lo' w2 ∧ l2 ≤ h2 ∧ ((s2 = 0 ∧ c2 = 0 ∧ h2 = 0 ∧ l2 = 0 ∧ q2 = 0 ∧ w2 = 0) ∨ (h2 = h ∧ l2 = l ∧ q2 = q ∧ w2 = w ∧ ((s2 = s ∧ c2 = c) ∨ (s = 0 ∧ c = 6 ∧ s2 = 1) ∨ (s = 1 ∧ s2 = 2) ∨ (s = 2 ∧ s2 = 3) ∨ (s = 3 ∧ h = 1 ∧ s2 = 4)))) := fun hc e9 => by
    have h9 := fall_core hc ⟨L1, L2, L3, L4, L5, L6, L7⟩ e9
    exact ⟨0, 0, 0, 0, 0, 0, h9.1, h9.2, by omega, Or.inl (by omega)⟩
  rcases hs with rfl | rfl | rfl | rfl | rfl | rfl
  · have h5 : g 5 = 0 := A.1
    have h6 := B (by omega)
    rw [if_pos h5] at e
    by_cases hc : c < 6
    · rw [if_pos (by rw [h6]; exact nI_lt (b := 6) hc (by decide))] at e
      obtain ⟨rfl, e2⟩ := Prod.mk.injEq .. ▸ e
      obtain ⟨rfl, rfl⟩ := Prod.mk.injEq .. ▸ e2
      exact ⟨0, c, h, l, q, w, ⟨A, B, ⟨fun _ => hc, fun h9 => by omega⟩, D, E, F, G, H, I⟩, ⟨L1, L2, L3, L4, L5, L6, L7⟩, hl, by omega⟩
    · rw [if_neg (by rw [h6]; exact nI_nlt (b := 6) (by omega) (by have := C.1 rfl; omega))] at e
      obtain ⟨rfl, e2⟩ := Prod.mk.injEq .. ▸ e
      obtain ⟨rfl, rfl⟩ := Prod.mk.injEq .. ▸ e2
      exact ⟨1, 0, h, l, q, w, ⟨⟨rfl, by omega⟩, fun _ => rfl, ⟨fun h9 => by omega, fun h9 => by omega⟩, D, E, ⟨fun h9 => by omega, fun h9 => by omega⟩, ⟨G.1, fun _ => G.2.1 (by omega), G.2.2⟩, ⟨H.1, fun _ => H.2 (by omega)⟩, fun _ => I (by omega)⟩, ⟨L1, L2, L3, L4, L5, L6, L7⟩, hl, by have := C.1 rfl; omega⟩
  · have h50 : ¬ g 5 = 0 := st_ne A.1 A.2 0 (by omega) (by omega)
    have h5 : g 5 = 1 := A.1
    have h6 := B (by omega)
    rw [if_neg h50, if_pos h5] at e
    by_cases hc : c < 12
    · rw [if_pos (by rw [h6]; exact nI_lt (b := 12) hc (by decide))] at e
      obtain ⟨rfl, e2⟩ := Prod.mk.injEq .. ▸ e
      obtain ⟨rfl, rfl⟩ := Prod.mk.injEq .. ▸ e2
      exact ⟨1, c, h, l, q, w, ⟨A, B, ⟨fun h9 => by omega, fun h9 => by omega⟩, D, E, F, G, H, I⟩, ⟨L1, L2, L3, L4, L5, L6, L7⟩, hl, by omega⟩
    · rw [if_neg (by rw [h6]; exact nI_nlt (b := 12) (by omega) (by have := C.2 (by omega); omega))] at e
      obtain ⟨rfl, e2⟩ := Prod.mk.injEq .. ▸ e
      obtain ⟨rfl, rfl⟩ := Prod.mk.injEq .. ▸ e2
      exact ⟨2, 0, h, l, q, w, ⟨⟨rfl, by omega⟩, fun h9 => by omega, ⟨fun h9 => by omega, fun h9 => by omega⟩, D, E, ⟨fun h9 => by omega, fun h9 => by omega⟩, ⟨G.1, fun _ => G.2.1 (by omega), G.2.2⟩, ⟨H.1, fun _ => H.2 (by omega)⟩, fun _ => I (by omega)⟩, ⟨L1, L2, L3, L4, L5, L6, L7⟩, hl, by omega⟩
  · have h50 : ¬ g 5 = 0 := st_ne A.1 A.2 0 (by omega) (by omega)
    have h51 : ¬ g 5 = 1 := st_ne A.1 A.2 1 (by omega) (by omega)
    have h5 : g 5 = 2 := A.1
    rw [if_neg h50, if_neg h51, if_pos h5] at e
    have hstay : CoreS g 2 c h l q w := ⟨A, B, ⟨fun h9 => by omega, fun h9 => by omega⟩, D, E, F, G, H, I⟩
    have hgo : CoreS (s_End_begin g 3) 3 0 h l q w := ⟨⟨rfl, by omega⟩, fun h9 => rfl, ⟨fun h9 => by omega, fun h9 => by omega⟩, D, E, ⟨fun h9 => by omega, fun h9 => by omega⟩, ⟨G.1, fun _ => G.2.1 (by omega), G.2.2⟩, ⟨H.1, fun _ => H.2 (by omega)⟩, fun _ => I (by omega)⟩
    have hLgo : CoreL (s_End_begin g 3) Li Lo w := ⟨L1, L2, L3, L4, L5, L6, L7⟩
    by_cases g0 : g 0 = 0
    · rw [if_pos g0] at e
      by_cases g1 : g 1 = 0
      · rw [if_pos g1] at e
        obtain ⟨rfl, e2⟩ := Prod.mk.injEq .. ▸ e
        obtain ⟨rfl, rfl⟩ := Prod.mk.injEq .. ▸ e2
        exact ⟨2, c, h, l, q, w, hstay, ⟨L1, L2, L3, L4, L5, L6, L7⟩, hl, by omega⟩
      · rw [if_neg g1] at e
        by_cases g2 : g 2 = 0
        · rw [if_pos g2] at e
          obtain ⟨rfl, e2⟩ := Prod.mk.injEq .. ▸ e
          obtain ⟨rfl, rfl⟩ := Prod.mk.injEq .. ▸ e2
          exact ⟨2, c, h, l, q, w, hstay, ⟨L1, L2, L3, L4, L5, L6, L7⟩, hl, by omega⟩
        · rw [if_neg g2] at e
          obtain ⟨rfl, e2⟩ := Prod.mk.injEq .. ▸ e
          obtain ⟨rfl, rfl⟩ := Prod.mk.injEq .. ▸ e2
          exact ⟨3, 0, h, l, q, w, hgo, hLgo, hl, by omega⟩
    · rw [if_neg g0] at e
      obtain ⟨rfl, e2⟩ := Prod.mk.injEq .. ▸ e
      obtain ⟨rfl, rfl⟩ := Prod.mk.injEq .. ▸ e2
      exact ⟨3, 0, h, l, q, w, hgo, hLgo, hl, by omega⟩
  · have h50 : ¬ g 5 = 0 := st_ne A.1 A.2 0 (by omega) (by omega)
    have h51 : ¬ g 5 = 1 := st_ne A.1 A.2 1 (by omega) (by omega)
    have h52 : ¬ g 5 = 2 := st_ne A.1 A.2 2 (by omega) (by omega)
    have h5 : g 5 = 3 := A.1
    have h6 := B (by omega)
    rw [if_neg h50, if_neg h51, if_neg h52, if_pos h5] at e
    by_cases hh : h = 0
    · rw [if_pos (by rw [D.1, hh]; rfl)] at e
      by_cases hc : c < 12
      · rw [if_pos (by rw [h6]; exact nI_lt (b := 12) hc (by decide))] at e
        obtain ⟨rfl, e2⟩ := Prod.mk.injEq .. ▸ e
        obtain ⟨rfl, rfl⟩ := Prod.mk.injEq .. ▸ e2
        exact ⟨3, c, h, l, q, w, ⟨A, B, ⟨fun h9 => by omega, fun h9 => by omega⟩, D, E, F, G, H, I⟩, ⟨L1, L2, L3, L4, L5, L6, L7⟩, hl, by omega⟩
      · rw [if_neg (by rw [h6]; exact nI_nlt (b := 12) (by omega) (by have := C.2 (by omega); omega))] at e
        have hcc : CoreS (upd g 6 0) 3 0 h l q w := ⟨A, fun _ => rfl, ⟨fun h9 => by omega, fun h9 => by omega⟩, D, E, F, G, H, I⟩
        have hq6 : s_End_fall g Li Lo = s_End_fall (upd g 6 0) Li Lo := by
          have h59 : (upd g 6 0) 5 = 3 := A.1
          simp only [s_End_fall, bnd, bnd2, bnd3, s_End_begin]
          rw [if_neg (by rw [h5]; decide), if_neg (by rw [h59]; decide)]
          congr 1
          funext k
          by_cases k6 : k = 6
          · subst k6; rfl
          · simp [upd, k6]
        rw [hq6] at e
        have h9 := fall_core hcc ⟨L1, L2, L3, L4, L5, L6, L7⟩ e
        exact ⟨0, 0, 0, 0, 0, 0, h9.1, h9.2, by omega, Or.inl (by omega)⟩
    · rw [if_neg (by rw [D.1]; exact nI_ne0 (by omega) (by have := D.2; omega))] at e
      obtain ⟨rfl, e2⟩ := Prod.mk.injEq .. ▸ e
      obtain ⟨rfl, rfl⟩ := Prod.mk.injEq .. ▸ e2
      have h1 : h = 1 := by have := D.2; omega
      exact ⟨4, 0, h, l, q, w, ⟨⟨rfl, by omega⟩, fun h9 => rfl, ⟨fun h9 => by omega, fun h9 => by omega⟩, D, E, ⟨fun h9 => by omega, fun h9 => h1⟩, ⟨G.1, fun _ => G.2.1 (by omega), G.2.2⟩, ⟨H.1, fun _ => H.2 (by omega)⟩, fun _ => I (by omega)⟩, ⟨L1, L2, L3, L4, L5, L6, L7⟩, hl, by omega⟩
  · have h50 : ¬ g 5 = 0 := st_ne A.1 A.2 0 (by omega) (by omega)
    have h51 : ¬ g 5 = 1 := st_ne A.1 A.2 1 (by omega) (by omega)
    have h52 : ¬ g 5 = 2 := st_ne A.1 A.2 2 (by omega) (by omega)
    have h53 : ¬ g 5 = 3 := st_ne A.1 A.2 3 (by omega) (by omega)
    have h5 : g 5 = 4 := A.1
    have h6 := B (by omega)
    rw [if_neg h50, if_neg h51, if_neg h52, if_neg h53, if_pos h5] at e
    by_cases hc : c < 12
    · rw [if_pos (by rw [h6]; exact nI_lt (b := 12) hc (by decide))] at e
      obtain ⟨rfl, e2⟩ := Prod.mk.injEq .. ▸ e
      obtain ⟨rfl, rfl⟩ := Prod.mk.injEq .. ▸ e2
      exact ⟨4, c, h, l, q, w, ⟨A, B, ⟨fun h9 => by omega, fun h9 => by omega⟩, D, E, F, G, H, I⟩, ⟨L1, L2, L3, L4, L5, L6, L7⟩, hl, by omega⟩
    · rw [if_neg (by rw [h6]; exact nI_nlt (b := 12) (by omega) (by have := C.2 (by omega); omega))] at e
      have hcc : CoreS (upd g 6 0) 4 0 h l q w := ⟨A, fun _ => rfl, ⟨fun h9 => by omega, fun h9 => by omega⟩, D, E, F, G, H, I⟩
      have hq6 : s_End_fall g Li Lo = s_End_fall (upd g 6 0) Li Lo := by
        have h59 : (upd g 6 0) 5 = 4 := A.1
        simp only [s_End_fall, bnd, bnd2, bnd3, s_End_begin]
        rw [if_neg (by rw [h5]; decide), if_neg (by rw [h59]; decide)]
        congr 1
        funext k
        by_cases k6 : k = 6
        · subst k6; rfl
        · simp [upd, k6]
      rw [hq6] at e
      have h9 := fall_core hcc ⟨L1, L2, L3, L4, L5, L6, L7⟩ e
      exact ⟨0, 0, 0, 0, 0, 0, h9.1, h9.2, by omega, Or.inl (by omega)⟩
  · have h50 : ¬ g 5 = 0 := st_ne A.1 A.2 0 (by omega) (by omega)
    have h51 : ¬ g 5 = 1 := st_ne A.1 A.2 1 (by omega) (by omega)
    have h52 : ¬ g 5 = 2 := st_ne A.1 A.2 2 (by omega) (by omega)
    have h53 : ¬ g 5 = 3 := st_ne A.1 A.2 3 (by omega) (by omega)
    have h54 : ¬ g 5 = 4 := st_ne A.1 A.2 4 (by omega) (by omega)
    have h5 : g 5 = 5 := A.1
    rw [if_neg h50, if_neg h51, if_neg h52, if_neg h53, if_neg h54] at e
    have hstay : CoreS g 5 c h l q w := ⟨A, B, ⟨fun h9 => by omega, fun h9 => by omega⟩, D, E, F, G, H, I⟩
    by_cases g0 : g 0 = 0
    · rw [if_pos g0] at e
      by_cases g1 : g 1 = 0
      · rw [if_pos g1] at e
        exact hfall hstay e
      · rw [if_neg g1] at e
        obtain ⟨rfl, e2⟩ := Prod.mk.injEq .. ▸ e
        obtain ⟨rfl, rfl⟩ := Prod.mk.injEq .. ▸ e2
        exact ⟨5, c, h, l, q, w, hstay, ⟨L1, L2, L3, L4, L5, L6, L7⟩, hl, by omega⟩
    · rw [if_neg g0] at e
      obtain ⟨rfl, e2⟩ := Prod.mk.injEq .. ▸ e
      obtain ⟨rfl, rfl⟩ := Prod.mk.injEq .. ▸ e2
      exact ⟨5, c, h, l, q, w, hstay, ⟨L1, L2, L3, L4, L5, L6, L7⟩, hl, by omega⟩
theorem mov_core {g g' : Nat → Int32} {Li Li' Lo Lo' : List Int32} {s c h l q w f b : Nat} (hS : CoreS g s c h l q w) (hL : CoreL g Li Lo w) (h3 : g 3 = nI f) (hf : f ≤ 1) (h4 : g 4 = nI b) (hb : b = 0 ∨ b = 1 ∧ s = 5) (hl : f = 0 → l ≤ h) (e : (g', Li', Lo') = s_End_moveOn g Li Lo) :
    ∃ s2 c2 h2 l2 q2 w2 : Nat, CoreS g' s2 c2 h2 l2 q2 w2 ∧ CoreL g' Li' Lo' w2 ∧ l2 ≤ h2 ∧ MovT s c h l q w f b s2 c2 h2 l2 q2 w2 := by
  unfold s_End_moveOn at e
  have hff : f = 0 ∨ f = 1 := by omega
  rcases hff with rfl | rfl
  · have h30 : g 3 = 0 := h3
    rw [if_pos h30] at e
    obtain ⟨A, B, C, D, E, F, G, H, I⟩ := hS
    rcases hb with rfl | ⟨rfl, rfl⟩
    · have h40 : g 4 = 0 := h4
      rw [if_pos h40] at e
      obtain ⟨s2, c2, h2, l2, q2, w2, k1, k2, k3, k4⟩ := mov_core0 (g := upd g 6 (g 6 + 1)) (g' := g') (Li := Li) (Li' := Li') (Lo := Lo) (Lo' := Lo') (s := s) (c := c + 1) (h := h) (l := l) (q := q) (w := w) A (fun h9 => by show g 6 + 1 = _; rw [B h9, n1]) ⟨fun h9 => by have := C.1 h9; omega, fun h9 => by have := C.2 h9; omega⟩ D E F G H I hL (hl rfl) e
      exact ⟨s2, c2, h2, l2, q2, w2, k1, k2, k3, by unfold MovT; omega⟩
    · have h40 : ¬ g 4 = 0 := by rw [h4]; decide
      rw [if_neg h40] at e
      obtain ⟨s2, c2, h2, l2, q2, w2, k1, k2, k3, k4⟩ := mov_core0 (g := g) (g' := g') (Li := Li) (Li' := Li') (Lo := Lo) (Lo' := Lo') (s := 5) (c := c) (h := h) (l := l) (q := q) (w := w) A B ⟨fun h9 => by omega, fun h9 => by omega⟩ D E F G H I hL (hl rfl) e
      exact ⟨s2, c2, h2, l2, q2, w2, k1, k2, k3, by unfold MovT; omega⟩
  · have h30 : ¬ g 3 = 0 := by rw [h3]; decide
    rw [if_neg h30] at e
    have h9 := fall_core hS hL e
    exact ⟨0, 0, 0, 0, 0, 0, h9.1, h9.2, by omega, Or.inl (by omega)⟩

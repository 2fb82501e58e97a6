theorem lend_if {Li : List Int32} {w : Nat} (h : Li.length + w ≤ 25) : s_Inlet_size Li + nI w + 8 = nI (Li.length + w + 8) := by
  unfold s_Inlet_size; rw [nI_add, n8]
theorem canLend_w {g : Nat → Int32} {Li : List Int32} {w : Nat} (h9 : g 9 = nI w) (h : Li.length + w ≤ 25) : s_End_canLend g Li = if Li.length + w ≤ 16 then 1 else 0 := by
  simp only [s_End_canLend, bnd]
  rw [h9, lend_if h]
  by_cases hc : Li.length + w ≤ 16
  · rw [if_pos hc, if_neg (fun h9 => by have := (nI_ltI (a := 24) (b := Li.length + w + 8) (by decide) (by omega)).mp h9; omega)]
  · have hd : (24 : Int32) < nI (Li.length + w + 8) := (nI_ltI (a := 24) (b := Li.length + w + 8) (by decide) (by omega)).mpr (by omega)
    rw [if_neg hc, if_pos hd]
theorem cls_ne3 {x : Int32} {k : Nat} (h : cls x k) (hk : k ≠ 0) : ¬ x = -3 := by
  rcases cls_cases h with ⟨rfl, rfl⟩ | ⟨rfl, rfl⟩ | ⟨rfl, rfl⟩ | ⟨rfl, t, ht, hx2, hx3, hx4, hx5, hx6⟩ | ⟨rfl, b, hb, hx2, hx3, hx4, hx5, hx6⟩
  · exact absurd rfl hk
  · decide
  · decide
  · exact hx3
  · exact hx3
theorem next_core {g g1 : Nat → Int32} {Li Lo Lo1 : List Int32} {r : Int32} {s c h l q w : Nat} (hS : CoreS g s c h l q w) (hL : CoreL g Li Lo w) (e : (r, g1, Lo1) = s_End_nextCharacter g Li Lo) :
    ∃ q3 w3 k : Nat, CoreS g1 s c h l q3 w3 ∧ CoreL g1 Li Lo1 w3 ∧ cls r k ∧ SndT s q w k q3 w3 := by
  obtain ⟨A, B, C, D, E, F, G, H, I⟩ := hS
  obtain ⟨L1, L2, L3, L4, L5, L6, L7⟩ := hL
  have hcl := canLend_w (g := g) H.1 L1
  simp only [s_End_nextCharacter, s_End_nextInRun, s_End_lend, bnd2, bnd3, hcl] at e
  have hs : s < 3 ∨ s = 3 ∨ s = 4 ∨ s = 5 := by have := A.2; omega
  rcases hs with hs | rfl | rfl | rfl
  · have h53 : ¬ g 5 = 3 := st_ne A.1 A.2 3 (by omega) (by omega)
    have h54 : ¬ g 5 = 4 := st_ne A.1 A.2 4 (by omega) (by omega)
    have h55 : ¬ g 5 = 5 := st_ne A.1 A.2 5 (by omega) (by omega)
    rw [if_neg h53, if_neg h54, if_neg h55] at e
    obtain ⟨rfl, e2⟩ := Prod.mk.injEq .. ▸ e
    obtain ⟨rfl, rfl⟩ := Prod.mk.injEq .. ▸ e2
    exact ⟨q, w, 0, ⟨A, B, C, D, E, F, G, H, I⟩, ⟨L1, L2, L3, L4, L5, L6, L7⟩, Or.inl ⟨rfl, rfl⟩, by unfold SndT; omega⟩
  · have h53 : g 5 = 3 := A.1
    rw [if_pos h53] at e
    obtain ⟨rfl, e2⟩ := Prod.mk.injEq .. ▸ e
    obtain ⟨rfl, rfl⟩ := Prod.mk.injEq .. ▸ e2
    exact ⟨q, w, 1, ⟨A, B, C, D, E, F, G, H, I⟩, ⟨L1, L2, L3, L4, L5, L6, L7⟩, Or.inr (Or.inl ⟨rfl, rfl⟩), by unfold SndT; omega⟩
  · have h53 : ¬ g 5 = 3 := st_ne A.1 A.2 3 (by omega) (by omega)
    have h54 : g 5 = 4 := A.1
    rw [if_neg h53, if_pos h54] at e
    by_cases hc : Li.length + w ≤ 16
    · rw [if_pos hc, if_neg (by decide), H.1, n8] at e
      obtain ⟨rfl, e2⟩ := Prod.mk.injEq .. ▸ e
      obtain ⟨rfl, rfl⟩ := Prod.mk.injEq .. ▸ e2
      exact ⟨q, w + 8, 2, ⟨A, B, C, D, E, F, G, ⟨rfl, fun h9 => by omega⟩, I⟩, ⟨by omega, fun _ => by omega, L3, L4, L5, L6, L7⟩, Or.inr (Or.inr (Or.inl ⟨rfl, rfl⟩)), by unfold SndT; omega⟩
    · rw [if_neg hc, if_pos rfl] at e
      obtain ⟨rfl, e2⟩ := Prod.mk.injEq .. ▸ e
      obtain ⟨rfl, rfl⟩ := Prod.mk.injEq .. ▸ e2
      exact ⟨q, w, 1, ⟨A, B, C, D, E, F, G, H, I⟩, ⟨L1, L2, L3, L4, L5, L6, L7⟩, Or.inr (Or.inl ⟨rfl, rfl⟩), by unfold SndT; omega⟩
  · have h53 : ¬ g 5 = 3 := st_ne A.1 A.2 3 (by omega) (by omega)
    have h54 : ¬ g 5 = 4 := st_ne A.1 A.2 4 (by omega) (by omega)
    have h55 : g 5 = 5 := A.1
    rw [if_neg h53, if_neg h54, if_pos h55] at e
    have hstay : ∃ q3 w3 k : Nat, CoreS g 5 c h l q3 w3 ∧ CoreL g Li Lo w3 ∧ cls 259 k ∧ SndT 5 q w k q3 w3 := ⟨q, w, 1, ⟨A, B, C, D, E, F, G, H, I⟩, ⟨L1, L2, L3, L4, L5, L6, L7⟩, Or.inr (Or.inl ⟨rfl, rfl⟩), by unfold SndT; omega⟩
    by_cases h13 : g 13 = -3
    · rw [if_pos h13] at e
      by_cases hc : Li.length + w ≤ 16
      · rw [if_pos hc, if_neg (by decide), H.1, n8] at e
        obtain ⟨rfl, e2⟩ := Prod.mk.injEq .. ▸ e
        obtain ⟨rfl, rfl⟩ := Prod.mk.injEq .. ▸ e2
        exact ⟨q, w + 8, 2, ⟨A, B, C, D, E, F, G, ⟨rfl, fun h9 => by omega⟩, I⟩, ⟨by omega, fun _ => by omega, L3, L4, L5, L6, L7⟩, Or.inr (Or.inr (Or.inl ⟨rfl, rfl⟩)), by unfold SndT; omega⟩
      · rw [if_neg hc, if_pos rfl] at e
        by_cases h8 : g 8 ≤ 0
        · rw [if_pos h8] at e
          obtain ⟨rfl, e2⟩ := Prod.mk.injEq .. ▸ e
          obtain ⟨rfl, rfl⟩ := Prod.mk.injEq .. ▸ e2
          exact hstay
        · rw [if_neg h8] at e
          have hq : 0 < q := Nat.pos_of_ne_zero fun h9 => h8 (by rw [G.1, h9]; decide)
          cases Lo with
          | nil =>
            rw [if_pos (by decide)] at e
            obtain ⟨rfl, e2⟩ := Prod.mk.injEq .. ▸ e
            obtain ⟨rfl, rfl⟩ := Prod.mk.injEq .. ▸ e2
            exact hstay
          | cons d Lo =>
            rw [if_neg (by unfold s_Outlet_size; exact nI_nle (by simp) (by omega)), G.1, xsub1 hq] at e
            simp only [s_Outlet_removeFirst, s_Row_removeFirst, bnd2] at e
            obtain ⟨rfl, e2⟩ := Prod.mk.injEq .. ▸ e
            obtain ⟨rfl, rfl⟩ := Prod.mk.injEq .. ▸ e2
            obtain ⟨b, hb, hd⟩ := L4 _ List.mem_cons_self
            exact ⟨q - 1, w, 4, ⟨A, B, C, D, E, F, ⟨rfl, fun h9 => absurd rfl h9, by have := G.2.2; omega⟩, H, fun h9 => absurd rfl h9⟩, ⟨L1, L2, L3, ch_tail L4, (by rw [List.length_cons] at L5; omega), L6, L7⟩, Or.inr (Or.inr (Or.inr (Or.inr ⟨rfl, b, hb, hd⟩))), by unfold SndT; omega⟩
    · rw [if_neg h13] at e
      obtain ⟨rfl, e2⟩ := Prod.mk.injEq .. ▸ e
      obtain ⟨rfl, rfl⟩ := Prod.mk.injEq .. ▸ e2
      rcases L6 with h9 | ⟨t, ht, h9⟩
      · exact absurd h9 h13
      · exact ⟨q, w, 3, ⟨A, B, C, D, E, F, G, H, I⟩, ⟨L1, L2, L3, L4, L5, Or.inl rfl, L7⟩, Or.inr (Or.inr (Or.inr (Or.inl ⟨rfl, t, ht, by rw [h9]; exact nI_add 260 t⟩))), by unfold SndT; omega⟩
theorem snd_core {g g' : Nat → Int32} {Li Lo Lo' : List Int32} {s c h l q w : Nat} (hS : CoreS g s c h l q w) (hL : CoreL g Li Lo w) (e : (g', Lo') = s_End_transmit g Li Lo) :
    ∃ q3 w3 k : Nat, CoreS g' s c h l q3 w3 ∧ CoreL g' Li Lo' w3 ∧ cls (g' 15) k ∧ SndT s q w k q3 w3 := by
  unfold s_End_transmit at e
  obtain ⟨q3, w3, k, k1, k2, k3, k4⟩ := next_core (r := (s_End_nextCharacter g Li Lo).1) (g1 := (s_End_nextCharacter g Li Lo).2.1) (Lo1 := (s_End_nextCharacter g Li Lo).2.2) hS hL rfl
  simp only [bnd3, bnd] at e
  generalize (s_End_nextCharacter g Li Lo).1 = r at e k1 k2 k3 k4
  generalize (s_End_nextCharacter g Li Lo).2.1 = g1 at e k1 k2 k3 k4
  generalize (s_End_nextCharacter g Li Lo).2.2 = Lo1 at e k1 k2 k3 k4
  obtain ⟨A, B, C, D, E, F, G, H, I⟩ := k1
  obtain ⟨L1, L2, L3, L4, L5, L6, L7⟩ := k2
  generalize (if r = -3 then (0 : Int32) else if g1 14 = 0 then 0 else 1) = y at e
  by_cases hy : y = 0
  · rw [if_pos hy] at e
    obtain ⟨rfl, rfl⟩ := Prod.mk.injEq .. ▸ e
    exact ⟨q3, w3, k, ⟨A, B, C, D, E, F, G, H, I⟩, ⟨L1, L2, L3, L4, L5, L6, L7⟩, k3, k4⟩
  · rw [if_neg hy] at e
    obtain ⟨rfl, rfl⟩ := Prod.mk.injEq .. ▸ e
    exact ⟨q3, w3, k, ⟨A, B, C, D, E, F, G, H, I⟩, ⟨L1, L2, L3, L4, L5, L6, Or.inl rfl⟩, k3, k4⟩

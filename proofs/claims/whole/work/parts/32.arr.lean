theorem cls_cases {x : Int32} {k : Nat} (h : cls x k) : (k = 0 ∧ x = -3) ∨ (k = 1 ∧ x = 259) ∨ (k = 2 ∧ x = 258) ∨ (k = 3 ∧ ∃ t : Nat, t < 64 ∧ x = nI (260 + t) ∧ ¬ x = -3 ∧ ¬ x = 259 ∧ ¬ x = 258 ∧ ¬ x < 260) ∨ (k = 4 ∧ ∃ b : Nat, b ≤ 257 ∧ x = nI b ∧ ¬ x = -3 ∧ ¬ x = 259 ∧ ¬ x = 258 ∧ x < 260) := by
  rcases h with h | h | h | ⟨h, t, ht, hx⟩ | ⟨h, b, hb, hx⟩
  · exact Or.inl h
  · exact Or.inr (Or.inl h)
  · exact Or.inr (Or.inr (Or.inl h))
  · refine Or.inr (Or.inr (Or.inr (Or.inl ⟨h, t, ht, hx, ?_, ?_, ?_, ?_⟩)))
    · intro h9; rw [hx] at h9; exact nI_pos (n := 260 + t) (by omega) (by rw [h9]; decide)
    · intro h9; rw [hx] at h9; have := (nI_eq (a := 260 + t) (b := 259) (by omega) (by decide)).mp h9; omega
    · intro h9; rw [hx] at h9; have := (nI_eq (a := 260 + t) (b := 258) (by omega) (by decide)).mp h9; omega
    · intro h9; rw [hx] at h9; have := (nI_ltI (a := 260 + t) (b := 260) (by omega) (by decide)).mp h9; omega
  · refine Or.inr (Or.inr (Or.inr (Or.inr ⟨h, b, hb, hx, ?_, ?_, ?_, ?_⟩)))
    · intro h9; rw [hx] at h9; exact nI_pos (n := b) (by omega) (by rw [h9]; decide)
    · intro h9; rw [hx] at h9; have := (nI_eq (a := b) (b := 259) (by omega) (by decide)).mp h9; omega
    · intro h9; rw [hx] at h9; have := (nI_eq (a := b) (b := 258) (by omega) (by decide)).mp h9; omega
    · rw [hx]; exact (nI_ltI (a := b) (b := 260) (by omega) (by decide)).mpr (by omega)
theorem st_ne {g : Nat → Int32} {s : Nat} (h5 : g 5 = nI s) (hs : s ≤ 5) (k : Nat) (hk : k ≤ 5) (h : s ≠ k) : ¬ g 5 = nI k := fun h9 => h ((nI_eq (by omega) (by omega)).mp (h5.symm.trans h9))
theorem arr_core {g g' : Nat → Int32} {Li Li' Lo : List Int32} {x y : Int32} {s c h l q w kx : Nat} (hS : CoreS g s c h l q w) (hL : CoreL g Li Lo w) (hl : l ≤ h) (hx : cls x kx) (hr : kx = 4 → s = 5 → 1 ≤ w) (hq : kx = 2 → q ≤ 25) (e : (g', Li') = s_End_arrival g Li x y) :
    ∃ f b s1 h1 l1 q1 w1 : Nat, CoreS g' s1 c h1 l1 q1 w1 ∧ CoreL g' Li' Lo w1 ∧ g' 3 = nI f ∧ g' 4 = nI b ∧ ArrT s h l q w kx f b s1 h1 l1 q1 w1 := by
  obtain ⟨A, B, C, D, E, F, G, H, I⟩ := hS
  obtain ⟨L1, L2, L3, L4, L5, L6, L7⟩ := hL
  unfold s_End_arrival at e
  by_cases s0 : s = 0
  · rw [if_pos (by rw [A.1, s0]; rfl)] at e
    obtain ⟨rfl, rfl⟩ := Prod.mk.injEq .. ▸ e
    exact ⟨0, 0, s, h, l, q, w, ⟨A, B, C, D, E, F, G, H, I⟩, ⟨L1, L2, L3, L4, L5, L6, L7⟩, rfl, rfl, by unfold ArrT; omega⟩
  · have h50 : ¬ g 5 = 0 := st_ne A.1 A.2 0 (by omega) s0
    rw [if_neg h50] at e
    rcases cls_cases hx with ⟨rfl, rfl⟩ | ⟨rfl, rfl⟩ | ⟨rfl, rfl⟩ | ⟨rfl, t, ht, hx2, hx3, hx4, hx5, hx6⟩ | ⟨rfl, b, hb, hx2, hx3, hx4, hx5, hx6⟩
    · rw [if_pos rfl] at e
      simp only [s_End_noticeSilence, bnd] at e
      by_cases hh : h = 0
      · subst hh
        have h2 : (upd (upd g 3 0) 4 0) 2 = 0 := D.1
        rw [if_pos h2] at e
        obtain ⟨rfl, rfl⟩ := Prod.mk.injEq .. ▸ e
        exact ⟨0, 0, s, 0, l, q, w, ⟨A, B, C, D, E, F, G, H, I⟩, ⟨L1, L2, L3, L4, L5, L6, L7⟩, rfl, rfl, by unfold ArrT; omega⟩
      · have h1 : h = 1 := by have := D.2; omega
        subst h1
        have h2 : ¬ (upd (upd g 3 0) 4 0) 2 = 0 := by
          show ¬ g 2 = 0
          rw [D.1]; decide
        rw [if_neg h2] at e
        have h7 : (upd (upd g 3 0) 4 0) 7 = nI l := E
        rw [h7, n1] at e
        have hll : l = 0 ∨ l = 1 := by omega
        rcases hll with rfl | rfl
        · rw [if_pos (by decide)] at e
          obtain ⟨rfl, rfl⟩ := Prod.mk.injEq .. ▸ e
          exact ⟨0, 0, s, 1, 1, q, w, ⟨A, B, C, D, rfl, F, G, H, I⟩, ⟨L1, L2, L3, L4, L5, L6, L7⟩, rfl, rfl, by unfold ArrT; omega⟩
        · rw [if_neg (by decide)] at e
          obtain ⟨rfl, rfl⟩ := Prod.mk.injEq .. ▸ e
          exact ⟨1, 0, s, 1, 2, q, w, ⟨A, B, C, D, rfl, F, G, H, I⟩, ⟨L1, L2, L3, L4, L5, L6, L7⟩, rfl, rfl, by unfold ArrT; omega⟩
    · rw [if_neg (by decide)] at e
      by_cases hy : y = 0
      · rw [if_pos hy, if_pos rfl] at e
        obtain ⟨rfl, rfl⟩ := Prod.mk.injEq .. ▸ e
        exact ⟨0, 0, s, 1, 0, q, w, ⟨A, B, C, ⟨rfl, by omega⟩, rfl, ⟨fun h9 => absurd h9 s0, fun _ => rfl⟩, G, H, I⟩, ⟨L1, L2, L3, L4, L5, L6, L7⟩, rfl, rfl, by unfold ArrT; omega⟩
      · rw [if_neg hy] at e
        obtain ⟨rfl, rfl⟩ := Prod.mk.injEq .. ▸ e
        exact ⟨1, 0, s, h, 0, q, w, ⟨A, B, C, D, rfl, F, G, H, I⟩, ⟨L1, L2, L3, L4, L5, L6, L7⟩, rfl, rfl, by unfold ArrT; omega⟩
    · rw [if_neg (by decide)] at e
      by_cases hy : y = 0
      · rw [if_pos hy, if_neg (by decide), if_pos rfl] at e
        simp only [s_End_arriveCredit, bnd] at e
        have h8 : (upd (upd (upd g 3 0) 4 0) 7 0) 8 = nI q := G.1
        by_cases s4 : s = 4
        · subst s4
          have h5 : (upd (upd (upd g 3 0) 4 0) 7 0) 5 = 4 := A.1
          rw [if_pos h5, if_pos h5, h8, n8] at e
          obtain ⟨rfl, rfl⟩ := Prod.mk.injEq .. ▸ e
          have I2 := I (by decide)
          exact ⟨0, 1, 5, h, 0, q + 8, w, ⟨⟨rfl, by omega⟩, fun h9 => by omega, ⟨fun h9 => by omega, fun h9 => by omega⟩, D, rfl, ⟨fun h9 => by omega, fun _ => F.2 (by omega)⟩, ⟨rfl, fun h9 => absurd rfl h9, by have := hq rfl; omega⟩, ⟨H.1, fun h9 => by omega⟩, fun h9 => absurd rfl h9⟩, ⟨L1, L2, L3, L4, L5, L6, L7⟩, rfl, rfl, by unfold ArrT; omega⟩
        · have h5 : ¬ (upd (upd (upd g 3 0) 4 0) 7 0) 5 = 4 := st_ne A.1 A.2 4 (by omega) s4
          rw [if_neg h5] at e
          by_cases s5 : s = 5
          · subst s5
            have h55 : (upd (upd (upd g 3 0) 4 0) 7 0) 5 = 5 := A.1
            rw [if_pos h55, if_neg h5, h8, n8] at e
            obtain ⟨rfl, rfl⟩ := Prod.mk.injEq .. ▸ e
            exact ⟨0, 0, 5, h, 0, q + 8, w, ⟨A, B, C, D, rfl, F, ⟨rfl, fun h9 => absurd rfl h9, by have := hq rfl; omega⟩, H, I⟩, ⟨L1, L2, L3, L4, L5, L6, L7⟩, rfl, rfl, by unfold ArrT; omega⟩
          · have h55 : ¬ (upd (upd (upd g 3 0) 4 0) 7 0) 5 = 5 := st_ne A.1 A.2 5 (by omega) s5
            rw [if_neg h55] at e
            obtain ⟨rfl, rfl⟩ := Prod.mk.injEq .. ▸ e
            exact ⟨1, 0, s, h, 0, q, w, ⟨A, B, C, D, rfl, F, G, H, I⟩, ⟨L1, L2, L3, L4, L5, L6, L7⟩, rfl, rfl, by unfold ArrT; omega⟩
      · rw [if_neg hy] at e
        obtain ⟨rfl, rfl⟩ := Prod.mk.injEq .. ▸ e
        exact ⟨1, 0, s, h, 0, q, w, ⟨A, B, C, D, rfl, F, G, H, I⟩, ⟨L1, L2, L3, L4, L5, L6, L7⟩, rfl, rfl, by unfold ArrT; omega⟩
    · rw [if_neg hx3] at e
      by_cases hy : y = 0
      · rw [if_pos hy, if_neg hx4, if_neg hx5, if_neg hx6] at e
        simp only [s_End_arriveTime, bnd] at e
        by_cases s5 : s = 5
        · subst s5
          have h55 : (upd (upd (upd g 3 0) 4 0) 7 0) 5 = 5 := A.1
          rw [if_pos h55] at e
          split at e
          all_goals
            obtain ⟨rfl, rfl⟩ := Prod.mk.injEq .. ▸ e
            exact ⟨0, 0, 5, h, 0, q, w, ⟨A, B, C, D, rfl, F, G, H, I⟩, ⟨L1, L2, L3, L4, L5, L6, L7⟩, rfl, rfl, by unfold ArrT; omega⟩
        · have h55 : ¬ (upd (upd (upd g 3 0) 4 0) 7 0) 5 = 5 := st_ne A.1 A.2 5 (by omega) s5
          rw [if_neg h55] at e
          obtain ⟨rfl, rfl⟩ := Prod.mk.injEq .. ▸ e
          exact ⟨1, 0, s, h, 0, q, w, ⟨A, B, C, D, rfl, F, G, H, I⟩, ⟨L1, L2, L3, L4, L5, L6, L7⟩, rfl, rfl, by unfold ArrT; omega⟩
      · rw [if_neg hy] at e
        obtain ⟨rfl, rfl⟩ := Prod.mk.injEq .. ▸ e
        exact ⟨1, 0, s, h, 0, q, w, ⟨A, B, C, D, rfl, F, G, H, I⟩, ⟨L1, L2, L3, L4, L5, L6, L7⟩, rfl, rfl, by unfold ArrT; omega⟩
    · rw [if_neg hx3] at e
      by_cases hy : y = 0
      · rw [if_pos hy, if_neg hx4, if_neg hx5, if_pos hx6] at e
        simp only [s_End_arrivePacketCharacter, s_Inlet_receive, bnd, bnd2] at e
        by_cases s5 : s = 5
        · subst s5
          have hw := hr rfl rfl
          have h55 : (upd (upd (upd g 3 0) 4 0) 7 0) 5 = 5 := A.1
          have h99 : (upd (upd (upd g 3 0) 4 0) 7 0) 9 = nI w := H.1
          rw [if_pos h55, h99, xsub1 hw] at e
          obtain ⟨rfl, rfl⟩ := Prod.mk.injEq .. ▸ e
          have L2' := L2 (Or.inl (by omega))
          have hal := app_len (c := x) (n := 25) (L := Li) (by omega)
          exact ⟨0, 0, 5, h, 0, q, w - 1, ⟨A, B, C, D, rfl, F, G, ⟨rfl, fun h9 => by omega⟩, fun h9 => absurd rfl h9⟩, ⟨(by show (s_Row_append 25 Li x).length + (w - 1) ≤ 25; omega), fun _ => (by show (s_Row_append 25 Li x).length + (w - 1) ≤ 24; omega), ch_app L3 hb hx2, L4, L5, L6, L7⟩, rfl, rfl, by unfold ArrT; omega⟩
        · have h55 : ¬ (upd (upd (upd g 3 0) 4 0) 7 0) 5 = 5 := st_ne A.1 A.2 5 (by omega) s5
          rw [if_neg h55] at e
          obtain ⟨rfl, rfl⟩ := Prod.mk.injEq .. ▸ e
          exact ⟨1, 0, s, h, 0, q, w, ⟨A, B, C, D, rfl, F, G, H, I⟩, ⟨L1, L2, L3, L4, L5, L6, L7⟩, rfl, rfl, by unfold ArrT; omega⟩
      · rw [if_neg hy] at e
        obtain ⟨rfl, rfl⟩ := Prod.mk.injEq .. ▸ e
        exact ⟨1, 0, s, h, 0, q, w, ⟨A, B, C, D, rfl, F, G, H, I⟩, ⟨L1, L2, L3, L4, L5, L6, L7⟩, rfl, rfl, by unfold ArrT; omega⟩

/-- what an end's numbers keep by themselves -/
def EndN (s c h l q w k : Nat) : Prop := s ≤ 5 ∧ (s = 0 → c < 6) ∧ (s = 0 → h = 0) ∧ (4 ≤ s → h = 1) ∧ h ≤ 1 ∧ l ≤ h ∧ (s ≠ 5 → q = 0) ∧ (s < 4 → w = 0) ∧ w ≤ 25 ∧ (s < 3 → k = 0) ∧ (s = 3 → k = 1) ∧ (s = 4 → k = 1 ∨ k = 2) ∧ (s = 5 → 1 ≤ k) ∧ k ≤ 4
/-- what binds an end to the other one -/
def CrN (s c w k S H L Q K : Nat) : Prop := (s = 0 → H = 1 → c ≤ L) ∧ (s = 1 ∨ s = 2 → H = 0) ∧ (s = 3 → S ≠ 5) ∧ (4 ≤ s → 4 ≤ S → (K = 4 → k = 2 → Q + 9 ≤ w) ∧ (K = 4 → k ≠ 2 → Q + 1 ≤ w) ∧ (K ≠ 4 → k = 2 → Q + 8 ≤ w) ∧ (K ≠ 4 → k ≠ 2 → Q ≤ w))
theorem fin4 {w1 w3 Q1 Q3 k3 K3 : Nat} (h : Q1 ≤ w1) (d6 : k3 = 2 → w3 = w1 + 8) (d7 : k3 ≠ 2 → w3 = w1) (D8 : K3 = 4 → Q1 = Q3 + 1) (D9 : K3 ≠ 4 → Q1 = Q3) : (K3 = 4 → k3 = 2 → Q3 + 9 ≤ w3) ∧ (K3 = 4 → k3 ≠ 2 → Q3 + 1 ≤ w3) ∧ (K3 ≠ 4 → k3 = 2 → Q3 + 8 ≤ w3) ∧ (K3 ≠ 4 → k3 ≠ 2 → Q3 ≤ w3) := by
  refine ⟨fun a b => ?_, fun a b => ?_, fun a b => ?_, fun a b => ?_⟩
  · have h1 := d6 b; have h2 := D8 a; clear d6 d7 D8 D9; omega
  · have h1 := d7 b; have h2 := D8 a; clear d6 d7 D8 D9; omega
  · have h1 := d6 b; have h2 := D9 a; clear d6 d7 D8 D9; omega
  · have h1 := d7 b; have h2 := D9 a; clear d6 d7 D8 D9; omega
theorem mid4 {w w1 Q Q1 k K : Nat} (r : (K = 4 → k = 2 → Q + 9 ≤ w) ∧ (K = 4 → k ≠ 2 → Q + 1 ≤ w) ∧ (K ≠ 4 → k = 2 → Q + 8 ≤ w) ∧ (K ≠ 4 → k ≠ 2 → Q ≤ w)) (a1 : K = 4 → w1 + 1 = w) (a2 : K ≠ 4 → w1 = w) (A1 : k = 2 → Q1 = Q + 8) (A2 : k ≠ 2 → Q1 = Q) : Q1 ≤ w1 := by
  obtain ⟨r1, r2, r3, r4⟩ := r
  by_cases h1 : K = 4
  · have b1 := a1 h1
    by_cases h2 : k = 2
    · have b2 := A1 h2; have b3 := r1 h1 h2; clear r1 r2 r3 r4 a1 a2 A1 A2; omega
    · have b2 := A2 h2; have b3 := r2 h1 h2; clear r1 r2 r3 r4 a1 a2 A1 A2; omega
  · have b1 := a2 h1
    by_cases h2 : k = 2
    · have b2 := A1 h2; have b3 := r3 h1 h2; clear r1 r2 r3 r4 a1 a2 A1 A2; omega
    · have b2 := A2 h2; have b3 := r4 h1 h2; clear r1 r2 r3 r4 a1 a2 A1 A2; omega
theorem mv_s {s1 c b s2 c2 h : Nat} (e : (s2 = s1 ∧ (b = 0 → (s1 = 0 ∨ s1 = 1 ∨ s1 = 3 ∨ s1 = 4) → c2 = c + 1)) ∨ (s1 = 0 ∧ c = 5 ∧ s2 = 1) ∨ (s1 = 1 ∧ s2 = 2) ∨ (s1 = 2 ∧ s2 = 3) ∨ (s1 = 3 ∧ h = 1 ∧ s2 = 4)) : (s2 = s1 ∨ (s1 ≤ 3 ∧ s2 = s1 + 1)) ∧ (s1 = 0 → s2 = 1 → c = 5) ∧ (s1 = 0 → s2 = 0 → b = 0 → c2 = c + 1) := by
  rcases e with ⟨e1, e2⟩ | ⟨e1, e2, e3⟩ | ⟨e1, e2⟩ | ⟨e1, e2⟩ | ⟨e1, e2, e3⟩
  · refine ⟨Or.inl e1, fun h1 h2 => ?_, fun h1 h2 h3 => e2 h3 (Or.inl h1)⟩
    clear e2; omega
  · subst e1 e2 e3; exact ⟨Or.inr ⟨by omega, rfl⟩, fun _ _ => rfl, fun _ h2 => by omega⟩
  · subst e1 e2; exact ⟨Or.inr ⟨by omega, rfl⟩, fun h1 _ => by omega, fun h1 h2 => by omega⟩
  · subst e1 e2; exact ⟨Or.inr ⟨by omega, rfl⟩, fun h1 _ => by omega, fun h1 h2 => by omega⟩
  · subst e1 e3; exact ⟨Or.inr ⟨by omega, rfl⟩, fun h1 _ => by omega, fun h1 h2 => by omega⟩
theorem cross1 {s c h l q w k f b s1 h1 l1 q1 w1 s2 c2 h2 l2 q2 w2 k3 q3 w3 : Nat} {S C H L Q W K F B S1 H1 L1 Q1 W1 S2 C2 H2 L2 Q2 W2 K3 Q3 W3 : Nat}
    (n : EndN s c h l q w k) (N : EndN S C H L Q W K) (r : CrN s c w k S H L Q K)
    (a : ArrT s h l q w K f b s1 h1 l1 q1 w1) (A : ArrT S H L Q W k F B S1 H1 L1 Q1 W1)
    (m : MovT s1 c h1 l1 q1 w1 f b s2 c2 h2 l2 q2 w2) (M : MovT S1 C H1 L1 Q1 W1 F B S2 C2 H2 L2 Q2 W2)
    (d : SndT s2 q2 w2 k3 q3 w3) (D : SndT S2 Q2 W2 K3 Q3 W3) : CrN s2 c2 w3 k3 S2 H2 L2 Q3 K3 := by
  rcases m with ⟨e1, e2, e3, e4, e5, e6⟩ | ⟨e1, e2, e3, e4, e5, e6⟩
  · subst e1 e2
    exact ⟨fun _ _ => Nat.zero_le _, fun h9 => by omega, fun h9 => by omega, fun h9 => by omega⟩
  · subst e1 e2 e3 e4 e5
    rcases M with ⟨E1, E2, E3, E4, E5, E6⟩ | ⟨E1, E2, E3, E4, E5, E6⟩
    · subst E1 E3
      exact ⟨fun _ h9 => by omega, fun _ => rfl, fun _ => by decide, fun _ h9 => by omega⟩
    · subst E1 E2 E3 E4 E5
      obtain ⟨v1, v2, v3⟩ := mv_s e6
      obtain ⟨V1, V2, V3⟩ := mv_s E6
      clear e6 E6
      have hb : b = 0 ∨ b = 1 := by rcases (a.1) with h9 | h9; exact Or.inl h9; exact Or.inr h9.1
      have hB : B = 0 ∨ B = 1 := by rcases (A.1) with h9 | h9; exact Or.inl h9; exact Or.inr h9.1
      by_cases s0 : s = 0
      · have b0 : b = 0 := by rcases (a.1) with h9 | h9; exact h9; exact absurd h9.2.2.1 (by omega)
        have s10 : s1 = 0 := ((a.2.1) b0).trans s0
        have k0 : k = 0 := (n.2.2.2.2.2.2.2.2.2.1) (by omega)
        subst s10 k0 s0
        have hs2 : s2 = 0 ∨ s2 = 1 := by omega
        by_cases S0 : S = 0
        · obtain ⟨_, x1, _⟩ := (A.2.2.2.2.1) S0
          have x2 := (N.2.2.1) S0
          exact ⟨fun _ h9 => by omega, fun _ => by omega, fun h9 => by omega, fun h9 => by omega⟩
        · obtain ⟨_, _, _, y4, _⟩ := (A.2.2.2.2.2) S0 rfl
          obtain ⟨y5, y6⟩ := y4 rfl
          refine ⟨fun h9 h8 => ?_, fun h9 => ?_, fun h9 => by omega, fun h9 => by omega⟩
          · have z1 := v3 rfl h9 b0
            have z2 : H = 1 := y5.symm.trans h8
            have z3 := (r.1) rfl z2
            have z4 := y6 z2
            omega
          · have z1 : s2 = 1 := by omega
            have z2 := v2 rfl z1
            by_cases z3 : H = 1
            · have z4 := (r.1) rfl z3
              have q_N6 := N.2.2.2.2.2.1; have q_N5 := N.2.2.2.2.1; omega
            · have q_N5 := N.2.2.2.2.1; omega
      · have hss : s1 = s ∨ (s1 = 5 ∧ s = 4 ∧ K = 2) := by
          rcases (a.1) with h9 | h9
          · exact Or.inl ((a.2.1) h9)
          · exact Or.inr ⟨(a.2.2.1) h9.1, h9.2.2⟩
        refine ⟨fun h9 => ?_, fun h9 => ?_, fun h9 => ?_, fun h9 h8 => ?_⟩
        · omega
        · have z1 : s = 1 ∨ s = 2 := by omega
          have z2 := (r.2.1) z1
          have z3 : k = 0 := (n.2.2.2.2.2.2.2.2.2.1) (by omega)
          by_cases S0 : S = 0
          · exact ((A.2.2.2.2.1) S0).2.1.trans z2
          · exact (((A.2.2.2.2.2) S0 rfl).2.2.2.1 z3).1.trans z2
        · intro h8
          have z1 : s = 2 ∨ s = 3 := by omega
          have z2 : S1 = 5 := by omega
          rcases (A.1) with z3 | z3
          · have z4 : S = 5 := ((A.2.1) z3).symm.trans z2
            rcases z1 with z1 | z1
            · have z5 := (r.2.1) (Or.inr z1)
              have z6 := (N.2.2.2.1) (by omega)
              omega
            · exact (r.2.2.1) z1 z4
          · have z5 := z3.2.2.2
            rcases z1 with z1 | z1
            · have z6 := (n.2.2.2.2.2.2.2.2.2.1) (by omega)
              omega
            · have z6 := (n.2.2.2.2.2.2.2.2.2.2.1) z1
              omega
        · apply fin4 ?_ (d.2.2.2.2.2.1) (d.2.2.2.2.2.2.1) (D.2.2.2.2.2.2.2.1) (D.2.2.2.2.2.2.2.2)
          have u1 : s = 3 ∨ 4 ≤ s := by omega
          have HSS : S1 = S ∨ (S1 = 5 ∧ S = 4 ∧ k = 2) := by
            rcases (A.1) with h9 | h9
            · exact Or.inl ((A.2.1) h9)
            · exact Or.inr ⟨(A.2.2.1) h9.1, h9.2.2⟩
          have U1 : S = 3 ∨ 4 ≤ S := by omega
          have U0 : S ≠ 0 := by omega
          rcases U1 with U1 | U1
          · have z1 := (N.2.2.2.2.2.2.1) (by rw [U1]; decide)
            have z2 : k ≠ 2 := fun h9 => absurd ((A.2.2.2.2.2 U0 rfl).2.2.2.2.2.1 h9) (by rw [U1]; decide)
            have z3 := (A.2.2.2.2.2 U0 rfl).2.2.2.2.2.2.2.2.2.2 z2
            rw [z3, z1]; exact Nat.zero_le _
          · rcases u1 with u1 | u1
            · have z1 := (N.2.2.2.2.2.2.1) (r.2.2.1 u1)
              have z2 := (n.2.2.2.2.2.2.2.2.2.2.1) u1
              have z3 := (A.2.2.2.2.2 U0 rfl).2.2.2.2.2.2.2.2.2.2 (by rw [z2]; decide)
              rw [z3, z1]; exact Nat.zero_le _
            · have ya := a.2.2.2.2.2 s0 rfl
              have yA := A.2.2.2.2.2 U0 rfl
              exact mid4 (r.2.2.2 u1 U1) ya.2.2.2.2.2.2.2.1 ya.2.2.2.2.2.2.2.2.1 yA.2.2.2.2.2.2.2.2.2.1 yA.2.2.2.2.2.2.2.2.2.2
theorem room_of {s c h l q w k : Nat} {S C H L Q W K : Nat} (n : EndN s c h l q w k) (N : EndN S C H L Q W K) (r : CrN s c w k S H L Q K) (R : CrN S C W K s h l q k) : (K = 4 → s = 5 → 1 ≤ w) ∧ (K = 2 → q ≤ 25) := by
  constructor
  · intro h1 h2
    have h3 : 4 ≤ S := by have q_N10 := N.2.2.2.2.2.2.2.2.2.1; have q_N11 := N.2.2.2.2.2.2.2.2.2.2.1; omega
    obtain ⟨x1, x2, _, _⟩ := (r.2.2.2) (by omega) h3
    by_cases h4 : k = 2
    · have := x1 h1 h4; omega
    · have := x2 h1 h4; omega
  · intro h1
    have h3 : 4 ≤ S := by have q_N10 := N.2.2.2.2.2.2.2.2.2.1; have q_N11 := N.2.2.2.2.2.2.2.2.2.2.1; omega
    by_cases h5 : s = 5
    · obtain ⟨x1, _, x3, _⟩ := (R.2.2.2) h3 (by omega)
      by_cases h4 : k = 4
      · have := x1 h4 h1; have q_N9 := N.2.2.2.2.2.2.2.2.1; omega
      · have := x3 h4 h1; have q_N9 := N.2.2.2.2.2.2.2.2.1; omega
    · have := (n.2.2.2.2.2.2.1) h5; omega

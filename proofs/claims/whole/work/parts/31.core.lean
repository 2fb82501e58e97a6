/-! the program's ends by numbers: what an end keeps -/
/-- a character of a row: 0..257 -/
def ChL (L : List Int32) : Prop := ∀ c ∈ L, ∃ b : Nat, b ≤ 257 ∧ c = nI b
/-- what a sent character is: 0 nothing, 1 IDLE, 2 CREDIT, 3 a time, 4 a packet's character -/
def cls (x : Int32) (k : Nat) : Prop := (k = 0 ∧ x = -3) ∨ (k = 1 ∧ x = 259) ∨ (k = 2 ∧ x = 258) ∨ (k = 3 ∧ ∃ t : Nat, t < 64 ∧ x = nI (260 + t)) ∨ (k = 4 ∧ ∃ b : Nat, b ≤ 257 ∧ x = nI b)
/-- the rows of an end: their lengths, their characters, what is begun -/
def CoreL (g : Nat → Int32) (Li Lo : List Int32) (w : Nat) : Prop :=
  Li.length + w ≤ 25 ∧ ((w ≠ 0 ∨ g 17 ≠ 0) → Li.length + w ≤ 24) ∧ ChL Li ∧ ChL Lo ∧ Lo.length ≤ 64 ∧ (g 13 = -3 ∨ ∃ t : Nat, t < 64 ∧ g 13 = nI t) ∧ xB (g 14)
/-- the state, clock, heard, silence, loan and owed of an end, by numbers -/
def CoreS (g : Nat → Int32) (s c h l q w : Nat) : Prop :=
  (g 5 = nI s ∧ s ≤ 5) ∧ ((s = 0 ∨ s = 1 ∨ s = 3 ∨ s = 4) → g 6 = nI c) ∧ ((s = 0 → c < 6) ∧ ((s = 1 ∨ s = 3 ∨ s = 4) → c < 12)) ∧ (g 2 = nI h ∧ h ≤ 1) ∧ g 7 = nI l ∧ ((s = 0 → h = 0) ∧ (4 ≤ s → h = 1)) ∧
  (g 8 = nI q ∧ (s ≠ 5 → q = 0) ∧ q ≤ 33) ∧ (g 9 = nI w ∧ (s < 4 → w = 0)) ∧ (s ≠ 5 → g 17 = 0 ∧ g 18 = 0)
theorem n8 (a : Nat) : nI a + 8 = nI (a + 8) := nI_add a 8
theorem n1 (a : Nat) : nI a + 1 = nI (a + 1) := nI_add a 1
theorem ch_app {L : List Int32} {n : Nat} {c : Int32} {b : Nat} (h : ChL L) (hb : b ≤ 257) (hc : c = nI b) : ChL (s_Row_append n L c) := by
  unfold s_Row_append
  split
  · intro d hd
    rcases List.mem_append.mp hd with h1 | h1
    · exact h d h1
    · rw [List.mem_singleton] at h1; subst h1; exact ⟨b, hb, hc⟩
  · exact h
theorem app_len {L : List Int32} {n : Nat} {c : Int32} (h : L.length < n) : (s_Row_append n L c).length = L.length + 1 := by
  unfold s_Row_append; rw [if_pos h]; simp
theorem ch_tail {L : List Int32} (h : ChL L) : ChL L.tail := fun c hc => h c (List.mem_of_mem_tail hc)
/-- what an arrival makes of the numbers -/
def ArrT (s h l q w kx f b s1 h1 l1 q1 w1 : Nat) : Prop :=
  (b = 0 ∨ b = 1 ∧ f = 0 ∧ s = 4 ∧ kx = 2) ∧ (b = 0 → s1 = s) ∧ (b = 1 → s1 = 5) ∧ f ≤ 1 ∧ (s = 0 → f = 0 ∧ h1 = h ∧ l1 = l ∧ q1 = q ∧ w1 = w) ∧
  (s ≠ 0 → f = 0 → l1 ≤ 1 ∧ l1 ≤ h1 ∧ (h1 = 1 → h = 1 ∨ kx = 1) ∧ (kx = 0 → h1 = h ∧ (h = 1 → l = 0 ∧ l1 = 1)) ∧ (kx = 4 → s = 5) ∧ (kx = 2 → 4 ≤ s) ∧ (kx = 3 → s = 5) ∧ (kx = 4 → w1 + 1 = w) ∧ (kx ≠ 4 → w1 = w) ∧ (kx = 2 → q1 = q + 8) ∧ (kx ≠ 2 → q1 = q))

/-- what moving on makes of the numbers -/
def MovT (s c h l q w f b s2 c2 h2 l2 q2 w2 : Nat) : Prop :=
  (s2 = 0 ∧ c2 = 0 ∧ h2 = 0 ∧ l2 = 0 ∧ q2 = 0 ∧ w2 = 0) ∨ (f = 0 ∧ h2 = h ∧ l2 = l ∧ q2 = q ∧ w2 = w ∧ ((s2 = s ∧ (b = 0 → (s = 0 ∨ s = 1 ∨ s = 3 ∨ s = 4) → c2 = c + 1)) ∨ (s = 0 ∧ c = 5 ∧ s2 = 1) ∨ (s = 1 ∧ s2 = 2) ∨ (s = 2 ∧ s2 = 3) ∨ (s = 3 ∧ h = 1 ∧ s2 = 4)))
/-- what sending makes of the numbers -/
def SndT (s q w k q3 w3 : Nat) : Prop := (s < 3 → k = 0) ∧ (s = 3 → k = 1) ∧ (s = 4 → k = 1 ∨ k = 2) ∧ (s = 5 → 1 ≤ k) ∧ k ≤ 4 ∧ (k = 2 → w3 = w + 8) ∧ (k ≠ 2 → w3 = w) ∧ (k = 4 → q = q3 + 1) ∧ (k ≠ 4 → q = q3)

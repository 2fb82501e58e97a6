section
variable {st ck en au he : Nat → Int32} {e : Nat}
theorem late0 (h : st e = 0) : s_Model_late st ck en au he e = if ck e + 1 = 6 then (0, upd st e 1, upd (upd ck e (ck e + 1)) e 0) else (0, st, upd ck e (ck e + 1)) := by
  have h1 : ¬ (0 : Int32) = 1 := by decide
  have h2 : ¬ (0 : Int32) = 2 := by decide
  have h3 : ¬ (0 : Int32) = 3 := by decide
  have h4 : ¬ (0 : Int32) = 4 := by decide
  have h5 : ¬ (0 : Int32) = 5 := by decide
  have h6 : ¬ (1 : Int32) = 0 := by decide
  by_cases hc : ck e + 1 = 6
  · simp only [s_Model_late, bnd, h, pk_us, hc, h1, h2, h3, h4, h5, h6, if_true, if_false]; rfl
  · simp only [s_Model_late, bnd, h, pk_us, hc, h1, h2, h3, h4, h5, h6, if_true, if_false]
theorem late1 (h : st e = 1) : s_Model_late st ck en au he e = if ck e + 1 = 12 then (0, upd st e 2, upd (upd ck e (ck e + 1)) e 0) else (0, st, upd ck e (ck e + 1)) := by
  have h1 : ¬ (1 : Int32) = 0 := by decide
  have h2 : ¬ (1 : Int32) = 2 := by decide
  have h3 : ¬ (1 : Int32) = 3 := by decide
  have h4 : ¬ (1 : Int32) = 4 := by decide
  have h5 : ¬ (1 : Int32) = 5 := by decide
  by_cases hc : ck e + 1 = 12
  · simp only [s_Model_late, bnd, h, pk_us, hc, h1, h2, h3, h4, h5, if_true, if_false]; rfl
  · simp only [s_Model_late, bnd, h, pk_us, hc, h1, h2, h3, h4, h5, if_true, if_false]
theorem late2 (h : st e = 2) : s_Model_late st ck en au he e = if en e = 0 then (if au e = 0 then (0, st, upd ck e (ck e + 1)) else if he e = 0 then (0, st, upd ck e (ck e + 1)) else (0, upd st e 3, upd (upd ck e (ck e + 1)) e 0)) else (0, upd st e 3, upd (upd ck e (ck e + 1)) e 0) := by
  have h1 : ¬ (2 : Int32) = 0 := by decide
  have h2 : ¬ (2 : Int32) = 1 := by decide
  have h3 : ¬ (2 : Int32) = 3 := by decide
  have h4 : ¬ (2 : Int32) = 4 := by decide
  have h5 : ¬ (2 : Int32) = 5 := by decide
  have h6 : ¬ (1 : Int32) = 0 := by decide
  by_cases he0 : en e = 0
  · by_cases ha0 : au e = 0
    · simp only [s_Model_late, bnd, h, pk_us, he0, ha0, h1, h2, h3, h4, h5, h6, if_true, if_false]
    · by_cases hh0 : he e = 0
      · simp only [s_Model_late, bnd, h, pk_us, he0, ha0, hh0, h1, h2, h3, h4, h5, h6, if_true, if_false]
      · simp only [s_Model_late, bnd, h, pk_us, he0, ha0, hh0, h1, h2, h3, h4, h5, h6, if_true, if_false]; rfl
  · simp only [s_Model_late, bnd, h, pk_us, he0, h1, h2, h3, h4, h5, h6, if_true, if_false]; rfl
theorem late3 (h : st e = 3) : s_Model_late st ck en au he e = if he e = 0 then (if ck e + 1 = 12 then (1, st, upd ck e (ck e + 1)) else (0, st, upd ck e (ck e + 1))) else (0, upd st e 4, upd (upd ck e (ck e + 1)) e 0) := by
  have h1 : ¬ (3 : Int32) = 0 := by decide
  have h2 : ¬ (3 : Int32) = 1 := by decide
  have h3 : ¬ (3 : Int32) = 2 := by decide
  have h4 : ¬ (3 : Int32) = 4 := by decide
  have h5 : ¬ (3 : Int32) = 5 := by decide
  have h6 : ¬ (1 : Int32) = 0 := by decide
  by_cases hh0 : he e = 0
  · by_cases hc : ck e + 1 = 12
    · simp only [s_Model_late, bnd, h, pk_us, hh0, hc, h1, h2, h3, h4, h5, h6, if_true, if_false]
    · simp only [s_Model_late, bnd, h, pk_us, hh0, hc, h1, h2, h3, h4, h5, h6, if_true, if_false]
  · simp only [s_Model_late, bnd, h, pk_us, hh0, h1, h2, h3, h4, h5, h6, if_true, if_false]; rfl
theorem late4 (h : st e = 4) : s_Model_late st ck en au he e = if ck e + 1 = 12 then (1, st, upd ck e (ck e + 1)) else (0, st, upd ck e (ck e + 1)) := by
  have h1 : ¬ (4 : Int32) = 0 := by decide
  have h2 : ¬ (4 : Int32) = 1 := by decide
  have h3 : ¬ (4 : Int32) = 2 := by decide
  have h4 : ¬ (4 : Int32) = 3 := by decide
  have h5 : ¬ (4 : Int32) = 5 := by decide
  by_cases hc : ck e + 1 = 12
  · simp only [s_Model_late, bnd, h, pk_us, hc, h1, h2, h3, h4, h5, if_true, if_false]
  · simp only [s_Model_late, bnd, h, pk_us, hc, h1, h2, h3, h4, h5, if_true, if_false]
theorem late5 (h : st e = 5) : s_Model_late st ck en au he e = if en e = 0 then (if au e = 0 then (1, st, upd ck e (ck e + 1)) else (0, st, upd ck e (ck e + 1))) else (0, st, upd ck e (ck e + 1)) := by
  have h1 : ¬ (5 : Int32) = 0 := by decide
  have h2 : ¬ (5 : Int32) = 1 := by decide
  have h3 : ¬ (5 : Int32) = 2 := by decide
  have h4 : ¬ (5 : Int32) = 3 := by decide
  have h5 : ¬ (5 : Int32) = 4 := by decide
  have h6 : ¬ (1 : Int32) = 0 := by decide
  by_cases he0 : en e = 0
  · by_cases ha0 : au e = 0
    · simp only [s_Model_late, bnd, h, pk_us, he0, ha0, h1, h2, h3, h4, h5, h6, if_true, if_false]
    · simp only [s_Model_late, bnd, h, pk_us, he0, ha0, h1, h2, h3, h4, h5, h6, if_true, if_false]
  · simp only [s_Model_late, bnd, h, pk_us, he0, h1, h2, h3, h4, h5, h6, if_true, if_false]
end
section
variable {st ck he qu lo ow fl : Nat → Int32} {e : Nat}
theorem brk_tie : ∀ (n : Nat) (L : List Int32) (th : Nat → Int32) (Ls : Nat → List Int32), n ≤ 64 → L.length = n → Ls (2 * e) = L → ∃ th1 Ls1, lp_fall st ck he qu lo ow fl e n th Ls = s_Model_fall_124 st ck he qu lo ow fl e th1 Ls1 ∧ th1 e = (lp_breakOff n n (th e) L).2.1 ∧ Ls1 (2 * e) = (lp_breakOff n n (th e) L).2.2 ∧ (∀ j, j ≠ e → th1 j = th j) ∧ (∀ j, j ≠ 2 * e → Ls1 j = Ls j) := by
  intro n
  induction n with
  | zero =>
    intro L th Ls hn hL h
    refine ⟨th, Ls, ?_, rfl, h, fun _ _ => rfl, fun _ _ => rfl⟩
    unfold lp_fall
    split <;> rfl
  | succ n ih =>
    intro L th Ls hn hL h
    cases L with
    | nil => simp at hL
    | cons d L =>
      simp only [lp_fall, lp_breakOff]
      have h0 : ¬ nI (n + 1) ≤ 0 := nI_nle (by omega) (by omega)
      rw [if_neg h0]
      by_cases ht : th e = 0
      · rw [if_pos ht, if_pos ht]
        exact ⟨th, Ls, rfl, rfl, h, fun _ _ => rfl, fun _ _ => rfl⟩
      · rw [if_neg ht, if_neg ht, h, hL, if_neg h0]
        simp only [s_Model_remove, s_Row_removeFirst, bnd2, bnd, h, List.headD_cons, List.tail_cons, Nat.add_sub_cancel]
        have hd : (if 256 ≤ d then (0 : Int32) else 1) = s_MemoryLink_isData d := rfl
        rw [hd]
        obtain ⟨th1, Ls1, k1, k2, k3, k4, k5⟩ := ih L (upd th e (s_MemoryLink_isData d)) (va_up Ls (2 * e) L) (by omega) (by simpa using hL) (va_up_self _ _ _)
        rw [pk_us] at k2 k3
        exact ⟨th1, Ls1, k1, k2, k3, fun j hj => (k4 j hj).trans (pk_un hj), fun j hj => (k5 j hj).trans (va_up_ne _ _ hj)⟩
end

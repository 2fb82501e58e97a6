section
variable {fp pk : Nat → Int32} {kp : Nat}
theorem at_eq (h : ∀ i, i < kp → i < 40 → fp i = pk i) (hk : kp < 1048576) {i : Nat} (h1 : i < kp) (h2 : i < 40) : s_Packet_at 40 fp kp (nI i) = pk i := (at_g h1 h2 (by omega) (by decide)).trans (h i h1 h2)
theorem chk_eq (h : ∀ i, i < kp → i < 40 → fp i = pk i) (hb : BF pk) (hk : kp < 1048576) {fr ln : Nat} (h1 : fr + ln ≤ kp) (h2 : fr + ln ≤ 40) : s_Packet_check 40 fp kp fr ln = s_Model_checkOf pk fr ln := by
  rw [chkC (d := fun j => pk (fr + j)) (by omega) (fun j hj => ⟨at_eq h hk (by omega) (by omega), hb _⟩), chkM (d := fun j => pk (fr + j)) (by omega) (fun j hj => rfl)]
theorem dst_eq (h : ∀ i, i < kp → i < 40 → fp i = pk i) (hb : BF pk) (hk : kp < 1048576) (h8 : 8 < kp) {ln : Nat} (hl : ln ≤ 16) : s_Target_judgeData fp kp ln = s_Model_dataStatus pk kp ln := by
  have hd : nI kp - 9 = nI (kp - 9) := pk_sub (a := kp) (b := 9) (by omega)
  simp only [s_Target_judgeData, s_Model_dataStatus, s_Target_dataCount, bnd, hd]
  by_cases h1 : nI (ln + 1) ≤ nI (kp - 9)
  · have h1n := (nI_leI (a := ln + 1) (b := kp - 9) (by omega) (by omega)).mp h1
    rw [if_pos h1, if_pos h1]
    by_cases h2 : nI (kp - 9) ≤ nI (ln + 1)
    · have h2n := (nI_leI (a := kp - 9) (b := ln + 1) (by omega) (by omega)).mp h2
      have h3 : nI (kp - 9) = nI (ln + 1) := by rw [show kp - 9 = ln + 1 by omega]
      rw [if_pos h2, if_pos h3, at_eq h hk (i := 9 + ln) (by omega) (by omega), chk_eq h hb hk (by omega) (by omega)]
      by_cases h4 : pk (9 + ln) = s_Model_checkOf pk 9 ln
      · rw [if_pos h4, if_pos h4, if_neg (by decide)]
      · rw [if_neg h4, if_neg h4, if_pos rfl]
    · have h3 : ¬ nI (kp - 9) = nI (ln + 1) := fun h9 => h2 (by rw [h9]; exact Int32.le_refl _)
      rw [if_neg h2, if_neg h3]
  · have h3 : ¬ nI (kp - 9) = nI (ln + 1) := fun h9 => h1 (by rw [h9]; exact Int32.le_refl _)
    rw [if_neg h1, if_neg h3, if_neg h1]
theorem lt32 {x : Int32} : x < 32 ↔ x ≤ 31 := by
  rw [Int32.lt_iff_toInt_lt, Int32.le_iff_toInt_le]
  have h1 : (32 : Int32).toInt = 32 := rfl
  have h2 : (31 : Int32).toInt = 31 := rfl
  rw [h1, h2]; omega
theorem has_hs (m : Int32) : s_Model_has pk m = hs (pk 2) m := rfl
theorem j151_eq (h : ∀ i, i < kp → i < 40 → fp i = pk i) (hb : BF pk) (hk : kp < 1048576) (h8 : 8 < kp) {n : Nat} (hn : pk 7 = nI n) (hl : n ≤ 16) (hkn : ¬ kno (pk 2) = 0) :
    (if s_Target_lastAddress fp kp (pk 2) < 32 then (if s_Target_isRead (pk 2) = 0 then s_Target_judgeData fp kp n else 0) else (10 : Int32)) = s_Model_judge_151 pk kp n (chg (pk 2)) := by
  obtain ⟨x, hx, ex⟩ := hb 2
  have a6 : s_Packet_at 40 fp kp 6 = pk 6 := at_eq h hk (i := 6) (by omega) (by omega)
  have a7 : s_Packet_at 40 fp kp 7 = pk 7 := at_eq h hk (i := 7) (by omega) (by omega)
  obtain ⟨f1, f2, f3⟩ := kn_2 x hx (by rw [← ex]; exact hkn)
  rw [← ex] at f1 f2 f3
  -- the last address
  have hdiv : nI n / 2 = nI (n / 2) := pk_div (a := n) (d := 2) (by omega) (by decide) (by decide)
  have hmax : ∀ m : Nat, m ≤ 16 → (pk 6 + (if nI m < 1 then 1 else nI m)) - 1 = if nI m ≤ 0 then pk 6 else pk 6 + nI m - 1 := by
    intro m hm
    by_cases hm0 : m = 0
    · subst hm0
      rw [if_pos (by decide), if_pos (by decide)]
      exact Int32.add_sub_cancel _ _
    · have l1 : ¬ nI m < 1 := nI_nlt (b := 1) (by omega) (by omega)
      rw [if_neg l1, if_neg (nI_nle (by omega) (by omega))]
  have hlast : (if (pk 2 &&& 4) = 0 then pk 6 else (pk 6 + (if (if chg (pk 2) = 0 then nI n else nI n / 2) < 1 then 1 else (if chg (pk 2) = 0 then nI n else nI n / 2))) - 1) = (if hs (pk 2) 4 = 0 then pk 6 else (if (if chg (pk 2) = 0 then nI n else nI n / 2) ≤ 0 then pk 6 else (pk 6 + (if chg (pk 2) = 0 then nI n else nI n / 2)) - 1)) := by
    by_cases h4 : (pk 2 &&& 4) = 0
    · have h4b : hs (pk 2) 4 = 0 := if_pos h4
      rw [if_pos h4, if_pos h4b]
    · have h4b : ¬ hs (pk 2) 4 = 0 := by unfold hs; rw [if_neg h4]; decide
      rw [if_neg h4, if_neg h4b]
      by_cases hc : chg (pk 2) = 0
      · rw [if_pos hc]; exact hmax n hl
      · rw [if_neg hc, hdiv]; exact hmax (n / 2) (by omega)
  have hm : s_Model_judge_151 pk kp n (chg (pk 2)) = if (if hs (pk 2) 4 = 0 then pk 6 else (if (if chg (pk 2) = 0 then nI n else nI n / 2) ≤ 0 then pk 6 else (pk 6 + (if chg (pk 2) = 0 then nI n else nI n / 2)) - 1)) ≤ 31 then (if hs (pk 2) 32 = 0 then (if chg (pk 2) = 0 then 0 else s_Model_dataStatus pk kp n) else s_Model_dataStatus pk kp n) else 10 := rfl
  have hla : s_Target_lastAddress fp kp (pk 2) = (if hs (pk 2) 4 = 0 then pk 6 else (if (if chg (pk 2) = 0 then nI n else nI n / 2) ≤ 0 then pk 6 else (pk 6 + (if chg (pk 2) = 0 then nI n else nI n / 2)) - 1)) := by
    have hr : s_Target_reach fp kp (pk 2) = (if chg (pk 2) = 0 then nI n else nI n / 2) := by
      simp only [s_Target_reach, bnd]; rw [f1, a7, hn]
    unfold s_Target_lastAddress; rw [a6, hr]; exact hlast
  rw [hm, hla, f2, dst_eq h hb hk h8 hl]
  by_cases hA : (if hs (pk 2) 4 = 0 then pk 6 else (if (if chg (pk 2) = 0 then nI n else nI n / 2) ≤ 0 then pk 6 else (pk 6 + (if chg (pk 2) = 0 then nI n else nI n / 2)) - 1)) < 32
  · rw [if_pos hA, if_pos (lt32.mp hA)]
    by_cases h32 : hs (pk 2) 32 = 0
    · rw [if_pos h32, if_pos h32]
      by_cases hc : chg (pk 2) = 0
      · rw [if_pos hc, if_pos hc, if_neg (by decide)]
      · rw [if_neg hc, if_neg hc, if_pos rfl]
    · rw [if_neg h32, if_neg h32, if_pos rfl]
  · rw [if_neg hA, if_neg (fun h9 => hA (lt32.mpr h9))]
theorem judge_tie (h : ∀ i, i < kp → i < 40 → fp i = pk i) (hb : BF pk) (hk : kp < 1048576) (h8 : 8 < kp) : s_Target_judge fp kp = s_Model_judge pk kp := by
  obtain ⟨x, hx, ex⟩ := hb 2
  obtain ⟨n, hn, en⟩ := hb 7
  have a2 : s_Packet_at 40 fp kp 2 = pk 2 := at_eq h hk (i := 2) (by omega) (by omega)
  have a3 : s_Packet_at 40 fp kp 3 = pk 3 := at_eq h hk (i := 3) (by omega) (by omega)
  have a7 : s_Packet_at 40 fp kp 7 = pk 7 := at_eq h hk (i := 7) (by omega) (by omega)
  obtain ⟨f1, f2, f3⟩ := kn_1 x hx
  rw [← ex] at f1 f2 f3
  have hcl : (pk 7).toNatClampNeg = n := by rw [en]; exact nI_clamp (by omega)
  have hm : s_Model_judge pk kp = if kno (pk 2) = 0 then (2) else (if (pk 3) = 32 then (if 16 < (nI n) then (11) else (if chg (pk 2) = 0 then (s_Model_judge_151 pk kp n (chg (pk 2))) else (if (nI n) = 0 then (11) else (if 8 < (nI n) then (11) else (if ((nI n) - (nI n) / 2 * 2) = 1 then (11) else (s_Model_judge_151 pk kp n (chg (pk 2)))))))) else (3)) := by
    unfold s_Model_judge
    rw [hcl]
    rfl
  have hc : s_Target_judge fp kp = if kno (pk 2) = 0 then (2) else (if (pk 3) = 32 then (if 16 < (nI n) then (11) else (if (s_Target_isChange (pk 2)) = 0 then (if s_Target_lastAddress fp kp (pk 2) < 32 then (if s_Target_isRead (pk 2) = 0 then s_Target_judgeData fp kp n else 0) else (10 : Int32)) else (if (s_Target_isChangeLength (nI n)) = 0 then (11) else (if s_Target_lastAddress fp kp (pk 2) < 32 then (if s_Target_isRead (pk 2) = 0 then s_Target_judgeData fp kp n else 0) else (10 : Int32))))) else (3)) := by
    simp only [s_Target_judge, bnd]
    rw [a2, a3, a7, hcl, f1]
  rw [hm, hc]
  by_cases hkn : kno (pk 2) = 0
  · rw [if_pos hkn, if_pos hkn]
  · rw [if_neg hkn, if_neg hkn]
    by_cases h3 : pk 3 = 32
    · rw [if_pos h3, if_pos h3]
      by_cases h16 : 16 < nI n
      · rw [if_pos h16, if_pos h16]
      · have hl : n ≤ 16 := Nat.le_of_not_lt fun h9 => h16 (nI_lt (a := 16) h9 (by omega))
        rw [if_neg h16, if_neg h16]
        obtain ⟨g1, g2, g3⟩ := kn_2 x hx (by rw [← ex]; exact hkn)
        rw [← ex] at g1
        rw [g1, j151_eq h hb hk h8 en hl hkn]
        by_cases hch : chg (pk 2) = 0
        · rw [if_pos hch, if_pos hch]
        · rw [if_neg hch, if_neg hch, kn_3 n (by omega)]
          by_cases n0 : nI n = 0
          · rw [if_pos n0, if_pos rfl, if_pos n0]
          · rw [if_neg n0, if_neg n0]
            by_cases n8 : 8 < nI n
            · rw [if_pos n8, if_pos rfl, if_pos n8]
            · rw [if_neg n8, if_neg n8]
              by_cases n2 : nI n - nI n / 2 * 2 = 1
              · rw [if_pos n2, if_pos rfl, if_pos n2]
              · rw [if_neg n2, if_neg (by decide), if_neg n2]
    · rw [if_neg h3, if_neg h3]
end
def JV (y : Int32) : Prop := y = 0 ∨ y = 2 ∨ y = 3 ∨ y = 4 ∨ y = 5 ∨ y = 6 ∨ y = 10 ∨ y = 11
theorem judge_vals {pk : Nat → Int32} {kc : Nat} : JV (s_Model_judge pk kc) := by
  have v0 : JV 0 := Or.inl rfl
  have v2 : JV 2 := Or.inr (Or.inl rfl)
  have v3 : JV 3 := Or.inr (Or.inr (Or.inl rfl))
  have v4 : JV 4 := Or.inr (Or.inr (Or.inr (Or.inl rfl)))
  have v5 : JV 5 := Or.inr (Or.inr (Or.inr (Or.inr (Or.inl rfl))))
  have v6 : JV 6 := Or.inr (Or.inr (Or.inr (Or.inr (Or.inr (Or.inl rfl)))))
  have v10 : JV 10 := Or.inr (Or.inr (Or.inr (Or.inr (Or.inr (Or.inr (Or.inl rfl))))))
  have v11 : JV 11 := Or.inr (Or.inr (Or.inr (Or.inr (Or.inr (Or.inr (Or.inr rfl))))))
  have hd : ∀ ln, JV (s_Model_dataStatus pk kc ln) := by
    intro ln
    simp only [s_Model_dataStatus, bnd]
    exact xite (P := JV) (xite (P := JV) v0 v4) (xite (P := JV) v6 v5)
  have hj : ∀ ln y3, JV (s_Model_judge_151 pk kc ln y3) := by
    intro ln y3
    simp only [s_Model_judge_151, bnd]
    exact xite (P := JV) (xite (P := JV) (xite (P := JV) v0 (hd _)) (hd _)) v10
  simp only [s_Model_judge, bnd]
  exact xite (P := JV) v2 (xite (P := JV) (xite (P := JV) v11 (xite (P := JV) (hj _ _) (xite (P := JV) v11 (xite (P := JV) v11 (xite (P := JV) v11 (hj _ _)))))) v3)
theorem mayW {su X : Int32} (h : JV su) : s_Target_mayWrite su X = if su = 0 then (1) else (if su < 4 then (0) else (if 6 < su then (0) else (if hs X 16 = 0 then (1) else (0)))) := by
  have h0 : (if hs X 16 = 0 then (1 : Int32) else 0) = if (X &&& 16) = 0 then 1 else 0 := by
    unfold hs
    by_cases h16 : (X &&& 16) = 0
    · rw [if_pos h16, if_pos rfl, if_pos h16]
    · rw [if_neg h16, if_neg (show ¬ (1 : Int32) = 0 by decide), if_neg h16]
  rw [h0]
  simp only [s_Target_mayWrite, bnd]
  rcases h with rfl | rfl | rfl | rfl | rfl | rfl | rfl | rfl <;> rfl

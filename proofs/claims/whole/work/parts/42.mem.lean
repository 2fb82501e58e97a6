/-- the two memories: the same bytes -/
def MR (me mm : Nat → Int32) : Prop := ∀ i, i < 32 → me i = mm i ∧ By (mm i)
theorem MR_upd {me mm : Nat → Int32} {a : Nat} {x y : Int32} (h : MR me mm) (hxy : x = y) (hy : By y) : MR (upd me a x) (upd mm a y) := by
  subst hxy
  intro i hi
  by_cases hia : i = a
  · subst hia; rw [pk_us, pk_us]; exact ⟨rfl, hy⟩
  · rw [pk_un hia, pk_un hia]; exact h i hi
theorem store_in {me : Nat → Int32} {a : Nat} {v : Int32} (ha : a < 32) : s_Target_store me (nI a) v = upd me a v := by
  unfold s_Target_store
  have h32 : ¬ (32 : Int32) ≤ nI a := nI_ge (b := 32) ha (by decide)
  rw [if_neg (nI_pos (by omega)), if_neg h32, nI_clamp (by omega)]
theorem byteAt_in {me : Nat → Int32} {a : Nat} (ha : a < 32) : s_Target_byteAt me (nI a) = me a := by
  simp only [s_Target_byteAt, bnd]
  have h32 : ¬ (32 : Int32) ≤ nI a := nI_ge (b := 32) ha (by decide)
  rw [if_neg (nI_pos (by omega)), if_neg h32, nI_clamp (by omega)]
section
variable {fp pk : Nat → Int32} {kp : Nat}
theorem adr_eq (h : ∀ i, i < kp → i < 40 → fp i = pk i) (hk : kp < 1048576) (h8 : 8 < kp) (x : Int32) : s_Target_addressOf fp kp x = s_Model_addressOf pk x := by
  have a2 : s_Packet_at 40 fp kp 2 = pk 2 := at_eq h hk (i := 2) (by omega) (by omega)
  have a6 : s_Packet_at 40 fp kp 6 = pk 6 := at_eq h hk (i := 6) (by omega) (by omega)
  simp only [s_Target_addressOf, s_Model_addressOf, bnd]
  rw [a2, a6]
  by_cases h4 : (pk 2 &&& 4) = 0
  · have h4b : s_Model_has pk 4 = 0 := if_pos h4
    rw [if_pos h4, if_pos h4b]
  · have h4b : ¬ s_Model_has pk 4 = 0 := by show ¬ (if (pk 2 &&& 4) = 0 then (0 : Int32) else 1) = 0; rw [if_neg h4]; decide
    rw [if_neg h4, if_neg h4b]
theorem mwrite0 {wq : Int32} : ∀ (n j : Nat) (mm : Nat → Int32), lp_mwrite pk 0 wq n j mm = mm := by
  intro n j mm
  cases n with
  | zero => rfl
  | succ n => unfold lp_mwrite; rw [if_pos (show (0 : Int32) = 0 from rfl), ite_self]
theorem write_loop (h : ∀ i, i < kp → i < 40 → fp i = pk i) (hb : BF pk) (hk : kp < 1048576) (h8 : 8 < kp) {gs : Int32} (hgs : ¬ gs = 0) {m : Nat} (hm1 : m ≤ kp - 9) (hm2 : m ≤ 31) (ha : ∀ j, j < m → ∃ a : Nat, a < 32 ∧ s_Model_addressOf pk (nI j) = nI a) :
    ∀ (n j : Nat) (me mm : Nat → Int32), j + n = m → MR me mm → MR (lp_writeData fp kp (nI m) n j me) (lp_mwrite pk gs (nI m) n j mm) := by
  intro n
  induction n with
  | zero => intro j me mm _ hM; exact hM
  | succ n ih =>
    intro j me mm hj hM
    unfold lp_writeData lp_mwrite
    obtain ⟨a, ha1, ha2⟩ := ha j (by omega)
    have hn : ¬ nI m ≤ nI j := nI_ge (by omega) (by omega)
    rw [if_neg hn, if_neg hn, if_neg hgs]
    simp only [bnd]
    rw [adr_eq h hk h8, ha2, store_in ha1, nI_clamp (by omega), at_eq h hk (by omega) (by omega)]
    exact ih (j + 1) _ _ (by omega) (MR_upd hM rfl (hb _))
theorem write_tie (h : ∀ i, i < kp → i < 40 → fp i = pk i) (hb : BF pk) (hk : kp < 1048576) (h8 : 8 < kp) (h32 : ¬ s_Model_has pk 32 = 0) {me mm : Nat → Int32} (hM : MR me mm) :
    MR (if s_Target_mayWrite (s_Model_judge pk kp) (pk 2) = 0 then me else s_Target_writeData me fp kp) (s_Model_writeData mm pk kp (s_Model_judge pk kp)) := by
  have hmay := mayW (su := s_Model_judge pk kp) (X := pk 2) judge_vals
  have hw : s_Model_writeData mm pk kp (s_Model_judge pk kp) = lp_mwrite pk (s_Target_mayWrite (s_Model_judge pk kp) (pk 2)) (if ((nI kp) - 9) ≤ (pk 7) then ((nI kp) - 9) else (pk 7)) ((if ((nI kp) - 9) ≤ (pk 7) then ((nI kp) - 9) else (pk 7)).toNatClampNeg - 0) 0 mm := by
    rw [hmay]; rfl
  rw [hw]
  by_cases hg : s_Target_mayWrite (s_Model_judge pk kp) (pk 2) = 0
  · rw [if_pos hg, hg, mwrite0]; exact hM
  · rw [if_neg hg]
    have hsu := goes_su hmay hg
    have hjf := jf_w (kc := kp) hb h32 hsu
    obtain ⟨n, hn, en⟩ := hb 7
    have hd : nI kp - 9 = nI (kp - 9) := pk_sub (a := kp) (b := 9) (by omega)
    have a7 : s_Packet_at 40 fp kp 7 = pk 7 := at_eq h hk (i := 7) (by omega) (by omega)
    have hcl : (pk 7).toNatClampNeg = n := by rw [en]; exact nI_clamp (by omega)
    rw [hcl] at hjf
    have hc : s_Target_writeData me fp kp = lp_writeData fp kp (if (nI kp - 9) < (s_Packet_at 40 fp kp 7) then (nI kp - 9) else (s_Packet_at 40 fp kp 7)) ((if (nI kp - 9) < (s_Packet_at 40 fp kp 7) then (nI kp - 9) else (s_Packet_at 40 fp kp 7)).toNatClampNeg - 0) 0 me := rfl
    rw [hc, a7, hd, en]
    have w1 : (if nI (kp - 9) < nI n then nI (kp - 9) else nI n) = nI (min (kp - 9) n) := by
      by_cases hl : kp - 9 < n
      · rw [if_pos (nI_lt hl (by omega)), Nat.min_eq_left (by omega)]
      · rw [if_neg (nI_nlt (by omega) (by omega)), Nat.min_eq_right (by omega)]
    have w2 : (if nI (kp - 9) ≤ nI n then nI (kp - 9) else nI n) = nI (min (kp - 9) n) := by
      by_cases hl : kp - 9 ≤ n
      · rw [if_pos (nI_le hl (by omega)), Nat.min_eq_left hl]
      · rw [if_neg (nI_ge (by omega) (by omega)), Nat.min_eq_right (by omega)]
    rw [w1, w2, nI_clamp (by omega)]
    refine write_loop h hb hk h8 hg (m := min (kp - 9) n) (by omega) ?_ (fun j hj => (hjf j (by omega)).1) _ 0 me mm (by omega) hM
    by_cases hm0 : min (kp - 9) n = 0
    · omega
    · have := (hjf (min (kp - 9) n - 1) (by omega)).2; omega
/-- the bytes that an answer takes out of the memory -/
theorem fill_loop (h : ∀ i, i < kp → i < 40 → fp i = pk i) (hk : kp < 1048576) (h8 : 8 < kp) {me mm : Nat → Int32} (hM : MR me mm) {m : Nat} (hm : m ≤ 16) (ha : ∀ j, j < m → ∃ a : Nat, a < 32 ∧ s_Model_addressOf pk (nI j) = nI a) :
    ∀ (n j : Nat) (fa : Nat → Int32), j + n = m → (lp_fillAnswer me fp kp (nI m) n j fa j).2 = m ∧ (∀ i, i < j → (lp_fillAnswer me fp kp (nI m) n j fa j).1 i = fa i) ∧ ∀ i, j ≤ i → i < m → (lp_fillAnswer me fp kp (nI m) n j fa j).1 i = mm ((s_Model_addressOf pk (nI i)).toNatClampNeg) := by
  intro n
  induction n with
  | zero => intro j fa hj; exact ⟨by show j = m; omega, fun i _ => rfl, fun i h1 h2 => by omega⟩
  | succ n ih =>
    intro j fa hj
    obtain ⟨a, ha1, ha2⟩ := ha j (by omega)
    have hn : ¬ nI m ≤ nI j := nI_ge (by omega) (by omega)
    have hn2 : ¬ nI 16 ≤ nI j := nI_ge (by omega) (by decide)
    have hs1 : lp_fillAnswer me fp kp (nI m) (n + 1) j fa j = lp_fillAnswer me fp kp (nI m) n (j + 1) (upd fa j (me a)) (j + 1) := by
      rw [lp_fillAnswer, if_neg hn, adr_eq h hk h8, ha2, byteAt_in ha1]
      simp only [s_Packet_add]
      rw [if_neg hn2]
      rfl
    rw [hs1]
    obtain ⟨i1, i2, i3⟩ := ih (j + 1) (upd fa j (me a)) (by omega)
    refine ⟨i1, fun i hi => (i2 i (by omega)).trans (pk_un (by omega)), fun i h1 h2 => ?_⟩
    by_cases hij : i = j
    · subst hij
      rw [i2 i (by omega), pk_us, ha2, nI_clamp (by omega)]
      exact (hM a ha1).1
    · exact i3 i (by omega) h2
theorem and255 : ∀ v : Nat, v < 256 → (nI v &&& 255) = nI v ∧ (255 &&& (nI v ^^^ (-1))) = 255 - nI v ∧ 255 - nI v = nI (255 - v) := by decide +kernel
theorem andB {x y : Int32} (hx : By x) (hy : By y) : By (x &&& y) := by
  obtain ⟨a, ha, rfl⟩ := hx
  obtain ⟨b, hb, rfl⟩ := hy
  have hl : a &&& b < 256 := Nat.lt_of_le_of_lt Nat.and_le_left ha
  refine ⟨a &&& b, hl, ?_⟩
  apply Int32.toBitVec_inj.mp
  apply BitVec.eq_of_toNat_eq
  rw [Int32.toBitVec_and, BitVec.toNat_and, pk_tn (by omega), pk_tn (by omega), pk_tn (by omega)]
theorem orB {x y : Int32} (hx : By x) (hy : By y) : By (x ||| y) := by
  obtain ⟨a, ha, rfl⟩ := hx
  obtain ⟨b, hb, rfl⟩ := hy
  have hl : a ||| b < 256 := Nat.or_lt_two_pow (n := 8) ha hb
  refine ⟨a ||| b, hl, ?_⟩
  apply Int32.toBitVec_inj.mp
  apply BitVec.eq_of_toNat_eq
  rw [Int32.toBitVec_or, BitVec.toNat_or, pk_tn (by omega), pk_tn (by omega), pk_tn (by omega)]
theorem mask_eq {v m : Int32} (hv : By v) (hm : By m) : (v &&& (m ^^^ (-1))) = v &&& (255 - m) ∧ By (v &&& (255 - m)) := by
  have hv0 := hv
  obtain ⟨a, ha, rfl⟩ := hv
  obtain ⟨b, hb, rfl⟩ := hm
  obtain ⟨q1, _, _⟩ := and255 a ha
  obtain ⟨_, q2, q3⟩ := and255 b hb
  refine ⟨?_, andB hv0 ⟨255 - b, by omega, q3⟩⟩
  have e1 : (nI a &&& (nI b ^^^ (-1))) = ((nI a &&& 255) &&& (nI b ^^^ (-1))) := by rw [q1]
  rw [e1, Int32.and_assoc, q2]
theorem change_loop (h : ∀ i, i < kp → i < 40 → fp i = pk i) (hb : BF pk) (hk : kp < 1048576) {m : Nat} (hm : m ≤ 8) (hkp : 9 + m + m < kp) {fa : Nat → Int32} {mm0 : Nat → Int32} (h4 : ∀ x, s_Target_addressOf fp kp x = pk 6 + x) (ha : ∀ j, j < m → ∃ a : Nat, a < 32 ∧ pk 6 + nI j = nI a)
    (hfa : ∀ j, j < m → fa j = mm0 ((pk 6 + nI j).toNatClampNeg)) (h0 : ∀ i, i < 32 → By (mm0 i)) :
    ∀ (n j : Nat) (me mm : Nat → Int32), j + n = m → MR me mm → (∀ i, j ≤ i → i < m → mm ((pk 6 + nI i).toNatClampNeg) = mm0 ((pk 6 + nI i).toNatClampNeg)) → MR (lp_changeBytes fp kp fa m n j me) (lp_mchange pk m n j mm) := by
  intro n
  induction n with
  | zero => intro j me mm _ hM _; exact hM
  | succ n ih =>
    intro j me mm hj hM hsame
    unfold lp_changeBytes lp_mchange
    obtain ⟨a, ha1, ha2⟩ := ha j (by omega)
    have hn : ¬ nI m ≤ nI j := nI_ge (by omega) (by omega)
    rw [if_neg hn, if_neg hn]
    simp only [bnd]
    have hv : fa j = mm a := by rw [hfa j (by omega), ← hsame j (by omega) (by omega), ha2, nI_clamp (by omega)]
    have hmk := mask_eq (v := mm a) (m := pk (9 + m + j)) (hM a ha1).2 (hb _)
    rw [h4, ha2, store_in ha1, nI_clamp (by omega), at_eq h hk (by omega) (by omega), at_eq h hk (i := 9 + m + j) (by omega) (by omega), at_g (n := 16) (by omega) (by omega) (by omega) (by decide), hv, hmk.1]
    refine ih (j + 1) _ _ (by omega) (MR_upd hM rfl (orB (andB (hb _) (hb _)) hmk.2)) (fun i h1 h2 => ?_)
    obtain ⟨c, hc1, hc2⟩ := ha i h2
    have hne : c ≠ a := by
      intro h9
      rw [h9, ← ha2] at hc2
      have e9 : nI i = nI j := by
        have := congrArg (fun z => z - pk 6) hc2
        simp only [Int32.add_comm (pk 6), Int32.add_sub_cancel] at this
        exact this
      have := (nI_eq (by omega) (by omega)).mp e9
      omega
    rw [hc2, nI_clamp (by omega), pk_un hne]
    have := hsame i (by omega) h2
    rw [hc2, nI_clamp (by omega)] at this
    exact this
end

/-- the first n characters are the same, and bytes -/
def EqB (n : Nat) (f g : Nat → Int32) : Prop := ∀ i, i < n → f i = g i ∧ By (g i)
theorem EqB_upd {n : Nat} {f g : Nat → Int32} {x y : Int32} (h : EqB n f g) (hxy : x = y) (hy : By y) : EqB (n + 1) (upd f n x) (upd g n y) := by
  subst hxy
  intro i hi
  by_cases hin : i = n
  · subst hin; rw [pk_us, pk_us]; exact ⟨rfl, hy⟩
  · rw [pk_un hin, pk_un hin]; exact h i (by omega)
theorem add_lt {n k : Nat} {f : Nat → Int32} {c : Int32} (h : k < n) (hn : n < 1048576) : s_Packet_add n f k c = (upd f k c, k + 1) := by
  unfold s_Packet_add; rw [if_neg (nI_ge h (by omega))]
theorem chk_self {n k : Nat} {f g : Nat → Int32} (h : EqB k f g) (hk : k ≤ n) (hn : n < 1048576) : s_Packet_check n f k 0 k = crc g k 0 0 := by
  refine chkC (d := g) (by omega) (fun j hj => ?_)
  rw [at_g (by omega) (by omega) (by omega) (by omega), Nat.zero_add]
  exact h j hj
theorem bnd2_add {α : Type} {k : Nat} {f : Nat → Int32} {c : Int32} {K : (Nat → Int32) → Nat → α} (h : k < 40) : bnd2 (s_Packet_add 40 f k c) K = K (upd f k c) (k + 1) := by
  rw [add_lt h (by decide)]; rfl
theorem bnd2_say {α : Type} {k : Nat} {f : Nat → Int32} {c : Int32} {K : (Nat → Int32) → Nat → α} : bnd2 (s_Model_say f k c) K = K (upd f k c) (k + 1) := rfl
theorem By_n {n : Nat} (h : n < 256) : By (nI n) := ⟨n, h, rfl⟩
/-- the head of a reply: six characters, or seven with the length, and their check -/
theorem ans_loop {mm pk : Nat → Int32} {kc : Nat} {cm y4 : Int32} {fa : Nat → Int32} {m : Nat} (hm : m ≤ 16) (hfa : ∀ i, i < m → fa i = mm ((s_Model_addressOf pk (nI i)).toNatClampNeg) ∧ By (fa i)) :
    ∀ (n j : Nat) (fr re : Nat → Int32), j + n = m → EqB (8 + j) fr re → (∀ i, i < j → re (8 + i) = fa i) →
    ∃ f3 re', lp_composeAnswer fa m n j fr (8 + j) = (f3, 9 + m) ∧ lp_obey mm pk kc cm y4 (nI m) n j re (8 + j) = s_Model_obey_206 mm pk kc cm y4 (nI m) re' (10 + m) ∧ EqB (9 + m) f3 re' ∧ re' (9 + m) = 256 := by
  have hend : ∀ (fr re : Nat → Int32), EqB (8 + m) fr re → (∀ i, i < m → re (8 + i) = fa i) → ∃ f3 re' : Nat → Int32, s_Packet_add 40 fr (8 + m) (s_Packet_check 16 fa m 0 m) = (f3, 9 + m) ∧ (bnd2 (s_Model_sayCheck re (8 + m) 8) (fun re27 kq27 => bnd2 (s_Model_say re27 kq27 256) (fun re28 kq28 => s_Model_obey_206 mm pk kc cm y4 (nI m) re28 kq28))) = s_Model_obey_206 mm pk kc cm y4 (nI m) re' (10 + m) ∧ EqB (9 + m) f3 re' ∧ re' (9 + m) = 256 := by
    intro fr re hE hR
    have hfb : EqB m fa fa := fun i hi => ⟨rfl, (hfa i hi).2⟩
    have hb : By (crc fa m 0 0) := crcB m 0 0 By0 (fun i _ h2 => (hfa i (by omega)).2)
    have hck := chkS (d := fa) (fr := 8) (kq := 8 + m) (re := re) (by omega) (by omega) (fun j hj => hR j (by omega))
    rw [show 8 + m - 8 = m by omega] at hck
    rw [chk_self hfb (by omega) (by decide), add_lt (by omega) (by decide), hck]
    refine ⟨upd fr (8 + m) (crc fa m 0 0), upd (upd re (8 + m) (crc fa m 0 0)) (9 + m) 256, by rw [show 8 + m + 1 = 9 + m by omega], ?_, ?_, pk_us⟩
    · simp only [bnd2, s_Model_say]
      rw [show 8 + m + 1 = 9 + m by omega, show 9 + m + 1 = 10 + m by omega]
    · have hE2 := EqB_upd hE (x := crc fa m 0 0) rfl hb
      rw [show 8 + m + 1 = 9 + m by omega] at hE2
      intro i hi
      rw [pk_un (f := upd re (8 + m) (crc fa m 0 0)) (by omega : i ≠ 9 + m)]
      exact hE2 i hi
  intro n
  induction n with
  | zero =>
    intro j fr re hj hE hR
    have hjm : j = m := by omega
    subst hjm
    exact hend fr re hE hR
  | succ n ih =>
    intro j fr re hj hE hR
    have hn : ¬ nI m ≤ nI j := nI_ge (by omega) (by omega)
    have ha := hfa j (by omega)
    have h1 : lp_composeAnswer fa m (n + 1) j fr (8 + j) = lp_composeAnswer fa m n (j + 1) (upd fr (8 + j) (fa j)) (8 + (j + 1)) := by
      rw [lp_composeAnswer, if_neg hn, at_g (n := 16) (by omega) (by omega) (by omega) (by decide), add_lt (by omega) (by decide)]
      rfl
    have h2 : lp_obey mm pk kc cm y4 (nI m) (n + 1) j re (8 + j) = lp_obey mm pk kc cm y4 (nI m) n (j + 1) (upd re (8 + j) (fa j)) (8 + (j + 1)) := by
      rw [lp_obey, if_neg hn, ← ha.1]
      rfl
    rw [h1, h2]
    refine ih (j + 1) _ _ (by omega) (EqB_upd hE rfl ha.2) (fun i hi => ?_)
    by_cases hij : i = j
    · subst hij; exact pk_us
    · rw [pk_un (by omega)]; exact hR i (by omega)
section
variable {fp pk : Nat → Int32} {kp : Nat}
theorem tail_r {mm f6 r6 fa : Nat → Int32} {m : Nat} {cm y4 : Int32} (hm : m ≤ 16) (hfa : ∀ i, i < m → fa i = mm ((s_Model_addressOf pk (nI i)).toNatClampNeg) ∧ By (fa i)) (E6 : EqB 6 f6 r6) :
    ∃ fr' re' : Nat → Int32, ∃ k : Nat, bnd2 (s_Packet_add 40 f6 6 (nI m)) (fun f19 k19 => bnd2 (s_Packet_add 40 f19 k19 (s_Packet_check 40 f19 k19 0 k19)) (fun f21 k21 => bnd2 (s_Target_composeAnswer fa m f21 k21) (fun fr25 kr25 => bnd2 (s_Packet_add 40 fr25 kr25 256) (fun f26 k26 => (f26, k26))))) = (fr', k) ∧ 0 < k ∧ k ≤ 40 ∧ (∀ i, i < k → fr' i = re' i ∧ ∃ b : Nat, b ≤ 257 ∧ re' i = nI b) ∧
      bnd2 (s_Model_say r6 6 (nI m)) (fun re23 kq23 => bnd2 (s_Model_sayCheck re23 kq23 0) (fun re24 kq24 => lp_obey mm pk kp cm y4 (nI m) ((nI m).toNatClampNeg - 0) 0 re24 kq24)) = s_Model_obey_206 mm pk kp cm y4 (nI m) re' k := by
  have E7 : EqB 7 (upd f6 6 (nI m)) (upd r6 6 (nI m)) := EqB_upd E6 (x := nI m) rfl (By_n (by omega))
  rw [bnd2_add (k := 6) (by decide), bnd2_say]
  generalize upd f6 6 (nI m) = f7 at E7 ⊢
  generalize upd r6 6 (nI m) = r7 at E7 ⊢
  have hck : s_Model_sayCheck r7 7 0 = (upd r7 7 (crc r7 7 0 0), 8) := chkS (d := r7) (fr := 0) (kq := 7) (re := r7) (by decide) (by decide) (fun j hj => congrArg r7 (Nat.zero_add j))
  have hb7 : By (crc r7 7 0 0) := crcB 7 0 0 By0 (fun i _ h2 => (E7 i (by omega)).2)
  have hcc : s_Packet_check 40 f7 7 0 7 = crc r7 7 0 0 := chk_self E7 (by decide) (by decide)
  have e7 : (6 : Nat) + 1 = 7 := rfl
  rw [e7, hcc, hck]
  generalize crc r7 7 0 0 = c7 at hb7 ⊢
  have E8 : EqB (8 + 0) (upd f7 7 c7) (upd r7 7 c7) := EqB_upd E7 (x := c7) rfl hb7
  rw [bnd2_add (k := 7) (by decide)]
  obtain ⟨f3, re', c1, c2, c3, c4⟩ := ans_loop (kc := kp) (cm := cm) (y4 := y4) hm hfa m 0 _ _ (by omega) E8 (fun i hi => absurd hi (by omega))
  have hcl : (nI m).toNatClampNeg - 0 = m := by rw [nI_clamp (by omega)]; omega
  refine ⟨upd f3 (9 + m) 256, re', 10 + m, ?_, by omega, by omega, ?_, ?_⟩
  · have e8 : s_Target_composeAnswer fa m (upd f7 7 c7) (7 + 1) = (f3, 9 + m) := c1
    rw [bnd2_eq e8.symm, bnd2_add (by omega), show 9 + m + 1 = 10 + m by omega]
  · intro i hi
    by_cases hi9 : i = 9 + m
    · subst hi9; rw [pk_us, c4]; exact ⟨rfl, 256, by decide, rfl⟩
    · rw [pk_un hi9]
      obtain ⟨d1, b, d2, d3⟩ := c3 i (by omega)
      exact ⟨d1, b, by omega, d3⟩
  · rw [hcl]
    exact c2
theorem tail_w {mm f6 r6 : Nat → Int32} {an cm y4 : Int32} (E6 : EqB 6 f6 r6) :
    ∃ fr' re' : Nat → Int32, ∃ k : Nat, bnd2 (s_Packet_add 40 f6 6 (s_Packet_check 40 f6 6 0 6)) (fun f13 k13 => bnd2 (s_Packet_add 40 f13 k13 256) (fun f16 k16 => (f16, k16))) = (fr', k) ∧ 0 < k ∧ k ≤ 40 ∧ (∀ i, i < k → fr' i = re' i ∧ ∃ b : Nat, b ≤ 257 ∧ re' i = nI b) ∧
      bnd2 (s_Model_sayCheck r6 6 0) (fun re20 kq20 => bnd2 (s_Model_say re20 kq20 256) (fun re22 kq22 => s_Model_obey_206 mm pk kp cm y4 an re22 kq22)) = s_Model_obey_206 mm pk kp cm y4 an re' k := by
  have hck : s_Model_sayCheck r6 6 0 = (upd r6 6 (crc r6 6 0 0), 7) := chkS (d := r6) (fr := 0) (kq := 6) (re := r6) (by decide) (by decide) (fun j hj => congrArg r6 (Nat.zero_add j))
  have hb6 : By (crc r6 6 0 0) := crcB 6 0 0 By0 (fun i _ h2 => (E6 i (by omega)).2)
  have hcc : s_Packet_check 40 f6 6 0 6 = crc r6 6 0 0 := chk_self E6 (by decide) (by decide)
  rw [hcc, hck]
  generalize crc r6 6 0 0 = c6 at hb6 ⊢
  have E7 : EqB 7 (upd f6 6 c6) (upd r6 6 c6) := EqB_upd E6 (x := c6) rfl hb6
  rw [bnd2_add (k := 6) (by decide), bnd2_add (k := 6 + 1) (by decide)]
  refine ⟨upd (upd f6 6 c6) 7 256, upd (upd r6 6 c6) 7 256, 8, rfl, by omega, by omega, ?_, rfl⟩
  intro i hi
  by_cases hi7 : i = 7
  · subst hi7; rw [pk_us, pk_us]; exact ⟨rfl, 256, by decide, rfl⟩
  · rw [pk_un hi7, pk_un hi7]
    obtain ⟨d1, b, d2, d3⟩ := E7 i (by omega)
    exact ⟨d1, b, by omega, d3⟩
/-- a reply, as the program composes it and as the reference says it -/
theorem reply_tie (h : ∀ i, i < kp → i < 40 → fp i = pk i) (hb : BF pk) (hk : kp < 1048576) (h8 : 8 < kp) {mm fa fr re : Nat → Int32} {kr m : Nat} {cm y4 J : Int32} (hJ : JV J) (hm : m ≤ 16) (hfa : ∀ i, i < m → fa i = mm ((s_Model_addressOf pk (nI i)).toNatClampNeg) ∧ By (fa i)) (hw : ¬ s_Model_has pk 32 = 0 → m = 0) :
    ∃ fr' re' : Nat → Int32, ∃ k : Nat, s_Target_composeReply fp kp fa m fr kr J (pk 2) = (fr', k) ∧ 0 < k ∧ k ≤ 40 ∧ (∀ i, i < k → fr' i = re' i ∧ ∃ b : Nat, b ≤ 257 ∧ re' i = nI b) ∧
      bnd2 (s_Model_say re 0 67) (fun re13 kq13 => bnd2 (s_Model_say re13 kq13 1) (fun re14 kq14 => bnd2 (s_Model_say re14 kq14 ((pk 2) &&& 191)) (fun re15 kq15 => bnd2 (s_Model_say re15 kq15 J) (fun re16 kq16 => bnd2 (s_Model_say re16 kq16 (pk 4)) (fun re17 kq17 => bnd2 (s_Model_say re17 kq17 (pk 5)) (fun re18 kq18 => if (s_Model_has pk 32) = 0 then (bnd2 (s_Model_say re18 kq18 (nI m)) (fun re23 kq23 => bnd2 (s_Model_sayCheck re23 kq23 0) (fun re24 kq24 => lp_obey mm pk kp cm y4 (nI m) ((nI m).toNatClampNeg - 0) 0 re24 kq24))) else (bnd2 (s_Model_sayCheck re18 kq18 0) (fun re20 kq20 => bnd2 (s_Model_say re20 kq20 256) (fun re22 kq22 => s_Model_obey_206 mm pk kp cm y4 (nI m) re22 kq22)))))))))
      = s_Model_obey_206 mm pk kp cm y4 (nI m) re' k := by
  obtain ⟨x, hx, ex⟩ := hb 2
  obtain ⟨q1, q2, q3, q4, q5⟩ := kn_1 x hx
  rw [← ex] at q1 q2 q3 q4 q5
  have a4 : s_Packet_at 40 fp kp 4 = pk 4 := at_eq h hk (i := 4) (by omega) (by omega)
  have a5 : s_Packet_at 40 fp kp 5 = pk 5 := at_eq h hk (i := 5) (by omega) (by omega)
  have bJ : By J := by
    rcases hJ with rfl | rfl | rfl | rfl | rfl | rfl | rfl | rfl
    · exact By_n (n := 0) (by decide)
    · exact By_n (n := 2) (by decide)
    · exact By_n (n := 3) (by decide)
    · exact By_n (n := 4) (by decide)
    · exact By_n (n := 5) (by decide)
    · exact By_n (n := 6) (by decide)
    · exact By_n (n := 10) (by decide)
    · exact By_n (n := 11) (by decide)
  have E0 : EqB 0 fr re := fun i hi => absurd hi (by omega)
  have E1 := EqB_upd E0 (x := 67) rfl (By_n (n := 67) (by decide))
  have E2 := EqB_upd E1 (x := 1) rfl (By_n (n := 1) (by decide))
  have E3 := EqB_upd E2 q3 ⟨_, q5, q4⟩
  have E4 := EqB_upd E3 (x := J) rfl bJ
  have E5 := EqB_upd E4 (x := pk 4) rfl (hb 4)
  have E6 := EqB_upd E5 (x := pk 5) rfl (hb 5)
  unfold s_Target_composeReply s_Packet_clear
  rw [q2, a4, a5, bnd_eq (u := 0) rfl, bnd2_add (k := 0) (by decide), bnd2_add (k := 0 + 1) (by decide), bnd2_add (k := 0 + 1 + 1) (by decide), bnd2_add (k := 0 + 1 + 1 + 1) (by decide), bnd2_add (k := 0 + 1 + 1 + 1 + 1) (by decide), bnd2_add (k := 0 + 1 + 1 + 1 + 1 + 1) (by decide)]
  rw [bnd2_say, bnd2_say, bnd2_say, bnd2_say, bnd2_say, bnd2_say]
  generalize upd (upd (upd (upd (upd (upd fr 0 67) (0 + 1) 1) (0 + 1 + 1) (pk 2 &&& -65)) (0 + 1 + 1 + 1) J) (0 + 1 + 1 + 1 + 1) (pk 4)) (0 + 1 + 1 + 1 + 1 + 1) (pk 5) = f6 at E6 ⊢
  generalize upd (upd (upd (upd (upd (upd re 0 67) (0 + 1) 1) (0 + 1 + 1) (pk 2 &&& 191)) (0 + 1 + 1 + 1) J) (0 + 1 + 1 + 1 + 1) (pk 4)) (0 + 1 + 1 + 1 + 1 + 1) (pk 5) = r6 at E6 ⊢
  by_cases h32 : s_Model_has pk 32 = 0
  · have h32b : hs (pk 2) 32 = 0 := h32
    have hif : ∀ (A B : (Nat → Int32) × Nat), (if hs (pk 2) 32 = 0 then A else B) = A := fun A B => if_pos h32b
    rw [if_pos h32]
    simp only [hif]
    exact tail_r hm hfa E6
  · have h32b : ¬ hs (pk 2) 32 = 0 := h32
    have hif : ∀ (A B : (Nat → Int32) × Nat), (if hs (pk 2) 32 = 0 then A else B) = B := fun A B => if_neg h32b
    rw [if_neg h32]
    simp only [hif]
    exact tail_w E6
end

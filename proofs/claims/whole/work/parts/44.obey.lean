section
variable {fp pk : Nat → Int32} {kp : Nat}
/-- what an obeyed command leaves: the memories, the numbers, the reply -/
def ObT (me' mm' fr fr' re' : Nat → Int32) (kr ka' kr' kq' : Nat) (tw' tc' cm' tl' su' : Int32) : Prop :=
  MR me' mm' ∧ tc' = cm' ∧ tl' = su' ∧ ka' ≤ 16 ∧ ((tw' = 0 ∧ kq' = 0 ∧ fr' = fr ∧ kr' = kr) ∨ (tw' = 1 ∧ kr' = kq' ∧ 0 < kq' ∧ kq' ≤ 40 ∧ ∀ i, i < kq' → fr' i = re' i ∧ ∃ b : Nat, b ≤ 257 ∧ re' i = nI b))
/-- the end of obeying: a reply if the command asks for one -/
theorem o79_tie (h : ∀ i, i < kp → i < 40 → fp i = pk i) (hb : BF pk) (hk : kp < 1048576) (h8 : 8 < kp) {me1 mm mm1 fa fr re : Nat → Int32} {kr m : Nat} {tc cm y4 J : Int32} (hJ : JV J) (hm : m ≤ 16) (hfa : ∀ i, i < m → fa i = mm ((s_Model_addressOf pk (nI i)).toNatClampNeg) ∧ By (fa i)) (hw : ¬ s_Model_has pk 32 = 0 → m = 0) (htc : tc = cm)
    (hM : MR me1 mm1) (hJ2 : J = s_Model_judge pk kp) (h206 : ∀ re1 kq1, s_Model_obey_206 mm pk kp cm y4 (nI m) re1 kq1 = (mm1, cm + 1, J, re1, kq1))
    {me' fa' fr' mm' re' : Nat → Int32} {ka' kr' kq' : Nat} {tw' tc' tl' cm' su' : Int32}
    (e1 : (me', fa', ka', fr', kr', tw', tc', tl') = s_Target_obey_79 fp kp fr kr 0 (pk 2) me1 fa m (tc + 1) J)
    (e2 : (mm', cm', su', re', kq') = if (s_Model_has pk 8) = 0 then (s_Model_obey_206 mm pk kp cm y4 (nI m) re 0) else (bnd2 (s_Model_say re 0 67) (fun re13 kq13 => bnd2 (s_Model_say re13 kq13 1) (fun re14 kq14 => bnd2 (s_Model_say re14 kq14 ((pk 2) &&& 191)) (fun re15 kq15 => bnd2 (s_Model_say re15 kq15 J) (fun re16 kq16 => bnd2 (s_Model_say re16 kq16 (pk 4)) (fun re17 kq17 => bnd2 (s_Model_say re17 kq17 (pk 5)) (fun re18 kq18 => if (s_Model_has pk 32) = 0 then (bnd2 (s_Model_say re18 kq18 (nI m)) (fun re23 kq23 => bnd2 (s_Model_sayCheck re23 kq23 0) (fun re24 kq24 => lp_obey mm pk kp cm y4 (nI m) ((nI m).toNatClampNeg - 0) 0 re24 kq24))) else (bnd2 (s_Model_sayCheck re18 kq18 0) (fun re20 kq20 => bnd2 (s_Model_say re20 kq20 256) (fun re22 kq22 => s_Model_obey_206 mm pk kp cm y4 (nI m) re22 kq22))))))))))) :
    ObT me' mm' fr fr' re' kr ka' kr' kq' tw' tc' cm' tl' su' := by
  subst htc
  unfold s_Target_obey_79 at e1
  by_cases h88 : (pk 2 &&& 8) = 0
  · have h88b : s_Model_has pk 8 = 0 := if_pos h88
    rw [if_pos h88] at e1
    rw [if_pos h88b, h206] at e2
    simp only [Prod.mk.injEq] at e1 e2
    obtain ⟨rfl, rfl, rfl, rfl, rfl, rfl, rfl, rfl⟩ := e1
    obtain ⟨rfl, rfl, rfl, rfl, rfl⟩ := e2
    exact ⟨hM, rfl, rfl, hm, Or.inl ⟨rfl, rfl, rfl, rfl⟩⟩
  · have h88b : ¬ s_Model_has pk 8 = 0 := by show ¬ (if (pk 2 &&& 8) = 0 then (0 : Int32) else 1) = 0; rw [if_neg h88]; decide
    rw [if_neg h88] at e1
    rw [if_neg h88b] at e2
    obtain ⟨f9, r9, k, c1, c2, c3, c4, c5⟩ := reply_tie h hb hk h8 (mm := mm) (fa := fa) (fr := fr) (re := re) (kr := kr) (cm := tc) (y4 := y4) hJ hm hfa hw
    rw [c5, h206] at e2
    rw [bnd2_eq c1.symm] at e1
    simp only [Prod.mk.injEq] at e1 e2
    obtain ⟨rfl, rfl, rfl, rfl, rfl, rfl, rfl, rfl⟩ := e1
    obtain ⟨rfl, rfl, rfl, rfl, rfl⟩ := e2
    exact ⟨hM, rfl, rfl, hm, Or.inr ⟨rfl, rfl, c2, c3, c4⟩⟩
theorem kno_of {pk : Nat → Int32} {kc : Nat} (hj : s_Model_judge pk kc = 0) : ¬ kno (pk 2) = 0 := by
  intro h9
  have : s_Model_judge pk kc = 2 := by
    have hm : s_Model_judge pk kc = if kno (pk 2) = 0 then (2) else (if (pk 3) = 32 then (if 16 < (nI (pk 7).toNatClampNeg) then (11) else (if chg (pk 2) = 0 then (s_Model_judge_151 pk kc (pk 7).toNatClampNeg (chg (pk 2))) else (if (nI (pk 7).toNatClampNeg) = 0 then (11) else (if 8 < (nI (pk 7).toNatClampNeg) then (11) else (if ((nI (pk 7).toNatClampNeg) - (nI (pk 7).toNatClampNeg) / 2 * 2) = 1 then (11) else (s_Model_judge_151 pk kc (pk 7).toNatClampNeg (chg (pk 2)))))))) else (3)) := rfl
    rw [hm, if_pos h9]
  rw [hj] at this
  exact absurd this (by decide)
/-- a change that is judged well came with all its data -/
theorem chg_len {pk : Nat → Int32} {kc : Nat} (hb : BF pk) (hk : kc < 1048576) (h8 : 8 < kc) (hj : s_Model_judge pk kc = 0) (hc : ¬ chg (pk 2) = 0) : kc = (pk 7).toNatClampNeg + 10 := by
  obtain ⟨n, hn, en⟩ := hb 7
  obtain ⟨x, hx, ex⟩ := hb 2
  have hkn := kno_of hj
  have hcl : (pk 7).toNatClampNeg = n := by rw [en]; exact nI_clamp (by omega)
  have h32 := ((kn_2 x hx (by rw [← ex]; exact hkn)).2.2 (by rw [← ex]; exact hc)).2
  rw [← ex] at h32
  have hm : s_Model_judge pk kc = if kno (pk 2) = 0 then (2) else (if (pk 3) = 32 then (if 16 < (nI (pk 7).toNatClampNeg) then (11) else (if chg (pk 2) = 0 then (s_Model_judge_151 pk kc (pk 7).toNatClampNeg (chg (pk 2))) else (if (nI (pk 7).toNatClampNeg) = 0 then (11) else (if 8 < (nI (pk 7).toNatClampNeg) then (11) else (if ((nI (pk 7).toNatClampNeg) - (nI (pk 7).toNatClampNeg) / 2 * 2) = 1 then (11) else (s_Model_judge_151 pk kc (pk 7).toNatClampNeg (chg (pk 2)))))))) else (3)) := rfl
  rw [hcl] at hm ⊢
  rw [hj, if_neg hkn, if_neg hc] at hm
  have key : s_Model_judge_151 pk kc n (chg (pk 2)) = 0 := by
    by_cases q1 : pk 3 = 32
    · rw [if_pos q1] at hm
      by_cases q2 : 16 < nI n
      · rw [if_pos q2] at hm; exact absurd hm (by decide)
      · rw [if_neg q2] at hm
        by_cases q3 : nI n = 0
        · rw [if_pos q3] at hm; exact absurd hm (by decide)
        · rw [if_neg q3] at hm
          by_cases q4 : 8 < nI n
          · rw [if_pos q4] at hm; exact absurd hm (by decide)
          · rw [if_neg q4] at hm
            by_cases q5 : nI n - nI n / 2 * 2 = 1
            · rw [if_pos q5] at hm; exact absurd hm (by decide)
            · rw [if_neg q5] at hm; exact hm.symm
    · rw [if_neg q1] at hm; exact absurd hm (by decide)
  have hd : s_Model_dataStatus pk kc n = 0 := by
    have h32b : s_Model_has pk 32 = 0 := h32
    unfold s_Model_judge_151 at key
    simp only [bnd] at key
    rw [if_pos h32b, if_neg hc, if_neg hc] at key
    have hz : ∀ z : Int32, (if z ≤ 31 then s_Model_dataStatus pk kc n else 10) = 0 → s_Model_dataStatus pk kc n = 0 := by
      intro z hz
      by_cases hz1 : z ≤ 31
      · rw [if_pos hz1] at hz; exact hz
      · rw [if_neg hz1] at hz; exact absurd hz (by decide)
    exact hz _ key
  have hs9 : nI kc - 9 = nI (kc - 9) := pk_sub (a := kc) (b := 9) (by omega)
  unfold s_Model_dataStatus at hd
  rw [hs9] at hd
  by_cases q : nI (kc - 9) = nI (n + 1)
  · have := (nI_eq (by omega) (by omega)).mp q
    omega
  · rw [if_neg q] at hd
    simp only [bnd] at hd
    split at hd
    · exact absurd hd (by decide)
    · exact absurd hd (by decide)
theorem obey_tie (h : ∀ i, i < kp → i < 40 → fp i = pk i) (hb : BF pk) (hk : kp < 1048576) (h8 : 8 < kp) {me mm fa fr re : Nat → Int32} {ka kr : Nat} {tc cm tl : Int32} (htc : tc = cm) (hM : MR me mm)
    {me' fa' fr' mm' re' : Nat → Int32} {ka' kr' kq' : Nat} {tw' tc' tl' cm' su' : Int32}
    (e1 : (me', fa', ka', fr', kr', tw', tc', tl') = s_Target_obey me fp kp fa ka fr kr 0 tc tl) (e2 : (mm', cm', su', re', kq') = s_Model_obey mm pk kp cm re 0) :
    ObT me' mm' fr fr' re' kr ka' kr' kq' tw' tc' cm' tl' su' := by
  obtain ⟨x, hx, ex⟩ := hb 2
  obtain ⟨n, hn, en⟩ := hb 7
  obtain ⟨q1, q2, q3, q4, q5⟩ := kn_1 x hx
  rw [← ex] at q1 q2
  have a2 : s_Packet_at 40 fp kp 2 = pk 2 := at_eq h hk (i := 2) (by omega) (by omega)
  have a7 : s_Packet_at 40 fp kp 7 = pk 7 := at_eq h hk (i := 7) (by omega) (by omega)
  have hj := judge_tie h hb hk h8
  have hJ : JV (s_Model_judge pk kp) := judge_vals
  unfold s_Target_obey s_Packet_clear at e1
  rw [bnd_eq (u := 0) rfl, a2, hj, q2] at e1
  have hchg : (if (s_Model_has pk 32) = 0 then (if (s_Model_has pk 16) = 0 then (0 : Int32) else (1)) else (0)) = chg (pk 2) := rfl
  unfold s_Model_obey at e2
  rw [hchg, bnd_eq (u := chg (pk 2)) rfl] at e2
  have hdiv : nI n / 2 = nI (n / 2) := pk_div (a := n) (d := 2) (by omega) (by decide) (by decide)
  by_cases h32 : s_Model_has pk 32 = 0
  · have h32b : hs (pk 2) 32 = 0 := h32
    rw [if_pos h32b] at e1
    by_cases hj0 : s_Model_judge pk kp = 0
    · have hkn := kno_of hj0
      obtain ⟨g1, g2, g3⟩ := kn_2 x hx (by rw [← ex]; exact hkn)
      rw [← ex] at g1 g2 g3
      -- the answer's length
      have han : ∃ m : Nat, (if (s_Model_has pk 32) = 0 then (if (s_Model_judge pk kp) = 0 then (if chg (pk 2) = 0 then (pk 7) else ((pk 7) / 2)) else (0)) else (0)) = nI m ∧ m ≤ n ∧ (¬ chg (pk 2) = 0 → m = n / 2) := by
        rw [if_pos h32, if_pos hj0, en, hdiv]
        by_cases hc : chg (pk 2) = 0
        · exact ⟨n, if_pos hc, Nat.le_refl _, fun h9 => absurd hc h9⟩
        · exact ⟨n / 2, if_neg hc, by omega, fun _ => rfl⟩
      obtain ⟨m, hm, hmn, hm2⟩ := han
      obtain ⟨_, f2, f3, f4⟩ := jf_an (pk := pk) (kc := kp) (ch := chg (pk 2)) (an := nI m) hb rfl hm.symm
      rw [nI_clamp (by omega)] at f2 f3 f4
      rw [bnd_eq hm.symm, bnd_eq (u := nI m) rfl] at e2
      rw [if_pos hj0, g1] at e1
      have hr : s_Target_reach fp kp (pk 2) = nI m := by
        simp only [s_Target_reach, bnd]
        rw [g1, a7, ← hm, if_pos h32, if_pos hj0]
      have hfl : s_Target_fillAnswer me fp kp fa 0 (pk 2) = lp_fillAnswer me fp kp (nI m) m 0 fa 0 := by
        simp only [s_Target_fillAnswer, bnd]
        rw [hr, nI_clamp (by omega)]
        rfl
      obtain ⟨w1, w2, w3⟩ := fill_loop h hk h8 hM f2 f3 m 0 fa (by omega)
      rw [hfl] at e1
      generalize lp_fillAnswer me fp kp (nI m) m 0 fa 0 = FA at e1 w1 w2 w3
      obtain ⟨fa9, ka9⟩ := FA
      dsimp only at w1 w2 w3
      subst w1
      rw [bnd2_eq (a := fa9) (b := ka9) rfl] at e1
      have hfa : ∀ i, i < ka9 → fa9 i = mm ((s_Model_addressOf pk (nI i)).toNatClampNeg) ∧ By (fa9 i) := by
        intro i hi
        obtain ⟨a, ha1, ha2⟩ := f3 i hi
        have e9 := w3 i (by omega) hi
        refine ⟨e9, ?_⟩
        rw [e9, ha2, nI_clamp (by omega)]
        exact (hM a ha1).2
      by_cases hc : chg (pk 2) = 0
      · rw [if_pos hc] at e1
        refine o79_tie h hb hk h8 hJ f2 hfa (fun h9 => absurd h32 h9) htc (mm1 := mm) hM rfl ?_ e1 e2
        intro re1 kq1
        unfold s_Model_obey_206
        rw [if_pos h32, if_pos hc]
      · rw [if_neg hc] at e1
        obtain ⟨g4, _⟩ := g3 hc
        obtain ⟨f5, f6⟩ := f4 hc
        have hlen := chg_len hb hk h8 hj0 hc
        rw [en, nI_clamp (by omega)] at hlen
        have hmm := hm2 hc
        have h4 : ∀ z, s_Target_addressOf fp kp z = pk 6 + z := by
          intro z
          rw [adr_eq h hk h8]
          simp only [s_Model_addressOf, bnd]
          have h4b : ¬ s_Model_has pk 4 = 0 := g4
          rw [if_neg h4b]
        have hadr : ∀ z, s_Model_addressOf pk z = pk 6 + z := fun z => (adr_eq h hk h8 z).symm.trans (h4 z)
        have hM2 := change_loop h hb hk (m := ka9) f5 (by omega) (fa := fa9) (mm0 := mm) h4 f6 (fun j hj => by rw [(hfa j hj).1, hadr]) (fun i hi => (hM i hi).2) ka9 0 me mm (by omega) hM (fun i _ _ => rfl)
        rw [bnd_eq (u := s_Target_changeBytes me fp kp fa9 ka9) rfl] at e1
        refine o79_tie h hb hk h8 hJ f2 hfa (fun h9 => absurd h32 h9) htc (mm1 := lp_mchange pk ka9 ka9 0 mm) hM2 rfl ?_ e1 e2
        intro re1 kq1
        unfold s_Model_obey_206
        rw [if_pos h32, if_neg hc]
        simp only [bnd]
        rw [nI_clamp (by omega)]
        rfl
    · rw [if_neg hj0] at e1
      have hm : (if (s_Model_has pk 32) = 0 then (if (s_Model_judge pk kp) = 0 then (if chg (pk 2) = 0 then (pk 7) else ((pk 7) / 2)) else (0)) else (0)) = nI 0 := by rw [if_pos h32, if_neg hj0]; rfl
      rw [bnd_eq hm.symm, bnd_eq (u := nI 0) rfl] at e2
      refine o79_tie h hb hk h8 hJ (m := 0) (by omega) (fun i hi => absurd hi (by omega)) (fun h9 => absurd h32 h9) htc (mm1 := mm) hM rfl ?_ e1 e2
      intro re1 kq1
      unfold s_Model_obey_206
      rw [if_pos h32]
      by_cases hc : chg (pk 2) = 0
      · rw [if_pos hc]
      · rw [if_neg hc]; rfl
  · have h32b : ¬ hs (pk 2) 32 = 0 := h32
    rw [if_neg h32b] at e1
    have hm : (if (s_Model_has pk 32) = 0 then (if (s_Model_judge pk kp) = 0 then (if chg (pk 2) = 0 then (pk 7) else ((pk 7) / 2)) else (0)) else (0)) = nI 0 := by rw [if_neg h32]; rfl
    rw [bnd_eq hm.symm, bnd_eq (u := nI 0) rfl] at e2
    have hW := write_tie h hb hk h8 h32 hM
    have h206 : ∀ re1 kq1, s_Model_obey_206 mm pk kp cm (chg (pk 2)) (nI 0) re1 kq1 = (s_Model_writeData mm pk kp (s_Model_judge pk kp), cm + 1, s_Model_judge pk kp, re1, kq1) := by
      intro re1 kq1
      unfold s_Model_obey_206
      rw [if_neg h32]
      rfl
    by_cases hg : s_Target_mayWrite (s_Model_judge pk kp) (pk 2) = 0
    · rw [if_pos hg] at e1 hW
      exact o79_tie h hb hk h8 hJ (m := 0) (by omega) (fun i hi => absurd hi (by omega)) (fun _ => rfl) htc (mm1 := s_Model_writeData mm pk kp (s_Model_judge pk kp)) hW rfl h206 e1 e2
    · rw [if_neg hg] at e1 hW
      rw [bnd_eq (u := s_Target_writeData me fp kp) rfl] at e1
      exact o79_tie h hb hk h8 hJ (m := 0) (by omega) (fun i hi => absurd hi (by omega)) (fun _ => rfl) htc (mm1 := s_Model_writeData mm pk kp (s_Model_judge pk kp)) hW rfl h206 e1 e2
end

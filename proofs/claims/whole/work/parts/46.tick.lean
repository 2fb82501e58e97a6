/-- one end of the program, by its numbers -/
def EndI (g : Nat → Int32) (Li Lo : List Int32) (s c h l q w k : Nat) : Prop := CoreS g s c h l q w ∧ CoreL g Li Lo w ∧ l ≤ h ∧ cls (g 15) k ∧ ((s < 3 → k = 0) ∧ (s = 3 → k = 1) ∧ (s = 4 → k = 1 ∨ k = 2) ∧ (s = 5 → 1 ≤ k) ∧ k ≤ 4)
theorem endN {g : Nat → Int32} {Li Lo : List Int32} {s c h l q w k : Nat} (hE : EndI g Li Lo s c h l q w k) : EndN s c h l q w k := by
  obtain ⟨⟨A, B, C, D, E, F, G, H, I⟩, ⟨L1, _⟩, hl, _, k1, k2, k3, k4, k5⟩ := hE
  exact ⟨A.2, C.1, F.1, F.2, D.2, hl, G.2.1, H.2, by omega, k1, k2, k3, k4, k5⟩
/-- both ends of the program, and what binds them -/
def Pair (gn : Nat → Int32) (Lin Lon : List Int32) (gf : Nat → Int32) (Lif Lof : List Int32) : Prop :=
  ∃ s c h l q w k S C H L Q W K : Nat, EndI gn Lin Lon s c h l q w k ∧ EndI gf Lif Lof S C H L Q W K ∧ CrN s c w k S H L Q K ∧ CrN S C W K s h l q k
/-- the program's state and the reference's -/
def Rel (gn : Nat → Int32) (Lin : List Int32) (Lon : List Int32) (gf : Nat → Int32) (Lif : List Int32) (Lof : List Int32) (me : Nat → Int32) (fp : Nat → Int32) (kp : Nat) (fa : Nat → Int32) (ka : Nat) (fr : Nat → Int32) (kr : Nat) (tw : Int32) (tc : Int32) (tl : Int32) (on : Int32) (fd : Nat → Int32) (kd : Nat) (stM : Nat → Int32) (ckM : Nat → Int32) (enM : Nat → Int32) (auM : Nat → Int32) (heM : Nat → Int32) (quM : Nat → Int32) (loM : Nat → Int32) (owM : Nat → Int32) (flM : Nat → Int32) (tiM : Nat → Int32) (gdM : Nat → Int32) (akM : Nat → Int32) (spM : Nat → Int32) (seM : Nat → Int32) (sdM : Nat → Int32) (opM : Nat → Int32) (thM : Nat → Int32) (meM : Nat → Int32) (pkM : Nat → Int32) (reM : Nat → Int32) (LsM : Nat → List Int32) (tgM : Int32) (kcM : Nat) (cmM : Int32) (suM : Int32) (kqM : Nat) (drM : Nat → Int32) (T : Nat) : Prop :=
  Pair gn Lin Lon gf Lif Lof ∧ (RE gn Lin Lon stM enM auM heM loM owM flM tiM gdM akM spM seM sdM opM thM LsM 0 ∧ ckM 0 = gn 6 ∧ quM 0 = gn 7) ∧ (RE gf Lif Lof stM enM auM heM loM owM flM tiM gdM akM spM seM sdM opM thM LsM 1 ∧ ckM 1 = gf 6 ∧ quM 1 = gf 7) ∧
  RT me fp fr kp ka kr tw tc tl meM pkM reM kcM kqM cmM suM T ∧ on = tgM
theorem RE_fr {st : Nat → Int32} {en : Nat → Int32} {au : Nat → Int32} {he : Nat → Int32} {lo : Nat → Int32} {ow : Nat → Int32} {fl : Nat → Int32} {ti : Nat → Int32} {gd : Nat → Int32} {ak : Nat → Int32} {sp : Nat → Int32} {se : Nat → Int32} {sd : Nat → Int32} {op : Nat → Int32} {th : Nat → Int32} {Ls : Nat → List Int32} {st' : Nat → Int32} {he' : Nat → Int32} {lo' : Nat → Int32} {ow' : Nat → Int32} {fl' : Nat → Int32} {ti' : Nat → Int32} {gd' : Nat → Int32} {ak' : Nat → Int32} {sp' : Nat → Int32} {se' : Nat → Int32} {sd' : Nat → Int32} {op' : Nat → Int32} {th' : Nat → Int32} {Ls' : Nat → List Int32} {g : Nat → Int32} {Li Lo : List Int32} {e : Nat} (hR : RE g Li Lo st en au he lo ow fl ti gd ak sp se sd op th Ls e) (hst : st' e = st e) (hhe : he' e = he e) (hlo : lo' e = lo e) (how : ow' e = ow e) (hfl : fl' e = fl e) (hti : ti' e = ti e) (hgd : gd' e = gd e) (hak : ak' e = ak e) (hsp : sp' e = sp e) (hse : se' e = se e) (hsd : sd' e = sd e) (hopa : op' (2 * e) = op (2 * e)) (hopb : op' (2 * e + 1) = op (2 * e + 1)) (hth : th' e = th e) (hLsa : Ls' (2 * e) = Ls (2 * e)) (hLsb : Ls' (2 * e + 1) = Ls (2 * e + 1)) : RE g Li Lo st' en au he' lo' ow' fl' ti' gd' ak' sp' se' sd' op' th' Ls' e := by
  obtain ⟨⟨p1, p2, p3, p4⟩, ⟨p5, p6, p7, p8, p9, p10⟩, ⟨p11, p12, p13, p14, p15, p16⟩, p17⟩ := hR
  exact ⟨⟨hst.trans p1, p2, p3, hhe.trans p4⟩, ⟨hlo.trans p5, how.trans p6, hfl.trans p7, hti.trans p8, hgd.trans p9, hak.trans p10⟩, ⟨hsp.trans p11, hse.trans p12, hsd.trans p13, hth.trans p14, hLsa.trans p15, hLsb.trans p16⟩, fun h9 => ⟨hopa.trans (p17 h9).1, hopb.trans (p17 h9).2⟩⟩
theorem RA_fr {g ck qu ck' qu' : Nat → Int32} {e : Nat} {r : Int32} (h : RA g ck qu e r) (h1 : ck' e = ck e) (h2 : qu' e = qu e) : RA g ck' qu' e r := by
  unfold RA at h ⊢
  rw [h1, h2]; exact h
theorem mv_bnd {α : Type} {st ck en au he qu lo ow fl op th : Nat → Int32} {Ls : Nat → List Int32} {e : Nat} {r : Int32} (K : (Nat → Int32) → (Nat → Int32) → (Nat → Int32) → (Nat → Int32) → (Nat → Int32) → (Nat → Int32) → (Nat → Int32) → (Nat → Int32) → (Nat → List Int32) → α) :
    (if r = 0 then (bnd3 (s_Model_late st ck en au he e) (fun r9 st9 ck9 => bnd (α := Int32) (if r9 = 0 then (0) else (1)) (fun y11 => if y11 = 0 then (K st9 ck9 he qu lo ow fl th Ls) else (bnd9 (s_Model_fall st9 ck9 he qu lo ow fl op th Ls e) K)))) else (bnd9 (s_Model_fall st ck he qu lo ow fl op th Ls e) K)) = bnd9 (mvM st ck en au he qu lo ow fl op th Ls e r) K := by
  unfold mvM
  by_cases hr : r = 0
  · rw [if_pos hr, if_pos hr]
    generalize s_Model_late st ck en au he e = Z
    obtain ⟨r9, st9, ck9⟩ := Z
    rw [bnd3_eq (show (r9, st9, ck9) = (r9, st9, ck9) from rfl), bnd3_eq (show (r9, st9, ck9) = (r9, st9, ck9) from rfl)]
    by_cases h9 : r9 = 0
    · rw [if_pos h9]; rfl
    · rw [if_neg h9]
      rw [bnd_eq (u := 1) rfl, bnd_eq (u := 1) rfl, if_neg (show ¬ (1 : Int32) = 0 by decide), if_neg (show ¬ (1 : Int32) = 0 by decide)]
  · rw [if_neg hr, if_neg hr]
theorem CoreS_g {g g' : Nat → Int32} {s c h l q w : Nat} (hS : CoreS g s c h l q w) (e : ∀ k, k ≠ 19 → g' k = g k) : CoreS g' s c h l q w := by
  unfold CoreS at hS ⊢
  rw [e 5 (by decide), e 6 (by decide), e 2 (by decide), e 7 (by decide), e 8 (by decide), e 9 (by decide), e 17 (by decide), e 18 (by decide)]
  exact hS
theorem CoreL_g {g g' : Nat → Int32} {Li Lo Li' Lo' : List Int32} {w : Nat} (hL : CoreL g Li Lo w) (e : ∀ k, k ≠ 19 → g' k = g k) (h1 : ChL Li') (h2 : Li'.length ≤ Li.length) (h3 : ChL Lo') (h4 : Lo'.length ≤ 64) : CoreL g' Li' Lo' w := by
  unfold CoreL at hL ⊢
  rw [e 17 (by decide), e 13 (by decide), e 14 (by decide)]
  obtain ⟨L1, L2, L3, L4, L5, L6, L7⟩ := hL
  exact ⟨by omega, fun h9 => by have := L2 h9; omega, h1, h3, h4, L6, L7⟩
theorem RE_g {st en au he lo ow fl ti gd ak sp se sd op th th' : Nat → Int32} {Ls Ls' : Nat → List Int32} {g g' : Nat → Int32} {Li Lo Li' Lo' : List Int32} {e : Nat} (hR : RE g Li Lo st en au he lo ow fl ti gd ak sp se sd op th Ls e) (eg : ∀ k, k ≠ 19 → g' k = g k) (h1 : th' e = g' 19) (h2 : Ls' (2 * e) = Lo') (h3 : Ls' (2 * e + 1) = Li') : RE g' Li' Lo' st en au he lo ow fl ti gd ak sp se sd op th' Ls' e := by
  obtain ⟨⟨p1, p2, p3, p4⟩, ⟨p5, p6, p7, p8, p9, p10⟩, ⟨p11, p12, p13, p14, p15, p16⟩, p17⟩ := hR
  unfold RE
  rw [eg 5 (by decide), eg 0 (by decide), eg 1 (by decide), eg 2 (by decide), eg 8 (by decide), eg 9 (by decide), eg 10 (by decide), eg 11 (by decide), eg 12 (by decide), eg 13 (by decide), eg 14 (by decide), eg 15 (by decide), eg 16 (by decide), eg 17 (by decide), eg 18 (by decide)]
  exact ⟨⟨p1, p2, p3, p4⟩, ⟨p5, p6, p7, p8, p9, p10⟩, ⟨p11, p12, p13, h1, h2, h3⟩, p17⟩
theorem tick_tie {gn : Nat → Int32} {Lin : List Int32} {Lon : List Int32} {gf : Nat → Int32} {Lif : List Int32} {Lof : List Int32} {me : Nat → Int32} {fp : Nat → Int32} {kp : Nat} {fa : Nat → Int32} {ka : Nat} {fr : Nat → Int32} {kr : Nat} {tw : Int32} {tc : Int32} {tl : Int32} {on : Int32} {fd : Nat → Int32} {kd : Nat} {stM : Nat → Int32} {ckM : Nat → Int32} {enM : Nat → Int32} {auM : Nat → Int32} {heM : Nat → Int32} {quM : Nat → Int32} {loM : Nat → Int32} {owM : Nat → Int32} {flM : Nat → Int32} {tiM : Nat → Int32} {gdM : Nat → Int32} {akM : Nat → Int32} {spM : Nat → Int32} {seM : Nat → Int32} {sdM : Nat → Int32} {opM : Nat → Int32} {thM : Nat → Int32} {meM : Nat → Int32} {pkM : Nat → Int32} {reM : Nat → Int32} {LsM : Nat → List Int32} {tgM : Int32} {kcM : Nat} {cmM : Int32} {suM : Int32} {kqM : Nat} {drM : Nat → Int32} {T : Nat} {gn' : Nat → Int32} {Lin' : List Int32} {Lon' : List Int32} {gf' : Nat → Int32} {Lif' : List Int32} {Lof' : List Int32} {me' : Nat → Int32} {fp' : Nat → Int32} {kp' : Nat} {fa' : Nat → Int32} {ka' : Nat} {fr' : Nat → Int32} {kr' : Nat} {tw' : Int32} {tc' : Int32} {tl' : Int32} {stM' : Nat → Int32} {ckM' : Nat → Int32} {heM' : Nat → Int32} {quM' : Nat → Int32} {loM' : Nat → Int32} {owM' : Nat → Int32} {flM' : Nat → Int32} {tiM' : Nat → Int32} {gdM' : Nat → Int32} {akM' : Nat → Int32} {spM' : Nat → Int32} {seM' : Nat → Int32} {sdM' : Nat → Int32} {opM' : Nat → Int32} {thM' : Nat → Int32} {meM' : Nat → Int32} {pkM' : Nat → Int32} {reM' : Nat → Int32} {LsM' : Nat → List Int32} {kcM' : Nat} {cmM' : Int32} {suM' : Int32} {kqM' : Nat} (h : Rel gn Lin Lon gf Lif Lof me fp kp fa ka fr kr tw tc tl on fd kd stM ckM enM auM heM quM loM owM flM tiM gdM akM spM seM sdM opM thM meM pkM reM LsM tgM kcM cmM suM kqM drM T) (hT : T < 1048575)
    (e1 : (gn', Lin', Lon', gf', Lif', Lof', me', fp', kp', fa', ka', fr', kr', tw', tc', tl') = s_MemoryLink_tick gn Lin Lon gf Lif Lof me fp kp fa ka fr kr tw tc tl on)
    (e2 : (stM', ckM', heM', quM', loM', owM', flM', tiM', gdM', akM', spM', seM', sdM', opM', thM', meM', pkM', reM', LsM', kcM', cmM', suM', kqM') = s_Model_tick stM ckM enM auM heM quM loM owM flM tiM gdM akM spM seM sdM opM thM meM pkM reM LsM tgM kcM cmM suM kqM) :
    Rel gn' Lin' Lon' gf' Lif' Lof' me' fp' kp' fa' ka' fr' kr' tw' tc' tl' on fd kd stM' ckM' enM auM heM' quM' loM' owM' flM' tiM' gdM' akM' spM' seM' sdM' opM' thM' meM' pkM' reM' LsM' tgM kcM' cmM' suM' kqM' drM (T + 1) := by
  obtain ⟨⟨s, c, h, l, q, w, k, S, C, H, L, Q, W, K, En, Ef, Cn, Cf⟩, ⟨A0, ckA, quA⟩, ⟨B0, ckB, quB⟩, hRT, rfl⟩ := h
  have Nn := endN En
  have Nf := endN Ef
  obtain ⟨Sn, Ln, ln, xn, kn1, kn2, kn3, kn4, kn5⟩ := En
  obtain ⟨Sf, Lf, lf, xf, kf1, kf2, kf3, kf4, kf5⟩ := Ef
  obtain ⟨rn1, rn2⟩ := room_of Nn Nf Cn Cf
  obtain ⟨rf1, rf2⟩ := room_of Nf Nn Cf Cn
  unfold s_MemoryLink_tick at e1
  unfold s_Model_tick at e2
  have n01 : (1 : Nat) ≠ 0 := by decide
  have n10 : (0 : Nat) ≠ 1 := by decide
  have se0 : seM 0 = gn 15 := A0.2.2.1.2.1
  have sd0 : sdM 0 = gn 16 := A0.2.2.1.2.2.1
  have se1 : seM 1 = gf 15 := B0.2.2.1.2.1
  have sd1 : sdM 1 = gf 16 := B0.2.2.1.2.2.1
  rw [se0, sd0, se1, sd1] at e2
  -- arrivals
  rcases hA1 : s_End_arrival gn Lin (gf 15) (gf 16) with ⟨g1, Li1⟩
  rw [bnd2_eq hA1.symm] at e1
  rcases hM1 : s_Model_arrival stM ckM heM quM loM owM tiM gdM opM LsM 0 (gf 15) (gf 16) with ⟨r1, st1, ck1, he1, qu1, lo1, ow1, ti1, gd1, op1, Ls1⟩
  rw [bnd11_eq hM1.symm] at e2
  obtain ⟨⟨A1, a1⟩, u1, u2, u3, u4, u5, u6, u7, u8, u9, u10, u11, u12⟩ := arr_tie n01 Sn Ln ln xf rn1 A0 ckA quA hA1.symm hM1.symm
  obtain ⟨f1, b1, s1, h1, l1, q1, w1, Sn1, Ln1, F1, G1, T1⟩ := arr_core Sn Ln ln xf rn1 rn2 hA1.symm
  have B1 := RE_fr B0 u1 u3 u5 u6 (fl' := flM) rfl u7 u8 (ak' := akM) rfl (sp' := spM) rfl (se' := seM) rfl (sd' := sdM) rfl u9 u10 (th' := thM) rfl u11 u12
  have g15 : g1 15 = gn 15 := A1.2.2.1.2.1.symm.trans se0
  have g16 : g1 16 = gn 16 := A1.2.2.1.2.2.1.symm.trans sd0
  rw [g15, g16] at e1
  rcases hA2 : s_End_arrival gf Lif (gn 15) (gn 16) with ⟨g2, Li2⟩
  rw [bnd2_eq hA2.symm] at e1
  rcases hM2 : s_Model_arrival st1 ck1 he1 qu1 lo1 ow1 ti1 gd1 op1 Ls1 1 (gn 15) (gn 16) with ⟨r2, st2, ck2, he2, qu2, lo2, ow2, ti2, gd2, op2, Ls2⟩
  rw [bnd11_eq hM2.symm] at e2
  obtain ⟨⟨B2, a2⟩, v1, v2, v3, v4, v5, v6, v7, v8, v9, v10, v11, v12⟩ := arr_tie n10 Sf Lf lf xn rf1 B1 (u2.trans ckB) (u4.trans quB) hA2.symm hM2.symm
  obtain ⟨f2, b2, s2, h2, l2, q2, w2, Sf2, Lf2, F2, G2, T2⟩ := arr_core Sf Lf lf xn rf1 rf2 hA2.symm
  have A2 := RE_fr A1 v1 v3 v5 v6 (fl' := flM) rfl v7 v8 (ak' := akM) rfl (sp' := spM) rfl (se' := seM) rfl (sd' := sdM) rfl v9 v10 (th' := thM) rfl v11 v12
  have a1' := RA_fr a1 v2 v4
  clear A0 B0 A1 B1 u1 u2 u3 u4 u5 u6 u7 u8 u9 u10 u11 u12 v1 v2 v3 v4 v5 v6 v7 v8 v9 v10 v11 v12 a1 hM1 hM2
  -- moving on
  have bf1 : b1 = 0 ∨ b1 = 1 ∧ s1 = 5 := by
    rcases T1.1 with h9 | h9
    · exact Or.inl h9
    · exact Or.inr ⟨h9.1, T1.2.2.1 h9.1⟩
  have bf2 : b2 = 0 ∨ b2 = 1 ∧ s2 = 5 := by
    rcases T2.1 with h9 | h9
    · exact Or.inl h9
    · exact Or.inr ⟨h9.1, T2.2.2.1 h9.1⟩
  have lf1 : f1 = 0 → l1 ≤ h1 := fun h9 => by
    by_cases s0 : s = 0
    · have := T1.2.2.2.2.1 s0; omega
    · exact (T1.2.2.2.2.2 s0 h9).2.1
  have lf2 : f2 = 0 → l2 ≤ h2 := fun h9 => by
    by_cases s0 : S = 0
    · have := T2.2.2.2.2.1 s0; omega
    · exact (T2.2.2.2.2.2 s0 h9).2.1
  have e3 := e2.trans (mv_bnd (fun st21 ck21 he21 qu21 lo21 ow21 fl21 th21 Ls21 => s_Model_tick_63 enM auM akM spM seM sdM meM pkM reM on kcM cmM suM kqM r2 ti2 gd2 op2 st21 ck21 he21 qu21 lo21 ow21 fl21 th21 Ls21))
  clear e2
  rcases hA3 : s_End_moveOn g1 Li1 Lon with ⟨g3, Li3, Lo3⟩
  rw [bnd3_eq hA3.symm] at e1
  rcases hM3 : mvM st2 ck2 enM auM he2 qu2 lo2 ow2 flM op2 thM Ls2 0 r1 with ⟨st3, ck3, he3, qu3, lo3, ow3, fl3, th3, Ls3⟩
  rw [bnd9_eq hM3.symm] at e3
  obtain ⟨⟨A3, ck3a, qu3a⟩, u1, u2, u3, u4, u5, u6, u7, u8, u9, u10⟩ := mov_tie n01 Sn1 Ln1 F1 T1.2.2.2.1 G1 bf1 A2 a1' hA3.symm hM3.symm
  obtain ⟨s3, c3, h3, l3, q3, w3, Sn3, Ln3, ln3, T3⟩ := mov_core Sn1 Ln1 F1 T1.2.2.2.1 G1 bf1 lf1 hA3.symm
  have B3 := RE_fr B2 u1 u3 u5 u6 u7 (ti' := ti2) rfl (gd' := gd2) rfl (ak' := akM) rfl (sp' := spM) rfl (se' := seM) rfl (sd' := sdM) rfl (op' := op2) rfl rfl u8 u9 u10
  have a2' := RA_fr a2 u2 u4
  unfold s_Model_tick_63 at e3
  have e4 := e3.trans (mv_bnd (fun st13 ck13 he13 qu13 lo13 ow13 fl13 th13 Ls13 => s_Model_tick_90 akM spM seM sdM meM pkM reM on kcM cmM suM kqM ti2 gd2 op2 st13 ck13 he13 qu13 lo13 ow13 fl13 th13 Ls13))
  clear e3
  rcases hA4 : s_End_moveOn g2 Li2 Lof with ⟨g4, Li4, Lo4⟩
  rw [bnd3_eq hA4.symm] at e1
  rcases hM4 : mvM st3 ck3 enM auM he3 qu3 lo3 ow3 fl3 op2 th3 Ls3 1 r2 with ⟨st4, ck4, he4, qu4, lo4, ow4, fl4, th4, Ls4⟩
  rw [bnd9_eq hM4.symm] at e4
  obtain ⟨⟨B4, ck4b, qu4b⟩, v1, v2, v3, v4, v5, v6, v7, v8, v9, v10⟩ := mov_tie n10 Sf2 Lf2 F2 T2.2.2.2.1 G2 bf2 B3 a2' hA4.symm hM4.symm
  obtain ⟨s4, c4, h4, l4, q4, w4, Sf4, Lf4, lf4, T4⟩ := mov_core Sf2 Lf2 F2 T2.2.2.2.1 G2 bf2 lf2 hA4.symm
  have A4 := RE_fr A3 v1 v3 v5 v6 v7 (ti' := ti2) rfl (gd' := gd2) rfl (ak' := akM) rfl (sp' := spM) rfl (se' := seM) rfl (sd' := sdM) rfl (op' := op2) rfl rfl v8 v9 v10
  have ck4a : ck4 0 = g3 6 := v2.trans ck3a
  have qu4a : qu4 0 = g3 7 := v4.trans qu3a
  clear A2 B2 A3 B3 a1' a2' a2 u1 u2 u3 u4 u5 u6 u7 u8 u9 u10 v1 v2 v3 v4 v5 v6 v7 v8 v9 v10 hM3 hM4 ck3a qu3a
  -- sending
  unfold s_Model_tick_90 at e4
  rcases hA5 : s_End_transmit g3 Li3 Lo3 with ⟨g5, Lo5⟩
  rw [bnd2_eq hA5.symm] at e1
  rcases hM5 : s_Model_send st4 akM ow4 lo4 op2 Ls4 seM sdM spM 0 with ⟨ak5, ow5, lo5, op5, Ls5, se5, sd5, sp5⟩
  rw [bnd8_eq hM5.symm] at e4
  obtain ⟨⟨A5, g56, g57⟩, u1, u2, u3, u4, u5, u6, u7, u8, u9, u10⟩ := snd_tie n01 Sn3 Ln3 A4 hA5.symm hM5.symm
  obtain ⟨q5, w5, k5, Sn5, Ln5, xn5, D5⟩ := snd_core Sn3 Ln3 hA5.symm
  have B5 := RE_fr B4 (st' := st4) rfl (he' := he4) rfl u3 u2 (fl' := fl4) rfl (ti' := ti2) rfl (gd' := gd2) rfl u1 u10 u8 u9 u4 u5 (th' := th4) rfl u6 u7
  rcases hA6 : s_End_transmit g4 Li4 Lo4 with ⟨g6, Lo6⟩
  rw [bnd2_eq hA6.symm] at e1
  rcases hM6 : s_Model_send st4 ak5 ow5 lo5 op5 Ls5 se5 sd5 sp5 1 with ⟨ak6, ow6, lo6, op6, Ls6, se6, sd6, sp6⟩
  rw [bnd8_eq hM6.symm] at e4
  obtain ⟨⟨B6, g66, g67⟩, v1, v2, v3, v4, v5, v6, v7, v8, v9, v10⟩ := snd_tie n10 Sf4 Lf4 B5 hA6.symm hM6.symm
  obtain ⟨q6, w6, k6, Sf6, Lf6, xf6, D6⟩ := snd_core Sf4 Lf4 hA6.symm
  have A6 := RE_fr A5 (st' := st4) rfl (he' := he4) rfl v3 v2 (fl' := fl4) rfl (ti' := ti2) rfl (gd' := gd2) rfl v1 v10 v8 v9 v4 v5 (th' := th4) rfl v6 v7
  have cn := cross1 Nn Nf Cn T1 T2 T3 T4 D5 D6
  have cf := cross1 Nf Nn Cf T2 T1 T4 T3 D6 D5
  have kD5 : (s3 < 3 → k5 = 0) ∧ (s3 = 3 → k5 = 1) ∧ (s3 = 4 → k5 = 1 ∨ k5 = 2) ∧ (s3 = 5 → 1 ≤ k5) ∧ k5 ≤ 4 := ⟨D5.1, D5.2.1, D5.2.2.1, D5.2.2.2.1, D5.2.2.2.2.1⟩
  have kD6 : (s4 < 3 → k6 = 0) ∧ (s4 = 3 → k6 = 1) ∧ (s4 = 4 → k6 = 1 ∨ k6 = 2) ∧ (s4 = 5 → 1 ≤ k6) ∧ k6 ≤ 4 := ⟨D6.1, D6.2.1, D6.2.2.1, D6.2.2.2.1, D6.2.2.2.2.1⟩
  have En5 : EndI g5 Li3 Lo5 s3 c3 h3 l3 q5 w5 k5 := ⟨Sn5, Ln5, ln3, xn5, kD5⟩
  have Ef6 : EndI g6 Li4 Lo6 s4 c4 h4 l4 q6 w6 k6 := ⟨Sf6, Lf6, lf4, xf6, kD6⟩
  have ckF : ck4 1 = g6 6 := ck4b.trans g66.symm
  have quF : qu4 1 = g6 7 := qu4b.trans g67.symm
  have ckN : ck4 0 = g5 6 := ck4a.trans g56.symm
  have quN : qu4 0 = g5 7 := qu4a.trans g57.symm
  clear A4 B4 A5 B5 T1 T2 T3 T4 D5 D6
  by_cases hon : on = 0
  · rw [if_pos hon] at e1 e4
    simp only [Prod.mk.injEq] at e1 e4
    obtain ⟨rfl, rfl, rfl, rfl, rfl, rfl, rfl, rfl, rfl, rfl, rfl, rfl, rfl, rfl, rfl, rfl⟩ := e1
    obtain ⟨rfl, rfl, rfl, rfl, rfl, rfl, rfl, rfl, rfl, rfl, rfl, rfl, rfl, rfl, rfl, rfl, rfl, rfl, rfl, rfl, rfl, rfl, rfl⟩ := e4
    obtain ⟨x1, ⟨x2, x3, x4⟩, x5⟩ := hRT
    exact ⟨⟨s3, c3, h3, l3, q5, w5, k5, s4, c4, h4, l4, q6, w6, k6, En5, Ef6, cn, cf⟩, ⟨A6, ckN, quN⟩, ⟨B6, ckF, quF⟩, ⟨x1, ⟨x2, by omega, x4⟩, x5⟩, rfl⟩
  · rw [if_neg hon] at e1 e4
    rcases hA7 : s_Target_act me fp kp fa ka fr kr tw tc tl g6 Li4 Lo6 with ⟨me8, fp8, kp8, fa8, ka8, fr8, kr8, tw8, tc8, tl8, g8, Li8, Lo8⟩
    rw [bnd13_eq hA7.symm] at e1
    rcases hM7 : s_Model_work meM pkM kcM cmM suM reM kqM th4 Ls6 with ⟨me7, pk7, kc7, cm7, su7, re7, kq7, th7, Ls7⟩
    rw [bnd9_eq hM7.symm] at e4
    obtain ⟨L1, L2, L3, L4, L5, L6, L7⟩ := Lf6
    obtain ⟨z1, ⟨z2, z3, z4⟩, z5, ⟨z6, z7, z8⟩, z9, z10, z11, z12⟩ := act_tie hRT hT B6.2.2.1.2.2.2.1 B6.2.2.1.2.2.2.2.1 B6.2.2.1.2.2.2.2.2 L3 (by omega) L4 L5 hA7.symm hM7.symm
    have B8 := RE_g B6 z5 z2 z3 z4
    have A8 := RE_fr A6 (st' := st4) rfl (he' := he4) rfl (lo' := lo6) rfl (ow' := ow6) rfl (fl' := fl4) rfl (ti' := ti2) rfl (gd' := gd2) rfl (ak' := ak6) rfl (sp' := sp6) rfl (se' := se6) rfl (sd' := sd6) rfl (op' := op6) rfl rfl z6 z7 z8
    have Ef8 : EndI g8 Li8 Lo8 s4 c4 h4 l4 q6 w6 k6 := ⟨CoreS_g Sf6 z5, CoreL_g ⟨L1, L2, L3, L4, L5, L6, L7⟩ z5 z9 z10 z11 z12, lf4, by rw [z5 15 (by decide)]; exact xf6, kD6⟩
    simp only [Prod.mk.injEq] at e1 e4
    obtain ⟨rfl, rfl, rfl, rfl, rfl, rfl, rfl, rfl, rfl, rfl, rfl, rfl, rfl, rfl, rfl, rfl⟩ := e1
    obtain ⟨rfl, rfl, rfl, rfl, rfl, rfl, rfl, rfl, rfl, rfl, rfl, rfl, rfl, rfl, rfl, rfl, rfl, rfl, rfl, rfl, rfl, rfl, rfl⟩ := e4
    exact ⟨⟨s3, c3, h3, l3, q5, w5, k5, s4, c4, h4, l4, q6, w6, k6, En5, Ef8, cn, cf⟩, ⟨A8, ckN, quN⟩, ⟨B8, ckF.trans (z5 6 (by decide)).symm, quF.trans (z5 7 (by decide)).symm⟩, z1, rfl⟩
theorem isE0 : s_MemoryLink_isEnd 0 = 1 := by decide
theorem isE1 : s_MemoryLink_isEnd 1 = 1 := by decide
theorem isEn {x : Int32} (h0 : ¬ x = 0) (h1 : ¬ x = 1) : s_MemoryLink_isEnd x = 0 := by
  simp only [s_MemoryLink_isEnd, bnd]; rw [if_neg h0, if_neg h1]
theorem isM (x : Int32) : s_Model_isEnd x = s_MemoryLink_isEnd x := rfl
theorem ne10 : ¬ (1 : Int32) = 0 := by decide
theorem fits0 {x n : Int32} (h : x < 0) : s_Model_fits x n = 0 := by simp only [s_Model_fits, bnd]; rw [if_pos h]
theorem fits1 {x n : Int32} (h : ¬ x < 0) (h1 : ¬ n < x) : s_Model_fits x n = 1 := by simp only [s_Model_fits, bnd]; rw [if_neg h, if_neg h1]
theorem fits2 {x n : Int32} (h : ¬ x < 0) (h1 : n < x) : s_Model_fits x n = 0 := by simp only [s_Model_fits, bnd]; rw [if_neg h, if_pos h1]
theorem sim_control {gn : Nat → Int32} {Lin : List Int32} {Lon : List Int32} {gf : Nat → Int32} {Lif : List Int32} {Lof : List Int32} {me : Nat → Int32} {fp : Nat → Int32} {kp : Nat} {fa : Nat → Int32} {ka : Nat} {fr : Nat → Int32} {kr : Nat} {tw : Int32} {tc : Int32} {tl : Int32} {on : Int32} {fd : Nat → Int32} {kd : Nat} {stM : Nat → Int32} {ckM : Nat → Int32} {enM : Nat → Int32} {auM : Nat → Int32} {heM : Nat → Int32} {quM : Nat → Int32} {loM : Nat → Int32} {owM : Nat → Int32} {flM : Nat → Int32} {tiM : Nat → Int32} {gdM : Nat → Int32} {akM : Nat → Int32} {spM : Nat → Int32} {seM : Nat → Int32} {sdM : Nat → Int32} {opM : Nat → Int32} {thM : Nat → Int32} {meM : Nat → Int32} {pkM : Nat → Int32} {reM : Nat → Int32} {LsM : Nat → List Int32} {tgM : Int32} {kcM : Nat} {cmM : Int32} {suM : Int32} {kqM : Nat} {drM : Nat → Int32} {T : Nat} {ra rb : Int32} {x : Int32} {y : Int32} {z : Int32} {gn' : Nat → Int32} {gf' : Nat → Int32} {enM' : Nat → Int32} {auM' : Nat → Int32} (h : Rel gn Lin Lon gf Lif Lof me fp kp fa ka fr kr tw tc tl on fd kd stM ckM enM auM heM quM loM owM flM tiM gdM akM spM seM sdM opM thM meM pkM reM LsM tgM kcM cmM suM kqM drM T) (h1 : (ra, gn', gf') = s_MemoryLink_control gn gf x y z) (h2 : (rb, enM', auM') = s_Model_control enM auM x y z) : ra = rb ∧ Rel gn' Lin Lon gf' Lif Lof me fp kp fa ka fr kr tw tc tl on fd kd stM ckM enM' auM' heM quM loM owM flM tiM gdM akM spM seM sdM opM thM meM pkM reM LsM tgM kcM cmM suM kqM drM T := by
  obtain ⟨⟨s, c, h, l, q, w, k, S, C, H, L, Q, W, K, En, Ef, Cn, Cf⟩, ⟨A, ckA, quA⟩, ⟨B, ckB, quB⟩, hRT, hon⟩ := h
  obtain ⟨⟨p1, p2, p3, p4⟩, ⟨p5, p6, p7, p8, p9, p10⟩, ⟨p11, p12, p13, p14, p15, p16⟩, p17⟩ := A
  obtain ⟨⟨q1, q2, q3, q4⟩, ⟨q5, q6, q7, q8, q9, q10⟩, ⟨q11, q12, q13, q14, q15, q16⟩, q17⟩ := B
  unfold s_MemoryLink_control at h1
  unfold s_Model_control at h2
  rw [isM] at h2
  by_cases x0 : x = 0
  · subst x0
    rw [isE0, if_neg ne10] at h1 h2
    rw [if_pos rfl] at h1 h2
    simp only [s_End_allow, bnd, Prod.mk.injEq] at h1 h2
    obtain ⟨rfl, rfl, rfl⟩ := h1
    obtain ⟨rfl, rfl, rfl⟩ := h2
    exact ⟨rfl, ⟨s, c, h, l, q, w, k, S, C, H, L, Q, W, K, En, Ef, Cn, Cf⟩, ⟨⟨⟨p1, pk_us, pk_us, p4⟩, ⟨p5, p6, p7, p8, p9, p10⟩, ⟨p11, p12, p13, p14, p15, p16⟩, p17⟩, ckA, quA⟩, ⟨⟨⟨q1, (pk_un (by decide)).trans q2, (pk_un (by decide)).trans q3, q4⟩, ⟨q5, q6, q7, q8, q9, q10⟩, ⟨q11, q12, q13, q14, q15, q16⟩, q17⟩, ckB, quB⟩, hRT, hon⟩
  · by_cases x1 : x = 1
    · subst x1
      rw [isE1, if_neg ne10] at h1 h2
      rw [if_neg ne10] at h1 h2
      simp only [s_End_allow, bnd, Prod.mk.injEq] at h1 h2
      obtain ⟨rfl, rfl, rfl⟩ := h1
      obtain ⟨rfl, rfl, rfl⟩ := h2
      exact ⟨rfl, ⟨s, c, h, l, q, w, k, S, C, H, L, Q, W, K, En, Ef, Cn, Cf⟩, ⟨⟨⟨p1, (pk_un (by decide)).trans p2, (pk_un (by decide)).trans p3, p4⟩, ⟨p5, p6, p7, p8, p9, p10⟩, ⟨p11, p12, p13, p14, p15, p16⟩, p17⟩, ckA, quA⟩, ⟨⟨⟨q1, pk_us, pk_us, q4⟩, ⟨q5, q6, q7, q8, q9, q10⟩, ⟨q11, q12, q13, q14, q15, q16⟩, q17⟩, ckB, quB⟩, hRT, hon⟩
    · rw [isEn x0 x1, if_pos rfl] at h1 h2
      simp only [Prod.mk.injEq] at h1 h2
      obtain ⟨rfl, rfl, rfl⟩ := h1
      obtain ⟨rfl, rfl, rfl⟩ := h2
      exact ⟨rfl, ⟨s, c, h, l, q, w, k, S, C, H, L, Q, W, K, En, Ef, Cn, Cf⟩, ⟨⟨⟨p1, p2, p3, p4⟩, ⟨p5, p6, p7, p8, p9, p10⟩, ⟨p11, p12, p13, p14, p15, p16⟩, p17⟩, ckA, quA⟩, ⟨⟨⟨q1, q2, q3, q4⟩, ⟨q5, q6, q7, q8, q9, q10⟩, ⟨q11, q12, q13, q14, q15, q16⟩, q17⟩, ckB, quB⟩, hRT, hon⟩

theorem sim_spoil {gn : Nat → Int32} {Lin : List Int32} {Lon : List Int32} {gf : Nat → Int32} {Lif : List Int32} {Lof : List Int32} {me : Nat → Int32} {fp : Nat → Int32} {kp : Nat} {fa : Nat → Int32} {ka : Nat} {fr : Nat → Int32} {kr : Nat} {tw : Int32} {tc : Int32} {tl : Int32} {on : Int32} {fd : Nat → Int32} {kd : Nat} {stM : Nat → Int32} {ckM : Nat → Int32} {enM : Nat → Int32} {auM : Nat → Int32} {heM : Nat → Int32} {quM : Nat → Int32} {loM : Nat → Int32} {owM : Nat → Int32} {flM : Nat → Int32} {tiM : Nat → Int32} {gdM : Nat → Int32} {akM : Nat → Int32} {spM : Nat → Int32} {seM : Nat → Int32} {sdM : Nat → Int32} {opM : Nat → Int32} {thM : Nat → Int32} {meM : Nat → Int32} {pkM : Nat → Int32} {reM : Nat → Int32} {LsM : Nat → List Int32} {tgM : Int32} {kcM : Nat} {cmM : Int32} {suM : Int32} {kqM : Nat} {drM : Nat → Int32} {T : Nat} {ra rb : Int32} {x : Int32} {gn' : Nat → Int32} {gf' : Nat → Int32} {spM' : Nat → Int32} (h : Rel gn Lin Lon gf Lif Lof me fp kp fa ka fr kr tw tc tl on fd kd stM ckM enM auM heM quM loM owM flM tiM gdM akM spM seM sdM opM thM meM pkM reM LsM tgM kcM cmM suM kqM drM T) (h1 : (ra, gn', gf') = s_MemoryLink_spoil gn gf x) (h2 : (rb, spM') = s_Model_spoil spM x) : ra = rb ∧ Rel gn' Lin Lon gf' Lif Lof me fp kp fa ka fr kr tw tc tl on fd kd stM ckM enM auM heM quM loM owM flM tiM gdM akM spM' seM sdM opM thM meM pkM reM LsM tgM kcM cmM suM kqM drM T := by
  obtain ⟨⟨s, c, h, l, q, w, k, S, C, H, L, Q, W, K, En, Ef, Cn, Cf⟩, ⟨A, ckA, quA⟩, ⟨B, ckB, quB⟩, hRT, hon⟩ := h
  obtain ⟨⟨p1, p2, p3, p4⟩, ⟨p5, p6, p7, p8, p9, p10⟩, ⟨p11, p12, p13, p14, p15, p16⟩, p17⟩ := A
  obtain ⟨⟨q1, q2, q3, q4⟩, ⟨q5, q6, q7, q8, q9, q10⟩, ⟨q11, q12, q13, q14, q15, q16⟩, q17⟩ := B
  unfold s_MemoryLink_spoil at h1
  unfold s_Model_spoil at h2
  rw [isM] at h2
  by_cases x0 : x = 0
  · subst x0
    rw [isE0, if_neg ne10] at h1 h2
    rw [if_pos rfl] at h1 h2
    simp only [Prod.mk.injEq] at h1 h2
    obtain ⟨rfl, rfl, rfl⟩ := h1
    obtain ⟨rfl, rfl⟩ := h2
    exact ⟨rfl, ⟨s, c, h, l, q, w, k, S, C, H, L, Q, W, K, ⟨En.1, ⟨En.2.1.1, En.2.1.2.1, En.2.1.2.2.1, En.2.1.2.2.2.1, En.2.1.2.2.2.2.1, En.2.1.2.2.2.2.2.1, Or.inr rfl⟩, En.2.2⟩, Ef, Cn, Cf⟩, ⟨⟨⟨p1, p2, p3, p4⟩, ⟨p5, p6, p7, p8, p9, p10⟩, ⟨pk_us, p12, p13, p14, p15, p16⟩, p17⟩, ckA, quA⟩, ⟨⟨⟨q1, q2, q3, q4⟩, ⟨q5, q6, q7, q8, q9, q10⟩, ⟨(pk_un (by decide)).trans q11, q12, q13, q14, q15, q16⟩, q17⟩, ckB, quB⟩, hRT, hon⟩
  · by_cases x1 : x = 1
    · subst x1
      rw [isE1, if_neg ne10] at h1 h2
      rw [if_neg ne10] at h1 h2
      simp only [Prod.mk.injEq] at h1 h2
      obtain ⟨rfl, rfl, rfl⟩ := h1
      obtain ⟨rfl, rfl⟩ := h2
      exact ⟨rfl, ⟨s, c, h, l, q, w, k, S, C, H, L, Q, W, K, En, ⟨Ef.1, ⟨Ef.2.1.1, Ef.2.1.2.1, Ef.2.1.2.2.1, Ef.2.1.2.2.2.1, Ef.2.1.2.2.2.2.1, Ef.2.1.2.2.2.2.2.1, Or.inr rfl⟩, Ef.2.2⟩, Cn, Cf⟩, ⟨⟨⟨p1, p2, p3, p4⟩, ⟨p5, p6, p7, p8, p9, p10⟩, ⟨(pk_un (by decide)).trans p11, p12, p13, p14, p15, p16⟩, p17⟩, ckA, quA⟩, ⟨⟨⟨q1, q2, q3, q4⟩, ⟨q5, q6, q7, q8, q9, q10⟩, ⟨pk_us, q12, q13, q14, q15, q16⟩, q17⟩, ckB, quB⟩, hRT, hon⟩
    · rw [isEn x0 x1, if_pos rfl] at h1 h2
      simp only [Prod.mk.injEq] at h1 h2
      obtain ⟨rfl, rfl, rfl⟩ := h1
      obtain ⟨rfl, rfl⟩ := h2
      exact ⟨rfl, ⟨s, c, h, l, q, w, k, S, C, H, L, Q, W, K, En, Ef, Cn, Cf⟩, ⟨⟨⟨p1, p2, p3, p4⟩, ⟨p5, p6, p7, p8, p9, p10⟩, ⟨p11, p12, p13, p14, p15, p16⟩, p17⟩, ckA, quA⟩, ⟨⟨⟨q1, q2, q3, q4⟩, ⟨q5, q6, q7, q8, q9, q10⟩, ⟨q11, q12, q13, q14, q15, q16⟩, q17⟩, ckB, quB⟩, hRT, hon⟩

theorem sim_sendTime {gn : Nat → Int32} {Lin : List Int32} {Lon : List Int32} {gf : Nat → Int32} {Lif : List Int32} {Lof : List Int32} {me : Nat → Int32} {fp : Nat → Int32} {kp : Nat} {fa : Nat → Int32} {ka : Nat} {fr : Nat → Int32} {kr : Nat} {tw : Int32} {tc : Int32} {tl : Int32} {on : Int32} {fd : Nat → Int32} {kd : Nat} {stM : Nat → Int32} {ckM : Nat → Int32} {enM : Nat → Int32} {auM : Nat → Int32} {heM : Nat → Int32} {quM : Nat → Int32} {loM : Nat → Int32} {owM : Nat → Int32} {flM : Nat → Int32} {tiM : Nat → Int32} {gdM : Nat → Int32} {akM : Nat → Int32} {spM : Nat → Int32} {seM : Nat → Int32} {sdM : Nat → Int32} {opM : Nat → Int32} {thM : Nat → Int32} {meM : Nat → Int32} {pkM : Nat → Int32} {reM : Nat → Int32} {LsM : Nat → List Int32} {tgM : Int32} {kcM : Nat} {cmM : Int32} {suM : Int32} {kqM : Nat} {drM : Nat → Int32} {T : Nat} {ra rb : Int32} {x : Int32} {y : Int32} {gn' : Nat → Int32} {gf' : Nat → Int32} {akM' : Nat → Int32} (h : Rel gn Lin Lon gf Lif Lof me fp kp fa ka fr kr tw tc tl on fd kd stM ckM enM auM heM quM loM owM flM tiM gdM akM spM seM sdM opM thM meM pkM reM LsM tgM kcM cmM suM kqM drM T) (h1 : (ra, gn', gf') = s_MemoryLink_sendTime gn gf x y) (h2 : (rb, akM') = s_Model_sendTime akM x y) : ra = rb ∧ Rel gn' Lin Lon gf' Lif Lof me fp kp fa ka fr kr tw tc tl on fd kd stM ckM enM auM heM quM loM owM flM tiM gdM akM' spM seM sdM opM thM meM pkM reM LsM tgM kcM cmM suM kqM drM T := by
  obtain ⟨⟨s, c, h, l, q, w, k, S, C, H, L, Q, W, K, En, Ef, Cn, Cf⟩, ⟨A, ckA, quA⟩, ⟨B, ckB, quB⟩, hRT, hon⟩ := h
  obtain ⟨⟨p1, p2, p3, p4⟩, ⟨p5, p6, p7, p8, p9, p10⟩, ⟨p11, p12, p13, p14, p15, p16⟩, p17⟩ := A
  obtain ⟨⟨q1, q2, q3, q4⟩, ⟨q5, q6, q7, q8, q9, q10⟩, ⟨q11, q12, q13, q14, q15, q16⟩, q17⟩ := B
  unfold s_MemoryLink_sendTime at h1
  unfold s_Model_sendTime at h2
  rw [isM] at h2
  by_cases x0 : x = 0
  · subst x0
    rw [isE0, if_neg ne10] at h1 h2
    by_cases y0 : y < 0
    · have hf : s_Model_fits y 63 = 0 := by simp only [s_Model_fits, bnd]; rw [if_pos y0]
      rw [if_pos y0] at h1
      rw [hf, if_pos rfl] at h2
      simp only [Prod.mk.injEq] at h1 h2
      obtain ⟨rfl, rfl, rfl⟩ := h1
      obtain ⟨rfl, rfl⟩ := h2
      exact ⟨rfl, ⟨s, c, h, l, q, w, k, S, C, H, L, Q, W, K, En, Ef, Cn, Cf⟩, ⟨⟨⟨p1, p2, p3, p4⟩, ⟨p5, p6, p7, p8, p9, p10⟩, ⟨p11, p12, p13, p14, p15, p16⟩, p17⟩, ckA, quA⟩, ⟨⟨⟨q1, q2, q3, q4⟩, ⟨q5, q6, q7, q8, q9, q10⟩, ⟨q11, q12, q13, q14, q15, q16⟩, q17⟩, ckB, quB⟩, hRT, hon⟩
    · have hy2 := xnat y0
      by_cases y1 : y < 64
      · have hy3 : y.toNatClampNeg < 64 := xnat_lt (n := 64) y0 (Int32.not_le.mpr y1) (by decide)
        have hf : s_Model_fits y 63 = 1 := by
          simp only [s_Model_fits, bnd]
          rw [if_neg y0, if_neg]
          rw [hy2]; exact nI_nlt (b := y.toNatClampNeg) (a := 63) (by omega) (by decide)
        rw [if_neg y0, if_pos y1, if_pos rfl] at h1
        rw [hf, if_neg ne10, if_pos rfl] at h2
        simp only [Prod.mk.injEq] at h1 h2
        obtain ⟨rfl, rfl, rfl⟩ := h1
        obtain ⟨rfl, rfl⟩ := h2
        exact ⟨rfl, ⟨s, c, h, l, q, w, k, S, C, H, L, Q, W, K, ⟨En.1, ⟨En.2.1.1, En.2.1.2.1, En.2.1.2.2.1, En.2.1.2.2.2.1, En.2.1.2.2.2.2.1, Or.inr ⟨_, hy3, hy2⟩, En.2.1.2.2.2.2.2.2⟩, En.2.2⟩, Ef, Cn, Cf⟩, ⟨⟨⟨p1, p2, p3, p4⟩, ⟨p5, p6, p7, p8, p9, pk_us⟩, ⟨p11, p12, p13, p14, p15, p16⟩, p17⟩, ckA, quA⟩, ⟨⟨⟨q1, q2, q3, q4⟩, ⟨q5, q6, q7, q8, q9, (pk_un (by decide)).trans q10⟩, ⟨q11, q12, q13, q14, q15, q16⟩, q17⟩, ckB, quB⟩, hRT, hon⟩
      · have hf : s_Model_fits y 63 = 0 := by
          simp only [s_Model_fits, bnd]
          rw [if_neg y0, if_pos]
          rw [hy2] at y1 ⊢
          have h7 : (nI y.toNatClampNeg).toInt = (y.toNatClampNeg : Int) := nI_toInt (by have := Int32.toNatClampNeg_lt y; omega)
          rw [Int32.lt_iff_toInt_lt, h7] at y1 ⊢
          have h8 : (64 : Int32).toInt = 64 := rfl
          have h9 : (63 : Int32).toInt = 63 := rfl
          rw [h8] at y1; rw [h9]; omega
        rw [if_neg y0, if_neg y1] at h1
        rw [hf, if_pos rfl] at h2
        simp only [Prod.mk.injEq] at h1 h2
        obtain ⟨rfl, rfl, rfl⟩ := h1
        obtain ⟨rfl, rfl⟩ := h2
        exact ⟨rfl, ⟨s, c, h, l, q, w, k, S, C, H, L, Q, W, K, En, Ef, Cn, Cf⟩, ⟨⟨⟨p1, p2, p3, p4⟩, ⟨p5, p6, p7, p8, p9, p10⟩, ⟨p11, p12, p13, p14, p15, p16⟩, p17⟩, ckA, quA⟩, ⟨⟨⟨q1, q2, q3, q4⟩, ⟨q5, q6, q7, q8, q9, q10⟩, ⟨q11, q12, q13, q14, q15, q16⟩, q17⟩, ckB, quB⟩, hRT, hon⟩
  · by_cases x1 : x = 1
    · subst x1
      rw [isE1, if_neg ne10] at h1 h2
      by_cases y0 : y < 0
      · have hf : s_Model_fits y 63 = 0 := by simp only [s_Model_fits, bnd]; rw [if_pos y0]
        rw [if_pos y0] at h1
        rw [hf, if_pos rfl] at h2
        simp only [Prod.mk.injEq] at h1 h2
        obtain ⟨rfl, rfl, rfl⟩ := h1
        obtain ⟨rfl, rfl⟩ := h2
        exact ⟨rfl, ⟨s, c, h, l, q, w, k, S, C, H, L, Q, W, K, En, Ef, Cn, Cf⟩, ⟨⟨⟨p1, p2, p3, p4⟩, ⟨p5, p6, p7, p8, p9, p10⟩, ⟨p11, p12, p13, p14, p15, p16⟩, p17⟩, ckA, quA⟩, ⟨⟨⟨q1, q2, q3, q4⟩, ⟨q5, q6, q7, q8, q9, q10⟩, ⟨q11, q12, q13, q14, q15, q16⟩, q17⟩, ckB, quB⟩, hRT, hon⟩
      · have hy2 := xnat y0
        by_cases y1 : y < 64
        · have hy3 : y.toNatClampNeg < 64 := xnat_lt (n := 64) y0 (Int32.not_le.mpr y1) (by decide)
          have hf : s_Model_fits y 63 = 1 := by
            simp only [s_Model_fits, bnd]
            rw [if_neg y0, if_neg]
            rw [hy2]; exact nI_nlt (b := y.toNatClampNeg) (a := 63) (by omega) (by decide)
          rw [if_neg y0, if_pos y1, if_neg ne10] at h1
          rw [hf, if_neg ne10, if_neg ne10] at h2
          simp only [Prod.mk.injEq] at h1 h2
          obtain ⟨rfl, rfl, rfl⟩ := h1
          obtain ⟨rfl, rfl⟩ := h2
          exact ⟨rfl, ⟨s, c, h, l, q, w, k, S, C, H, L, Q, W, K, En, ⟨Ef.1, ⟨Ef.2.1.1, Ef.2.1.2.1, Ef.2.1.2.2.1, Ef.2.1.2.2.2.1, Ef.2.1.2.2.2.2.1, Or.inr ⟨_, hy3, hy2⟩, Ef.2.1.2.2.2.2.2.2⟩, Ef.2.2⟩, Cn, Cf⟩, ⟨⟨⟨p1, p2, p3, p4⟩, ⟨p5, p6, p7, p8, p9, (pk_un (by decide)).trans p10⟩, ⟨p11, p12, p13, p14, p15, p16⟩, p17⟩, ckA, quA⟩, ⟨⟨⟨q1, q2, q3, q4⟩, ⟨q5, q6, q7, q8, q9, pk_us⟩, ⟨q11, q12, q13, q14, q15, q16⟩, q17⟩, ckB, quB⟩, hRT, hon⟩
        · have hf : s_Model_fits y 63 = 0 := by
            simp only [s_Model_fits, bnd]
            rw [if_neg y0, if_pos]
            rw [hy2] at y1 ⊢
            have h7 : (nI y.toNatClampNeg).toInt = (y.toNatClampNeg : Int) := nI_toInt (by have := Int32.toNatClampNeg_lt y; omega)
            rw [Int32.lt_iff_toInt_lt, h7] at y1 ⊢
            have h8 : (64 : Int32).toInt = 64 := rfl
            have h9 : (63 : Int32).toInt = 63 := rfl
            rw [h8] at y1; rw [h9]; omega
          rw [if_neg y0, if_neg y1] at h1
          rw [hf, if_pos rfl] at h2
          simp only [Prod.mk.injEq] at h1 h2
          obtain ⟨rfl, rfl, rfl⟩ := h1
          obtain ⟨rfl, rfl⟩ := h2
          exact ⟨rfl, ⟨s, c, h, l, q, w, k, S, C, H, L, Q, W, K, En, Ef, Cn, Cf⟩, ⟨⟨⟨p1, p2, p3, p4⟩, ⟨p5, p6, p7, p8, p9, p10⟩, ⟨p11, p12, p13, p14, p15, p16⟩, p17⟩, ckA, quA⟩, ⟨⟨⟨q1, q2, q3, q4⟩, ⟨q5, q6, q7, q8, q9, q10⟩, ⟨q11, q12, q13, q14, q15, q16⟩, q17⟩, ckB, quB⟩, hRT, hon⟩
    · rw [isEn x0 x1, if_pos rfl] at h1 h2
      simp only [Prod.mk.injEq] at h1 h2
      obtain ⟨rfl, rfl, rfl⟩ := h1
      obtain ⟨rfl, rfl⟩ := h2
      exact ⟨rfl, ⟨s, c, h, l, q, w, k, S, C, H, L, Q, W, K, En, Ef, Cn, Cf⟩, ⟨⟨⟨p1, p2, p3, p4⟩, ⟨p5, p6, p7, p8, p9, p10⟩, ⟨p11, p12, p13, p14, p15, p16⟩, p17⟩, ckA, quA⟩, ⟨⟨⟨q1, q2, q3, q4⟩, ⟨q5, q6, q7, q8, q9, q10⟩, ⟨q11, q12, q13, q14, q15, q16⟩, q17⟩, ckB, quB⟩, hRT, hon⟩

theorem sim_take {gn : Nat → Int32} {Lin : List Int32} {Lon : List Int32} {gf : Nat → Int32} {Lif : List Int32} {Lof : List Int32} {me : Nat → Int32} {fp : Nat → Int32} {kp : Nat} {fa : Nat → Int32} {ka : Nat} {fr : Nat → Int32} {kr : Nat} {tw : Int32} {tc : Int32} {tl : Int32} {on : Int32} {fd : Nat → Int32} {kd : Nat} {stM : Nat → Int32} {ckM : Nat → Int32} {enM : Nat → Int32} {auM : Nat → Int32} {heM : Nat → Int32} {quM : Nat → Int32} {loM : Nat → Int32} {owM : Nat → Int32} {flM : Nat → Int32} {tiM : Nat → Int32} {gdM : Nat → Int32} {akM : Nat → Int32} {spM : Nat → Int32} {seM : Nat → Int32} {sdM : Nat → Int32} {opM : Nat → Int32} {thM : Nat → Int32} {meM : Nat → Int32} {pkM : Nat → Int32} {reM : Nat → Int32} {LsM : Nat → List Int32} {tgM : Int32} {kcM : Nat} {cmM : Int32} {suM : Int32} {kqM : Nat} {drM : Nat → Int32} {T : Nat} {ra rb : Int32} {x : Int32} {Lin' : List Int32} {Lif' : List Int32} {LsM' : Nat → List Int32} (h : Rel gn Lin Lon gf Lif Lof me fp kp fa ka fr kr tw tc tl on fd kd stM ckM enM auM heM quM loM owM flM tiM gdM akM spM seM sdM opM thM meM pkM reM LsM tgM kcM cmM suM kqM drM T) (h1 : (ra, Lin', Lif') = s_MemoryLink_take Lin Lif on x) (h2 : (rb, LsM') = s_Model_take LsM tgM x) : ra = rb ∧ Rel gn Lin' Lon gf Lif' Lof me fp kp fa ka fr kr tw tc tl on fd kd stM ckM enM auM heM quM loM owM flM tiM gdM akM spM seM sdM opM thM meM pkM reM LsM' tgM kcM cmM suM kqM drM T := by
  obtain ⟨⟨s, c, h, l, q, w, k, S, C, H, L, Q, W, K, En, Ef, Cn, Cf⟩, ⟨A, ckA, quA⟩, ⟨B, ckB, quB⟩, hRT, hon⟩ := h
  obtain ⟨⟨p1, p2, p3, p4⟩, ⟨p5, p6, p7, p8, p9, p10⟩, ⟨p11, p12, p13, p14, p15, p16⟩, p17⟩ := A
  obtain ⟨⟨q1, q2, q3, q4⟩, ⟨q5, q6, q7, q8, q9, q10⟩, ⟨q11, q12, q13, q14, q15, q16⟩, q17⟩ := B
  unfold s_MemoryLink_take at h1
  unfold s_Model_take at h2
  rw [isM] at h2
  by_cases x0 : x = 0
  · subst x0
    rw [isE0, if_neg ne10, if_neg (show ¬ (0 : Int32) = 1 by decide), if_pos rfl] at h1 h2
    have hrow : LsM 1 = Lin := p16
    rw [hrow] at h2
    cases Lin with
    | nil =>
      rw [if_pos (show nI ([] : List Int32).length = 0 from rfl)] at h2
      simp only [s_Inlet_removeFirst, s_Row_removeFirst, bnd2, Prod.mk.injEq, List.tail_nil] at h1 h2
      obtain ⟨rfl, rfl, rfl⟩ := h1
      obtain ⟨rfl, rfl⟩ := h2
      exact ⟨rfl, ⟨s, c, h, l, q, w, k, S, C, H, L, Q, W, K, En, Ef, Cn, Cf⟩, ⟨⟨⟨p1, p2, p3, p4⟩, ⟨p5, p6, p7, p8, p9, p10⟩, ⟨p11, p12, p13, p14, p15, p16⟩, p17⟩, ckA, quA⟩, ⟨⟨⟨q1, q2, q3, q4⟩, ⟨q5, q6, q7, q8, q9, q10⟩, ⟨q11, q12, q13, q14, q15, q16⟩, q17⟩, ckB, quB⟩, hRT, hon⟩
    | cons d Lin =>
      have hlen := En.2.1.1
      rw [if_neg (nI_ne0 (n := (d :: Lin).length) (by simp) (by omega))] at h2
      simp only [s_Inlet_removeFirst, s_Row_removeFirst, s_Model_remove, hrow, bnd2, Prod.mk.injEq, List.tail_cons, List.headD_cons] at h1 h2
      obtain ⟨rfl, rfl, rfl⟩ := h1
      obtain ⟨rfl, rfl⟩ := h2
      have hEK : EndI gn Lin' Lon s c h l q w k := ⟨En.1, CoreL_g En.2.1 (fun _ _ => rfl) (ch_tail En.2.1.2.2.1) (Nat.le_succ _) En.2.1.2.2.2.1 En.2.1.2.2.2.2.1, En.2.2⟩
      exact ⟨rfl, ⟨s, c, h, l, q, w, k, S, C, H, L, Q, W, K, hEK, Ef, Cn, Cf⟩, ⟨⟨⟨p1, p2, p3, p4⟩, ⟨p5, p6, p7, p8, p9, p10⟩, ⟨p11, p12, p13, p14, (va_up_ne _ _ (by decide)).trans p15, va_up_self _ _ _⟩, p17⟩, ckA, quA⟩, ⟨⟨⟨q1, q2, q3, q4⟩, ⟨q5, q6, q7, q8, q9, q10⟩, ⟨q11, q12, q13, q14, (va_up_ne _ _ (by decide)).trans q15, (va_up_ne _ _ (by decide)).trans q16⟩, q17⟩, ckB, quB⟩, hRT, hon⟩
  · by_cases x1 : x = 1
    · subst x1
      rw [isE1, if_neg ne10, if_pos rfl] at h1 h2
      by_cases hon0 : on = 0
      · rw [if_pos hon0, if_neg ne10] at h1
        rw [if_pos (hon.symm.trans hon0), if_neg ne10] at h2
        have hrow : LsM 3 = Lif := q16
        rw [hrow] at h2
        cases Lif with
        | nil =>
          rw [if_pos (show nI ([] : List Int32).length = 0 from rfl)] at h2
          simp only [s_Inlet_removeFirst, s_Row_removeFirst, bnd2, Prod.mk.injEq, List.tail_nil] at h1 h2
          obtain ⟨rfl, rfl, rfl⟩ := h1
          obtain ⟨rfl, rfl⟩ := h2
          exact ⟨rfl, ⟨s, c, h, l, q, w, k, S, C, H, L, Q, W, K, En, Ef, Cn, Cf⟩, ⟨⟨⟨p1, p2, p3, p4⟩, ⟨p5, p6, p7, p8, p9, p10⟩, ⟨p11, p12, p13, p14, p15, p16⟩, p17⟩, ckA, quA⟩, ⟨⟨⟨q1, q2, q3, q4⟩, ⟨q5, q6, q7, q8, q9, q10⟩, ⟨q11, q12, q13, q14, q15, q16⟩, q17⟩, ckB, quB⟩, hRT, hon⟩
        | cons d Lif =>
          have hlen := Ef.2.1.1
          rw [if_neg (nI_ne0 (n := (d :: Lif).length) (by simp) (by omega))] at h2
          simp only [s_Inlet_removeFirst, s_Row_removeFirst, s_Model_remove, hrow, bnd2, Prod.mk.injEq, List.tail_cons, List.headD_cons] at h1 h2
          obtain ⟨rfl, rfl, rfl⟩ := h1
          obtain ⟨rfl, rfl⟩ := h2
          have hEK : EndI gf Lif' Lof S C H L Q W K := ⟨Ef.1, CoreL_g Ef.2.1 (fun _ _ => rfl) (ch_tail Ef.2.1.2.2.1) (Nat.le_succ _) Ef.2.1.2.2.2.1 Ef.2.1.2.2.2.2.1, Ef.2.2⟩
          exact ⟨rfl, ⟨s, c, h, l, q, w, k, S, C, H, L, Q, W, K, En, hEK, Cn, Cf⟩, ⟨⟨⟨p1, p2, p3, p4⟩, ⟨p5, p6, p7, p8, p9, p10⟩, ⟨p11, p12, p13, p14, (va_up_ne _ _ (by decide)).trans p15, (va_up_ne _ _ (by decide)).trans p16⟩, p17⟩, ckA, quA⟩, ⟨⟨⟨q1, q2, q3, q4⟩, ⟨q5, q6, q7, q8, q9, q10⟩, ⟨q11, q12, q13, q14, (va_up_ne _ _ (by decide)).trans q15, va_up_self _ _ _⟩, q17⟩, ckB, quB⟩, hRT, hon⟩
      · have hon1 : ¬ tgM = 0 := by rw [← hon]; exact hon0
        rw [if_neg hon0] at h1
        rw [if_neg hon1] at h2
        simp only [Prod.mk.injEq] at h1 h2
        obtain ⟨rfl, rfl, rfl⟩ := h1
        obtain ⟨rfl, rfl⟩ := h2
        exact ⟨rfl, ⟨s, c, h, l, q, w, k, S, C, H, L, Q, W, K, En, Ef, Cn, Cf⟩, ⟨⟨⟨p1, p2, p3, p4⟩, ⟨p5, p6, p7, p8, p9, p10⟩, ⟨p11, p12, p13, p14, p15, p16⟩, p17⟩, ckA, quA⟩, ⟨⟨⟨q1, q2, q3, q4⟩, ⟨q5, q6, q7, q8, q9, q10⟩, ⟨q11, q12, q13, q14, q15, q16⟩, q17⟩, ckB, quB⟩, hRT, hon⟩
    · rw [isEn x0 x1, if_pos rfl] at h1 h2
      simp only [Prod.mk.injEq] at h1 h2
      obtain ⟨rfl, rfl, rfl⟩ := h1
      obtain ⟨rfl, rfl⟩ := h2
      exact ⟨rfl, ⟨s, c, h, l, q, w, k, S, C, H, L, Q, W, K, En, Ef, Cn, Cf⟩, ⟨⟨⟨p1, p2, p3, p4⟩, ⟨p5, p6, p7, p8, p9, p10⟩, ⟨p11, p12, p13, p14, p15, p16⟩, p17⟩, ckA, quA⟩, ⟨⟨⟨q1, q2, q3, q4⟩, ⟨q5, q6, q7, q8, q9, q10⟩, ⟨q11, q12, q13, q14, q15, q16⟩, q17⟩, ckB, quB⟩, hRT, hon⟩
theorem sim_put {gn : Nat → Int32} {Lin : List Int32} {Lon : List Int32} {gf : Nat → Int32} {Lif : List Int32} {Lof : List Int32} {me : Nat → Int32} {fp : Nat → Int32} {kp : Nat} {fa : Nat → Int32} {ka : Nat} {fr : Nat → Int32} {kr : Nat} {tw : Int32} {tc : Int32} {tl : Int32} {on : Int32} {fd : Nat → Int32} {kd : Nat} {stM : Nat → Int32} {ckM : Nat → Int32} {enM : Nat → Int32} {auM : Nat → Int32} {heM : Nat → Int32} {quM : Nat → Int32} {loM : Nat → Int32} {owM : Nat → Int32} {flM : Nat → Int32} {tiM : Nat → Int32} {gdM : Nat → Int32} {akM : Nat → Int32} {spM : Nat → Int32} {seM : Nat → Int32} {sdM : Nat → Int32} {opM : Nat → Int32} {thM : Nat → Int32} {meM : Nat → Int32} {pkM : Nat → Int32} {reM : Nat → Int32} {LsM : Nat → List Int32} {tgM : Int32} {kcM : Nat} {cmM : Int32} {suM : Int32} {kqM : Nat} {drM : Nat → Int32} {T : Nat} {ra rb : Int32} {x : Int32} {y : Int32} {gn' : Nat → Int32} {Lon' : List Int32} {gf' : Nat → Int32} {Lof' : List Int32} {thM' : Nat → Int32} {LsM' : Nat → List Int32} (h : Rel gn Lin Lon gf Lif Lof me fp kp fa ka fr kr tw tc tl on fd kd stM ckM enM auM heM quM loM owM flM tiM gdM akM spM seM sdM opM thM meM pkM reM LsM tgM kcM cmM suM kqM drM T) (h1 : (ra, gn', Lon', gf', Lof') = s_MemoryLink_put gn Lon gf Lof x y) (h2 : (rb, thM', LsM') = s_Model_put thM LsM x y) : ra = rb ∧ Rel gn' Lin Lon' gf' Lif Lof' me fp kp fa ka fr kr tw tc tl on fd kd stM ckM enM auM heM quM loM owM flM tiM gdM akM spM seM sdM opM thM' meM pkM reM LsM' tgM kcM cmM suM kqM drM T := by
  obtain ⟨⟨s, c, h, l, q, w, k, S, C, H, L, Q, W, K, En, Ef, Cn, Cf⟩, ⟨A, ckA, quA⟩, ⟨B, ckB, quB⟩, hRT, hon⟩ := h
  obtain ⟨⟨p1, p2, p3, p4⟩, ⟨p5, p6, p7, p8, p9, p10⟩, ⟨p11, p12, p13, p14, p15, p16⟩, p17⟩ := A
  obtain ⟨⟨q1, q2, q3, q4⟩, ⟨q5, q6, q7, q8, q9, q10⟩, ⟨q11, q12, q13, q14, q15, q16⟩, q17⟩ := B
  unfold s_MemoryLink_put at h1
  unfold s_Model_put at h2
  rw [isM] at h2
  by_cases x0 : x = 0
  · subst x0
    rw [isE0, if_neg ne10] at h1 h2
    by_cases y0 : y < 0
    · rw [if_pos y0] at h1 h2
      simp only [Prod.mk.injEq] at h1 h2
      obtain ⟨rfl, rfl, rfl, rfl, rfl⟩ := h1
      obtain ⟨rfl, rfl, rfl⟩ := h2
      exact ⟨rfl, ⟨s, c, h, l, q, w, k, S, C, H, L, Q, W, K, En, Ef, Cn, Cf⟩, ⟨⟨⟨p1, p2, p3, p4⟩, ⟨p5, p6, p7, p8, p9, p10⟩, ⟨p11, p12, p13, p14, p15, p16⟩, p17⟩, ckA, quA⟩, ⟨⟨⟨q1, q2, q3, q4⟩, ⟨q5, q6, q7, q8, q9, q10⟩, ⟨q11, q12, q13, q14, q15, q16⟩, q17⟩, ckB, quB⟩, hRT, hon⟩
    · rw [if_neg y0] at h1 h2
      have hy := xnat y0
      by_cases y1 : y ≤ 257
      · have hb : y.toNatClampNeg ≤ 257 := xnat_le (n := 257) y0 (Int32.not_lt.mpr y1) (by decide)
        rw [if_pos y1, if_pos rfl] at h1 h2
        have hrow : LsM 0 = Lon := p15
        have hlo := En.2.1.2.2.2.2.1
        rw [hrow] at h2
        by_cases hfull : Lon.length = 64
        · have f1 : s_Outlet_free Lon = 0 := by show nI 64 - nI Lon.length = 0; rw [hfull]; decide
          have f2 : nI Lon.length = 64 := by rw [hfull]; rfl
          rw [if_pos f1] at h1
          rw [if_pos f2] at h2
          simp only [Prod.mk.injEq] at h1 h2
          obtain ⟨rfl, rfl, rfl, rfl, rfl⟩ := h1
          obtain ⟨rfl, rfl, rfl⟩ := h2
          exact ⟨rfl, ⟨s, c, h, l, q, w, k, S, C, H, L, Q, W, K, En, Ef, Cn, Cf⟩, ⟨⟨⟨p1, p2, p3, p4⟩, ⟨p5, p6, p7, p8, p9, p10⟩, ⟨p11, p12, p13, p14, p15, p16⟩, p17⟩, ckA, quA⟩, ⟨⟨⟨q1, q2, q3, q4⟩, ⟨q5, q6, q7, q8, q9, q10⟩, ⟨q11, q12, q13, q14, q15, q16⟩, q17⟩, ckB, quB⟩, hRT, hon⟩
        · have f1 : ¬ s_Outlet_free Lon = 0 := by
            rw [(free_w (k := 0) hlo).1, (free_w (k := 0) hlo).2]; exact nI_ne0 (by omega) (by omega)
          have f2 : ¬ nI Lon.length = 64 := fun h9 => hfull ((nI_eq (b := 64) (by omega) (by decide)).mp h9)
          rw [if_neg f1] at h1
          rw [if_neg f2] at h2
          obtain ⟨z1, z2, z3, z4, z5, z6⟩ := app_tie (th := thM) (Ls := LsM) (e := 0) (t := gn 19) (c := y) p14 hrow (by omega) En.2.1.2.2.2.1 hb hy
          generalize s_Model_append thM LsM 0 y = MA at h2 z1 z2 z3 z4
          generalize s_Outlet_accept (gn 19) Lon y = CA at h1 z1 z2 z5 z6
          obtain ⟨th9, Ls9⟩ := MA
          obtain ⟨t9, L9⟩ := CA
          simp only [bnd2, Prod.mk.injEq] at h1 h2
          dsimp only at z1 z2 z3 z4 z5 z6
          obtain ⟨rfl, rfl, rfl, rfl, rfl⟩ := h1
          obtain ⟨rfl, rfl, rfl⟩ := h2
          have hEK : EndI (upd gn 19 t9) Lin Lon' s c h l q w k := ⟨En.1, CoreL_g En.2.1 (fun _ h9 => pk_un h9) En.2.1.2.2.1 (Nat.le_refl _) z6 (by omega), En.2.2⟩
          have hsz : s_Outlet_size Lon' = nI (LsM' 0).length := by rw [show LsM' 0 = _ from z2]; rfl
          rw [hsz]
          exact ⟨rfl, ⟨s, c, h, l, q, w, k, S, C, H, L, Q, W, K, hEK, Ef, Cn, Cf⟩, ⟨⟨⟨p1, p2, p3, p4⟩, ⟨p5, p6, p7, p8, p9, p10⟩, ⟨p11, p12, p13, z1.trans pk_us.symm, z2, (z4 1 (by decide)).trans p16⟩, p17⟩, ckA, quA⟩, ⟨⟨⟨q1, q2, q3, q4⟩, ⟨q5, q6, q7, q8, q9, q10⟩, ⟨q11, q12, q13, (z3 1 (by decide)).trans q14, (z4 2 (by decide)).trans q15, (z4 3 (by decide)).trans q16⟩, q17⟩, ckB, quB⟩, hRT, hon⟩
      · rw [if_neg y1] at h1 h2
        simp only [Prod.mk.injEq] at h1 h2
        obtain ⟨rfl, rfl, rfl, rfl, rfl⟩ := h1
        obtain ⟨rfl, rfl, rfl⟩ := h2
        exact ⟨rfl, ⟨s, c, h, l, q, w, k, S, C, H, L, Q, W, K, En, Ef, Cn, Cf⟩, ⟨⟨⟨p1, p2, p3, p4⟩, ⟨p5, p6, p7, p8, p9, p10⟩, ⟨p11, p12, p13, p14, p15, p16⟩, p17⟩, ckA, quA⟩, ⟨⟨⟨q1, q2, q3, q4⟩, ⟨q5, q6, q7, q8, q9, q10⟩, ⟨q11, q12, q13, q14, q15, q16⟩, q17⟩, ckB, quB⟩, hRT, hon⟩
  · by_cases x1 : x = 1
    · subst x1
      rw [isE1, if_neg ne10] at h1 h2
      by_cases y0 : y < 0
      · rw [if_pos y0] at h1 h2
        simp only [Prod.mk.injEq] at h1 h2
        obtain ⟨rfl, rfl, rfl, rfl, rfl⟩ := h1
        obtain ⟨rfl, rfl, rfl⟩ := h2
        exact ⟨rfl, ⟨s, c, h, l, q, w, k, S, C, H, L, Q, W, K, En, Ef, Cn, Cf⟩, ⟨⟨⟨p1, p2, p3, p4⟩, ⟨p5, p6, p7, p8, p9, p10⟩, ⟨p11, p12, p13, p14, p15, p16⟩, p17⟩, ckA, quA⟩, ⟨⟨⟨q1, q2, q3, q4⟩, ⟨q5, q6, q7, q8, q9, q10⟩, ⟨q11, q12, q13, q14, q15, q16⟩, q17⟩, ckB, quB⟩, hRT, hon⟩
      · rw [if_neg y0] at h1 h2
        have hy := xnat y0
        by_cases y1 : y ≤ 257
        · have hb : y.toNatClampNeg ≤ 257 := xnat_le (n := 257) y0 (Int32.not_lt.mpr y1) (by decide)
          rw [if_pos y1, if_neg ne10] at h1 h2
          have hrow : LsM 2 = Lof := q15
          have hlo := Ef.2.1.2.2.2.2.1
          rw [hrow] at h2
          by_cases hfull : Lof.length = 64
          · have f1 : s_Outlet_free Lof = 0 := by show nI 64 - nI Lof.length = 0; rw [hfull]; decide
            have f2 : nI Lof.length = 64 := by rw [hfull]; rfl
            rw [if_pos f1] at h1
            rw [if_pos f2] at h2
            simp only [Prod.mk.injEq] at h1 h2
            obtain ⟨rfl, rfl, rfl, rfl, rfl⟩ := h1
            obtain ⟨rfl, rfl, rfl⟩ := h2
            exact ⟨rfl, ⟨s, c, h, l, q, w, k, S, C, H, L, Q, W, K, En, Ef, Cn, Cf⟩, ⟨⟨⟨p1, p2, p3, p4⟩, ⟨p5, p6, p7, p8, p9, p10⟩, ⟨p11, p12, p13, p14, p15, p16⟩, p17⟩, ckA, quA⟩, ⟨⟨⟨q1, q2, q3, q4⟩, ⟨q5, q6, q7, q8, q9, q10⟩, ⟨q11, q12, q13, q14, q15, q16⟩, q17⟩, ckB, quB⟩, hRT, hon⟩
          · have f1 : ¬ s_Outlet_free Lof = 0 := by
              rw [(free_w (k := 0) hlo).1, (free_w (k := 0) hlo).2]; exact nI_ne0 (by omega) (by omega)
            have f2 : ¬ nI Lof.length = 64 := fun h9 => hfull ((nI_eq (b := 64) (by omega) (by decide)).mp h9)
            rw [if_neg f1] at h1
            rw [if_neg f2] at h2
            obtain ⟨z1, z2, z3, z4, z5, z6⟩ := app_tie (th := thM) (Ls := LsM) (e := 1) (t := gf 19) (c := y) q14 hrow (by omega) Ef.2.1.2.2.2.1 hb hy
            generalize s_Model_append thM LsM 1 y = MA at h2 z1 z2 z3 z4
            generalize s_Outlet_accept (gf 19) Lof y = CA at h1 z1 z2 z5 z6
            obtain ⟨th9, Ls9⟩ := MA
            obtain ⟨t9, L9⟩ := CA
            simp only [bnd2, Prod.mk.injEq] at h1 h2
            dsimp only at z1 z2 z3 z4 z5 z6
            obtain ⟨rfl, rfl, rfl, rfl, rfl⟩ := h1
            obtain ⟨rfl, rfl, rfl⟩ := h2
            have hEK : EndI (upd gf 19 t9) Lif Lof' S C H L Q W K := ⟨Ef.1, CoreL_g Ef.2.1 (fun _ h9 => pk_un h9) Ef.2.1.2.2.1 (Nat.le_refl _) z6 (by omega), Ef.2.2⟩
            have hsz : s_Outlet_size Lof' = nI (LsM' 2).length := by rw [show LsM' 2 = _ from z2]; rfl
            rw [hsz]
            exact ⟨rfl, ⟨s, c, h, l, q, w, k, S, C, H, L, Q, W, K, En, hEK, Cn, Cf⟩, ⟨⟨⟨p1, p2, p3, p4⟩, ⟨p5, p6, p7, p8, p9, p10⟩, ⟨p11, p12, p13, (z3 0 (by decide)).trans p14, (z4 0 (by decide)).trans p15, (z4 1 (by decide)).trans p16⟩, p17⟩, ckA, quA⟩, ⟨⟨⟨q1, q2, q3, q4⟩, ⟨q5, q6, q7, q8, q9, q10⟩, ⟨q11, q12, q13, z1.trans pk_us.symm, z2, (z4 3 (by decide)).trans q16⟩, q17⟩, ckB, quB⟩, hRT, hon⟩
        · rw [if_neg y1] at h1 h2
          simp only [Prod.mk.injEq] at h1 h2
          obtain ⟨rfl, rfl, rfl, rfl, rfl⟩ := h1
          obtain ⟨rfl, rfl, rfl⟩ := h2
          exact ⟨rfl, ⟨s, c, h, l, q, w, k, S, C, H, L, Q, W, K, En, Ef, Cn, Cf⟩, ⟨⟨⟨p1, p2, p3, p4⟩, ⟨p5, p6, p7, p8, p9, p10⟩, ⟨p11, p12, p13, p14, p15, p16⟩, p17⟩, ckA, quA⟩, ⟨⟨⟨q1, q2, q3, q4⟩, ⟨q5, q6, q7, q8, q9, q10⟩, ⟨q11, q12, q13, q14, q15, q16⟩, q17⟩, ckB, quB⟩, hRT, hon⟩
    · rw [isEn x0 x1, if_pos rfl] at h1 h2
      simp only [Prod.mk.injEq] at h1 h2
      obtain ⟨rfl, rfl, rfl, rfl, rfl⟩ := h1
      obtain ⟨rfl, rfl, rfl⟩ := h2
      exact ⟨rfl, ⟨s, c, h, l, q, w, k, S, C, H, L, Q, W, K, En, Ef, Cn, Cf⟩, ⟨⟨⟨p1, p2, p3, p4⟩, ⟨p5, p6, p7, p8, p9, p10⟩, ⟨p11, p12, p13, p14, p15, p16⟩, p17⟩, ckA, quA⟩, ⟨⟨⟨q1, q2, q3, q4⟩, ⟨q5, q6, q7, q8, q9, q10⟩, ⟨q11, q12, q13, q14, q15, q16⟩, q17⟩, ckB, quB⟩, hRT, hon⟩

theorem sim_look {gn : Nat → Int32} {Lin : List Int32} {Lon : List Int32} {gf : Nat → Int32} {Lif : List Int32} {Lof : List Int32} {me : Nat → Int32} {fp : Nat → Int32} {kp : Nat} {fa : Nat → Int32} {ka : Nat} {fr : Nat → Int32} {kr : Nat} {tw : Int32} {tc : Int32} {tl : Int32} {on : Int32} {fd : Nat → Int32} {kd : Nat} {stM : Nat → Int32} {ckM : Nat → Int32} {enM : Nat → Int32} {auM : Nat → Int32} {heM : Nat → Int32} {quM : Nat → Int32} {loM : Nat → Int32} {owM : Nat → Int32} {flM : Nat → Int32} {tiM : Nat → Int32} {gdM : Nat → Int32} {akM : Nat → Int32} {spM : Nat → Int32} {seM : Nat → Int32} {sdM : Nat → Int32} {opM : Nat → Int32} {thM : Nat → Int32} {meM : Nat → Int32} {pkM : Nat → Int32} {reM : Nat → Int32} {LsM : Nat → List Int32} {tgM : Int32} {kcM : Nat} {cmM : Int32} {suM : Int32} {kqM : Nat} {drM : Nat → Int32} {T : Nat} {x : Int32} {y : Int32} (h : Rel gn Lin Lon gf Lif Lof me fp kp fa ka fr kr tw tc tl on fd kd stM ckM enM auM heM quM loM owM flM tiM gdM akM spM seM sdM opM thM meM pkM reM LsM tgM kcM cmM suM kqM drM T) : s_MemoryLink_look gn Lin Lon gf Lif Lof x y = s_Model_look stM ckM loM owM LsM flM tiM gdM seM x y := by
  obtain ⟨⟨s, c, h, l, q, w, k, S, C, H, L, Q, W, K, En, Ef, Cn, Cf⟩, ⟨A, ckA, quA⟩, ⟨B, ckB, quB⟩, hRT, hon⟩ := h
  obtain ⟨⟨p1, p2, p3, p4⟩, ⟨p5, p6, p7, p8, p9, p10⟩, ⟨p11, p12, p13, p14, p15, p16⟩, p17⟩ := A
  obtain ⟨⟨q1, q2, q3, q4⟩, ⟨q5, q6, q7, q8, q9, q10⟩, ⟨q11, q12, q13, q14, q15, q16⟩, q17⟩ := B
  unfold s_MemoryLink_look s_Model_look
  rw [isM]
  by_cases x0 : x = 0
  · subst x0
    rw [isE0, if_neg ne10, if_neg ne10, if_pos rfl, if_pos rfl, p1, ckA, p5, p6, show LsM 0 = Lon from p15, show LsM 1 = Lin from p16, p7, p8, p9, p12]
    rfl
  · by_cases x1 : x = 1
    · subst x1
      rw [isE1, if_neg ne10, if_neg ne10, if_neg ne10, if_neg ne10, q1, ckB, q5, q6, show LsM 2 = Lof from q15, show LsM 3 = Lif from q16, q7, q8, q9, q12]
      rfl
    · rw [isEn x0 x1, if_pos rfl, if_pos rfl]
theorem sim_memory {gn : Nat → Int32} {Lin : List Int32} {Lon : List Int32} {gf : Nat → Int32} {Lif : List Int32} {Lof : List Int32} {me : Nat → Int32} {fp : Nat → Int32} {kp : Nat} {fa : Nat → Int32} {ka : Nat} {fr : Nat → Int32} {kr : Nat} {tw : Int32} {tc : Int32} {tl : Int32} {on : Int32} {fd : Nat → Int32} {kd : Nat} {stM : Nat → Int32} {ckM : Nat → Int32} {enM : Nat → Int32} {auM : Nat → Int32} {heM : Nat → Int32} {quM : Nat → Int32} {loM : Nat → Int32} {owM : Nat → Int32} {flM : Nat → Int32} {tiM : Nat → Int32} {gdM : Nat → Int32} {akM : Nat → Int32} {spM : Nat → Int32} {seM : Nat → Int32} {sdM : Nat → Int32} {opM : Nat → Int32} {thM : Nat → Int32} {meM : Nat → Int32} {pkM : Nat → Int32} {reM : Nat → Int32} {LsM : Nat → List Int32} {tgM : Int32} {kcM : Nat} {cmM : Int32} {suM : Int32} {kqM : Nat} {drM : Nat → Int32} {T : Nat} {x : Int32} (h : Rel gn Lin Lon gf Lif Lof me fp kp fa ka fr kr tw tc tl on fd kd stM ckM enM auM heM quM loM owM flM tiM gdM akM spM seM sdM opM thM meM pkM reM LsM tgM kcM cmM suM kqM drM T) : s_MemoryLink_memory me x = s_Model_memory meM x := by
  obtain ⟨_, _, _, ⟨hM, _⟩, _⟩ := h
  simp only [s_MemoryLink_memory, s_Model_memory, bnd]
  by_cases x0 : x < 0
  · rw [if_pos x0, fits0 x0, if_pos rfl]
  · have hx := xnat x0
    rw [if_neg x0]
    by_cases x1 : x < 32
    · have hx3 : x.toNatClampNeg < 32 := xnat_lt (n := 32) x0 (Int32.not_le.mpr x1) (by decide)
      have hn : ¬ 31 < x := by rw [hx]; exact nI_nlt (b := x.toNatClampNeg) (a := 31) (by omega) (by decide)
      rw [if_pos x1, fits1 x0 hn, if_neg ne10]
      have e1 : s_Target_byteAt me x = s_Target_byteAt me (nI x.toNatClampNeg) := by rw [← hx]
      rw [e1, byteAt_in hx3]
      exact (hM _ hx3).1
    · have hn : 31 < x := Int32.not_le.mp fun h9 => x1 (lt32.mpr h9)
      rw [if_neg x1, fits2 x0 hn, if_pos rfl]
theorem sim_commands {gn : Nat → Int32} {Lin : List Int32} {Lon : List Int32} {gf : Nat → Int32} {Lif : List Int32} {Lof : List Int32} {me : Nat → Int32} {fp : Nat → Int32} {kp : Nat} {fa : Nat → Int32} {ka : Nat} {fr : Nat → Int32} {kr : Nat} {tw : Int32} {tc : Int32} {tl : Int32} {on : Int32} {fd : Nat → Int32} {kd : Nat} {stM : Nat → Int32} {ckM : Nat → Int32} {enM : Nat → Int32} {auM : Nat → Int32} {heM : Nat → Int32} {quM : Nat → Int32} {loM : Nat → Int32} {owM : Nat → Int32} {flM : Nat → Int32} {tiM : Nat → Int32} {gdM : Nat → Int32} {akM : Nat → Int32} {spM : Nat → Int32} {seM : Nat → Int32} {sdM : Nat → Int32} {opM : Nat → Int32} {thM : Nat → Int32} {meM : Nat → Int32} {pkM : Nat → Int32} {reM : Nat → Int32} {LsM : Nat → List Int32} {tgM : Int32} {kcM : Nat} {cmM : Int32} {suM : Int32} {kqM : Nat} {drM : Nat → Int32} {T : Nat}  (h : Rel gn Lin Lon gf Lif Lof me fp kp fa ka fr kr tw tc tl on fd kd stM ckM enM auM heM quM loM owM flM tiM gdM akM spM seM sdM opM thM meM pkM reM LsM tgM kcM cmM suM kqM drM T) : s_MemoryLink_commands tc = s_Model_commands cmM := h.2.2.2.1.2.2.2.2.1
theorem sim_status {gn : Nat → Int32} {Lin : List Int32} {Lon : List Int32} {gf : Nat → Int32} {Lif : List Int32} {Lof : List Int32} {me : Nat → Int32} {fp : Nat → Int32} {kp : Nat} {fa : Nat → Int32} {ka : Nat} {fr : Nat → Int32} {kr : Nat} {tw : Int32} {tc : Int32} {tl : Int32} {on : Int32} {fd : Nat → Int32} {kd : Nat} {stM : Nat → Int32} {ckM : Nat → Int32} {enM : Nat → Int32} {auM : Nat → Int32} {heM : Nat → Int32} {quM : Nat → Int32} {loM : Nat → Int32} {owM : Nat → Int32} {flM : Nat → Int32} {tiM : Nat → Int32} {gdM : Nat → Int32} {akM : Nat → Int32} {spM : Nat → Int32} {seM : Nat → Int32} {sdM : Nat → Int32} {opM : Nat → Int32} {thM : Nat → Int32} {meM : Nat → Int32} {pkM : Nat → Int32} {reM : Nat → Int32} {LsM : Nat → List Int32} {tgM : Int32} {kcM : Nat} {cmM : Int32} {suM : Int32} {kqM : Nat} {drM : Nat → Int32} {T : Nat}  (h : Rel gn Lin Lon gf Lif Lof me fp kp fa ka fr kr tw tc tl on fd kd stM ckM enM auM heM quM loM owM flM tiM gdM akM spM seM sdM opM thM meM pkM reM LsM tgM kcM cmM suM kqM drM T) : s_MemoryLink_status tl = s_Model_status suM := h.2.2.2.1.2.2.2.2.2.1
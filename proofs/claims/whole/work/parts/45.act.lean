/-- one character to an outlet -/
theorem app_tie {th : Nat → Int32} {Ls : Nat → List Int32} {e : Nat} {t c : Int32} {L : List Int32} {b : Nat} (ht : th e = t) (hL : Ls (2 * e) = L) (hl : L.length < 64) (hC : ChL L) (hb : b ≤ 257) (hc : c = nI b) :
    (s_Model_append th Ls e c).1 e = (s_Outlet_accept t L c).1 ∧ (s_Model_append th Ls e c).2 (2 * e) = (s_Outlet_accept t L c).2 ∧ (∀ j, j ≠ e → (s_Model_append th Ls e c).1 j = th j) ∧ (∀ j, j ≠ 2 * e → (s_Model_append th Ls e c).2 j = Ls j) ∧ (s_Outlet_accept t L c).2.length ≤ L.length + 1 ∧ ChL (s_Outlet_accept t L c).2 := by
  simp only [s_Model_append, s_Outlet_accept, bnd]
  by_cases h0 : t = 0
  · have h0b : th e = 0 := ht.trans h0
    rw [if_pos h0b, if_pos h0, if_pos h0b]
    have ha : s_Row_append 64 L c = L ++ [c] := by unfold s_Row_append; rw [if_pos hl]
    refine ⟨pk_us.trans h0.symm, ?_, fun j hj => pk_un hj, fun j hj => va_up_ne _ _ hj, ?_, ch_app hC hb hc⟩
    · rw [ha]; exact (va_up_self _ _ _).trans (by rw [hL])
    · rw [ha]; simp
  · have h0b : ¬ th e = 0 := by rw [ht]; exact h0
    rw [if_neg h0b, if_neg h0, if_neg h0b]
    exact ⟨pk_us, hL, fun j hj => pk_un hj, fun j _ => rfl, Nat.le_succ _, hC⟩
theorem acc_loop {fr re mm pk : Nat → Int32} {kr kc : Nat} {cm su : Int32} (hkr : kr ≤ 40) (hfr : ∀ i, i < kr → fr i = re i ∧ ∃ b : Nat, b ≤ 257 ∧ re i = nI b) :
    ∀ (n j : Nat) (t : Int32) (L : List Int32) (th : Nat → Int32) (Ls : Nat → List Int32), j + n = kr → th 1 = t → Ls 2 = L → L.length + n ≤ 64 → ChL L →
    ∃ th' Ls', lp_work mm pk kc cm su re kr n j th Ls = (mm, pk, kc, cm, su, re, 0, th', Ls') ∧ th' 1 = (lp_acceptAll 40 fr kr n j t L).1 ∧ Ls' 2 = (lp_acceptAll 40 fr kr n j t L).2 ∧ (∀ j, j ≠ 1 → th' j = th j) ∧ (∀ j, j ≠ 2 → Ls' j = Ls j) ∧ (lp_acceptAll 40 fr kr n j t L).2.length ≤ 64 ∧ ChL (lp_acceptAll 40 fr kr n j t L).2 := by
  intro n
  induction n with
  | zero => intro j t L th Ls _ ht hL hl hC; exact ⟨th, Ls, rfl, ht, hL, fun _ _ => rfl, fun _ _ => rfl, hl, hC⟩
  | succ n ih =>
    intro j t L th Ls hj ht hL hl hC
    have hn : ¬ nI kr ≤ nI j := nI_ge (by omega) (by omega)
    obtain ⟨f1, b, f2, f3⟩ := hfr j (by omega)
    obtain ⟨a1, a2, a3, a4, a5, a6⟩ := app_tie (th := th) (Ls := Ls) (e := 1) (c := re j) ht hL (by omega) hC f2 f3
    obtain ⟨th', Ls', k1, k2, k3, k4, k5, k6, k7⟩ := ih (j + 1) _ _ _ _ (by omega) a1 a2 (by omega) a6
    have h1 : lp_acceptAll 40 fr kr (n + 1) j t L = lp_acceptAll 40 fr kr n (j + 1) (s_Outlet_accept t L (re j)).1 (s_Outlet_accept t L (re j)).2 := by
      rw [lp_acceptAll, if_neg hn, at_g (by omega) (by omega) (by omega) (by decide), f1]
      rfl
    have h2 : lp_work mm pk kc cm su re kr (n + 1) j th Ls = lp_work mm pk kc cm su re kr n (j + 1) (s_Model_append th Ls 1 (re j)).1 (s_Model_append th Ls 1 (re j)).2 := by
      rw [lp_work, if_neg hn]
      rfl
    rw [h1, h2]
    exact ⟨th', Ls', k1, k2, k3, fun i hi => (k4 i hi).trans (a3 i hi), fun i hi => (k5 i hi).trans (a4 i hi), k6, k7⟩
/-- the target's reply on its way: as the program keeps it and as the reference keeps it -/
def RW (fr re : Nat → Int32) (kr kq : Nat) (tw : Int32) : Prop := (tw = 0 ∧ kq = 0) ∨ (tw = 1 ∧ kr = kq ∧ 0 < kq ∧ kq ≤ 40 ∧ ∀ i, i < kq → fr i = re i ∧ ∃ b : Nat, b ≤ 257 ∧ re i = nI b)
theorem free_w {L : List Int32} {k : Nat} (hl : L.length ≤ 64) : s_Outlet_free L = 64 - nI L.length ∧ 64 - nI L.length = nI (64 - L.length) := ⟨rfl, pk_sub (a := 64) (b := L.length) hl⟩
theorem srep_tie {fr re mm pk : Nat → Int32} {kr kq kc : Nat} {cm su tw t : Int32} {L : List Int32} {th : Nat → Int32} {Ls : Nat → List Int32} (hw : RW fr re kr kq tw) (ht : th 1 = t) (hL : Ls 2 = L) (hl : L.length ≤ 64) (hC : ChL L) :
    ∃ th' Ls' kq', s_Model_work_25 th mm pk kc cm su re kq Ls = (mm, pk, kc, cm, su, re, kq', th', Ls') ∧ RW fr re kr kq' (s_Target_sendReply fr kr tw t L).1 ∧ kq' ≤ kq ∧ th' 1 = (s_Target_sendReply fr kr tw t L).2.1 ∧ Ls' 2 = (s_Target_sendReply fr kr tw t L).2.2 ∧ (∀ j, j ≠ 1 → th' j = th j) ∧ (∀ j, j ≠ 2 → Ls' j = Ls j) ∧ (s_Target_sendReply fr kr tw t L).2.2.length ≤ 64 ∧ ChL (s_Target_sendReply fr kr tw t L).2.2 := by
  unfold s_Target_sendReply s_Model_work_25
  rcases hw with ⟨rfl, rfl⟩ | ⟨rfl, rfl, h3, h4, h5⟩
  · rw [if_pos rfl, if_pos (by decide)]
    exact ⟨th, Ls, 0, rfl, Or.inl ⟨rfl, rfl⟩, Nat.le_refl _, ht, hL, fun _ _ => rfl, fun _ _ => rfl, hl, hC⟩
  · have h1 : ¬ nI kr ≤ 0 := nI_nle h3 (by omega)
    obtain ⟨w1, w2⟩ := free_w (k := kr) hl
    rw [if_neg (show ¬ (1 : Int32) = 0 by decide), if_neg h1, w1, w2, hL, w2]
    by_cases hf : nI (64 - L.length) < nI kr
    · rw [if_pos hf, if_pos hf]
      exact ⟨th, Ls, kr, rfl, Or.inr ⟨rfl, rfl, h3, h4, h5⟩, Nat.le_refl _, ht, hL, fun _ _ => rfl, fun _ _ => rfl, hl, hC⟩
    · have hfn : kr ≤ 64 - L.length := Nat.le_of_not_lt fun h9 => hf (nI_lt h9 (by omega))
      rw [if_neg hf, if_neg hf]
      obtain ⟨th', Ls', k1, k2, k3, k4, k5, k6, k7⟩ := acc_loop (mm := mm) (pk := pk) (kc := kc) (cm := cm) (su := su) h4 h5 kr 0 t L th Ls (by omega) ht hL (by omega) hC
      exact ⟨th', Ls', 0, k1, Or.inl ⟨rfl, rfl⟩, Nat.zero_le _, k2, k3, k4, k5, k6, k7⟩
/-- the target, as the program keeps it and as the reference keeps it -/
def RT (me fp fr : Nat → Int32) (kp ka kr : Nat) (tw tc tl : Int32) (mm pk re : Nat → Int32) (kc kq : Nat) (cm su : Int32) (T : Nat) : Prop :=
  MR me mm ∧ (kp = kc ∧ kc ≤ T ∧ ∀ i, i < kp → i < 40 → fp i = pk i) ∧ BF fp ∧ BF pk ∧ tc = cm ∧ tl = su ∧ (ka ≤ 16 ∧ kr ≤ 40 ∧ kq ≤ 40) ∧ RW fr re kr kq tw
theorem bf_upd {f : Nat → Int32} {k : Nat} {x : Int32} (h : BF f) (hx : By x) : BF (upd f k x) := by
  intro i
  by_cases hi : i = k
  · subst hi; rw [pk_us]; exact hx
  · rw [pk_un hi]; exact h i
theorem holds_tie {fp pk : Nat → Int32} {kp : Nat} (h : ∀ i, i < kp → i < 40 → fp i = pk i) (hb : BF pk) (hk : kp < 1048576) : s_Target_holdsCommand fp kp = if nI kp ≤ 8 then 0 else if pk 0 = 254 then (if pk 1 = 1 then (if pk 8 = s_Model_checkOf pk 0 8 then 1 else 0) else 0) else 0 := by
  simp only [s_Target_holdsCommand, bnd]
  by_cases h8 : nI kp ≤ 8
  · rw [if_pos h8, if_pos h8]
  · have h8n : 8 < kp := Nat.lt_of_not_le fun h9 => h8 (nI_le (b := 8) h9 (by decide))
    have a0 : s_Packet_at 40 fp kp 0 = pk 0 := at_eq h hk (i := 0) (by omega) (by omega)
    have a1 : s_Packet_at 40 fp kp 1 = pk 1 := at_eq h hk (i := 1) (by omega) (by omega)
    have a8 : s_Packet_at 40 fp kp 8 = pk 8 := at_eq h hk (i := 8) (by omega) (by omega)
    rw [if_neg h8, if_neg h8, a0, a1, a8, chk_eq h hb hk (by omega) (by omega)]
/-- what the target's turn keeps -/
def ActT (me' fp' fr' : Nat → Int32) (kp' ka' kr' : Nat) (tw' tc' tl' : Int32) (g g' : Nat → Int32) (Li Li' Lo' : List Int32) (mm' pk' re' : Nat → Int32) (kc' kq' : Nat) (cm' su' : Int32) (th th' : Nat → Int32) (Ls Ls' : Nat → List Int32) (T : Nat) : Prop :=
  RT me' fp' fr' kp' ka' kr' tw' tc' tl' mm' pk' re' kc' kq' cm' su' (T + 1) ∧ (th' 1 = g' 19 ∧ Ls' 2 = Lo' ∧ Ls' 3 = Li') ∧ (∀ k, k ≠ 19 → g' k = g k) ∧ (th' 0 = th 0 ∧ Ls' 0 = Ls 0 ∧ Ls' 1 = Ls 1) ∧ ChL Li' ∧ Li'.length ≤ Li.length ∧ ChL Lo' ∧ Lo'.length ≤ 64
/-- behind the collecting: a reply that waits is sent -/
theorem fin_act {me' fp' fr' : Nat → Int32} {kp' ka' kr' : Nat} {tw1 tc' tl' : Int32} {g : Nat → Int32} {Li Li' Lo : List Int32} {mm' pk' re' : Nat → Int32} {kc' kq1 : Nat} {cm' su' : Int32} {th : Nat → Int32} {Ls Ls1 : Nat → List Int32} {T : Nat}
    (hR : RT me' fp' fr' kp' ka' kr' tw1 tc' tl' mm' pk' re' kc' kq1 cm' su' (T + 1)) (ht : th 1 = g 19) (hL2 : Ls1 2 = Lo) (hL3 : Ls1 3 = Li') (hL0 : Ls1 0 = Ls 0) (hL1 : Ls1 1 = Ls 1) (hC : ChL Li') (hl : Li'.length ≤ Li.length) (hCo : ChL Lo) (hlo : Lo.length ≤ 64)
    {mm2 pk2 re2 th2 : Nat → Int32} {kc2 kq2 : Nat} {cm2 su2 : Int32} {Ls2 : Nat → List Int32}
    (e2 : (mm2, pk2, kc2, cm2, su2, re2, kq2, th2, Ls2) = s_Model_work_25 th mm' pk' kc' cm' su' re' kq1 Ls1) :
    ActT me' fp' fr' kp' ka' kr' (s_Target_sendReply fr' kr' tw1 (g 19) Lo).1 tc' tl' g (upd g 19 (s_Target_sendReply fr' kr' tw1 (g 19) Lo).2.1) Li Li' (s_Target_sendReply fr' kr' tw1 (g 19) Lo).2.2 mm2 pk2 re2 kc2 kq2 cm2 su2 th th2 Ls Ls2 T := by
  obtain ⟨r1, r2, r3, r4, r5, r6, r7, r8⟩ := hR
  obtain ⟨th', Ls', kq', k1, k2, k3, k4, k5, k6, k7, k8, k9⟩ := srep_tie (mm := mm') (pk := pk') (kc := kc') (cm := cm') (su := su') r8 ht hL2 hlo hCo
  rw [k1] at e2
  simp only [Prod.mk.injEq] at e2
  obtain ⟨rfl, rfl, rfl, rfl, rfl, rfl, rfl, rfl, rfl⟩ := e2
  exact ⟨⟨r1, r2, r3, r4, r5, r6, ⟨r7.1, r7.2.1, Nat.le_trans k3 r7.2.2⟩, k2⟩, ⟨k4.trans pk_us.symm, k5, (k7 3 (by decide)).trans hL3⟩, fun k hk => pk_un hk, ⟨k6 0 (by decide), (k7 0 (by decide)).trans hL0, (k7 1 (by decide)).trans hL1⟩, hC, hl, k9, k8⟩
theorem act_tie {me fp fa fr : Nat → Int32} {kp ka kr : Nat} {tw tc tl : Int32} {g : Nat → Int32} {Li Lo : List Int32} {mm pk re : Nat → Int32} {kc kq : Nat} {cm su : Int32} {th : Nat → Int32} {Ls : Nat → List Int32} {T : Nat}
    (hR : RT me fp fr kp ka kr tw tc tl mm pk re kc kq cm su T) (hT : T < 1048575) (ht : th 1 = g 19) (hL2 : Ls 2 = Lo) (hL3 : Ls 3 = Li) (hC : ChL Li) (hli : Li.length ≤ 64) (hCo : ChL Lo) (hlo : Lo.length ≤ 64)
    {me' fp' fa' fr' g' : Nat → Int32} {kp' ka' kr' : Nat} {tw' tc' tl' : Int32} {Li' Lo' : List Int32} {mm' pk' re' th' : Nat → Int32} {kc' kq' : Nat} {cm' su' : Int32} {Ls' : Nat → List Int32}
    (e1 : (me', fp', kp', fa', ka', fr', kr', tw', tc', tl', g', Li', Lo') = s_Target_act me fp kp fa ka fr kr tw tc tl g Li Lo) (e2 : (mm', pk', kc', cm', su', re', kq', th', Ls') = s_Model_work mm pk kc cm su re kq th Ls) :
    ActT me' fp' fr' kp' ka' kr' tw' tc' tl' g g' Li Li' Lo' mm' pk' re' kc' kq' cm' su' th th' Ls Ls' T := by
  have hR0 := hR
  obtain ⟨r1, ⟨rfl, r2, r3⟩, r4, r5, rfl, rfl, r7, r8⟩ := hR
  have hk : kp < 1048576 := by omega
  -- nothing waits and nothing is obeyed: the reply's side stays
  have noR : ∀ {me0 : Nat → Int32}, tw = 0 → kq = 0 → ∀ {Ls1 : Nat → List Int32} {mm0 pk0 : Nat → Int32} {kc0 : Nat}, s_Model_work_25 th mm0 pk0 kc0 tc tl re kq Ls1 = (mm0, pk0, kc0, tc, tl, re, 0, th, Ls1) := by
    intro me0 h1 h2 Ls1 mm0 pk0 kc0
    subst h2
    unfold s_Model_work_25
    rw [if_pos (by decide)]
  unfold s_Target_act at e1
  unfold s_Model_work at e2
  by_cases htw : tw = 0
  · have hkq : kq = 0 := by
      rcases r8 with h9 | h9
      · exact h9.2
      · exact absurd (htw.symm.trans h9.1) (by decide)
    subst htw hkq
    rw [if_pos rfl] at e1
    rw [if_pos (show nI 0 = 0 from rfl), hL3] at e2
    cases Li with
    | nil =>
      rw [if_pos (show nI ([] : List Int32).length ≤ 0 by decide), noR (me0 := me) rfl rfl] at e2
      rw [bnd2_eq (a := (-3 : Int32)) (b := ([] : List Int32)) (show ((-3 : Int32), ([] : List Int32)) = s_Inlet_removeFirst [] from rfl), if_pos rfl] at e1
      simp only [Prod.mk.injEq] at e1 e2
      obtain ⟨rfl, rfl, rfl, rfl, rfl, rfl, rfl, rfl, rfl, rfl, rfl, rfl, rfl⟩ := e1
      obtain ⟨rfl, rfl, rfl, rfl, rfl, rfl, rfl, rfl, rfl⟩ := e2
      exact ⟨⟨r1, ⟨rfl, by omega, r3⟩, r4, r5, rfl, rfl, r7, r8⟩, ⟨ht, hL2, hL3⟩, fun _ _ => rfl, ⟨rfl, rfl, rfl⟩, hC, Nat.le_refl _, hCo, hlo⟩
    | cons d Li =>
      have hn : ¬ nI (d :: Li).length ≤ 0 := nI_nle (by simp) (by omega)
      rw [if_neg hn] at e2
      have hrm : s_Model_remove Ls 3 = (d, va_up Ls 3 Li) := by unfold s_Model_remove; rw [hL3]; rfl
      rw [bnd2_eq hrm.symm] at e2
      rw [bnd2_eq (a := d) (b := Li) (show (d, Li) = s_Inlet_removeFirst (d :: Li) from rfl)] at e1
      obtain ⟨b, hb, hd⟩ := hC d List.mem_cons_self
      have hd3 : ¬ d = -3 := by intro h9; rw [hd] at h9; exact nI_pos (n := b) (by omega) (by rw [h9]; decide)
      rw [if_neg hd3] at e1
      have hC2 : ChL Li := ch_tail hC
      have hl2 : Li.length ≤ (d :: Li).length := by simp
      have v0 : va_up Ls 3 Li 0 = Ls 0 := va_up_ne _ _ (by decide)
      have v1 : va_up Ls 3 Li 1 = Ls 1 := va_up_ne _ _ (by decide)
      have v2 : va_up Ls 3 Li 2 = Lo := (va_up_ne _ _ (by decide)).trans hL2
      have v3 : va_up Ls 3 Li 3 = Li := va_up_self _ _ _
      unfold s_Model_collect s_Model_collect_96 at e2
      -- the packet is dropped
      have CLR : (me', fp', kp', fa', ka', fr', kr', tw', tc', tl', g', Li', Lo') = (me, fp, 0, fa, ka, fr, kr, (0 : Int32), tc, tl, g, Li, Lo) → (mm', pk', kc', cm', su', re', kq', th', Ls') = s_Model_work_25 th mm pk 0 tc tl re 0 (va_up Ls 3 Li) → ActT me' fp' fr' kp' ka' kr' tw' tc' tl' g g' (d :: Li) Li' Lo' mm' pk' re' kc' kq' cm' su' th th' Ls Ls' T := by
        intro e1 e2
        rw [noR (me0 := me) rfl rfl] at e2
        simp only [Prod.mk.injEq] at e1 e2
        obtain ⟨rfl, rfl, rfl, rfl, rfl, rfl, rfl, rfl, rfl, rfl, rfl, rfl, rfl⟩ := e1
        obtain ⟨rfl, rfl, rfl, rfl, rfl, rfl, rfl, rfl, rfl⟩ := e2
        exact ⟨⟨r1, ⟨rfl, by omega, fun i hi => absurd hi (by omega)⟩, r4, r5, rfl, rfl, r7, r8⟩, ⟨ht, v2, v3⟩, fun _ _ => rfl, ⟨rfl, v0, v1⟩, hC2, hl2, hCo, hlo⟩
      by_cases h256 : 256 ≤ d
      · have hid : s_MemoryLink_isData d = 0 := by show (if 256 ≤ d then (0 : Int32) else 1) = 0; rw [if_pos h256]
        rw [if_pos hid] at e1
        rw [if_pos h256] at e2
        by_cases hd256 : d = 256
        · rw [if_pos hd256, holds_tie r3 r5 hk] at e1
          rw [if_pos hd256] at e2
          by_cases c1 : nI kp ≤ 8
          · rw [if_pos c1, if_pos rfl] at e1
            rw [if_pos c1] at e2
            exact CLR e1 e2
          · rw [if_neg c1] at e1 e2
            by_cases c2 : pk 0 = 254
            · rw [if_pos c2] at e1 e2
              by_cases c3 : pk 1 = 1
              · rw [if_pos c3] at e1 e2
                by_cases c4 : pk 8 = s_Model_checkOf pk 0 8
                · rw [if_pos c4, if_neg (show ¬ (1 : Int32) = 0 by decide)] at e1
                  rw [if_pos c4] at e2
                  have h8n : 8 < kp := Nat.lt_of_not_le fun h9 => c1 (nI_le (b := 8) h9 (by decide))
                  have hO := obey_tie r3 r5 hk h8n (me := me) (mm := mm) (fa := fa) (fr := fr) (re := re) (ka := ka) (kr := kr) (tc := tc) (cm := tc) (tl := tl) rfl r1
                    (me' := (s_Target_obey me fp kp fa ka fr kr 0 tc tl).1) (fa' := (s_Target_obey me fp kp fa ka fr kr 0 tc tl).2.1) (ka' := (s_Target_obey me fp kp fa ka fr kr 0 tc tl).2.2.1) (fr' := (s_Target_obey me fp kp fa ka fr kr 0 tc tl).2.2.2.1) (kr' := (s_Target_obey me fp kp fa ka fr kr 0 tc tl).2.2.2.2.1) (tw' := (s_Target_obey me fp kp fa ka fr kr 0 tc tl).2.2.2.2.2.1) (tc' := (s_Target_obey me fp kp fa ka fr kr 0 tc tl).2.2.2.2.2.2.1) (tl' := (s_Target_obey me fp kp fa ka fr kr 0 tc tl).2.2.2.2.2.2.2)
                    (mm' := (s_Model_obey mm pk kp tc re 0).1) (cm' := (s_Model_obey mm pk kp tc re 0).2.1) (su' := (s_Model_obey mm pk kp tc re 0).2.2.1) (re' := (s_Model_obey mm pk kp tc re 0).2.2.2.1) (kq' := (s_Model_obey mm pk kp tc re 0).2.2.2.2) rfl rfl
                  generalize s_Target_obey me fp kp fa ka fr kr 0 tc tl = CO at e1 hO
                  generalize s_Model_obey mm pk kp tc re 0 = MO at e2 hO
                  obtain ⟨me9, fa9, ka9, fr9, kr9, tw9, tc9, tl9⟩ := CO
                  obtain ⟨mm9, cm9, su9, re9, kq9⟩ := MO
                  dsimp only at hO
                  rw [bnd8_eq (show (me9, fa9, ka9, fr9, kr9, tw9, tc9, tl9) = (me9, fa9, ka9, fr9, kr9, tw9, tc9, tl9) from rfl)] at e1
                  rw [bnd5_eq (show (mm9, cm9, su9, re9, kq9) = (mm9, cm9, su9, re9, kq9) from rfl), bnd7_eq (show (mm9, pk, 0, cm9, su9, re9, kq9) = (mm9, pk, 0, cm9, su9, re9, kq9) from rfl)] at e2
                  obtain ⟨o1, o2, o3, o4, o5⟩ := hO
                  have hW9 : RW fr9 re9 kr9 kq9 tw9 := by
                    rcases o5 with o5 | o5
                    · exact Or.inl ⟨o5.1, o5.2.1⟩
                    · exact Or.inr o5
                  have hb9 : kr9 ≤ 40 ∧ kq9 ≤ 40 := by
                    rcases o5 with o5 | o5
                    · have := r7.2.1
                      exact ⟨by rw [o5.2.2.2]; exact this, by omega⟩
                    · exact ⟨by rw [o5.2.1]; exact o5.2.2.2.1, o5.2.2.2.1⟩
                  have hR9 : RT me9 fp fr9 0 ka9 kr9 tw9 tc9 tl9 mm9 pk re9 0 kq9 cm9 su9 (T + 1) := ⟨o1, ⟨rfl, by omega, fun i hi => absurd hi (by omega)⟩, r4, r5, o2, o3, ⟨o4, hb9.1, hb9.2⟩, hW9⟩
                  have hF := fin_act (Li := d :: Li) hR9 ht v2 v3 v0 v1 hC2 hl2 hCo hlo e2
                  simp only [bnd3, bnd, s_Packet_clear, Prod.mk.injEq] at e1
                  obtain ⟨rfl, rfl, rfl, rfl, rfl, rfl, rfl, rfl, rfl, rfl, rfl, rfl, rfl⟩ := e1
                  exact hF
                · rw [if_neg c4, if_pos rfl] at e1
                  rw [if_neg c4] at e2
                  exact CLR e1 e2
              · rw [if_neg c3, if_pos rfl] at e1
                rw [if_neg c3] at e2
                exact CLR e1 e2
            · rw [if_neg c2, if_pos rfl] at e1
              rw [if_neg c2] at e2
              exact CLR e1 e2
        · rw [if_neg hd256] at e1 e2
          exact CLR e1 e2
      · have hid : ¬ s_MemoryLink_isData d = 0 := by show ¬ (if 256 ≤ d then (0 : Int32) else 1) = 0; rw [if_neg h256]; decide
        rw [if_neg hid] at e1
        rw [if_neg h256] at e2
        have hby : By d := by
          refine ⟨b, Nat.lt_of_not_le fun h9 => h256 ?_, hd⟩
          rw [hd]; exact nI_le (a := 256) h9 (by omega)
        unfold s_Packet_add at e1
        by_cases c40 : nI 40 ≤ nI kp
        · rw [if_pos c40] at e1
          have c40b : (40 : Int32) ≤ nI kp := c40
          rw [if_pos c40b, bnd7_eq (show (mm, pk, kp + 1, tc, tl, re, 0) = (mm, pk, kp + 1, tc, tl, re, 0) from rfl), noR (me0 := me) rfl rfl] at e2
          rw [bnd2_eq (show (fp, kp + 1) = (fp, kp + 1) from rfl)] at e1
          simp only [Prod.mk.injEq] at e1 e2
          obtain ⟨rfl, rfl, rfl, rfl, rfl, rfl, rfl, rfl, rfl, rfl, rfl, rfl, rfl⟩ := e1
          obtain ⟨rfl, rfl, rfl, rfl, rfl, rfl, rfl, rfl, rfl⟩ := e2
          have hk40 := (nI_leI (a := 40) (b := kp) (by decide) (by omega)).mp c40
          exact ⟨⟨r1, ⟨rfl, by omega, fun i h1 h2 => r3 i (by omega) h2⟩, r4, r5, rfl, rfl, r7, r8⟩, ⟨ht, v2, v3⟩, fun _ _ => rfl, ⟨rfl, v0, v1⟩, hC2, hl2, hCo, hlo⟩
        · rw [if_neg c40] at e1
          have c40b : ¬ (40 : Int32) ≤ nI kp := c40
          rw [if_neg c40b, bnd7_eq (show (mm, upd pk kp d, kp + 1, tc, tl, re, 0) = (mm, upd pk kp d, kp + 1, tc, tl, re, 0) from rfl), noR (me0 := me) rfl rfl] at e2
          rw [bnd2_eq (show (upd fp kp d, kp + 1) = (upd fp kp d, kp + 1) from rfl)] at e1
          simp only [Prod.mk.injEq] at e1 e2
          obtain ⟨rfl, rfl, rfl, rfl, rfl, rfl, rfl, rfl, rfl, rfl, rfl, rfl, rfl⟩ := e1
          obtain ⟨rfl, rfl, rfl, rfl, rfl, rfl, rfl, rfl, rfl⟩ := e2
          refine ⟨⟨r1, ⟨rfl, by omega, fun i h1 h2 => ?_⟩, bf_upd r4 hby, bf_upd r5 hby, rfl, rfl, r7, r8⟩, ⟨ht, v2, v3⟩, fun _ _ => rfl, ⟨rfl, v0, v1⟩, hC2, hl2, hCo, hlo⟩
          by_cases hik : i = kp
          · subst hik; rw [pk_us, pk_us]
          · rw [pk_un hik, pk_un hik]; exact r3 i (by omega) h2
  · have hkq : ¬ nI kq = 0 := by
      rcases r8 with h9 | h9
      · exact absurd h9.1 htw
      · exact nI_ne0 h9.2.2.1 (by omega)
    rw [if_neg htw] at e1
    rw [if_neg hkq] at e2
    have hR1 : RT me fp fr kp ka kr tw tc tl mm pk re kp kq tc tl (T + 1) := ⟨r1, ⟨rfl, by omega, r3⟩, r4, r5, rfl, rfl, r7, r8⟩
    have hF := fin_act (Li := Li) hR1 ht hL2 hL3 rfl rfl hC (Nat.le_refl _) hCo hlo e2
    simp only [bnd3, Prod.mk.injEq] at e1
    obtain ⟨rfl, rfl, rfl, rfl, rfl, rfl, rfl, rfl, rfl, rfl, rfl, rfl, rfl⟩ := e1
    exact hF

theorem fl1 : ∀ f : Nat, f < 32 → ((nI f &&& 1 = 0 ↔ ¬ nI f - nI f / 2 * 2 = 1) ∧ (nI f &&& 2 = 0 ↔ ¬ nI f / 2 - nI f / 2 / 2 * 2 = 1) ∧ (nI f &&& 4 = 0 ↔ ¬ nI f / 4 - nI f / 4 / 2 * 2 = 1) ∧ (nI f &&& 8 = 0 ↔ ¬ nI f / 8 - nI f / 8 / 2 * 2 = 1) ∧ (nI f &&& 16 = 0 ↔ ¬ nI f / 16 = 1)) := by decide +kernel
theorem x3hi {a : Nat} (h : a ≤ 65535) : nI a >>> (8 &&& 31) = nI a / 256 ∧ nI a / 256 = nI (a / 256) ∧ a / 256 < 256 := by
  have h1 : nI a / 256 = nI (a / 256) := pk_div (a := a) (d := 256) (by omega) (by decide) (by decide)
  refine ⟨?_, h1, by omega⟩
  rw [h1]
  apply Int32.toInt_inj.mp
  rw [pk_shr (nI a) (8 &&& 31) 8 (by decide), nI_toInt (by omega), nI_toInt (by omega)]
  rw [Int.shiftRight_eq_div_pow]
  omega
theorem lo8 {a : Nat} (h : a < 1048576) : nI a &&& 255 = nI a - nI a / 256 * 256 ∧ nI a - nI a / 256 * 256 = nI (a % 256) := by
  have h1 : nI a - nI a / 256 * 256 = nI (a % 256) := pk_rem (a := a) (d := 256) (by omega) (by decide) (by decide)
  refine ⟨?_, h1⟩
  rw [h1, pk_and (nI a) (m := 255) 8 (by decide), pk_tn (by omega)]
theorem x1b {x : Int32} (h : By x) : By (x ^^^ 1) := by
  obtain ⟨a, ha, rfl⟩ := h
  obtain ⟨c, hc, e⟩ := xorb (b := 1) ha (by decide)
  exact ⟨c, hc, e⟩
theorem crc8 {α : Type} {d : Nat → Int32} {K : Int32 → α} : bnd (α := Int32) (s_Model_mixed 0 (d 0)) (fun cx39 => bnd (α := Int32) (s_Model_mixed cx39 (d 1)) (fun cx41 => bnd (α := Int32) (s_Model_mixed cx41 (d 2)) (fun cx43 => bnd (α := Int32) (s_Model_mixed cx43 (d 3)) (fun cx45 => bnd (α := Int32) (s_Model_mixed cx45 (d 4)) (fun cx47 => bnd (α := Int32) (s_Model_mixed cx47 (d 5)) (fun cx49 => bnd (α := Int32) (s_Model_mixed cx49 (d 6)) (fun cx51 => bnd (α := Int32) (s_Model_mixed cx51 (d 7)) (fun cx53 => K cx53)))))))) = K (crc d 8 0 0) := rfl
/-- the data of a command -/
def cD (a : Nat) : Nat → Int32 := fun j => nI ((a + j) % 256)
theorem cD_b (a j : Nat) : By (cD a j) := ⟨_, Nat.mod_lt _ (by decide), rfl⟩
theorem mcom_loop {th : Nat → Int32} {Ls : Nat → List Int32} {x6 x7 y16 : Int32} {ln n3 a : Nat} (h6 : x6 = nI a) (ha : a < 256) (hln : ln ≤ 24) :
    ∀ (n j : Nat) (xc : Int32) (dr3 : Nat → Int32), j + n = ln → ∃ dr', lp_mcom th Ls x6 x7 ln y16 n3 n j xc dr3 = s_Model_command_365 th Ls x7 ln y16 n3 (crc (cD a) n j xc) dr' ∧ (∀ i, i < 9 + j → dr' i = dr3 i) ∧ (∀ i, j ≤ i → i < ln → dr' (9 + i) = cD a i) := by
  intro n
  induction n with
  | zero => intro j xc dr3 hj; exact ⟨dr3, rfl, fun _ _ => rfl, fun i h1 h2 => by omega⟩
  | succ n ih =>
    intro j xc dr3 hj
    have hd : x6 + nI j - (x6 + nI j) / 256 * 256 = cD a j := by rw [h6, nI_add]; exact (lo8 (by omega)).2
    obtain ⟨dr', k1, k2, k3⟩ := ih (j + 1) (s_Model_mixed xc (cD a j)) (upd dr3 (9 + j) (cD a j)) (by omega)
    refine ⟨dr', ?_, fun i hi => (k2 i (by omega)).trans (pk_un (by omega)), fun i h1 h2 => ?_⟩
    · rw [lp_mcom, if_neg (nI_ge (by omega) (by omega)), hd, k1]; rfl
    · by_cases hij : i = j
      · subst hij; rw [k2 (9 + i) (by omega), pk_us]
      · exact k3 i (by omega) h2
theorem ddata_loop {x6 x7 : Int32} {ln a : Nat} (h6 : x6 = nI a) (ha : a < 256) (hln : ln ≤ 24) :
    ∀ (n j : Nat) (fd : Nat → Int32), j + n = ln → ∃ fd', lp_draftData ln x6 x7 n j fd (9 + j) = lp_draftData ln x6 x7 0 ln fd' (9 + ln) ∧ (∀ i, i < 9 + j → fd' i = fd i) ∧ (∀ i, j ≤ i → i < ln → fd' (9 + i) = cD a i) := by
  intro n
  induction n with
  | zero => intro j fd hj; have hjl : j = ln := by omega
            subst hjl; exact ⟨fd, rfl, fun _ _ => rfl, fun i h1 h2 => by omega⟩
  | succ n ih =>
    intro j fd hj
    have hd : (x6 + nI j) &&& 255 = cD a j := by rw [h6, nI_add]; exact (lo8 (by omega)).1.trans (lo8 (by omega)).2
    obtain ⟨fd', k1, k2, k3⟩ := ih (j + 1) (upd fd (9 + j) (cD a j)) (by omega)
    refine ⟨fd', ?_, fun i hi => (k2 i (by omega)).trans (pk_un (by omega)), fun i h1 h2 => ?_⟩
    · have hstep : lp_draftData ln x6 x7 (n + 1) j fd (9 + j) = lp_draftData ln x6 x7 n (j + 1) (upd fd (9 + j) (cD a j)) (9 + (j + 1)) := by
        rw [lp_draftData, if_neg (nI_ge (by omega) (by omega)), hd, bnd2_add (by omega)]
        rfl
      exact hstep.trans k1
    · by_cases hij : i = j
      · subst hij; rw [k2 (9 + i) (by omega), pk_us]
      · exact k3 i (by omega) h2
theorem mapp_loop {fr dr : Nat → Int32} {n3 : Nat} (hn : n3 ≤ 40) (hfr : ∀ i, i < n3 → fr i = dr i ∧ ∃ b : Nat, b ≤ 257 ∧ dr i = nI b) :
    ∀ (n j : Nat) (t : Int32) (L : List Int32) (th : Nat → Int32) (Ls : Nat → List Int32), j + n = n3 → th 0 = t → Ls 0 = L → L.length + n ≤ 64 → ChL L →
    ∃ th' Ls', lp_mapp n3 dr n j th Ls = (nI (Ls' 0).length, dr, th', Ls') ∧ th' 0 = (lp_acceptAll 40 fr n3 n j t L).1 ∧ Ls' 0 = (lp_acceptAll 40 fr n3 n j t L).2 ∧ (∀ j, j ≠ 0 → th' j = th j) ∧ (∀ j, j ≠ 0 → Ls' j = Ls j) ∧ (lp_acceptAll 40 fr n3 n j t L).2.length ≤ 64 ∧ ChL (lp_acceptAll 40 fr n3 n j t L).2 := by
  intro n
  induction n with
  | zero => intro j t L th Ls _ ht hL hl hC; exact ⟨th, Ls, rfl, ht, hL, fun _ _ => rfl, fun _ _ => rfl, hl, hC⟩
  | succ n ih =>
    intro j t L th Ls hj ht hL hl hC
    have hn2 : ¬ nI n3 ≤ nI j := nI_ge (by omega) (by omega)
    obtain ⟨f1, b, f2, f3⟩ := hfr j (by omega)
    obtain ⟨a1, a2, a3, a4, a5, a6⟩ := app_tie (th := th) (Ls := Ls) (e := 0) (c := dr j) ht hL (by omega) hC f2 f3
    obtain ⟨th', Ls', k1, k2, k3, k4, k5, k6, k7⟩ := ih (j + 1) _ _ _ _ (by omega) a1 a2 (by omega) a6
    have h1 : lp_acceptAll 40 fr n3 (n + 1) j t L = lp_acceptAll 40 fr n3 n (j + 1) (s_Outlet_accept t L (dr j)).1 (s_Outlet_accept t L (dr j)).2 := by
      rw [lp_acceptAll, if_neg hn2, at_g (by omega) (by omega) (by omega) (by decide), f1]
      rfl
    have h2 : lp_mapp n3 dr (n + 1) j th Ls = lp_mapp n3 dr n (j + 1) (s_Model_append th Ls 0 (dr j)).1 (s_Model_append th Ls 0 (dr j)).2 := by
      rw [lp_mapp, if_neg hn2]
      rfl
    rw [h1, h2]
    exact ⟨th', Ls', k1, k2, k3, fun i hi => (k4 i hi).trans (a3 i hi), fun i hi => (k5 i hi).trans (a4 i hi), k6, k7⟩
/-- the head of a command: nine characters -/
theorem head_tie {fd dr : Nat → Int32} {x1 x2 x3 x4 x5 x7 : Int32} {a3 ln f7 : Nat} (b1 : By x1) (b2 : By x2) (h3 : x3 = nI a3) (ha3 : a3 ≤ 65535) (b4 : By x4) (h5 : x5 = nI ln) (hln : ln ≤ 24) (h7 : x7 = nI f7) (hf7 : f7 < 32) :
    ∃ f9 d9 : Nat → Int32, s_MemoryLink_draftHead fd 0 x1 x2 x3 x4 x5 x7 = (f9, 9) ∧ EqB 9 f9 d9 ∧ ∀ {α : Type} (K : (Nat → Int32) → α), (bnd (upd (upd (upd (upd (upd (upd (upd (upd dr 0 254) 1 1) 2 x1) 3 x2) 4 (x3 / 256)) 5 (x3 - x3 / 256 * 256)) 6 x4) 7 (nI ln)) (fun dr1 => bnd (α := Int32) (s_Model_mixed 0 (dr1 0)) (fun cx39 => bnd (α := Int32) (s_Model_mixed cx39 (dr1 1)) (fun cx41 => bnd (α := Int32) (s_Model_mixed cx41 (dr1 2)) (fun cx43 => bnd (α := Int32) (s_Model_mixed cx43 (dr1 3)) (fun cx45 => bnd (α := Int32) (s_Model_mixed cx45 (dr1 4)) (fun cx47 => bnd (α := Int32) (s_Model_mixed cx47 (dr1 5)) (fun cx49 => bnd (α := Int32) (s_Model_mixed cx49 (dr1 6)) (fun cx51 => bnd (α := Int32) (s_Model_mixed cx51 (dr1 7)) (fun cx53 => bnd (α := Int32) (if (x7 - x7 / 2 * 2) = 1 then (cx53 ^^^ 1) else (cx53)) (fun y55 => bnd (upd dr1 8 y55) K))))))))))) = K d9 := by
  obtain ⟨s1, s2, s3⟩ := x3hi ha3
  obtain ⟨l1, l2⟩ := lo8 (a := a3) (by omega)
  rw [← h3] at s1 s2 l1 l2
  have E0 : EqB 0 fd dr := fun i hi => absurd hi (by omega)
  have E1 := EqB_upd E0 (x := 254) rfl (By_n (n := 254) (by decide))
  have E2 := EqB_upd E1 (x := 1) rfl (By_n (n := 1) (by decide))
  have E3 := EqB_upd E2 (x := x1) rfl b1
  have E4 := EqB_upd E3 (x := x2) rfl b2
  have E5 := EqB_upd E4 s1 ⟨_, s3, s2⟩
  have E6 := EqB_upd E5 l1 ⟨_, Nat.mod_lt _ (by decide), l2⟩
  have E7 := EqB_upd E6 (x := x4) rfl b4
  have E8 : EqB 8 (upd (upd (upd (upd (upd (upd (upd (upd fd 0 254) 1 1) 2 x1) 3 x2) 4 (x3 >>> (8 &&& 31))) 5 (x3 &&& 255)) 6 x4) 7 x5) (upd (upd (upd (upd (upd (upd (upd (upd dr 0 254) 1 1) 2 x1) 3 x2) 4 (x3 / 256)) 5 (x3 - x3 / 256 * 256)) 6 x4) 7 (nI ln)) := EqB_upd E7 h5 (By_n (by omega))
  clear E0 E1 E2 E3 E4 E5 E6 E7
  unfold s_MemoryLink_draftHead
  rw [bnd2_add (k := 0) (by decide), bnd2_add (k := 0 + 1) (by decide), bnd2_add (k := 0 + 1 + 1) (by decide), bnd2_add (k := 0 + 1 + 1 + 1) (by decide), bnd2_add (k := 0 + 1 + 1 + 1 + 1) (by decide), bnd2_add (k := 0 + 1 + 1 + 1 + 1 + 1) (by decide), bnd2_add (k := 0 + 1 + 1 + 1 + 1 + 1 + 1) (by decide), bnd2_add (k := 0 + 1 + 1 + 1 + 1 + 1 + 1 + 1) (by decide)]
  have n8 : 0 + 1 + 1 + 1 + 1 + 1 + 1 + 1 + 1 = 8 := rfl
  have n7 : 0 + 1 + 1 + 1 + 1 + 1 + 1 + 1 = 7 := rfl
  have n6 : 0 + 1 + 1 + 1 + 1 + 1 + 1 = 6 := rfl
  have n5 : 0 + 1 + 1 + 1 + 1 + 1 = 5 := rfl
  have n4 : 0 + 1 + 1 + 1 + 1 = 4 := rfl
  have n3 : 0 + 1 + 1 + 1 = 3 := rfl
  have n2 : 0 + 1 + 1 = 2 := rfl
  have n1 : 0 + 1 = 1 := rfl
  rw [n8, n7, n6, n5, n4, n3, n2, n1]
  generalize upd (upd (upd (upd (upd (upd (upd (upd fd 0 254) 1 1) 2 x1) 3 x2) 4 (x3 >>> (8 &&& 31))) 5 (x3 &&& 255)) 6 x4) 7 x5 = f8 at E8 ⊢
  generalize upd (upd (upd (upd (upd (upd (upd (upd dr 0 254) 1 1) 2 x1) 3 x2) 4 (x3 / 256)) 5 (x3 - x3 / 256 * 256)) 6 x4) 7 (nI ln) = d8 at E8 ⊢
  have hcc : s_Packet_check 40 f8 8 0 8 = crc d8 8 0 0 := chk_self E8 (by decide) (by decide)
  have hcb : By (crc d8 8 0 0) := crcB 8 0 0 By0 (fun i _ h2 => (E8 i (by omega)).2)
  have hf := (fl1 f7 hf7).1
  rw [← h7] at hf
  rw [hcc]
  have key : ∃ y : Int32, (if (x7 &&& 1) = 0 then crc d8 8 0 0 else (crc d8 8 0 0 ^^^ 1)) = y ∧ (if (x7 - x7 / 2 * 2) = 1 then (crc d8 8 0 0 ^^^ 1) else crc d8 8 0 0) = y ∧ By y := by
    by_cases h1 : (x7 &&& 1) = 0
    · exact ⟨_, if_pos h1, if_neg (hf.mp h1), hcb⟩
    · have h2 : (x7 - x7 / 2 * 2) = 1 := Classical.byContradiction fun h9 => h1 (hf.mpr h9)
      exact ⟨_, if_neg h1, if_pos h2, x1b hcb⟩
  obtain ⟨y, y1, y2, y3⟩ := key
  refine ⟨upd f8 8 y, upd d8 8 y, ?_, EqB_upd E8 rfl y3, fun K => ?_⟩
  · rw [y1, bnd_eq (u := y) rfl, bnd2_add (k := 8) (by decide)]
  · have h9 := crc8 (d := d8) (K := fun cx53 => bnd (α := Int32) (if (x7 - x7 / 2 * 2) = 1 then (cx53 ^^^ 1) else (cx53)) (fun y55 => bnd (upd d8 8 y55) K))
    rw [bnd_eq (u := d8) rfl]
    refine Eq.trans h9 ?_
    show bnd (α := Int32) (if (x7 - x7 / 2 * 2) = 1 then (crc d8 8 0 0 ^^^ 1) else (crc d8 8 0 0)) (fun y55 => bnd (upd d8 8 y55) K) = _
    rw [y2, bnd_eq (u := y) rfl, bnd_eq (u := upd d8 8 y) rfl]

/-- the command's last steps: its characters go to the near outlet, all or none -/
theorem c103_tie {gn : Nat → Int32} {Lon : List Int32} {th : Nat → Int32} {Ls : Nat → List Int32} {fd1 dr dr4 : Nat → Int32} {n3 : Nat} {x7 : Int32} {f7 : Nat} (h7 : x7 = nI f7) (hf7 : f7 < 32) (hn0 : 0 < n3) (hn : n3 ≤ 40) (hE : EqB (n3 - 1) fd1 dr4) (hp : dr4 (n3 - 1) = if x7 / 16 = 1 then 257 else 256)
    (ht : th 0 = gn 19) (hL : Ls 0 = Lon) (hl : Lon.length ≤ 64) (hC : ChL Lon) {ra rb : Int32} {gn' fd' dr' th' : Nat → Int32} {kd' : Nat} {Lon' : List Int32} {Ls' : Nat → List Int32}
    (h1 : (ra, gn', Lon', fd', kd') = s_MemoryLink_command_103 gn Lon x7 fd1 (n3 - 1))
    (h2 : (rb, dr', th', Ls') = if (64 - (nI ((Ls 0).length))) < (nI n3) then ((-2), dr, th, Ls) else (if (th 0) = 0 then lp_mapp n3 dr4 (n3 - 0) 0 th Ls else ((-2), dr, th, Ls))) :
    ra = rb ∧ (th' 0 = gn' 19 ∧ Ls' 0 = Lon') ∧ (∀ k, k ≠ 19 → gn' k = gn k) ∧ (∀ j, j ≠ 0 → th' j = th j) ∧ (∀ j, j ≠ 0 → Ls' j = Ls j) ∧ Lon'.length ≤ 64 ∧ ChL Lon' := by
  unfold s_MemoryLink_command_103 at h1
  have hf := (fl1 f7 hf7).2.2.2.2
  rw [← h7] at hf
  have hy : (if (x7 &&& 16) = 0 then (256 : Int32) else 257) = dr4 (n3 - 1) := by
    rw [hp]
    by_cases h9 : (x7 &&& 16) = 0
    · rw [if_pos h9, if_neg (hf.mp h9)]
    · rw [if_neg h9, if_pos (Classical.byContradiction fun h8 => h9 (hf.mpr h8))]
  have hyb : ∃ b : Nat, b ≤ 257 ∧ dr4 (n3 - 1) = nI b := by
    rw [hp]
    by_cases h9 : x7 / 16 = 1
    · rw [if_pos h9]; exact ⟨257, by decide, rfl⟩
    · rw [if_neg h9]; exact ⟨256, by decide, rfl⟩
  have hn1 : n3 - 1 + 1 = n3 := by omega
  rw [bnd_eq hy.symm, bnd2_add (by omega), hn1] at h1
  obtain ⟨w1, w2⟩ := free_w (k := n3) hl
  rw [w1, w2] at h1
  rw [hL, w2, ht] at h2
  have TWO : (ra, gn', Lon', fd', kd') = ((-2 : Int32), gn, Lon, upd fd1 (n3 - 1) (dr4 (n3 - 1)), n3) → (rb, dr', th', Ls') = ((-2 : Int32), dr, th, Ls) → ra = rb ∧ (th' 0 = gn' 19 ∧ Ls' 0 = Lon') ∧ (∀ k, k ≠ 19 → gn' k = gn k) ∧ (∀ j, j ≠ 0 → th' j = th j) ∧ (∀ j, j ≠ 0 → Ls' j = Ls j) ∧ Lon'.length ≤ 64 ∧ ChL Lon' := by
    clear h1 h2
    intro h1 h2
    simp only [Prod.mk.injEq] at h1 h2
    obtain ⟨rfl, rfl, rfl, rfl, rfl⟩ := h1
    obtain ⟨rfl, rfl, rfl, rfl⟩ := h2
    exact ⟨rfl, ⟨ht, hL⟩, fun _ _ => rfl, fun _ _ => rfl, fun _ _ => rfl, hl, hC⟩
  by_cases hfr : nI (64 - Lon.length) < nI n3
  · rw [if_pos hfr] at h1 h2
    exact TWO h1 h2
  · have hfn : n3 ≤ 64 - Lon.length := Nat.le_of_not_lt fun h9 => hfr (nI_lt h9 (by omega))
    rw [if_neg hfr] at h1 h2
    by_cases h19 : gn 19 = 0
    · rw [if_pos h19] at h1 h2
      have hEE : ∀ i, i < n3 → upd fd1 (n3 - 1) (dr4 (n3 - 1)) i = dr4 i ∧ ∃ b : Nat, b ≤ 257 ∧ dr4 i = nI b := by
        intro i hi
        by_cases hin : i = n3 - 1
        · subst hin; rw [pk_us]; exact ⟨rfl, hyb⟩
        · rw [pk_un hin]
          obtain ⟨e1, b, e2, e3⟩ := hE i (by omega)
          exact ⟨e1, b, by omega, e3⟩
      obtain ⟨th9, Ls9, k1, k2, k3, k4, k5, k6, k7⟩ := mapp_loop hn hEE n3 0 (gn 19) Lon th Ls (by omega) ht hL (by omega) hC
      have hsub : n3 - 0 = n3 := rfl
      rw [hsub, k1] at h2
      have hacc : s_Outlet_acceptAll 40 (upd fd1 (n3 - 1) (dr4 (n3 - 1))) n3 (gn 19) Lon = lp_acceptAll 40 (upd fd1 (n3 - 1) (dr4 (n3 - 1))) n3 n3 0 (gn 19) Lon := rfl
      rw [hacc] at h1
      generalize lp_acceptAll 40 (upd fd1 (n3 - 1) (dr4 (n3 - 1))) n3 n3 0 (gn 19) Lon = AC at h1 k2 k3 k6 k7
      obtain ⟨t9, L9⟩ := AC
      dsimp only at k2 k3 k6 k7
      simp only [bnd2, Prod.mk.injEq] at h1 h2
      obtain ⟨rfl, rfl, rfl, rfl, rfl⟩ := h1
      obtain ⟨rfl, rfl, rfl, rfl⟩ := h2
      refine ⟨?_, ⟨k2.trans pk_us.symm, k3⟩, fun k hk => pk_un hk, k4, k5, k6, k7⟩
      rw [k3]; rfl
    · rw [if_neg h19] at h1 h2
      exact TWO h1 h2

theorem isBy {x : Int32} (h0 : ¬ x < 0) (h1 : ¬ 255 < x) : By x ∧ s_MemoryLink_isByte x = 1 := by
  refine ⟨⟨x.toNatClampNeg, Nat.lt_succ_of_le (xnat_le (n := 255) h0 h1 (by decide)), xnat h0⟩, ?_⟩
  simp only [s_MemoryLink_isByte, bnd]; rw [if_neg h0, if_neg h1]
theorem isByN {x : Int32} (h : x < 0 ∨ 255 < x) : s_MemoryLink_isByte x = 0 ∧ s_Model_fits x 255 = 0 := by
  simp only [s_MemoryLink_isByte, bnd]
  by_cases h0 : x < 0
  · rw [if_pos h0]; exact ⟨rfl, fits0 h0⟩
  · have h1 : 255 < x := by
      rcases h with h | h
      · exact absurd h h0
      · exact h
    rw [if_neg h0, if_pos h1]; exact ⟨rfl, fits2 h0 h1⟩
theorem or_not {x n : Int32} (h : ¬ (x < 0 ∨ n < x)) : ¬ x < 0 ∧ ¬ n < x := ⟨fun h9 => h (Or.inl h9), fun h9 => h (Or.inr h9)⟩
/-- the model's last steps: the command's characters -/
theorem c365 {th : Nat → Int32} {Ls : Nat → List Int32} {x7 y16 xc : Int32} {ln n3 : Nat} {dr3 : Nat → Int32} : s_Model_command_365 th Ls x7 ln y16 n3 xc dr3 = lp_mapp n3 (upd (upd (upd dr3 (9 + ln) (if ((x7 / 2) - (x7 / 2) / 2 * 2) = 1 then (xc ^^^ 1) else (xc))) (n3 - 2) (if y16 = 0 then ((upd dr3 (9 + ln) (if ((x7 / 2) - (x7 / 2) / 2 * 2) = 1 then (xc ^^^ 1) else (xc))) (n3 - 2)) else (if ((x7 / 8) - (x7 / 8) / 2 * 2) = 1 then (0) else ((upd dr3 (9 + ln) (if ((x7 / 2) - (x7 / 2) / 2 * 2) = 1 then (xc ^^^ 1) else (xc))) (n3 - 2))))) (n3 - 1) (if (x7 / 16) = 1 then (257) else (256))) (n3 - 0) 0 th Ls := rfl

theorem cmd_tie {gn : Nat → Int32} {Lon : List Int32} {fd dr th : Nat → Int32} {kd : Nat} {Ls : Nat → List Int32} {x1 x2 x3 x4 x5 x6 x7 : Int32} (ht : th 0 = gn 19) (hL : Ls 0 = Lon) (hl : Lon.length ≤ 64) (hC : ChL Lon) {ra rb : Int32} {gn' fd' dr' th' : Nat → Int32} {kd' : Nat} {Lon' : List Int32} {Ls' : Nat → List Int32}
    (h1 : (ra, gn', Lon', fd', kd') = s_MemoryLink_command gn Lon fd kd x1 x2 x3 x4 x5 x6 x7) (h2 : (rb, dr', th', Ls') = s_Model_command dr th Ls x1 x2 x3 x4 x5 x6 x7) :
    ra = rb ∧ (th' 0 = gn' 19 ∧ Ls' 0 = Lon') ∧ (∀ k, k ≠ 19 → gn' k = gn k) ∧ (∀ j, j ≠ 0 → th' j = th j) ∧ (∀ j, j ≠ 0 → Ls' j = Ls j) ∧ Lon'.length ≤ 64 ∧ ChL Lon' := by
  have NO : (ra, gn', Lon', fd', kd') = ((-1 : Int32), gn, Lon, fd, kd) → (rb, dr', th', Ls') = ((-1 : Int32), dr, th, Ls) → ra = rb ∧ (th' 0 = gn' 19 ∧ Ls' 0 = Lon') ∧ (∀ k, k ≠ 19 → gn' k = gn k) ∧ (∀ j, j ≠ 0 → th' j = th j) ∧ (∀ j, j ≠ 0 → Ls' j = Ls j) ∧ Lon'.length ≤ 64 ∧ ChL Lon' := by
    clear h1 h2
    intro h1 h2
    simp only [Prod.mk.injEq] at h1 h2
    obtain ⟨rfl, rfl, rfl, rfl, rfl⟩ := h1
    obtain ⟨rfl, rfl, rfl, rfl⟩ := h2
    exact ⟨rfl, ⟨ht, hL⟩, fun _ _ => rfl, fun _ _ => rfl, fun _ _ => rfl, hl, hC⟩
  unfold s_MemoryLink_command at h1
  unfold s_Model_command at h2
  by_cases c1 : x1 < 0 ∨ 255 < x1
  · rw [(isByN c1).1, if_pos rfl] at h1
    rw [(isByN c1).2, if_pos rfl] at h2
    exact NO h1 h2
  obtain ⟨c1a, c1b⟩ := or_not c1
  obtain ⟨b1, i1⟩ := isBy c1a c1b
  rw [i1, if_neg ne10] at h1
  rw [fits1 c1a c1b, if_neg ne10] at h2
  by_cases c2 : x2 < 0 ∨ 255 < x2
  · rw [(isByN c2).1, if_pos rfl] at h1
    rw [(isByN c2).2, if_pos rfl] at h2
    exact NO h1 h2
  obtain ⟨c2a, c2b⟩ := or_not c2
  obtain ⟨b2, i2⟩ := isBy c2a c2b
  rw [i2, if_neg ne10] at h1
  rw [fits1 c2a c2b, if_neg ne10] at h2
  -- the program looks at x4 and x6 first, the reference at x3: what is left of the program's answers
  have h1n : (¬ ((¬ x4 < 0 ∧ ¬ 255 < x4) ∧ (¬ x6 < 0 ∧ ¬ 255 < x6) ∧ (¬ x3 < 0 ∧ ¬ 65535 < x3) ∧ (¬ x5 < 0 ∧ ¬ 24 < x5) ∧ (¬ x7 < 0 ∧ x7 ≤ 31))) → (ra, gn', Lon', fd', kd') = ((-1 : Int32), gn, Lon, fd, kd) := by
    intro hno
    by_cases d4 : x4 < 0 ∨ 255 < x4
    · rw [(isByN d4).1, if_pos rfl] at h1; exact h1
    · obtain ⟨d4a, d4b⟩ := or_not d4
      rw [(isBy d4a d4b).2, if_neg ne10] at h1
      by_cases d6 : x6 < 0 ∨ 255 < x6
      · rw [(isByN d6).1, if_pos rfl] at h1; exact h1
      · obtain ⟨d6a, d6b⟩ := or_not d6
        rw [(isBy d6a d6b).2, if_neg ne10] at h1
        by_cases d3 : x3 < 0
        · rw [if_pos d3] at h1; exact h1
        · rw [if_neg d3] at h1
          by_cases d3b : 65535 < x3
          · rw [if_pos d3b] at h1; exact h1
          · rw [if_neg d3b] at h1
            by_cases d5 : x5 < 0
            · rw [if_pos d5] at h1; exact h1
            · rw [if_neg d5] at h1
              by_cases d5b : 24 < x5
              · rw [if_pos d5b] at h1; exact h1
              · rw [if_neg d5b] at h1
                by_cases d7 : x7 < 0
                · rw [if_pos d7] at h1; exact h1
                · rw [if_neg d7] at h1
                  by_cases d7b : x7 ≤ 31
                  · exact absurd ⟨⟨d4a, d4b⟩, ⟨d6a, d6b⟩, ⟨d3, d3b⟩, ⟨d5, d5b⟩, ⟨d7, d7b⟩⟩ hno
                  · rw [if_neg d7b] at h1; exact h1
  by_cases c3 : x3 < 0 ∨ 65535 < x3
  · have hf : s_Model_fits x3 65535 = 0 := by
      by_cases h9 : x3 < 0
      · exact fits0 h9
      · exact fits2 h9 (by rcases c3 with h8 | h8; exact absurd h8 h9; exact h8)
    rw [hf, if_pos rfl] at h2
    refine NO (h1n fun h9 => ?_) h2
    rcases c3 with h8 | h8
    · exact h9.2.2.1.1 h8
    · exact h9.2.2.1.2 h8
  obtain ⟨c3a, c3b⟩ := or_not c3
  rw [fits1 c3a c3b, if_neg ne10] at h2
  by_cases c4 : x4 < 0 ∨ 255 < x4
  · rw [(isByN c4).2, if_pos rfl] at h2
    refine NO (h1n fun h9 => ?_) h2
    rcases c4 with h8 | h8
    · exact h9.1.1 h8
    · exact h9.1.2 h8
  obtain ⟨c4a, c4b⟩ := or_not c4
  rw [fits1 c4a c4b, if_neg ne10] at h2
  by_cases c5 : x5 < 0 ∨ 24 < x5
  · have hf : s_Model_fits x5 24 = 0 := by
      by_cases h9 : x5 < 0
      · exact fits0 h9
      · exact fits2 h9 (by rcases c5 with h8 | h8; exact absurd h8 h9; exact h8)
    rw [hf, if_pos rfl] at h2
    refine NO (h1n fun h9 => ?_) h2
    rcases c5 with h8 | h8
    · exact h9.2.2.2.1.1 h8
    · exact h9.2.2.2.1.2 h8
  obtain ⟨c5a, c5b⟩ := or_not c5
  rw [fits1 c5a c5b, if_neg ne10] at h2
  by_cases c6 : x6 < 0 ∨ 255 < x6
  · rw [(isByN c6).2, if_pos rfl] at h2
    refine NO (h1n fun h9 => ?_) h2
    rcases c6 with h8 | h8
    · exact h9.2.1.1 h8
    · exact h9.2.1.2 h8
  obtain ⟨c6a, c6b⟩ := or_not c6
  rw [fits1 c6a c6b, if_neg ne10] at h2
  by_cases c7 : x7 < 0 ∨ 31 < x7
  · have hf : s_Model_fits x7 31 = 0 := by
      by_cases h9 : x7 < 0
      · exact fits0 h9
      · exact fits2 h9 (by rcases c7 with h8 | h8; exact absurd h8 h9; exact h8)
    rw [hf, if_pos rfl] at h2
    refine NO (h1n fun h9 => ?_) h2
    rcases c7 with h8 | h8
    · exact h9.2.2.2.2.1 h8
    · exact absurd h9.2.2.2.2.2 (Int32.not_le.mpr h8)
  obtain ⟨c7a, c7b⟩ := or_not c7
  have c7c : x7 ≤ 31 := Int32.not_lt.mp c7b
  rw [fits1 c7a c7b, if_neg ne10] at h2
  clear h1n NO
  obtain ⟨b4, i4⟩ := isBy c4a c4b
  obtain ⟨b6, i6⟩ := isBy c6a c6b
  rw [i4, if_neg ne10, i6, if_neg ne10, if_neg c3a, if_neg c3b, if_neg c5a, if_neg c5b, if_neg c7a, if_pos c7c] at h1
  obtain ⟨a6, ha6, e6⟩ := b6
  have e3 := xnat c3a
  have e5 := xnat c5a
  have e7 := xnat c7a
  have l3 : x3.toNatClampNeg ≤ 65535 := xnat_le (n := 65535) c3a c3b (by decide)
  have l5 : x5.toNatClampNeg ≤ 24 := xnat_le (n := 24) c5a c5b (by decide)
  have l7 : x7.toNatClampNeg < 32 := Nat.lt_succ_of_le (xnat_le (n := 31) c7a c7b (by decide))
  rw [bnd_eq (u := x5.toNatClampNeg) rfl] at h2
  generalize x5.toNatClampNeg = ln at e5 l5 h1 h2
  generalize x3.toNatClampNeg = a3 at e3 l3
  generalize x7.toNatClampNeg = f7 at e7 l7
  obtain ⟨f9, d9, hd1, hd2, hd3⟩ := head_tie (fd := fd) (dr := dr) b1 b2 e3 l3 b4 e5 l5 e7 l7
  rw [show s_Packet_clear = 0 from rfl, bnd_eq (u := 0) rfl, bnd2_eq hd1.symm] at h1
  by_cases h48 : (x1 &&& 48) = 0
  · rw [if_pos h48] at h1 h2
    rw [bnd_eq (u := (0 : Int32)) rfl, if_pos rfl, bnd_eq (u := (0 : Int32)) rfl, bnd_eq (u := 0) (show 0 = (0 : Int32).toNatClampNeg from rfl), if_pos rfl, bnd_eq (u := nI 10) rfl, bnd_eq (u := 10) (nI_clamp (n := 10) (by decide)).symm, if_pos rfl, bnd_eq (u := nI 10) rfl, bnd_eq (u := 10) (nI_clamp (n := 10) (by decide)).symm, hd3 (fun dr2 => lp_mcom th Ls x6 x7 ln 0 10 (ln - 0) 0 0 dr2)] at h2
    obtain ⟨dr9, k1, k2, k3⟩ := mcom_loop (th := th) (Ls := Ls) (x7 := x7) (y16 := 0) (n3 := 10) e6 ha6 l5 ln 0 0 d9 (by omega)
    rw [show ln - 0 = ln from rfl, k1, c365, if_pos rfl] at h2
    refine c103_tie (n3 := 10) e7 l7 (by decide) (by decide) ?_ pk_us ht hL hl hC h1 h2
    intro i hi
    have hi9 : i < 9 := hi
    rw [pk_un (by omega : i ≠ 10 - 1)]
    have hk : ∀ i, i < 9 → upd dr9 (9 + ln) (if ((x7 / 2) - (x7 / 2) / 2 * 2) = 1 then (crc (cD a6) ln 0 0 ^^^ 1) else (crc (cD a6) ln 0 0)) i = d9 i := fun i hi => (pk_un (by omega)).trans (k2 i (by omega))
    by_cases hi8 : i = 10 - 2
    · subst hi8; rw [pk_us, hk _ (by decide)]; exact hd2 _ (by decide)
    · rw [pk_un hi8, hk i hi9]; exact hd2 i hi9
  · rw [if_neg h48] at h1 h2
    rw [bnd_eq (u := ln) rfl] at h1
    obtain ⟨fd9, m1, m2, m3⟩ := ddata_loop (x7 := x7) e6 ha6 l5 ln 0 f9 (by omega)
    have hdd : s_MemoryLink_draftData f9 9 ln x6 x7 = lp_draftData ln x6 x7 0 ln fd9 (9 + ln) := m1
    rw [hdd] at h1
    have hE : EqB (9 + ln) fd9 (fun i => if i < 9 then d9 i else cD a6 (i - 9)) := by
      intro i hi
      by_cases hi9 : i < 9
      · simp only [if_pos hi9]
        rw [m2 i (by omega)]; exact hd2 i hi9
      · simp only [if_neg hi9]
        have e9 : 9 + (i - 9) = i := by omega
        have := m3 (i - 9) (by omega) (by omega)
        rw [e9] at this
        exact ⟨this, cD_b _ _⟩
    have hck : s_Packet_check 40 fd9 (9 + ln) 9 ln = crc (cD a6) ln 0 0 := chkC (by omega) (fun j hj => by
      rw [at_g (by omega) (by omega) (by omega) (by decide)]
      exact ⟨m3 j (by omega) hj, cD_b _ _⟩)
    have hcb : By (crc (cD a6) ln 0 0) := crcB ln 0 0 By0 (fun i _ _ => cD_b _ _)
    obtain ⟨q1, q2, q4, q8, q16⟩ := fl1 f7 l7
    rw [← e7] at q2 q4 q8
    have key : ∃ y : Int32, (if (x7 &&& 2) = 0 then crc (cD a6) ln 0 0 else (crc (cD a6) ln 0 0 ^^^ 1)) = y ∧ (if ((x7 / 2) - (x7 / 2) / 2 * 2) = 1 then (crc (cD a6) ln 0 0 ^^^ 1) else crc (cD a6) ln 0 0) = y ∧ By y := by
      by_cases h9 : (x7 &&& 2) = 0
      · exact ⟨_, if_pos h9, if_neg (q2.mp h9), hcb⟩
      · exact ⟨_, if_neg h9, if_pos (Classical.byContradiction fun h8 => h9 (q2.mpr h8)), x1b hcb⟩
    obtain ⟨y, y1, y2, y3⟩ := key
    rw [bnd_eq (u := (1 : Int32)) rfl, if_neg ne10, bnd_eq (u := nI (ln + 1)) rfl, bnd_eq (u := ln + 1) (nI_clamp (by omega)).symm, if_neg ne10] at h2
    unfold lp_draftData at h1
    rw [hck, y1] at h1
    -- the reference's draft
    have REF : ∀ n3 : Nat, ∃ dr9 : Nat → Int32, (bnd (upd (upd (upd (upd (upd (upd (upd (upd dr 0 254) 1 1) 2 x1) 3 x2) 4 (x3 / 256)) 5 (x3 - x3 / 256 * 256)) 6 x4) 7 (nI ln)) (fun dr1 => bnd (α := Int32) (s_Model_mixed 0 (dr1 0)) (fun cx39 => bnd (α := Int32) (s_Model_mixed cx39 (dr1 1)) (fun cx41 => bnd (α := Int32) (s_Model_mixed cx41 (dr1 2)) (fun cx43 => bnd (α := Int32) (s_Model_mixed cx43 (dr1 3)) (fun cx45 => bnd (α := Int32) (s_Model_mixed cx45 (dr1 4)) (fun cx47 => bnd (α := Int32) (s_Model_mixed cx47 (dr1 5)) (fun cx49 => bnd (α := Int32) (s_Model_mixed cx49 (dr1 6)) (fun cx51 => bnd (α := Int32) (s_Model_mixed cx51 (dr1 7)) (fun cx53 => bnd (α := Int32) (if (x7 - x7 / 2 * 2) = 1 then (cx53 ^^^ 1) else (cx53)) (fun y55 => bnd (upd dr1 8 y55) (fun dr2 => lp_mcom th Ls x6 x7 ln 1 n3 (ln - 0) 0 0 dr2)))))))))))) = lp_mapp n3 (upd (upd (upd dr9 (9 + ln) y) (n3 - 2) (if ((x7 / 8) - (x7 / 8) / 2 * 2) = 1 then (0) else ((upd dr9 (9 + ln) y) (n3 - 2)))) (n3 - 1) (if (x7 / 16) = 1 then (257) else (256))) (n3 - 0) 0 th Ls ∧ EqB (9 + ln) fd9 dr9 := by
      intro n3
      obtain ⟨dr9, k1, k2, k3⟩ := mcom_loop (th := th) (Ls := Ls) (x7 := x7) (y16 := 1) (n3 := n3) e6 ha6 l5 ln 0 0 d9 (by omega)
      refine ⟨dr9, ?_, ?_⟩
      · rw [hd3 (fun dr2 => lp_mcom th Ls x6 x7 ln 1 n3 (ln - 0) 0 0 dr2), show ln - 0 = ln from rfl, k1, c365, y2, if_neg ne10]
      · intro i hi
        obtain ⟨v1, v2⟩ := hE i hi
        by_cases hi9 : i < 9
        · rw [k2 i (by omega)]; simp only [if_pos hi9] at v1 v2; exact ⟨v1, v2⟩
        · simp only [if_neg hi9] at v1 v2
          have := k3 (i - 9) (by omega) (by omega)
          rw [show 9 + (i - 9) = i by omega] at this
          rw [this]; exact ⟨v1, v2⟩
    by_cases h4 : (x7 &&& 4) = 0
    · have h4b := q4.mp h4
      rw [if_pos h4, bnd_eq (u := y) rfl, bnd2_add (by omega)] at h1
      rw [if_neg h4b, bnd_eq (u := nI (10 + (ln + 1))) rfl, bnd_eq (u := 10 + (ln + 1)) (nI_clamp (by omega)).symm, if_neg ne10] at h2
      by_cases h8 : (x7 &&& 8) = 0
      · have h8b := q8.mp h8
        rw [if_pos h8, bnd2_eq (a := upd fd9 (9 + ln) y) (b := 9 + ln + 1) rfl] at h1
        rw [if_neg h8b, bnd_eq (u := nI (10 + (ln + 1))) rfl, bnd_eq (u := 10 + (ln + 1)) (nI_clamp (by omega)).symm] at h2
        obtain ⟨dr9, k1, k2⟩ := REF (10 + (ln + 1))
        rw [k1, if_neg h8b] at h2
        rw [show 9 + ln + 1 = 10 + (ln + 1) - 1 by omega] at h1
        refine c103_tie (n3 := 10 + (ln + 1)) e7 l7 (by omega) (by omega) ?_ pk_us ht hL hl hC h1 h2
        have hz := EqB_upd k2 (x := y) rfl y3
        intro i hi
        rw [pk_un (by omega : i ≠ 10 + (ln + 1) - 1)]
        by_cases hi8 : i = 10 + (ln + 1) - 2
        · subst hi8; rw [pk_us]; exact hz _ (by omega)
        · rw [pk_un hi8]; exact hz i (by omega)
      · have h8b : ((x7 / 8) - (x7 / 8) / 2 * 2) = 1 := Classical.byContradiction fun h9 => h8 (q8.mpr h9)
        rw [if_neg h8, bnd2_add (by omega), bnd2_eq (a := upd (upd fd9 (9 + ln) y) (9 + ln + 1) 0) (b := 9 + ln + 1 + 1) rfl] at h1
        rw [if_pos h8b, bnd_eq (u := nI (10 + (ln + 1) + 1)) rfl, bnd_eq (u := 10 + (ln + 1) + 1) (nI_clamp (by omega)).symm] at h2
        obtain ⟨dr9, k1, k2⟩ := REF (10 + (ln + 1) + 1)
        rw [k1, if_pos h8b] at h2
        rw [show 9 + ln + 1 + 1 = 10 + (ln + 1) + 1 - 1 by omega] at h1
        refine c103_tie (n3 := 10 + (ln + 1) + 1) e7 l7 (by omega) (by omega) ?_ pk_us ht hL hl hC h1 h2
        have hz := EqB_upd (EqB_upd k2 (x := y) rfl y3) (x := 0) rfl By0
        intro i hi
        rw [pk_un (by omega : i ≠ 10 + (ln + 1) + 1 - 1), show 10 + (ln + 1) + 1 - 2 = 9 + ln + 1 by omega]
        exact hz i (by omega)
    · have h4b : ((x7 / 4) - (x7 / 4) / 2 * 2) = 1 := Classical.byContradiction fun h9 => h4 (q4.mpr h9)
      rw [if_neg h4] at h1
      rw [if_pos h4b, xsub1 (by omega), bnd_eq (u := nI (10 + (ln + 1) - 1)) rfl, bnd_eq (u := 10 + (ln + 1) - 1) (nI_clamp (by omega)).symm, if_neg ne10] at h2
      by_cases h8 : (x7 &&& 8) = 0
      · have h8b := q8.mp h8
        rw [if_pos h8, bnd2_eq (a := fd9) (b := 9 + ln) rfl] at h1
        rw [if_neg h8b, bnd_eq (u := nI (10 + (ln + 1) - 1)) rfl, bnd_eq (u := 10 + (ln + 1) - 1) (nI_clamp (by omega)).symm] at h2
        obtain ⟨dr9, k1, k2⟩ := REF (10 + (ln + 1) - 1)
        rw [k1, if_neg h8b] at h2
        rw [show 9 + ln = 10 + (ln + 1) - 1 - 1 by omega] at h1
        refine c103_tie (n3 := 10 + (ln + 1) - 1) e7 l7 (by omega) (by omega) ?_ pk_us ht hL hl hC h1 h2
        intro i hi
        rw [pk_un (by omega : i ≠ 10 + (ln + 1) - 1 - 1)]
        have hz : ∀ i, i < 9 + ln → upd dr9 (9 + ln) y i = dr9 i := fun i hi => pk_un (by omega)
        by_cases hi8 : i = 10 + (ln + 1) - 1 - 2
        · subst hi8; rw [pk_us, hz _ (by omega)]; exact k2 _ (by omega)
        · rw [pk_un hi8, hz i (by omega)]; exact k2 i (by omega)
      · have h8b : ((x7 / 8) - (x7 / 8) / 2 * 2) = 1 := Classical.byContradiction fun h9 => h8 (q8.mpr h9)
        rw [if_neg h8, bnd2_add (by omega), bnd2_eq (a := upd fd9 (9 + ln) 0) (b := 9 + ln + 1) rfl] at h1
        rw [if_pos h8b, bnd_eq (u := nI (10 + (ln + 1) - 1 + 1)) rfl, bnd_eq (u := 10 + (ln + 1) - 1 + 1) (nI_clamp (by omega)).symm] at h2
        obtain ⟨dr9, k1, k2⟩ := REF (10 + (ln + 1) - 1 + 1)
        rw [k1, if_pos h8b] at h2
        rw [show 9 + ln + 1 = 10 + (ln + 1) - 1 + 1 - 1 by omega] at h1
        refine c103_tie (n3 := 10 + (ln + 1) - 1 + 1) e7 l7 (by omega) (by omega) ?_ pk_us ht hL hl hC h1 h2
        intro i hi
        rw [pk_un (by omega : i ≠ 10 + (ln + 1) - 1 + 1 - 1), show 10 + (ln + 1) - 1 + 1 - 2 = 9 + ln by omega]
        by_cases hi9 : i = 9 + ln
        · subst hi9; rw [pk_us, pk_us]; exact ⟨rfl, By0⟩
        · rw [pk_un hi9, pk_un hi9, pk_un hi9]; exact k2 i (by omega)
theorem sim_command {gn : Nat → Int32} {Lin : List Int32} {Lon : List Int32} {gf : Nat → Int32} {Lif : List Int32} {Lof : List Int32} {me : Nat → Int32} {fp : Nat → Int32} {kp : Nat} {fa : Nat → Int32} {ka : Nat} {fr : Nat → Int32} {kr : Nat} {tw : Int32} {tc : Int32} {tl : Int32} {on : Int32} {fd : Nat → Int32} {kd : Nat} {stM : Nat → Int32} {ckM : Nat → Int32} {enM : Nat → Int32} {auM : Nat → Int32} {heM : Nat → Int32} {quM : Nat → Int32} {loM : Nat → Int32} {owM : Nat → Int32} {flM : Nat → Int32} {tiM : Nat → Int32} {gdM : Nat → Int32} {akM : Nat → Int32} {spM : Nat → Int32} {seM : Nat → Int32} {sdM : Nat → Int32} {opM : Nat → Int32} {thM : Nat → Int32} {meM : Nat → Int32} {pkM : Nat → Int32} {reM : Nat → Int32} {LsM : Nat → List Int32} {tgM : Int32} {kcM : Nat} {cmM : Int32} {suM : Int32} {kqM : Nat} {drM : Nat → Int32} {T : Nat} {ra rb : Int32} {x1 : Int32} {x2 : Int32} {x3 : Int32} {x4 : Int32} {x5 : Int32} {x6 : Int32} {x7 : Int32} {gn' : Nat → Int32} {Lon' : List Int32} {fd' : Nat → Int32} {kd' : Nat} {drM' : Nat → Int32} {thM' : Nat → Int32} {LsM' : Nat → List Int32} (h : Rel gn Lin Lon gf Lif Lof me fp kp fa ka fr kr tw tc tl on fd kd stM ckM enM auM heM quM loM owM flM tiM gdM akM spM seM sdM opM thM meM pkM reM LsM tgM kcM cmM suM kqM drM T) (h1 : (ra, gn', Lon', fd', kd') = s_MemoryLink_command gn Lon fd kd x1 x2 x3 x4 x5 x6 x7) (h2 : (rb, drM', thM', LsM') = s_Model_command drM thM LsM x1 x2 x3 x4 x5 x6 x7) : ra = rb ∧ Rel gn' Lin Lon' gf Lif Lof me fp kp fa ka fr kr tw tc tl on fd' kd' stM ckM enM auM heM quM loM owM flM tiM gdM akM spM seM sdM opM thM' meM pkM reM LsM' tgM kcM cmM suM kqM drM' T := by
  obtain ⟨⟨s, c, h, l, q, w, k, S, C, H, L, Q, W, K, En, Ef, Cn, Cf⟩, ⟨A, ckA, quA⟩, ⟨B, ckB, quB⟩, hRT, hon⟩ := h
  obtain ⟨r1, ⟨r2, r3⟩, r4, r5, r6, r7, r8⟩ := cmd_tie A.2.2.1.2.2.2.1 A.2.2.1.2.2.2.2.1 En.2.1.2.2.2.2.1 En.2.1.2.2.2.1 h1 h2
  have hEn : EndI gn' Lin Lon' s c h l q w k := ⟨CoreS_g En.1 r4, CoreL_g En.2.1 r4 En.2.1.2.2.1 (Nat.le_refl _) r8 r7, En.2.2.1, by rw [r4 15 (by decide)]; exact En.2.2.2.1, En.2.2.2.2⟩
  have hA := RE_g A r4 r2 r3 ((r6 1 (by decide)).trans A.2.2.1.2.2.2.2.2)
  have hB := RE_fr B (st' := stM) rfl (he' := heM) rfl (lo' := loM) rfl (ow' := owM) rfl (fl' := flM) rfl (ti' := tiM) rfl (gd' := gdM) rfl (ak' := akM) rfl (sp' := spM) rfl (se' := seM) rfl (sd' := sdM) rfl (op' := opM) rfl rfl (r5 1 (by decide)) (r6 2 (by decide)) (r6 3 (by decide))
  exact ⟨r1, ⟨s, c, h, l, q, w, k, S, C, H, L, Q, W, K, hEn, Ef, Cn, Cf⟩, ⟨hA, ckA.trans (r4 6 (by decide)).symm, quA.trans (r4 7 (by decide)).symm⟩, ⟨hB, ckB, quB⟩, hRT, hon⟩
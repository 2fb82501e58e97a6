/-! the law's own cell(script, k), and the script's rows -/
theorem dc_0 : decode b_Law_cell 0 = .ok (.iload_n 1, 1) := by decide +kernel
theorem dc_1 : decode b_Law_cell 1 = .ok (.aload_n 0, 1) := by decide +kernel
theorem dc_2 : decode b_Law_cell 2 = .ok (.arraylength, 1) := by decide +kernel
theorem dc_3 : decode b_Law_cell 3 = .ok (.if_icmp .ge 9, 3) := by decide +kernel
theorem dc_6 : decode b_Law_cell 6 = .ok (.aload_n 0, 1) := by decide +kernel
theorem dc_7 : decode b_Law_cell 7 = .ok (.iload_n 1, 1) := by decide +kernel
theorem dc_8 : decode b_Law_cell 8 = .ok (.iaload, 1) := by decide +kernel
theorem dc_9 : decode b_Law_cell 9 = .ok (.goto 4, 3) := by decide +kernel
theorem dc_12 : decode b_Law_cell 12 = .ok (.iconst 0, 1) := by decide +kernel
theorem dc_13 : decode b_Law_cell 13 = .ok (.ireturn, 1) := by decide +kernel
def cellPre (b L : Nat) (xs : Nat → Int32) (sz : Nat) (U : State) : Prop := U.heap.size = sz ∧ va_X b L xs U U.heap ∧ b < sz
abbrev rm_cell : Room := { frames := 0, cells := 0, slots := 0, locals := 0 }
set_option maxRecDepth 100000 in
theorem c_Law_cell {l : Launch} {b L k : Nat} {xs : Nat → Int32} (hL : L ≤ 4097) (hk : k < 1048576) (sz : Nat) : Met l y_Law_cell (w_Law_cell) rm_cell (va_Pc [.ref b, .int (nI k)] (cellPre b L xs sz)) (va_Qi (fun (r : Int32) (_ : Unit) => r = if k < L then xs k else 0) (fun _ _ => True) (fun q => sz ≤ q)) 0 0 (fun q => sz ≤ q) := by
  refine Met.ofW (cc := b_Law_cell) (maxL := 2) (ret := some .int) (by decide) rfl ?_
  intro p e s m args below meth c s₁ B hml hv
  obtain ⟨rfl, hsz, hX, hbl⟩ := hv
  have hx := B.exec
  have hb := B.bytes
  have hr := B.returns
  have hlk := B.notSynchronized
  subst hsz
  have hl := lv_entry ([.ref b, .int (nI k)]) (n := 2) (Nat.le_of_ble_eq_true rfl)
  rw [lg_entry_eq]
  generalize (lg_sl ([.ref b, .int (nI k)]) ++ List.replicate (2 - (lg_sl ([.ref b, .int (nI k)])).length) Slot.unset).toArray = ls at hl ⊢
  replace hl : lv_has ls 2 [(0, .ref b), (1, .int (nI k))] := hl
  have hS : va_S (fun q => s.heap.size ≤ q) s.heap s.heap [] := va_S.rf
  have hbA : ¬ (fun q => s.heap.size ≤ q) b := fun h9 => absurd hbl (Nat.not_lt.mpr h9)
  refine lv_iload_n hx hb dc_0 rfl (lv_at hl 1 rfl) ?_
  refine lv_aload_n hx hb dc_1 rfl (lv_at hl 0 rfl) ?_
  refine va_slen (A := fun q => s.heap.size ≤ q) hx hb hX hbl hbA hS dc_2 ?_
  refine lv_icmp_ge (tgt := 12) hx hb dc_3 rfl (fun h1 => ?_) (fun h1 => ?_)
  · refine lv_iconst (v := 0) hx hb dc_12 rfl ?_
    have h2 : ¬ k < L := fun h9 => nI_ge h9 (by omega) h1
    exact W.iret hx hb hr (fun t ht hW => ⟨⟨0, (), rfl, by rw [if_neg h2], trivial⟩, hS.F ht⟩) hS.2.2 dc_13 hlk
  have h2 : k < L := Nat.lt_of_not_le fun h9 => h1 (nI_le h9 (by omega))
  refine lv_aload_n hx hb dc_6 rfl (lv_at hl 0 rfl) ?_
  refine lv_iload_n hx hb dc_7 rfl (lv_at hl 1 rfl) ?_
  refine va_sld (A := fun q => s.heap.size ≤ q) hx hb hX hbl hbA hS (vp_in_nI h2 (by omega)) dc_8 ?_
  refine lv_goto (tgt := 13) hx hb dc_9 rfl ?_
  exact W.iret hx hb hr (fun t ht hW => ⟨⟨_, (), rfl, by rw [if_pos h2, nI_clamp (by omega)], trivial⟩, hS.F ht⟩) hS.2.2 dc_13 hlk
section LW
variable {p : Program} {l : Launch} {e : Env} {s : State} {m : MethodId} {args : Array Value} {below : List Frame} {meth : Method} {c : Code} {H : Heap} {locs : List Loc} {cells slots : Nat} {Q : State → Prop}
variable {pc : Nat} {ls : Array Slot} {rest : List Value} {D : va_G} {A : Nat → Prop} {ws : va_W} {b L : Nat} {xs : Nat → Int32}
theorem cell_blind {sz : Nat} {av : List Value} : FrameBlind (va_Pc av (cellPre b L xs sz)) := fun a U g mk q => by
  obtain ⟨q0, q1, q2, q3⟩ := q
  exact ⟨q0, q1, va_X.moved (u := U) (U := U.calling g mk a) (Vm.Alike.refl U.vm) q2, q3⟩
theorem law_cell (hx : p.tables.exec = Jvm.exec) (hb : c.code = code) (hml : c.maxLocals = 4) (hown : s.vm.findClass "MemoryLinkLaw" = some m.cls) (hts : ∀ w ∈ Cond.tt :: wU, w.before args s = true) (hX : va_X b L xs s s.heap) (hbl : b < s.heap.size) (hL : L ≤ 4097) (hls : ls.size = 4)
    (hAd : ∀ q, s.heap.size ≤ q → A q) (hbA : ¬ A b) (hP : va_P D vwCl ws H) (hS : va_S A s.heap H locs) (hrest : (rest.map fun v => v.category).sum ≤ 8) (hcs : cells + 0 ≤ room_1.cells ∧ slots + 0 ≤ room_1.slots) (hdg : decode code pc = .ok (.invokestatic 9, 3))
    (kk : ∀ (H1 : Heap) (locs1 : List Loc), va_P D vwCl ws H1 → va_S A s.heap H1 locs1 → W p l e room_1 s m args below meth c H1 locs1 cells slots Q (F0 m (pc + 3) ls (.int (if 0 < L then xs 0 else 0) :: rest))) : W p l e room_1 s m args below meth c H locs cells slots Q (F0 m pc ls (.int 0 :: .ref b :: rest)) := by
  have hsz := hS.1
  have hXH : va_X b L xs s H := hX.kept (hS.2.1 b hbl hbA)
  refine va_calli (A0 := A) (A1 := fun q => H.size ≤ q) (va_runS (As := [.ref b, .int 0]) (rest := rest) ⟨hx, hb, hml, hown, hts⟩ (c_Law_cell (k := 0) (b := b) (L := L) (xs := xs) hL (by decide) H.size) (xcwS 2 hts ww_526 ww_524 ww_525 ww_0 (by decide +kernel) rfl rfl ⟨Nat.le_of_ble_eq_true rfl, Nat.le_of_ble_eq_true rfl⟩)
    ⟨cell_blind, fun U hU hW => ⟨rfl, by rw [hU], by rw [hU]; exact va_X.moved hW.alike hXH, Nat.lt_of_lt_of_le hbl hsz⟩⟩ rfl rfl hls rfl (lv_room hrest) hdg hcs) hS (fun q h1 h2 => absurd h1 (Nat.not_lt.mpr h2)) (fun q h => hAd q (Nat.le_trans hsz h)) (fun r u t H1 locs1 ht hvm hpost hB hz hk hS1 => ?_)
  rw [hpost]
  exact kk H1 locs1 (hP.kept (fun k q hq => hk q.1 (hP k q hq).lt (fun h9 => absurd (hP k q hq).lt (Nat.not_lt.mpr h9)))) hS1
theorem xsld (hx : p.tables.exec = Jvm.exec) (hb : c.code = code) (hX : va_X b L xs s s.heap) (hbl : b < s.heap.size) (hbA : ¬ A b) (hS : va_S A s.heap H locs) {k : Nat} (hk : k < L) (hL : L ≤ 4097) (hdg : decode code pc = .ok (.iaload, 1)) {R : Room}
    (kk : W p l e R s m args below meth c H locs cells slots Q (F0 m (pc + 1) ls (.int (xs k) :: rest))) : W p l e R s m args below meth c H locs cells slots Q (F0 m pc ls (.int (nI k) :: .ref b :: rest)) := by
  refine va_sld hx hb hX hbl hbA hS (vp_in_nI hk (by omega)) hdg ?_
  rw [nI_clamp (by omega)]
  exact kk
theorem i8 {i : Nat} (hi : i ≤ 8192) (hL : L ≤ 4097) (h : ¬ nI L - 8 < nI i) : i + 8 ≤ L := by
  have h1 : (nI L - 8).toInt = (L : Int) - 8 := pk_sub_toInt (a := L) (b := 8) (by omega) (by decide)
  have h2 : (nI i).toInt = (i : Int) := nI_toInt (by omega)
  have h3 : ¬ (nI L - 8).toInt < (nI i).toInt := fun h9 => h (Int32.lt_iff_toInt_lt.mpr h9)
  omega
end LW

theorem d_MemoryLink_isEnd_0 : decode b_MemoryLink_isEnd 0 = .ok (.iload_n 0, 1) := by decide +kernel
theorem d_MemoryLink_isEnd_1 : decode b_MemoryLink_isEnd 1 = .ok (.ifCond .eq 8, 3) := by decide +kernel
theorem d_MemoryLink_isEnd_4 : decode b_MemoryLink_isEnd 4 = .ok (.iload_n 0, 1) := by decide +kernel
theorem d_MemoryLink_isEnd_5 : decode b_MemoryLink_isEnd 5 = .ok (.iconst 1, 1) := by decide +kernel
theorem d_MemoryLink_isEnd_6 : decode b_MemoryLink_isEnd 6 = .ok (.if_icmp .ne 7, 3) := by decide +kernel
theorem d_MemoryLink_isEnd_9 : decode b_MemoryLink_isEnd 9 = .ok (.iconst 1, 1) := by decide +kernel
theorem d_MemoryLink_isEnd_10 : decode b_MemoryLink_isEnd 10 = .ok (.goto 4, 3) := by decide +kernel
theorem d_MemoryLink_isEnd_13 : decode b_MemoryLink_isEnd 13 = .ok (.iconst 0, 1) := by decide +kernel
theorem d_MemoryLink_isEnd_14 : decode b_MemoryLink_isEnd 14 = .ok (.ireturn, 1) := by decide +kernel
theorem d_MemoryLink_isByte_0 : decode b_MemoryLink_isByte 0 = .ok (.iload_n 0, 1) := by decide +kernel
theorem d_MemoryLink_isByte_1 : decode b_MemoryLink_isByte 1 = .ok (.ifCond .lt 14, 3) := by decide +kernel
theorem d_MemoryLink_isByte_4 : decode b_MemoryLink_isByte 4 = .ok (.iload_n 0, 1) := by decide +kernel
theorem d_MemoryLink_isByte_5 : decode b_MemoryLink_isByte 5 = .ok (.sipush 255, 3) := by decide +kernel
theorem d_MemoryLink_isByte_8 : decode b_MemoryLink_isByte 8 = .ok (.if_icmp .gt 7, 3) := by decide +kernel
theorem d_MemoryLink_isByte_11 : decode b_MemoryLink_isByte 11 = .ok (.iconst 1, 1) := by decide +kernel
theorem d_MemoryLink_isByte_12 : decode b_MemoryLink_isByte 12 = .ok (.goto 4, 3) := by decide +kernel
theorem d_MemoryLink_isByte_15 : decode b_MemoryLink_isByte 15 = .ok (.iconst 0, 1) := by decide +kernel
theorem d_MemoryLink_isByte_16 : decode b_MemoryLink_isByte 16 = .ok (.ireturn, 1) := by decide +kernel
theorem d_MemoryLink_isData_0 : decode b_MemoryLink_isData 0 = .ok (.iload_n 0, 1) := by decide +kernel
theorem d_MemoryLink_isData_1 : decode b_MemoryLink_isData 1 = .ok (.sipush 256, 3) := by decide +kernel
theorem d_MemoryLink_isData_4 : decode b_MemoryLink_isData 4 = .ok (.if_icmp .ge 7, 3) := by decide +kernel
theorem d_MemoryLink_isData_7 : decode b_MemoryLink_isData 7 = .ok (.iconst 1, 1) := by decide +kernel
theorem d_MemoryLink_isData_8 : decode b_MemoryLink_isData 8 = .ok (.goto 4, 3) := by decide +kernel
theorem d_MemoryLink_isData_11 : decode b_MemoryLink_isData 11 = .ok (.iconst 0, 1) := by decide +kernel
theorem d_MemoryLink_isData_12 : decode b_MemoryLink_isData 12 = .ok (.ireturn, 1) := by decide +kernel
theorem d_Row_free_0 : decode b_Row_free 0 = .ok (.aload_n 0, 1) := by decide +kernel
theorem d_Row_free_1 : decode b_Row_free 1 = .ok (.getfield 9, 3) := by decide +kernel
theorem d_Row_free_4 : decode b_Row_free 4 = .ok (.arraylength, 1) := by decide +kernel
theorem d_Row_free_5 : decode b_Row_free 5 = .ok (.aload_n 0, 1) := by decide +kernel
theorem d_Row_free_6 : decode b_Row_free 6 = .ok (.getfield 15, 3) := by decide +kernel
theorem d_Row_free_9 : decode b_Row_free 9 = .ok (.isub, 1) := by decide +kernel
theorem d_Row_free_10 : decode b_Row_free 10 = .ok (.ireturn, 1) := by decide +kernel
theorem d_Row_wrapped_0 : decode b_Row_wrapped 0 = .ok (.iload_n 1, 1) := by decide +kernel
theorem d_Row_wrapped_1 : decode b_Row_wrapped 1 = .ok (.aload_n 0, 1) := by decide +kernel
theorem d_Row_wrapped_2 : decode b_Row_wrapped 2 = .ok (.getfield 9, 3) := by decide +kernel
theorem d_Row_wrapped_5 : decode b_Row_wrapped 5 = .ok (.arraylength, 1) := by decide +kernel
theorem d_Row_wrapped_6 : decode b_Row_wrapped 6 = .ok (.if_icmp .lt 13, 3) := by decide +kernel
theorem d_Row_wrapped_9 : decode b_Row_wrapped 9 = .ok (.iload_n 1, 1) := by decide +kernel
theorem d_Row_wrapped_10 : decode b_Row_wrapped 10 = .ok (.aload_n 0, 1) := by decide +kernel
theorem d_Row_wrapped_11 : decode b_Row_wrapped 11 = .ok (.getfield 9, 3) := by decide +kernel
theorem d_Row_wrapped_14 : decode b_Row_wrapped 14 = .ok (.arraylength, 1) := by decide +kernel
theorem d_Row_wrapped_15 : decode b_Row_wrapped 15 = .ok (.isub, 1) := by decide +kernel
theorem d_Row_wrapped_16 : decode b_Row_wrapped 16 = .ok (.goto 4, 3) := by decide +kernel
theorem d_Row_wrapped_19 : decode b_Row_wrapped 19 = .ok (.iload_n 1, 1) := by decide +kernel
theorem d_Row_wrapped_20 : decode b_Row_wrapped 20 = .ok (.ireturn, 1) := by decide +kernel
theorem d_Row_append_0 : decode b_Row_append 0 = .ok (.aload_n 0, 1) := by decide +kernel
theorem d_Row_append_1 : decode b_Row_append 1 = .ok (.getfield 15, 3) := by decide +kernel
theorem d_Row_append_4 : decode b_Row_append 4 = .ok (.aload_n 0, 1) := by decide +kernel
theorem d_Row_append_5 : decode b_Row_append 5 = .ok (.getfield 9, 3) := by decide +kernel
theorem d_Row_append_8 : decode b_Row_append 8 = .ok (.arraylength, 1) := by decide +kernel
theorem d_Row_append_9 : decode b_Row_append 9 = .ok (.if_icmp .ge 32, 3) := by decide +kernel
theorem d_Row_append_12 : decode b_Row_append 12 = .ok (.aload_n 0, 1) := by decide +kernel
theorem d_Row_append_13 : decode b_Row_append 13 = .ok (.getfield 9, 3) := by decide +kernel
theorem d_Row_append_16 : decode b_Row_append 16 = .ok (.aload_n 0, 1) := by decide +kernel
theorem d_Row_append_17 : decode b_Row_append 17 = .ok (.aload_n 0, 1) := by decide +kernel
theorem d_Row_append_18 : decode b_Row_append 18 = .ok (.getfield 19, 3) := by decide +kernel
theorem d_Row_append_21 : decode b_Row_append 21 = .ok (.aload_n 0, 1) := by decide +kernel
theorem d_Row_append_22 : decode b_Row_append 22 = .ok (.getfield 15, 3) := by decide +kernel
theorem d_Row_append_25 : decode b_Row_append 25 = .ok (.iadd, 1) := by decide +kernel
theorem d_Row_append_26 : decode b_Row_append 26 = .ok (.invokevirtual 22, 3) := by decide +kernel
theorem d_Row_append_29 : decode b_Row_append 29 = .ok (.iload_n 1, 1) := by decide +kernel
theorem d_Row_append_30 : decode b_Row_append 30 = .ok (.iastore, 1) := by decide +kernel
theorem d_Row_append_31 : decode b_Row_append 31 = .ok (.aload_n 0, 1) := by decide +kernel
theorem d_Row_append_32 : decode b_Row_append 32 = .ok (.dup, 1) := by decide +kernel
theorem d_Row_append_33 : decode b_Row_append 33 = .ok (.getfield 15, 3) := by decide +kernel
theorem d_Row_append_36 : decode b_Row_append 36 = .ok (.iconst 1, 1) := by decide +kernel
theorem d_Row_append_37 : decode b_Row_append 37 = .ok (.iadd, 1) := by decide +kernel
theorem d_Row_append_38 : decode b_Row_append 38 = .ok (.putfield 15, 3) := by decide +kernel
theorem d_Row_append_41 : decode b_Row_append 41 = .ok (.return_, 1) := by decide +kernel
theorem d_Row_removeFirst_0 : decode b_Row_removeFirst 0 = .ok (.aload_n 0, 1) := by decide +kernel
theorem d_Row_removeFirst_1 : decode b_Row_removeFirst 1 = .ok (.getfield 15, 3) := by decide +kernel
theorem d_Row_removeFirst_4 : decode b_Row_removeFirst 4 = .ok (.ifCond .ne 6, 3) := by decide +kernel
theorem d_Row_removeFirst_7 : decode b_Row_removeFirst 7 = .ok (.bipush (-3), 2) := by decide +kernel
theorem d_Row_removeFirst_9 : decode b_Row_removeFirst 9 = .ok (.ireturn, 1) := by decide +kernel
theorem d_Row_removeFirst_10 : decode b_Row_removeFirst 10 = .ok (.aload_n 0, 1) := by decide +kernel
theorem d_Row_removeFirst_11 : decode b_Row_removeFirst 11 = .ok (.getfield 9, 3) := by decide +kernel
theorem d_Row_removeFirst_14 : decode b_Row_removeFirst 14 = .ok (.aload_n 0, 1) := by decide +kernel
theorem d_Row_removeFirst_15 : decode b_Row_removeFirst 15 = .ok (.getfield 19, 3) := by decide +kernel
theorem d_Row_removeFirst_18 : decode b_Row_removeFirst 18 = .ok (.iaload, 1) := by decide +kernel
theorem d_Row_removeFirst_19 : decode b_Row_removeFirst 19 = .ok (.istore_n 1, 1) := by decide +kernel
theorem d_Row_removeFirst_20 : decode b_Row_removeFirst 20 = .ok (.aload_n 0, 1) := by decide +kernel
theorem d_Row_removeFirst_21 : decode b_Row_removeFirst 21 = .ok (.aload_n 0, 1) := by decide +kernel
theorem d_Row_removeFirst_22 : decode b_Row_removeFirst 22 = .ok (.aload_n 0, 1) := by decide +kernel
theorem d_Row_removeFirst_23 : decode b_Row_removeFirst 23 = .ok (.getfield 19, 3) := by decide +kernel
theorem d_Row_removeFirst_26 : decode b_Row_removeFirst 26 = .ok (.iconst 1, 1) := by decide +kernel
theorem d_Row_removeFirst_27 : decode b_Row_removeFirst 27 = .ok (.iadd, 1) := by decide +kernel
theorem d_Row_removeFirst_28 : decode b_Row_removeFirst 28 = .ok (.invokevirtual 22, 3) := by decide +kernel
theorem d_Row_removeFirst_31 : decode b_Row_removeFirst 31 = .ok (.putfield 19, 3) := by decide +kernel
theorem d_Row_removeFirst_34 : decode b_Row_removeFirst 34 = .ok (.aload_n 0, 1) := by decide +kernel
theorem d_Row_removeFirst_35 : decode b_Row_removeFirst 35 = .ok (.dup, 1) := by decide +kernel
theorem d_Row_removeFirst_36 : decode b_Row_removeFirst 36 = .ok (.getfield 15, 3) := by decide +kernel
theorem d_Row_removeFirst_39 : decode b_Row_removeFirst 39 = .ok (.iconst 1, 1) := by decide +kernel
theorem d_Row_removeFirst_40 : decode b_Row_removeFirst 40 = .ok (.isub, 1) := by decide +kernel
theorem d_Row_removeFirst_41 : decode b_Row_removeFirst 41 = .ok (.putfield 15, 3) := by decide +kernel
theorem d_Row_removeFirst_44 : decode b_Row_removeFirst 44 = .ok (.iload_n 1, 1) := by decide +kernel
theorem d_Row_removeFirst_45 : decode b_Row_removeFirst 45 = .ok (.ireturn, 1) := by decide +kernel
/-! a ring of n places that holds a list -/
def wr (n j : Nat) : Nat := if j < n then j else j - n
def Rep (n : Nat) (f : Nat → Int32) (i : Nat) (L : List Int32) : Prop := i < n ∧ L.length ≤ n ∧ n ≤ 64 ∧ ∀ k, k < L.length → f (wr n (i + k)) = L.getD k 0
theorem wr_lt {n i k : Nat} (hi : i < n) (hk : k ≤ n) : wr n (i + k) < n := by
  unfold wr; split <;> omega
theorem Rep.app {n : Nat} {f : Nat → Int32} {i : Nat} {L : List Int32} (h : Rep n f i L) (hl : L.length < n) (c : Int32) : Rep n (upd f (wr n (i + L.length)) c) i (L ++ [c]) := by
  obtain ⟨h1, h2, h3, h4⟩ := h
  refine ⟨h1, by simp; omega, h3, fun k hk => ?_⟩
  simp at hk
  by_cases e : k = L.length
  · subst e
    simp [upd, List.getD]
  · have hk' : k < L.length := by omega
    have hne : wr n (i + k) ≠ wr n (i + L.length) := by
      unfold wr; split <;> split <;> omega
    rw [pk_un hne, h4 k hk']
    simp [List.getD, List.getElem?_append_left hk']
theorem Rep.tail {n : Nat} {f : Nat → Int32} {i : Nat} {L : List Int32} (h : Rep n f i L) (hl : 0 < L.length) : Rep n f (wr n (i + 1)) L.tail ∧ f i = L.headD 0 := by
  obtain ⟨h1, h2, h3, h4⟩ := h
  cases L with
  | nil => simp at hl
  | cons c T =>
    refine ⟨⟨wr_lt h1 (by simp at h2; omega), by simp at h2 ⊢; omega, h3, fun k hk => ?_⟩, ?_⟩
    · simp at hk h2
      have h5 := h4 (k + 1) (by simp; omega)
      have e : wr n (wr n (i + 1) + k) = wr n (i + (k + 1)) := by
        unfold wr; split <;> split <;> (try split) <;> omega
      rw [e, h5]
      simp [List.getD]
    · have h5 := h4 0 (by simp)
      have e : wr n (i + 0) = i := by unfold wr; simp; omega
      rw [e] at h5
      rw [h5]
      simp [List.getD]
/-- the answer of removeFirst, and what is left -/
def s_Row_removeFirst (L : List Int32) : Int32 × List Int32 := (match L with | [] => -3 | c :: _ => c, L.tail)
def s_Row_append (n : Nat) (L : List Int32) (c : Int32) : List Int32 := if L.length < n then L ++ [c] else L
theorem xnat {i : Int32} (h : ¬ i < 0) : i = nI i.toNatClampNeg := by
  obtain ⟨j, hj, rfl⟩ := nI_of h
  rw [nI_clamp hj]
theorem xnat_lt {i : Int32} {n : Nat} (h : ¬ i < 0) (h2 : ¬ nI n ≤ i) (hn : n < 2 ^ 31) : i.toNatClampNeg < n := by
  obtain ⟨j, hj, rfl⟩ := nI_of h
  rw [nI_clamp hj]
  exact Nat.lt_of_not_le fun h9 => h2 (nI_le h9 hj)
theorem xne {x v : Int32} {n : Int} (h : ¬ x = v) (hv : v.toInt = n) : x.toInt ≠ n := fun e => h (Int32.toInt_inj.mp (e.trans hv.symm))
theorem xsub1 {p : Nat} (h : 0 < p) : nI p - 1 = nI (p - 1) := pk_sub (a := p) (b := 1) h
def s_MemoryLink_isEnd (end_ : Int32) : Int32 := bnd (α := Int32) (if end_ = 0 then (1) else (if end_ = 1 then (1) else (0))) (fun y2 => y2)
abbrev rm_MemoryLink_isEnd : Room := { frames := 0, cells := 0, slots := 0, locals := 0 }
set_option maxHeartbeats 4000000 in
set_option maxRecDepth 100000 in
theorem c_MemoryLink_isEnd {l : Launch} {D : va_G} {cI cZ : ClassId} (end_ : Int32) (sz : Nat) : Met l y_MemoryLink_isEnd (w_MemoryLink_isEnd) rm_MemoryLink_isEnd (va_Pc [.int end_] (xPre xNs D vwCl cI cZ [] sz)) (va_Qi (fun (r : Int32) (u : Unit) => r = s_MemoryLink_isEnd end_ ∧ xB r) (fun u t9 => xAt D vwCl (va_A [] sz) [] t9) (va_A [] sz)) 0 0 (va_A [] sz) := by
  refine xBody_z (S := Unit) (cc := b_MemoryLink_isEnd) (maxL := 1) (by decide) rfl (Nat.le_of_ble_eq_true rfl) ?_
  intro p e s m args below meth c A H ls Q hx hb hml hin hts hown hP hD hK hN hS hA hl hret
  replace hl : lv_has ls 1 [(0, .int end_)] := hl
  have hq : s_MemoryLink_isEnd end_ = (bnd (α := Int32) (if end_ = 0 then (1) else (if end_ = 1 then (1) else (0))) (fun y2 => y2)) := rfl
  refine lv_iload_n hx hb d_MemoryLink_isEnd_0 rfl (lv_at hl 0 rfl) ?_
  have J1 : ∀ (y2 : Int32) (H : Heap) (locs : List Loc), y2 = (if end_ = 0 then (1) else (if end_ = 1 then (1) else (0))) → xB y2 → va_P D vwCl [] H → va_D A [] → va_S A s.heap H locs → W p l e rm_MemoryLink_isEnd s m args below meth c H locs 0 0 Q (F0 m 14 ls [.int y2]) := by
    intro y2 H locs hy2 hby2 hP hD hS
    replace hq := hq.trans (bnd_eq hy2)
    try dsimp only at hq
    exact hret y2 () ⟨hq.symm, hby2⟩ _ _ _ _ hby2 hP hD hS d_MemoryLink_isEnd_14
  have hv : ((if end_ = 0 then (1) else (if end_ = 1 then (1) else (0))) : Int32) = (if end_ = 0 then (1) else (if end_ = 1 then (1) else (0))) := rfl
  refine lv_if_eq (tgt := 9) hx hb d_MemoryLink_isEnd_1 rfl (fun h3 => ?_) (fun h3 => ?_)
  · replace hv := hv.trans (if_pos h3)
    refine lv_iconst (v := 1) hx hb d_MemoryLink_isEnd_9 rfl ?_
    refine lv_goto (tgt := 14) hx hb d_MemoryLink_isEnd_10 rfl ?_
    exact J1 _ _ _ hv.symm (Or.inr rfl) hP hD hS
  replace hv := hv.trans (if_neg h3)
  refine lv_iload_n hx hb d_MemoryLink_isEnd_4 rfl (lv_at hl 0 rfl) ?_
  refine lv_iconst (v := 1) hx hb d_MemoryLink_isEnd_5 rfl ?_
  refine lv_icmp_ne (tgt := 13) hx hb d_MemoryLink_isEnd_6 rfl (fun h4 => ?_) (fun h4 => ?_)
  · replace hv := hv.trans (if_neg h4)
    refine lv_iconst (v := 0) hx hb d_MemoryLink_isEnd_13 rfl ?_
    exact J1 _ _ _ hv.symm (Or.inl rfl) hP hD hS
  replace hv := hv.trans (if_pos h4)
  refine lv_iconst (v := 1) hx hb d_MemoryLink_isEnd_9 rfl ?_
  refine lv_goto (tgt := 14) hx hb d_MemoryLink_isEnd_10 rfl ?_
  exact J1 _ _ _ hv.symm (Or.inr rfl) hP hD hS

def s_MemoryLink_isByte (v_ : Int32) : Int32 := bnd (α := Int32) (if v_ < 0 then (0) else (if 255 < v_ then (0) else (1))) (fun y2 => y2)
abbrev rm_MemoryLink_isByte : Room := { frames := 0, cells := 0, slots := 0, locals := 0 }
set_option maxHeartbeats 4000000 in
set_option maxRecDepth 100000 in
theorem c_MemoryLink_isByte {l : Launch} {D : va_G} {cI cZ : ClassId} (v_ : Int32) (sz : Nat) : Met l y_MemoryLink_isByte (w_MemoryLink_isByte) rm_MemoryLink_isByte (va_Pc [.int v_] (xPre xNs D vwCl cI cZ [] sz)) (va_Qi (fun (r : Int32) (u : Unit) => r = s_MemoryLink_isByte v_ ∧ xB r) (fun u t9 => xAt D vwCl (va_A [] sz) [] t9) (va_A [] sz)) 0 0 (va_A [] sz) := by
  refine xBody_z (S := Unit) (cc := b_MemoryLink_isByte) (maxL := 1) (by decide) rfl (Nat.le_of_ble_eq_true rfl) ?_
  intro p e s m args below meth c A H ls Q hx hb hml hin hts hown hP hD hK hN hS hA hl hret
  replace hl : lv_has ls 1 [(0, .int v_)] := hl
  have hq : s_MemoryLink_isByte v_ = (bnd (α := Int32) (if v_ < 0 then (0) else (if 255 < v_ then (0) else (1))) (fun y2 => y2)) := rfl
  refine lv_iload_n hx hb d_MemoryLink_isByte_0 rfl (lv_at hl 0 rfl) ?_
  have J1 : ∀ (y2 : Int32) (H : Heap) (locs : List Loc), y2 = (if v_ < 0 then (0) else (if 255 < v_ then (0) else (1))) → xB y2 → va_P D vwCl [] H → va_D A [] → va_S A s.heap H locs → W p l e rm_MemoryLink_isByte s m args below meth c H locs 0 0 Q (F0 m 16 ls [.int y2]) := by
    intro y2 H locs hy2 hby2 hP hD hS
    replace hq := hq.trans (bnd_eq hy2)
    try dsimp only at hq
    exact hret y2 () ⟨hq.symm, hby2⟩ _ _ _ _ hby2 hP hD hS d_MemoryLink_isByte_16
  have hv : ((if v_ < 0 then (0) else (if 255 < v_ then (0) else (1))) : Int32) = (if v_ < 0 then (0) else (if 255 < v_ then (0) else (1))) := rfl
  refine lv_if_lt (tgt := 15) hx hb d_MemoryLink_isByte_1 rfl (fun h3 => ?_) (fun h3 => ?_)
  · replace hv := hv.trans (if_pos h3)
    refine lv_iconst (v := 0) hx hb d_MemoryLink_isByte_15 rfl ?_
    exact J1 _ _ _ hv.symm (Or.inl rfl) hP hD hS
  replace hv := hv.trans (if_neg h3)
  refine lv_iload_n hx hb d_MemoryLink_isByte_4 rfl (lv_at hl 0 rfl) ?_
  refine lv_sipush (v := 255) hx hb d_MemoryLink_isByte_5 rfl ?_
  refine lv_icmp_gt (tgt := 15) hx hb d_MemoryLink_isByte_8 rfl (fun h4 => ?_) (fun h4 => ?_)
  · replace hv := hv.trans (if_pos h4)
    refine lv_iconst (v := 0) hx hb d_MemoryLink_isByte_15 rfl ?_
    exact J1 _ _ _ hv.symm (Or.inl rfl) hP hD hS
  replace hv := hv.trans (if_neg h4)
  refine lv_iconst (v := 1) hx hb d_MemoryLink_isByte_11 rfl ?_
  refine lv_goto (tgt := 16) hx hb d_MemoryLink_isByte_12 rfl ?_
  exact J1 _ _ _ hv.symm (Or.inr rfl) hP hD hS

def s_MemoryLink_isData (c_ : Int32) : Int32 := bnd (α := Int32) (if 256 ≤ c_ then (0) else (1)) (fun y2 => y2)
abbrev rm_MemoryLink_isData : Room := { frames := 0, cells := 0, slots := 0, locals := 0 }
set_option maxHeartbeats 4000000 in
set_option maxRecDepth 100000 in
theorem c_MemoryLink_isData {l : Launch} {D : va_G} {cI cZ : ClassId} (c_ : Int32) (sz : Nat) : Met l y_MemoryLink_isData (w_MemoryLink_isData) rm_MemoryLink_isData (va_Pc [.int c_] (xPre xNs D vwCl cI cZ [] sz)) (va_Qi (fun (r : Int32) (u : Unit) => r = s_MemoryLink_isData c_ ∧ xB r) (fun u t9 => xAt D vwCl (va_A [] sz) [] t9) (va_A [] sz)) 0 0 (va_A [] sz) := by
  refine xBody_z (S := Unit) (cc := b_MemoryLink_isData) (maxL := 1) (by decide) rfl (Nat.le_of_ble_eq_true rfl) ?_
  intro p e s m args below meth c A H ls Q hx hb hml hin hts hown hP hD hK hN hS hA hl hret
  replace hl : lv_has ls 1 [(0, .int c_)] := hl
  have hq : s_MemoryLink_isData c_ = (bnd (α := Int32) (if 256 ≤ c_ then (0) else (1)) (fun y2 => y2)) := rfl
  refine lv_iload_n hx hb d_MemoryLink_isData_0 rfl (lv_at hl 0 rfl) ?_
  refine lv_sipush (v := 256) hx hb d_MemoryLink_isData_1 rfl ?_
  have J1 : ∀ (y2 : Int32) (H : Heap) (locs : List Loc), y2 = (if 256 ≤ c_ then (0) else (1)) → xB y2 → va_P D vwCl [] H → va_D A [] → va_S A s.heap H locs → W p l e rm_MemoryLink_isData s m args below meth c H locs 0 0 Q (F0 m 12 ls [.int y2]) := by
    intro y2 H locs hy2 hby2 hP hD hS
    replace hq := hq.trans (bnd_eq hy2)
    try dsimp only at hq
    exact hret y2 () ⟨hq.symm, hby2⟩ _ _ _ _ hby2 hP hD hS d_MemoryLink_isData_12
  have hv : ((if 256 ≤ c_ then (0) else (1)) : Int32) = (if 256 ≤ c_ then (0) else (1)) := rfl
  refine lv_icmp_ge (tgt := 11) hx hb d_MemoryLink_isData_4 rfl (fun h3 => ?_) (fun h3 => ?_)
  · replace hv := hv.trans (if_pos h3)
    refine lv_iconst (v := 0) hx hb d_MemoryLink_isData_11 rfl ?_
    exact J1 _ _ _ hv.symm (Or.inl rfl) hP hD hS
  replace hv := hv.trans (if_neg h3)
  refine lv_iconst (v := 1) hx hb d_MemoryLink_isData_7 rfl ?_
  refine lv_goto (tgt := 12) hx hb d_MemoryLink_isData_8 rfl ?_
  exact J1 _ _ _ hv.symm (Or.inr rfl) hP hD hS

def s_Row_free (n : Nat) (L : List Int32) : Int32 := (nI n) - (nI L.length)
abbrev rm_Row_free : Room := { frames := 0, cells := 0, slots := 0, locals := 0 }
set_option maxHeartbeats 4000000 in
set_option maxRecDepth 100000 in
theorem c_Row_free {l : Launch} {D : va_G} {cI cZ : ClassId} (n : Nat) (L : List Int32) (h0 : Nat) (a : Nat) (f : Nat → Int32) (i : Nat) (hR : Rep n f i L) (sz : Nat) : Met l y_Row_free (w_Row_free) rm_Row_free (va_Pc [.ref h0] (xPre xNs D vwCl cI cZ [(h0, .inr (0, [.ref a, .int (nI i), .int (nI L.length)])), (a, .inl (cI, n, .inl f))] sz)) (va_Qi (fun (r : Int32) (u : Unit) => r = s_Row_free n L) (fun u t9 => xAt D vwCl (va_A [(h0, .inr (0, [.ref a, .int (nI i), .int (nI L.length)])), (a, .inl (cI, n, .inl f))] sz) [(h0, .inr (0, [.ref a, .int (nI i), .int (nI L.length)])), (a, .inl (cI, n, .inl f))] t9) (va_A [(h0, .inr (0, [.ref a, .int (nI i), .int (nI L.length)])), (a, .inl (cI, n, .inl f))] sz)) 0 0 (va_A [(h0, .inr (0, [.ref a, .int (nI i), .int (nI L.length)])), (a, .inl (cI, n, .inl f))] sz) := by
  refine xBody_i (S := Unit) (cc := b_Row_free) (maxL := 1) (by decide) rfl (Nat.le_of_ble_eq_true rfl) ?_
  intro p e s m args below meth c A H ls Q hx hb hml hin hts hown hP hD hK hN hS hA hl hret
  replace hl : lv_has ls 1 [(0, .ref h0)] := hl
  have hin_Row : ∀ w ∈ u_ws R_Row F_Row 3, w ∈ (w_Row_free) := (fun w h => xm (lay_Row w h))
  have hq : s_Row_free n L = ((nI n) - (nI L.length)) := rfl
  refine lv_aload_n hx hb d_Row_free_0 rfl (lv_at hl 0 rfl) ?_
  refine va_get (D := D) (ci := 0) (v := .ref a) (C := R_Row) (T := F_Row) (N := 3) hx hb hts hin_Row hown hK hP 0 rfl rfl 0 (by decide) (hts _ (xm ww_36)) (fun _ h9 => h9) rfl d_Row_free_1 ?_
  refine va_alen (v := nI n) hx hb hK hP 1 0 rfl rfl rfl d_Row_free_4 ?_
  refine lv_aload_n hx hb d_Row_free_5 rfl (lv_at hl 0 rfl) ?_
  refine va_get (D := D) (ci := 0) (v := .int (nI L.length)) (C := R_Row) (T := F_Row) (N := 3) hx hb hts hin_Row hown hK hP 0 rfl rfl 2 (by decide) (hts _ (xm ww_40)) (fun _ h9 => h9) rfl d_Row_free_6 ?_
  refine lv_isub hx hb d_Row_free_9 ?_
  exact hret ((nI n) - (nI L.length)) () hq.symm _ _ _ _ hP hD hS d_Row_free_10

def s_Row_wrapped (n : Nat) (place : Int32) : Int32 := bnd (α := Int32) (if place < (nI n) then (place) else (place - (nI n))) (fun y2 => y2)
abbrev rm_Row_wrapped : Room := { frames := 0, cells := 0, slots := 0, locals := 0 }
set_option maxHeartbeats 4000000 in
set_option maxRecDepth 100000 in
theorem c_Row_wrapped {l : Launch} {D : va_G} {cI cZ : ClassId} (n : Nat) (place : Int32) (h0 : Nat) (a : Nat) (f : Nat → Int32) (i : Nat) (L : List Int32) (hR : Rep n f i L) (sz : Nat) : Met l y_Row_wrapped (w_Row_wrapped) rm_Row_wrapped (va_Pc [.ref h0, .int place] (xPre xNs D vwCl cI cZ [(h0, .inr (0, [.ref a, .int (nI i), .int (nI L.length)])), (a, .inl (cI, n, .inl f))] sz)) (va_Qi (fun (r : Int32) (u : Unit) => r = s_Row_wrapped n place) (fun u t9 => xAt D vwCl (va_A [(h0, .inr (0, [.ref a, .int (nI i), .int (nI L.length)])), (a, .inl (cI, n, .inl f))] sz) [(h0, .inr (0, [.ref a, .int (nI i), .int (nI L.length)])), (a, .inl (cI, n, .inl f))] t9) (va_A [(h0, .inr (0, [.ref a, .int (nI i), .int (nI L.length)])), (a, .inl (cI, n, .inl f))] sz)) 0 0 (va_A [(h0, .inr (0, [.ref a, .int (nI i), .int (nI L.length)])), (a, .inl (cI, n, .inl f))] sz) := by
  refine xBody_i (S := Unit) (cc := b_Row_wrapped) (maxL := 2) (by decide) rfl (Nat.le_of_ble_eq_true rfl) ?_
  intro p e s m args below meth c A H ls Q hx hb hml hin hts hown hP hD hK hN hS hA hl hret
  replace hl : lv_has ls 2 [(0, .ref h0), (1, .int place)] := hl
  have hin_Row : ∀ w ∈ u_ws R_Row F_Row 3, w ∈ (w_Row_wrapped) := (fun w h => xm (lay_Row w h))
  have hq : s_Row_wrapped n place = (bnd (α := Int32) (if place < (nI n) then (place) else (place - (nI n))) (fun y2 => y2)) := rfl
  refine lv_iload_n hx hb d_Row_wrapped_0 rfl (lv_at hl 1 rfl) ?_
  refine lv_aload_n hx hb d_Row_wrapped_1 rfl (lv_at hl 0 rfl) ?_
  refine va_get (D := D) (ci := 0) (v := .ref a) (C := R_Row) (T := F_Row) (N := 3) hx hb hts hin_Row hown hK hP 0 rfl rfl 0 (by decide) (hts _ (xm ww_36)) (fun _ h9 => h9) rfl d_Row_wrapped_2 ?_
  refine va_alen (v := nI n) hx hb hK hP 1 0 rfl rfl rfl d_Row_wrapped_5 ?_
  have J1 : ∀ (y2 : Int32) (H : Heap) (locs : List Loc), y2 = (if place < (nI n) then (place) else (place - (nI n))) → va_P D vwCl [(h0, .inr (0, [.ref a, .int (nI i), .int (nI L.length)])), (a, .inl (cI, n, .inl f))] H → va_D A [(h0, .inr (0, [.ref a, .int (nI i), .int (nI L.length)])), (a, .inl (cI, n, .inl f))] → va_S A s.heap H locs → W p l e rm_Row_wrapped s m args below meth c H locs 0 0 Q (F0 m 20 ls [.int y2]) := by
    intro y2 H locs hy2 hP hD hS
    replace hq := hq.trans (bnd_eq hy2)
    try dsimp only at hq
    exact hret y2 () hq.symm _ _ _ _ hP hD hS d_Row_wrapped_20
  have hv : ((if place < (nI n) then (place) else (place - (nI n))) : Int32) = (if place < (nI n) then (place) else (place - (nI n))) := rfl
  refine lv_icmp_lt (tgt := 19) hx hb d_Row_wrapped_6 rfl (fun h3 => ?_) (fun h3 => ?_)
  · replace hv := hv.trans (if_pos h3)
    refine lv_iload_n hx hb d_Row_wrapped_19 rfl (lv_at hl 1 rfl) ?_
    exact J1 _ _ _ hv.symm hP hD hS
  replace hv := hv.trans (if_neg h3)
  refine lv_iload_n hx hb d_Row_wrapped_9 rfl (lv_at hl 1 rfl) ?_
  refine lv_aload_n hx hb d_Row_wrapped_10 rfl (lv_at hl 0 rfl) ?_
  refine va_get (D := D) (ci := 0) (v := .ref a) (C := R_Row) (T := F_Row) (N := 3) hx hb hts hin_Row hown hK hP 0 rfl rfl 0 (by decide) (hts _ (xm ww_36)) (fun _ h9 => h9) rfl d_Row_wrapped_11 ?_
  refine va_alen (v := nI n) hx hb hK hP 1 0 rfl rfl rfl d_Row_wrapped_14 ?_
  refine lv_isub hx hb d_Row_wrapped_15 ?_
  refine lv_goto (tgt := 20) hx hb d_Row_wrapped_16 rfl ?_
  exact J1 _ _ _ hv.symm hP hD hS

theorem xwrap {n : Nat} {f : Nat → Int32} {i : Nat} {L : List Int32} (hR : Rep n f i L) {j : Nat} (hj : j ≤ n) : s_Row_wrapped n (nI (i + j)) = nI (wr n (i + j)) := by
  have h1 := hR.1
  have h3 := hR.2.2.1
  unfold s_Row_wrapped wr
  by_cases h : i + j < n
  · rw [if_pos ((nI_ltI (by omega) (by omega)).mpr h), if_pos h]
    rfl
  · rw [if_neg (fun h9 => h ((nI_ltI (by omega) (by omega)).mp h9)), if_neg h, pk_sub (by omega)]
    rfl
abbrev rm_Row_append : Room := { frames := 1, cells := 0, slots := 0, locals := 21 }
set_option maxHeartbeats 4000000 in
set_option maxRecDepth 100000 in
theorem c_Row_append {l : Launch} {D : va_G} {cI cZ : ClassId} (n : Nat) (L : List Int32) (c_ : Int32) (h0 : Nat) (a : Nat) (f : Nat → Int32) (i : Nat) (hR : Rep n f i L) (sz : Nat) : Met l y_Row_append (w_Row_append) rm_Row_append (va_Pc [.ref h0, .int c_] (xPre xNs D vwCl cI cZ [(h0, .inr (0, [.ref a, .int (nI i), .int (nI L.length)])), (a, .inl (cI, n, .inl f))] sz)) (va_Qv (fun (u : List Int32 × (Nat → Int32)) => u.1 = s_Row_append n L c_ ∧ Rep n u.2 i u.1) (fun u t9 => xAt D vwCl (va_A [(h0, .inr (0, [.ref a, .int (nI i), .int (nI L.length)])), (a, .inl (cI, n, .inl f))] sz) [(h0, .inr (0, [.ref a, .int (nI i), .int (nI u.1.length)])), (a, .inl (cI, n, .inl u.2))] t9) (va_A [(h0, .inr (0, [.ref a, .int (nI i), .int (nI L.length)])), (a, .inl (cI, n, .inl f))] sz)) 0 0 (va_A [(h0, .inr (0, [.ref a, .int (nI i), .int (nI L.length)])), (a, .inl (cI, n, .inl f))] sz) := by
  refine xBody_v (S := List Int32 × (Nat → Int32)) (cc := b_Row_append) (maxL := 2) (by decide) rfl (Nat.le_of_ble_eq_true rfl) ?_
  intro p e s m args below meth c A H ls Q hx hb hml hin hts hown hP hD hK hN hS hA hl hret
  replace hl : lv_has ls 2 [(0, .ref h0), (1, .int c_)] := hl
  have hin_Row : ∀ w ∈ u_ws R_Row F_Row 3, w ∈ (w_Row_append) := (fun w h => xm (lay_Row w h))
  refine lv_aload_n hx hb d_Row_append_0 rfl (lv_at hl 0 rfl) ?_
  refine va_get (D := D) (ci := 0) (v := .int (nI L.length)) (C := R_Row) (T := F_Row) (N := 3) hx hb hts hin_Row hown hK hP 0 rfl rfl 2 (by decide) (hts _ (xm ww_40)) (fun _ h9 => h9) rfl d_Row_append_1 ?_
  refine lv_aload_n hx hb d_Row_append_4 rfl (lv_at hl 0 rfl) ?_
  refine va_get (D := D) (ci := 0) (v := .ref a) (C := R_Row) (T := F_Row) (N := 3) hx hb hts hin_Row hown hK hP 0 rfl rfl 0 (by decide) (hts _ (xm ww_36)) (fun _ h9 => h9) rfl d_Row_append_5 ?_
  refine va_alen (v := nI n) hx hb hK hP 1 0 rfl rfl rfl d_Row_append_8 ?_
  refine lv_icmp_ge (tgt := 41) hx hb d_Row_append_9 rfl (fun h1 => ?_) (fun h1 => ?_)
  · skip
    have hge : ¬ L.length < n := fun h9 => nI_ge h9 (by have := hR.2.2.1; omega) h1
    exact hret (L, f) ⟨by simp [s_Row_append, hge], hR⟩ _ _ _ _ hP hD hS d_Row_append_41
  refine lv_aload_n hx hb d_Row_append_12 rfl (lv_at hl 0 rfl) ?_
  refine va_get (D := D) (ci := 0) (v := .ref a) (C := R_Row) (T := F_Row) (N := 3) hx hb hts hin_Row hown hK hP 0 rfl rfl 0 (by decide) (hts _ (xm ww_36)) (fun _ h9 => h9) rfl d_Row_append_13 ?_
  refine lv_aload_n hx hb d_Row_append_16 rfl (lv_at hl 0 rfl) ?_
  refine lv_aload_n hx hb d_Row_append_17 rfl (lv_at hl 0 rfl) ?_
  refine va_get (D := D) (ci := 0) (v := .int (nI i)) (C := R_Row) (T := F_Row) (N := 3) hx hb hts hin_Row hown hK hP 0 rfl rfl 1 (by decide) (hts _ (xm ww_37)) (fun _ h9 => h9) rfl d_Row_append_18 ?_
  refine lv_aload_n hx hb d_Row_append_21 rfl (lv_at hl 0 rfl) ?_
  refine va_get (D := D) (ci := 0) (v := .int (nI L.length)) (C := R_Row) (T := F_Row) (N := 3) hx hb hts hin_Row hown hK hP 0 rfl rfl 2 (by decide) (hts _ (xm ww_40)) (fun _ h9 => h9) rfl d_Row_append_22 ?_
  refine lv_iadd hx hb d_Row_append_25 ?_
  refine xtop (y := nI (i + L.length)) (nI_add i L.length) ?_
  refine xcall_i (wc := [(h0, .inr (0, [.ref a, .int (nI i), .int (nI L.length)])), (a, .inl (cI, n, .inl f))]) (wr := []) (ws1 := fun (u : Unit) => [(h0, .inr (0, [.ref a, .int (nI i), .int (nI L.length)])), (a, .inl (cI, n, .inl f))]) (va_runV (As := [.int (nI (i + L.length))]) (rest := [.ref a]) ⟨hx, hb, hml, hown, hts⟩ (c_Row_wrapped n (nI (i + L.length)) h0 a f i L hR H.size) (xcwV 1 hts ww_264 ww_261 ww_263 ws_Row_wrapped ww_4 (by decide +kernel) rfl rfl ⟨Nat.le_of_ble_eq_true rfl, Nat.le_of_ble_eq_true rfl⟩) (xPreV (ci := 0) (q0 := 0) (q := (R_Row, F_Row, 3)) (hP.sub [0, 1] rfl) (hD.sub [0, 1] (by decide) rfl) hK hN rfl rfl rfl) rfl rfl hl.1 rfl (lv_room (Nat.le_of_ble_eq_true rfl)) d_Row_append_26 ⟨Nat.le_of_ble_eq_true rfl, Nat.le_of_ble_eq_true rfl⟩) hP hD hS hA [0, 1] [] [0, 1] rfl rfl (by decide) (by decide) (by decide) (fun _ => rfl) (fun r2 u2 H locs hw hP hD hS => ?_)
  subst hw
  replace hP : va_P D vwCl [(h0, .inr (0, [.ref a, .int (nI i), .int (nI L.length)])), (a, .inl (cI, n, .inl f))] H := hP
  replace hD : va_D A [(h0, .inr (0, [.ref a, .int (nI i), .int (nI L.length)])), (a, .inl (cI, n, .inl f))] := hD
  refine lv_iload_n hx hb d_Row_append_29 rfl (lv_at hl 1 rfl) ?_
  refine xiast (k := (wr n (i + L.length))) hx hb hK hP hD hS 1 0 rfl rfl (xwrap hR hR.2.1) (wr_lt hR.1 hR.2.1) (by first | omega | (have := hR.2.2.1; omega)) d_Row_append_30 (fun H locs hP hD hS => ?_)
  replace hP : va_P D vwCl [(h0, .inr (0, [.ref a, .int (nI i), .int (nI L.length)])), (a, .inl (cI, n, .inl (upd f (wr n (i + L.length)) c_)))] H := hP
  replace hD : va_D A [(h0, .inr (0, [.ref a, .int (nI i), .int (nI L.length)])), (a, .inl (cI, n, .inl (upd f (wr n (i + L.length)) c_)))] := hD
  refine lv_aload_n hx hb d_Row_append_31 rfl (lv_at hl 0 rfl) ?_
  refine lv_dup hx hb d_Row_append_32 rfl ?_
  refine va_get (D := D) (ci := 0) (v := .int (nI L.length)) (C := R_Row) (T := F_Row) (N := 3) hx hb hts hin_Row hown hK hP 0 rfl rfl 2 (by decide) (hts _ (xm ww_40)) (fun _ h9 => h9) rfl d_Row_append_33 ?_
  refine lv_iconst (v := 1) hx hb d_Row_append_36 rfl ?_
  refine lv_iadd hx hb d_Row_append_37 ?_
  refine xtop (y := nI (L.length + 1)) (nI_add L.length 1) ?_
  refine va_put (D := D) (ci := 0) (v := .int (nI (L.length + 1))) (ty := (.int)) (C := R_Row) (T := F_Row) (N := 3) hx hb hts hin_Row t_Row t_Row_ok n_Row hown hK hP hD hS 0 rfl rfl 2 (by decide) (hts _ (xm ww_40)) (fun _ h9 => h9) rfl (by decide +kernel) rfl rfl (Nat.le_of_ble_eq_true rfl) d_Row_append_38 (fun H locs hP hD hS => ?_)
  replace hP : va_P D vwCl [(h0, .inr (0, [.ref a, .int (nI i), .int (nI (L.length + 1))])), (a, .inl (cI, n, .inl (upd f (wr n (i + L.length)) c_)))] H := hP
  replace hD : va_D A [(h0, .inr (0, [.ref a, .int (nI i), .int (nI (L.length + 1))])), (a, .inl (cI, n, .inl (upd f (wr n (i + L.length)) c_)))] := hD
  have hlt : L.length < n := Nat.lt_of_not_le (fun h9 => h1 (nI_le h9 (by have := hR.2.2.1; have := hR.2.1; omega)))
  have e9 : L.length + 1 = (L ++ [c_]).length := by simp
  rw [e9] at hP hD
  exact hret (L ++ [c_], upd f (wr n (i + L.length)) c_) ⟨by simp [s_Row_append, hlt], hR.app hlt c_⟩ _ _ _ _ hP hD hS d_Row_append_41

abbrev rm_Row_removeFirst : Room := { frames := 1, cells := 0, slots := 0, locals := 21 }
set_option maxHeartbeats 4000000 in
set_option maxRecDepth 100000 in
theorem c_Row_removeFirst {l : Launch} {D : va_G} {cI cZ : ClassId} (L : List Int32) (n : Nat) (h0 : Nat) (a : Nat) (f : Nat → Int32) (i : Nat) (hR : Rep n f i L) (sz : Nat) : Met l y_Row_removeFirst (w_Row_removeFirst) rm_Row_removeFirst (va_Pc [.ref h0] (xPre xNs D vwCl cI cZ [(h0, .inr (0, [.ref a, .int (nI i), .int (nI L.length)])), (a, .inl (cI, n, .inl f))] sz)) (va_Qi (fun (r : Int32) (u : List Int32 × Nat) => (r, u.1) = s_Row_removeFirst L ∧ Rep n f u.2 u.1) (fun u t9 => xAt D vwCl (va_A [(h0, .inr (0, [.ref a, .int (nI i), .int (nI L.length)])), (a, .inl (cI, n, .inl f))] sz) [(h0, .inr (0, [.ref a, .int (nI u.2), .int (nI u.1.length)])), (a, .inl (cI, n, .inl f))] t9) (va_A [(h0, .inr (0, [.ref a, .int (nI i), .int (nI L.length)])), (a, .inl (cI, n, .inl f))] sz)) 0 0 (va_A [(h0, .inr (0, [.ref a, .int (nI i), .int (nI L.length)])), (a, .inl (cI, n, .inl f))] sz) := by
  refine xBody_i (S := List Int32 × Nat) (cc := b_Row_removeFirst) (maxL := 2) (by decide) rfl (Nat.le_of_ble_eq_true rfl) ?_
  intro p e s m args below meth c A H ls Q hx hb hml hin hts hown hP hD hK hN hS hA hl hret
  replace hl : lv_has ls 2 [(0, .ref h0)] := hl
  have hin_Row : ∀ w ∈ u_ws R_Row F_Row 3, w ∈ (w_Row_removeFirst) := (fun w h => xm (lay_Row w h))
  refine lv_aload_n hx hb d_Row_removeFirst_0 rfl (lv_at hl 0 rfl) ?_
  refine va_get (D := D) (ci := 0) (v := .int (nI L.length)) (C := R_Row) (T := F_Row) (N := 3) hx hb hts hin_Row hown hK hP 0 rfl rfl 2 (by decide) (hts _ (xm ww_40)) (fun _ h9 => h9) rfl d_Row_removeFirst_1 ?_
  refine lv_if_ne (tgt := 10) hx hb d_Row_removeFirst_4 rfl (fun h1 => ?_) (fun h1 => ?_)
  · skip
    refine lv_aload_n hx hb d_Row_removeFirst_10 rfl (lv_at hl 0 rfl) ?_
    refine va_get (D := D) (ci := 0) (v := .ref a) (C := R_Row) (T := F_Row) (N := 3) hx hb hts hin_Row hown hK hP 0 rfl rfl 0 (by decide) (hts _ (xm ww_36)) (fun _ h9 => h9) rfl d_Row_removeFirst_11 ?_
    refine lv_aload_n hx hb d_Row_removeFirst_14 rfl (lv_at hl 0 rfl) ?_
    refine va_get (D := D) (ci := 0) (v := .int (nI i)) (C := R_Row) (T := F_Row) (N := 3) hx hb hts hin_Row hown hK hP 0 rfl rfl 1 (by decide) (hts _ (xm ww_37)) (fun _ h9 => h9) rfl d_Row_removeFirst_15 ?_
    refine xiald (k := i) hx hb hK hP 1 0 rfl rfl rfl hR.1 (by first | omega | (have := hR.2.2.1; omega)) d_Row_removeFirst_18 ?_
    refine lv_istore_n hx hb d_Row_removeFirst_19 rfl hl (by decide) rfl (fun ls hl => ?_)
    replace hl : lv_has ls 2 [(1, .int (f i)), (0, .ref h0)] := hl
    refine lv_aload_n hx hb d_Row_removeFirst_20 rfl (lv_at hl 1 rfl) ?_
    refine lv_aload_n hx hb d_Row_removeFirst_21 rfl (lv_at hl 1 rfl) ?_
    refine lv_aload_n hx hb d_Row_removeFirst_22 rfl (lv_at hl 1 rfl) ?_
    refine va_get (D := D) (ci := 0) (v := .int (nI i)) (C := R_Row) (T := F_Row) (N := 3) hx hb hts hin_Row hown hK hP 0 rfl rfl 1 (by decide) (hts _ (xm ww_37)) (fun _ h9 => h9) rfl d_Row_removeFirst_23 ?_
    refine lv_iconst (v := 1) hx hb d_Row_removeFirst_26 rfl ?_
    refine lv_iadd hx hb d_Row_removeFirst_27 ?_
    refine xtop (y := nI (i + 1)) (nI_add i 1) ?_
    refine xcall_i (wc := [(h0, .inr (0, [.ref a, .int (nI i), .int (nI L.length)])), (a, .inl (cI, n, .inl f))]) (wr := []) (ws1 := fun (u : Unit) => [(h0, .inr (0, [.ref a, .int (nI i), .int (nI L.length)])), (a, .inl (cI, n, .inl f))]) (va_runV (As := [.int (nI (i + 1))]) (rest := [.ref h0]) ⟨hx, hb, hml, hown, hts⟩ (c_Row_wrapped n (nI (i + 1)) h0 a f i L hR H.size) (xcwV 1 hts ww_264 ww_261 ww_263 ws_Row_wrapped ww_4 (by decide +kernel) rfl rfl ⟨Nat.le_of_ble_eq_true rfl, Nat.le_of_ble_eq_true rfl⟩) (xPreV (ci := 0) (q0 := 0) (q := (R_Row, F_Row, 3)) (hP.sub [0, 1] rfl) (hD.sub [0, 1] (by decide) rfl) hK hN rfl rfl rfl) rfl rfl hl.1 rfl (lv_room (Nat.le_of_ble_eq_true rfl)) d_Row_removeFirst_28 ⟨Nat.le_of_ble_eq_true rfl, Nat.le_of_ble_eq_true rfl⟩) hP hD hS hA [0, 1] [] [0, 1] rfl rfl (by decide) (by decide) (by decide) (fun _ => rfl) (fun r2 u2 H locs hw hP hD hS => ?_)
    subst hw
    replace hP : va_P D vwCl [(h0, .inr (0, [.ref a, .int (nI i), .int (nI L.length)])), (a, .inl (cI, n, .inl f))] H := hP
    replace hD : va_D A [(h0, .inr (0, [.ref a, .int (nI i), .int (nI L.length)])), (a, .inl (cI, n, .inl f))] := hD
    refine va_put (D := D) (ci := 0) (v := .int (s_Row_wrapped n (nI (i + 1)))) (ty := (.int)) (C := R_Row) (T := F_Row) (N := 3) hx hb hts hin_Row t_Row t_Row_ok n_Row hown hK hP hD hS 0 rfl rfl 1 (by decide) (hts _ (xm ww_37)) (fun _ h9 => h9) rfl (by decide +kernel) rfl rfl (Nat.le_of_ble_eq_true rfl) d_Row_removeFirst_31 (fun H locs hP hD hS => ?_)
    replace hP : va_P D vwCl [(h0, .inr (0, [.ref a, .int (s_Row_wrapped n (nI (i + 1))), .int (nI L.length)])), (a, .inl (cI, n, .inl f))] H := hP
    replace hD : va_D A [(h0, .inr (0, [.ref a, .int (s_Row_wrapped n (nI (i + 1))), .int (nI L.length)])), (a, .inl (cI, n, .inl f))] := hD
    refine lv_aload_n hx hb d_Row_removeFirst_34 rfl (lv_at hl 1 rfl) ?_
    refine lv_dup hx hb d_Row_removeFirst_35 rfl ?_
    refine va_get (D := D) (ci := 0) (v := .int (nI L.length)) (C := R_Row) (T := F_Row) (N := 3) hx hb hts hin_Row hown hK hP 0 rfl rfl 2 (by decide) (hts _ (xm ww_40)) (fun _ h9 => h9) rfl d_Row_removeFirst_36 ?_
    refine lv_iconst (v := 1) hx hb d_Row_removeFirst_39 rfl ?_
    refine lv_isub hx hb d_Row_removeFirst_40 ?_
    refine va_put (D := D) (ci := 0) (v := .int ((nI L.length) - 1)) (ty := (.int)) (C := R_Row) (T := F_Row) (N := 3) hx hb hts hin_Row t_Row t_Row_ok n_Row hown hK hP hD hS 0 rfl rfl 2 (by decide) (hts _ (xm ww_40)) (fun _ h9 => h9) rfl (by decide +kernel) rfl rfl (Nat.le_of_ble_eq_true rfl) d_Row_removeFirst_41 (fun H locs hP hD hS => ?_)
    replace hP : va_P D vwCl [(h0, .inr (0, [.ref a, .int (s_Row_wrapped n (nI (i + 1))), .int ((nI L.length) - 1)])), (a, .inl (cI, n, .inl f))] H := hP
    replace hD : va_D A [(h0, .inr (0, [.ref a, .int (s_Row_wrapped n (nI (i + 1))), .int ((nI L.length) - 1)])), (a, .inl (cI, n, .inl f))] := hD
    refine lv_iload_n hx hb d_Row_removeFirst_44 rfl (lv_at hl 0 rfl) ?_
    have h0 : 0 < L.length := Nat.pos_of_ne_zero fun h9 => h1 (by rw [h9]; rfl)
    obtain ⟨hR1, hc⟩ := hR.tail h0
    rw [xwrap hR (show 1 ≤ n by have := hR.2.1; omega), xsub1 h0, show L.length - 1 = L.tail.length by simp] at hP hD
    exact hret (f i) (L.tail, wr n (i + 1)) ⟨by rw [hc]; cases L with | nil => simp at h0 | cons x y => rfl, hR1⟩ _ _ _ _ hP hD hS d_Row_removeFirst_45
  refine lv_bipush (v := (-3)) hx hb d_Row_removeFirst_7 rfl ?_
  have h0 : L = [] := by
    have h8 := hR.2.1
    have h9 := hR.2.2.1
    exact List.eq_nil_of_length_eq_zero (Decidable.byContradiction fun h7 => nI_ne0 (Nat.pos_of_ne_zero h7) (by omega) h1)
  subst h0
  exact hret (-3) ([], i) ⟨rfl, hR⟩ _ _ _ _ hP hD hS d_Row_removeFirst_9

theorem d_Model_has_0 : decode b_Model_has 0 = .ok (.aload_n 0, 1) := by decide +kernel
theorem d_Model_has_1 : decode b_Model_has 1 = .ok (.getfield 71, 3) := by decide +kernel
theorem d_Model_has_4 : decode b_Model_has 4 = .ok (.iconst 2, 1) := by decide +kernel
theorem d_Model_has_5 : decode b_Model_has 5 = .ok (.iaload, 1) := by decide +kernel
theorem d_Model_has_6 : decode b_Model_has 6 = .ok (.iload_n 1, 1) := by decide +kernel
theorem d_Model_has_7 : decode b_Model_has 7 = .ok (.iand, 1) := by decide +kernel
theorem d_Model_has_8 : decode b_Model_has 8 = .ok (.ifCond .eq 7, 3) := by decide +kernel
theorem d_Model_has_11 : decode b_Model_has 11 = .ok (.iconst 1, 1) := by decide +kernel
theorem d_Model_has_12 : decode b_Model_has 12 = .ok (.goto 4, 3) := by decide +kernel
theorem d_Model_has_15 : decode b_Model_has 15 = .ok (.iconst 0, 1) := by decide +kernel
theorem d_Model_has_16 : decode b_Model_has 16 = .ok (.ireturn, 1) := by decide +kernel
theorem d_Model_checkOf_0 : decode b_Model_checkOf 0 = .ok (.iconst 0, 1) := by decide +kernel
theorem d_Model_checkOf_1 : decode b_Model_checkOf 1 = .ok (.istore_n 3, 1) := by decide +kernel
theorem d_Model_checkOf_2 : decode b_Model_checkOf 2 = .ok (.iload_n 1, 1) := by decide +kernel
theorem d_Model_checkOf_3 : decode b_Model_checkOf 3 = .ok (.istore 4, 2) := by decide +kernel
theorem d_Model_checkOf_5 : decode b_Model_checkOf 5 = .ok (.iload 4, 2) := by decide +kernel
theorem d_Model_checkOf_7 : decode b_Model_checkOf 7 = .ok (.iload_n 1, 1) := by decide +kernel
theorem d_Model_checkOf_8 : decode b_Model_checkOf 8 = .ok (.iload_n 2, 1) := by decide +kernel
theorem d_Model_checkOf_9 : decode b_Model_checkOf 9 = .ok (.iadd, 1) := by decide +kernel
theorem d_Model_checkOf_10 : decode b_Model_checkOf 10 = .ok (.if_icmp .ge 21, 3) := by decide +kernel
theorem d_Model_checkOf_13 : decode b_Model_checkOf 13 = .ok (.iload_n 3, 1) := by decide +kernel
theorem d_Model_checkOf_14 : decode b_Model_checkOf 14 = .ok (.aload_n 0, 1) := by decide +kernel
theorem d_Model_checkOf_15 : decode b_Model_checkOf 15 = .ok (.getfield 71, 3) := by decide +kernel
theorem d_Model_checkOf_18 : decode b_Model_checkOf 18 = .ok (.iload 4, 2) := by decide +kernel
theorem d_Model_checkOf_20 : decode b_Model_checkOf 20 = .ok (.iaload, 1) := by decide +kernel
theorem d_Model_checkOf_21 : decode b_Model_checkOf 21 = .ok (.invokestatic 123, 3) := by decide +kernel
theorem d_Model_checkOf_24 : decode b_Model_checkOf 24 = .ok (.istore_n 3, 1) := by decide +kernel
theorem d_Model_checkOf_25 : decode b_Model_checkOf 25 = .ok (.iinc 4 1, 3) := by decide +kernel
theorem d_Model_checkOf_28 : decode b_Model_checkOf 28 = .ok (.goto (-23), 3) := by decide +kernel
theorem d_Model_checkOf_31 : decode b_Model_checkOf 31 = .ok (.iload_n 3, 1) := by decide +kernel
theorem d_Model_checkOf_32 : decode b_Model_checkOf 32 = .ok (.ireturn, 1) := by decide +kernel
theorem d_Model_dataStatus_0 : decode b_Model_dataStatus 0 = .ok (.aload_n 0, 1) := by decide +kernel
theorem d_Model_dataStatus_1 : decode b_Model_dataStatus 1 = .ok (.getfield 127, 3) := by decide +kernel
theorem d_Model_dataStatus_4 : decode b_Model_dataStatus 4 = .ok (.bipush 9, 2) := by decide +kernel
theorem d_Model_dataStatus_6 : decode b_Model_dataStatus 6 = .ok (.isub, 1) := by decide +kernel
theorem d_Model_dataStatus_7 : decode b_Model_dataStatus 7 = .ok (.istore_n 2, 1) := by decide +kernel
theorem d_Model_dataStatus_8 : decode b_Model_dataStatus 8 = .ok (.iload_n 2, 1) := by decide +kernel
theorem d_Model_dataStatus_9 : decode b_Model_dataStatus 9 = .ok (.iload_n 1, 1) := by decide +kernel
theorem d_Model_dataStatus_10 : decode b_Model_dataStatus 10 = .ok (.iconst 1, 1) := by decide +kernel
theorem d_Model_dataStatus_11 : decode b_Model_dataStatus 11 = .ok (.iadd, 1) := by decide +kernel
theorem d_Model_dataStatus_12 : decode b_Model_dataStatus 12 = .ok (.if_icmp .eq 17, 3) := by decide +kernel
theorem d_Model_dataStatus_15 : decode b_Model_dataStatus 15 = .ok (.iload_n 2, 1) := by decide +kernel
theorem d_Model_dataStatus_16 : decode b_Model_dataStatus 16 = .ok (.iload_n 1, 1) := by decide +kernel
theorem d_Model_dataStatus_17 : decode b_Model_dataStatus 17 = .ok (.iconst 1, 1) := by decide +kernel
theorem d_Model_dataStatus_18 : decode b_Model_dataStatus 18 = .ok (.iadd, 1) := by decide +kernel
theorem d_Model_dataStatus_19 : decode b_Model_dataStatus 19 = .ok (.if_icmp .ge 7, 3) := by decide +kernel
theorem d_Model_dataStatus_22 : decode b_Model_dataStatus 22 = .ok (.iconst 5, 1) := by decide +kernel
theorem d_Model_dataStatus_23 : decode b_Model_dataStatus 23 = .ok (.goto 5, 3) := by decide +kernel
theorem d_Model_dataStatus_26 : decode b_Model_dataStatus 26 = .ok (.bipush 6, 2) := by decide +kernel
theorem d_Model_dataStatus_28 : decode b_Model_dataStatus 28 = .ok (.ireturn, 1) := by decide +kernel
theorem d_Model_dataStatus_29 : decode b_Model_dataStatus 29 = .ok (.aload_n 0, 1) := by decide +kernel
theorem d_Model_dataStatus_30 : decode b_Model_dataStatus 30 = .ok (.getfield 71, 3) := by decide +kernel
theorem d_Model_dataStatus_33 : decode b_Model_dataStatus 33 = .ok (.bipush 9, 2) := by decide +kernel
theorem d_Model_dataStatus_35 : decode b_Model_dataStatus 35 = .ok (.iload_n 1, 1) := by decide +kernel
theorem d_Model_dataStatus_36 : decode b_Model_dataStatus 36 = .ok (.iadd, 1) := by decide +kernel
theorem d_Model_dataStatus_37 : decode b_Model_dataStatus 37 = .ok (.iaload, 1) := by decide +kernel
theorem d_Model_dataStatus_38 : decode b_Model_dataStatus 38 = .ok (.aload_n 0, 1) := by decide +kernel
theorem d_Model_dataStatus_39 : decode b_Model_dataStatus 39 = .ok (.bipush 9, 2) := by decide +kernel
theorem d_Model_dataStatus_41 : decode b_Model_dataStatus 41 = .ok (.iload_n 1, 1) := by decide +kernel
theorem d_Model_dataStatus_42 : decode b_Model_dataStatus 42 = .ok (.invokevirtual 130, 3) := by decide +kernel
theorem d_Model_dataStatus_45 : decode b_Model_dataStatus 45 = .ok (.if_icmp .ne 7, 3) := by decide +kernel
theorem d_Model_dataStatus_48 : decode b_Model_dataStatus 48 = .ok (.iconst 0, 1) := by decide +kernel
theorem d_Model_dataStatus_49 : decode b_Model_dataStatus 49 = .ok (.goto 4, 3) := by decide +kernel
theorem d_Model_dataStatus_52 : decode b_Model_dataStatus 52 = .ok (.iconst 4, 1) := by decide +kernel
theorem d_Model_dataStatus_53 : decode b_Model_dataStatus 53 = .ok (.ireturn, 1) := by decide +kernel
theorem d_Model_addressOf_0 : decode b_Model_addressOf 0 = .ok (.aload_n 0, 1) := by decide +kernel
theorem d_Model_addressOf_1 : decode b_Model_addressOf 1 = .ok (.iconst 4, 1) := by decide +kernel
theorem d_Model_addressOf_2 : decode b_Model_addressOf 2 = .ok (.invokevirtual 133, 3) := by decide +kernel
theorem d_Model_addressOf_5 : decode b_Model_addressOf 5 = .ok (.ifCond .eq 15, 3) := by decide +kernel
theorem d_Model_addressOf_8 : decode b_Model_addressOf 8 = .ok (.aload_n 0, 1) := by decide +kernel
theorem d_Model_addressOf_9 : decode b_Model_addressOf 9 = .ok (.getfield 71, 3) := by decide +kernel
theorem d_Model_addressOf_12 : decode b_Model_addressOf 12 = .ok (.bipush 6, 2) := by decide +kernel
theorem d_Model_addressOf_14 : decode b_Model_addressOf 14 = .ok (.iaload, 1) := by decide +kernel
theorem d_Model_addressOf_15 : decode b_Model_addressOf 15 = .ok (.iload_n 1, 1) := by decide +kernel
theorem d_Model_addressOf_16 : decode b_Model_addressOf 16 = .ok (.iadd, 1) := by decide +kernel
theorem d_Model_addressOf_17 : decode b_Model_addressOf 17 = .ok (.goto 10, 3) := by decide +kernel
theorem d_Model_addressOf_20 : decode b_Model_addressOf 20 = .ok (.aload_n 0, 1) := by decide +kernel
theorem d_Model_addressOf_21 : decode b_Model_addressOf 21 = .ok (.getfield 71, 3) := by decide +kernel
theorem d_Model_addressOf_24 : decode b_Model_addressOf 24 = .ok (.bipush 6, 2) := by decide +kernel
theorem d_Model_addressOf_26 : decode b_Model_addressOf 26 = .ok (.iaload, 1) := by decide +kernel
theorem d_Model_addressOf_27 : decode b_Model_addressOf 27 = .ok (.ireturn, 1) := by decide +kernel
theorem d_Model_say_0 : decode b_Model_say 0 = .ok (.aload_n 0, 1) := by decide +kernel
theorem d_Model_say_1 : decode b_Model_say 1 = .ok (.getfield 78, 3) := by decide +kernel
theorem d_Model_say_4 : decode b_Model_say 4 = .ok (.aload_n 0, 1) := by decide +kernel
theorem d_Model_say_5 : decode b_Model_say 5 = .ok (.getfield 142, 3) := by decide +kernel
theorem d_Model_say_8 : decode b_Model_say 8 = .ok (.iload_n 1, 1) := by decide +kernel
theorem d_Model_say_9 : decode b_Model_say 9 = .ok (.iastore, 1) := by decide +kernel
theorem d_Model_say_10 : decode b_Model_say 10 = .ok (.aload_n 0, 1) := by decide +kernel
theorem d_Model_say_11 : decode b_Model_say 11 = .ok (.dup, 1) := by decide +kernel
theorem d_Model_say_12 : decode b_Model_say 12 = .ok (.getfield 142, 3) := by decide +kernel
theorem d_Model_say_15 : decode b_Model_say 15 = .ok (.iconst 1, 1) := by decide +kernel
theorem d_Model_say_16 : decode b_Model_say 16 = .ok (.iadd, 1) := by decide +kernel
theorem d_Model_say_17 : decode b_Model_say 17 = .ok (.putfield 142, 3) := by decide +kernel
theorem d_Model_say_20 : decode b_Model_say 20 = .ok (.return_, 1) := by decide +kernel
theorem d_Model_sayCheck_0 : decode b_Model_sayCheck 0 = .ok (.iconst 0, 1) := by decide +kernel
theorem d_Model_sayCheck_1 : decode b_Model_sayCheck 1 = .ok (.istore_n 2, 1) := by decide +kernel
theorem d_Model_sayCheck_2 : decode b_Model_sayCheck 2 = .ok (.iload_n 1, 1) := by decide +kernel
theorem d_Model_sayCheck_3 : decode b_Model_sayCheck 3 = .ok (.istore_n 3, 1) := by decide +kernel
theorem d_Model_sayCheck_4 : decode b_Model_sayCheck 4 = .ok (.iload_n 3, 1) := by decide +kernel
theorem d_Model_sayCheck_5 : decode b_Model_sayCheck 5 = .ok (.aload_n 0, 1) := by decide +kernel
theorem d_Model_sayCheck_6 : decode b_Model_sayCheck 6 = .ok (.getfield 142, 3) := by decide +kernel
theorem d_Model_sayCheck_9 : decode b_Model_sayCheck 9 = .ok (.if_icmp .ge 20, 3) := by decide +kernel
theorem d_Model_sayCheck_12 : decode b_Model_sayCheck 12 = .ok (.iload_n 2, 1) := by decide +kernel
theorem d_Model_sayCheck_13 : decode b_Model_sayCheck 13 = .ok (.aload_n 0, 1) := by decide +kernel
theorem d_Model_sayCheck_14 : decode b_Model_sayCheck 14 = .ok (.getfield 78, 3) := by decide +kernel
theorem d_Model_sayCheck_17 : decode b_Model_sayCheck 17 = .ok (.iload_n 3, 1) := by decide +kernel
theorem d_Model_sayCheck_18 : decode b_Model_sayCheck 18 = .ok (.iaload, 1) := by decide +kernel
theorem d_Model_sayCheck_19 : decode b_Model_sayCheck 19 = .ok (.invokestatic 123, 3) := by decide +kernel
theorem d_Model_sayCheck_22 : decode b_Model_sayCheck 22 = .ok (.istore_n 2, 1) := by decide +kernel
theorem d_Model_sayCheck_23 : decode b_Model_sayCheck 23 = .ok (.iinc 3 1, 3) := by decide +kernel
theorem d_Model_sayCheck_26 : decode b_Model_sayCheck 26 = .ok (.goto (-22), 3) := by decide +kernel
theorem d_Model_sayCheck_29 : decode b_Model_sayCheck 29 = .ok (.aload_n 0, 1) := by decide +kernel
theorem d_Model_sayCheck_30 : decode b_Model_sayCheck 30 = .ok (.iload_n 2, 1) := by decide +kernel
theorem d_Model_sayCheck_31 : decode b_Model_sayCheck 31 = .ok (.invokevirtual 145, 3) := by decide +kernel
theorem d_Model_sayCheck_34 : decode b_Model_sayCheck 34 = .ok (.return_, 1) := by decide +kernel
theorem isEnd1 {x : Int32} (h : ¬ s_Model_isEnd x = 0) (h0 : ¬ x = 0) : x = 1 := by
  unfold s_Model_isEnd bnd at h
  by_cases h1 : x = 1
  · exact h1
  · rw [if_neg h0, if_neg h1] at h
    exact absurd rfl h
theorem xlt64 {n : Nat} (h : n ≤ 64) (h2 : ¬ nI n = 64) : n < 64 := by
  rcases Nat.lt_or_ge n 64 with h3 | h3
  · exact h3
  · exact absurd (show nI n = 64 by rw [show n = 64 by omega]; rfl) h2
theorem fits_in {x : Int32} {n : Nat} (hn : n < 2 ^ 31) (h : ¬ s_Model_fits x (nI n) = 0) : ¬ x < 0 ∧ ¬ nI n < x := by
  unfold s_Model_fits bnd at h
  by_cases h0 : x < 0
  · rw [if_pos h0] at h; exact absurd rfl h
  · by_cases h1 : nI n < x
    · rw [if_neg h0, if_pos h1] at h; exact absurd rfl h
    · exact ⟨h0, h1⟩
theorem fits_nn {x : Int32} (h : ¬ s_Model_fits x 31 = 0) : ¬ x < 0 := (fits_in (n := 31) (by decide) h).1
theorem fits_lt {x : Int32} (h : ¬ s_Model_fits x 31 = 0) : x.toNatClampNeg < 32 := Nat.lt_succ_of_le (xnat_le (fits_in (n := 31) (by decide) h).1 (fits_in (n := 31) (by decide) h).2 (by decide))
theorem bf_nn {f : Nat → Int32} (h : BF f) (i : Nat) : ¬ f i < 0 := by
  obtain ⟨b, hb, e⟩ := h i
  rw [e]; exact nI_pos (by omega)
theorem bf_lt {f : Nat → Int32} (h : BF f) (i : Nat) : (f i).toNatClampNeg < 256 := by
  obtain ⟨b, hb, e⟩ := h i
  rw [e, nI_clamp (by omega)]; exact hb
theorem ex_nn {t : Int32} {N : Nat} (h : ∃ a : Nat, a < N ∧ t = nI a) (hN : N ≤ 1048576) : ¬ t < 0 := by
  obtain ⟨a, ha, rfl⟩ := h
  exact nI_pos (by omega)
theorem ex_lt {t : Int32} {N : Nat} (h : ∃ a : Nat, a < N ∧ t = nI a) (hN : N ≤ 1048576) : t.toNatClampNeg < N := by
  obtain ⟨a, ha, rfl⟩ := h
  rw [nI_clamp (by omega)]; exact ha
def s_Model_has (pk : Nat → Int32) (x : Int32) : Int32 := bnd (α := Int32) (if ((pk 2) &&& x) = 0 then (0) else (1)) (fun y2 => y2)
abbrev rm_Model_has : Room := { frames := 0, cells := 0, slots := 0, locals := 0 }
set_option maxHeartbeats 1000000 in
set_option maxRecDepth 100000 in
theorem c_Model_has {l : Launch} {D : va_G} {cI cZ : ClassId} (pk : Nat → Int32) (x : Int32) (h0 : Nat) (a_st : Nat) (a_ck : Nat) (a_en : Nat) (a_au : Nat) (a_he : Nat) (a_qu : Nat) (a_lo : Nat) (a_ow : Nat) (a_fl : Nat) (a_ti : Nat) (a_gd : Nat) (a_ak : Nat) (a_sp : Nat) (a_se : Nat) (a_sd : Nat) (a_rw : Nat) (a_sz : Nat) (a_op : Nat) (a_th : Nat) (a_me : Nat) (a_pk : Nat) (a_re : Nat) (a_dr : Nat) (tg : Int32) (kc : Nat) (cm : Int32) (su : Int32) (kq : Nat) (sz : Nat) : Met l y_Model_has (w_Model_has) rm_Model_has (va_Pc [.ref h0, .int x] (xPre xNs D vwCl cI cZ [(h0, .inr (7, [.int tg, .ref a_st, .ref a_ck, .ref a_en, .ref a_au, .ref a_he, .ref a_qu, .ref a_lo, .ref a_ow, .ref a_fl, .ref a_ti, .ref a_gd, .ref a_ak, .ref a_sp, .ref a_se, .ref a_sd, .ref a_rw, .ref a_sz, .ref a_op, .ref a_th, .ref a_me, .ref a_pk, .int (nI kc), .int cm, .int su, .ref a_re, .int (nI kq), .ref a_dr])), (a_pk, .inl (cI, 40, .inl pk))] sz)) (va_Qi (fun (r : Int32) (u : Unit) => r = s_Model_has pk x ∧ xB r) (fun u t9 => xAt D vwCl (va_A [(h0, .inr (7, [.int tg, .ref a_st, .ref a_ck, .ref a_en, .ref a_au, .ref a_he, .ref a_qu, .ref a_lo, .ref a_ow, .ref a_fl, .ref a_ti, .ref a_gd, .ref a_ak, .ref a_sp, .ref a_se, .ref a_sd, .ref a_rw, .ref a_sz, .ref a_op, .ref a_th, .ref a_me, .ref a_pk, .int (nI kc), .int cm, .int su, .ref a_re, .int (nI kq), .ref a_dr])), (a_pk, .inl (cI, 40, .inl pk))] sz) [(h0, .inr (7, [.int tg, .ref a_st, .ref a_ck, .ref a_en, .ref a_au, .ref a_he, .ref a_qu, .ref a_lo, .ref a_ow, .ref a_fl, .ref a_ti, .ref a_gd, .ref a_ak, .ref a_sp, .ref a_se, .ref a_sd, .ref a_rw, .ref a_sz, .ref a_op, .ref a_th, .ref a_me, .ref a_pk, .int (nI kc), .int cm, .int su, .ref a_re, .int (nI kq), .ref a_dr])), (a_pk, .inl (cI, 40, .inl pk))] t9) (va_A [(h0, .inr (7, [.int tg, .ref a_st, .ref a_ck, .ref a_en, .ref a_au, .ref a_he, .ref a_qu, .ref a_lo, .ref a_ow, .ref a_fl, .ref a_ti, .ref a_gd, .ref a_ak, .ref a_sp, .ref a_se, .ref a_sd, .ref a_rw, .ref a_sz, .ref a_op, .ref a_th, .ref a_me, .ref a_pk, .int (nI kc), .int cm, .int su, .ref a_re, .int (nI kq), .ref a_dr])), (a_pk, .inl (cI, 40, .inl pk))] sz)) 0 0 (va_A [(h0, .inr (7, [.int tg, .ref a_st, .ref a_ck, .ref a_en, .ref a_au, .ref a_he, .ref a_qu, .ref a_lo, .ref a_ow, .ref a_fl, .ref a_ti, .ref a_gd, .ref a_ak, .ref a_sp, .ref a_se, .ref a_sd, .ref a_rw, .ref a_sz, .ref a_op, .ref a_th, .ref a_me, .ref a_pk, .int (nI kc), .int cm, .int su, .ref a_re, .int (nI kq), .ref a_dr])), (a_pk, .inl (cI, 40, .inl pk))] sz) := by
  refine xBody_z (S := Unit) (cc := b_Model_has) (maxL := 2) (by decide) rfl (Nat.le_of_ble_eq_true rfl) ?_
  intro p e s m args below meth c A H ls Q hx hb hml hin hts hown hP hD hK hN hS hA hl hret
  replace hl : lv_has ls 2 [(0, .ref h0), (1, .int x)] := hl
  have hin_Model : ∀ w ∈ u_ws R_Model F_Model 28, w ∈ (w_Model_has) := (fun w h => xm (lay_Model w h))
  have hq : s_Model_has pk x = (bnd (α := Int32) (if ((pk 2) &&& x) = 0 then (0) else (1)) (fun y2 => y2)) := rfl
  refine lv_aload_n hx hb d_Model_has_0 rfl (lv_at hl 0 rfl) ?_
  refine va_get (D := D) (ci := 7) (v := .ref a_pk) (C := R_Model) (T := F_Model) (N := 28) hx hb hts hin_Model hown hK hP 0 rfl rfl 21 (by decide) (hts _ (xm ww_554)) (fun _ h9 => h9) rfl d_Model_has_1 ?_
  refine lv_iconst (v := 2) hx hb d_Model_has_4 rfl ?_
  refine xiald (k := 2) hx hb hK hP 1 0 rfl rfl rfl (by decide) (by decide) d_Model_has_5 ?_
  refine lv_iload_n hx hb d_Model_has_6 rfl (lv_at hl 1 rfl) ?_
  refine lv_iand hx hb d_Model_has_7 ?_
  have J1 : ∀ (y2 : Int32) (H : Heap) (locs : List Loc), y2 = (if ((pk 2) &&& x) = 0 then (0) else (1)) → xB y2 → va_P D vwCl [(h0, .inr (7, [.int tg, .ref a_st, .ref a_ck, .ref a_en, .ref a_au, .ref a_he, .ref a_qu, .ref a_lo, .ref a_ow, .ref a_fl, .ref a_ti, .ref a_gd, .ref a_ak, .ref a_sp, .ref a_se, .ref a_sd, .ref a_rw, .ref a_sz, .ref a_op, .ref a_th, .ref a_me, .ref a_pk, .int (nI kc), .int cm, .int su, .ref a_re, .int (nI kq), .ref a_dr])), (a_pk, .inl (cI, 40, .inl pk))] H → va_D A [(h0, .inr (7, [.int tg, .ref a_st, .ref a_ck, .ref a_en, .ref a_au, .ref a_he, .ref a_qu, .ref a_lo, .ref a_ow, .ref a_fl, .ref a_ti, .ref a_gd, .ref a_ak, .ref a_sp, .ref a_se, .ref a_sd, .ref a_rw, .ref a_sz, .ref a_op, .ref a_th, .ref a_me, .ref a_pk, .int (nI kc), .int cm, .int su, .ref a_re, .int (nI kq), .ref a_dr])), (a_pk, .inl (cI, 40, .inl pk))] → va_S A s.heap H locs → W p l e rm_Model_has s m args below meth c H locs 0 0 Q (F0 m 16 ls [.int y2]) := by
    intro y2 H locs hy2 hby2 hP hD hS
    replace hq := hq.trans (bnd_eq hy2)
    try dsimp only at hq
    exact hret y2 () ⟨hq.symm, hby2⟩ _ _ _ _ hby2 hP hD hS d_Model_has_16
  have hv : ((if ((pk 2) &&& x) = 0 then (0) else (1)) : Int32) = (if ((pk 2) &&& x) = 0 then (0) else (1)) := rfl
  refine lv_if_eq (tgt := 15) hx hb d_Model_has_8 rfl (fun h3 => ?_) (fun h3 => ?_)
  · replace hv := hv.trans (if_pos h3)
    refine lv_iconst (v := 0) hx hb d_Model_has_15 rfl ?_
    exact J1 _ _ _ hv.symm (Or.inl rfl) hP hD hS
  replace hv := hv.trans (if_neg h3)
  refine lv_iconst (v := 1) hx hb d_Model_has_11 rfl ?_
  refine lv_goto (tgt := 16) hx hb d_Model_has_12 rfl ?_
  exact J1 _ _ _ hv.symm (Or.inr rfl) hP hD hS

def lp_checkOf (pk : Nat → Int32) (fr : Nat) (ln : Nat) : Nat → Nat → Int32 → Int32
  | 0, j, x1 => x1
  | nlp_checkOf + 1, j, x1 => if (nI (fr + ln)) ≤ (nI j) then (x1) else (lp_checkOf pk fr ln nlp_checkOf (j + 1) (s_Model_mixed x1 (pk j)))
def s_Model_checkOf (pk : Nat → Int32) (fr : Nat) (ln : Nat) : Int32 := lp_checkOf pk fr ln (fr + ln - fr) fr 0
abbrev rm_Model_checkOf : Room := { frames := 1, cells := 0, slots := 0, locals := 24 }
set_option maxHeartbeats 1000000 in
set_option maxRecDepth 100000 in
theorem c_Model_checkOf {l : Launch} {D : va_G} {cI cZ : ClassId} (pk : Nat → Int32) (fr : Nat) (ln : Nat) (h0 : Nat) (a_st : Nat) (a_ck : Nat) (a_en : Nat) (a_au : Nat) (a_he : Nat) (a_qu : Nat) (a_lo : Nat) (a_ow : Nat) (a_fl : Nat) (a_ti : Nat) (a_gd : Nat) (a_ak : Nat) (a_sp : Nat) (a_se : Nat) (a_sd : Nat) (a_rw : Nat) (a_sz : Nat) (a_op : Nat) (a_th : Nat) (a_me : Nat) (a_pk : Nat) (a_re : Nat) (a_dr : Nat) (tg : Int32) (kc : Nat) (cm : Int32) (su : Int32) (kq : Nat) (hfl : fr + ln ≤ 40) (sz : Nat) : Met l y_Model_checkOf (w_Model_checkOf) rm_Model_checkOf (va_Pc [.ref h0, .int (nI fr), .int (nI ln)] (xPre xNs D vwCl cI cZ [(h0, .inr (7, [.int tg, .ref a_st, .ref a_ck, .ref a_en, .ref a_au, .ref a_he, .ref a_qu, .ref a_lo, .ref a_ow, .ref a_fl, .ref a_ti, .ref a_gd, .ref a_ak, .ref a_sp, .ref a_se, .ref a_sd, .ref a_rw, .ref a_sz, .ref a_op, .ref a_th, .ref a_me, .ref a_pk, .int (nI kc), .int cm, .int su, .ref a_re, .int (nI kq), .ref a_dr])), (a_pk, .inl (cI, 40, .inl pk))] sz)) (va_Qi (fun (r : Int32) (u : Unit) => r = s_Model_checkOf pk fr ln) (fun u t9 => xAt D vwCl (va_A [(h0, .inr (7, [.int tg, .ref a_st, .ref a_ck, .ref a_en, .ref a_au, .ref a_he, .ref a_qu, .ref a_lo, .ref a_ow, .ref a_fl, .ref a_ti, .ref a_gd, .ref a_ak, .ref a_sp, .ref a_se, .ref a_sd, .ref a_rw, .ref a_sz, .ref a_op, .ref a_th, .ref a_me, .ref a_pk, .int (nI kc), .int cm, .int su, .ref a_re, .int (nI kq), .ref a_dr])), (a_pk, .inl (cI, 40, .inl pk))] sz) [(h0, .inr (7, [.int tg, .ref a_st, .ref a_ck, .ref a_en, .ref a_au, .ref a_he, .ref a_qu, .ref a_lo, .ref a_ow, .ref a_fl, .ref a_ti, .ref a_gd, .ref a_ak, .ref a_sp, .ref a_se, .ref a_sd, .ref a_rw, .ref a_sz, .ref a_op, .ref a_th, .ref a_me, .ref a_pk, .int (nI kc), .int cm, .int su, .ref a_re, .int (nI kq), .ref a_dr])), (a_pk, .inl (cI, 40, .inl pk))] t9) (va_A [(h0, .inr (7, [.int tg, .ref a_st, .ref a_ck, .ref a_en, .ref a_au, .ref a_he, .ref a_qu, .ref a_lo, .ref a_ow, .ref a_fl, .ref a_ti, .ref a_gd, .ref a_ak, .ref a_sp, .ref a_se, .ref a_sd, .ref a_rw, .ref a_sz, .ref a_op, .ref a_th, .ref a_me, .ref a_pk, .int (nI kc), .int cm, .int su, .ref a_re, .int (nI kq), .ref a_dr])), (a_pk, .inl (cI, 40, .inl pk))] sz)) 0 0 (va_A [(h0, .inr (7, [.int tg, .ref a_st, .ref a_ck, .ref a_en, .ref a_au, .ref a_he, .ref a_qu, .ref a_lo, .ref a_ow, .ref a_fl, .ref a_ti, .ref a_gd, .ref a_ak, .ref a_sp, .ref a_se, .ref a_sd, .ref a_rw, .ref a_sz, .ref a_op, .ref a_th, .ref a_me, .ref a_pk, .int (nI kc), .int cm, .int su, .ref a_re, .int (nI kq), .ref a_dr])), (a_pk, .inl (cI, 40, .inl pk))] sz) := by
  refine xBody_i (S := Unit) (cc := b_Model_checkOf) (maxL := 5) (by decide) rfl (Nat.le_of_ble_eq_true rfl) ?_
  intro p e s m args below meth c A H ls Q hx hb hml hin hts hown hP hD hK hN hS hA hl hret
  replace hl : lv_has ls 5 [(0, .ref h0), (1, .int (nI fr)), (2, .int (nI ln))] := hl
  have hin_Model : ∀ w ∈ u_ws R_Model F_Model 28, w ∈ (w_Model_checkOf) := (fun w h => xm (lay_Model w h))
  have hq : s_Model_checkOf pk fr ln = (lp_checkOf pk fr ln (fr + ln - fr) fr 0) := rfl
  refine lv_iconst (v := 0) hx hb d_Model_checkOf_0 rfl ?_
  refine lv_istore_n hx hb d_Model_checkOf_1 rfl hl (by decide) rfl (fun ls hl => ?_)
  replace hl : lv_has ls 5 [(3, .int 0), (0, .ref h0), (1, .int (nI fr)), (2, .int (nI ln))] := hl
  refine lv_iload_n hx hb d_Model_checkOf_2 rfl (lv_at hl 2 rfl) ?_
  refine lv_istore hx hb d_Model_checkOf_3 hl (by decide) rfl (fun ls hl => ?_)
  replace hl : lv_has ls 5 [(4, .int (nI fr)), (3, .int 0), (0, .ref h0), (1, .int (nI fr)), (2, .int (nI ln))] := hl
  have LPlp_checkOf : ∀ (nlp_checkOf : Nat) (j : Nat) (x1 : Int32) (ls : Array Slot) (H : Heap) (locs : List Loc), (j ≤ fr + ln) → fr + ln - j ≤ nlp_checkOf → lv_has ls 5 [(0, .ref h0), (1, .int (nI fr)), (2, .int (nI ln)), (3, .int x1), (4, .int (nI j))] → va_P D vwCl [(h0, .inr (7, [.int tg, .ref a_st, .ref a_ck, .ref a_en, .ref a_au, .ref a_he, .ref a_qu, .ref a_lo, .ref a_ow, .ref a_fl, .ref a_ti, .ref a_gd, .ref a_ak, .ref a_sp, .ref a_se, .ref a_sd, .ref a_rw, .ref a_sz, .ref a_op, .ref a_th, .ref a_me, .ref a_pk, .int (nI kc), .int cm, .int su, .ref a_re, .int (nI kq), .ref a_dr])), (a_pk, .inl (cI, 40, .inl pk))] H → va_D A [(h0, .inr (7, [.int tg, .ref a_st, .ref a_ck, .ref a_en, .ref a_au, .ref a_he, .ref a_qu, .ref a_lo, .ref a_ow, .ref a_fl, .ref a_ti, .ref a_gd, .ref a_ak, .ref a_sp, .ref a_se, .ref a_sd, .ref a_rw, .ref a_sz, .ref a_op, .ref a_th, .ref a_me, .ref a_pk, .int (nI kc), .int cm, .int su, .ref a_re, .int (nI kq), .ref a_dr])), (a_pk, .inl (cI, 40, .inl pk))] → va_S A s.heap H locs → s_Model_checkOf pk fr ln = lp_checkOf pk fr ln nlp_checkOf j x1 → W p l e rm_Model_checkOf s m args below meth c H locs 0 0 Q (F0 m 5 ls []) := by
    intro nlp_checkOf
    induction nlp_checkOf with
    | zero =>
      intro j x1 ls H locs hj hmlp_checkOf hl hP hD hS hq
      replace hq : s_Model_checkOf pk fr ln = (x1) := hq
      refine lv_iload hx hb d_Model_checkOf_5 (lv_at hl 4 rfl) ?_
      refine lv_iload_n hx hb d_Model_checkOf_7 rfl (lv_at hl 1 rfl) ?_
      refine lv_iload_n hx hb d_Model_checkOf_8 rfl (lv_at hl 2 rfl) ?_
      refine lv_iadd hx hb d_Model_checkOf_9 ?_
      refine xtop (y := nI (fr + ln)) (nI_add fr ln) ?_
      refine lv_icmp_ge (tgt := 31) hx hb d_Model_checkOf_10 rfl (fun h1 => ?_) (fun h1 => ?_)
      rotate_left
      · exact absurd (nI_le (by omega) (by omega)) h1
      refine lv_iload_n hx hb d_Model_checkOf_31 rfl (lv_at hl 3 rfl) ?_
      exact hret x1 () hq.symm _ _ _ _ hP hD hS d_Model_checkOf_32
    | succ nlp_checkOf ihlp_checkOf =>
      intro j x1 ls H locs hj hmlp_checkOf hl hP hD hS hq
      replace hq : s_Model_checkOf pk fr ln = (if (nI (fr + ln)) ≤ (nI j) then (x1) else (lp_checkOf pk fr ln nlp_checkOf (j + 1) (s_Model_mixed x1 (pk j)))) := hq
      refine lv_iload hx hb d_Model_checkOf_5 (lv_at hl 4 rfl) ?_
      refine lv_iload_n hx hb d_Model_checkOf_7 rfl (lv_at hl 1 rfl) ?_
      refine lv_iload_n hx hb d_Model_checkOf_8 rfl (lv_at hl 2 rfl) ?_
      refine lv_iadd hx hb d_Model_checkOf_9 ?_
      refine xtop (y := nI (fr + ln)) (nI_add fr ln) ?_
      refine lv_icmp_ge (tgt := 31) hx hb d_Model_checkOf_10 rfl (fun h2 => ?_) (fun h2 => ?_)
      · replace hq := hq.trans (if_pos h2)
        refine lv_iload_n hx hb d_Model_checkOf_31 rfl (lv_at hl 3 rfl) ?_
        exact hret x1 () hq.symm _ _ _ _ hP hD hS d_Model_checkOf_32
      replace hq := hq.trans (if_neg h2)
      refine lv_iload_n hx hb d_Model_checkOf_13 rfl (lv_at hl 3 rfl) ?_
      refine lv_aload_n hx hb d_Model_checkOf_14 rfl (lv_at hl 0 rfl) ?_
      refine va_get (D := D) (ci := 7) (v := .ref a_pk) (C := R_Model) (T := F_Model) (N := 28) hx hb hts hin_Model hown hK hP 0 rfl rfl 21 (by decide) (hts _ (xm ww_554)) (fun _ h9 => h9) rfl d_Model_checkOf_15 ?_
      refine lv_iload hx hb d_Model_checkOf_18 (lv_at hl 4 rfl) ?_
      refine xiald (k := j) hx hb hK hP 1 0 rfl rfl rfl (Nat.lt_of_lt_of_le (Nat.lt_of_not_le fun h9 => h2 (nI_le h9 (by omega))) hfl) (by decide) d_Model_checkOf_20 ?_
      refine xcall_i (wc := []) (wr := [(h0, .inr (7, [.int tg, .ref a_st, .ref a_ck, .ref a_en, .ref a_au, .ref a_he, .ref a_qu, .ref a_lo, .ref a_ow, .ref a_fl, .ref a_ti, .ref a_gd, .ref a_ak, .ref a_sp, .ref a_se, .ref a_sd, .ref a_rw, .ref a_sz, .ref a_op, .ref a_th, .ref a_me, .ref a_pk, .int (nI kc), .int cm, .int su, .ref a_re, .int (nI kq), .ref a_dr])), (a_pk, .inl (cI, 40, .inl pk))]) (ws1 := fun (u : Unit) => [(h0, .inr (7, [.int tg, .ref a_st, .ref a_ck, .ref a_en, .ref a_au, .ref a_he, .ref a_qu, .ref a_lo, .ref a_ow, .ref a_fl, .ref a_ti, .ref a_gd, .ref a_ak, .ref a_sp, .ref a_se, .ref a_sd, .ref a_rw, .ref a_sz, .ref a_op, .ref a_th, .ref a_me, .ref a_pk, .int (nI kc), .int cm, .int su, .ref a_re, .int (nI kq), .ref a_dr])), (a_pk, .inl (cI, 40, .inl pk))]) (va_runS (As := [.int x1, .int (pk j)]) (rest := []) ⟨hx, hb, hml, hown, hts⟩ (c_Model_mixed x1 (pk j) H.size) (xcwS 2 hts ww_673 ww_671 ww_672 ww_8 (by decide +kernel) rfl rfl ⟨Nat.le_of_ble_eq_true rfl, Nat.le_of_ble_eq_true rfl⟩) (xPreS (hP.sub [] rfl) (hD.sub [] (by decide) rfl) hK hN) rfl rfl hl.1 rfl (lv_room (Nat.le_of_ble_eq_true rfl)) d_Model_checkOf_21 ⟨Nat.le_of_ble_eq_true rfl, Nat.le_of_ble_eq_true rfl⟩) hP hD hS hA [] [0, 1] [0, 1] rfl rfl (by decide) (by decide) (by decide) (fun _ => rfl) (fun r3 u3 H locs hw hP hD hS => ?_)
      refine xtop hw ?_
      replace hP : va_P D vwCl [(h0, .inr (7, [.int tg, .ref a_st, .ref a_ck, .ref a_en, .ref a_au, .ref a_he, .ref a_qu, .ref a_lo, .ref a_ow, .ref a_fl, .ref a_ti, .ref a_gd, .ref a_ak, .ref a_sp, .ref a_se, .ref a_sd, .ref a_rw, .ref a_sz, .ref a_op, .ref a_th, .ref a_me, .ref a_pk, .int (nI kc), .int cm, .int su, .ref a_re, .int (nI kq), .ref a_dr])), (a_pk, .inl (cI, 40, .inl pk))] H := hP
      replace hD : va_D A [(h0, .inr (7, [.int tg, .ref a_st, .ref a_ck, .ref a_en, .ref a_au, .ref a_he, .ref a_qu, .ref a_lo, .ref a_ow, .ref a_fl, .ref a_ti, .ref a_gd, .ref a_ak, .ref a_sp, .ref a_se, .ref a_sd, .ref a_rw, .ref a_sz, .ref a_op, .ref a_th, .ref a_me, .ref a_pk, .int (nI kc), .int cm, .int su, .ref a_re, .int (nI kq), .ref a_dr])), (a_pk, .inl (cI, 40, .inl pk))] := hD
      refine lv_istore_n hx hb d_Model_checkOf_24 rfl hl (by decide) rfl (fun ls hl => ?_)
      replace hl : lv_has ls 5 [(3, .int (s_Model_mixed x1 (pk j))), (0, .ref h0), (1, .int (nI fr)), (2, .int (nI ln)), (4, .int (nI j))] := hl
      refine lv_iinc (k := 4) (v := nI (j + 1)) hx hb d_Model_checkOf_25 hl rfl (nI_1 j) (by decide) rfl (fun ls hl => ?_)
      replace hl : lv_has ls 5 [(4, .int (nI (j + 1))), (3, .int (s_Model_mixed x1 (pk j))), (0, .ref h0), (1, .int (nI fr)), (2, .int (nI ln))] := hl
      refine lv_goto (tgt := 5) hx hb d_Model_checkOf_28 rfl ?_
      exact ihlp_checkOf (j + 1) (s_Model_mixed x1 (pk j)) _ _ _ (Nat.lt_of_not_le fun h9 => h2 (nI_le h9 (by omega))) (by omega) (lv_sub hl [2, 3, 4, 1, 0] rfl) hP hD hS hq
  exact LPlp_checkOf (fr + ln - fr) fr 0 _ _ _ (by omega) (Nat.le_refl _) (lv_sub hl [2, 3, 4, 1, 0] rfl) hP hD hS hq

def s_Model_dataStatus (pk : Nat → Int32) (kc : Nat) (ln : Nat) : Int32 := if ((nI kc) - 9) = (nI (ln + 1)) then (bnd (α := Int32) (if (pk (9 + ln)) = (s_Model_checkOf pk 9 ln) then (0) else (4)) (fun y4 => y4)) else (bnd (α := Int32) (if (nI (ln + 1)) ≤ ((nI kc) - 9) then (6) else (5)) (fun y7 => y7))
abbrev rm_Model_dataStatus : Room := { frames := 2, cells := 0, slots := 0, locals := 48 }
set_option maxHeartbeats 1000000 in
set_option maxRecDepth 100000 in
theorem c_Model_dataStatus {l : Launch} {D : va_G} {cI cZ : ClassId} (pk : Nat → Int32) (kc : Nat) (ln : Nat) (h0 : Nat) (a_st : Nat) (a_ck : Nat) (a_en : Nat) (a_au : Nat) (a_he : Nat) (a_qu : Nat) (a_lo : Nat) (a_ow : Nat) (a_fl : Nat) (a_ti : Nat) (a_gd : Nat) (a_ak : Nat) (a_sp : Nat) (a_se : Nat) (a_sd : Nat) (a_rw : Nat) (a_sz : Nat) (a_op : Nat) (a_th : Nat) (a_me : Nat) (a_pk : Nat) (a_re : Nat) (a_dr : Nat) (tg : Int32) (cm : Int32) (su : Int32) (kq : Nat) (hln : ln ≤ 16) (hkc : kc < 1048576) (sz : Nat) : Met l y_Model_dataStatus (w_Model_dataStatus) rm_Model_dataStatus (va_Pc [.ref h0, .int (nI ln)] (xPre xNs D vwCl cI cZ [(h0, .inr (7, [.int tg, .ref a_st, .ref a_ck, .ref a_en, .ref a_au, .ref a_he, .ref a_qu, .ref a_lo, .ref a_ow, .ref a_fl, .ref a_ti, .ref a_gd, .ref a_ak, .ref a_sp, .ref a_se, .ref a_sd, .ref a_rw, .ref a_sz, .ref a_op, .ref a_th, .ref a_me, .ref a_pk, .int (nI kc), .int cm, .int su, .ref a_re, .int (nI kq), .ref a_dr])), (a_pk, .inl (cI, 40, .inl pk))] sz)) (va_Qi (fun (r : Int32) (u : Unit) => r = s_Model_dataStatus pk kc ln) (fun u t9 => xAt D vwCl (va_A [(h0, .inr (7, [.int tg, .ref a_st, .ref a_ck, .ref a_en, .ref a_au, .ref a_he, .ref a_qu, .ref a_lo, .ref a_ow, .ref a_fl, .ref a_ti, .ref a_gd, .ref a_ak, .ref a_sp, .ref a_se, .ref a_sd, .ref a_rw, .ref a_sz, .ref a_op, .ref a_th, .ref a_me, .ref a_pk, .int (nI kc), .int cm, .int su, .ref a_re, .int (nI kq), .ref a_dr])), (a_pk, .inl (cI, 40, .inl pk))] sz) [(h0, .inr (7, [.int tg, .ref a_st, .ref a_ck, .ref a_en, .ref a_au, .ref a_he, .ref a_qu, .ref a_lo, .ref a_ow, .ref a_fl, .ref a_ti, .ref a_gd, .ref a_ak, .ref a_sp, .ref a_se, .ref a_sd, .ref a_rw, .ref a_sz, .ref a_op, .ref a_th, .ref a_me, .ref a_pk, .int (nI kc), .int cm, .int su, .ref a_re, .int (nI kq), .ref a_dr])), (a_pk, .inl (cI, 40, .inl pk))] t9) (va_A [(h0, .inr (7, [.int tg, .ref a_st, .ref a_ck, .ref a_en, .ref a_au, .ref a_he, .ref a_qu, .ref a_lo, .ref a_ow, .ref a_fl, .ref a_ti, .ref a_gd, .ref a_ak, .ref a_sp, .ref a_se, .ref a_sd, .ref a_rw, .ref a_sz, .ref a_op, .ref a_th, .ref a_me, .ref a_pk, .int (nI kc), .int cm, .int su, .ref a_re, .int (nI kq), .ref a_dr])), (a_pk, .inl (cI, 40, .inl pk))] sz)) 0 0 (va_A [(h0, .inr (7, [.int tg, .ref a_st, .ref a_ck, .ref a_en, .ref a_au, .ref a_he, .ref a_qu, .ref a_lo, .ref a_ow, .ref a_fl, .ref a_ti, .ref a_gd, .ref a_ak, .ref a_sp, .ref a_se, .ref a_sd, .ref a_rw, .ref a_sz, .ref a_op, .ref a_th, .ref a_me, .ref a_pk, .int (nI kc), .int cm, .int su, .ref a_re, .int (nI kq), .ref a_dr])), (a_pk, .inl (cI, 40, .inl pk))] sz) := by
  refine xBody_i (S := Unit) (cc := b_Model_dataStatus) (maxL := 3) (by decide) rfl (Nat.le_of_ble_eq_true rfl) ?_
  intro p e s m args below meth c A H ls Q hx hb hml hin hts hown hP hD hK hN hS hA hl hret
  replace hl : lv_has ls 3 [(0, .ref h0), (1, .int (nI ln))] := hl
  have hin_Model : ∀ w ∈ u_ws R_Model F_Model 28, w ∈ (w_Model_dataStatus) := (fun w h => xm (lay_Model w h))
  have hq : s_Model_dataStatus pk kc ln = (if ((nI kc) - 9) = (nI (ln + 1)) then (bnd (α := Int32) (if (pk (9 + ln)) = (s_Model_checkOf pk 9 ln) then (0) else (4)) (fun y4 => y4)) else (bnd (α := Int32) (if (nI (ln + 1)) ≤ ((nI kc) - 9) then (6) else (5)) (fun y7 => y7))) := rfl
  refine lv_aload_n hx hb d_Model_dataStatus_0 rfl (lv_at hl 0 rfl) ?_
  refine va_get (D := D) (ci := 7) (v := .int (nI kc)) (C := R_Model) (T := F_Model) (N := 28) hx hb hts hin_Model hown hK hP 0 rfl rfl 22 (by decide) (hts _ (xm ww_555)) (fun _ h9 => h9) rfl d_Model_dataStatus_1 ?_
  refine lv_bipush (v := 9) hx hb d_Model_dataStatus_4 rfl ?_
  refine lv_isub hx hb d_Model_dataStatus_6 ?_
  refine lv_istore_n hx hb d_Model_dataStatus_7 rfl hl (by decide) rfl (fun ls hl => ?_)
  replace hl : lv_has ls 3 [(2, .int ((nI kc) - 9)), (0, .ref h0), (1, .int (nI ln))] := hl
  refine lv_iload_n hx hb d_Model_dataStatus_8 rfl (lv_at hl 0 rfl) ?_
  refine lv_iload_n hx hb d_Model_dataStatus_9 rfl (lv_at hl 2 rfl) ?_
  refine lv_iconst (v := 1) hx hb d_Model_dataStatus_10 rfl ?_
  refine lv_iadd hx hb d_Model_dataStatus_11 ?_
  refine xtop (y := nI (ln + 1)) (nI_add ln 1) ?_
  refine lv_icmp_eq (tgt := 29) hx hb d_Model_dataStatus_12 rfl (fun h1 => ?_) (fun h1 => ?_)
  · replace hq := hq.trans (if_pos h1)
    refine lv_aload_n hx hb d_Model_dataStatus_29 rfl (lv_at hl 1 rfl) ?_
    refine va_get (D := D) (ci := 7) (v := .ref a_pk) (C := R_Model) (T := F_Model) (N := 28) hx hb hts hin_Model hown hK hP 0 rfl rfl 21 (by decide) (hts _ (xm ww_554)) (fun _ h9 => h9) rfl d_Model_dataStatus_30 ?_
    refine lv_bipush (v := 9) hx hb d_Model_dataStatus_33 rfl ?_
    refine lv_iload_n hx hb d_Model_dataStatus_35 rfl (lv_at hl 2 rfl) ?_
    refine lv_iadd hx hb d_Model_dataStatus_36 ?_
    refine xtop (y := nI (9 + ln)) (nI_add 9 ln) ?_
    refine xiald (k := (9 + ln)) hx hb hK hP 1 0 rfl rfl rfl (by omega) (by decide) d_Model_dataStatus_37 ?_
    refine lv_aload_n hx hb d_Model_dataStatus_38 rfl (lv_at hl 1 rfl) ?_
    refine lv_bipush (v := 9) hx hb d_Model_dataStatus_39 rfl ?_
    refine lv_iload_n hx hb d_Model_dataStatus_41 rfl (lv_at hl 2 rfl) ?_
    refine xcall_i (wc := [(h0, .inr (7, [.int tg, .ref a_st, .ref a_ck, .ref a_en, .ref a_au, .ref a_he, .ref a_qu, .ref a_lo, .ref a_ow, .ref a_fl, .ref a_ti, .ref a_gd, .ref a_ak, .ref a_sp, .ref a_se, .ref a_sd, .ref a_rw, .ref a_sz, .ref a_op, .ref a_th, .ref a_me, .ref a_pk, .int (nI kc), .int cm, .int su, .ref a_re, .int (nI kq), .ref a_dr])), (a_pk, .inl (cI, 40, .inl pk))]) (wr := []) (ws1 := fun (u : Unit) => [(h0, .inr (7, [.int tg, .ref a_st, .ref a_ck, .ref a_en, .ref a_au, .ref a_he, .ref a_qu, .ref a_lo, .ref a_ow, .ref a_fl, .ref a_ti, .ref a_gd, .ref a_ak, .ref a_sp, .ref a_se, .ref a_sd, .ref a_rw, .ref a_sz, .ref a_op, .ref a_th, .ref a_me, .ref a_pk, .int (nI kc), .int cm, .int su, .ref a_re, .int (nI kq), .ref a_dr])), (a_pk, .inl (cI, 40, .inl pk))]) (va_runV (As := [.int 9, .int (nI ln)]) (rest := [.int (pk (9 + ln))]) ⟨hx, hb, hml, hown, hts⟩ (c_Model_checkOf pk 9 ln h0 a_st a_ck a_en a_au a_he a_qu a_lo a_ow a_fl a_ti a_gd a_ak a_sp a_se a_sd a_rw a_sz a_op a_th a_me a_pk a_re a_dr tg kc cm su kq (by omega) H.size) (xcwV 2 hts ww_670 ww_667 ww_669 ws_Model_checkOf ww_8 (by decide +kernel) rfl rfl ⟨Nat.le_of_ble_eq_true rfl, Nat.le_of_ble_eq_true rfl⟩) (xPreV (ci := 7) (q0 := 0) (q := (R_Model, F_Model, 28)) (hP.sub [0, 1] rfl) (hD.sub [0, 1] (by decide) rfl) hK hN rfl rfl rfl) rfl rfl hl.1 rfl (lv_room (Nat.le_of_ble_eq_true rfl)) d_Model_dataStatus_42 ⟨Nat.le_of_ble_eq_true rfl, Nat.le_of_ble_eq_true rfl⟩) hP hD hS hA [0, 1] [] [0, 1] rfl rfl (by decide) (by decide) (by decide) (fun _ => rfl) (fun r2 u2 H locs hw hP hD hS => ?_)
    refine xtop hw ?_
    replace hP : va_P D vwCl [(h0, .inr (7, [.int tg, .ref a_st, .ref a_ck, .ref a_en, .ref a_au, .ref a_he, .ref a_qu, .ref a_lo, .ref a_ow, .ref a_fl, .ref a_ti, .ref a_gd, .ref a_ak, .ref a_sp, .ref a_se, .ref a_sd, .ref a_rw, .ref a_sz, .ref a_op, .ref a_th, .ref a_me, .ref a_pk, .int (nI kc), .int cm, .int su, .ref a_re, .int (nI kq), .ref a_dr])), (a_pk, .inl (cI, 40, .inl pk))] H := hP
    replace hD : va_D A [(h0, .inr (7, [.int tg, .ref a_st, .ref a_ck, .ref a_en, .ref a_au, .ref a_he, .ref a_qu, .ref a_lo, .ref a_ow, .ref a_fl, .ref a_ti, .ref a_gd, .ref a_ak, .ref a_sp, .ref a_se, .ref a_sd, .ref a_rw, .ref a_sz, .ref a_op, .ref a_th, .ref a_me, .ref a_pk, .int (nI kc), .int cm, .int su, .ref a_re, .int (nI kq), .ref a_dr])), (a_pk, .inl (cI, 40, .inl pk))] := hD
    have J3 : ∀ (y4 : Int32) (H : Heap) (locs : List Loc), y4 = (if (pk (9 + ln)) = (s_Model_checkOf pk 9 ln) then (0) else (4)) → va_P D vwCl [(h0, .inr (7, [.int tg, .ref a_st, .ref a_ck, .ref a_en, .ref a_au, .ref a_he, .ref a_qu, .ref a_lo, .ref a_ow, .ref a_fl, .ref a_ti, .ref a_gd, .ref a_ak, .ref a_sp, .ref a_se, .ref a_sd, .ref a_rw, .ref a_sz, .ref a_op, .ref a_th, .ref a_me, .ref a_pk, .int (nI kc), .int cm, .int su, .ref a_re, .int (nI kq), .ref a_dr])), (a_pk, .inl (cI, 40, .inl pk))] H → va_D A [(h0, .inr (7, [.int tg, .ref a_st, .ref a_ck, .ref a_en, .ref a_au, .ref a_he, .ref a_qu, .ref a_lo, .ref a_ow, .ref a_fl, .ref a_ti, .ref a_gd, .ref a_ak, .ref a_sp, .ref a_se, .ref a_sd, .ref a_rw, .ref a_sz, .ref a_op, .ref a_th, .ref a_me, .ref a_pk, .int (nI kc), .int cm, .int su, .ref a_re, .int (nI kq), .ref a_dr])), (a_pk, .inl (cI, 40, .inl pk))] → va_S A s.heap H locs → W p l e rm_Model_dataStatus s m args below meth c H locs 0 0 Q (F0 m 53 ls [.int y4]) := by
      intro y4 H locs hy4 hP hD hS
      replace hq := hq.trans (bnd_eq hy4)
      try dsimp only at hq
      exact hret y4 () hq.symm _ _ _ _ hP hD hS d_Model_dataStatus_53
    have hv : ((if (pk (9 + ln)) = (s_Model_checkOf pk 9 ln) then (0) else (4)) : Int32) = (if (pk (9 + ln)) = (s_Model_checkOf pk 9 ln) then (0) else (4)) := rfl
    refine lv_icmp_ne (tgt := 52) hx hb d_Model_dataStatus_45 rfl (fun h5 => ?_) (fun h5 => ?_)
    · replace hv := hv.trans (if_neg h5)
      refine lv_iconst (v := 4) hx hb d_Model_dataStatus_52 rfl ?_
      exact J3 _ _ _ hv.symm hP hD hS
    replace hv := hv.trans (if_pos h5)
    refine lv_iconst (v := 0) hx hb d_Model_dataStatus_48 rfl ?_
    refine lv_goto (tgt := 53) hx hb d_Model_dataStatus_49 rfl ?_
    exact J3 _ _ _ hv.symm hP hD hS
  replace hq := hq.trans (if_neg h1)
  refine lv_iload_n hx hb d_Model_dataStatus_15 rfl (lv_at hl 0 rfl) ?_
  refine lv_iload_n hx hb d_Model_dataStatus_16 rfl (lv_at hl 2 rfl) ?_
  refine lv_iconst (v := 1) hx hb d_Model_dataStatus_17 rfl ?_
  refine lv_iadd hx hb d_Model_dataStatus_18 ?_
  refine xtop (y := nI (ln + 1)) (nI_add ln 1) ?_
  have J6 : ∀ (y7 : Int32) (H : Heap) (locs : List Loc), y7 = (if (nI (ln + 1)) ≤ ((nI kc) - 9) then (6) else (5)) → va_P D vwCl [(h0, .inr (7, [.int tg, .ref a_st, .ref a_ck, .ref a_en, .ref a_au, .ref a_he, .ref a_qu, .ref a_lo, .ref a_ow, .ref a_fl, .ref a_ti, .ref a_gd, .ref a_ak, .ref a_sp, .ref a_se, .ref a_sd, .ref a_rw, .ref a_sz, .ref a_op, .ref a_th, .ref a_me, .ref a_pk, .int (nI kc), .int cm, .int su, .ref a_re, .int (nI kq), .ref a_dr])), (a_pk, .inl (cI, 40, .inl pk))] H → va_D A [(h0, .inr (7, [.int tg, .ref a_st, .ref a_ck, .ref a_en, .ref a_au, .ref a_he, .ref a_qu, .ref a_lo, .ref a_ow, .ref a_fl, .ref a_ti, .ref a_gd, .ref a_ak, .ref a_sp, .ref a_se, .ref a_sd, .ref a_rw, .ref a_sz, .ref a_op, .ref a_th, .ref a_me, .ref a_pk, .int (nI kc), .int cm, .int su, .ref a_re, .int (nI kq), .ref a_dr])), (a_pk, .inl (cI, 40, .inl pk))] → va_S A s.heap H locs → W p l e rm_Model_dataStatus s m args below meth c H locs 0 0 Q (F0 m 28 ls [.int y7]) := by
    intro y7 H locs hy7 hP hD hS
    replace hq := hq.trans (bnd_eq hy7)
    try dsimp only at hq
    exact hret y7 () hq.symm _ _ _ _ hP hD hS d_Model_dataStatus_28
  have hv : ((if (nI (ln + 1)) ≤ ((nI kc) - 9) then (6) else (5)) : Int32) = (if (nI (ln + 1)) ≤ ((nI kc) - 9) then (6) else (5)) := rfl
  refine lv_icmp_ge (tgt := 26) hx hb d_Model_dataStatus_19 rfl (fun h8 => ?_) (fun h8 => ?_)
  · replace hv := hv.trans (if_pos h8)
    refine lv_bipush (v := 6) hx hb d_Model_dataStatus_26 rfl ?_
    exact J6 _ _ _ hv.symm hP hD hS
  replace hv := hv.trans (if_neg h8)
  refine lv_iconst (v := 5) hx hb d_Model_dataStatus_22 rfl ?_
  refine lv_goto (tgt := 28) hx hb d_Model_dataStatus_23 rfl ?_
  exact J6 _ _ _ hv.symm hP hD hS

def s_Model_addressOf (pk : Nat → Int32) (x : Int32) : Int32 := bnd (α := Int32) (if (s_Model_has pk 4) = 0 then (pk 6) else ((pk 6) + x)) (fun y3 => y3)
abbrev rm_Model_addressOf : Room := { frames := 1, cells := 0, slots := 0, locals := 21 }
set_option maxHeartbeats 1000000 in
set_option maxRecDepth 100000 in
theorem c_Model_addressOf {l : Launch} {D : va_G} {cI cZ : ClassId} (pk : Nat → Int32) (x : Int32) (h0 : Nat) (a_st : Nat) (a_ck : Nat) (a_en : Nat) (a_au : Nat) (a_he : Nat) (a_qu : Nat) (a_lo : Nat) (a_ow : Nat) (a_fl : Nat) (a_ti : Nat) (a_gd : Nat) (a_ak : Nat) (a_sp : Nat) (a_se : Nat) (a_sd : Nat) (a_rw : Nat) (a_sz : Nat) (a_op : Nat) (a_th : Nat) (a_me : Nat) (a_pk : Nat) (a_re : Nat) (a_dr : Nat) (tg : Int32) (kc : Nat) (cm : Int32) (su : Int32) (kq : Nat) (sz : Nat) : Met l y_Model_addressOf (w_Model_addressOf) rm_Model_addressOf (va_Pc [.ref h0, .int x] (xPre xNs D vwCl cI cZ [(h0, .inr (7, [.int tg, .ref a_st, .ref a_ck, .ref a_en, .ref a_au, .ref a_he, .ref a_qu, .ref a_lo, .ref a_ow, .ref a_fl, .ref a_ti, .ref a_gd, .ref a_ak, .ref a_sp, .ref a_se, .ref a_sd, .ref a_rw, .ref a_sz, .ref a_op, .ref a_th, .ref a_me, .ref a_pk, .int (nI kc), .int cm, .int su, .ref a_re, .int (nI kq), .ref a_dr])), (a_pk, .inl (cI, 40, .inl pk))] sz)) (va_Qi (fun (r : Int32) (u : Unit) => r = s_Model_addressOf pk x) (fun u t9 => xAt D vwCl (va_A [(h0, .inr (7, [.int tg, .ref a_st, .ref a_ck, .ref a_en, .ref a_au, .ref a_he, .ref a_qu, .ref a_lo, .ref a_ow, .ref a_fl, .ref a_ti, .ref a_gd, .ref a_ak, .ref a_sp, .ref a_se, .ref a_sd, .ref a_rw, .ref a_sz, .ref a_op, .ref a_th, .ref a_me, .ref a_pk, .int (nI kc), .int cm, .int su, .ref a_re, .int (nI kq), .ref a_dr])), (a_pk, .inl (cI, 40, .inl pk))] sz) [(h0, .inr (7, [.int tg, .ref a_st, .ref a_ck, .ref a_en, .ref a_au, .ref a_he, .ref a_qu, .ref a_lo, .ref a_ow, .ref a_fl, .ref a_ti, .ref a_gd, .ref a_ak, .ref a_sp, .ref a_se, .ref a_sd, .ref a_rw, .ref a_sz, .ref a_op, .ref a_th, .ref a_me, .ref a_pk, .int (nI kc), .int cm, .int su, .ref a_re, .int (nI kq), .ref a_dr])), (a_pk, .inl (cI, 40, .inl pk))] t9) (va_A [(h0, .inr (7, [.int tg, .ref a_st, .ref a_ck, .ref a_en, .ref a_au, .ref a_he, .ref a_qu, .ref a_lo, .ref a_ow, .ref a_fl, .ref a_ti, .ref a_gd, .ref a_ak, .ref a_sp, .ref a_se, .ref a_sd, .ref a_rw, .ref a_sz, .ref a_op, .ref a_th, .ref a_me, .ref a_pk, .int (nI kc), .int cm, .int su, .ref a_re, .int (nI kq), .ref a_dr])), (a_pk, .inl (cI, 40, .inl pk))] sz)) 0 0 (va_A [(h0, .inr (7, [.int tg, .ref a_st, .ref a_ck, .ref a_en, .ref a_au, .ref a_he, .ref a_qu, .ref a_lo, .ref a_ow, .ref a_fl, .ref a_ti, .ref a_gd, .ref a_ak, .ref a_sp, .ref a_se, .ref a_sd, .ref a_rw, .ref a_sz, .ref a_op, .ref a_th, .ref a_me, .ref a_pk, .int (nI kc), .int cm, .int su, .ref a_re, .int (nI kq), .ref a_dr])), (a_pk, .inl (cI, 40, .inl pk))] sz) := by
  refine xBody_i (S := Unit) (cc := b_Model_addressOf) (maxL := 2) (by decide) rfl (Nat.le_of_ble_eq_true rfl) ?_
  intro p e s m args below meth c A H ls Q hx hb hml hin hts hown hP hD hK hN hS hA hl hret
  replace hl : lv_has ls 2 [(0, .ref h0), (1, .int x)] := hl
  have hin_Model : ∀ w ∈ u_ws R_Model F_Model 28, w ∈ (w_Model_addressOf) := (fun w h => xm (lay_Model w h))
  have hq : s_Model_addressOf pk x = (bnd (α := Int32) (if (s_Model_has pk 4) = 0 then (pk 6) else ((pk 6) + x)) (fun y3 => y3)) := rfl
  refine lv_aload_n hx hb d_Model_addressOf_0 rfl (lv_at hl 0 rfl) ?_
  refine lv_iconst (v := 4) hx hb d_Model_addressOf_1 rfl ?_
  refine xcall_i (wc := [(h0, .inr (7, [.int tg, .ref a_st, .ref a_ck, .ref a_en, .ref a_au, .ref a_he, .ref a_qu, .ref a_lo, .ref a_ow, .ref a_fl, .ref a_ti, .ref a_gd, .ref a_ak, .ref a_sp, .ref a_se, .ref a_sd, .ref a_rw, .ref a_sz, .ref a_op, .ref a_th, .ref a_me, .ref a_pk, .int (nI kc), .int cm, .int su, .ref a_re, .int (nI kq), .ref a_dr])), (a_pk, .inl (cI, 40, .inl pk))]) (wr := []) (ws1 := fun (u : Unit) => [(h0, .inr (7, [.int tg, .ref a_st, .ref a_ck, .ref a_en, .ref a_au, .ref a_he, .ref a_qu, .ref a_lo, .ref a_ow, .ref a_fl, .ref a_ti, .ref a_gd, .ref a_ak, .ref a_sp, .ref a_se, .ref a_sd, .ref a_rw, .ref a_sz, .ref a_op, .ref a_th, .ref a_me, .ref a_pk, .int (nI kc), .int cm, .int su, .ref a_re, .int (nI kq), .ref a_dr])), (a_pk, .inl (cI, 40, .inl pk))]) (va_runV (As := [.int 4]) (rest := []) ⟨hx, hb, hml, hown, hts⟩ (c_Model_has pk 4 h0 a_st a_ck a_en a_au a_he a_qu a_lo a_ow a_fl a_ti a_gd a_ak a_sp a_se a_sd a_rw a_sz a_op a_th a_me a_pk a_re a_dr tg kc cm su kq H.size) (xcwV 1 hts ww_685 ww_682 ww_684 ws_Model_has ww_8 (by decide +kernel) rfl rfl ⟨Nat.le_of_ble_eq_true rfl, Nat.le_of_ble_eq_true rfl⟩) (xPreV (ci := 7) (q0 := 0) (q := (R_Model, F_Model, 28)) (hP.sub [0, 1] rfl) (hD.sub [0, 1] (by decide) rfl) hK hN rfl rfl rfl) rfl rfl hl.1 rfl (lv_room (Nat.le_of_ble_eq_true rfl)) d_Model_addressOf_2 ⟨Nat.le_of_ble_eq_true rfl, Nat.le_of_ble_eq_true rfl⟩) hP hD hS hA [0, 1] [] [0, 1] rfl rfl (by decide) (by decide) (by decide) (fun _ => rfl) (fun r1 u1 H locs hw hP hD hS => ?_)
  obtain ⟨hw, hbr_1⟩ := hw
  subst hw
  replace hP : va_P D vwCl [(h0, .inr (7, [.int tg, .ref a_st, .ref a_ck, .ref a_en, .ref a_au, .ref a_he, .ref a_qu, .ref a_lo, .ref a_ow, .ref a_fl, .ref a_ti, .ref a_gd, .ref a_ak, .ref a_sp, .ref a_se, .ref a_sd, .ref a_rw, .ref a_sz, .ref a_op, .ref a_th, .ref a_me, .ref a_pk, .int (nI kc), .int cm, .int su, .ref a_re, .int (nI kq), .ref a_dr])), (a_pk, .inl (cI, 40, .inl pk))] H := hP
  replace hD : va_D A [(h0, .inr (7, [.int tg, .ref a_st, .ref a_ck, .ref a_en, .ref a_au, .ref a_he, .ref a_qu, .ref a_lo, .ref a_ow, .ref a_fl, .ref a_ti, .ref a_gd, .ref a_ak, .ref a_sp, .ref a_se, .ref a_sd, .ref a_rw, .ref a_sz, .ref a_op, .ref a_th, .ref a_me, .ref a_pk, .int (nI kc), .int cm, .int su, .ref a_re, .int (nI kq), .ref a_dr])), (a_pk, .inl (cI, 40, .inl pk))] := hD
  have J2 : ∀ (y3 : Int32) (H : Heap) (locs : List Loc), y3 = (if (s_Model_has pk 4) = 0 then (pk 6) else ((pk 6) + x)) → va_P D vwCl [(h0, .inr (7, [.int tg, .ref a_st, .ref a_ck, .ref a_en, .ref a_au, .ref a_he, .ref a_qu, .ref a_lo, .ref a_ow, .ref a_fl, .ref a_ti, .ref a_gd, .ref a_ak, .ref a_sp, .ref a_se, .ref a_sd, .ref a_rw, .ref a_sz, .ref a_op, .ref a_th, .ref a_me, .ref a_pk, .int (nI kc), .int cm, .int su, .ref a_re, .int (nI kq), .ref a_dr])), (a_pk, .inl (cI, 40, .inl pk))] H → va_D A [(h0, .inr (7, [.int tg, .ref a_st, .ref a_ck, .ref a_en, .ref a_au, .ref a_he, .ref a_qu, .ref a_lo, .ref a_ow, .ref a_fl, .ref a_ti, .ref a_gd, .ref a_ak, .ref a_sp, .ref a_se, .ref a_sd, .ref a_rw, .ref a_sz, .ref a_op, .ref a_th, .ref a_me, .ref a_pk, .int (nI kc), .int cm, .int su, .ref a_re, .int (nI kq), .ref a_dr])), (a_pk, .inl (cI, 40, .inl pk))] → va_S A s.heap H locs → W p l e rm_Model_addressOf s m args below meth c H locs 0 0 Q (F0 m 27 ls [.int y3]) := by
    intro y3 H locs hy3 hP hD hS
    replace hq := hq.trans (bnd_eq hy3)
    try dsimp only at hq
    exact hret y3 () hq.symm _ _ _ _ hP hD hS d_Model_addressOf_27
  have hv : ((if (s_Model_has pk 4) = 0 then (pk 6) else ((pk 6) + x)) : Int32) = (if (s_Model_has pk 4) = 0 then (pk 6) else ((pk 6) + x)) := rfl
  refine lv_if_eq (tgt := 20) hx hb d_Model_addressOf_5 rfl (fun h4 => ?_) (fun h4 => ?_)
  · replace hv := hv.trans (if_pos h4)
    refine lv_aload_n hx hb d_Model_addressOf_20 rfl (lv_at hl 0 rfl) ?_
    refine va_get (D := D) (ci := 7) (v := .ref a_pk) (C := R_Model) (T := F_Model) (N := 28) hx hb hts hin_Model hown hK hP 0 rfl rfl 21 (by decide) (hts _ (xm ww_554)) (fun _ h9 => h9) rfl d_Model_addressOf_21 ?_
    refine lv_bipush (v := 6) hx hb d_Model_addressOf_24 rfl ?_
    refine xiald (k := 6) hx hb hK hP 1 0 rfl rfl rfl (by decide) (by decide) d_Model_addressOf_26 ?_
    exact J2 _ _ _ hv.symm hP hD hS
  replace hv := hv.trans (if_neg h4)
  refine lv_aload_n hx hb d_Model_addressOf_8 rfl (lv_at hl 0 rfl) ?_
  refine va_get (D := D) (ci := 7) (v := .ref a_pk) (C := R_Model) (T := F_Model) (N := 28) hx hb hts hin_Model hown hK hP 0 rfl rfl 21 (by decide) (hts _ (xm ww_554)) (fun _ h9 => h9) rfl d_Model_addressOf_9 ?_
  refine lv_bipush (v := 6) hx hb d_Model_addressOf_12 rfl ?_
  refine xiald (k := 6) hx hb hK hP 1 0 rfl rfl rfl (by decide) (by decide) d_Model_addressOf_14 ?_
  refine lv_iload_n hx hb d_Model_addressOf_15 rfl (lv_at hl 1 rfl) ?_
  refine lv_iadd hx hb d_Model_addressOf_16 ?_
  refine lv_goto (tgt := 27) hx hb d_Model_addressOf_17 rfl ?_
  exact J2 _ _ _ hv.symm hP hD hS

def s_Model_say (re : Nat → Int32) (kq : Nat) (x : Int32) : (Nat → Int32) × Nat := (upd re kq x, kq + 1)
abbrev rm_Model_say : Room := { frames := 0, cells := 0, slots := 0, locals := 0 }
set_option maxHeartbeats 1000000 in
set_option maxRecDepth 100000 in
theorem c_Model_say {l : Launch} {D : va_G} {cI cZ : ClassId} (re : Nat → Int32) (kq : Nat) (x : Int32) (h0 : Nat) (a_st : Nat) (a_ck : Nat) (a_en : Nat) (a_au : Nat) (a_he : Nat) (a_qu : Nat) (a_lo : Nat) (a_ow : Nat) (a_fl : Nat) (a_ti : Nat) (a_gd : Nat) (a_ak : Nat) (a_sp : Nat) (a_se : Nat) (a_sd : Nat) (a_rw : Nat) (a_sz : Nat) (a_op : Nat) (a_th : Nat) (a_me : Nat) (a_pk : Nat) (a_re : Nat) (a_dr : Nat) (tg : Int32) (kc : Nat) (cm : Int32) (su : Int32) (hkq : kq < 40) (sz : Nat) : Met l y_Model_say (w_Model_say) rm_Model_say (va_Pc [.ref h0, .int x] (xPre xNs D vwCl cI cZ [(h0, .inr (7, [.int tg, .ref a_st, .ref a_ck, .ref a_en, .ref a_au, .ref a_he, .ref a_qu, .ref a_lo, .ref a_ow, .ref a_fl, .ref a_ti, .ref a_gd, .ref a_ak, .ref a_sp, .ref a_se, .ref a_sd, .ref a_rw, .ref a_sz, .ref a_op, .ref a_th, .ref a_me, .ref a_pk, .int (nI kc), .int cm, .int su, .ref a_re, .int (nI kq), .ref a_dr])), (a_re, .inl (cI, 40, .inl re))] sz)) (va_Qv (fun (u : (Nat → Int32) × Nat) => (u.1, u.2) = s_Model_say re kq x ∧ u.2 = kq + 1) (fun u t9 => xAt D vwCl (va_A [(h0, .inr (7, [.int tg, .ref a_st, .ref a_ck, .ref a_en, .ref a_au, .ref a_he, .ref a_qu, .ref a_lo, .ref a_ow, .ref a_fl, .ref a_ti, .ref a_gd, .ref a_ak, .ref a_sp, .ref a_se, .ref a_sd, .ref a_rw, .ref a_sz, .ref a_op, .ref a_th, .ref a_me, .ref a_pk, .int (nI kc), .int cm, .int su, .ref a_re, .int (nI kq), .ref a_dr])), (a_re, .inl (cI, 40, .inl re))] sz) [(h0, .inr (7, [.int tg, .ref a_st, .ref a_ck, .ref a_en, .ref a_au, .ref a_he, .ref a_qu, .ref a_lo, .ref a_ow, .ref a_fl, .ref a_ti, .ref a_gd, .ref a_ak, .ref a_sp, .ref a_se, .ref a_sd, .ref a_rw, .ref a_sz, .ref a_op, .ref a_th, .ref a_me, .ref a_pk, .int (nI kc), .int cm, .int su, .ref a_re, .int (nI u.2), .ref a_dr])), (a_re, .inl (cI, 40, .inl u.1))] t9) (va_A [(h0, .inr (7, [.int tg, .ref a_st, .ref a_ck, .ref a_en, .ref a_au, .ref a_he, .ref a_qu, .ref a_lo, .ref a_ow, .ref a_fl, .ref a_ti, .ref a_gd, .ref a_ak, .ref a_sp, .ref a_se, .ref a_sd, .ref a_rw, .ref a_sz, .ref a_op, .ref a_th, .ref a_me, .ref a_pk, .int (nI kc), .int cm, .int su, .ref a_re, .int (nI kq), .ref a_dr])), (a_re, .inl (cI, 40, .inl re))] sz)) 0 0 (va_A [(h0, .inr (7, [.int tg, .ref a_st, .ref a_ck, .ref a_en, .ref a_au, .ref a_he, .ref a_qu, .ref a_lo, .ref a_ow, .ref a_fl, .ref a_ti, .ref a_gd, .ref a_ak, .ref a_sp, .ref a_se, .ref a_sd, .ref a_rw, .ref a_sz, .ref a_op, .ref a_th, .ref a_me, .ref a_pk, .int (nI kc), .int cm, .int su, .ref a_re, .int (nI kq), .ref a_dr])), (a_re, .inl (cI, 40, .inl re))] sz) := by
  refine xBody_v (S := (Nat → Int32) × Nat) (cc := b_Model_say) (maxL := 2) (by decide) rfl (Nat.le_of_ble_eq_true rfl) ?_
  intro p e s m args below meth c A H ls Q hx hb hml hin hts hown hP hD hK hN hS hA hl hret
  replace hl : lv_has ls 2 [(0, .ref h0), (1, .int x)] := hl
  have hin_Model : ∀ w ∈ u_ws R_Model F_Model 28, w ∈ (w_Model_say) := (fun w h => xm (lay_Model w h))
  have hq : s_Model_say re kq x = ((upd re kq x, kq + 1)) := rfl
  refine lv_aload_n hx hb d_Model_say_0 rfl (lv_at hl 0 rfl) ?_
  refine va_get (D := D) (ci := 7) (v := .ref a_re) (C := R_Model) (T := F_Model) (N := 28) hx hb hts hin_Model hown hK hP 0 rfl rfl 25 (by decide) (hts _ (xm ww_558)) (fun _ h9 => h9) rfl d_Model_say_1 ?_
  refine lv_aload_n hx hb d_Model_say_4 rfl (lv_at hl 0 rfl) ?_
  refine va_get (D := D) (ci := 7) (v := .int (nI kq)) (C := R_Model) (T := F_Model) (N := 28) hx hb hts hin_Model hown hK hP 0 rfl rfl 26 (by decide) (hts _ (xm ww_559)) (fun _ h9 => h9) rfl d_Model_say_5 ?_
  refine lv_iload_n hx hb d_Model_say_8 rfl (lv_at hl 1 rfl) ?_
  refine xiast (k := kq) hx hb hK hP hD hS 1 0 rfl rfl rfl hkq (by decide) d_Model_say_9 (fun H locs hP hD hS => ?_)
  replace hP : va_P D vwCl [(h0, .inr (7, [.int tg, .ref a_st, .ref a_ck, .ref a_en, .ref a_au, .ref a_he, .ref a_qu, .ref a_lo, .ref a_ow, .ref a_fl, .ref a_ti, .ref a_gd, .ref a_ak, .ref a_sp, .ref a_se, .ref a_sd, .ref a_rw, .ref a_sz, .ref a_op, .ref a_th, .ref a_me, .ref a_pk, .int (nI kc), .int cm, .int su, .ref a_re, .int (nI kq), .ref a_dr])), (a_re, .inl (cI, 40, .inl (upd re kq x)))] H := hP
  replace hD : va_D A [(h0, .inr (7, [.int tg, .ref a_st, .ref a_ck, .ref a_en, .ref a_au, .ref a_he, .ref a_qu, .ref a_lo, .ref a_ow, .ref a_fl, .ref a_ti, .ref a_gd, .ref a_ak, .ref a_sp, .ref a_se, .ref a_sd, .ref a_rw, .ref a_sz, .ref a_op, .ref a_th, .ref a_me, .ref a_pk, .int (nI kc), .int cm, .int su, .ref a_re, .int (nI kq), .ref a_dr])), (a_re, .inl (cI, 40, .inl (upd re kq x)))] := hD
  refine lv_aload_n hx hb d_Model_say_10 rfl (lv_at hl 0 rfl) ?_
  refine lv_dup hx hb d_Model_say_11 rfl ?_
  refine va_get (D := D) (ci := 7) (v := .int (nI kq)) (C := R_Model) (T := F_Model) (N := 28) hx hb hts hin_Model hown hK hP 0 rfl rfl 26 (by decide) (hts _ (xm ww_559)) (fun _ h9 => h9) rfl d_Model_say_12 ?_
  refine lv_iconst (v := 1) hx hb d_Model_say_15 rfl ?_
  refine lv_iadd hx hb d_Model_say_16 ?_
  refine xtop (y := nI (kq + 1)) (nI_add kq 1) ?_
  refine va_put (D := D) (ci := 7) (v := .int (nI (kq + 1))) (ty := (.int)) (C := R_Model) (T := F_Model) (N := 28) hx hb hts hin_Model t_Model t_Model_ok n_Model hown hK hP hD hS 0 rfl rfl 26 (by decide) (hts _ (xm ww_559)) (fun _ h9 => h9) rfl (by decide +kernel) rfl rfl (Nat.le_of_ble_eq_true rfl) d_Model_say_17 (fun H locs hP hD hS => ?_)
  replace hP : va_P D vwCl [(h0, .inr (7, [.int tg, .ref a_st, .ref a_ck, .ref a_en, .ref a_au, .ref a_he, .ref a_qu, .ref a_lo, .ref a_ow, .ref a_fl, .ref a_ti, .ref a_gd, .ref a_ak, .ref a_sp, .ref a_se, .ref a_sd, .ref a_rw, .ref a_sz, .ref a_op, .ref a_th, .ref a_me, .ref a_pk, .int (nI kc), .int cm, .int su, .ref a_re, .int (nI (kq + 1)), .ref a_dr])), (a_re, .inl (cI, 40, .inl (upd re kq x)))] H := hP
  replace hD : va_D A [(h0, .inr (7, [.int tg, .ref a_st, .ref a_ck, .ref a_en, .ref a_au, .ref a_he, .ref a_qu, .ref a_lo, .ref a_ow, .ref a_fl, .ref a_ti, .ref a_gd, .ref a_ak, .ref a_sp, .ref a_se, .ref a_sd, .ref a_rw, .ref a_sz, .ref a_op, .ref a_th, .ref a_me, .ref a_pk, .int (nI kc), .int cm, .int su, .ref a_re, .int (nI (kq + 1)), .ref a_dr])), (a_re, .inl (cI, 40, .inl (upd re kq x)))] := hD
  exact hret (upd re kq x, kq + 1) ⟨hq.symm, (by first | omega | (dsimp only; omega))⟩ _ _ _ _ hP hD hS d_Model_say_20

def lp_sayCheck (re : Nat → Int32) (kq : Nat) : Nat → Nat → Int32 → (Nat → Int32) × Nat
  | 0, j, x1 => bnd2 (s_Model_say re kq x1) (fun re2 kq2 => (re2, kq2))
  | nlp_sayCheck + 1, j, x1 => if (nI kq) ≤ (nI j) then (bnd2 (s_Model_say re kq x1) (fun re4 kq4 => (re4, kq4))) else (lp_sayCheck re kq nlp_sayCheck (j + 1) (s_Model_mixed x1 (re j)))
def s_Model_sayCheck (re : Nat → Int32) (kq : Nat) (fr : Nat) : (Nat → Int32) × Nat := lp_sayCheck re kq (kq - fr) fr 0
abbrev rm_Model_sayCheck : Room := { frames := 1, cells := 0, slots := 0, locals := 24 }
set_option maxHeartbeats 1000000 in
set_option maxRecDepth 100000 in
theorem c_Model_sayCheck {l : Launch} {D : va_G} {cI cZ : ClassId} (re : Nat → Int32) (kq : Nat) (fr : Nat) (h0 : Nat) (a_st : Nat) (a_ck : Nat) (a_en : Nat) (a_au : Nat) (a_he : Nat) (a_qu : Nat) (a_lo : Nat) (a_ow : Nat) (a_fl : Nat) (a_ti : Nat) (a_gd : Nat) (a_ak : Nat) (a_sp : Nat) (a_se : Nat) (a_sd : Nat) (a_rw : Nat) (a_sz : Nat) (a_op : Nat) (a_th : Nat) (a_me : Nat) (a_pk : Nat) (a_re : Nat) (a_dr : Nat) (tg : Int32) (kc : Nat) (cm : Int32) (su : Int32) (hkq : kq < 40) (hfr : fr ≤ kq) (sz : Nat) : Met l y_Model_sayCheck (w_Model_sayCheck) rm_Model_sayCheck (va_Pc [.ref h0, .int (nI fr)] (xPre xNs D vwCl cI cZ [(h0, .inr (7, [.int tg, .ref a_st, .ref a_ck, .ref a_en, .ref a_au, .ref a_he, .ref a_qu, .ref a_lo, .ref a_ow, .ref a_fl, .ref a_ti, .ref a_gd, .ref a_ak, .ref a_sp, .ref a_se, .ref a_sd, .ref a_rw, .ref a_sz, .ref a_op, .ref a_th, .ref a_me, .ref a_pk, .int (nI kc), .int cm, .int su, .ref a_re, .int (nI kq), .ref a_dr])), (a_re, .inl (cI, 40, .inl re))] sz)) (va_Qv (fun (u : (Nat → Int32) × Nat) => (u.1, u.2) = s_Model_sayCheck re kq fr ∧ u.2 = kq + 1) (fun u t9 => xAt D vwCl (va_A [(h0, .inr (7, [.int tg, .ref a_st, .ref a_ck, .ref a_en, .ref a_au, .ref a_he, .ref a_qu, .ref a_lo, .ref a_ow, .ref a_fl, .ref a_ti, .ref a_gd, .ref a_ak, .ref a_sp, .ref a_se, .ref a_sd, .ref a_rw, .ref a_sz, .ref a_op, .ref a_th, .ref a_me, .ref a_pk, .int (nI kc), .int cm, .int su, .ref a_re, .int (nI kq), .ref a_dr])), (a_re, .inl (cI, 40, .inl re))] sz) [(h0, .inr (7, [.int tg, .ref a_st, .ref a_ck, .ref a_en, .ref a_au, .ref a_he, .ref a_qu, .ref a_lo, .ref a_ow, .ref a_fl, .ref a_ti, .ref a_gd, .ref a_ak, .ref a_sp, .ref a_se, .ref a_sd, .ref a_rw, .ref a_sz, .ref a_op, .ref a_th, .ref a_me, .ref a_pk, .int (nI kc), .int cm, .int su, .ref a_re, .int (nI u.2), .ref a_dr])), (a_re, .inl (cI, 40, .inl u.1))] t9) (va_A [(h0, .inr (7, [.int tg, .ref a_st, .ref a_ck, .ref a_en, .ref a_au, .ref a_he, .ref a_qu, .ref a_lo, .ref a_ow, .ref a_fl, .ref a_ti, .ref a_gd, .ref a_ak, .ref a_sp, .ref a_se, .ref a_sd, .ref a_rw, .ref a_sz, .ref a_op, .ref a_th, .ref a_me, .ref a_pk, .int (nI kc), .int cm, .int su, .ref a_re, .int (nI kq), .ref a_dr])), (a_re, .inl (cI, 40, .inl re))] sz)) 0 0 (va_A [(h0, .inr (7, [.int tg, .ref a_st, .ref a_ck, .ref a_en, .ref a_au, .ref a_he, .ref a_qu, .ref a_lo, .ref a_ow, .ref a_fl, .ref a_ti, .ref a_gd, .ref a_ak, .ref a_sp, .ref a_se, .ref a_sd, .ref a_rw, .ref a_sz, .ref a_op, .ref a_th, .ref a_me, .ref a_pk, .int (nI kc), .int cm, .int su, .ref a_re, .int (nI kq), .ref a_dr])), (a_re, .inl (cI, 40, .inl re))] sz) := by
  refine xBody_v (S := (Nat → Int32) × Nat) (cc := b_Model_sayCheck) (maxL := 4) (by decide) rfl (Nat.le_of_ble_eq_true rfl) ?_
  intro p e s m args below meth c A H ls Q hx hb hml hin hts hown hP hD hK hN hS hA hl hret
  replace hl : lv_has ls 4 [(0, .ref h0), (1, .int (nI fr))] := hl
  have hin_Model : ∀ w ∈ u_ws R_Model F_Model 28, w ∈ (w_Model_sayCheck) := (fun w h => xm (lay_Model w h))
  have hq : s_Model_sayCheck re kq fr = (lp_sayCheck re kq (kq - fr) fr 0) := rfl
  refine lv_iconst (v := 0) hx hb d_Model_sayCheck_0 rfl ?_
  refine lv_istore_n hx hb d_Model_sayCheck_1 rfl hl (by decide) rfl (fun ls hl => ?_)
  replace hl : lv_has ls 4 [(2, .int 0), (0, .ref h0), (1, .int (nI fr))] := hl
  refine lv_iload_n hx hb d_Model_sayCheck_2 rfl (lv_at hl 2 rfl) ?_
  refine lv_istore_n hx hb d_Model_sayCheck_3 rfl hl (by decide) rfl (fun ls hl => ?_)
  replace hl : lv_has ls 4 [(3, .int (nI fr)), (2, .int 0), (0, .ref h0), (1, .int (nI fr))] := hl
  have LPlp_sayCheck : ∀ (nlp_sayCheck : Nat) (j : Nat) (x1 : Int32) (ls : Array Slot) (H : Heap) (locs : List Loc), (j ≤ kq) → kq - j ≤ nlp_sayCheck → lv_has ls 4 [(0, .ref h0), (1, .int (nI fr)), (2, .int x1), (3, .int (nI j))] → va_P D vwCl [(h0, .inr (7, [.int tg, .ref a_st, .ref a_ck, .ref a_en, .ref a_au, .ref a_he, .ref a_qu, .ref a_lo, .ref a_ow, .ref a_fl, .ref a_ti, .ref a_gd, .ref a_ak, .ref a_sp, .ref a_se, .ref a_sd, .ref a_rw, .ref a_sz, .ref a_op, .ref a_th, .ref a_me, .ref a_pk, .int (nI kc), .int cm, .int su, .ref a_re, .int (nI kq), .ref a_dr])), (a_re, .inl (cI, 40, .inl re))] H → va_D A [(h0, .inr (7, [.int tg, .ref a_st, .ref a_ck, .ref a_en, .ref a_au, .ref a_he, .ref a_qu, .ref a_lo, .ref a_ow, .ref a_fl, .ref a_ti, .ref a_gd, .ref a_ak, .ref a_sp, .ref a_se, .ref a_sd, .ref a_rw, .ref a_sz, .ref a_op, .ref a_th, .ref a_me, .ref a_pk, .int (nI kc), .int cm, .int su, .ref a_re, .int (nI kq), .ref a_dr])), (a_re, .inl (cI, 40, .inl re))] → va_S A s.heap H locs → s_Model_sayCheck re kq fr = lp_sayCheck re kq nlp_sayCheck j x1 → W p l e rm_Model_sayCheck s m args below meth c H locs 0 0 Q (F0 m 4 ls []) := by
    intro nlp_sayCheck
    induction nlp_sayCheck with
    | zero =>
      intro j x1 ls H locs hj hmlp_sayCheck hl hP hD hS hq
      replace hq : s_Model_sayCheck re kq fr = (bnd2 (s_Model_say re kq x1) (fun re2 kq2 => (re2, kq2))) := hq
      refine lv_iload_n hx hb d_Model_sayCheck_4 rfl (lv_at hl 3 rfl) ?_
      refine lv_aload_n hx hb d_Model_sayCheck_5 rfl (lv_at hl 0 rfl) ?_
      refine va_get (D := D) (ci := 7) (v := .int (nI kq)) (C := R_Model) (T := F_Model) (N := 28) hx hb hts hin_Model hown hK hP 0 rfl rfl 26 (by decide) (hts _ (xm ww_559)) (fun _ h9 => h9) rfl d_Model_sayCheck_6 ?_
      refine lv_icmp_ge (tgt := 29) hx hb d_Model_sayCheck_9 rfl (fun h1 => ?_) (fun h1 => ?_)
      rotate_left
      · exact absurd (nI_le (by omega) (by omega)) h1
      refine lv_aload_n hx hb d_Model_sayCheck_29 rfl (lv_at hl 0 rfl) ?_
      refine lv_iload_n hx hb d_Model_sayCheck_30 rfl (lv_at hl 2 rfl) ?_
      refine xcall_v (wc := [(h0, .inr (7, [.int tg, .ref a_st, .ref a_ck, .ref a_en, .ref a_au, .ref a_he, .ref a_qu, .ref a_lo, .ref a_ow, .ref a_fl, .ref a_ti, .ref a_gd, .ref a_ak, .ref a_sp, .ref a_se, .ref a_sd, .ref a_rw, .ref a_sz, .ref a_op, .ref a_th, .ref a_me, .ref a_pk, .int (nI kc), .int cm, .int su, .ref a_re, .int (nI kq), .ref a_dr])), (a_re, .inl (cI, 40, .inl re))]) (wr := []) (ws1 := fun (u : (Nat → Int32) × Nat) => [(h0, .inr (7, [.int tg, .ref a_st, .ref a_ck, .ref a_en, .ref a_au, .ref a_he, .ref a_qu, .ref a_lo, .ref a_ow, .ref a_fl, .ref a_ti, .ref a_gd, .ref a_ak, .ref a_sp, .ref a_se, .ref a_sd, .ref a_rw, .ref a_sz, .ref a_op, .ref a_th, .ref a_me, .ref a_pk, .int (nI kc), .int cm, .int su, .ref a_re, .int (nI u.2), .ref a_dr])), (a_re, .inl (cI, 40, .inl u.1))]) (va_runV (As := [.int x1]) (rest := []) ⟨hx, hb, hml, hown, hts⟩ (c_Model_say re kq x1 h0 a_st a_ck a_en a_au a_he a_qu a_lo a_ow a_fl a_ti a_gd a_ak a_sp a_se a_sd a_rw a_sz a_op a_th a_me a_pk a_re a_dr tg kc cm su hkq H.size) (xcwV 1 hts ww_693 ww_690 ww_692 ws_Model_say ww_8 (by decide +kernel) rfl rfl ⟨Nat.le_of_ble_eq_true rfl, Nat.le_of_ble_eq_true rfl⟩) (xPreV (ci := 7) (q0 := 0) (q := (R_Model, F_Model, 28)) (hP.sub [0, 1] rfl) (hD.sub [0, 1] (by decide) rfl) hK hN rfl rfl rfl) rfl rfl hl.1 rfl (lv_room (Nat.le_of_ble_eq_true rfl)) d_Model_sayCheck_31 ⟨Nat.le_of_ble_eq_true rfl, Nat.le_of_ble_eq_true rfl⟩) hP hD hS hA [0, 1] [] [0, 1] rfl rfl (by decide) (by decide) (by decide) (fun _ => rfl) (fun u2 H locs hw hP hD hS => ?_)
      obtain ⟨re2, kq2⟩ := u2
      obtain ⟨hw, hkq_2⟩ := hw
      replace hP : va_P D vwCl [(h0, .inr (7, [.int tg, .ref a_st, .ref a_ck, .ref a_en, .ref a_au, .ref a_he, .ref a_qu, .ref a_lo, .ref a_ow, .ref a_fl, .ref a_ti, .ref a_gd, .ref a_ak, .ref a_sp, .ref a_se, .ref a_sd, .ref a_rw, .ref a_sz, .ref a_op, .ref a_th, .ref a_me, .ref a_pk, .int (nI kc), .int cm, .int su, .ref a_re, .int (nI kq2), .ref a_dr])), (a_re, .inl (cI, 40, .inl re2))] H := hP
      replace hD : va_D A [(h0, .inr (7, [.int tg, .ref a_st, .ref a_ck, .ref a_en, .ref a_au, .ref a_he, .ref a_qu, .ref a_lo, .ref a_ow, .ref a_fl, .ref a_ti, .ref a_gd, .ref a_ak, .ref a_sp, .ref a_se, .ref a_sd, .ref a_rw, .ref a_sz, .ref a_op, .ref a_th, .ref a_me, .ref a_pk, .int (nI kc), .int cm, .int su, .ref a_re, .int (nI kq2), .ref a_dr])), (a_re, .inl (cI, 40, .inl re2))] := hD
      have hw_2 := hw
      replace hq := hq.trans (bnd2_eq hw)
      try dsimp only at hq
      exact hret (re2, kq2) ⟨hq.symm, hkq_2⟩ _ _ _ _ hP hD hS d_Model_sayCheck_34
    | succ nlp_sayCheck ihlp_sayCheck =>
      intro j x1 ls H locs hj hmlp_sayCheck hl hP hD hS hq
      replace hq : s_Model_sayCheck re kq fr = (if (nI kq) ≤ (nI j) then (bnd2 (s_Model_say re kq x1) (fun re4 kq4 => (re4, kq4))) else (lp_sayCheck re kq nlp_sayCheck (j + 1) (s_Model_mixed x1 (re j)))) := hq
      refine lv_iload_n hx hb d_Model_sayCheck_4 rfl (lv_at hl 3 rfl) ?_
      refine lv_aload_n hx hb d_Model_sayCheck_5 rfl (lv_at hl 0 rfl) ?_
      refine va_get (D := D) (ci := 7) (v := .int (nI kq)) (C := R_Model) (T := F_Model) (N := 28) hx hb hts hin_Model hown hK hP 0 rfl rfl 26 (by decide) (hts _ (xm ww_559)) (fun _ h9 => h9) rfl d_Model_sayCheck_6 ?_
      refine lv_icmp_ge (tgt := 29) hx hb d_Model_sayCheck_9 rfl (fun h3 => ?_) (fun h3 => ?_)
      · replace hq := hq.trans (if_pos h3)
        refine lv_aload_n hx hb d_Model_sayCheck_29 rfl (lv_at hl 0 rfl) ?_
        refine lv_iload_n hx hb d_Model_sayCheck_30 rfl (lv_at hl 2 rfl) ?_
        refine xcall_v (wc := [(h0, .inr (7, [.int tg, .ref a_st, .ref a_ck, .ref a_en, .ref a_au, .ref a_he, .ref a_qu, .ref a_lo, .ref a_ow, .ref a_fl, .ref a_ti, .ref a_gd, .ref a_ak, .ref a_sp, .ref a_se, .ref a_sd, .ref a_rw, .ref a_sz, .ref a_op, .ref a_th, .ref a_me, .ref a_pk, .int (nI kc), .int cm, .int su, .ref a_re, .int (nI kq), .ref a_dr])), (a_re, .inl (cI, 40, .inl re))]) (wr := []) (ws1 := fun (u : (Nat → Int32) × Nat) => [(h0, .inr (7, [.int tg, .ref a_st, .ref a_ck, .ref a_en, .ref a_au, .ref a_he, .ref a_qu, .ref a_lo, .ref a_ow, .ref a_fl, .ref a_ti, .ref a_gd, .ref a_ak, .ref a_sp, .ref a_se, .ref a_sd, .ref a_rw, .ref a_sz, .ref a_op, .ref a_th, .ref a_me, .ref a_pk, .int (nI kc), .int cm, .int su, .ref a_re, .int (nI u.2), .ref a_dr])), (a_re, .inl (cI, 40, .inl u.1))]) (va_runV (As := [.int x1]) (rest := []) ⟨hx, hb, hml, hown, hts⟩ (c_Model_say re kq x1 h0 a_st a_ck a_en a_au a_he a_qu a_lo a_ow a_fl a_ti a_gd a_ak a_sp a_se a_sd a_rw a_sz a_op a_th a_me a_pk a_re a_dr tg kc cm su hkq H.size) (xcwV 1 hts ww_693 ww_690 ww_692 ws_Model_say ww_8 (by decide +kernel) rfl rfl ⟨Nat.le_of_ble_eq_true rfl, Nat.le_of_ble_eq_true rfl⟩) (xPreV (ci := 7) (q0 := 0) (q := (R_Model, F_Model, 28)) (hP.sub [0, 1] rfl) (hD.sub [0, 1] (by decide) rfl) hK hN rfl rfl rfl) rfl rfl hl.1 rfl (lv_room (Nat.le_of_ble_eq_true rfl)) d_Model_sayCheck_31 ⟨Nat.le_of_ble_eq_true rfl, Nat.le_of_ble_eq_true rfl⟩) hP hD hS hA [0, 1] [] [0, 1] rfl rfl (by decide) (by decide) (by decide) (fun _ => rfl) (fun u4 H locs hw hP hD hS => ?_)
        obtain ⟨re4, kq4⟩ := u4
        obtain ⟨hw, hkq_4⟩ := hw
        replace hP : va_P D vwCl [(h0, .inr (7, [.int tg, .ref a_st, .ref a_ck, .ref a_en, .ref a_au, .ref a_he, .ref a_qu, .ref a_lo, .ref a_ow, .ref a_fl, .ref a_ti, .ref a_gd, .ref a_ak, .ref a_sp, .ref a_se, .ref a_sd, .ref a_rw, .ref a_sz, .ref a_op, .ref a_th, .ref a_me, .ref a_pk, .int (nI kc), .int cm, .int su, .ref a_re, .int (nI kq4), .ref a_dr])), (a_re, .inl (cI, 40, .inl re4))] H := hP
        replace hD : va_D A [(h0, .inr (7, [.int tg, .ref a_st, .ref a_ck, .ref a_en, .ref a_au, .ref a_he, .ref a_qu, .ref a_lo, .ref a_ow, .ref a_fl, .ref a_ti, .ref a_gd, .ref a_ak, .ref a_sp, .ref a_se, .ref a_sd, .ref a_rw, .ref a_sz, .ref a_op, .ref a_th, .ref a_me, .ref a_pk, .int (nI kc), .int cm, .int su, .ref a_re, .int (nI kq4), .ref a_dr])), (a_re, .inl (cI, 40, .inl re4))] := hD
        have hw_4 := hw
        replace hq := hq.trans (bnd2_eq hw)
        try dsimp only at hq
        exact hret (re4, kq4) ⟨hq.symm, hkq_4⟩ _ _ _ _ hP hD hS d_Model_sayCheck_34
      replace hq := hq.trans (if_neg h3)
      refine lv_iload_n hx hb d_Model_sayCheck_12 rfl (lv_at hl 2 rfl) ?_
      refine lv_aload_n hx hb d_Model_sayCheck_13 rfl (lv_at hl 0 rfl) ?_
      refine va_get (D := D) (ci := 7) (v := .ref a_re) (C := R_Model) (T := F_Model) (N := 28) hx hb hts hin_Model hown hK hP 0 rfl rfl 25 (by decide) (hts _ (xm ww_558)) (fun _ h9 => h9) rfl d_Model_sayCheck_14 ?_
      refine lv_iload_n hx hb d_Model_sayCheck_17 rfl (lv_at hl 3 rfl) ?_
      refine xiald (k := j) hx hb hK hP 1 0 rfl rfl rfl (Nat.lt_of_lt_of_le (Nat.lt_of_not_le fun h9 => h3 (nI_le h9 (by omega))) (Nat.le_of_lt hkq)) (by decide) d_Model_sayCheck_18 ?_
      refine xcall_i (wc := []) (wr := [(h0, .inr (7, [.int tg, .ref a_st, .ref a_ck, .ref a_en, .ref a_au, .ref a_he, .ref a_qu, .ref a_lo, .ref a_ow, .ref a_fl, .ref a_ti, .ref a_gd, .ref a_ak, .ref a_sp, .ref a_se, .ref a_sd, .ref a_rw, .ref a_sz, .ref a_op, .ref a_th, .ref a_me, .ref a_pk, .int (nI kc), .int cm, .int su, .ref a_re, .int (nI kq), .ref a_dr])), (a_re, .inl (cI, 40, .inl re))]) (ws1 := fun (u : Unit) => [(h0, .inr (7, [.int tg, .ref a_st, .ref a_ck, .ref a_en, .ref a_au, .ref a_he, .ref a_qu, .ref a_lo, .ref a_ow, .ref a_fl, .ref a_ti, .ref a_gd, .ref a_ak, .ref a_sp, .ref a_se, .ref a_sd, .ref a_rw, .ref a_sz, .ref a_op, .ref a_th, .ref a_me, .ref a_pk, .int (nI kc), .int cm, .int su, .ref a_re, .int (nI kq), .ref a_dr])), (a_re, .inl (cI, 40, .inl re))]) (va_runS (As := [.int x1, .int (re j)]) (rest := []) ⟨hx, hb, hml, hown, hts⟩ (c_Model_mixed x1 (re j) H.size) (xcwS 2 hts ww_673 ww_671 ww_672 ww_8 (by decide +kernel) rfl rfl ⟨Nat.le_of_ble_eq_true rfl, Nat.le_of_ble_eq_true rfl⟩) (xPreS (hP.sub [] rfl) (hD.sub [] (by decide) rfl) hK hN) rfl rfl hl.1 rfl (lv_room (Nat.le_of_ble_eq_true rfl)) d_Model_sayCheck_19 ⟨Nat.le_of_ble_eq_true rfl, Nat.le_of_ble_eq_true rfl⟩) hP hD hS hA [] [0, 1] [0, 1] rfl rfl (by decide) (by decide) (by decide) (fun _ => rfl) (fun r5 u5 H locs hw hP hD hS => ?_)
      refine xtop hw ?_
      replace hP : va_P D vwCl [(h0, .inr (7, [.int tg, .ref a_st, .ref a_ck, .ref a_en, .ref a_au, .ref a_he, .ref a_qu, .ref a_lo, .ref a_ow, .ref a_fl, .ref a_ti, .ref a_gd, .ref a_ak, .ref a_sp, .ref a_se, .ref a_sd, .ref a_rw, .ref a_sz, .ref a_op, .ref a_th, .ref a_me, .ref a_pk, .int (nI kc), .int cm, .int su, .ref a_re, .int (nI kq), .ref a_dr])), (a_re, .inl (cI, 40, .inl re))] H := hP
      replace hD : va_D A [(h0, .inr (7, [.int tg, .ref a_st, .ref a_ck, .ref a_en, .ref a_au, .ref a_he, .ref a_qu, .ref a_lo, .ref a_ow, .ref a_fl, .ref a_ti, .ref a_gd, .ref a_ak, .ref a_sp, .ref a_se, .ref a_sd, .ref a_rw, .ref a_sz, .ref a_op, .ref a_th, .ref a_me, .ref a_pk, .int (nI kc), .int cm, .int su, .ref a_re, .int (nI kq), .ref a_dr])), (a_re, .inl (cI, 40, .inl re))] := hD
      refine lv_istore_n hx hb d_Model_sayCheck_22 rfl hl (by decide) rfl (fun ls hl => ?_)
      replace hl : lv_has ls 4 [(2, .int (s_Model_mixed x1 (re j))), (0, .ref h0), (1, .int (nI fr)), (3, .int (nI j))] := hl
      refine lv_iinc (k := 3) (v := nI (j + 1)) hx hb d_Model_sayCheck_23 hl rfl (nI_1 j) (by decide) rfl (fun ls hl => ?_)
      replace hl : lv_has ls 4 [(3, .int (nI (j + 1))), (2, .int (s_Model_mixed x1 (re j))), (0, .ref h0), (1, .int (nI fr))] := hl
      refine lv_goto (tgt := 4) hx hb d_Model_sayCheck_26 rfl ?_
      exact ihlp_sayCheck (j + 1) (s_Model_mixed x1 (re j)) _ _ _ (Nat.lt_of_not_le fun h9 => h3 (nI_le h9 (by omega))) (by omega) (lv_sub hl [2, 3, 1, 0] rfl) hP hD hS hq
  exact LPlp_sayCheck (kq - fr) fr 0 _ _ _ hfr (Nat.le_refl _) (lv_sub hl [2, 3, 1, 0] rfl) hP hD hS hq

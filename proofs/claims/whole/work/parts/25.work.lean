theorem d_Model_collect_0 : decode b_Model_collect 0 = .ok (.iload_n 1, 1) := by decide +kernel
theorem d_Model_collect_1 : decode b_Model_collect 1 = .ok (.sipush 256, 3) := by decide +kernel
theorem d_Model_collect_4 : decode b_Model_collect 4 = .ok (.if_icmp .ge 33, 3) := by decide +kernel
theorem d_Model_collect_7 : decode b_Model_collect 7 = .ok (.aload_n 0, 1) := by decide +kernel
theorem d_Model_collect_8 : decode b_Model_collect 8 = .ok (.getfield 127, 3) := by decide +kernel
theorem d_Model_collect_11 : decode b_Model_collect 11 = .ok (.bipush 40, 2) := by decide +kernel
theorem d_Model_collect_13 : decode b_Model_collect 13 = .ok (.if_icmp .ge 13, 3) := by decide +kernel
theorem d_Model_collect_16 : decode b_Model_collect 16 = .ok (.aload_n 0, 1) := by decide +kernel
theorem d_Model_collect_17 : decode b_Model_collect 17 = .ok (.getfield 71, 3) := by decide +kernel
theorem d_Model_collect_20 : decode b_Model_collect 20 = .ok (.aload_n 0, 1) := by decide +kernel
theorem d_Model_collect_21 : decode b_Model_collect 21 = .ok (.getfield 127, 3) := by decide +kernel
theorem d_Model_collect_24 : decode b_Model_collect 24 = .ok (.iload_n 1, 1) := by decide +kernel
theorem d_Model_collect_25 : decode b_Model_collect 25 = .ok (.iastore, 1) := by decide +kernel
theorem d_Model_collect_26 : decode b_Model_collect 26 = .ok (.aload_n 0, 1) := by decide +kernel
theorem d_Model_collect_27 : decode b_Model_collect 27 = .ok (.dup, 1) := by decide +kernel
theorem d_Model_collect_28 : decode b_Model_collect 28 = .ok (.getfield 127, 3) := by decide +kernel
theorem d_Model_collect_31 : decode b_Model_collect 31 = .ok (.iconst 1, 1) := by decide +kernel
theorem d_Model_collect_32 : decode b_Model_collect 32 = .ok (.iadd, 1) := by decide +kernel
theorem d_Model_collect_33 : decode b_Model_collect 33 = .ok (.putfield 127, 3) := by decide +kernel
theorem d_Model_collect_36 : decode b_Model_collect 36 = .ok (.return_, 1) := by decide +kernel
theorem d_Model_collect_37 : decode b_Model_collect 37 = .ok (.iload_n 1, 1) := by decide +kernel
theorem d_Model_collect_38 : decode b_Model_collect 38 = .ok (.sipush 256, 3) := by decide +kernel
theorem d_Model_collect_41 : decode b_Model_collect 41 = .ok (.if_icmp .ne 55, 3) := by decide +kernel
theorem d_Model_collect_44 : decode b_Model_collect 44 = .ok (.aload_n 0, 1) := by decide +kernel
theorem d_Model_collect_45 : decode b_Model_collect 45 = .ok (.getfield 127, 3) := by decide +kernel
theorem d_Model_collect_48 : decode b_Model_collect 48 = .ok (.bipush 8, 2) := by decide +kernel
theorem d_Model_collect_50 : decode b_Model_collect 50 = .ok (.if_icmp .le 46, 3) := by decide +kernel
theorem d_Model_collect_53 : decode b_Model_collect 53 = .ok (.aload_n 0, 1) := by decide +kernel
theorem d_Model_collect_54 : decode b_Model_collect 54 = .ok (.getfield 71, 3) := by decide +kernel
theorem d_Model_collect_57 : decode b_Model_collect 57 = .ok (.iconst 0, 1) := by decide +kernel
theorem d_Model_collect_58 : decode b_Model_collect 58 = .ok (.iaload, 1) := by decide +kernel
theorem d_Model_collect_59 : decode b_Model_collect 59 = .ok (.sipush 254, 3) := by decide +kernel
theorem d_Model_collect_62 : decode b_Model_collect 62 = .ok (.if_icmp .ne 34, 3) := by decide +kernel
theorem d_Model_collect_65 : decode b_Model_collect 65 = .ok (.aload_n 0, 1) := by decide +kernel
theorem d_Model_collect_66 : decode b_Model_collect 66 = .ok (.getfield 71, 3) := by decide +kernel
theorem d_Model_collect_69 : decode b_Model_collect 69 = .ok (.iconst 1, 1) := by decide +kernel
theorem d_Model_collect_70 : decode b_Model_collect 70 = .ok (.iaload, 1) := by decide +kernel
theorem d_Model_collect_71 : decode b_Model_collect 71 = .ok (.iconst 1, 1) := by decide +kernel
theorem d_Model_collect_72 : decode b_Model_collect 72 = .ok (.if_icmp .ne 24, 3) := by decide +kernel
theorem d_Model_collect_75 : decode b_Model_collect 75 = .ok (.aload_n 0, 1) := by decide +kernel
theorem d_Model_collect_76 : decode b_Model_collect 76 = .ok (.getfield 71, 3) := by decide +kernel
theorem d_Model_collect_79 : decode b_Model_collect 79 = .ok (.bipush 8, 2) := by decide +kernel
theorem d_Model_collect_81 : decode b_Model_collect 81 = .ok (.iaload, 1) := by decide +kernel
theorem d_Model_collect_82 : decode b_Model_collect 82 = .ok (.aload_n 0, 1) := by decide +kernel
theorem d_Model_collect_83 : decode b_Model_collect 83 = .ok (.iconst 0, 1) := by decide +kernel
theorem d_Model_collect_84 : decode b_Model_collect 84 = .ok (.bipush 8, 2) := by decide +kernel
theorem d_Model_collect_86 : decode b_Model_collect 86 = .ok (.invokevirtual 130, 3) := by decide +kernel
theorem d_Model_collect_89 : decode b_Model_collect 89 = .ok (.if_icmp .ne 7, 3) := by decide +kernel
theorem d_Model_collect_92 : decode b_Model_collect 92 = .ok (.aload_n 0, 1) := by decide +kernel
theorem d_Model_collect_93 : decode b_Model_collect 93 = .ok (.invokevirtual 164, 3) := by decide +kernel
theorem d_Model_collect_96 : decode b_Model_collect 96 = .ok (.aload_n 0, 1) := by decide +kernel
theorem d_Model_collect_97 : decode b_Model_collect 97 = .ok (.iconst 0, 1) := by decide +kernel
theorem d_Model_collect_98 : decode b_Model_collect 98 = .ok (.putfield 127, 3) := by decide +kernel
theorem d_Model_collect_101 : decode b_Model_collect 101 = .ok (.return_, 1) := by decide +kernel
theorem d_Model_work_0 : decode b_Model_work 0 = .ok (.aload_n 0, 1) := by decide +kernel
theorem d_Model_work_1 : decode b_Model_work 1 = .ok (.getfield 142, 3) := by decide +kernel
theorem d_Model_work_4 : decode b_Model_work 4 = .ok (.ifCond .ne 21, 3) := by decide +kernel
theorem d_Model_work_7 : decode b_Model_work 7 = .ok (.aload_n 0, 1) := by decide +kernel
theorem d_Model_work_8 : decode b_Model_work 8 = .ok (.getfield 59, 3) := by decide +kernel
theorem d_Model_work_11 : decode b_Model_work 11 = .ok (.iconst 3, 1) := by decide +kernel
theorem d_Model_work_12 : decode b_Model_work 12 = .ok (.iaload, 1) := by decide +kernel
theorem d_Model_work_13 : decode b_Model_work 13 = .ok (.ifCond .le 12, 3) := by decide +kernel
theorem d_Model_work_16 : decode b_Model_work 16 = .ok (.aload_n 0, 1) := by decide +kernel
theorem d_Model_work_17 : decode b_Model_work 17 = .ok (.aload_n 0, 1) := by decide +kernel
theorem d_Model_work_18 : decode b_Model_work 18 = .ok (.iconst 3, 1) := by decide +kernel
theorem d_Model_work_19 : decode b_Model_work 19 = .ok (.invokevirtual 92, 3) := by decide +kernel
theorem d_Model_work_22 : decode b_Model_work 22 = .ok (.invokevirtual 167, 3) := by decide +kernel
theorem d_Model_work_25 : decode b_Model_work 25 = .ok (.aload_n 0, 1) := by decide +kernel
theorem d_Model_work_26 : decode b_Model_work 26 = .ok (.getfield 142, 3) := by decide +kernel
theorem d_Model_work_29 : decode b_Model_work 29 = .ok (.ifCond .le 51, 3) := by decide +kernel
theorem d_Model_work_32 : decode b_Model_work 32 = .ok (.aload_n 0, 1) := by decide +kernel
theorem d_Model_work_33 : decode b_Model_work 33 = .ok (.getfield 142, 3) := by decide +kernel
theorem d_Model_work_36 : decode b_Model_work 36 = .ok (.bipush 64, 2) := by decide +kernel
theorem d_Model_work_38 : decode b_Model_work 38 = .ok (.aload_n 0, 1) := by decide +kernel
theorem d_Model_work_39 : decode b_Model_work 39 = .ok (.getfield 59, 3) := by decide +kernel
theorem d_Model_work_42 : decode b_Model_work 42 = .ok (.iconst 2, 1) := by decide +kernel
theorem d_Model_work_43 : decode b_Model_work 43 = .ok (.iaload, 1) := by decide +kernel
theorem d_Model_work_44 : decode b_Model_work 44 = .ok (.isub, 1) := by decide +kernel
theorem d_Model_work_45 : decode b_Model_work 45 = .ok (.if_icmp .gt 35, 3) := by decide +kernel
theorem d_Model_work_48 : decode b_Model_work 48 = .ok (.iconst 0, 1) := by decide +kernel
theorem d_Model_work_49 : decode b_Model_work 49 = .ok (.istore_n 1, 1) := by decide +kernel
theorem d_Model_work_50 : decode b_Model_work 50 = .ok (.iload_n 1, 1) := by decide +kernel
theorem d_Model_work_51 : decode b_Model_work 51 = .ok (.aload_n 0, 1) := by decide +kernel
theorem d_Model_work_52 : decode b_Model_work 52 = .ok (.getfield 142, 3) := by decide +kernel
theorem d_Model_work_55 : decode b_Model_work 55 = .ok (.if_icmp .ge 20, 3) := by decide +kernel
theorem d_Model_work_58 : decode b_Model_work 58 = .ok (.aload_n 0, 1) := by decide +kernel
theorem d_Model_work_59 : decode b_Model_work 59 = .ok (.iconst 1, 1) := by decide +kernel
theorem d_Model_work_60 : decode b_Model_work 60 = .ok (.aload_n 0, 1) := by decide +kernel
theorem d_Model_work_61 : decode b_Model_work 61 = .ok (.getfield 78, 3) := by decide +kernel
theorem d_Model_work_64 : decode b_Model_work 64 = .ok (.iload_n 1, 1) := by decide +kernel
theorem d_Model_work_65 : decode b_Model_work 65 = .ok (.iaload, 1) := by decide +kernel
theorem d_Model_work_66 : decode b_Model_work 66 = .ok (.invokevirtual 170, 3) := by decide +kernel
theorem d_Model_work_69 : decode b_Model_work 69 = .ok (.iinc 1 1, 3) := by decide +kernel
theorem d_Model_work_72 : decode b_Model_work 72 = .ok (.goto (-22), 3) := by decide +kernel
theorem d_Model_work_75 : decode b_Model_work 75 = .ok (.aload_n 0, 1) := by decide +kernel
theorem d_Model_work_76 : decode b_Model_work 76 = .ok (.iconst 0, 1) := by decide +kernel
theorem d_Model_work_77 : decode b_Model_work 77 = .ok (.putfield 142, 3) := by decide +kernel
theorem d_Model_work_80 : decode b_Model_work 80 = .ok (.return_, 1) := by decide +kernel
theorem append_len {th th' : Nat → Int32} {Ls Ls' : Nat → List Int32} {e_ : Nat} {c_ : Int32} (h : (th', Ls') = s_Model_append th Ls e_ c_) (q : Nat) : (Ls' q).length ≤ (Ls q).length + 1 := by
  have h2 := congrArg (fun z => (z.2 q).length) h
  dsimp only at h2
  rw [h2]
  unfold s_Model_append bnd
  repeat' split
  all_goals first | exact Nat.le_succ _ | (simp only [s_Model_add, va_up]; split <;> first | exact Nat.le_succ _ | (rename_i e9; subst e9; simp))
def s_Model_collect_96 (pk : Nat → Int32) (me1 : Nat → Int32) (cm1 : Int32) (su1 : Int32) (re1 : Nat → Int32) (kq1 : Nat) : (Nat → Int32) × (Nat → Int32) × Nat × Int32 × Int32 × (Nat → Int32) × Nat := (me1, pk, 0, cm1, su1, re1, kq1)
def s_Model_collect (me : Nat → Int32) (pk : Nat → Int32) (kc : Nat) (cm : Int32) (su : Int32) (re : Nat → Int32) (kq : Nat) (x : Int32) : (Nat → Int32) × (Nat → Int32) × Nat × Int32 × Int32 × (Nat → Int32) × Nat := if 256 ≤ x then (if x = 256 then (if (nI kc) ≤ 8 then (s_Model_collect_96 pk me cm su re kq) else (if (pk 0) = 254 then (if (pk 1) = 1 then (if (pk 8) = (s_Model_checkOf pk 0 8) then (bnd5 (s_Model_obey me pk kc cm re kq) (fun me8 cm8 su8 re8 kq8 => s_Model_collect_96 pk me8 cm8 su8 re8 kq8)) else (s_Model_collect_96 pk me cm su re kq)) else (s_Model_collect_96 pk me cm su re kq)) else (s_Model_collect_96 pk me cm su re kq))) else (s_Model_collect_96 pk me cm su re kq)) else (if 40 ≤ (nI kc) then (me, pk, kc + 1, cm, su, re, kq) else (me, upd pk kc x, kc + 1, cm, su, re, kq))
abbrev rm_Model_collect : Room := { frames := 5, cells := 0, slots := 0, locals := 120 }
set_option maxHeartbeats 1000000 in
set_option maxRecDepth 100000 in
theorem c_Model_collect {l : Launch} {D : va_G} {cI cZ : ClassId} (me : Nat → Int32) (pk : Nat → Int32) (kc : Nat) (cm : Int32) (su : Int32) (re : Nat → Int32) (kq : Nat) (x : Int32) (h0 : Nat) (a_st : Nat) (a_ck : Nat) (a_en : Nat) (a_au : Nat) (a_he : Nat) (a_qu : Nat) (a_lo : Nat) (a_ow : Nat) (a_fl : Nat) (a_ti : Nat) (a_gd : Nat) (a_ak : Nat) (a_sp : Nat) (a_se : Nat) (a_sd : Nat) (a_rw : Nat) (a_sz : Nat) (a_op : Nat) (a_th : Nat) (a_me : Nat) (a_pk : Nat) (a_re : Nat) (a_dr : Nat) (tg : Int32) (hbf : BF pk) (hkc : kc < 1048575) (hkq0 : kq = 0) (sz : Nat) : Met l y_Model_collect (w_Model_collect) rm_Model_collect (va_Pc [.ref h0, .int x] (xPre xNs D vwCl cI cZ [(h0, .inr (7, [.int tg, .ref a_st, .ref a_ck, .ref a_en, .ref a_au, .ref a_he, .ref a_qu, .ref a_lo, .ref a_ow, .ref a_fl, .ref a_ti, .ref a_gd, .ref a_ak, .ref a_sp, .ref a_se, .ref a_sd, .ref a_rw, .ref a_sz, .ref a_op, .ref a_th, .ref a_me, .ref a_pk, .int (nI kc), .int cm, .int su, .ref a_re, .int (nI kq), .ref a_dr])), (a_me, .inl (cI, 32, .inl me)), (a_pk, .inl (cI, 40, .inl pk)), (a_re, .inl (cI, 40, .inl re))] sz)) (va_Qv (fun (u : (Nat → Int32) × (Nat → Int32) × Nat × Int32 × Int32 × (Nat → Int32) × Nat) => (u.1, u.2.1, u.2.2.1, u.2.2.2.1, u.2.2.2.2.1, u.2.2.2.2.2.1, u.2.2.2.2.2.2) = s_Model_collect me pk kc cm su re kq x ∧ u.2.2.2.2.2.2 ≤ 40) (fun u t9 => xAt D vwCl (va_A [(h0, .inr (7, [.int tg, .ref a_st, .ref a_ck, .ref a_en, .ref a_au, .ref a_he, .ref a_qu, .ref a_lo, .ref a_ow, .ref a_fl, .ref a_ti, .ref a_gd, .ref a_ak, .ref a_sp, .ref a_se, .ref a_sd, .ref a_rw, .ref a_sz, .ref a_op, .ref a_th, .ref a_me, .ref a_pk, .int (nI kc), .int cm, .int su, .ref a_re, .int (nI kq), .ref a_dr])), (a_me, .inl (cI, 32, .inl me)), (a_pk, .inl (cI, 40, .inl pk)), (a_re, .inl (cI, 40, .inl re))] sz) [(h0, .inr (7, [.int tg, .ref a_st, .ref a_ck, .ref a_en, .ref a_au, .ref a_he, .ref a_qu, .ref a_lo, .ref a_ow, .ref a_fl, .ref a_ti, .ref a_gd, .ref a_ak, .ref a_sp, .ref a_se, .ref a_sd, .ref a_rw, .ref a_sz, .ref a_op, .ref a_th, .ref a_me, .ref a_pk, .int (nI u.2.2.1), .int u.2.2.2.1, .int u.2.2.2.2.1, .ref a_re, .int (nI u.2.2.2.2.2.2), .ref a_dr])), (a_me, .inl (cI, 32, .inl u.1)), (a_pk, .inl (cI, 40, .inl u.2.1)), (a_re, .inl (cI, 40, .inl u.2.2.2.2.2.1))] t9) (va_A [(h0, .inr (7, [.int tg, .ref a_st, .ref a_ck, .ref a_en, .ref a_au, .ref a_he, .ref a_qu, .ref a_lo, .ref a_ow, .ref a_fl, .ref a_ti, .ref a_gd, .ref a_ak, .ref a_sp, .ref a_se, .ref a_sd, .ref a_rw, .ref a_sz, .ref a_op, .ref a_th, .ref a_me, .ref a_pk, .int (nI kc), .int cm, .int su, .ref a_re, .int (nI kq), .ref a_dr])), (a_me, .inl (cI, 32, .inl me)), (a_pk, .inl (cI, 40, .inl pk)), (a_re, .inl (cI, 40, .inl re))] sz)) 0 0 (va_A [(h0, .inr (7, [.int tg, .ref a_st, .ref a_ck, .ref a_en, .ref a_au, .ref a_he, .ref a_qu, .ref a_lo, .ref a_ow, .ref a_fl, .ref a_ti, .ref a_gd, .ref a_ak, .ref a_sp, .ref a_se, .ref a_sd, .ref a_rw, .ref a_sz, .ref a_op, .ref a_th, .ref a_me, .ref a_pk, .int (nI kc), .int cm, .int su, .ref a_re, .int (nI kq), .ref a_dr])), (a_me, .inl (cI, 32, .inl me)), (a_pk, .inl (cI, 40, .inl pk)), (a_re, .inl (cI, 40, .inl re))] sz) := by
  refine xBody_v (S := (Nat → Int32) × (Nat → Int32) × Nat × Int32 × Int32 × (Nat → Int32) × Nat) (cc := b_Model_collect) (maxL := 2) (by decide) rfl (Nat.le_of_ble_eq_true rfl) ?_
  intro p e s m args below meth c A H ls Q hx hb hml hin hts hown hP hD hK hN hS hA hl hret
  replace hl : lv_has ls 2 [(0, .ref h0), (1, .int x)] := hl
  have hin_Model : ∀ w ∈ u_ws R_Model F_Model 28, w ∈ (w_Model_collect) := (fun w h => xm (lay_Model w h))
  have hq : s_Model_collect me pk kc cm su re kq x = (if 256 ≤ x then (if x = 256 then (if (nI kc) ≤ 8 then (s_Model_collect_96 pk me cm su re kq) else (if (pk 0) = 254 then (if (pk 1) = 1 then (if (pk 8) = (s_Model_checkOf pk 0 8) then (bnd5 (s_Model_obey me pk kc cm re kq) (fun me8 cm8 su8 re8 kq8 => s_Model_collect_96 pk me8 cm8 su8 re8 kq8)) else (s_Model_collect_96 pk me cm su re kq)) else (s_Model_collect_96 pk me cm su re kq)) else (s_Model_collect_96 pk me cm su re kq))) else (s_Model_collect_96 pk me cm su re kq)) else (if 40 ≤ (nI kc) then (me, pk, kc + 1, cm, su, re, kq) else (me, upd pk kc x, kc + 1, cm, su, re, kq))) := rfl
  refine lv_iload_n hx hb d_Model_collect_0 rfl (lv_at hl 1 rfl) ?_
  refine lv_sipush (v := 256) hx hb d_Model_collect_1 rfl ?_
  refine lv_icmp_ge (tgt := 37) hx hb d_Model_collect_4 rfl (fun h1 => ?_) (fun h1 => ?_)
  · replace hq := hq.trans (if_pos h1)
    have Cs_Model_collect_96 : ∀ (me1 : Nat → Int32) (cm1 : Int32) (su1 : Int32) (re1 : Nat → Int32) (kq1 : Nat) (ls : Array Slot) (H : Heap) (locs : List Loc), (kq1 ≤ 40) → lv_has ls 2 [(0, .ref h0), (1, .int x)] → va_P D vwCl [(h0, .inr (7, [.int tg, .ref a_st, .ref a_ck, .ref a_en, .ref a_au, .ref a_he, .ref a_qu, .ref a_lo, .ref a_ow, .ref a_fl, .ref a_ti, .ref a_gd, .ref a_ak, .ref a_sp, .ref a_se, .ref a_sd, .ref a_rw, .ref a_sz, .ref a_op, .ref a_th, .ref a_me, .ref a_pk, .int (nI kc), .int cm1, .int su1, .ref a_re, .int (nI kq1), .ref a_dr])), (a_me, .inl (cI, 32, .inl me1)), (a_pk, .inl (cI, 40, .inl pk)), (a_re, .inl (cI, 40, .inl re1))] H → va_D A [(h0, .inr (7, [.int tg, .ref a_st, .ref a_ck, .ref a_en, .ref a_au, .ref a_he, .ref a_qu, .ref a_lo, .ref a_ow, .ref a_fl, .ref a_ti, .ref a_gd, .ref a_ak, .ref a_sp, .ref a_se, .ref a_sd, .ref a_rw, .ref a_sz, .ref a_op, .ref a_th, .ref a_me, .ref a_pk, .int (nI kc), .int cm1, .int su1, .ref a_re, .int (nI kq1), .ref a_dr])), (a_me, .inl (cI, 32, .inl me1)), (a_pk, .inl (cI, 40, .inl pk)), (a_re, .inl (cI, 40, .inl re1))] → va_S A s.heap H locs → s_Model_collect me pk kc cm su re kq x = s_Model_collect_96 pk me1 cm1 su1 re1 kq1 → W p l e rm_Model_collect s m args below meth c H locs 0 0 Q (F0 m 96 ls []) := by
      intro me1 cm1 su1 re1 kq1 ls H locs hk1 hl hP hD hS hq
      replace hq : s_Model_collect me pk kc cm su re kq x = ((me1, pk, 0, cm1, su1, re1, kq1)) := hq
      refine lv_aload_n hx hb d_Model_collect_96 rfl (lv_at hl 0 rfl) ?_
      refine lv_iconst (v := 0) hx hb d_Model_collect_97 rfl ?_
      refine va_put (D := D) (ci := 7) (v := .int 0) (ty := (.int)) (C := R_Model) (T := F_Model) (N := 28) hx hb hts hin_Model t_Model t_Model_ok n_Model hown hK hP hD hS 0 rfl rfl 22 (by decide) (hts _ (xm ww_555)) (fun _ h9 => h9) rfl (by decide +kernel) rfl rfl (Nat.le_of_ble_eq_true rfl) d_Model_collect_98 (fun H locs hP hD hS => ?_)
      replace hP : va_P D vwCl [(h0, .inr (7, [.int tg, .ref a_st, .ref a_ck, .ref a_en, .ref a_au, .ref a_he, .ref a_qu, .ref a_lo, .ref a_ow, .ref a_fl, .ref a_ti, .ref a_gd, .ref a_ak, .ref a_sp, .ref a_se, .ref a_sd, .ref a_rw, .ref a_sz, .ref a_op, .ref a_th, .ref a_me, .ref a_pk, .int 0, .int cm1, .int su1, .ref a_re, .int (nI kq1), .ref a_dr])), (a_me, .inl (cI, 32, .inl me1)), (a_pk, .inl (cI, 40, .inl pk)), (a_re, .inl (cI, 40, .inl re1))] H := hP
      replace hD : va_D A [(h0, .inr (7, [.int tg, .ref a_st, .ref a_ck, .ref a_en, .ref a_au, .ref a_he, .ref a_qu, .ref a_lo, .ref a_ow, .ref a_fl, .ref a_ti, .ref a_gd, .ref a_ak, .ref a_sp, .ref a_se, .ref a_sd, .ref a_rw, .ref a_sz, .ref a_op, .ref a_th, .ref a_me, .ref a_pk, .int 0, .int cm1, .int su1, .ref a_re, .int (nI kq1), .ref a_dr])), (a_me, .inl (cI, 32, .inl me1)), (a_pk, .inl (cI, 40, .inl pk)), (a_re, .inl (cI, 40, .inl re1))] := hD
      exact hret (me1, pk, 0, cm1, su1, re1, kq1) ⟨hq.symm, hk1⟩ _ _ _ _ hP hD hS d_Model_collect_101
    refine lv_iload_n hx hb d_Model_collect_37 rfl (lv_at hl 1 rfl) ?_
    refine lv_sipush (v := 256) hx hb d_Model_collect_38 rfl ?_
    refine lv_icmp_ne (tgt := 96) hx hb d_Model_collect_41 rfl (fun h2 => ?_) (fun h2 => ?_)
    · replace hq := hq.trans (if_neg h2)
      exact Cs_Model_collect_96 me cm su re kq _ _ _ (by omega) (lv_sub hl [0, 1] rfl) hP hD hS hq
    replace hq := hq.trans (if_pos h2)
    refine lv_aload_n hx hb d_Model_collect_44 rfl (lv_at hl 0 rfl) ?_
    refine va_get (D := D) (ci := 7) (v := .int (nI kc)) (C := R_Model) (T := F_Model) (N := 28) hx hb hts hin_Model hown hK hP 0 rfl rfl 22 (by decide) (hts _ (xm ww_555)) (fun _ h9 => h9) rfl d_Model_collect_45 ?_
    refine lv_bipush (v := 8) hx hb d_Model_collect_48 rfl ?_
    refine lv_icmp_le (tgt := 96) hx hb d_Model_collect_50 rfl (fun h3 => ?_) (fun h3 => ?_)
    · replace hq := hq.trans (if_pos h3)
      exact Cs_Model_collect_96 me cm su re kq _ _ _ (by omega) (lv_sub hl [0, 1] rfl) hP hD hS hq
    replace hq := hq.trans (if_neg h3)
    refine lv_aload_n hx hb d_Model_collect_53 rfl (lv_at hl 0 rfl) ?_
    refine va_get (D := D) (ci := 7) (v := .ref a_pk) (C := R_Model) (T := F_Model) (N := 28) hx hb hts hin_Model hown hK hP 0 rfl rfl 21 (by decide) (hts _ (xm ww_554)) (fun _ h9 => h9) rfl d_Model_collect_54 ?_
    refine lv_iconst (v := 0) hx hb d_Model_collect_57 rfl ?_
    refine xiald (k := 0) hx hb hK hP 2 0 rfl rfl rfl (by decide) (by decide) d_Model_collect_58 ?_
    refine lv_sipush (v := 254) hx hb d_Model_collect_59 rfl ?_
    refine lv_icmp_ne (tgt := 96) hx hb d_Model_collect_62 rfl (fun h4 => ?_) (fun h4 => ?_)
    · replace hq := hq.trans (if_neg h4)
      exact Cs_Model_collect_96 me cm su re kq _ _ _ (by omega) (lv_sub hl [0, 1] rfl) hP hD hS hq
    replace hq := hq.trans (if_pos h4)
    refine lv_aload_n hx hb d_Model_collect_65 rfl (lv_at hl 0 rfl) ?_
    refine va_get (D := D) (ci := 7) (v := .ref a_pk) (C := R_Model) (T := F_Model) (N := 28) hx hb hts hin_Model hown hK hP 0 rfl rfl 21 (by decide) (hts _ (xm ww_554)) (fun _ h9 => h9) rfl d_Model_collect_66 ?_
    refine lv_iconst (v := 1) hx hb d_Model_collect_69 rfl ?_
    refine xiald (k := 1) hx hb hK hP 2 0 rfl rfl rfl (by decide) (by decide) d_Model_collect_70 ?_
    refine lv_iconst (v := 1) hx hb d_Model_collect_71 rfl ?_
    refine lv_icmp_ne (tgt := 96) hx hb d_Model_collect_72 rfl (fun h5 => ?_) (fun h5 => ?_)
    · replace hq := hq.trans (if_neg h5)
      exact Cs_Model_collect_96 me cm su re kq _ _ _ (by omega) (lv_sub hl [0, 1] rfl) hP hD hS hq
    replace hq := hq.trans (if_pos h5)
    refine lv_aload_n hx hb d_Model_collect_75 rfl (lv_at hl 0 rfl) ?_
    refine va_get (D := D) (ci := 7) (v := .ref a_pk) (C := R_Model) (T := F_Model) (N := 28) hx hb hts hin_Model hown hK hP 0 rfl rfl 21 (by decide) (hts _ (xm ww_554)) (fun _ h9 => h9) rfl d_Model_collect_76 ?_
    refine lv_bipush (v := 8) hx hb d_Model_collect_79 rfl ?_
    refine xiald (k := 8) hx hb hK hP 2 0 rfl rfl rfl (by decide) (by decide) d_Model_collect_81 ?_
    refine lv_aload_n hx hb d_Model_collect_82 rfl (lv_at hl 0 rfl) ?_
    refine lv_iconst (v := 0) hx hb d_Model_collect_83 rfl ?_
    refine lv_bipush (v := 8) hx hb d_Model_collect_84 rfl ?_
    refine xcall_i (wc := [(h0, .inr (7, [.int tg, .ref a_st, .ref a_ck, .ref a_en, .ref a_au, .ref a_he, .ref a_qu, .ref a_lo, .ref a_ow, .ref a_fl, .ref a_ti, .ref a_gd, .ref a_ak, .ref a_sp, .ref a_se, .ref a_sd, .ref a_rw, .ref a_sz, .ref a_op, .ref a_th, .ref a_me, .ref a_pk, .int (nI kc), .int cm, .int su, .ref a_re, .int (nI kq), .ref a_dr])), (a_pk, .inl (cI, 40, .inl pk))]) (wr := [(a_me, .inl (cI, 32, .inl me)), (a_re, .inl (cI, 40, .inl re))]) (ws1 := fun (u : Unit) => [(h0, .inr (7, [.int tg, .ref a_st, .ref a_ck, .ref a_en, .ref a_au, .ref a_he, .ref a_qu, .ref a_lo, .ref a_ow, .ref a_fl, .ref a_ti, .ref a_gd, .ref a_ak, .ref a_sp, .ref a_se, .ref a_sd, .ref a_rw, .ref a_sz, .ref a_op, .ref a_th, .ref a_me, .ref a_pk, .int (nI kc), .int cm, .int su, .ref a_re, .int (nI kq), .ref a_dr])), (a_me, .inl (cI, 32, .inl me)), (a_pk, .inl (cI, 40, .inl pk)), (a_re, .inl (cI, 40, .inl re))]) (va_runV (As := [.int 0, .int 8]) (rest := [.int (pk 8)]) ⟨hx, hb, hml, hown, hts⟩ (c_Model_checkOf pk 0 8 h0 a_st a_ck a_en a_au a_he a_qu a_lo a_ow a_fl a_ti a_gd a_ak a_sp a_se a_sd a_rw a_sz a_op a_th a_me a_pk a_re a_dr tg kc cm su kq (by omega) H.size) (xcwV 2 hts ww_670 ww_667 ww_669 ws_Model_checkOf ww_8 (by decide +kernel) rfl rfl ⟨Nat.le_of_ble_eq_true rfl, Nat.le_of_ble_eq_true rfl⟩) (xPreV (ci := 7) (q0 := 0) (q := (R_Model, F_Model, 28)) (hP.sub [0, 2] rfl) (hD.sub [0, 2] (by decide) rfl) hK hN rfl rfl rfl) rfl rfl hl.1 rfl (lv_room (Nat.le_of_ble_eq_true rfl)) d_Model_collect_86 ⟨Nat.le_of_ble_eq_true rfl, Nat.le_of_ble_eq_true rfl⟩) hP hD hS hA [0, 2] [1, 3] [2, 0, 3, 1] rfl rfl (by decide) (by decide) (by decide) (fun _ => rfl) (fun r6 u6 H locs hw hP hD hS => ?_)
    refine xtop hw ?_
    replace hP : va_P D vwCl [(h0, .inr (7, [.int tg, .ref a_st, .ref a_ck, .ref a_en, .ref a_au, .ref a_he, .ref a_qu, .ref a_lo, .ref a_ow, .ref a_fl, .ref a_ti, .ref a_gd, .ref a_ak, .ref a_sp, .ref a_se, .ref a_sd, .ref a_rw, .ref a_sz, .ref a_op, .ref a_th, .ref a_me, .ref a_pk, .int (nI kc), .int cm, .int su, .ref a_re, .int (nI kq), .ref a_dr])), (a_me, .inl (cI, 32, .inl me)), (a_pk, .inl (cI, 40, .inl pk)), (a_re, .inl (cI, 40, .inl re))] H := hP
    replace hD : va_D A [(h0, .inr (7, [.int tg, .ref a_st, .ref a_ck, .ref a_en, .ref a_au, .ref a_he, .ref a_qu, .ref a_lo, .ref a_ow, .ref a_fl, .ref a_ti, .ref a_gd, .ref a_ak, .ref a_sp, .ref a_se, .ref a_sd, .ref a_rw, .ref a_sz, .ref a_op, .ref a_th, .ref a_me, .ref a_pk, .int (nI kc), .int cm, .int su, .ref a_re, .int (nI kq), .ref a_dr])), (a_me, .inl (cI, 32, .inl me)), (a_pk, .inl (cI, 40, .inl pk)), (a_re, .inl (cI, 40, .inl re))] := hD
    refine lv_icmp_ne (tgt := 96) hx hb d_Model_collect_89 rfl (fun h7 => ?_) (fun h7 => ?_)
    · replace hq := hq.trans (if_neg h7)
      exact Cs_Model_collect_96 me cm su re kq _ _ _ (by omega) (lv_sub hl [0, 1] rfl) hP hD hS hq
    replace hq := hq.trans (if_pos h7)
    refine lv_aload_n hx hb d_Model_collect_92 rfl (lv_at hl 0 rfl) ?_
    refine xcall_v (wc := [(h0, .inr (7, [.int tg, .ref a_st, .ref a_ck, .ref a_en, .ref a_au, .ref a_he, .ref a_qu, .ref a_lo, .ref a_ow, .ref a_fl, .ref a_ti, .ref a_gd, .ref a_ak, .ref a_sp, .ref a_se, .ref a_sd, .ref a_rw, .ref a_sz, .ref a_op, .ref a_th, .ref a_me, .ref a_pk, .int (nI kc), .int cm, .int su, .ref a_re, .int (nI kq), .ref a_dr])), (a_me, .inl (cI, 32, .inl me)), (a_pk, .inl (cI, 40, .inl pk)), (a_re, .inl (cI, 40, .inl re))]) (wr := []) (ws1 := fun (u : (Nat → Int32) × Int32 × Int32 × (Nat → Int32) × Nat) => [(h0, .inr (7, [.int tg, .ref a_st, .ref a_ck, .ref a_en, .ref a_au, .ref a_he, .ref a_qu, .ref a_lo, .ref a_ow, .ref a_fl, .ref a_ti, .ref a_gd, .ref a_ak, .ref a_sp, .ref a_se, .ref a_sd, .ref a_rw, .ref a_sz, .ref a_op, .ref a_th, .ref a_me, .ref a_pk, .int (nI kc), .int u.2.1, .int u.2.2.1, .ref a_re, .int (nI u.2.2.2.2), .ref a_dr])), (a_me, .inl (cI, 32, .inl u.1)), (a_pk, .inl (cI, 40, .inl pk)), (a_re, .inl (cI, 40, .inl u.2.2.2.1))]) (va_runV (As := []) (rest := []) ⟨hx, hb, hml, hown, hts⟩ (c_Model_obey me pk kc cm re kq h0 a_st a_ck a_en a_au a_he a_qu a_lo a_ow a_fl a_ti a_gd a_ak a_sp a_se a_sd a_rw a_sz a_op a_th a_me a_pk a_re a_dr tg su hbf (by omega) hkq0 H.size) (xcwV 0 hts ww_677 ww_674 ww_676 ws_Model_obey ww_8 (by decide +kernel) rfl rfl ⟨Nat.le_of_ble_eq_true rfl, Nat.le_of_ble_eq_true rfl⟩) (xPreV (ci := 7) (q0 := 0) (q := (R_Model, F_Model, 28)) (hP.sub [0, 1, 2, 3] rfl) (hD.sub [0, 1, 2, 3] (by decide) rfl) hK hN rfl rfl rfl) rfl rfl hl.1 rfl (lv_room (Nat.le_of_ble_eq_true rfl)) d_Model_collect_93 ⟨Nat.le_of_ble_eq_true rfl, Nat.le_of_ble_eq_true rfl⟩) hP hD hS hA [0, 1, 2, 3] [] [0, 1, 2, 3] rfl rfl (by decide) (by decide) (by decide) (fun _ => rfl) (fun u8 H locs hw hP hD hS => ?_)
    obtain ⟨me8, cm8, su8, re8, kq8⟩ := u8
    try dsimp only at hw
    obtain ⟨hw, hkq_8⟩ := hw
    replace hP : va_P D vwCl [(h0, .inr (7, [.int tg, .ref a_st, .ref a_ck, .ref a_en, .ref a_au, .ref a_he, .ref a_qu, .ref a_lo, .ref a_ow, .ref a_fl, .ref a_ti, .ref a_gd, .ref a_ak, .ref a_sp, .ref a_se, .ref a_sd, .ref a_rw, .ref a_sz, .ref a_op, .ref a_th, .ref a_me, .ref a_pk, .int (nI kc), .int cm8, .int su8, .ref a_re, .int (nI kq8), .ref a_dr])), (a_me, .inl (cI, 32, .inl me8)), (a_pk, .inl (cI, 40, .inl pk)), (a_re, .inl (cI, 40, .inl re8))] H := hP
    replace hD : va_D A [(h0, .inr (7, [.int tg, .ref a_st, .ref a_ck, .ref a_en, .ref a_au, .ref a_he, .ref a_qu, .ref a_lo, .ref a_ow, .ref a_fl, .ref a_ti, .ref a_gd, .ref a_ak, .ref a_sp, .ref a_se, .ref a_sd, .ref a_rw, .ref a_sz, .ref a_op, .ref a_th, .ref a_me, .ref a_pk, .int (nI kc), .int cm8, .int su8, .ref a_re, .int (nI kq8), .ref a_dr])), (a_me, .inl (cI, 32, .inl me8)), (a_pk, .inl (cI, 40, .inl pk)), (a_re, .inl (cI, 40, .inl re8))] := hD
    have hw_8 := hw
    replace hq := hq.trans (bnd5_eq hw)
    try dsimp only at hq
    exact Cs_Model_collect_96 me8 cm8 su8 re8 kq8 _ _ _ hkq_8 (lv_sub hl [0, 1] rfl) hP hD hS hq
  replace hq := hq.trans (if_neg h1)
  refine lv_aload_n hx hb d_Model_collect_7 rfl (lv_at hl 0 rfl) ?_
  refine va_get (D := D) (ci := 7) (v := .int (nI kc)) (C := R_Model) (T := F_Model) (N := 28) hx hb hts hin_Model hown hK hP 0 rfl rfl 22 (by decide) (hts _ (xm ww_555)) (fun _ h9 => h9) rfl d_Model_collect_8 ?_
  refine lv_bipush (v := 40) hx hb d_Model_collect_11 rfl ?_
  refine lv_icmp_ge (tgt := 26) hx hb d_Model_collect_13 rfl (fun h9 => ?_) (fun h9 => ?_)
  · replace hq := hq.trans (if_pos h9)
    refine lv_aload_n hx hb d_Model_collect_26 rfl (lv_at hl 0 rfl) ?_
    refine lv_dup hx hb d_Model_collect_27 rfl ?_
    refine va_get (D := D) (ci := 7) (v := .int (nI kc)) (C := R_Model) (T := F_Model) (N := 28) hx hb hts hin_Model hown hK hP 0 rfl rfl 22 (by decide) (hts _ (xm ww_555)) (fun _ h9 => h9) rfl d_Model_collect_28 ?_
    refine lv_iconst (v := 1) hx hb d_Model_collect_31 rfl ?_
    refine lv_iadd hx hb d_Model_collect_32 ?_
    refine xtop (y := nI (kc + 1)) (nI_add kc 1) ?_
    refine va_put (D := D) (ci := 7) (v := .int (nI (kc + 1))) (ty := (.int)) (C := R_Model) (T := F_Model) (N := 28) hx hb hts hin_Model t_Model t_Model_ok n_Model hown hK hP hD hS 0 rfl rfl 22 (by decide) (hts _ (xm ww_555)) (fun _ h9 => h9) rfl (by decide +kernel) rfl rfl (Nat.le_of_ble_eq_true rfl) d_Model_collect_33 (fun H locs hP hD hS => ?_)
    replace hP : va_P D vwCl [(h0, .inr (7, [.int tg, .ref a_st, .ref a_ck, .ref a_en, .ref a_au, .ref a_he, .ref a_qu, .ref a_lo, .ref a_ow, .ref a_fl, .ref a_ti, .ref a_gd, .ref a_ak, .ref a_sp, .ref a_se, .ref a_sd, .ref a_rw, .ref a_sz, .ref a_op, .ref a_th, .ref a_me, .ref a_pk, .int (nI (kc + 1)), .int cm, .int su, .ref a_re, .int (nI kq), .ref a_dr])), (a_me, .inl (cI, 32, .inl me)), (a_pk, .inl (cI, 40, .inl pk)), (a_re, .inl (cI, 40, .inl re))] H := hP
    replace hD : va_D A [(h0, .inr (7, [.int tg, .ref a_st, .ref a_ck, .ref a_en, .ref a_au, .ref a_he, .ref a_qu, .ref a_lo, .ref a_ow, .ref a_fl, .ref a_ti, .ref a_gd, .ref a_ak, .ref a_sp, .ref a_se, .ref a_sd, .ref a_rw, .ref a_sz, .ref a_op, .ref a_th, .ref a_me, .ref a_pk, .int (nI (kc + 1)), .int cm, .int su, .ref a_re, .int (nI kq), .ref a_dr])), (a_me, .inl (cI, 32, .inl me)), (a_pk, .inl (cI, 40, .inl pk)), (a_re, .inl (cI, 40, .inl re))] := hD
    exact hret (me, pk, kc + 1, cm, su, re, kq) ⟨hq.symm, (by first | omega | (dsimp only; omega))⟩ _ _ _ _ hP hD hS d_Model_collect_36
  replace hq := hq.trans (if_neg h9)
  refine lv_aload_n hx hb d_Model_collect_16 rfl (lv_at hl 0 rfl) ?_
  refine va_get (D := D) (ci := 7) (v := .ref a_pk) (C := R_Model) (T := F_Model) (N := 28) hx hb hts hin_Model hown hK hP 0 rfl rfl 21 (by decide) (hts _ (xm ww_554)) (fun _ h9 => h9) rfl d_Model_collect_17 ?_
  refine lv_aload_n hx hb d_Model_collect_20 rfl (lv_at hl 0 rfl) ?_
  refine va_get (D := D) (ci := 7) (v := .int (nI kc)) (C := R_Model) (T := F_Model) (N := 28) hx hb hts hin_Model hown hK hP 0 rfl rfl 22 (by decide) (hts _ (xm ww_555)) (fun _ h9 => h9) rfl d_Model_collect_21 ?_
  refine lv_iload_n hx hb d_Model_collect_24 rfl (lv_at hl 1 rfl) ?_
  refine xiast (k := kc) hx hb hK hP hD hS 2 0 rfl rfl rfl (Nat.lt_of_not_le fun k9 => h9 (nI_le (a := 40) k9 (by omega))) (by decide) d_Model_collect_25 (fun H locs hP hD hS => ?_)
  replace hP : va_P D vwCl [(h0, .inr (7, [.int tg, .ref a_st, .ref a_ck, .ref a_en, .ref a_au, .ref a_he, .ref a_qu, .ref a_lo, .ref a_ow, .ref a_fl, .ref a_ti, .ref a_gd, .ref a_ak, .ref a_sp, .ref a_se, .ref a_sd, .ref a_rw, .ref a_sz, .ref a_op, .ref a_th, .ref a_me, .ref a_pk, .int (nI kc), .int cm, .int su, .ref a_re, .int (nI kq), .ref a_dr])), (a_me, .inl (cI, 32, .inl me)), (a_pk, .inl (cI, 40, .inl (upd pk kc x))), (a_re, .inl (cI, 40, .inl re))] H := hP
  replace hD : va_D A [(h0, .inr (7, [.int tg, .ref a_st, .ref a_ck, .ref a_en, .ref a_au, .ref a_he, .ref a_qu, .ref a_lo, .ref a_ow, .ref a_fl, .ref a_ti, .ref a_gd, .ref a_ak, .ref a_sp, .ref a_se, .ref a_sd, .ref a_rw, .ref a_sz, .ref a_op, .ref a_th, .ref a_me, .ref a_pk, .int (nI kc), .int cm, .int su, .ref a_re, .int (nI kq), .ref a_dr])), (a_me, .inl (cI, 32, .inl me)), (a_pk, .inl (cI, 40, .inl (upd pk kc x))), (a_re, .inl (cI, 40, .inl re))] := hD
  refine lv_aload_n hx hb d_Model_collect_26 rfl (lv_at hl 0 rfl) ?_
  refine lv_dup hx hb d_Model_collect_27 rfl ?_
  refine va_get (D := D) (ci := 7) (v := .int (nI kc)) (C := R_Model) (T := F_Model) (N := 28) hx hb hts hin_Model hown hK hP 0 rfl rfl 22 (by decide) (hts _ (xm ww_555)) (fun _ h9 => h9) rfl d_Model_collect_28 ?_
  refine lv_iconst (v := 1) hx hb d_Model_collect_31 rfl ?_
  refine lv_iadd hx hb d_Model_collect_32 ?_
  refine xtop (y := nI (kc + 1)) (nI_add kc 1) ?_
  refine va_put (D := D) (ci := 7) (v := .int (nI (kc + 1))) (ty := (.int)) (C := R_Model) (T := F_Model) (N := 28) hx hb hts hin_Model t_Model t_Model_ok n_Model hown hK hP hD hS 0 rfl rfl 22 (by decide) (hts _ (xm ww_555)) (fun _ h9 => h9) rfl (by decide +kernel) rfl rfl (Nat.le_of_ble_eq_true rfl) d_Model_collect_33 (fun H locs hP hD hS => ?_)
  replace hP : va_P D vwCl [(h0, .inr (7, [.int tg, .ref a_st, .ref a_ck, .ref a_en, .ref a_au, .ref a_he, .ref a_qu, .ref a_lo, .ref a_ow, .ref a_fl, .ref a_ti, .ref a_gd, .ref a_ak, .ref a_sp, .ref a_se, .ref a_sd, .ref a_rw, .ref a_sz, .ref a_op, .ref a_th, .ref a_me, .ref a_pk, .int (nI (kc + 1)), .int cm, .int su, .ref a_re, .int (nI kq), .ref a_dr])), (a_me, .inl (cI, 32, .inl me)), (a_pk, .inl (cI, 40, .inl (upd pk kc x))), (a_re, .inl (cI, 40, .inl re))] H := hP
  replace hD : va_D A [(h0, .inr (7, [.int tg, .ref a_st, .ref a_ck, .ref a_en, .ref a_au, .ref a_he, .ref a_qu, .ref a_lo, .ref a_ow, .ref a_fl, .ref a_ti, .ref a_gd, .ref a_ak, .ref a_sp, .ref a_se, .ref a_sd, .ref a_rw, .ref a_sz, .ref a_op, .ref a_th, .ref a_me, .ref a_pk, .int (nI (kc + 1)), .int cm, .int su, .ref a_re, .int (nI kq), .ref a_dr])), (a_me, .inl (cI, 32, .inl me)), (a_pk, .inl (cI, 40, .inl (upd pk kc x))), (a_re, .inl (cI, 40, .inl re))] := hD
  exact hret (me, upd pk kc x, kc + 1, cm, su, re, kq) ⟨hq.symm, (by first | omega | (dsimp only; omega))⟩ _ _ _ _ hP hD hS d_Model_collect_36

theorem fit64 {k n : Nat} (hk : k ≤ 40) (hn : n ≤ 64) (h : ¬ (64 : Int32) - nI n < nI k) : k + n ≤ 64 := by
  rcases Nat.lt_or_ge 64 (k + n) with h1 | h1
  · exfalso
    apply h
    rw [show (64 : Int32) = nI 64 from rfl, pk_sub hn]
    exact nI_lt (by omega) (by omega)
  · exact h1
def lp_work (me1 : Nat → Int32) (pk1 : Nat → Int32) (kc1 : Nat) (cm1 : Int32) (su1 : Int32) (re1 : Nat → Int32) (kq1 : Nat) : Nat → Nat → (Nat → Int32) → (Nat → List Int32) → (Nat → Int32) × (Nat → Int32) × Nat × Int32 × Int32 × (Nat → Int32) × Nat × (Nat → Int32) × (Nat → List Int32)
  | 0, j, th2, Ls2 => (me1, pk1, kc1, cm1, su1, re1, 0, th2, Ls2)
  | nlp_work + 1, j, th2, Ls2 => if (nI kq1) ≤ (nI j) then (me1, pk1, kc1, cm1, su1, re1, 0, th2, Ls2) else (bnd2 (s_Model_append th2 Ls2 1 (re1 j)) (fun th5 Ls5 => lp_work me1 pk1 kc1 cm1 su1 re1 kq1 nlp_work (j + 1) th5 Ls5))
def s_Model_work_25 (th : Nat → Int32) (me1 : Nat → Int32) (pk1 : Nat → Int32) (kc1 : Nat) (cm1 : Int32) (su1 : Int32) (re1 : Nat → Int32) (kq1 : Nat) (Ls1 : Nat → List Int32) : (Nat → Int32) × (Nat → Int32) × Nat × Int32 × Int32 × (Nat → Int32) × Nat × (Nat → Int32) × (Nat → List Int32) := if (nI kq1) ≤ 0 then (me1, pk1, kc1, cm1, su1, re1, kq1, th, Ls1) else (if (64 - (nI ((Ls1 2).length))) < (nI kq1) then (me1, pk1, kc1, cm1, su1, re1, kq1, th, Ls1) else (lp_work me1 pk1 kc1 cm1 su1 re1 kq1 (kq1 - 0) 0 th Ls1))
def s_Model_work (me : Nat → Int32) (pk : Nat → Int32) (kc : Nat) (cm : Int32) (su : Int32) (re : Nat → Int32) (kq : Nat) (th : Nat → Int32) (Ls : Nat → List Int32) : (Nat → Int32) × (Nat → Int32) × Nat × Int32 × Int32 × (Nat → Int32) × Nat × (Nat → Int32) × (Nat → List Int32) := if (nI kq) = 0 then (if (nI ((Ls 3).length)) ≤ 0 then (s_Model_work_25 th me pk kc cm su re kq Ls) else (bnd2 (s_Model_remove Ls 3) (fun r8 Ls8 => bnd7 (s_Model_collect me pk kc cm su re kq r8) (fun me9 pk9 kc9 cm9 su9 re9 kq9 => s_Model_work_25 th me9 pk9 kc9 cm9 su9 re9 kq9 Ls8)))) else (s_Model_work_25 th me pk kc cm su re kq Ls)
abbrev rm_Model_work : Room := { frames := 6, cells := 0, slots := 0, locals := 141 }
set_option maxHeartbeats 1000000 in
set_option maxRecDepth 100000 in
theorem c_Model_work {l : Launch} {D : va_G} {cI cZ : ClassId} (me : Nat → Int32) (pk : Nat → Int32) (kc : Nat) (cm : Int32) (su : Int32) (re : Nat → Int32) (kq : Nat) (th : Nat → Int32) (Ls : Nat → List Int32) (h0 : Nat) (a_st : Nat) (a_ck : Nat) (a_en : Nat) (a_au : Nat) (a_he : Nat) (a_qu : Nat) (a_lo : Nat) (a_ow : Nat) (a_fl : Nat) (a_ti : Nat) (a_gd : Nat) (a_ak : Nat) (a_sp : Nat) (a_se : Nat) (a_sd : Nat) (a_rw : Nat) (a_sz : Nat) (a_op : Nat) (a_th : Nat) (a_me : Nat) (a_pk : Nat) (a_re : Nat) (a_dr : Nat) (tg : Int32) (rw : Nat → Int32) (hM : RepM rw Ls) (hbf : BF pk) (hkc : kc < 1048575) (hkq : kq ≤ 40) (sz : Nat) : Met l y_Model_work (w_Model_work) rm_Model_work (va_Pc [.ref h0] (xPre xNs D vwCl cI cZ [(h0, .inr (7, [.int tg, .ref a_st, .ref a_ck, .ref a_en, .ref a_au, .ref a_he, .ref a_qu, .ref a_lo, .ref a_ow, .ref a_fl, .ref a_ti, .ref a_gd, .ref a_ak, .ref a_sp, .ref a_se, .ref a_sd, .ref a_rw, .ref a_sz, .ref a_op, .ref a_th, .ref a_me, .ref a_pk, .int (nI kc), .int cm, .int su, .ref a_re, .int (nI kq), .ref a_dr])), (a_me, .inl (cI, 32, .inl me)), (a_pk, .inl (cI, 40, .inl pk)), (a_re, .inl (cI, 40, .inl re)), (a_th, .inl (cZ, 2, .inl th)), (a_rw, .inl (cI, 256, .inl rw)), (a_sz, .inl (cI, 4, .inl (szf Ls)))] sz)) (va_Qv (fun (u : (Nat → Int32) × (Nat → Int32) × Nat × Int32 × Int32 × (Nat → Int32) × Nat × (Nat → Int32) × (Nat → List Int32) × (Nat → Int32)) => (u.1, u.2.1, u.2.2.1, u.2.2.2.1, u.2.2.2.2.1, u.2.2.2.2.2.1, u.2.2.2.2.2.2.1, u.2.2.2.2.2.2.2.1, u.2.2.2.2.2.2.2.2.1) = s_Model_work me pk kc cm su re kq th Ls ∧ RepM u.2.2.2.2.2.2.2.2.2 u.2.2.2.2.2.2.2.2.1 ∧ u.2.2.2.2.2.2.1 ≤ 40) (fun u t9 => xAt D vwCl (va_A [(h0, .inr (7, [.int tg, .ref a_st, .ref a_ck, .ref a_en, .ref a_au, .ref a_he, .ref a_qu, .ref a_lo, .ref a_ow, .ref a_fl, .ref a_ti, .ref a_gd, .ref a_ak, .ref a_sp, .ref a_se, .ref a_sd, .ref a_rw, .ref a_sz, .ref a_op, .ref a_th, .ref a_me, .ref a_pk, .int (nI kc), .int cm, .int su, .ref a_re, .int (nI kq), .ref a_dr])), (a_me, .inl (cI, 32, .inl me)), (a_pk, .inl (cI, 40, .inl pk)), (a_re, .inl (cI, 40, .inl re)), (a_th, .inl (cZ, 2, .inl th)), (a_rw, .inl (cI, 256, .inl rw)), (a_sz, .inl (cI, 4, .inl (szf Ls)))] sz) [(h0, .inr (7, [.int tg, .ref a_st, .ref a_ck, .ref a_en, .ref a_au, .ref a_he, .ref a_qu, .ref a_lo, .ref a_ow, .ref a_fl, .ref a_ti, .ref a_gd, .ref a_ak, .ref a_sp, .ref a_se, .ref a_sd, .ref a_rw, .ref a_sz, .ref a_op, .ref a_th, .ref a_me, .ref a_pk, .int (nI u.2.2.1), .int u.2.2.2.1, .int u.2.2.2.2.1, .ref a_re, .int (nI u.2.2.2.2.2.2.1), .ref a_dr])), (a_me, .inl (cI, 32, .inl u.1)), (a_pk, .inl (cI, 40, .inl u.2.1)), (a_re, .inl (cI, 40, .inl u.2.2.2.2.2.1)), (a_th, .inl (cZ, 2, .inl u.2.2.2.2.2.2.2.1)), (a_rw, .inl (cI, 256, .inl u.2.2.2.2.2.2.2.2.2)), (a_sz, .inl (cI, 4, .inl (szf u.2.2.2.2.2.2.2.2.1)))] t9) (va_A [(h0, .inr (7, [.int tg, .ref a_st, .ref a_ck, .ref a_en, .ref a_au, .ref a_he, .ref a_qu, .ref a_lo, .ref a_ow, .ref a_fl, .ref a_ti, .ref a_gd, .ref a_ak, .ref a_sp, .ref a_se, .ref a_sd, .ref a_rw, .ref a_sz, .ref a_op, .ref a_th, .ref a_me, .ref a_pk, .int (nI kc), .int cm, .int su, .ref a_re, .int (nI kq), .ref a_dr])), (a_me, .inl (cI, 32, .inl me)), (a_pk, .inl (cI, 40, .inl pk)), (a_re, .inl (cI, 40, .inl re)), (a_th, .inl (cZ, 2, .inl th)), (a_rw, .inl (cI, 256, .inl rw)), (a_sz, .inl (cI, 4, .inl (szf Ls)))] sz)) 0 0 (va_A [(h0, .inr (7, [.int tg, .ref a_st, .ref a_ck, .ref a_en, .ref a_au, .ref a_he, .ref a_qu, .ref a_lo, .ref a_ow, .ref a_fl, .ref a_ti, .ref a_gd, .ref a_ak, .ref a_sp, .ref a_se, .ref a_sd, .ref a_rw, .ref a_sz, .ref a_op, .ref a_th, .ref a_me, .ref a_pk, .int (nI kc), .int cm, .int su, .ref a_re, .int (nI kq), .ref a_dr])), (a_me, .inl (cI, 32, .inl me)), (a_pk, .inl (cI, 40, .inl pk)), (a_re, .inl (cI, 40, .inl re)), (a_th, .inl (cZ, 2, .inl th)), (a_rw, .inl (cI, 256, .inl rw)), (a_sz, .inl (cI, 4, .inl (szf Ls)))] sz) := by
  refine xBody_v (S := (Nat → Int32) × (Nat → Int32) × Nat × Int32 × Int32 × (Nat → Int32) × Nat × (Nat → Int32) × (Nat → List Int32) × (Nat → Int32)) (cc := b_Model_work) (maxL := 2) (by decide) rfl (Nat.le_of_ble_eq_true rfl) ?_
  intro p e s m args below meth c A H ls Q hx hb hml hin hts hown hP hD hK hN hS hA hl hret
  replace hl : lv_has ls 2 [(0, .ref h0)] := hl
  have hin_Model : ∀ w ∈ u_ws R_Model F_Model 28, w ∈ (w_Model_work) := (fun w h => xm (lay_Model w h))
  have hq : s_Model_work me pk kc cm su re kq th Ls = (if (nI kq) = 0 then (if (nI ((Ls 3).length)) ≤ 0 then (s_Model_work_25 th me pk kc cm su re kq Ls) else (bnd2 (s_Model_remove Ls 3) (fun r8 Ls8 => bnd7 (s_Model_collect me pk kc cm su re kq r8) (fun me9 pk9 kc9 cm9 su9 re9 kq9 => s_Model_work_25 th me9 pk9 kc9 cm9 su9 re9 kq9 Ls8)))) else (s_Model_work_25 th me pk kc cm su re kq Ls)) := rfl
  have Cs_Model_work_25 : ∀ (me1 : Nat → Int32) (pk1 : Nat → Int32) (kc1 : Nat) (cm1 : Int32) (su1 : Int32) (re1 : Nat → Int32) (kq1 : Nat) (Ls1 : Nat → List Int32) (rw1 : Nat → Int32) (ls : Array Slot) (H : Heap) (locs : List Loc), (kq1 ≤ 40) → (RepM rw1 Ls1) → lv_has ls 2 [(0, .ref h0)] → va_P D vwCl [(h0, .inr (7, [.int tg, .ref a_st, .ref a_ck, .ref a_en, .ref a_au, .ref a_he, .ref a_qu, .ref a_lo, .ref a_ow, .ref a_fl, .ref a_ti, .ref a_gd, .ref a_ak, .ref a_sp, .ref a_se, .ref a_sd, .ref a_rw, .ref a_sz, .ref a_op, .ref a_th, .ref a_me, .ref a_pk, .int (nI kc1), .int cm1, .int su1, .ref a_re, .int (nI kq1), .ref a_dr])), (a_me, .inl (cI, 32, .inl me1)), (a_pk, .inl (cI, 40, .inl pk1)), (a_re, .inl (cI, 40, .inl re1)), (a_th, .inl (cZ, 2, .inl th)), (a_rw, .inl (cI, 256, .inl rw1)), (a_sz, .inl (cI, 4, .inl (szf Ls1)))] H → va_D A [(h0, .inr (7, [.int tg, .ref a_st, .ref a_ck, .ref a_en, .ref a_au, .ref a_he, .ref a_qu, .ref a_lo, .ref a_ow, .ref a_fl, .ref a_ti, .ref a_gd, .ref a_ak, .ref a_sp, .ref a_se, .ref a_sd, .ref a_rw, .ref a_sz, .ref a_op, .ref a_th, .ref a_me, .ref a_pk, .int (nI kc1), .int cm1, .int su1, .ref a_re, .int (nI kq1), .ref a_dr])), (a_me, .inl (cI, 32, .inl me1)), (a_pk, .inl (cI, 40, .inl pk1)), (a_re, .inl (cI, 40, .inl re1)), (a_th, .inl (cZ, 2, .inl th)), (a_rw, .inl (cI, 256, .inl rw1)), (a_sz, .inl (cI, 4, .inl (szf Ls1)))] → va_S A s.heap H locs → s_Model_work me pk kc cm su re kq th Ls = s_Model_work_25 th me1 pk1 kc1 cm1 su1 re1 kq1 Ls1 → W p l e rm_Model_work s m args below meth c H locs 0 0 Q (F0 m 25 ls []) := by
    intro me1 pk1 kc1 cm1 su1 re1 kq1 Ls1 rw1 ls H locs hk1 hM1 hl hP hD hS hq
    replace hq : s_Model_work me pk kc cm su re kq th Ls = (if (nI kq1) ≤ 0 then (me1, pk1, kc1, cm1, su1, re1, kq1, th, Ls1) else (if (64 - (nI ((Ls1 2).length))) < (nI kq1) then (me1, pk1, kc1, cm1, su1, re1, kq1, th, Ls1) else (lp_work me1 pk1 kc1 cm1 su1 re1 kq1 (kq1 - 0) 0 th Ls1))) := hq
    refine lv_aload_n hx hb d_Model_work_25 rfl (lv_at hl 0 rfl) ?_
    refine va_get (D := D) (ci := 7) (v := .int (nI kq1)) (C := R_Model) (T := F_Model) (N := 28) hx hb hts hin_Model hown hK hP 0 rfl rfl 26 (by decide) (hts _ (xm ww_559)) (fun _ h9 => h9) rfl d_Model_work_26 ?_
    refine lv_if_le (tgt := 80) hx hb d_Model_work_29 rfl (fun h1 => ?_) (fun h1 => ?_)
    · replace hq := hq.trans (if_pos h1)
      exact hret (me1, pk1, kc1, cm1, su1, re1, kq1, th, Ls1, rw1) ⟨hq.symm, hM1, hk1⟩ _ _ _ _ hP hD hS d_Model_work_80
    replace hq := hq.trans (if_neg h1)
    refine lv_aload_n hx hb d_Model_work_32 rfl (lv_at hl 0 rfl) ?_
    refine va_get (D := D) (ci := 7) (v := .int (nI kq1)) (C := R_Model) (T := F_Model) (N := 28) hx hb hts hin_Model hown hK hP 0 rfl rfl 26 (by decide) (hts _ (xm ww_559)) (fun _ h9 => h9) rfl d_Model_work_33 ?_
    refine lv_bipush (v := 64) hx hb d_Model_work_36 rfl ?_
    refine lv_aload_n hx hb d_Model_work_38 rfl (lv_at hl 0 rfl) ?_
    refine va_get (D := D) (ci := 7) (v := .ref a_sz) (C := R_Model) (T := F_Model) (N := 28) hx hb hts hin_Model hown hK hP 0 rfl rfl 17 (by decide) (hts _ (xm ww_550)) (fun _ h9 => h9) rfl d_Model_work_39 ?_
    refine lv_iconst (v := 2) hx hb d_Model_work_42 rfl ?_
    refine xiald (k := 2) hx hb hK hP 6 0 rfl rfl rfl (by decide) (by decide) d_Model_work_43 ?_
    refine xtop (y := nI ((Ls1 2).length)) rfl ?_
    refine lv_isub hx hb d_Model_work_44 ?_
    refine lv_icmp_gt (tgt := 80) hx hb d_Model_work_45 rfl (fun h2 => ?_) (fun h2 => ?_)
    · replace hq := hq.trans (if_pos h2)
      exact hret (me1, pk1, kc1, cm1, su1, re1, kq1, th, Ls1, rw1) ⟨hq.symm, hM1, hk1⟩ _ _ _ _ hP hD hS d_Model_work_80
    replace hq := hq.trans (if_neg h2)
    have hfit : kq1 + (Ls1 2).length ≤ 64 := fit64 hk1 (hM1 2 (by decide)).1 h2
    refine lv_iconst (v := 0) hx hb d_Model_work_48 rfl ?_
    refine lv_istore_n hx hb d_Model_work_49 rfl hl (by decide) rfl (fun ls hl => ?_)
    replace hl : lv_has ls 2 [(1, .int 0), (0, .ref h0)] := hl
    have LPlp_work : ∀ (nlp_work : Nat) (j : Nat) (th2 : Nat → Int32) (Ls2 : Nat → List Int32) (rw2 : Nat → Int32) (ls : Array Slot) (H : Heap) (locs : List Loc), (j ≤ kq1) → ((Ls2 2).length + (kq1 - j) ≤ 64) → (RepM rw2 Ls2) → kq1 - j ≤ nlp_work → lv_has ls 2 [(0, .ref h0), (1, .int (nI j))] → va_P D vwCl [(h0, .inr (7, [.int tg, .ref a_st, .ref a_ck, .ref a_en, .ref a_au, .ref a_he, .ref a_qu, .ref a_lo, .ref a_ow, .ref a_fl, .ref a_ti, .ref a_gd, .ref a_ak, .ref a_sp, .ref a_se, .ref a_sd, .ref a_rw, .ref a_sz, .ref a_op, .ref a_th, .ref a_me, .ref a_pk, .int (nI kc1), .int cm1, .int su1, .ref a_re, .int (nI kq1), .ref a_dr])), (a_me, .inl (cI, 32, .inl me1)), (a_pk, .inl (cI, 40, .inl pk1)), (a_re, .inl (cI, 40, .inl re1)), (a_th, .inl (cZ, 2, .inl th2)), (a_rw, .inl (cI, 256, .inl rw2)), (a_sz, .inl (cI, 4, .inl (szf Ls2)))] H → va_D A [(h0, .inr (7, [.int tg, .ref a_st, .ref a_ck, .ref a_en, .ref a_au, .ref a_he, .ref a_qu, .ref a_lo, .ref a_ow, .ref a_fl, .ref a_ti, .ref a_gd, .ref a_ak, .ref a_sp, .ref a_se, .ref a_sd, .ref a_rw, .ref a_sz, .ref a_op, .ref a_th, .ref a_me, .ref a_pk, .int (nI kc1), .int cm1, .int su1, .ref a_re, .int (nI kq1), .ref a_dr])), (a_me, .inl (cI, 32, .inl me1)), (a_pk, .inl (cI, 40, .inl pk1)), (a_re, .inl (cI, 40, .inl re1)), (a_th, .inl (cZ, 2, .inl th2)), (a_rw, .inl (cI, 256, .inl rw2)), (a_sz, .inl (cI, 4, .inl (szf Ls2)))] → va_S A s.heap H locs → s_Model_work me pk kc cm su re kq th Ls = lp_work me1 pk1 kc1 cm1 su1 re1 kq1 nlp_work j th2 Ls2 → W p l e rm_Model_work s m args below meth c H locs 0 0 Q (F0 m 50 ls []) := by
      intro nlp_work
      induction nlp_work with
      | zero =>
        intro j th2 Ls2 rw2 ls H locs hj hL2 hM2 hmlp_work hl hP hD hS hq
        replace hq : s_Model_work me pk kc cm su re kq th Ls = ((me1, pk1, kc1, cm1, su1, re1, 0, th2, Ls2)) := hq
        refine lv_iload_n hx hb d_Model_work_50 rfl (lv_at hl 1 rfl) ?_
        refine lv_aload_n hx hb d_Model_work_51 rfl (lv_at hl 0 rfl) ?_
        refine va_get (D := D) (ci := 7) (v := .int (nI kq1)) (C := R_Model) (T := F_Model) (N := 28) hx hb hts hin_Model hown hK hP 0 rfl rfl 26 (by decide) (hts _ (xm ww_559)) (fun _ h9 => h9) rfl d_Model_work_52 ?_
        refine lv_icmp_ge (tgt := 75) hx hb d_Model_work_55 rfl (fun h3 => ?_) (fun h3 => ?_)
        rotate_left
        · exact absurd (nI_le (by omega) (by omega)) h3
        refine lv_aload_n hx hb d_Model_work_75 rfl (lv_at hl 0 rfl) ?_
        refine lv_iconst (v := 0) hx hb d_Model_work_76 rfl ?_
        refine va_put (D := D) (ci := 7) (v := .int 0) (ty := (.int)) (C := R_Model) (T := F_Model) (N := 28) hx hb hts hin_Model t_Model t_Model_ok n_Model hown hK hP hD hS 0 rfl rfl 26 (by decide) (hts _ (xm ww_559)) (fun _ h9 => h9) rfl (by decide +kernel) rfl rfl (Nat.le_of_ble_eq_true rfl) d_Model_work_77 (fun H locs hP hD hS => ?_)
        replace hP : va_P D vwCl [(h0, .inr (7, [.int tg, .ref a_st, .ref a_ck, .ref a_en, .ref a_au, .ref a_he, .ref a_qu, .ref a_lo, .ref a_ow, .ref a_fl, .ref a_ti, .ref a_gd, .ref a_ak, .ref a_sp, .ref a_se, .ref a_sd, .ref a_rw, .ref a_sz, .ref a_op, .ref a_th, .ref a_me, .ref a_pk, .int (nI kc1), .int cm1, .int su1, .ref a_re, .int 0, .ref a_dr])), (a_me, .inl (cI, 32, .inl me1)), (a_pk, .inl (cI, 40, .inl pk1)), (a_re, .inl (cI, 40, .inl re1)), (a_th, .inl (cZ, 2, .inl th2)), (a_rw, .inl (cI, 256, .inl rw2)), (a_sz, .inl (cI, 4, .inl (szf Ls2)))] H := hP
        replace hD : va_D A [(h0, .inr (7, [.int tg, .ref a_st, .ref a_ck, .ref a_en, .ref a_au, .ref a_he, .ref a_qu, .ref a_lo, .ref a_ow, .ref a_fl, .ref a_ti, .ref a_gd, .ref a_ak, .ref a_sp, .ref a_se, .ref a_sd, .ref a_rw, .ref a_sz, .ref a_op, .ref a_th, .ref a_me, .ref a_pk, .int (nI kc1), .int cm1, .int su1, .ref a_re, .int 0, .ref a_dr])), (a_me, .inl (cI, 32, .inl me1)), (a_pk, .inl (cI, 40, .inl pk1)), (a_re, .inl (cI, 40, .inl re1)), (a_th, .inl (cZ, 2, .inl th2)), (a_rw, .inl (cI, 256, .inl rw2)), (a_sz, .inl (cI, 4, .inl (szf Ls2)))] := hD
        exact hret (me1, pk1, kc1, cm1, su1, re1, 0, th2, Ls2, rw2) ⟨hq.symm, hM2, (by first | omega | (dsimp only; omega))⟩ _ _ _ _ hP hD hS d_Model_work_80
      | succ nlp_work ihlp_work =>
        intro j th2 Ls2 rw2 ls H locs hj hL2 hM2 hmlp_work hl hP hD hS hq
        replace hq : s_Model_work me pk kc cm su re kq th Ls = (if (nI kq1) ≤ (nI j) then (me1, pk1, kc1, cm1, su1, re1, 0, th2, Ls2) else (bnd2 (s_Model_append th2 Ls2 1 (re1 j)) (fun th5 Ls5 => lp_work me1 pk1 kc1 cm1 su1 re1 kq1 nlp_work (j + 1) th5 Ls5))) := hq
        refine lv_iload_n hx hb d_Model_work_50 rfl (lv_at hl 1 rfl) ?_
        refine lv_aload_n hx hb d_Model_work_51 rfl (lv_at hl 0 rfl) ?_
        refine va_get (D := D) (ci := 7) (v := .int (nI kq1)) (C := R_Model) (T := F_Model) (N := 28) hx hb hts hin_Model hown hK hP 0 rfl rfl 26 (by decide) (hts _ (xm ww_559)) (fun _ h9 => h9) rfl d_Model_work_52 ?_
        refine lv_icmp_ge (tgt := 75) hx hb d_Model_work_55 rfl (fun h4 => ?_) (fun h4 => ?_)
        · replace hq := hq.trans (if_pos h4)
          refine lv_aload_n hx hb d_Model_work_75 rfl (lv_at hl 0 rfl) ?_
          refine lv_iconst (v := 0) hx hb d_Model_work_76 rfl ?_
          refine va_put (D := D) (ci := 7) (v := .int 0) (ty := (.int)) (C := R_Model) (T := F_Model) (N := 28) hx hb hts hin_Model t_Model t_Model_ok n_Model hown hK hP hD hS 0 rfl rfl 26 (by decide) (hts _ (xm ww_559)) (fun _ h9 => h9) rfl (by decide +kernel) rfl rfl (Nat.le_of_ble_eq_true rfl) d_Model_work_77 (fun H locs hP hD hS => ?_)
          replace hP : va_P D vwCl [(h0, .inr (7, [.int tg, .ref a_st, .ref a_ck, .ref a_en, .ref a_au, .ref a_he, .ref a_qu, .ref a_lo, .ref a_ow, .ref a_fl, .ref a_ti, .ref a_gd, .ref a_ak, .ref a_sp, .ref a_se, .ref a_sd, .ref a_rw, .ref a_sz, .ref a_op, .ref a_th, .ref a_me, .ref a_pk, .int (nI kc1), .int cm1, .int su1, .ref a_re, .int 0, .ref a_dr])), (a_me, .inl (cI, 32, .inl me1)), (a_pk, .inl (cI, 40, .inl pk1)), (a_re, .inl (cI, 40, .inl re1)), (a_th, .inl (cZ, 2, .inl th2)), (a_rw, .inl (cI, 256, .inl rw2)), (a_sz, .inl (cI, 4, .inl (szf Ls2)))] H := hP
          replace hD : va_D A [(h0, .inr (7, [.int tg, .ref a_st, .ref a_ck, .ref a_en, .ref a_au, .ref a_he, .ref a_qu, .ref a_lo, .ref a_ow, .ref a_fl, .ref a_ti, .ref a_gd, .ref a_ak, .ref a_sp, .ref a_se, .ref a_sd, .ref a_rw, .ref a_sz, .ref a_op, .ref a_th, .ref a_me, .ref a_pk, .int (nI kc1), .int cm1, .int su1, .ref a_re, .int 0, .ref a_dr])), (a_me, .inl (cI, 32, .inl me1)), (a_pk, .inl (cI, 40, .inl pk1)), (a_re, .inl (cI, 40, .inl re1)), (a_th, .inl (cZ, 2, .inl th2)), (a_rw, .inl (cI, 256, .inl rw2)), (a_sz, .inl (cI, 4, .inl (szf Ls2)))] := hD
          exact hret (me1, pk1, kc1, cm1, su1, re1, 0, th2, Ls2, rw2) ⟨hq.symm, hM2, (by first | omega | (dsimp only; omega))⟩ _ _ _ _ hP hD hS d_Model_work_80
        replace hq := hq.trans (if_neg h4)
        have hjl : j < kq1 := Nat.lt_of_not_le fun h9 => h4 (nI_le h9 (by omega))
        refine lv_aload_n hx hb d_Model_work_58 rfl (lv_at hl 0 rfl) ?_
        refine lv_iconst (v := 1) hx hb d_Model_work_59 rfl ?_
        refine lv_aload_n hx hb d_Model_work_60 rfl (lv_at hl 0 rfl) ?_
        refine va_get (D := D) (ci := 7) (v := .ref a_re) (C := R_Model) (T := F_Model) (N := 28) hx hb hts hin_Model hown hK hP 0 rfl rfl 25 (by decide) (hts _ (xm ww_558)) (fun _ h9 => h9) rfl d_Model_work_61 ?_
        refine lv_iload_n hx hb d_Model_work_64 rfl (lv_at hl 1 rfl) ?_
        refine xiald (k := j) hx hb hK hP 3 0 rfl rfl rfl (Nat.lt_of_lt_of_le hjl hk1) (by decide) d_Model_work_65 ?_
        refine xcall_v (wc := [(h0, .inr (7, [.int tg, .ref a_st, .ref a_ck, .ref a_en, .ref a_au, .ref a_he, .ref a_qu, .ref a_lo, .ref a_ow, .ref a_fl, .ref a_ti, .ref a_gd, .ref a_ak, .ref a_sp, .ref a_se, .ref a_sd, .ref a_rw, .ref a_sz, .ref a_op, .ref a_th, .ref a_me, .ref a_pk, .int (nI kc1), .int cm1, .int su1, .ref a_re, .int (nI kq1), .ref a_dr])), (a_th, .inl (cZ, 2, .inl th2)), (a_rw, .inl (cI, 256, .inl rw2)), (a_sz, .inl (cI, 4, .inl (szf Ls2)))]) (wr := [(a_me, .inl (cI, 32, .inl me1)), (a_pk, .inl (cI, 40, .inl pk1)), (a_re, .inl (cI, 40, .inl re1))]) (ws1 := fun (u : (Nat → Int32) × (Nat → List Int32) × (Nat → Int32)) => [(h0, .inr (7, [.int tg, .ref a_st, .ref a_ck, .ref a_en, .ref a_au, .ref a_he, .ref a_qu, .ref a_lo, .ref a_ow, .ref a_fl, .ref a_ti, .ref a_gd, .ref a_ak, .ref a_sp, .ref a_se, .ref a_sd, .ref a_rw, .ref a_sz, .ref a_op, .ref a_th, .ref a_me, .ref a_pk, .int (nI kc1), .int cm1, .int su1, .ref a_re, .int (nI kq1), .ref a_dr])), (a_me, .inl (cI, 32, .inl me1)), (a_pk, .inl (cI, 40, .inl pk1)), (a_re, .inl (cI, 40, .inl re1)), (a_th, .inl (cZ, 2, .inl u.1)), (a_rw, .inl (cI, 256, .inl u.2.2)), (a_sz, .inl (cI, 4, .inl (szf u.2.1)))]) (va_runV (As := [.int 1, .int (re1 j)]) (rest := []) ⟨hx, hb, hml, hown, hts⟩ (c_Model_append th2 Ls2 1 (re1 j) h0 a_st a_ck a_en a_au a_he a_qu a_lo a_ow a_fl a_ti a_gd a_ak a_sp a_se a_sd a_rw a_sz a_op a_th a_me a_pk a_re a_dr tg kc1 cm1 su1 kq1 rw2 hM2 (by omega) (fun _ => by show (Ls2 2).length < 64; omega) H.size) (xcwV 2 hts ww_713 ww_710 ww_712 ws_Model_append ww_8 (by decide +kernel) rfl rfl ⟨Nat.le_of_ble_eq_true rfl, Nat.le_of_ble_eq_true rfl⟩) (xPreV (ci := 7) (q0 := 0) (q := (R_Model, F_Model, 28)) (hP.sub [0, 4, 5, 6] rfl) (hD.sub [0, 4, 5, 6] (by decide) rfl) hK hN rfl rfl rfl) rfl rfl hl.1 rfl (lv_room (Nat.le_of_ble_eq_true rfl)) d_Model_work_66 ⟨Nat.le_of_ble_eq_true rfl, Nat.le_of_ble_eq_true rfl⟩) hP hD hS hA [0, 4, 5, 6] [1, 2, 3] [3, 0, 1, 2, 4, 5, 6] rfl rfl (by decide) (by decide) (by decide) (fun _ => rfl) (fun u5 H locs hw hP hD hS => ?_)
        obtain ⟨th5, Ls5, rw5⟩ := u5
        try dsimp only at hw
        obtain ⟨hw, hM_5⟩ := hw
        replace hP : va_P D vwCl [(h0, .inr (7, [.int tg, .ref a_st, .ref a_ck, .ref a_en, .ref a_au, .ref a_he, .ref a_qu, .ref a_lo, .ref a_ow, .ref a_fl, .ref a_ti, .ref a_gd, .ref a_ak, .ref a_sp, .ref a_se, .ref a_sd, .ref a_rw, .ref a_sz, .ref a_op, .ref a_th, .ref a_me, .ref a_pk, .int (nI kc1), .int cm1, .int su1, .ref a_re, .int (nI kq1), .ref a_dr])), (a_me, .inl (cI, 32, .inl me1)), (a_pk, .inl (cI, 40, .inl pk1)), (a_re, .inl (cI, 40, .inl re1)), (a_th, .inl (cZ, 2, .inl th5)), (a_rw, .inl (cI, 256, .inl rw5)), (a_sz, .inl (cI, 4, .inl (szf Ls5)))] H := hP
        replace hD : va_D A [(h0, .inr (7, [.int tg, .ref a_st, .ref a_ck, .ref a_en, .ref a_au, .ref a_he, .ref a_qu, .ref a_lo, .ref a_ow, .ref a_fl, .ref a_ti, .ref a_gd, .ref a_ak, .ref a_sp, .ref a_se, .ref a_sd, .ref a_rw, .ref a_sz, .ref a_op, .ref a_th, .ref a_me, .ref a_pk, .int (nI kc1), .int cm1, .int su1, .ref a_re, .int (nI kq1), .ref a_dr])), (a_me, .inl (cI, 32, .inl me1)), (a_pk, .inl (cI, 40, .inl pk1)), (a_re, .inl (cI, 40, .inl re1)), (a_th, .inl (cZ, 2, .inl th5)), (a_rw, .inl (cI, 256, .inl rw5)), (a_sz, .inl (cI, 4, .inl (szf Ls5)))] := hD
        have hw_5 := hw
        replace hq := hq.trans (bnd2_eq hw)
        try dsimp only at hq
        refine lv_iinc (k := 1) (v := nI (j + 1)) hx hb d_Model_work_69 hl rfl (nI_1 j) (by decide) rfl (fun ls hl => ?_)
        replace hl : lv_has ls 2 [(1, .int (nI (j + 1))), (0, .ref h0)] := hl
        refine lv_goto (tgt := 50) hx hb d_Model_work_72 rfl ?_
        exact ihlp_work (j + 1) th5 Ls5 rw5 _ _ _ (Nat.lt_of_not_le fun h9 => h4 (nI_le h9 (by omega))) (by have h9 := append_len hw_5 2; omega) hM_5 (by omega) (lv_sub hl [1, 0] rfl) hP hD hS hq
    exact LPlp_work (kq1 - 0) 0 th Ls1 rw1 _ _ _ (by omega) (by omega) hM1 (Nat.le_refl _) (lv_sub hl [1, 0] rfl) hP hD hS hq
  refine lv_aload_n hx hb d_Model_work_0 rfl (lv_at hl 0 rfl) ?_
  refine va_get (D := D) (ci := 7) (v := .int (nI kq)) (C := R_Model) (T := F_Model) (N := 28) hx hb hts hin_Model hown hK hP 0 rfl rfl 26 (by decide) (hts _ (xm ww_559)) (fun _ h9 => h9) rfl d_Model_work_1 ?_
  refine lv_if_ne (tgt := 25) hx hb d_Model_work_4 rfl (fun h6 => ?_) (fun h6 => ?_)
  · replace hq := hq.trans (if_neg h6)
    exact Cs_Model_work_25 me pk kc cm su re kq Ls rw _ _ _ hkq hM (lv_sub hl [0] rfl) hP hD hS hq
  replace hq := hq.trans (if_pos h6)
  refine lv_aload_n hx hb d_Model_work_7 rfl (lv_at hl 0 rfl) ?_
  refine va_get (D := D) (ci := 7) (v := .ref a_sz) (C := R_Model) (T := F_Model) (N := 28) hx hb hts hin_Model hown hK hP 0 rfl rfl 17 (by decide) (hts _ (xm ww_550)) (fun _ h9 => h9) rfl d_Model_work_8 ?_
  refine lv_iconst (v := 3) hx hb d_Model_work_11 rfl ?_
  refine xiald (k := 3) hx hb hK hP 6 0 rfl rfl rfl (by decide) (by decide) d_Model_work_12 ?_
  refine xtop (y := nI ((Ls 3).length)) rfl ?_
  refine lv_if_le (tgt := 25) hx hb d_Model_work_13 rfl (fun h7 => ?_) (fun h7 => ?_)
  · replace hq := hq.trans (if_pos h7)
    exact Cs_Model_work_25 me pk kc cm su re kq Ls rw _ _ _ hkq hM (lv_sub hl [0] rfl) hP hD hS hq
  replace hq := hq.trans (if_neg h7)
  refine lv_aload_n hx hb d_Model_work_16 rfl (lv_at hl 0 rfl) ?_
  refine lv_aload_n hx hb d_Model_work_17 rfl (lv_at hl 0 rfl) ?_
  refine lv_iconst (v := 3) hx hb d_Model_work_18 rfl ?_
  refine xcall_i (wc := [(h0, .inr (7, [.int tg, .ref a_st, .ref a_ck, .ref a_en, .ref a_au, .ref a_he, .ref a_qu, .ref a_lo, .ref a_ow, .ref a_fl, .ref a_ti, .ref a_gd, .ref a_ak, .ref a_sp, .ref a_se, .ref a_sd, .ref a_rw, .ref a_sz, .ref a_op, .ref a_th, .ref a_me, .ref a_pk, .int (nI kc), .int cm, .int su, .ref a_re, .int (nI kq), .ref a_dr])), (a_rw, .inl (cI, 256, .inl rw)), (a_sz, .inl (cI, 4, .inl (szf Ls)))]) (wr := [(a_me, .inl (cI, 32, .inl me)), (a_pk, .inl (cI, 40, .inl pk)), (a_re, .inl (cI, 40, .inl re)), (a_th, .inl (cZ, 2, .inl th))]) (ws1 := fun (u : (Nat → List Int32) × (Nat → Int32)) => [(h0, .inr (7, [.int tg, .ref a_st, .ref a_ck, .ref a_en, .ref a_au, .ref a_he, .ref a_qu, .ref a_lo, .ref a_ow, .ref a_fl, .ref a_ti, .ref a_gd, .ref a_ak, .ref a_sp, .ref a_se, .ref a_sd, .ref a_rw, .ref a_sz, .ref a_op, .ref a_th, .ref a_me, .ref a_pk, .int (nI kc), .int cm, .int su, .ref a_re, .int (nI kq), .ref a_dr])), (a_me, .inl (cI, 32, .inl me)), (a_pk, .inl (cI, 40, .inl pk)), (a_re, .inl (cI, 40, .inl re)), (a_th, .inl (cZ, 2, .inl th)), (a_rw, .inl (cI, 256, .inl u.2)), (a_sz, .inl (cI, 4, .inl (szf u.1)))]) (va_runV (As := [.int 3]) (rest := [.ref h0]) ⟨hx, hb, hml, hown, hts⟩ (c_Model_remove Ls 3 h0 a_st a_ck a_en a_au a_he a_qu a_lo a_ow a_fl a_ti a_gd a_ak a_sp a_se a_sd a_rw a_sz a_op a_th a_me a_pk a_re a_dr tg kc cm su kq rw hM (by omega) (Nat.pos_of_ne_zero fun h9 => h7 (by rw [h9]; decide)) H.size) (xcwV 1 hts ww_646 ww_643 ww_645 ws_Model_remove ww_8 (by decide +kernel) rfl rfl ⟨Nat.le_of_ble_eq_true rfl, Nat.le_of_ble_eq_true rfl⟩) (xPreV (ci := 7) (q0 := 0) (q := (R_Model, F_Model, 28)) (hP.sub [0, 5, 6] rfl) (hD.sub [0, 5, 6] (by decide) rfl) hK hN rfl rfl rfl) rfl rfl hl.1 rfl (lv_room (Nat.le_of_ble_eq_true rfl)) d_Model_work_19 ⟨Nat.le_of_ble_eq_true rfl, Nat.le_of_ble_eq_true rfl⟩) hP hD hS hA [0, 5, 6] [1, 2, 3, 4] [4, 0, 1, 2, 3, 5, 6] rfl rfl (by decide) (by decide) (by decide) (fun _ => rfl) (fun r8 u8 H locs hw hP hD hS => ?_)
  obtain ⟨Ls8, rw8⟩ := u8
  try dsimp only at hw
  obtain ⟨hw, hM_8⟩ := hw
  replace hP : va_P D vwCl [(h0, .inr (7, [.int tg, .ref a_st, .ref a_ck, .ref a_en, .ref a_au, .ref a_he, .ref a_qu, .ref a_lo, .ref a_ow, .ref a_fl, .ref a_ti, .ref a_gd, .ref a_ak, .ref a_sp, .ref a_se, .ref a_sd, .ref a_rw, .ref a_sz, .ref a_op, .ref a_th, .ref a_me, .ref a_pk, .int (nI kc), .int cm, .int su, .ref a_re, .int (nI kq), .ref a_dr])), (a_me, .inl (cI, 32, .inl me)), (a_pk, .inl (cI, 40, .inl pk)), (a_re, .inl (cI, 40, .inl re)), (a_th, .inl (cZ, 2, .inl th)), (a_rw, .inl (cI, 256, .inl rw8)), (a_sz, .inl (cI, 4, .inl (szf Ls8)))] H := hP
  replace hD : va_D A [(h0, .inr (7, [.int tg, .ref a_st, .ref a_ck, .ref a_en, .ref a_au, .ref a_he, .ref a_qu, .ref a_lo, .ref a_ow, .ref a_fl, .ref a_ti, .ref a_gd, .ref a_ak, .ref a_sp, .ref a_se, .ref a_sd, .ref a_rw, .ref a_sz, .ref a_op, .ref a_th, .ref a_me, .ref a_pk, .int (nI kc), .int cm, .int su, .ref a_re, .int (nI kq), .ref a_dr])), (a_me, .inl (cI, 32, .inl me)), (a_pk, .inl (cI, 40, .inl pk)), (a_re, .inl (cI, 40, .inl re)), (a_th, .inl (cZ, 2, .inl th)), (a_rw, .inl (cI, 256, .inl rw8)), (a_sz, .inl (cI, 4, .inl (szf Ls8)))] := hD
  have hw_8 := hw
  replace hq := hq.trans (bnd2_eq hw)
  try dsimp only at hq
  refine xcall_v (wc := [(h0, .inr (7, [.int tg, .ref a_st, .ref a_ck, .ref a_en, .ref a_au, .ref a_he, .ref a_qu, .ref a_lo, .ref a_ow, .ref a_fl, .ref a_ti, .ref a_gd, .ref a_ak, .ref a_sp, .ref a_se, .ref a_sd, .ref a_rw, .ref a_sz, .ref a_op, .ref a_th, .ref a_me, .ref a_pk, .int (nI kc), .int cm, .int su, .ref a_re, .int (nI kq), .ref a_dr])), (a_me, .inl (cI, 32, .inl me)), (a_pk, .inl (cI, 40, .inl pk)), (a_re, .inl (cI, 40, .inl re))]) (wr := [(a_th, .inl (cZ, 2, .inl th)), (a_rw, .inl (cI, 256, .inl rw8)), (a_sz, .inl (cI, 4, .inl (szf Ls8)))]) (ws1 := fun (u : (Nat → Int32) × (Nat → Int32) × Nat × Int32 × Int32 × (Nat → Int32) × Nat) => [(h0, .inr (7, [.int tg, .ref a_st, .ref a_ck, .ref a_en, .ref a_au, .ref a_he, .ref a_qu, .ref a_lo, .ref a_ow, .ref a_fl, .ref a_ti, .ref a_gd, .ref a_ak, .ref a_sp, .ref a_se, .ref a_sd, .ref a_rw, .ref a_sz, .ref a_op, .ref a_th, .ref a_me, .ref a_pk, .int (nI u.2.2.1), .int u.2.2.2.1, .int u.2.2.2.2.1, .ref a_re, .int (nI u.2.2.2.2.2.2), .ref a_dr])), (a_me, .inl (cI, 32, .inl u.1)), (a_pk, .inl (cI, 40, .inl u.2.1)), (a_re, .inl (cI, 40, .inl u.2.2.2.2.2.1)), (a_th, .inl (cZ, 2, .inl th)), (a_rw, .inl (cI, 256, .inl rw8)), (a_sz, .inl (cI, 4, .inl (szf Ls8)))]) (va_runV (As := [.int r8]) (rest := []) ⟨hx, hb, hml, hown, hts⟩ (c_Model_collect me pk kc cm su re kq r8 h0 a_st a_ck a_en a_au a_he a_qu a_lo a_ow a_fl a_ti a_gd a_ak a_sp a_se a_sd a_rw a_sz a_op a_th a_me a_pk a_re a_dr tg hbf hkc ((nI_eq (b := 0) (by omega) (by decide)).mp h6) H.size) (xcwV 1 hts ww_666 ww_663 ww_665 ws_Model_collect ww_8 (by decide +kernel) rfl rfl ⟨Nat.le_of_ble_eq_true rfl, Nat.le_of_ble_eq_true rfl⟩) (xPreV (ci := 7) (q0 := 0) (q := (R_Model, F_Model, 28)) (hP.sub [0, 1, 2, 3] rfl) (hD.sub [0, 1, 2, 3] (by decide) rfl) hK hN rfl rfl rfl) rfl rfl hl.1 rfl (lv_room (Nat.le_of_ble_eq_true rfl)) d_Model_work_22 ⟨Nat.le_of_ble_eq_true rfl, Nat.le_of_ble_eq_true rfl⟩) hP hD hS hA [0, 1, 2, 3] [4, 5, 6] [3, 4, 5, 6, 0, 1, 2] rfl rfl (by decide) (by decide) (by decide) (fun _ => rfl) (fun u9 H locs hw hP hD hS => ?_)
  obtain ⟨me9, pk9, kc9, cm9, su9, re9, kq9⟩ := u9
  try dsimp only at hw
  obtain ⟨hw, hkq_9⟩ := hw
  replace hP : va_P D vwCl [(h0, .inr (7, [.int tg, .ref a_st, .ref a_ck, .ref a_en, .ref a_au, .ref a_he, .ref a_qu, .ref a_lo, .ref a_ow, .ref a_fl, .ref a_ti, .ref a_gd, .ref a_ak, .ref a_sp, .ref a_se, .ref a_sd, .ref a_rw, .ref a_sz, .ref a_op, .ref a_th, .ref a_me, .ref a_pk, .int (nI kc9), .int cm9, .int su9, .ref a_re, .int (nI kq9), .ref a_dr])), (a_me, .inl (cI, 32, .inl me9)), (a_pk, .inl (cI, 40, .inl pk9)), (a_re, .inl (cI, 40, .inl re9)), (a_th, .inl (cZ, 2, .inl th)), (a_rw, .inl (cI, 256, .inl rw8)), (a_sz, .inl (cI, 4, .inl (szf Ls8)))] H := hP
  replace hD : va_D A [(h0, .inr (7, [.int tg, .ref a_st, .ref a_ck, .ref a_en, .ref a_au, .ref a_he, .ref a_qu, .ref a_lo, .ref a_ow, .ref a_fl, .ref a_ti, .ref a_gd, .ref a_ak, .ref a_sp, .ref a_se, .ref a_sd, .ref a_rw, .ref a_sz, .ref a_op, .ref a_th, .ref a_me, .ref a_pk, .int (nI kc9), .int cm9, .int su9, .ref a_re, .int (nI kq9), .ref a_dr])), (a_me, .inl (cI, 32, .inl me9)), (a_pk, .inl (cI, 40, .inl pk9)), (a_re, .inl (cI, 40, .inl re9)), (a_th, .inl (cZ, 2, .inl th)), (a_rw, .inl (cI, 256, .inl rw8)), (a_sz, .inl (cI, 4, .inl (szf Ls8)))] := hD
  have hw_9 := hw
  replace hq := hq.trans (bnd7_eq hw)
  try dsimp only at hq
  exact Cs_Model_work_25 me9 pk9 kc9 cm9 su9 re9 kq9 Ls8 rw8 _ _ _ hkq_9 hM_8 (lv_sub hl [0] rfl) hP hD hS hq

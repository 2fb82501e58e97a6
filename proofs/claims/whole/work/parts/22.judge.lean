theorem d_Model_judge_0 : decode b_Model_judge 0 = .ok (.aload_n 0, 1) := by decide +kernel
theorem d_Model_judge_1 : decode b_Model_judge 1 = .ok (.getfield 71, 3) := by decide +kernel
theorem d_Model_judge_4 : decode b_Model_judge 4 = .ok (.bipush 7, 2) := by decide +kernel
theorem d_Model_judge_6 : decode b_Model_judge 6 = .ok (.iaload, 1) := by decide +kernel
theorem d_Model_judge_7 : decode b_Model_judge 7 = .ok (.istore_n 1, 1) := by decide +kernel
theorem d_Model_judge_8 : decode b_Model_judge 8 = .ok (.aload_n 0, 1) := by decide +kernel
theorem d_Model_judge_9 : decode b_Model_judge 9 = .ok (.bipush 32, 2) := by decide +kernel
theorem d_Model_judge_11 : decode b_Model_judge 11 = .ok (.invokevirtual 133, 3) := by decide +kernel
theorem d_Model_judge_14 : decode b_Model_judge 14 = .ok (.istore_n 2, 1) := by decide +kernel
theorem d_Model_judge_15 : decode b_Model_judge 15 = .ok (.iload_n 2, 1) := by decide +kernel
theorem d_Model_judge_16 : decode b_Model_judge 16 = .ok (.ifCond .ne 16, 3) := by decide +kernel
theorem d_Model_judge_19 : decode b_Model_judge 19 = .ok (.aload_n 0, 1) := by decide +kernel
theorem d_Model_judge_20 : decode b_Model_judge 20 = .ok (.bipush 16, 2) := by decide +kernel
theorem d_Model_judge_22 : decode b_Model_judge 22 = .ok (.invokevirtual 133, 3) := by decide +kernel
theorem d_Model_judge_25 : decode b_Model_judge 25 = .ok (.ifCond .eq 7, 3) := by decide +kernel
theorem d_Model_judge_28 : decode b_Model_judge 28 = .ok (.iconst 1, 1) := by decide +kernel
theorem d_Model_judge_29 : decode b_Model_judge 29 = .ok (.goto 4, 3) := by decide +kernel
theorem d_Model_judge_32 : decode b_Model_judge 32 = .ok (.iconst 0, 1) := by decide +kernel
theorem d_Model_judge_33 : decode b_Model_judge 33 = .ok (.istore_n 3, 1) := by decide +kernel
theorem d_Model_judge_34 : decode b_Model_judge 34 = .ok (.aload_n 0, 1) := by decide +kernel
theorem d_Model_judge_35 : decode b_Model_judge 35 = .ok (.bipush 64, 2) := by decide +kernel
theorem d_Model_judge_37 : decode b_Model_judge 37 = .ok (.invokevirtual 133, 3) := by decide +kernel
theorem d_Model_judge_40 : decode b_Model_judge 40 = .ok (.ifCond .eq 58, 3) := by decide +kernel
theorem d_Model_judge_43 : decode b_Model_judge 43 = .ok (.aload_n 0, 1) := by decide +kernel
theorem d_Model_judge_44 : decode b_Model_judge 44 = .ok (.sipush 128, 3) := by decide +kernel
theorem d_Model_judge_47 : decode b_Model_judge 47 = .ok (.invokevirtual 133, 3) := by decide +kernel
theorem d_Model_judge_50 : decode b_Model_judge 50 = .ok (.ifCond .ne 48, 3) := by decide +kernel
theorem d_Model_judge_53 : decode b_Model_judge 53 = .ok (.aload_n 0, 1) := by decide +kernel
theorem d_Model_judge_54 : decode b_Model_judge 54 = .ok (.iconst 2, 1) := by decide +kernel
theorem d_Model_judge_55 : decode b_Model_judge 55 = .ok (.invokevirtual 133, 3) := by decide +kernel
theorem d_Model_judge_58 : decode b_Model_judge 58 = .ok (.ifCond .ne 40, 3) := by decide +kernel
theorem d_Model_judge_61 : decode b_Model_judge 61 = .ok (.aload_n 0, 1) := by decide +kernel
theorem d_Model_judge_62 : decode b_Model_judge 62 = .ok (.iconst 1, 1) := by decide +kernel
theorem d_Model_judge_63 : decode b_Model_judge 63 = .ok (.invokevirtual 133, 3) := by decide +kernel
theorem d_Model_judge_66 : decode b_Model_judge 66 = .ok (.ifCond .ne 32, 3) := by decide +kernel
theorem d_Model_judge_69 : decode b_Model_judge 69 = .ok (.iload_n 2, 1) := by decide +kernel
theorem d_Model_judge_70 : decode b_Model_judge 70 = .ok (.ifCond .ne 24, 3) := by decide +kernel
theorem d_Model_judge_73 : decode b_Model_judge 73 = .ok (.aload_n 0, 1) := by decide +kernel
theorem d_Model_judge_74 : decode b_Model_judge 74 = .ok (.bipush 8, 2) := by decide +kernel
theorem d_Model_judge_76 : decode b_Model_judge 76 = .ok (.invokevirtual 133, 3) := by decide +kernel
theorem d_Model_judge_79 : decode b_Model_judge 79 = .ok (.ifCond .eq 19, 3) := by decide +kernel
theorem d_Model_judge_82 : decode b_Model_judge 82 = .ok (.iload_n 3, 1) := by decide +kernel
theorem d_Model_judge_83 : decode b_Model_judge 83 = .ok (.ifCond .eq 11, 3) := by decide +kernel
theorem d_Model_judge_86 : decode b_Model_judge 86 = .ok (.aload_n 0, 1) := by decide +kernel
theorem d_Model_judge_87 : decode b_Model_judge 87 = .ok (.iconst 4, 1) := by decide +kernel
theorem d_Model_judge_88 : decode b_Model_judge 88 = .ok (.invokevirtual 133, 3) := by decide +kernel
theorem d_Model_judge_91 : decode b_Model_judge 91 = .ok (.ifCond .eq 7, 3) := by decide +kernel
theorem d_Model_judge_94 : decode b_Model_judge 94 = .ok (.iconst 1, 1) := by decide +kernel
theorem d_Model_judge_95 : decode b_Model_judge 95 = .ok (.goto 4, 3) := by decide +kernel
theorem d_Model_judge_98 : decode b_Model_judge 98 = .ok (.iconst 0, 1) := by decide +kernel
theorem d_Model_judge_99 : decode b_Model_judge 99 = .ok (.istore 4, 2) := by decide +kernel
theorem d_Model_judge_101 : decode b_Model_judge 101 = .ok (.iload 4, 2) := by decide +kernel
theorem d_Model_judge_103 : decode b_Model_judge 103 = .ok (.ifCond .ne 5, 3) := by decide +kernel
theorem d_Model_judge_106 : decode b_Model_judge 106 = .ok (.iconst 2, 1) := by decide +kernel
theorem d_Model_judge_107 : decode b_Model_judge 107 = .ok (.ireturn, 1) := by decide +kernel
theorem d_Model_judge_108 : decode b_Model_judge 108 = .ok (.aload_n 0, 1) := by decide +kernel
theorem d_Model_judge_109 : decode b_Model_judge 109 = .ok (.getfield 71, 3) := by decide +kernel
theorem d_Model_judge_112 : decode b_Model_judge 112 = .ok (.iconst 3, 1) := by decide +kernel
theorem d_Model_judge_113 : decode b_Model_judge 113 = .ok (.iaload, 1) := by decide +kernel
theorem d_Model_judge_114 : decode b_Model_judge 114 = .ok (.bipush 32, 2) := by decide +kernel
theorem d_Model_judge_116 : decode b_Model_judge 116 = .ok (.if_icmp .eq 5, 3) := by decide +kernel
theorem d_Model_judge_119 : decode b_Model_judge 119 = .ok (.iconst 3, 1) := by decide +kernel
theorem d_Model_judge_120 : decode b_Model_judge 120 = .ok (.ireturn, 1) := by decide +kernel
theorem d_Model_judge_121 : decode b_Model_judge 121 = .ok (.iload_n 1, 1) := by decide +kernel
theorem d_Model_judge_122 : decode b_Model_judge 122 = .ok (.bipush 16, 2) := by decide +kernel
theorem d_Model_judge_124 : decode b_Model_judge 124 = .ok (.if_icmp .gt 24, 3) := by decide +kernel
theorem d_Model_judge_127 : decode b_Model_judge 127 = .ok (.iload_n 3, 1) := by decide +kernel
theorem d_Model_judge_128 : decode b_Model_judge 128 = .ok (.ifCond .eq 23, 3) := by decide +kernel
theorem d_Model_judge_131 : decode b_Model_judge 131 = .ok (.iload_n 1, 1) := by decide +kernel
theorem d_Model_judge_132 : decode b_Model_judge 132 = .ok (.ifCond .eq 16, 3) := by decide +kernel
theorem d_Model_judge_135 : decode b_Model_judge 135 = .ok (.iload_n 1, 1) := by decide +kernel
theorem d_Model_judge_136 : decode b_Model_judge 136 = .ok (.bipush 8, 2) := by decide +kernel
theorem d_Model_judge_138 : decode b_Model_judge 138 = .ok (.if_icmp .gt 10, 3) := by decide +kernel
theorem d_Model_judge_141 : decode b_Model_judge 141 = .ok (.iload_n 1, 1) := by decide +kernel
theorem d_Model_judge_142 : decode b_Model_judge 142 = .ok (.iconst 2, 1) := by decide +kernel
theorem d_Model_judge_143 : decode b_Model_judge 143 = .ok (.irem, 1) := by decide +kernel
theorem d_Model_judge_144 : decode b_Model_judge 144 = .ok (.iconst 1, 1) := by decide +kernel
theorem d_Model_judge_145 : decode b_Model_judge 145 = .ok (.if_icmp .ne 6, 3) := by decide +kernel
theorem d_Model_judge_148 : decode b_Model_judge 148 = .ok (.bipush 11, 2) := by decide +kernel
theorem d_Model_judge_150 : decode b_Model_judge 150 = .ok (.ireturn, 1) := by decide +kernel
theorem d_Model_judge_151 : decode b_Model_judge 151 = .ok (.iload_n 3, 1) := by decide +kernel
theorem d_Model_judge_152 : decode b_Model_judge 152 = .ok (.ifCond .eq 9, 3) := by decide +kernel
theorem d_Model_judge_155 : decode b_Model_judge 155 = .ok (.iload_n 1, 1) := by decide +kernel
theorem d_Model_judge_156 : decode b_Model_judge 156 = .ok (.iconst 2, 1) := by decide +kernel
theorem d_Model_judge_157 : decode b_Model_judge 157 = .ok (.idiv, 1) := by decide +kernel
theorem d_Model_judge_158 : decode b_Model_judge 158 = .ok (.goto 4, 3) := by decide +kernel
theorem d_Model_judge_161 : decode b_Model_judge 161 = .ok (.iload_n 1, 1) := by decide +kernel
theorem d_Model_judge_162 : decode b_Model_judge 162 = .ok (.istore 5, 2) := by decide +kernel
theorem d_Model_judge_164 : decode b_Model_judge 164 = .ok (.aload_n 0, 1) := by decide +kernel
theorem d_Model_judge_165 : decode b_Model_judge 165 = .ok (.iconst 4, 1) := by decide +kernel
theorem d_Model_judge_166 : decode b_Model_judge 166 = .ok (.invokevirtual 133, 3) := by decide +kernel
theorem d_Model_judge_169 : decode b_Model_judge 169 = .ok (.ifCond .eq 23, 3) := by decide +kernel
theorem d_Model_judge_172 : decode b_Model_judge 172 = .ok (.iload 5, 2) := by decide +kernel
theorem d_Model_judge_174 : decode b_Model_judge 174 = .ok (.ifCond .le 18, 3) := by decide +kernel
theorem d_Model_judge_177 : decode b_Model_judge 177 = .ok (.aload_n 0, 1) := by decide +kernel
theorem d_Model_judge_178 : decode b_Model_judge 178 = .ok (.getfield 71, 3) := by decide +kernel
theorem d_Model_judge_181 : decode b_Model_judge 181 = .ok (.bipush 6, 2) := by decide +kernel
theorem d_Model_judge_183 : decode b_Model_judge 183 = .ok (.iaload, 1) := by decide +kernel
theorem d_Model_judge_184 : decode b_Model_judge 184 = .ok (.iload 5, 2) := by decide +kernel
theorem d_Model_judge_186 : decode b_Model_judge 186 = .ok (.iadd, 1) := by decide +kernel
theorem d_Model_judge_187 : decode b_Model_judge 187 = .ok (.iconst 1, 1) := by decide +kernel
theorem d_Model_judge_188 : decode b_Model_judge 188 = .ok (.isub, 1) := by decide +kernel
theorem d_Model_judge_189 : decode b_Model_judge 189 = .ok (.goto 10, 3) := by decide +kernel
theorem d_Model_judge_192 : decode b_Model_judge 192 = .ok (.aload_n 0, 1) := by decide +kernel
theorem d_Model_judge_193 : decode b_Model_judge 193 = .ok (.getfield 71, 3) := by decide +kernel
theorem d_Model_judge_196 : decode b_Model_judge 196 = .ok (.bipush 6, 2) := by decide +kernel
theorem d_Model_judge_198 : decode b_Model_judge 198 = .ok (.iaload, 1) := by decide +kernel
theorem d_Model_judge_199 : decode b_Model_judge 199 = .ok (.istore 6, 2) := by decide +kernel
theorem d_Model_judge_201 : decode b_Model_judge 201 = .ok (.iload 6, 2) := by decide +kernel
theorem d_Model_judge_203 : decode b_Model_judge 203 = .ok (.bipush 31, 2) := by decide +kernel
theorem d_Model_judge_205 : decode b_Model_judge 205 = .ok (.if_icmp .le 6, 3) := by decide +kernel
theorem d_Model_judge_208 : decode b_Model_judge 208 = .ok (.bipush 10, 2) := by decide +kernel
theorem d_Model_judge_210 : decode b_Model_judge 210 = .ok (.ireturn, 1) := by decide +kernel
theorem d_Model_judge_211 : decode b_Model_judge 211 = .ok (.iload_n 2, 1) := by decide +kernel
theorem d_Model_judge_212 : decode b_Model_judge 212 = .ok (.ifCond .ne 7, 3) := by decide +kernel
theorem d_Model_judge_215 : decode b_Model_judge 215 = .ok (.iload_n 3, 1) := by decide +kernel
theorem d_Model_judge_216 : decode b_Model_judge 216 = .ok (.ifCond .eq 11, 3) := by decide +kernel
theorem d_Model_judge_219 : decode b_Model_judge 219 = .ok (.aload_n 0, 1) := by decide +kernel
theorem d_Model_judge_220 : decode b_Model_judge 220 = .ok (.iload_n 1, 1) := by decide +kernel
theorem d_Model_judge_221 : decode b_Model_judge 221 = .ok (.invokevirtual 136, 3) := by decide +kernel
theorem d_Model_judge_224 : decode b_Model_judge 224 = .ok (.goto 4, 3) := by decide +kernel
theorem d_Model_judge_227 : decode b_Model_judge 227 = .ok (.iconst 0, 1) := by decide +kernel
theorem d_Model_judge_228 : decode b_Model_judge 228 = .ok (.ireturn, 1) := by decide +kernel
def s_Model_judge_151 (pk : Nat → Int32) (kc : Nat) (ln : Nat) (y3 : Int32) : Int32 := bnd (α := Int32) (if y3 = 0 then (nI ln) else ((nI ln) / 2)) (fun y10 => bnd (α := Int32) (if (s_Model_has pk 4) = 0 then (pk 6) else (if y10 ≤ 0 then (pk 6) else (((pk 6) + y10) - 1))) (fun y13 => if y13 ≤ 31 then (bnd (α := Int32) (if (s_Model_has pk 32) = 0 then (if y3 = 0 then (0) else (s_Model_dataStatus pk kc ln)) else (s_Model_dataStatus pk kc ln)) (fun y16 => y16)) else (10)))
def s_Model_judge (pk : Nat → Int32) (kc : Nat) : Int32 := bnd ((pk 7).toNatClampNeg) (fun ln => bnd (α := Int32) (if (s_Model_has pk 32) = 0 then (if (s_Model_has pk 16) = 0 then (0) else (1)) else (0)) (fun y3 => bnd (α := Int32) (if (s_Model_has pk 64) = 0 then (0) else (if (s_Model_has pk 128) = 0 then (if (s_Model_has pk 2) = 0 then (if (s_Model_has pk 1) = 0 then (if (s_Model_has pk 32) = 0 then (if (s_Model_has pk 8) = 0 then (0) else (if y3 = 0 then (1) else (if (s_Model_has pk 4) = 0 then (0) else (1)))) else (1)) else (0)) else (0)) else (0))) (fun y6 => if y6 = 0 then (2) else (if (pk 3) = 32 then (if 16 < (nI ln) then (11) else (if y3 = 0 then (s_Model_judge_151 pk kc ln y3) else (if (nI ln) = 0 then (11) else (if 8 < (nI ln) then (11) else (if ((nI ln) - (nI ln) / 2 * 2) = 1 then (11) else (s_Model_judge_151 pk kc ln y3)))))) else (3)))))
abbrev rm_Model_judge : Room := { frames := 3, cells := 0, slots := 0, locals := 70 }
set_option maxHeartbeats 1000000 in
set_option maxRecDepth 100000 in
theorem c_Model_judge {l : Launch} {D : va_G} {cI cZ : ClassId} (pk : Nat → Int32) (kc : Nat) (h0 : Nat) (a_st : Nat) (a_ck : Nat) (a_en : Nat) (a_au : Nat) (a_he : Nat) (a_qu : Nat) (a_lo : Nat) (a_ow : Nat) (a_fl : Nat) (a_ti : Nat) (a_gd : Nat) (a_ak : Nat) (a_sp : Nat) (a_se : Nat) (a_sd : Nat) (a_rw : Nat) (a_sz : Nat) (a_op : Nat) (a_th : Nat) (a_me : Nat) (a_pk : Nat) (a_re : Nat) (a_dr : Nat) (tg : Int32) (cm : Int32) (su : Int32) (kq : Nat) (hbf : BF pk) (hkc : kc < 1048576) (sz : Nat) : Met l y_Model_judge (w_Model_judge) rm_Model_judge (va_Pc [.ref h0] (xPre xNs D vwCl cI cZ [(h0, .inr (7, [.int tg, .ref a_st, .ref a_ck, .ref a_en, .ref a_au, .ref a_he, .ref a_qu, .ref a_lo, .ref a_ow, .ref a_fl, .ref a_ti, .ref a_gd, .ref a_ak, .ref a_sp, .ref a_se, .ref a_sd, .ref a_rw, .ref a_sz, .ref a_op, .ref a_th, .ref a_me, .ref a_pk, .int (nI kc), .int cm, .int su, .ref a_re, .int (nI kq), .ref a_dr])), (a_pk, .inl (cI, 40, .inl pk))] sz)) (va_Qi (fun (r : Int32) (u : Unit) => r = s_Model_judge pk kc) (fun u t9 => xAt D vwCl (va_A [(h0, .inr (7, [.int tg, .ref a_st, .ref a_ck, .ref a_en, .ref a_au, .ref a_he, .ref a_qu, .ref a_lo, .ref a_ow, .ref a_fl, .ref a_ti, .ref a_gd, .ref a_ak, .ref a_sp, .ref a_se, .ref a_sd, .ref a_rw, .ref a_sz, .ref a_op, .ref a_th, .ref a_me, .ref a_pk, .int (nI kc), .int cm, .int su, .ref a_re, .int (nI kq), .ref a_dr])), (a_pk, .inl (cI, 40, .inl pk))] sz) [(h0, .inr (7, [.int tg, .ref a_st, .ref a_ck, .ref a_en, .ref a_au, .ref a_he, .ref a_qu, .ref a_lo, .ref a_ow, .ref a_fl, .ref a_ti, .ref a_gd, .ref a_ak, .ref a_sp, .ref a_se, .ref a_sd, .ref a_rw, .ref a_sz, .ref a_op, .ref a_th, .ref a_me, .ref a_pk, .int (nI kc), .int cm, .int su, .ref a_re, .int (nI kq), .ref a_dr])), (a_pk, .inl (cI, 40, .inl pk))] t9) (va_A [(h0, .inr (7, [.int tg, .ref a_st, .ref a_ck, .ref a_en, .ref a_au, .ref a_he, .ref a_qu, .ref a_lo, .ref a_ow, .ref a_fl, .ref a_ti, .ref a_gd, .ref a_ak, .ref a_sp, .ref a_se, .ref a_sd, .ref a_rw, .ref a_sz, .ref a_op, .ref a_th, .ref a_me, .ref a_pk, .int (nI kc), .int cm, .int su, .ref a_re, .int (nI kq), .ref a_dr])), (a_pk, .inl (cI, 40, .inl pk))] sz)) 0 0 (va_A [(h0, .inr (7, [.int tg, .ref a_st, .ref a_ck, .ref a_en, .ref a_au, .ref a_he, .ref a_qu, .ref a_lo, .ref a_ow, .ref a_fl, .ref a_ti, .ref a_gd, .ref a_ak, .ref a_sp, .ref a_se, .ref a_sd, .ref a_rw, .ref a_sz, .ref a_op, .ref a_th, .ref a_me, .ref a_pk, .int (nI kc), .int cm, .int su, .ref a_re, .int (nI kq), .ref a_dr])), (a_pk, .inl (cI, 40, .inl pk))] sz) := by
  refine xBody_i (S := Unit) (cc := b_Model_judge) (maxL := 7) (by decide) rfl (Nat.le_of_ble_eq_true rfl) ?_
  intro p e s m args below meth c A H ls Q hx hb hml hin hts hown hP hD hK hN hS hA hl hret
  replace hl : lv_has ls 7 [(0, .ref h0)] := hl
  have hin_Model : ∀ w ∈ u_ws R_Model F_Model 28, w ∈ (w_Model_judge) := (fun w h => xm (lay_Model w h))
  have hq : s_Model_judge pk kc = (bnd ((pk 7).toNatClampNeg) (fun ln => bnd (α := Int32) (if (s_Model_has pk 32) = 0 then (if (s_Model_has pk 16) = 0 then (0) else (1)) else (0)) (fun y3 => bnd (α := Int32) (if (s_Model_has pk 64) = 0 then (0) else (if (s_Model_has pk 128) = 0 then (if (s_Model_has pk 2) = 0 then (if (s_Model_has pk 1) = 0 then (if (s_Model_has pk 32) = 0 then (if (s_Model_has pk 8) = 0 then (0) else (if y3 = 0 then (1) else (if (s_Model_has pk 4) = 0 then (0) else (1)))) else (1)) else (0)) else (0)) else (0))) (fun y6 => if y6 = 0 then (2) else (if (pk 3) = 32 then (if 16 < (nI ln) then (11) else (if y3 = 0 then (s_Model_judge_151 pk kc ln y3) else (if (nI ln) = 0 then (11) else (if 8 < (nI ln) then (11) else (if ((nI ln) - (nI ln) / 2 * 2) = 1 then (11) else (s_Model_judge_151 pk kc ln y3)))))) else (3)))))) := rfl
  refine lv_aload_n hx hb d_Model_judge_0 rfl (lv_at hl 0 rfl) ?_
  refine va_get (D := D) (ci := 7) (v := .ref a_pk) (C := R_Model) (T := F_Model) (N := 28) hx hb hts hin_Model hown hK hP 0 rfl rfl 21 (by decide) (hts _ (xm ww_554)) (fun _ h9 => h9) rfl d_Model_judge_1 ?_
  refine lv_bipush (v := 7) hx hb d_Model_judge_4 rfl ?_
  refine xiald (k := 7) hx hb hK hP 1 0 rfl rfl rfl (by decide) (by decide) d_Model_judge_6 ?_
  refine xtopn (bf_nn hbf 7) (fun ln hln => ?_)
  replace hq := hq.trans (bnd_eq hln)
  try dsimp only at hq
  have hln255 : ln < 256 := by rw [hln]; exact bf_lt hbf 7
  refine lv_istore_n hx hb d_Model_judge_7 rfl hl (by decide) rfl (fun ls hl => ?_)
  replace hl : lv_has ls 7 [(1, .int (nI ln)), (0, .ref h0)] := hl
  refine lv_aload_n hx hb d_Model_judge_8 rfl (lv_at hl 1 rfl) ?_
  refine lv_bipush (v := 32) hx hb d_Model_judge_9 rfl ?_
  refine xcall_i (wc := [(h0, .inr (7, [.int tg, .ref a_st, .ref a_ck, .ref a_en, .ref a_au, .ref a_he, .ref a_qu, .ref a_lo, .ref a_ow, .ref a_fl, .ref a_ti, .ref a_gd, .ref a_ak, .ref a_sp, .ref a_se, .ref a_sd, .ref a_rw, .ref a_sz, .ref a_op, .ref a_th, .ref a_me, .ref a_pk, .int (nI kc), .int cm, .int su, .ref a_re, .int (nI kq), .ref a_dr])), (a_pk, .inl (cI, 40, .inl pk))]) (wr := []) (ws1 := fun (u : Unit) => [(h0, .inr (7, [.int tg, .ref a_st, .ref a_ck, .ref a_en, .ref a_au, .ref a_he, .ref a_qu, .ref a_lo, .ref a_ow, .ref a_fl, .ref a_ti, .ref a_gd, .ref a_ak, .ref a_sp, .ref a_se, .ref a_sd, .ref a_rw, .ref a_sz, .ref a_op, .ref a_th, .ref a_me, .ref a_pk, .int (nI kc), .int cm, .int su, .ref a_re, .int (nI kq), .ref a_dr])), (a_pk, .inl (cI, 40, .inl pk))]) (va_runV (As := [.int 32]) (rest := []) ⟨hx, hb, hml, hown, hts⟩ (c_Model_has pk 32 h0 a_st a_ck a_en a_au a_he a_qu a_lo a_ow a_fl a_ti a_gd a_ak a_sp a_se a_sd a_rw a_sz a_op a_th a_me a_pk a_re a_dr tg kc cm su kq H.size) (xcwV 1 hts ww_685 ww_682 ww_684 ws_Model_has ww_8 (by decide +kernel) rfl rfl ⟨Nat.le_of_ble_eq_true rfl, Nat.le_of_ble_eq_true rfl⟩) (xPreV (ci := 7) (q0 := 0) (q := (R_Model, F_Model, 28)) (hP.sub [0, 1] rfl) (hD.sub [0, 1] (by decide) rfl) hK hN rfl rfl rfl) rfl rfl hl.1 rfl (lv_room (Nat.le_of_ble_eq_true rfl)) d_Model_judge_11 ⟨Nat.le_of_ble_eq_true rfl, Nat.le_of_ble_eq_true rfl⟩) hP hD hS hA [0, 1] [] [0, 1] rfl rfl (by decide) (by decide) (by decide) (fun _ => rfl) (fun r1 u1 H locs hw hP hD hS => ?_)
  obtain ⟨hw, hbr_1⟩ := hw
  subst hw
  replace hP : va_P D vwCl [(h0, .inr (7, [.int tg, .ref a_st, .ref a_ck, .ref a_en, .ref a_au, .ref a_he, .ref a_qu, .ref a_lo, .ref a_ow, .ref a_fl, .ref a_ti, .ref a_gd, .ref a_ak, .ref a_sp, .ref a_se, .ref a_sd, .ref a_rw, .ref a_sz, .ref a_op, .ref a_th, .ref a_me, .ref a_pk, .int (nI kc), .int cm, .int su, .ref a_re, .int (nI kq), .ref a_dr])), (a_pk, .inl (cI, 40, .inl pk))] H := hP
  replace hD : va_D A [(h0, .inr (7, [.int tg, .ref a_st, .ref a_ck, .ref a_en, .ref a_au, .ref a_he, .ref a_qu, .ref a_lo, .ref a_ow, .ref a_fl, .ref a_ti, .ref a_gd, .ref a_ak, .ref a_sp, .ref a_se, .ref a_sd, .ref a_rw, .ref a_sz, .ref a_op, .ref a_th, .ref a_me, .ref a_pk, .int (nI kc), .int cm, .int su, .ref a_re, .int (nI kq), .ref a_dr])), (a_pk, .inl (cI, 40, .inl pk))] := hD
  refine lv_istore_n hx hb d_Model_judge_14 rfl hl (by decide) rfl (fun ls hl => ?_)
  replace hl : lv_has ls 7 [(2, .int (s_Model_has pk 32)), (1, .int (nI ln)), (0, .ref h0)] := hl
  refine lv_iload_n hx hb d_Model_judge_15 rfl (lv_at hl 0 rfl) ?_
  have J2 : ∀ (y3 : Int32) (H : Heap) (locs : List Loc), y3 = (if (s_Model_has pk 32) = 0 then (if (s_Model_has pk 16) = 0 then (0) else (1)) else (0)) → xB y3 → va_P D vwCl [(h0, .inr (7, [.int tg, .ref a_st, .ref a_ck, .ref a_en, .ref a_au, .ref a_he, .ref a_qu, .ref a_lo, .ref a_ow, .ref a_fl, .ref a_ti, .ref a_gd, .ref a_ak, .ref a_sp, .ref a_se, .ref a_sd, .ref a_rw, .ref a_sz, .ref a_op, .ref a_th, .ref a_me, .ref a_pk, .int (nI kc), .int cm, .int su, .ref a_re, .int (nI kq), .ref a_dr])), (a_pk, .inl (cI, 40, .inl pk))] H → va_D A [(h0, .inr (7, [.int tg, .ref a_st, .ref a_ck, .ref a_en, .ref a_au, .ref a_he, .ref a_qu, .ref a_lo, .ref a_ow, .ref a_fl, .ref a_ti, .ref a_gd, .ref a_ak, .ref a_sp, .ref a_se, .ref a_sd, .ref a_rw, .ref a_sz, .ref a_op, .ref a_th, .ref a_me, .ref a_pk, .int (nI kc), .int cm, .int su, .ref a_re, .int (nI kq), .ref a_dr])), (a_pk, .inl (cI, 40, .inl pk))] → va_S A s.heap H locs → W p l e rm_Model_judge s m args below meth c H locs 0 0 Q (F0 m 33 ls [.int y3]) := by
    intro y3 H locs hy3 hby3 hP hD hS
    replace hq := hq.trans (bnd_eq hy3)
    try dsimp only at hq
    refine lv_istore_n hx hb d_Model_judge_33 rfl hl (by decide) rfl (fun ls hl => ?_)
    replace hl : lv_has ls 7 [(3, .int y3), (2, .int (s_Model_has pk 32)), (1, .int (nI ln)), (0, .ref h0)] := hl
    refine lv_aload_n hx hb d_Model_judge_34 rfl (lv_at hl 3 rfl) ?_
    refine lv_bipush (v := 64) hx hb d_Model_judge_35 rfl ?_
    refine xcall_i (wc := [(h0, .inr (7, [.int tg, .ref a_st, .ref a_ck, .ref a_en, .ref a_au, .ref a_he, .ref a_qu, .ref a_lo, .ref a_ow, .ref a_fl, .ref a_ti, .ref a_gd, .ref a_ak, .ref a_sp, .ref a_se, .ref a_sd, .ref a_rw, .ref a_sz, .ref a_op, .ref a_th, .ref a_me, .ref a_pk, .int (nI kc), .int cm, .int su, .ref a_re, .int (nI kq), .ref a_dr])), (a_pk, .inl (cI, 40, .inl pk))]) (wr := []) (ws1 := fun (u : Unit) => [(h0, .inr (7, [.int tg, .ref a_st, .ref a_ck, .ref a_en, .ref a_au, .ref a_he, .ref a_qu, .ref a_lo, .ref a_ow, .ref a_fl, .ref a_ti, .ref a_gd, .ref a_ak, .ref a_sp, .ref a_se, .ref a_sd, .ref a_rw, .ref a_sz, .ref a_op, .ref a_th, .ref a_me, .ref a_pk, .int (nI kc), .int cm, .int su, .ref a_re, .int (nI kq), .ref a_dr])), (a_pk, .inl (cI, 40, .inl pk))]) (va_runV (As := [.int 64]) (rest := []) ⟨hx, hb, hml, hown, hts⟩ (c_Model_has pk 64 h0 a_st a_ck a_en a_au a_he a_qu a_lo a_ow a_fl a_ti a_gd a_ak a_sp a_se a_sd a_rw a_sz a_op a_th a_me a_pk a_re a_dr tg kc cm su kq H.size) (xcwV 1 hts ww_685 ww_682 ww_684 ws_Model_has ww_8 (by decide +kernel) rfl rfl ⟨Nat.le_of_ble_eq_true rfl, Nat.le_of_ble_eq_true rfl⟩) (xPreV (ci := 7) (q0 := 0) (q := (R_Model, F_Model, 28)) (hP.sub [0, 1] rfl) (hD.sub [0, 1] (by decide) rfl) hK hN rfl rfl rfl) rfl rfl hl.1 rfl (lv_room (Nat.le_of_ble_eq_true rfl)) d_Model_judge_37 ⟨Nat.le_of_ble_eq_true rfl, Nat.le_of_ble_eq_true rfl⟩) hP hD hS hA [0, 1] [] [0, 1] rfl rfl (by decide) (by decide) (by decide) (fun _ => rfl) (fun r4 u4 H locs hw hP hD hS => ?_)
    obtain ⟨hw, hbr_4⟩ := hw
    subst hw
    replace hP : va_P D vwCl [(h0, .inr (7, [.int tg, .ref a_st, .ref a_ck, .ref a_en, .ref a_au, .ref a_he, .ref a_qu, .ref a_lo, .ref a_ow, .ref a_fl, .ref a_ti, .ref a_gd, .ref a_ak, .ref a_sp, .ref a_se, .ref a_sd, .ref a_rw, .ref a_sz, .ref a_op, .ref a_th, .ref a_me, .ref a_pk, .int (nI kc), .int cm, .int su, .ref a_re, .int (nI kq), .ref a_dr])), (a_pk, .inl (cI, 40, .inl pk))] H := hP
    replace hD : va_D A [(h0, .inr (7, [.int tg, .ref a_st, .ref a_ck, .ref a_en, .ref a_au, .ref a_he, .ref a_qu, .ref a_lo, .ref a_ow, .ref a_fl, .ref a_ti, .ref a_gd, .ref a_ak, .ref a_sp, .ref a_se, .ref a_sd, .ref a_rw, .ref a_sz, .ref a_op, .ref a_th, .ref a_me, .ref a_pk, .int (nI kc), .int cm, .int su, .ref a_re, .int (nI kq), .ref a_dr])), (a_pk, .inl (cI, 40, .inl pk))] := hD
    have J5 : ∀ (y6 : Int32) (H : Heap) (locs : List Loc), y6 = (if (s_Model_has pk 64) = 0 then (0) else (if (s_Model_has pk 128) = 0 then (if (s_Model_has pk 2) = 0 then (if (s_Model_has pk 1) = 0 then (if (s_Model_has pk 32) = 0 then (if (s_Model_has pk 8) = 0 then (0) else (if y3 = 0 then (1) else (if (s_Model_has pk 4) = 0 then (0) else (1)))) else (1)) else (0)) else (0)) else (0))) → xB y6 → va_P D vwCl [(h0, .inr (7, [.int tg, .ref a_st, .ref a_ck, .ref a_en, .ref a_au, .ref a_he, .ref a_qu, .ref a_lo, .ref a_ow, .ref a_fl, .ref a_ti, .ref a_gd, .ref a_ak, .ref a_sp, .ref a_se, .ref a_sd, .ref a_rw, .ref a_sz, .ref a_op, .ref a_th, .ref a_me, .ref a_pk, .int (nI kc), .int cm, .int su, .ref a_re, .int (nI kq), .ref a_dr])), (a_pk, .inl (cI, 40, .inl pk))] H → va_D A [(h0, .inr (7, [.int tg, .ref a_st, .ref a_ck, .ref a_en, .ref a_au, .ref a_he, .ref a_qu, .ref a_lo, .ref a_ow, .ref a_fl, .ref a_ti, .ref a_gd, .ref a_ak, .ref a_sp, .ref a_se, .ref a_sd, .ref a_rw, .ref a_sz, .ref a_op, .ref a_th, .ref a_me, .ref a_pk, .int (nI kc), .int cm, .int su, .ref a_re, .int (nI kq), .ref a_dr])), (a_pk, .inl (cI, 40, .inl pk))] → va_S A s.heap H locs → W p l e rm_Model_judge s m args below meth c H locs 0 0 Q (F0 m 99 ls [.int y6]) := by
      intro y6 H locs hy6 hby6 hP hD hS
      replace hq := hq.trans (bnd_eq hy6)
      try dsimp only at hq
      refine lv_istore hx hb d_Model_judge_99 hl (by decide) rfl (fun ls hl => ?_)
      replace hl : lv_has ls 7 [(4, .int y6), (3, .int y3), (2, .int (s_Model_has pk 32)), (1, .int (nI ln)), (0, .ref h0)] := hl
      refine lv_iload hx hb d_Model_judge_101 (lv_at hl 0 rfl) ?_
      refine lv_if_ne (tgt := 108) hx hb d_Model_judge_103 rfl (fun h7 => ?_) (fun h7 => ?_)
      · replace hq := hq.trans (if_neg h7)
        refine lv_aload_n hx hb d_Model_judge_108 rfl (lv_at hl 4 rfl) ?_
        refine va_get (D := D) (ci := 7) (v := .ref a_pk) (C := R_Model) (T := F_Model) (N := 28) hx hb hts hin_Model hown hK hP 0 rfl rfl 21 (by decide) (hts _ (xm ww_554)) (fun _ h9 => h9) rfl d_Model_judge_109 ?_
        refine lv_iconst (v := 3) hx hb d_Model_judge_112 rfl ?_
        refine xiald (k := 3) hx hb hK hP 1 0 rfl rfl rfl (by decide) (by decide) d_Model_judge_113 ?_
        refine lv_bipush (v := 32) hx hb d_Model_judge_114 rfl ?_
        refine lv_icmp_eq (tgt := 121) hx hb d_Model_judge_116 rfl (fun h8 => ?_) (fun h8 => ?_)
        · replace hq := hq.trans (if_pos h8)
          have Cs_Model_judge_151 : ∀  (ls : Array Slot) (H : Heap) (locs : List Loc), (¬ 16 < nI ln) → lv_has ls 7 [(4, .int y6), (3, .int y3), (2, .int (s_Model_has pk 32)), (1, .int (nI ln)), (0, .ref h0)] → va_P D vwCl [(h0, .inr (7, [.int tg, .ref a_st, .ref a_ck, .ref a_en, .ref a_au, .ref a_he, .ref a_qu, .ref a_lo, .ref a_ow, .ref a_fl, .ref a_ti, .ref a_gd, .ref a_ak, .ref a_sp, .ref a_se, .ref a_sd, .ref a_rw, .ref a_sz, .ref a_op, .ref a_th, .ref a_me, .ref a_pk, .int (nI kc), .int cm, .int su, .ref a_re, .int (nI kq), .ref a_dr])), (a_pk, .inl (cI, 40, .inl pk))] H → va_D A [(h0, .inr (7, [.int tg, .ref a_st, .ref a_ck, .ref a_en, .ref a_au, .ref a_he, .ref a_qu, .ref a_lo, .ref a_ow, .ref a_fl, .ref a_ti, .ref a_gd, .ref a_ak, .ref a_sp, .ref a_se, .ref a_sd, .ref a_rw, .ref a_sz, .ref a_op, .ref a_th, .ref a_me, .ref a_pk, .int (nI kc), .int cm, .int su, .ref a_re, .int (nI kq), .ref a_dr])), (a_pk, .inl (cI, 40, .inl pk))] → va_S A s.heap H locs → s_Model_judge pk kc = s_Model_judge_151 pk kc ln y3 → W p l e rm_Model_judge s m args below meth c H locs 0 0 Q (F0 m 151 ls []) := by
            intro ls H locs h16 hl hP hD hS hq
            replace hq : s_Model_judge pk kc = (bnd (α := Int32) (if y3 = 0 then (nI ln) else ((nI ln) / 2)) (fun y10 => bnd (α := Int32) (if (s_Model_has pk 4) = 0 then (pk 6) else (if y10 ≤ 0 then (pk 6) else (((pk 6) + y10) - 1))) (fun y13 => if y13 ≤ 31 then (bnd (α := Int32) (if (s_Model_has pk 32) = 0 then (if y3 = 0 then (0) else (s_Model_dataStatus pk kc ln)) else (s_Model_dataStatus pk kc ln)) (fun y16 => y16)) else (10)))) := hq
            refine lv_iload_n hx hb d_Model_judge_151 rfl (lv_at hl 1 rfl) ?_
            have J9 : ∀ (y10 : Int32) (H : Heap) (locs : List Loc), y10 = (if y3 = 0 then (nI ln) else ((nI ln) / 2)) → va_P D vwCl [(h0, .inr (7, [.int tg, .ref a_st, .ref a_ck, .ref a_en, .ref a_au, .ref a_he, .ref a_qu, .ref a_lo, .ref a_ow, .ref a_fl, .ref a_ti, .ref a_gd, .ref a_ak, .ref a_sp, .ref a_se, .ref a_sd, .ref a_rw, .ref a_sz, .ref a_op, .ref a_th, .ref a_me, .ref a_pk, .int (nI kc), .int cm, .int su, .ref a_re, .int (nI kq), .ref a_dr])), (a_pk, .inl (cI, 40, .inl pk))] H → va_D A [(h0, .inr (7, [.int tg, .ref a_st, .ref a_ck, .ref a_en, .ref a_au, .ref a_he, .ref a_qu, .ref a_lo, .ref a_ow, .ref a_fl, .ref a_ti, .ref a_gd, .ref a_ak, .ref a_sp, .ref a_se, .ref a_sd, .ref a_rw, .ref a_sz, .ref a_op, .ref a_th, .ref a_me, .ref a_pk, .int (nI kc), .int cm, .int su, .ref a_re, .int (nI kq), .ref a_dr])), (a_pk, .inl (cI, 40, .inl pk))] → va_S A s.heap H locs → W p l e rm_Model_judge s m args below meth c H locs 0 0 Q (F0 m 162 ls [.int y10]) := by
              intro y10 H locs hy10 hP hD hS
              replace hq := hq.trans (bnd_eq hy10)
              try dsimp only at hq
              refine lv_istore hx hb d_Model_judge_162 hl (by decide) rfl (fun ls hl => ?_)
              replace hl : lv_has ls 7 [(5, .int y10), (4, .int y6), (3, .int y3), (2, .int (s_Model_has pk 32)), (1, .int (nI ln)), (0, .ref h0)] := hl
              refine lv_aload_n hx hb d_Model_judge_164 rfl (lv_at hl 5 rfl) ?_
              refine lv_iconst (v := 4) hx hb d_Model_judge_165 rfl ?_
              refine xcall_i (wc := [(h0, .inr (7, [.int tg, .ref a_st, .ref a_ck, .ref a_en, .ref a_au, .ref a_he, .ref a_qu, .ref a_lo, .ref a_ow, .ref a_fl, .ref a_ti, .ref a_gd, .ref a_ak, .ref a_sp, .ref a_se, .ref a_sd, .ref a_rw, .ref a_sz, .ref a_op, .ref a_th, .ref a_me, .ref a_pk, .int (nI kc), .int cm, .int su, .ref a_re, .int (nI kq), .ref a_dr])), (a_pk, .inl (cI, 40, .inl pk))]) (wr := []) (ws1 := fun (u : Unit) => [(h0, .inr (7, [.int tg, .ref a_st, .ref a_ck, .ref a_en, .ref a_au, .ref a_he, .ref a_qu, .ref a_lo, .ref a_ow, .ref a_fl, .ref a_ti, .ref a_gd, .ref a_ak, .ref a_sp, .ref a_se, .ref a_sd, .ref a_rw, .ref a_sz, .ref a_op, .ref a_th, .ref a_me, .ref a_pk, .int (nI kc), .int cm, .int su, .ref a_re, .int (nI kq), .ref a_dr])), (a_pk, .inl (cI, 40, .inl pk))]) (va_runV (As := [.int 4]) (rest := []) ⟨hx, hb, hml, hown, hts⟩ (c_Model_has pk 4 h0 a_st a_ck a_en a_au a_he a_qu a_lo a_ow a_fl a_ti a_gd a_ak a_sp a_se a_sd a_rw a_sz a_op a_th a_me a_pk a_re a_dr tg kc cm su kq H.size) (xcwV 1 hts ww_685 ww_682 ww_684 ws_Model_has ww_8 (by decide +kernel) rfl rfl ⟨Nat.le_of_ble_eq_true rfl, Nat.le_of_ble_eq_true rfl⟩) (xPreV (ci := 7) (q0 := 0) (q := (R_Model, F_Model, 28)) (hP.sub [0, 1] rfl) (hD.sub [0, 1] (by decide) rfl) hK hN rfl rfl rfl) rfl rfl hl.1 rfl (lv_room (Nat.le_of_ble_eq_true rfl)) d_Model_judge_166 ⟨Nat.le_of_ble_eq_true rfl, Nat.le_of_ble_eq_true rfl⟩) hP hD hS hA [0, 1] [] [0, 1] rfl rfl (by decide) (by decide) (by decide) (fun _ => rfl) (fun r11 u11 H locs hw hP hD hS => ?_)
              obtain ⟨hw, hbr_11⟩ := hw
              subst hw
              replace hP : va_P D vwCl [(h0, .inr (7, [.int tg, .ref a_st, .ref a_ck, .ref a_en, .ref a_au, .ref a_he, .ref a_qu, .ref a_lo, .ref a_ow, .ref a_fl, .ref a_ti, .ref a_gd, .ref a_ak, .ref a_sp, .ref a_se, .ref a_sd, .ref a_rw, .ref a_sz, .ref a_op, .ref a_th, .ref a_me, .ref a_pk, .int (nI kc), .int cm, .int su, .ref a_re, .int (nI kq), .ref a_dr])), (a_pk, .inl (cI, 40, .inl pk))] H := hP
              replace hD : va_D A [(h0, .inr (7, [.int tg, .ref a_st, .ref a_ck, .ref a_en, .ref a_au, .ref a_he, .ref a_qu, .ref a_lo, .ref a_ow, .ref a_fl, .ref a_ti, .ref a_gd, .ref a_ak, .ref a_sp, .ref a_se, .ref a_sd, .ref a_rw, .ref a_sz, .ref a_op, .ref a_th, .ref a_me, .ref a_pk, .int (nI kc), .int cm, .int su, .ref a_re, .int (nI kq), .ref a_dr])), (a_pk, .inl (cI, 40, .inl pk))] := hD
              have J12 : ∀ (y13 : Int32) (H : Heap) (locs : List Loc), y13 = (if (s_Model_has pk 4) = 0 then (pk 6) else (if y10 ≤ 0 then (pk 6) else (((pk 6) + y10) - 1))) → va_P D vwCl [(h0, .inr (7, [.int tg, .ref a_st, .ref a_ck, .ref a_en, .ref a_au, .ref a_he, .ref a_qu, .ref a_lo, .ref a_ow, .ref a_fl, .ref a_ti, .ref a_gd, .ref a_ak, .ref a_sp, .ref a_se, .ref a_sd, .ref a_rw, .ref a_sz, .ref a_op, .ref a_th, .ref a_me, .ref a_pk, .int (nI kc), .int cm, .int su, .ref a_re, .int (nI kq), .ref a_dr])), (a_pk, .inl (cI, 40, .inl pk))] H → va_D A [(h0, .inr (7, [.int tg, .ref a_st, .ref a_ck, .ref a_en, .ref a_au, .ref a_he, .ref a_qu, .ref a_lo, .ref a_ow, .ref a_fl, .ref a_ti, .ref a_gd, .ref a_ak, .ref a_sp, .ref a_se, .ref a_sd, .ref a_rw, .ref a_sz, .ref a_op, .ref a_th, .ref a_me, .ref a_pk, .int (nI kc), .int cm, .int su, .ref a_re, .int (nI kq), .ref a_dr])), (a_pk, .inl (cI, 40, .inl pk))] → va_S A s.heap H locs → W p l e rm_Model_judge s m args below meth c H locs 0 0 Q (F0 m 199 ls [.int y13]) := by
                intro y13 H locs hy13 hP hD hS
                replace hq := hq.trans (bnd_eq hy13)
                try dsimp only at hq
                refine lv_istore hx hb d_Model_judge_199 hl (by decide) rfl (fun ls hl => ?_)
                replace hl : lv_has ls 7 [(6, .int y13), (5, .int y10), (4, .int y6), (3, .int y3), (2, .int (s_Model_has pk 32)), (1, .int (nI ln)), (0, .ref h0)] := hl
                refine lv_iload hx hb d_Model_judge_201 (lv_at hl 0 rfl) ?_
                refine lv_bipush (v := 31) hx hb d_Model_judge_203 rfl ?_
                refine lv_icmp_le (tgt := 211) hx hb d_Model_judge_205 rfl (fun h14 => ?_) (fun h14 => ?_)
                · replace hq := hq.trans (if_pos h14)
                  refine lv_iload_n hx hb d_Model_judge_211 rfl (lv_at hl 4 rfl) ?_
                  have J15 : ∀ (y16 : Int32) (H : Heap) (locs : List Loc), y16 = (if (s_Model_has pk 32) = 0 then (if y3 = 0 then (0) else (s_Model_dataStatus pk kc ln)) else (s_Model_dataStatus pk kc ln)) → va_P D vwCl [(h0, .inr (7, [.int tg, .ref a_st, .ref a_ck, .ref a_en, .ref a_au, .ref a_he, .ref a_qu, .ref a_lo, .ref a_ow, .ref a_fl, .ref a_ti, .ref a_gd, .ref a_ak, .ref a_sp, .ref a_se, .ref a_sd, .ref a_rw, .ref a_sz, .ref a_op, .ref a_th, .ref a_me, .ref a_pk, .int (nI kc), .int cm, .int su, .ref a_re, .int (nI kq), .ref a_dr])), (a_pk, .inl (cI, 40, .inl pk))] H → va_D A [(h0, .inr (7, [.int tg, .ref a_st, .ref a_ck, .ref a_en, .ref a_au, .ref a_he, .ref a_qu, .ref a_lo, .ref a_ow, .ref a_fl, .ref a_ti, .ref a_gd, .ref a_ak, .ref a_sp, .ref a_se, .ref a_sd, .ref a_rw, .ref a_sz, .ref a_op, .ref a_th, .ref a_me, .ref a_pk, .int (nI kc), .int cm, .int su, .ref a_re, .int (nI kq), .ref a_dr])), (a_pk, .inl (cI, 40, .inl pk))] → va_S A s.heap H locs → W p l e rm_Model_judge s m args below meth c H locs 0 0 Q (F0 m 228 ls [.int y16]) := by
                    intro y16 H locs hy16 hP hD hS
                    replace hq := hq.trans (bnd_eq hy16)
                    try dsimp only at hq
                    exact hret y16 () hq.symm _ _ _ _ hP hD hS d_Model_judge_228
                  have hv : ((if (s_Model_has pk 32) = 0 then (if y3 = 0 then (0) else (s_Model_dataStatus pk kc ln)) else (s_Model_dataStatus pk kc ln)) : Int32) = (if (s_Model_has pk 32) = 0 then (if y3 = 0 then (0) else (s_Model_dataStatus pk kc ln)) else (s_Model_dataStatus pk kc ln)) := rfl
                  refine lv_if_ne (tgt := 219) hx hb d_Model_judge_212 rfl (fun h17 => ?_) (fun h17 => ?_)
                  · replace hv := hv.trans (if_neg h17)
                    refine lv_aload_n hx hb d_Model_judge_219 rfl (lv_at hl 6 rfl) ?_
                    refine lv_iload_n hx hb d_Model_judge_220 rfl (lv_at hl 5 rfl) ?_
                    refine xcall_i (wc := [(h0, .inr (7, [.int tg, .ref a_st, .ref a_ck, .ref a_en, .ref a_au, .ref a_he, .ref a_qu, .ref a_lo, .ref a_ow, .ref a_fl, .ref a_ti, .ref a_gd, .ref a_ak, .ref a_sp, .ref a_se, .ref a_sd, .ref a_rw, .ref a_sz, .ref a_op, .ref a_th, .ref a_me, .ref a_pk, .int (nI kc), .int cm, .int su, .ref a_re, .int (nI kq), .ref a_dr])), (a_pk, .inl (cI, 40, .inl pk))]) (wr := []) (ws1 := fun (u : Unit) => [(h0, .inr (7, [.int tg, .ref a_st, .ref a_ck, .ref a_en, .ref a_au, .ref a_he, .ref a_qu, .ref a_lo, .ref a_ow, .ref a_fl, .ref a_ti, .ref a_gd, .ref a_ak, .ref a_sp, .ref a_se, .ref a_sd, .ref a_rw, .ref a_sz, .ref a_op, .ref a_th, .ref a_me, .ref a_pk, .int (nI kc), .int cm, .int su, .ref a_re, .int (nI kq), .ref a_dr])), (a_pk, .inl (cI, 40, .inl pk))]) (va_runV (As := [.int (nI ln)]) (rest := []) ⟨hx, hb, hml, hown, hts⟩ (c_Model_dataStatus pk kc ln h0 a_st a_ck a_en a_au a_he a_qu a_lo a_ow a_fl a_ti a_gd a_ak a_sp a_se a_sd a_rw a_sz a_op a_th a_me a_pk a_re a_dr tg cm su kq (Nat.le_of_not_lt fun h9 => h16 (nI_lt (a := 16) h9 (by omega))) hkc H.size) (xcwV 1 hts ww_689 ww_686 ww_688 ws_Model_dataStatus ww_8 (by decide +kernel) rfl rfl ⟨Nat.le_of_ble_eq_true rfl, Nat.le_of_ble_eq_true rfl⟩) (xPreV (ci := 7) (q0 := 0) (q := (R_Model, F_Model, 28)) (hP.sub [0, 1] rfl) (hD.sub [0, 1] (by decide) rfl) hK hN rfl rfl rfl) rfl rfl hl.1 rfl (lv_room (Nat.le_of_ble_eq_true rfl)) d_Model_judge_221 ⟨Nat.le_of_ble_eq_true rfl, Nat.le_of_ble_eq_true rfl⟩) hP hD hS hA [0, 1] [] [0, 1] rfl rfl (by decide) (by decide) (by decide) (fun _ => rfl) (fun r18 u18 H locs hw hP hD hS => ?_)
                    refine xtop hw ?_
                    replace hP : va_P D vwCl [(h0, .inr (7, [.int tg, .ref a_st, .ref a_ck, .ref a_en, .ref a_au, .ref a_he, .ref a_qu, .ref a_lo, .ref a_ow, .ref a_fl, .ref a_ti, .ref a_gd, .ref a_ak, .ref a_sp, .ref a_se, .ref a_sd, .ref a_rw, .ref a_sz, .ref a_op, .ref a_th, .ref a_me, .ref a_pk, .int (nI kc), .int cm, .int su, .ref a_re, .int (nI kq), .ref a_dr])), (a_pk, .inl (cI, 40, .inl pk))] H := hP
                    replace hD : va_D A [(h0, .inr (7, [.int tg, .ref a_st, .ref a_ck, .ref a_en, .ref a_au, .ref a_he, .ref a_qu, .ref a_lo, .ref a_ow, .ref a_fl, .ref a_ti, .ref a_gd, .ref a_ak, .ref a_sp, .ref a_se, .ref a_sd, .ref a_rw, .ref a_sz, .ref a_op, .ref a_th, .ref a_me, .ref a_pk, .int (nI kc), .int cm, .int su, .ref a_re, .int (nI kq), .ref a_dr])), (a_pk, .inl (cI, 40, .inl pk))] := hD
                    refine lv_goto (tgt := 228) hx hb d_Model_judge_224 rfl ?_
                    exact J15 _ _ _ hv.symm hP hD hS
                  replace hv := hv.trans (if_pos h17)
                  refine lv_iload_n hx hb d_Model_judge_215 rfl (lv_at hl 3 rfl) ?_
                  refine lv_if_eq (tgt := 227) hx hb d_Model_judge_216 rfl (fun h19 => ?_) (fun h19 => ?_)
                  · replace hv := hv.trans (if_pos h19)
                    refine lv_iconst (v := 0) hx hb d_Model_judge_227 rfl ?_
                    exact J15 _ _ _ hv.symm hP hD hS
                  replace hv := hv.trans (if_neg h19)
                  refine lv_aload_n hx hb d_Model_judge_219 rfl (lv_at hl 6 rfl) ?_
                  refine lv_iload_n hx hb d_Model_judge_220 rfl (lv_at hl 5 rfl) ?_
                  refine xcall_i (wc := [(h0, .inr (7, [.int tg, .ref a_st, .ref a_ck, .ref a_en, .ref a_au, .ref a_he, .ref a_qu, .ref a_lo, .ref a_ow, .ref a_fl, .ref a_ti, .ref a_gd, .ref a_ak, .ref a_sp, .ref a_se, .ref a_sd, .ref a_rw, .ref a_sz, .ref a_op, .ref a_th, .ref a_me, .ref a_pk, .int (nI kc), .int cm, .int su, .ref a_re, .int (nI kq), .ref a_dr])), (a_pk, .inl (cI, 40, .inl pk))]) (wr := []) (ws1 := fun (u : Unit) => [(h0, .inr (7, [.int tg, .ref a_st, .ref a_ck, .ref a_en, .ref a_au, .ref a_he, .ref a_qu, .ref a_lo, .ref a_ow, .ref a_fl, .ref a_ti, .ref a_gd, .ref a_ak, .ref a_sp, .ref a_se, .ref a_sd, .ref a_rw, .ref a_sz, .ref a_op, .ref a_th, .ref a_me, .ref a_pk, .int (nI kc), .int cm, .int su, .ref a_re, .int (nI kq), .ref a_dr])), (a_pk, .inl (cI, 40, .inl pk))]) (va_runV (As := [.int (nI ln)]) (rest := []) ⟨hx, hb, hml, hown, hts⟩ (c_Model_dataStatus pk kc ln h0 a_st a_ck a_en a_au a_he a_qu a_lo a_ow a_fl a_ti a_gd a_ak a_sp a_se a_sd a_rw a_sz a_op a_th a_me a_pk a_re a_dr tg cm su kq (Nat.le_of_not_lt fun h9 => h16 (nI_lt (a := 16) h9 (by omega))) hkc H.size) (xcwV 1 hts ww_689 ww_686 ww_688 ws_Model_dataStatus ww_8 (by decide +kernel) rfl rfl ⟨Nat.le_of_ble_eq_true rfl, Nat.le_of_ble_eq_true rfl⟩) (xPreV (ci := 7) (q0 := 0) (q := (R_Model, F_Model, 28)) (hP.sub [0, 1] rfl) (hD.sub [0, 1] (by decide) rfl) hK hN rfl rfl rfl) rfl rfl hl.1 rfl (lv_room (Nat.le_of_ble_eq_true rfl)) d_Model_judge_221 ⟨Nat.le_of_ble_eq_true rfl, Nat.le_of_ble_eq_true rfl⟩) hP hD hS hA [0, 1] [] [0, 1] rfl rfl (by decide) (by decide) (by decide) (fun _ => rfl) (fun r20 u20 H locs hw hP hD hS => ?_)
                  refine xtop hw ?_
                  replace hP : va_P D vwCl [(h0, .inr (7, [.int tg, .ref a_st, .ref a_ck, .ref a_en, .ref a_au, .ref a_he, .ref a_qu, .ref a_lo, .ref a_ow, .ref a_fl, .ref a_ti, .ref a_gd, .ref a_ak, .ref a_sp, .ref a_se, .ref a_sd, .ref a_rw, .ref a_sz, .ref a_op, .ref a_th, .ref a_me, .ref a_pk, .int (nI kc), .int cm, .int su, .ref a_re, .int (nI kq), .ref a_dr])), (a_pk, .inl (cI, 40, .inl pk))] H := hP
                  replace hD : va_D A [(h0, .inr (7, [.int tg, .ref a_st, .ref a_ck, .ref a_en, .ref a_au, .ref a_he, .ref a_qu, .ref a_lo, .ref a_ow, .ref a_fl, .ref a_ti, .ref a_gd, .ref a_ak, .ref a_sp, .ref a_se, .ref a_sd, .ref a_rw, .ref a_sz, .ref a_op, .ref a_th, .ref a_me, .ref a_pk, .int (nI kc), .int cm, .int su, .ref a_re, .int (nI kq), .ref a_dr])), (a_pk, .inl (cI, 40, .inl pk))] := hD
                  refine lv_goto (tgt := 228) hx hb d_Model_judge_224 rfl ?_
                  exact J15 _ _ _ hv.symm hP hD hS
                replace hq := hq.trans (if_neg h14)
                refine lv_bipush (v := 10) hx hb d_Model_judge_208 rfl ?_
                exact hret 10 () hq.symm _ _ _ _ hP hD hS d_Model_judge_210
              have hv : ((if (s_Model_has pk 4) = 0 then (pk 6) else (if y10 ≤ 0 then (pk 6) else (((pk 6) + y10) - 1))) : Int32) = (if (s_Model_has pk 4) = 0 then (pk 6) else (if y10 ≤ 0 then (pk 6) else (((pk 6) + y10) - 1))) := rfl
              refine lv_if_eq (tgt := 192) hx hb d_Model_judge_169 rfl (fun h21 => ?_) (fun h21 => ?_)
              · replace hv := hv.trans (if_pos h21)
                refine lv_aload_n hx hb d_Model_judge_192 rfl (lv_at hl 5 rfl) ?_
                refine va_get (D := D) (ci := 7) (v := .ref a_pk) (C := R_Model) (T := F_Model) (N := 28) hx hb hts hin_Model hown hK hP 0 rfl rfl 21 (by decide) (hts _ (xm ww_554)) (fun _ h9 => h9) rfl d_Model_judge_193 ?_
                refine lv_bipush (v := 6) hx hb d_Model_judge_196 rfl ?_
                refine xiald (k := 6) hx hb hK hP 1 0 rfl rfl rfl (by decide) (by decide) d_Model_judge_198 ?_
                exact J12 _ _ _ hv.symm hP hD hS
              replace hv := hv.trans (if_neg h21)
              refine lv_iload hx hb d_Model_judge_172 (lv_at hl 0 rfl) ?_
              refine lv_if_le (tgt := 192) hx hb d_Model_judge_174 rfl (fun h22 => ?_) (fun h22 => ?_)
              · replace hv := hv.trans (if_pos h22)
                refine lv_aload_n hx hb d_Model_judge_192 rfl (lv_at hl 5 rfl) ?_
                refine va_get (D := D) (ci := 7) (v := .ref a_pk) (C := R_Model) (T := F_Model) (N := 28) hx hb hts hin_Model hown hK hP 0 rfl rfl 21 (by decide) (hts _ (xm ww_554)) (fun _ h9 => h9) rfl d_Model_judge_193 ?_
                refine lv_bipush (v := 6) hx hb d_Model_judge_196 rfl ?_
                refine xiald (k := 6) hx hb hK hP 1 0 rfl rfl rfl (by decide) (by decide) d_Model_judge_198 ?_
                exact J12 _ _ _ hv.symm hP hD hS
              replace hv := hv.trans (if_neg h22)
              refine lv_aload_n hx hb d_Model_judge_177 rfl (lv_at hl 5 rfl) ?_
              refine va_get (D := D) (ci := 7) (v := .ref a_pk) (C := R_Model) (T := F_Model) (N := 28) hx hb hts hin_Model hown hK hP 0 rfl rfl 21 (by decide) (hts _ (xm ww_554)) (fun _ h9 => h9) rfl d_Model_judge_178 ?_
              refine lv_bipush (v := 6) hx hb d_Model_judge_181 rfl ?_
              refine xiald (k := 6) hx hb hK hP 1 0 rfl rfl rfl (by decide) (by decide) d_Model_judge_183 ?_
              refine lv_iload hx hb d_Model_judge_184 (lv_at hl 0 rfl) ?_
              refine lv_iadd hx hb d_Model_judge_186 ?_
              refine lv_iconst (v := 1) hx hb d_Model_judge_187 rfl ?_
              refine lv_isub hx hb d_Model_judge_188 ?_
              refine lv_goto (tgt := 199) hx hb d_Model_judge_189 rfl ?_
              exact J12 _ _ _ hv.symm hP hD hS
            have hv : ((if y3 = 0 then (nI ln) else ((nI ln) / 2)) : Int32) = (if y3 = 0 then (nI ln) else ((nI ln) / 2)) := rfl
            refine lv_if_eq (tgt := 161) hx hb d_Model_judge_152 rfl (fun h23 => ?_) (fun h23 => ?_)
            · replace hv := hv.trans (if_pos h23)
              refine lv_iload_n hx hb d_Model_judge_161 rfl (lv_at hl 3 rfl) ?_
              exact J9 _ _ _ hv.symm hP hD hS
            replace hv := hv.trans (if_neg h23)
            refine lv_iload_n hx hb d_Model_judge_155 rfl (lv_at hl 3 rfl) ?_
            refine lv_iconst (v := 2) hx hb d_Model_judge_156 rfl ?_
            refine lv_idiv hx hb d_Model_judge_157 (by decide) ?_
            refine lv_goto (tgt := 162) hx hb d_Model_judge_158 rfl ?_
            exact J9 _ _ _ hv.symm hP hD hS
          refine lv_iload_n hx hb d_Model_judge_121 rfl (lv_at hl 3 rfl) ?_
          refine lv_bipush (v := 16) hx hb d_Model_judge_122 rfl ?_
          refine lv_icmp_gt (tgt := 148) hx hb d_Model_judge_124 rfl (fun h24 => ?_) (fun h24 => ?_)
          · replace hq := hq.trans (if_pos h24)
            refine lv_bipush (v := 11) hx hb d_Model_judge_148 rfl ?_
            exact hret 11 () hq.symm _ _ _ _ hP hD hS d_Model_judge_150
          replace hq := hq.trans (if_neg h24)
          refine lv_iload_n hx hb d_Model_judge_127 rfl (lv_at hl 1 rfl) ?_
          refine lv_if_eq (tgt := 151) hx hb d_Model_judge_128 rfl (fun h25 => ?_) (fun h25 => ?_)
          · replace hq := hq.trans (if_pos h25)
            exact Cs_Model_judge_151  _ _ _ h24 (lv_sub hl [0, 1, 2, 3, 4] rfl) hP hD hS hq
          replace hq := hq.trans (if_neg h25)
          refine lv_iload_n hx hb d_Model_judge_131 rfl (lv_at hl 3 rfl) ?_
          refine lv_if_eq (tgt := 148) hx hb d_Model_judge_132 rfl (fun h26 => ?_) (fun h26 => ?_)
          · replace hq := hq.trans (if_pos h26)
            refine lv_bipush (v := 11) hx hb d_Model_judge_148 rfl ?_
            exact hret 11 () hq.symm _ _ _ _ hP hD hS d_Model_judge_150
          replace hq := hq.trans (if_neg h26)
          refine lv_iload_n hx hb d_Model_judge_135 rfl (lv_at hl 3 rfl) ?_
          refine lv_bipush (v := 8) hx hb d_Model_judge_136 rfl ?_
          refine lv_icmp_gt (tgt := 148) hx hb d_Model_judge_138 rfl (fun h27 => ?_) (fun h27 => ?_)
          · replace hq := hq.trans (if_pos h27)
            refine lv_bipush (v := 11) hx hb d_Model_judge_148 rfl ?_
            exact hret 11 () hq.symm _ _ _ _ hP hD hS d_Model_judge_150
          replace hq := hq.trans (if_neg h27)
          refine lv_iload_n hx hb d_Model_judge_141 rfl (lv_at hl 3 rfl) ?_
          refine lv_iconst (v := 2) hx hb d_Model_judge_142 rfl ?_
          refine lv_irem hx hb d_Model_judge_143 (by decide) ?_
          refine lv_iconst (v := 1) hx hb d_Model_judge_144 rfl ?_
          refine lv_icmp_ne (tgt := 151) hx hb d_Model_judge_145 rfl (fun h28 => ?_) (fun h28 => ?_)
          · replace hq := hq.trans (if_neg h28)
            exact Cs_Model_judge_151  _ _ _ h24 (lv_sub hl [0, 1, 2, 3, 4] rfl) hP hD hS hq
          replace hq := hq.trans (if_pos h28)
          refine lv_bipush (v := 11) hx hb d_Model_judge_148 rfl ?_
          exact hret 11 () hq.symm _ _ _ _ hP hD hS d_Model_judge_150
        replace hq := hq.trans (if_neg h8)
        refine lv_iconst (v := 3) hx hb d_Model_judge_119 rfl ?_
        exact hret 3 () hq.symm _ _ _ _ hP hD hS d_Model_judge_120
      replace hq := hq.trans (if_pos h7)
      refine lv_iconst (v := 2) hx hb d_Model_judge_106 rfl ?_
      exact hret 2 () hq.symm _ _ _ _ hP hD hS d_Model_judge_107
    have hv : ((if (s_Model_has pk 64) = 0 then (0) else (if (s_Model_has pk 128) = 0 then (if (s_Model_has pk 2) = 0 then (if (s_Model_has pk 1) = 0 then (if (s_Model_has pk 32) = 0 then (if (s_Model_has pk 8) = 0 then (0) else (if y3 = 0 then (1) else (if (s_Model_has pk 4) = 0 then (0) else (1)))) else (1)) else (0)) else (0)) else (0))) : Int32) = (if (s_Model_has pk 64) = 0 then (0) else (if (s_Model_has pk 128) = 0 then (if (s_Model_has pk 2) = 0 then (if (s_Model_has pk 1) = 0 then (if (s_Model_has pk 32) = 0 then (if (s_Model_has pk 8) = 0 then (0) else (if y3 = 0 then (1) else (if (s_Model_has pk 4) = 0 then (0) else (1)))) else (1)) else (0)) else (0)) else (0))) := rfl
    refine lv_if_eq (tgt := 98) hx hb d_Model_judge_40 rfl (fun h29 => ?_) (fun h29 => ?_)
    · replace hv := hv.trans (if_pos h29)
      refine lv_iconst (v := 0) hx hb d_Model_judge_98 rfl ?_
      exact J5 _ _ _ hv.symm (Or.inl rfl) hP hD hS
    replace hv := hv.trans (if_neg h29)
    refine lv_aload_n hx hb d_Model_judge_43 rfl (lv_at hl 3 rfl) ?_
    refine lv_sipush (v := 128) hx hb d_Model_judge_44 rfl ?_
    refine xcall_i (wc := [(h0, .inr (7, [.int tg, .ref a_st, .ref a_ck, .ref a_en, .ref a_au, .ref a_he, .ref a_qu, .ref a_lo, .ref a_ow, .ref a_fl, .ref a_ti, .ref a_gd, .ref a_ak, .ref a_sp, .ref a_se, .ref a_sd, .ref a_rw, .ref a_sz, .ref a_op, .ref a_th, .ref a_me, .ref a_pk, .int (nI kc), .int cm, .int su, .ref a_re, .int (nI kq), .ref a_dr])), (a_pk, .inl (cI, 40, .inl pk))]) (wr := []) (ws1 := fun (u : Unit) => [(h0, .inr (7, [.int tg, .ref a_st, .ref a_ck, .ref a_en, .ref a_au, .ref a_he, .ref a_qu, .ref a_lo, .ref a_ow, .ref a_fl, .ref a_ti, .ref a_gd, .ref a_ak, .ref a_sp, .ref a_se, .ref a_sd, .ref a_rw, .ref a_sz, .ref a_op, .ref a_th, .ref a_me, .ref a_pk, .int (nI kc), .int cm, .int su, .ref a_re, .int (nI kq), .ref a_dr])), (a_pk, .inl (cI, 40, .inl pk))]) (va_runV (As := [.int 128]) (rest := []) ⟨hx, hb, hml, hown, hts⟩ (c_Model_has pk 128 h0 a_st a_ck a_en a_au a_he a_qu a_lo a_ow a_fl a_ti a_gd a_ak a_sp a_se a_sd a_rw a_sz a_op a_th a_me a_pk a_re a_dr tg kc cm su kq H.size) (xcwV 1 hts ww_685 ww_682 ww_684 ws_Model_has ww_8 (by decide +kernel) rfl rfl ⟨Nat.le_of_ble_eq_true rfl, Nat.le_of_ble_eq_true rfl⟩) (xPreV (ci := 7) (q0 := 0) (q := (R_Model, F_Model, 28)) (hP.sub [0, 1] rfl) (hD.sub [0, 1] (by decide) rfl) hK hN rfl rfl rfl) rfl rfl hl.1 rfl (lv_room (Nat.le_of_ble_eq_true rfl)) d_Model_judge_47 ⟨Nat.le_of_ble_eq_true rfl, Nat.le_of_ble_eq_true rfl⟩) hP hD hS hA [0, 1] [] [0, 1] rfl rfl (by decide) (by decide) (by decide) (fun _ => rfl) (fun r30 u30 H locs hw hP hD hS => ?_)
    obtain ⟨hw, hbr_30⟩ := hw
    subst hw
    replace hP : va_P D vwCl [(h0, .inr (7, [.int tg, .ref a_st, .ref a_ck, .ref a_en, .ref a_au, .ref a_he, .ref a_qu, .ref a_lo, .ref a_ow, .ref a_fl, .ref a_ti, .ref a_gd, .ref a_ak, .ref a_sp, .ref a_se, .ref a_sd, .ref a_rw, .ref a_sz, .ref a_op, .ref a_th, .ref a_me, .ref a_pk, .int (nI kc), .int cm, .int su, .ref a_re, .int (nI kq), .ref a_dr])), (a_pk, .inl (cI, 40, .inl pk))] H := hP
    replace hD : va_D A [(h0, .inr (7, [.int tg, .ref a_st, .ref a_ck, .ref a_en, .ref a_au, .ref a_he, .ref a_qu, .ref a_lo, .ref a_ow, .ref a_fl, .ref a_ti, .ref a_gd, .ref a_ak, .ref a_sp, .ref a_se, .ref a_sd, .ref a_rw, .ref a_sz, .ref a_op, .ref a_th, .ref a_me, .ref a_pk, .int (nI kc), .int cm, .int su, .ref a_re, .int (nI kq), .ref a_dr])), (a_pk, .inl (cI, 40, .inl pk))] := hD
    refine lv_if_ne (tgt := 98) hx hb d_Model_judge_50 rfl (fun h31 => ?_) (fun h31 => ?_)
    · replace hv := hv.trans (if_neg h31)
      refine lv_iconst (v := 0) hx hb d_Model_judge_98 rfl ?_
      exact J5 _ _ _ hv.symm (Or.inl rfl) hP hD hS
    replace hv := hv.trans (if_pos h31)
    refine lv_aload_n hx hb d_Model_judge_53 rfl (lv_at hl 3 rfl) ?_
    refine lv_iconst (v := 2) hx hb d_Model_judge_54 rfl ?_
    refine xcall_i (wc := [(h0, .inr (7, [.int tg, .ref a_st, .ref a_ck, .ref a_en, .ref a_au, .ref a_he, .ref a_qu, .ref a_lo, .ref a_ow, .ref a_fl, .ref a_ti, .ref a_gd, .ref a_ak, .ref a_sp, .ref a_se, .ref a_sd, .ref a_rw, .ref a_sz, .ref a_op, .ref a_th, .ref a_me, .ref a_pk, .int (nI kc), .int cm, .int su, .ref a_re, .int (nI kq), .ref a_dr])), (a_pk, .inl (cI, 40, .inl pk))]) (wr := []) (ws1 := fun (u : Unit) => [(h0, .inr (7, [.int tg, .ref a_st, .ref a_ck, .ref a_en, .ref a_au, .ref a_he, .ref a_qu, .ref a_lo, .ref a_ow, .ref a_fl, .ref a_ti, .ref a_gd, .ref a_ak, .ref a_sp, .ref a_se, .ref a_sd, .ref a_rw, .ref a_sz, .ref a_op, .ref a_th, .ref a_me, .ref a_pk, .int (nI kc), .int cm, .int su, .ref a_re, .int (nI kq), .ref a_dr])), (a_pk, .inl (cI, 40, .inl pk))]) (va_runV (As := [.int 2]) (rest := []) ⟨hx, hb, hml, hown, hts⟩ (c_Model_has pk 2 h0 a_st a_ck a_en a_au a_he a_qu a_lo a_ow a_fl a_ti a_gd a_ak a_sp a_se a_sd a_rw a_sz a_op a_th a_me a_pk a_re a_dr tg kc cm su kq H.size) (xcwV 1 hts ww_685 ww_682 ww_684 ws_Model_has ww_8 (by decide +kernel) rfl rfl ⟨Nat.le_of_ble_eq_true rfl, Nat.le_of_ble_eq_true rfl⟩) (xPreV (ci := 7) (q0 := 0) (q := (R_Model, F_Model, 28)) (hP.sub [0, 1] rfl) (hD.sub [0, 1] (by decide) rfl) hK hN rfl rfl rfl) rfl rfl hl.1 rfl (lv_room (Nat.le_of_ble_eq_true rfl)) d_Model_judge_55 ⟨Nat.le_of_ble_eq_true rfl, Nat.le_of_ble_eq_true rfl⟩) hP hD hS hA [0, 1] [] [0, 1] rfl rfl (by decide) (by decide) (by decide) (fun _ => rfl) (fun r32 u32 H locs hw hP hD hS => ?_)
    obtain ⟨hw, hbr_32⟩ := hw
    subst hw
    replace hP : va_P D vwCl [(h0, .inr (7, [.int tg, .ref a_st, .ref a_ck, .ref a_en, .ref a_au, .ref a_he, .ref a_qu, .ref a_lo, .ref a_ow, .ref a_fl, .ref a_ti, .ref a_gd, .ref a_ak, .ref a_sp, .ref a_se, .ref a_sd, .ref a_rw, .ref a_sz, .ref a_op, .ref a_th, .ref a_me, .ref a_pk, .int (nI kc), .int cm, .int su, .ref a_re, .int (nI kq), .ref a_dr])), (a_pk, .inl (cI, 40, .inl pk))] H := hP
    replace hD : va_D A [(h0, .inr (7, [.int tg, .ref a_st, .ref a_ck, .ref a_en, .ref a_au, .ref a_he, .ref a_qu, .ref a_lo, .ref a_ow, .ref a_fl, .ref a_ti, .ref a_gd, .ref a_ak, .ref a_sp, .ref a_se, .ref a_sd, .ref a_rw, .ref a_sz, .ref a_op, .ref a_th, .ref a_me, .ref a_pk, .int (nI kc), .int cm, .int su, .ref a_re, .int (nI kq), .ref a_dr])), (a_pk, .inl (cI, 40, .inl pk))] := hD
    refine lv_if_ne (tgt := 98) hx hb d_Model_judge_58 rfl (fun h33 => ?_) (fun h33 => ?_)
    · replace hv := hv.trans (if_neg h33)
      refine lv_iconst (v := 0) hx hb d_Model_judge_98 rfl ?_
      exact J5 _ _ _ hv.symm (Or.inl rfl) hP hD hS
    replace hv := hv.trans (if_pos h33)
    refine lv_aload_n hx hb d_Model_judge_61 rfl (lv_at hl 3 rfl) ?_
    refine lv_iconst (v := 1) hx hb d_Model_judge_62 rfl ?_
    refine xcall_i (wc := [(h0, .inr (7, [.int tg, .ref a_st, .ref a_ck, .ref a_en, .ref a_au, .ref a_he, .ref a_qu, .ref a_lo, .ref a_ow, .ref a_fl, .ref a_ti, .ref a_gd, .ref a_ak, .ref a_sp, .ref a_se, .ref a_sd, .ref a_rw, .ref a_sz, .ref a_op, .ref a_th, .ref a_me, .ref a_pk, .int (nI kc), .int cm, .int su, .ref a_re, .int (nI kq), .ref a_dr])), (a_pk, .inl (cI, 40, .inl pk))]) (wr := []) (ws1 := fun (u : Unit) => [(h0, .inr (7, [.int tg, .ref a_st, .ref a_ck, .ref a_en, .ref a_au, .ref a_he, .ref a_qu, .ref a_lo, .ref a_ow, .ref a_fl, .ref a_ti, .ref a_gd, .ref a_ak, .ref a_sp, .ref a_se, .ref a_sd, .ref a_rw, .ref a_sz, .ref a_op, .ref a_th, .ref a_me, .ref a_pk, .int (nI kc), .int cm, .int su, .ref a_re, .int (nI kq), .ref a_dr])), (a_pk, .inl (cI, 40, .inl pk))]) (va_runV (As := [.int 1]) (rest := []) ⟨hx, hb, hml, hown, hts⟩ (c_Model_has pk 1 h0 a_st a_ck a_en a_au a_he a_qu a_lo a_ow a_fl a_ti a_gd a_ak a_sp a_se a_sd a_rw a_sz a_op a_th a_me a_pk a_re a_dr tg kc cm su kq H.size) (xcwV 1 hts ww_685 ww_682 ww_684 ws_Model_has ww_8 (by decide +kernel) rfl rfl ⟨Nat.le_of_ble_eq_true rfl, Nat.le_of_ble_eq_true rfl⟩) (xPreV (ci := 7) (q0 := 0) (q := (R_Model, F_Model, 28)) (hP.sub [0, 1] rfl) (hD.sub [0, 1] (by decide) rfl) hK hN rfl rfl rfl) rfl rfl hl.1 rfl (lv_room (Nat.le_of_ble_eq_true rfl)) d_Model_judge_63 ⟨Nat.le_of_ble_eq_true rfl, Nat.le_of_ble_eq_true rfl⟩) hP hD hS hA [0, 1] [] [0, 1] rfl rfl (by decide) (by decide) (by decide) (fun _ => rfl) (fun r34 u34 H locs hw hP hD hS => ?_)
    obtain ⟨hw, hbr_34⟩ := hw
    subst hw
    replace hP : va_P D vwCl [(h0, .inr (7, [.int tg, .ref a_st, .ref a_ck, .ref a_en, .ref a_au, .ref a_he, .ref a_qu, .ref a_lo, .ref a_ow, .ref a_fl, .ref a_ti, .ref a_gd, .ref a_ak, .ref a_sp, .ref a_se, .ref a_sd, .ref a_rw, .ref a_sz, .ref a_op, .ref a_th, .ref a_me, .ref a_pk, .int (nI kc), .int cm, .int su, .ref a_re, .int (nI kq), .ref a_dr])), (a_pk, .inl (cI, 40, .inl pk))] H := hP
    replace hD : va_D A [(h0, .inr (7, [.int tg, .ref a_st, .ref a_ck, .ref a_en, .ref a_au, .ref a_he, .ref a_qu, .ref a_lo, .ref a_ow, .ref a_fl, .ref a_ti, .ref a_gd, .ref a_ak, .ref a_sp, .ref a_se, .ref a_sd, .ref a_rw, .ref a_sz, .ref a_op, .ref a_th, .ref a_me, .ref a_pk, .int (nI kc), .int cm, .int su, .ref a_re, .int (nI kq), .ref a_dr])), (a_pk, .inl (cI, 40, .inl pk))] := hD
    refine lv_if_ne (tgt := 98) hx hb d_Model_judge_66 rfl (fun h35 => ?_) (fun h35 => ?_)
    · replace hv := hv.trans (if_neg h35)
      refine lv_iconst (v := 0) hx hb d_Model_judge_98 rfl ?_
      exact J5 _ _ _ hv.symm (Or.inl rfl) hP hD hS
    replace hv := hv.trans (if_pos h35)
    refine lv_iload_n hx hb d_Model_judge_69 rfl (lv_at hl 1 rfl) ?_
    refine lv_if_ne (tgt := 94) hx hb d_Model_judge_70 rfl (fun h36 => ?_) (fun h36 => ?_)
    · replace hv := hv.trans (if_neg h36)
      refine lv_iconst (v := 1) hx hb d_Model_judge_94 rfl ?_
      refine lv_goto (tgt := 99) hx hb d_Model_judge_95 rfl ?_
      exact J5 _ _ _ hv.symm (Or.inr rfl) hP hD hS
    replace hv := hv.trans (if_pos h36)
    refine lv_aload_n hx hb d_Model_judge_73 rfl (lv_at hl 3 rfl) ?_
    refine lv_bipush (v := 8) hx hb d_Model_judge_74 rfl ?_
    refine xcall_i (wc := [(h0, .inr (7, [.int tg, .ref a_st, .ref a_ck, .ref a_en, .ref a_au, .ref a_he, .ref a_qu, .ref a_lo, .ref a_ow, .ref a_fl, .ref a_ti, .ref a_gd, .ref a_ak, .ref a_sp, .ref a_se, .ref a_sd, .ref a_rw, .ref a_sz, .ref a_op, .ref a_th, .ref a_me, .ref a_pk, .int (nI kc), .int cm, .int su, .ref a_re, .int (nI kq), .ref a_dr])), (a_pk, .inl (cI, 40, .inl pk))]) (wr := []) (ws1 := fun (u : Unit) => [(h0, .inr (7, [.int tg, .ref a_st, .ref a_ck, .ref a_en, .ref a_au, .ref a_he, .ref a_qu, .ref a_lo, .ref a_ow, .ref a_fl, .ref a_ti, .ref a_gd, .ref a_ak, .ref a_sp, .ref a_se, .ref a_sd, .ref a_rw, .ref a_sz, .ref a_op, .ref a_th, .ref a_me, .ref a_pk, .int (nI kc), .int cm, .int su, .ref a_re, .int (nI kq), .ref a_dr])), (a_pk, .inl (cI, 40, .inl pk))]) (va_runV (As := [.int 8]) (rest := []) ⟨hx, hb, hml, hown, hts⟩ (c_Model_has pk 8 h0 a_st a_ck a_en a_au a_he a_qu a_lo a_ow a_fl a_ti a_gd a_ak a_sp a_se a_sd a_rw a_sz a_op a_th a_me a_pk a_re a_dr tg kc cm su kq H.size) (xcwV 1 hts ww_685 ww_682 ww_684 ws_Model_has ww_8 (by decide +kernel) rfl rfl ⟨Nat.le_of_ble_eq_true rfl, Nat.le_of_ble_eq_true rfl⟩) (xPreV (ci := 7) (q0 := 0) (q := (R_Model, F_Model, 28)) (hP.sub [0, 1] rfl) (hD.sub [0, 1] (by decide) rfl) hK hN rfl rfl rfl) rfl rfl hl.1 rfl (lv_room (Nat.le_of_ble_eq_true rfl)) d_Model_judge_76 ⟨Nat.le_of_ble_eq_true rfl, Nat.le_of_ble_eq_true rfl⟩) hP hD hS hA [0, 1] [] [0, 1] rfl rfl (by decide) (by decide) (by decide) (fun _ => rfl) (fun r37 u37 H locs hw hP hD hS => ?_)
    obtain ⟨hw, hbr_37⟩ := hw
    subst hw
    replace hP : va_P D vwCl [(h0, .inr (7, [.int tg, .ref a_st, .ref a_ck, .ref a_en, .ref a_au, .ref a_he, .ref a_qu, .ref a_lo, .ref a_ow, .ref a_fl, .ref a_ti, .ref a_gd, .ref a_ak, .ref a_sp, .ref a_se, .ref a_sd, .ref a_rw, .ref a_sz, .ref a_op, .ref a_th, .ref a_me, .ref a_pk, .int (nI kc), .int cm, .int su, .ref a_re, .int (nI kq), .ref a_dr])), (a_pk, .inl (cI, 40, .inl pk))] H := hP
    replace hD : va_D A [(h0, .inr (7, [.int tg, .ref a_st, .ref a_ck, .ref a_en, .ref a_au, .ref a_he, .ref a_qu, .ref a_lo, .ref a_ow, .ref a_fl, .ref a_ti, .ref a_gd, .ref a_ak, .ref a_sp, .ref a_se, .ref a_sd, .ref a_rw, .ref a_sz, .ref a_op, .ref a_th, .ref a_me, .ref a_pk, .int (nI kc), .int cm, .int su, .ref a_re, .int (nI kq), .ref a_dr])), (a_pk, .inl (cI, 40, .inl pk))] := hD
    refine lv_if_eq (tgt := 98) hx hb d_Model_judge_79 rfl (fun h38 => ?_) (fun h38 => ?_)
    · replace hv := hv.trans (if_pos h38)
      refine lv_iconst (v := 0) hx hb d_Model_judge_98 rfl ?_
      exact J5 _ _ _ hv.symm (Or.inl rfl) hP hD hS
    replace hv := hv.trans (if_neg h38)
    refine lv_iload_n hx hb d_Model_judge_82 rfl (lv_at hl 0 rfl) ?_
    refine lv_if_eq (tgt := 94) hx hb d_Model_judge_83 rfl (fun h39 => ?_) (fun h39 => ?_)
    · replace hv := hv.trans (if_pos h39)
      refine lv_iconst (v := 1) hx hb d_Model_judge_94 rfl ?_
      refine lv_goto (tgt := 99) hx hb d_Model_judge_95 rfl ?_
      exact J5 _ _ _ hv.symm (Or.inr rfl) hP hD hS
    replace hv := hv.trans (if_neg h39)
    refine lv_aload_n hx hb d_Model_judge_86 rfl (lv_at hl 3 rfl) ?_
    refine lv_iconst (v := 4) hx hb d_Model_judge_87 rfl ?_
    refine xcall_i (wc := [(h0, .inr (7, [.int tg, .ref a_st, .ref a_ck, .ref a_en, .ref a_au, .ref a_he, .ref a_qu, .ref a_lo, .ref a_ow, .ref a_fl, .ref a_ti, .ref a_gd, .ref a_ak, .ref a_sp, .ref a_se, .ref a_sd, .ref a_rw, .ref a_sz, .ref a_op, .ref a_th, .ref a_me, .ref a_pk, .int (nI kc), .int cm, .int su, .ref a_re, .int (nI kq), .ref a_dr])), (a_pk, .inl (cI, 40, .inl pk))]) (wr := []) (ws1 := fun (u : Unit) => [(h0, .inr (7, [.int tg, .ref a_st, .ref a_ck, .ref a_en, .ref a_au, .ref a_he, .ref a_qu, .ref a_lo, .ref a_ow, .ref a_fl, .ref a_ti, .ref a_gd, .ref a_ak, .ref a_sp, .ref a_se, .ref a_sd, .ref a_rw, .ref a_sz, .ref a_op, .ref a_th, .ref a_me, .ref a_pk, .int (nI kc), .int cm, .int su, .ref a_re, .int (nI kq), .ref a_dr])), (a_pk, .inl (cI, 40, .inl pk))]) (va_runV (As := [.int 4]) (rest := []) ⟨hx, hb, hml, hown, hts⟩ (c_Model_has pk 4 h0 a_st a_ck a_en a_au a_he a_qu a_lo a_ow a_fl a_ti a_gd a_ak a_sp a_se a_sd a_rw a_sz a_op a_th a_me a_pk a_re a_dr tg kc cm su kq H.size) (xcwV 1 hts ww_685 ww_682 ww_684 ws_Model_has ww_8 (by decide +kernel) rfl rfl ⟨Nat.le_of_ble_eq_true rfl, Nat.le_of_ble_eq_true rfl⟩) (xPreV (ci := 7) (q0 := 0) (q := (R_Model, F_Model, 28)) (hP.sub [0, 1] rfl) (hD.sub [0, 1] (by decide) rfl) hK hN rfl rfl rfl) rfl rfl hl.1 rfl (lv_room (Nat.le_of_ble_eq_true rfl)) d_Model_judge_88 ⟨Nat.le_of_ble_eq_true rfl, Nat.le_of_ble_eq_true rfl⟩) hP hD hS hA [0, 1] [] [0, 1] rfl rfl (by decide) (by decide) (by decide) (fun _ => rfl) (fun r40 u40 H locs hw hP hD hS => ?_)
    obtain ⟨hw, hbr_40⟩ := hw
    subst hw
    replace hP : va_P D vwCl [(h0, .inr (7, [.int tg, .ref a_st, .ref a_ck, .ref a_en, .ref a_au, .ref a_he, .ref a_qu, .ref a_lo, .ref a_ow, .ref a_fl, .ref a_ti, .ref a_gd, .ref a_ak, .ref a_sp, .ref a_se, .ref a_sd, .ref a_rw, .ref a_sz, .ref a_op, .ref a_th, .ref a_me, .ref a_pk, .int (nI kc), .int cm, .int su, .ref a_re, .int (nI kq), .ref a_dr])), (a_pk, .inl (cI, 40, .inl pk))] H := hP
    replace hD : va_D A [(h0, .inr (7, [.int tg, .ref a_st, .ref a_ck, .ref a_en, .ref a_au, .ref a_he, .ref a_qu, .ref a_lo, .ref a_ow, .ref a_fl, .ref a_ti, .ref a_gd, .ref a_ak, .ref a_sp, .ref a_se, .ref a_sd, .ref a_rw, .ref a_sz, .ref a_op, .ref a_th, .ref a_me, .ref a_pk, .int (nI kc), .int cm, .int su, .ref a_re, .int (nI kq), .ref a_dr])), (a_pk, .inl (cI, 40, .inl pk))] := hD
    refine lv_if_eq (tgt := 98) hx hb d_Model_judge_91 rfl (fun h41 => ?_) (fun h41 => ?_)
    · replace hv := hv.trans (if_pos h41)
      refine lv_iconst (v := 0) hx hb d_Model_judge_98 rfl ?_
      exact J5 _ _ _ hv.symm (Or.inl rfl) hP hD hS
    replace hv := hv.trans (if_neg h41)
    refine lv_iconst (v := 1) hx hb d_Model_judge_94 rfl ?_
    refine lv_goto (tgt := 99) hx hb d_Model_judge_95 rfl ?_
    exact J5 _ _ _ hv.symm (Or.inr rfl) hP hD hS
  have hv : ((if (s_Model_has pk 32) = 0 then (if (s_Model_has pk 16) = 0 then (0) else (1)) else (0)) : Int32) = (if (s_Model_has pk 32) = 0 then (if (s_Model_has pk 16) = 0 then (0) else (1)) else (0)) := rfl
  refine lv_if_ne (tgt := 32) hx hb d_Model_judge_16 rfl (fun h42 => ?_) (fun h42 => ?_)
  · replace hv := hv.trans (if_neg h42)
    refine lv_iconst (v := 0) hx hb d_Model_judge_32 rfl ?_
    exact J2 _ _ _ hv.symm (Or.inl rfl) hP hD hS
  replace hv := hv.trans (if_pos h42)
  refine lv_aload_n hx hb d_Model_judge_19 rfl (lv_at hl 2 rfl) ?_
  refine lv_bipush (v := 16) hx hb d_Model_judge_20 rfl ?_
  refine xcall_i (wc := [(h0, .inr (7, [.int tg, .ref a_st, .ref a_ck, .ref a_en, .ref a_au, .ref a_he, .ref a_qu, .ref a_lo, .ref a_ow, .ref a_fl, .ref a_ti, .ref a_gd, .ref a_ak, .ref a_sp, .ref a_se, .ref a_sd, .ref a_rw, .ref a_sz, .ref a_op, .ref a_th, .ref a_me, .ref a_pk, .int (nI kc), .int cm, .int su, .ref a_re, .int (nI kq), .ref a_dr])), (a_pk, .inl (cI, 40, .inl pk))]) (wr := []) (ws1 := fun (u : Unit) => [(h0, .inr (7, [.int tg, .ref a_st, .ref a_ck, .ref a_en, .ref a_au, .ref a_he, .ref a_qu, .ref a_lo, .ref a_ow, .ref a_fl, .ref a_ti, .ref a_gd, .ref a_ak, .ref a_sp, .ref a_se, .ref a_sd, .ref a_rw, .ref a_sz, .ref a_op, .ref a_th, .ref a_me, .ref a_pk, .int (nI kc), .int cm, .int su, .ref a_re, .int (nI kq), .ref a_dr])), (a_pk, .inl (cI, 40, .inl pk))]) (va_runV (As := [.int 16]) (rest := []) ⟨hx, hb, hml, hown, hts⟩ (c_Model_has pk 16 h0 a_st a_ck a_en a_au a_he a_qu a_lo a_ow a_fl a_ti a_gd a_ak a_sp a_se a_sd a_rw a_sz a_op a_th a_me a_pk a_re a_dr tg kc cm su kq H.size) (xcwV 1 hts ww_685 ww_682 ww_684 ws_Model_has ww_8 (by decide +kernel) rfl rfl ⟨Nat.le_of_ble_eq_true rfl, Nat.le_of_ble_eq_true rfl⟩) (xPreV (ci := 7) (q0 := 0) (q := (R_Model, F_Model, 28)) (hP.sub [0, 1] rfl) (hD.sub [0, 1] (by decide) rfl) hK hN rfl rfl rfl) rfl rfl hl.1 rfl (lv_room (Nat.le_of_ble_eq_true rfl)) d_Model_judge_22 ⟨Nat.le_of_ble_eq_true rfl, Nat.le_of_ble_eq_true rfl⟩) hP hD hS hA [0, 1] [] [0, 1] rfl rfl (by decide) (by decide) (by decide) (fun _ => rfl) (fun r43 u43 H locs hw hP hD hS => ?_)
  obtain ⟨hw, hbr_43⟩ := hw
  subst hw
  replace hP : va_P D vwCl [(h0, .inr (7, [.int tg, .ref a_st, .ref a_ck, .ref a_en, .ref a_au, .ref a_he, .ref a_qu, .ref a_lo, .ref a_ow, .ref a_fl, .ref a_ti, .ref a_gd, .ref a_ak, .ref a_sp, .ref a_se, .ref a_sd, .ref a_rw, .ref a_sz, .ref a_op, .ref a_th, .ref a_me, .ref a_pk, .int (nI kc), .int cm, .int su, .ref a_re, .int (nI kq), .ref a_dr])), (a_pk, .inl (cI, 40, .inl pk))] H := hP
  replace hD : va_D A [(h0, .inr (7, [.int tg, .ref a_st, .ref a_ck, .ref a_en, .ref a_au, .ref a_he, .ref a_qu, .ref a_lo, .ref a_ow, .ref a_fl, .ref a_ti, .ref a_gd, .ref a_ak, .ref a_sp, .ref a_se, .ref a_sd, .ref a_rw, .ref a_sz, .ref a_op, .ref a_th, .ref a_me, .ref a_pk, .int (nI kc), .int cm, .int su, .ref a_re, .int (nI kq), .ref a_dr])), (a_pk, .inl (cI, 40, .inl pk))] := hD
  refine lv_if_eq (tgt := 32) hx hb d_Model_judge_25 rfl (fun h44 => ?_) (fun h44 => ?_)
  · replace hv := hv.trans (if_pos h44)
    refine lv_iconst (v := 0) hx hb d_Model_judge_32 rfl ?_
    exact J2 _ _ _ hv.symm (Or.inl rfl) hP hD hS
  replace hv := hv.trans (if_neg h44)
  refine lv_iconst (v := 1) hx hb d_Model_judge_28 rfl ?_
  refine lv_goto (tgt := 33) hx hb d_Model_judge_29 rfl ?_
  exact J2 _ _ _ hv.symm (Or.inr rfl) hP hD hS

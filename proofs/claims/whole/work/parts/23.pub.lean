theorem d_Model_control_0 : decode b_Model_control 0 = .ok (.iload_n 1, 1) := by decide +kernel
theorem d_Model_control_1 : decode b_Model_control 1 = .ok (.invokestatic 173, 3) := by decide +kernel
theorem d_Model_control_4 : decode b_Model_control 4 = .ok (.ifCond .ne 5, 3) := by decide +kernel
theorem d_Model_control_7 : decode b_Model_control 7 = .ok (.iconst 0, 1) := by decide +kernel
theorem d_Model_control_8 : decode b_Model_control 8 = .ok (.ireturn, 1) := by decide +kernel
theorem d_Model_control_9 : decode b_Model_control 9 = .ok (.aload_n 0, 1) := by decide +kernel
theorem d_Model_control_10 : decode b_Model_control 10 = .ok (.getfield 16, 3) := by decide +kernel
theorem d_Model_control_13 : decode b_Model_control 13 = .ok (.iload_n 1, 1) := by decide +kernel
theorem d_Model_control_14 : decode b_Model_control 14 = .ok (.iload_n 2, 1) := by decide +kernel
theorem d_Model_control_15 : decode b_Model_control 15 = .ok (.bastore, 1) := by decide +kernel
theorem d_Model_control_16 : decode b_Model_control 16 = .ok (.aload_n 0, 1) := by decide +kernel
theorem d_Model_control_17 : decode b_Model_control 17 = .ok (.getfield 20, 3) := by decide +kernel
theorem d_Model_control_20 : decode b_Model_control 20 = .ok (.iload_n 1, 1) := by decide +kernel
theorem d_Model_control_21 : decode b_Model_control 21 = .ok (.iload_n 3, 1) := by decide +kernel
theorem d_Model_control_22 : decode b_Model_control 22 = .ok (.bastore, 1) := by decide +kernel
theorem d_Model_control_23 : decode b_Model_control 23 = .ok (.iconst 1, 1) := by decide +kernel
theorem d_Model_control_24 : decode b_Model_control 24 = .ok (.ireturn, 1) := by decide +kernel
theorem d_Model_put_0 : decode b_Model_put 0 = .ok (.iload_n 1, 1) := by decide +kernel
theorem d_Model_put_1 : decode b_Model_put 1 = .ok (.invokestatic 173, 3) := by decide +kernel
theorem d_Model_put_4 : decode b_Model_put 4 = .ok (.ifCond .eq 14, 3) := by decide +kernel
theorem d_Model_put_7 : decode b_Model_put 7 = .ok (.iload_n 2, 1) := by decide +kernel
theorem d_Model_put_8 : decode b_Model_put 8 = .ok (.ifCond .lt 10, 3) := by decide +kernel
theorem d_Model_put_11 : decode b_Model_put 11 = .ok (.iload_n 2, 1) := by decide +kernel
theorem d_Model_put_12 : decode b_Model_put 12 = .ok (.sipush 257, 3) := by decide +kernel
theorem d_Model_put_15 : decode b_Model_put 15 = .ok (.if_icmp .le 5, 3) := by decide +kernel
theorem d_Model_put_18 : decode b_Model_put 18 = .ok (.iconst (-1), 1) := by decide +kernel
theorem d_Model_put_19 : decode b_Model_put 19 = .ok (.ireturn, 1) := by decide +kernel
theorem d_Model_put_20 : decode b_Model_put 20 = .ok (.aload_n 0, 1) := by decide +kernel
theorem d_Model_put_21 : decode b_Model_put 21 = .ok (.getfield 59, 3) := by decide +kernel
theorem d_Model_put_24 : decode b_Model_put 24 = .ok (.iconst 2, 1) := by decide +kernel
theorem d_Model_put_25 : decode b_Model_put 25 = .ok (.iload_n 1, 1) := by decide +kernel
theorem d_Model_put_26 : decode b_Model_put 26 = .ok (.imul, 1) := by decide +kernel
theorem d_Model_put_27 : decode b_Model_put 27 = .ok (.iaload, 1) := by decide +kernel
theorem d_Model_put_28 : decode b_Model_put 28 = .ok (.bipush 64, 2) := by decide +kernel
theorem d_Model_put_30 : decode b_Model_put 30 = .ok (.if_icmp .ne 6, 3) := by decide +kernel
theorem d_Model_put_33 : decode b_Model_put 33 = .ok (.bipush (-2), 2) := by decide +kernel
theorem d_Model_put_35 : decode b_Model_put 35 = .ok (.ireturn, 1) := by decide +kernel
theorem d_Model_put_36 : decode b_Model_put 36 = .ok (.aload_n 0, 1) := by decide +kernel
theorem d_Model_put_37 : decode b_Model_put 37 = .ok (.iload_n 1, 1) := by decide +kernel
theorem d_Model_put_38 : decode b_Model_put 38 = .ok (.iload_n 2, 1) := by decide +kernel
theorem d_Model_put_39 : decode b_Model_put 39 = .ok (.invokevirtual 170, 3) := by decide +kernel
theorem d_Model_put_42 : decode b_Model_put 42 = .ok (.aload_n 0, 1) := by decide +kernel
theorem d_Model_put_43 : decode b_Model_put 43 = .ok (.getfield 59, 3) := by decide +kernel
theorem d_Model_put_46 : decode b_Model_put 46 = .ok (.iconst 2, 1) := by decide +kernel
theorem d_Model_put_47 : decode b_Model_put 47 = .ok (.iload_n 1, 1) := by decide +kernel
theorem d_Model_put_48 : decode b_Model_put 48 = .ok (.imul, 1) := by decide +kernel
theorem d_Model_put_49 : decode b_Model_put 49 = .ok (.iaload, 1) := by decide +kernel
theorem d_Model_put_50 : decode b_Model_put 50 = .ok (.ireturn, 1) := by decide +kernel
theorem d_Model_take_0 : decode b_Model_take 0 = .ok (.iload_n 1, 1) := by decide +kernel
theorem d_Model_take_1 : decode b_Model_take 1 = .ok (.invokestatic 173, 3) := by decide +kernel
theorem d_Model_take_4 : decode b_Model_take 4 = .ok (.ifCond .eq 15, 3) := by decide +kernel
theorem d_Model_take_7 : decode b_Model_take 7 = .ok (.iload_n 1, 1) := by decide +kernel
theorem d_Model_take_8 : decode b_Model_take 8 = .ok (.iconst 1, 1) := by decide +kernel
theorem d_Model_take_9 : decode b_Model_take 9 = .ok (.if_icmp .ne 12, 3) := by decide +kernel
theorem d_Model_take_12 : decode b_Model_take 12 = .ok (.aload_n 0, 1) := by decide +kernel
theorem d_Model_take_13 : decode b_Model_take 13 = .ok (.getfield 84, 3) := by decide +kernel
theorem d_Model_take_16 : decode b_Model_take 16 = .ok (.ifCond .eq 5, 3) := by decide +kernel
theorem d_Model_take_19 : decode b_Model_take 19 = .ok (.iconst (-1), 1) := by decide +kernel
theorem d_Model_take_20 : decode b_Model_take 20 = .ok (.ireturn, 1) := by decide +kernel
theorem d_Model_take_21 : decode b_Model_take 21 = .ok (.aload_n 0, 1) := by decide +kernel
theorem d_Model_take_22 : decode b_Model_take 22 = .ok (.getfield 59, 3) := by decide +kernel
theorem d_Model_take_25 : decode b_Model_take 25 = .ok (.iconst 2, 1) := by decide +kernel
theorem d_Model_take_26 : decode b_Model_take 26 = .ok (.iload_n 1, 1) := by decide +kernel
theorem d_Model_take_27 : decode b_Model_take 27 = .ok (.imul, 1) := by decide +kernel
theorem d_Model_take_28 : decode b_Model_take 28 = .ok (.iconst 1, 1) := by decide +kernel
theorem d_Model_take_29 : decode b_Model_take 29 = .ok (.iadd, 1) := by decide +kernel
theorem d_Model_take_30 : decode b_Model_take 30 = .ok (.iaload, 1) := by decide +kernel
theorem d_Model_take_31 : decode b_Model_take 31 = .ok (.ifCond .ne 8, 3) := by decide +kernel
theorem d_Model_take_34 : decode b_Model_take 34 = .ok (.bipush (-3), 2) := by decide +kernel
theorem d_Model_take_36 : decode b_Model_take 36 = .ok (.goto 12, 3) := by decide +kernel
theorem d_Model_take_39 : decode b_Model_take 39 = .ok (.aload_n 0, 1) := by decide +kernel
theorem d_Model_take_40 : decode b_Model_take 40 = .ok (.iconst 2, 1) := by decide +kernel
theorem d_Model_take_41 : decode b_Model_take 41 = .ok (.iload_n 1, 1) := by decide +kernel
theorem d_Model_take_42 : decode b_Model_take 42 = .ok (.imul, 1) := by decide +kernel
theorem d_Model_take_43 : decode b_Model_take 43 = .ok (.iconst 1, 1) := by decide +kernel
theorem d_Model_take_44 : decode b_Model_take 44 = .ok (.iadd, 1) := by decide +kernel
theorem d_Model_take_45 : decode b_Model_take 45 = .ok (.invokevirtual 92, 3) := by decide +kernel
theorem d_Model_take_48 : decode b_Model_take 48 = .ok (.ireturn, 1) := by decide +kernel
theorem d_Model_sendTime_0 : decode b_Model_sendTime 0 = .ok (.iload_n 1, 1) := by decide +kernel
theorem d_Model_sendTime_1 : decode b_Model_sendTime 1 = .ok (.invokestatic 173, 3) := by decide +kernel
theorem d_Model_sendTime_4 : decode b_Model_sendTime 4 = .ok (.ifCond .eq 12, 3) := by decide +kernel
theorem d_Model_sendTime_7 : decode b_Model_sendTime 7 = .ok (.iload_n 2, 1) := by decide +kernel
theorem d_Model_sendTime_8 : decode b_Model_sendTime 8 = .ok (.bipush 63, 2) := by decide +kernel
theorem d_Model_sendTime_10 : decode b_Model_sendTime 10 = .ok (.invokestatic 176, 3) := by decide +kernel
theorem d_Model_sendTime_13 : decode b_Model_sendTime 13 = .ok (.ifCond .ne 5, 3) := by decide +kernel
theorem d_Model_sendTime_16 : decode b_Model_sendTime 16 = .ok (.iconst 0, 1) := by decide +kernel
theorem d_Model_sendTime_17 : decode b_Model_sendTime 17 = .ok (.ireturn, 1) := by decide +kernel
theorem d_Model_sendTime_18 : decode b_Model_sendTime 18 = .ok (.aload_n 0, 1) := by decide +kernel
theorem d_Model_sendTime_19 : decode b_Model_sendTime 19 = .ok (.getfield 44, 3) := by decide +kernel
theorem d_Model_sendTime_22 : decode b_Model_sendTime 22 = .ok (.iload_n 1, 1) := by decide +kernel
theorem d_Model_sendTime_23 : decode b_Model_sendTime 23 = .ok (.iload_n 2, 1) := by decide +kernel
theorem d_Model_sendTime_24 : decode b_Model_sendTime 24 = .ok (.iastore, 1) := by decide +kernel
theorem d_Model_sendTime_25 : decode b_Model_sendTime 25 = .ok (.iconst 1, 1) := by decide +kernel
theorem d_Model_sendTime_26 : decode b_Model_sendTime 26 = .ok (.ireturn, 1) := by decide +kernel
theorem d_Model_spoil_0 : decode b_Model_spoil 0 = .ok (.iload_n 1, 1) := by decide +kernel
theorem d_Model_spoil_1 : decode b_Model_spoil 1 = .ok (.invokestatic 173, 3) := by decide +kernel
theorem d_Model_spoil_4 : decode b_Model_spoil 4 = .ok (.ifCond .ne 5, 3) := by decide +kernel
theorem d_Model_spoil_7 : decode b_Model_spoil 7 = .ok (.iconst 0, 1) := by decide +kernel
theorem d_Model_spoil_8 : decode b_Model_spoil 8 = .ok (.ireturn, 1) := by decide +kernel
theorem d_Model_spoil_9 : decode b_Model_spoil 9 = .ok (.aload_n 0, 1) := by decide +kernel
theorem d_Model_spoil_10 : decode b_Model_spoil 10 = .ok (.getfield 47, 3) := by decide +kernel
theorem d_Model_spoil_13 : decode b_Model_spoil 13 = .ok (.iload_n 1, 1) := by decide +kernel
theorem d_Model_spoil_14 : decode b_Model_spoil 14 = .ok (.iconst 1, 1) := by decide +kernel
theorem d_Model_spoil_15 : decode b_Model_spoil 15 = .ok (.bastore, 1) := by decide +kernel
theorem d_Model_spoil_16 : decode b_Model_spoil 16 = .ok (.iconst 1, 1) := by decide +kernel
theorem d_Model_spoil_17 : decode b_Model_spoil 17 = .ok (.ireturn, 1) := by decide +kernel
theorem d_Model_look_0 : decode b_Model_look 0 = .ok (.iload_n 1, 1) := by decide +kernel
theorem d_Model_look_1 : decode b_Model_look 1 = .ok (.invokestatic 173, 3) := by decide +kernel
theorem d_Model_look_4 : decode b_Model_look 4 = .ok (.ifCond .ne 5, 3) := by decide +kernel
theorem d_Model_look_7 : decode b_Model_look 7 = .ok (.iconst (-1), 1) := by decide +kernel
theorem d_Model_look_8 : decode b_Model_look 8 = .ok (.ireturn, 1) := by decide +kernel
theorem d_Model_look_9 : decode b_Model_look 9 = .ok (.iload_n 2, 1) := by decide +kernel
theorem d_Model_look_10 : decode b_Model_look 10 = .ok (.tableswitch 130 0 9 #[54, 61, 68, 75, 82, 91, 102, 109, 116, 123], 54) := by decide +kernel
theorem d_Model_look_64 : decode b_Model_look 64 = .ok (.aload_n 0, 1) := by decide +kernel
theorem d_Model_look_65 : decode b_Model_look 65 = .ok (.getfield 7, 3) := by decide +kernel
theorem d_Model_look_68 : decode b_Model_look 68 = .ok (.iload_n 1, 1) := by decide +kernel
theorem d_Model_look_69 : decode b_Model_look 69 = .ok (.iaload, 1) := by decide +kernel
theorem d_Model_look_70 : decode b_Model_look 70 = .ok (.ireturn, 1) := by decide +kernel
theorem d_Model_look_71 : decode b_Model_look 71 = .ok (.aload_n 0, 1) := by decide +kernel
theorem d_Model_look_72 : decode b_Model_look 72 = .ok (.getfield 13, 3) := by decide +kernel
theorem d_Model_look_75 : decode b_Model_look 75 = .ok (.iload_n 1, 1) := by decide +kernel
theorem d_Model_look_76 : decode b_Model_look 76 = .ok (.iaload, 1) := by decide +kernel
theorem d_Model_look_77 : decode b_Model_look 77 = .ok (.ireturn, 1) := by decide +kernel
theorem d_Model_look_78 : decode b_Model_look 78 = .ok (.aload_n 0, 1) := by decide +kernel
theorem d_Model_look_79 : decode b_Model_look 79 = .ok (.getfield 29, 3) := by decide +kernel
theorem d_Model_look_82 : decode b_Model_look 82 = .ok (.iload_n 1, 1) := by decide +kernel
theorem d_Model_look_83 : decode b_Model_look 83 = .ok (.iaload, 1) := by decide +kernel
theorem d_Model_look_84 : decode b_Model_look 84 = .ok (.ireturn, 1) := by decide +kernel
theorem d_Model_look_85 : decode b_Model_look 85 = .ok (.aload_n 0, 1) := by decide +kernel
theorem d_Model_look_86 : decode b_Model_look 86 = .ok (.getfield 32, 3) := by decide +kernel
theorem d_Model_look_89 : decode b_Model_look 89 = .ok (.iload_n 1, 1) := by decide +kernel
theorem d_Model_look_90 : decode b_Model_look 90 = .ok (.iaload, 1) := by decide +kernel
theorem d_Model_look_91 : decode b_Model_look 91 = .ok (.ireturn, 1) := by decide +kernel
theorem d_Model_look_92 : decode b_Model_look 92 = .ok (.aload_n 0, 1) := by decide +kernel
theorem d_Model_look_93 : decode b_Model_look 93 = .ok (.getfield 59, 3) := by decide +kernel
theorem d_Model_look_96 : decode b_Model_look 96 = .ok (.iconst 2, 1) := by decide +kernel
theorem d_Model_look_97 : decode b_Model_look 97 = .ok (.iload_n 1, 1) := by decide +kernel
theorem d_Model_look_98 : decode b_Model_look 98 = .ok (.imul, 1) := by decide +kernel
theorem d_Model_look_99 : decode b_Model_look 99 = .ok (.iaload, 1) := by decide +kernel
theorem d_Model_look_100 : decode b_Model_look 100 = .ok (.ireturn, 1) := by decide +kernel
theorem d_Model_look_101 : decode b_Model_look 101 = .ok (.aload_n 0, 1) := by decide +kernel
theorem d_Model_look_102 : decode b_Model_look 102 = .ok (.getfield 59, 3) := by decide +kernel
theorem d_Model_look_105 : decode b_Model_look 105 = .ok (.iconst 2, 1) := by decide +kernel
theorem d_Model_look_106 : decode b_Model_look 106 = .ok (.iload_n 1, 1) := by decide +kernel
theorem d_Model_look_107 : decode b_Model_look 107 = .ok (.imul, 1) := by decide +kernel
theorem d_Model_look_108 : decode b_Model_look 108 = .ok (.iconst 1, 1) := by decide +kernel
theorem d_Model_look_109 : decode b_Model_look 109 = .ok (.iadd, 1) := by decide +kernel
theorem d_Model_look_110 : decode b_Model_look 110 = .ok (.iaload, 1) := by decide +kernel
theorem d_Model_look_111 : decode b_Model_look 111 = .ok (.ireturn, 1) := by decide +kernel
theorem d_Model_look_112 : decode b_Model_look 112 = .ok (.aload_n 0, 1) := by decide +kernel
theorem d_Model_look_113 : decode b_Model_look 113 = .ok (.getfield 35, 3) := by decide +kernel
theorem d_Model_look_116 : decode b_Model_look 116 = .ok (.iload_n 1, 1) := by decide +kernel
theorem d_Model_look_117 : decode b_Model_look 117 = .ok (.iaload, 1) := by decide +kernel
theorem d_Model_look_118 : decode b_Model_look 118 = .ok (.ireturn, 1) := by decide +kernel
theorem d_Model_look_119 : decode b_Model_look 119 = .ok (.aload_n 0, 1) := by decide +kernel
theorem d_Model_look_120 : decode b_Model_look 120 = .ok (.getfield 38, 3) := by decide +kernel
theorem d_Model_look_123 : decode b_Model_look 123 = .ok (.iload_n 1, 1) := by decide +kernel
theorem d_Model_look_124 : decode b_Model_look 124 = .ok (.iaload, 1) := by decide +kernel
theorem d_Model_look_125 : decode b_Model_look 125 = .ok (.ireturn, 1) := by decide +kernel
theorem d_Model_look_126 : decode b_Model_look 126 = .ok (.aload_n 0, 1) := by decide +kernel
theorem d_Model_look_127 : decode b_Model_look 127 = .ok (.getfield 41, 3) := by decide +kernel
theorem d_Model_look_130 : decode b_Model_look 130 = .ok (.iload_n 1, 1) := by decide +kernel
theorem d_Model_look_131 : decode b_Model_look 131 = .ok (.iaload, 1) := by decide +kernel
theorem d_Model_look_132 : decode b_Model_look 132 = .ok (.ireturn, 1) := by decide +kernel
theorem d_Model_look_133 : decode b_Model_look 133 = .ok (.aload_n 0, 1) := by decide +kernel
theorem d_Model_look_134 : decode b_Model_look 134 = .ok (.getfield 50, 3) := by decide +kernel
theorem d_Model_look_137 : decode b_Model_look 137 = .ok (.iload_n 1, 1) := by decide +kernel
theorem d_Model_look_138 : decode b_Model_look 138 = .ok (.iaload, 1) := by decide +kernel
theorem d_Model_look_139 : decode b_Model_look 139 = .ok (.ireturn, 1) := by decide +kernel
theorem d_Model_look_140 : decode b_Model_look 140 = .ok (.iconst (-1), 1) := by decide +kernel
theorem d_Model_look_141 : decode b_Model_look 141 = .ok (.ireturn, 1) := by decide +kernel
theorem d_Model_memory_0 : decode b_Model_memory 0 = .ok (.iload_n 1, 1) := by decide +kernel
theorem d_Model_memory_1 : decode b_Model_memory 1 = .ok (.bipush 31, 2) := by decide +kernel
theorem d_Model_memory_3 : decode b_Model_memory 3 = .ok (.invokestatic 176, 3) := by decide +kernel
theorem d_Model_memory_6 : decode b_Model_memory 6 = .ok (.ifCond .eq 12, 3) := by decide +kernel
theorem d_Model_memory_9 : decode b_Model_memory 9 = .ok (.aload_n 0, 1) := by decide +kernel
theorem d_Model_memory_10 : decode b_Model_memory 10 = .ok (.getfield 68, 3) := by decide +kernel
theorem d_Model_memory_13 : decode b_Model_memory 13 = .ok (.iload_n 1, 1) := by decide +kernel
theorem d_Model_memory_14 : decode b_Model_memory 14 = .ok (.iaload, 1) := by decide +kernel
theorem d_Model_memory_15 : decode b_Model_memory 15 = .ok (.goto 4, 3) := by decide +kernel
theorem d_Model_memory_18 : decode b_Model_memory 18 = .ok (.iconst (-1), 1) := by decide +kernel
theorem d_Model_memory_19 : decode b_Model_memory 19 = .ok (.ireturn, 1) := by decide +kernel
theorem d_Model_commands_0 : decode b_Model_commands 0 = .ok (.aload_n 0, 1) := by decide +kernel
theorem d_Model_commands_1 : decode b_Model_commands 1 = .ok (.getfield 148, 3) := by decide +kernel
theorem d_Model_commands_4 : decode b_Model_commands 4 = .ok (.ireturn, 1) := by decide +kernel
theorem d_Model_status_0 : decode b_Model_status 0 = .ok (.aload_n 0, 1) := by decide +kernel
theorem d_Model_status_1 : decode b_Model_status 1 = .ok (.getfield 74, 3) := by decide +kernel
theorem d_Model_status_4 : decode b_Model_status 4 = .ok (.ireturn, 1) := by decide +kernel
def s_Model_control (en : Nat → Int32) (au : Nat → Int32) (x : Int32) (y : Int32) (z : Int32) : Int32 × (Nat → Int32) × (Nat → Int32) := if (s_Model_isEnd x) = 0 then (0, en, au) else (if x = 0 then (1, upd en 0 y, upd au 0 z) else (1, upd en 1 y, upd au 1 z))
abbrev rm_Model_control : Room := { frames := 1, cells := 0, slots := 0, locals := 20 }
set_option maxHeartbeats 1000000 in
set_option maxRecDepth 100000 in
theorem c_Model_control {l : Launch} {D : va_G} {cI cZ : ClassId} (en : Nat → Int32) (au : Nat → Int32) (x : Int32) (y : Int32) (z : Int32) (h0 : Nat) (a_st : Nat) (a_ck : Nat) (a_en : Nat) (a_au : Nat) (a_he : Nat) (a_qu : Nat) (a_lo : Nat) (a_ow : Nat) (a_fl : Nat) (a_ti : Nat) (a_gd : Nat) (a_ak : Nat) (a_sp : Nat) (a_se : Nat) (a_sd : Nat) (a_rw : Nat) (a_sz : Nat) (a_op : Nat) (a_th : Nat) (a_me : Nat) (a_pk : Nat) (a_re : Nat) (a_dr : Nat) (tg : Int32) (kc : Nat) (cm : Int32) (su : Int32) (kq : Nat) (hy_ : xB y) (hz_ : xB z) (sz : Nat) : Met l y_Model_control (w_Model_control) rm_Model_control (va_Pc [.ref h0, .int x, .int y, .int z] (xPre xNs D vwCl cI cZ [(h0, .inr (7, [.int tg, .ref a_st, .ref a_ck, .ref a_en, .ref a_au, .ref a_he, .ref a_qu, .ref a_lo, .ref a_ow, .ref a_fl, .ref a_ti, .ref a_gd, .ref a_ak, .ref a_sp, .ref a_se, .ref a_sd, .ref a_rw, .ref a_sz, .ref a_op, .ref a_th, .ref a_me, .ref a_pk, .int (nI kc), .int cm, .int su, .ref a_re, .int (nI kq), .ref a_dr])), (a_en, .inl (cZ, 2, .inl en)), (a_au, .inl (cZ, 2, .inl au))] sz)) (va_Qi (fun (r : Int32) (u : (Nat → Int32) × (Nat → Int32)) => (r, u.1, u.2) = s_Model_control en au x y z) (fun u t9 => xAt D vwCl (va_A [(h0, .inr (7, [.int tg, .ref a_st, .ref a_ck, .ref a_en, .ref a_au, .ref a_he, .ref a_qu, .ref a_lo, .ref a_ow, .ref a_fl, .ref a_ti, .ref a_gd, .ref a_ak, .ref a_sp, .ref a_se, .ref a_sd, .ref a_rw, .ref a_sz, .ref a_op, .ref a_th, .ref a_me, .ref a_pk, .int (nI kc), .int cm, .int su, .ref a_re, .int (nI kq), .ref a_dr])), (a_en, .inl (cZ, 2, .inl en)), (a_au, .inl (cZ, 2, .inl au))] sz) [(h0, .inr (7, [.int tg, .ref a_st, .ref a_ck, .ref a_en, .ref a_au, .ref a_he, .ref a_qu, .ref a_lo, .ref a_ow, .ref a_fl, .ref a_ti, .ref a_gd, .ref a_ak, .ref a_sp, .ref a_se, .ref a_sd, .ref a_rw, .ref a_sz, .ref a_op, .ref a_th, .ref a_me, .ref a_pk, .int (nI kc), .int cm, .int su, .ref a_re, .int (nI kq), .ref a_dr])), (a_en, .inl (cZ, 2, .inl u.1)), (a_au, .inl (cZ, 2, .inl u.2))] t9) (va_A [(h0, .inr (7, [.int tg, .ref a_st, .ref a_ck, .ref a_en, .ref a_au, .ref a_he, .ref a_qu, .ref a_lo, .ref a_ow, .ref a_fl, .ref a_ti, .ref a_gd, .ref a_ak, .ref a_sp, .ref a_se, .ref a_sd, .ref a_rw, .ref a_sz, .ref a_op, .ref a_th, .ref a_me, .ref a_pk, .int (nI kc), .int cm, .int su, .ref a_re, .int (nI kq), .ref a_dr])), (a_en, .inl (cZ, 2, .inl en)), (a_au, .inl (cZ, 2, .inl au))] sz)) 0 0 (va_A [(h0, .inr (7, [.int tg, .ref a_st, .ref a_ck, .ref a_en, .ref a_au, .ref a_he, .ref a_qu, .ref a_lo, .ref a_ow, .ref a_fl, .ref a_ti, .ref a_gd, .ref a_ak, .ref a_sp, .ref a_se, .ref a_sd, .ref a_rw, .ref a_sz, .ref a_op, .ref a_th, .ref a_me, .ref a_pk, .int (nI kc), .int cm, .int su, .ref a_re, .int (nI kq), .ref a_dr])), (a_en, .inl (cZ, 2, .inl en)), (a_au, .inl (cZ, 2, .inl au))] sz) := by
  refine xBody_z (S := (Nat → Int32) × (Nat → Int32)) (cc := b_Model_control) (maxL := 4) (by decide) rfl (Nat.le_of_ble_eq_true rfl) ?_
  intro p e s m args below meth c A H ls Q hx hb hml hin hts hown hP hD hK hN hS hA hl hret
  replace hl : lv_has ls 4 [(0, .ref h0), (1, .int x), (2, .int y), (3, .int z)] := hl
  have hin_Model : ∀ w ∈ u_ws R_Model F_Model 28, w ∈ (w_Model_control) := (fun w h => xm (lay_Model w h))
  have hq : s_Model_control en au x y z = (if (s_Model_isEnd x) = 0 then (0, en, au) else (if x = 0 then (1, upd en 0 y, upd au 0 z) else (1, upd en 1 y, upd au 1 z))) := rfl
  refine lv_iload_n hx hb d_Model_control_0 rfl (lv_at hl 1 rfl) ?_
  refine xcall_i (wc := []) (wr := [(h0, .inr (7, [.int tg, .ref a_st, .ref a_ck, .ref a_en, .ref a_au, .ref a_he, .ref a_qu, .ref a_lo, .ref a_ow, .ref a_fl, .ref a_ti, .ref a_gd, .ref a_ak, .ref a_sp, .ref a_se, .ref a_sd, .ref a_rw, .ref a_sz, .ref a_op, .ref a_th, .ref a_me, .ref a_pk, .int (nI kc), .int cm, .int su, .ref a_re, .int (nI kq), .ref a_dr])), (a_en, .inl (cZ, 2, .inl en)), (a_au, .inl (cZ, 2, .inl au))]) (ws1 := fun (u : Unit) => [(h0, .inr (7, [.int tg, .ref a_st, .ref a_ck, .ref a_en, .ref a_au, .ref a_he, .ref a_qu, .ref a_lo, .ref a_ow, .ref a_fl, .ref a_ti, .ref a_gd, .ref a_ak, .ref a_sp, .ref a_se, .ref a_sd, .ref a_rw, .ref a_sz, .ref a_op, .ref a_th, .ref a_me, .ref a_pk, .int (nI kc), .int cm, .int su, .ref a_re, .int (nI kq), .ref a_dr])), (a_en, .inl (cZ, 2, .inl en)), (a_au, .inl (cZ, 2, .inl au))]) (va_runS (As := [.int x]) (rest := []) ⟨hx, hb, hml, hown, hts⟩ (c_Model_isEnd x H.size) (xcwS 1 hts ww_720 ww_718 ww_719 ww_8 (by decide +kernel) rfl rfl ⟨Nat.le_of_ble_eq_true rfl, Nat.le_of_ble_eq_true rfl⟩) (xPreS (hP.sub [] rfl) (hD.sub [] (by decide) rfl) hK hN) rfl rfl hl.1 rfl (lv_room (Nat.le_of_ble_eq_true rfl)) d_Model_control_1 ⟨Nat.le_of_ble_eq_true rfl, Nat.le_of_ble_eq_true rfl⟩) hP hD hS hA [] [0, 1, 2] [0, 1, 2] rfl rfl (by decide) (by decide) (by decide) (fun _ => rfl) (fun r1 u1 H locs hw hP hD hS => ?_)
  obtain ⟨hw, hbr_1⟩ := hw
  subst hw
  replace hP : va_P D vwCl [(h0, .inr (7, [.int tg, .ref a_st, .ref a_ck, .ref a_en, .ref a_au, .ref a_he, .ref a_qu, .ref a_lo, .ref a_ow, .ref a_fl, .ref a_ti, .ref a_gd, .ref a_ak, .ref a_sp, .ref a_se, .ref a_sd, .ref a_rw, .ref a_sz, .ref a_op, .ref a_th, .ref a_me, .ref a_pk, .int (nI kc), .int cm, .int su, .ref a_re, .int (nI kq), .ref a_dr])), (a_en, .inl (cZ, 2, .inl en)), (a_au, .inl (cZ, 2, .inl au))] H := hP
  replace hD : va_D A [(h0, .inr (7, [.int tg, .ref a_st, .ref a_ck, .ref a_en, .ref a_au, .ref a_he, .ref a_qu, .ref a_lo, .ref a_ow, .ref a_fl, .ref a_ti, .ref a_gd, .ref a_ak, .ref a_sp, .ref a_se, .ref a_sd, .ref a_rw, .ref a_sz, .ref a_op, .ref a_th, .ref a_me, .ref a_pk, .int (nI kc), .int cm, .int su, .ref a_re, .int (nI kq), .ref a_dr])), (a_en, .inl (cZ, 2, .inl en)), (a_au, .inl (cZ, 2, .inl au))] := hD
  refine lv_if_ne (tgt := 9) hx hb d_Model_control_4 rfl (fun h2 => ?_) (fun h2 => ?_)
  · replace hq := hq.trans (if_neg h2)
    by_cases h3 : x = 0
    · replace hq := hq.trans (if_pos h3)
      subst h3
      replace hl : lv_has ls 4 [(0, .ref h0), (1, .int 0), (2, .int y), (3, .int z)] := hl
      refine lv_aload_n hx hb d_Model_control_9 rfl (lv_at hl 0 rfl) ?_
      refine va_get (D := D) (ci := 7) (v := .ref a_en) (C := R_Model) (T := F_Model) (N := 28) hx hb hts hin_Model hown hK hP 0 rfl rfl 3 (by decide) (hts _ (xm ww_536)) (fun _ h9 => h9) rfl d_Model_control_10 ?_
      refine lv_iload_n hx hb d_Model_control_13 rfl (lv_at hl 1 rfl) ?_
      refine lv_iload_n hx hb d_Model_control_14 rfl (lv_at hl 2 rfl) ?_
      refine xzast (k := 0) hx hb hK hP hD hS 1 1 rfl rfl rfl (by decide) (by decide) hy_ d_Model_control_15 (fun H locs hP hD hS => ?_)
      replace hP : va_P D vwCl [(h0, .inr (7, [.int tg, .ref a_st, .ref a_ck, .ref a_en, .ref a_au, .ref a_he, .ref a_qu, .ref a_lo, .ref a_ow, .ref a_fl, .ref a_ti, .ref a_gd, .ref a_ak, .ref a_sp, .ref a_se, .ref a_sd, .ref a_rw, .ref a_sz, .ref a_op, .ref a_th, .ref a_me, .ref a_pk, .int (nI kc), .int cm, .int su, .ref a_re, .int (nI kq), .ref a_dr])), (a_en, .inl (cZ, 2, .inl (upd en 0 y))), (a_au, .inl (cZ, 2, .inl au))] H := hP
      replace hD : va_D A [(h0, .inr (7, [.int tg, .ref a_st, .ref a_ck, .ref a_en, .ref a_au, .ref a_he, .ref a_qu, .ref a_lo, .ref a_ow, .ref a_fl, .ref a_ti, .ref a_gd, .ref a_ak, .ref a_sp, .ref a_se, .ref a_sd, .ref a_rw, .ref a_sz, .ref a_op, .ref a_th, .ref a_me, .ref a_pk, .int (nI kc), .int cm, .int su, .ref a_re, .int (nI kq), .ref a_dr])), (a_en, .inl (cZ, 2, .inl (upd en 0 y))), (a_au, .inl (cZ, 2, .inl au))] := hD
      refine lv_aload_n hx hb d_Model_control_16 rfl (lv_at hl 0 rfl) ?_
      refine va_get (D := D) (ci := 7) (v := .ref a_au) (C := R_Model) (T := F_Model) (N := 28) hx hb hts hin_Model hown hK hP 0 rfl rfl 4 (by decide) (hts _ (xm ww_537)) (fun _ h9 => h9) rfl d_Model_control_17 ?_
      refine lv_iload_n hx hb d_Model_control_20 rfl (lv_at hl 1 rfl) ?_
      refine lv_iload_n hx hb d_Model_control_21 rfl (lv_at hl 3 rfl) ?_
      refine xzast (k := 0) hx hb hK hP hD hS 2 1 rfl rfl rfl (by decide) (by decide) hz_ d_Model_control_22 (fun H locs hP hD hS => ?_)
      replace hP : va_P D vwCl [(h0, .inr (7, [.int tg, .ref a_st, .ref a_ck, .ref a_en, .ref a_au, .ref a_he, .ref a_qu, .ref a_lo, .ref a_ow, .ref a_fl, .ref a_ti, .ref a_gd, .ref a_ak, .ref a_sp, .ref a_se, .ref a_sd, .ref a_rw, .ref a_sz, .ref a_op, .ref a_th, .ref a_me, .ref a_pk, .int (nI kc), .int cm, .int su, .ref a_re, .int (nI kq), .ref a_dr])), (a_en, .inl (cZ, 2, .inl (upd en 0 y))), (a_au, .inl (cZ, 2, .inl (upd au 0 z)))] H := hP
      replace hD : va_D A [(h0, .inr (7, [.int tg, .ref a_st, .ref a_ck, .ref a_en, .ref a_au, .ref a_he, .ref a_qu, .ref a_lo, .ref a_ow, .ref a_fl, .ref a_ti, .ref a_gd, .ref a_ak, .ref a_sp, .ref a_se, .ref a_sd, .ref a_rw, .ref a_sz, .ref a_op, .ref a_th, .ref a_me, .ref a_pk, .int (nI kc), .int cm, .int su, .ref a_re, .int (nI kq), .ref a_dr])), (a_en, .inl (cZ, 2, .inl (upd en 0 y))), (a_au, .inl (cZ, 2, .inl (upd au 0 z)))] := hD
      refine lv_iconst (v := 1) hx hb d_Model_control_23 rfl ?_
      exact hret 1 (upd en 0 y, upd au 0 z) hq.symm _ _ _ _ (Or.inr rfl) hP hD hS d_Model_control_24
    replace hq := hq.trans (if_neg h3)
    have hx1 : x = 1 := isEnd1 h2 h3
    subst hx1
    replace hl : lv_has ls 4 [(0, .ref h0), (1, .int 1), (2, .int y), (3, .int z)] := hl
    refine lv_aload_n hx hb d_Model_control_9 rfl (lv_at hl 0 rfl) ?_
    refine va_get (D := D) (ci := 7) (v := .ref a_en) (C := R_Model) (T := F_Model) (N := 28) hx hb hts hin_Model hown hK hP 0 rfl rfl 3 (by decide) (hts _ (xm ww_536)) (fun _ h9 => h9) rfl d_Model_control_10 ?_
    refine lv_iload_n hx hb d_Model_control_13 rfl (lv_at hl 1 rfl) ?_
    refine lv_iload_n hx hb d_Model_control_14 rfl (lv_at hl 2 rfl) ?_
    refine xzast (k := 1) hx hb hK hP hD hS 1 1 rfl rfl rfl (by decide) (by decide) hy_ d_Model_control_15 (fun H locs hP hD hS => ?_)
    replace hP : va_P D vwCl [(h0, .inr (7, [.int tg, .ref a_st, .ref a_ck, .ref a_en, .ref a_au, .ref a_he, .ref a_qu, .ref a_lo, .ref a_ow, .ref a_fl, .ref a_ti, .ref a_gd, .ref a_ak, .ref a_sp, .ref a_se, .ref a_sd, .ref a_rw, .ref a_sz, .ref a_op, .ref a_th, .ref a_me, .ref a_pk, .int (nI kc), .int cm, .int su, .ref a_re, .int (nI kq), .ref a_dr])), (a_en, .inl (cZ, 2, .inl (upd en 1 y))), (a_au, .inl (cZ, 2, .inl au))] H := hP
    replace hD : va_D A [(h0, .inr (7, [.int tg, .ref a_st, .ref a_ck, .ref a_en, .ref a_au, .ref a_he, .ref a_qu, .ref a_lo, .ref a_ow, .ref a_fl, .ref a_ti, .ref a_gd, .ref a_ak, .ref a_sp, .ref a_se, .ref a_sd, .ref a_rw, .ref a_sz, .ref a_op, .ref a_th, .ref a_me, .ref a_pk, .int (nI kc), .int cm, .int su, .ref a_re, .int (nI kq), .ref a_dr])), (a_en, .inl (cZ, 2, .inl (upd en 1 y))), (a_au, .inl (cZ, 2, .inl au))] := hD
    refine lv_aload_n hx hb d_Model_control_16 rfl (lv_at hl 0 rfl) ?_
    refine va_get (D := D) (ci := 7) (v := .ref a_au) (C := R_Model) (T := F_Model) (N := 28) hx hb hts hin_Model hown hK hP 0 rfl rfl 4 (by decide) (hts _ (xm ww_537)) (fun _ h9 => h9) rfl d_Model_control_17 ?_
    refine lv_iload_n hx hb d_Model_control_20 rfl (lv_at hl 1 rfl) ?_
    refine lv_iload_n hx hb d_Model_control_21 rfl (lv_at hl 3 rfl) ?_
    refine xzast (k := 1) hx hb hK hP hD hS 2 1 rfl rfl rfl (by decide) (by decide) hz_ d_Model_control_22 (fun H locs hP hD hS => ?_)
    replace hP : va_P D vwCl [(h0, .inr (7, [.int tg, .ref a_st, .ref a_ck, .ref a_en, .ref a_au, .ref a_he, .ref a_qu, .ref a_lo, .ref a_ow, .ref a_fl, .ref a_ti, .ref a_gd, .ref a_ak, .ref a_sp, .ref a_se, .ref a_sd, .ref a_rw, .ref a_sz, .ref a_op, .ref a_th, .ref a_me, .ref a_pk, .int (nI kc), .int cm, .int su, .ref a_re, .int (nI kq), .ref a_dr])), (a_en, .inl (cZ, 2, .inl (upd en 1 y))), (a_au, .inl (cZ, 2, .inl (upd au 1 z)))] H := hP
    replace hD : va_D A [(h0, .inr (7, [.int tg, .ref a_st, .ref a_ck, .ref a_en, .ref a_au, .ref a_he, .ref a_qu, .ref a_lo, .ref a_ow, .ref a_fl, .ref a_ti, .ref a_gd, .ref a_ak, .ref a_sp, .ref a_se, .ref a_sd, .ref a_rw, .ref a_sz, .ref a_op, .ref a_th, .ref a_me, .ref a_pk, .int (nI kc), .int cm, .int su, .ref a_re, .int (nI kq), .ref a_dr])), (a_en, .inl (cZ, 2, .inl (upd en 1 y))), (a_au, .inl (cZ, 2, .inl (upd au 1 z)))] := hD
    refine lv_iconst (v := 1) hx hb d_Model_control_23 rfl ?_
    exact hret 1 (upd en 1 y, upd au 1 z) hq.symm _ _ _ _ (Or.inr rfl) hP hD hS d_Model_control_24
  replace hq := hq.trans (if_pos h2)
  refine lv_iconst (v := 0) hx hb d_Model_control_7 rfl ?_
  exact hret 0 (en, au) hq.symm _ _ _ _ (Or.inl rfl) hP hD hS d_Model_control_8

def s_Model_put (th : Nat → Int32) (Ls : Nat → List Int32) (x : Int32) (y : Int32) : Int32 × (Nat → Int32) × (Nat → List Int32) := if (s_Model_isEnd x) = 0 then ((-1), th, Ls) else (if y < 0 then ((-1), th, Ls) else (if y ≤ 257 then (if x = 0 then (if (nI ((Ls 0).length)) = 64 then ((-2), th, Ls) else (bnd2 (s_Model_append th Ls 0 y) (fun th7 Ls7 => (nI ((Ls7 0).length), th7, Ls7)))) else (if (nI ((Ls 2).length)) = 64 then ((-2), th, Ls) else (bnd2 (s_Model_append th Ls 1 y) (fun th9 Ls9 => (nI ((Ls9 2).length), th9, Ls9))))) else ((-1), th, Ls)))
abbrev rm_Model_put : Room := { frames := 2, cells := 0, slots := 0, locals := 44 }
set_option maxHeartbeats 1000000 in
set_option maxRecDepth 100000 in
theorem c_Model_put {l : Launch} {D : va_G} {cI cZ : ClassId} (th : Nat → Int32) (Ls : Nat → List Int32) (x : Int32) (y : Int32) (h0 : Nat) (a_st : Nat) (a_ck : Nat) (a_en : Nat) (a_au : Nat) (a_he : Nat) (a_qu : Nat) (a_lo : Nat) (a_ow : Nat) (a_fl : Nat) (a_ti : Nat) (a_gd : Nat) (a_ak : Nat) (a_sp : Nat) (a_se : Nat) (a_sd : Nat) (a_rw : Nat) (a_sz : Nat) (a_op : Nat) (a_th : Nat) (a_me : Nat) (a_pk : Nat) (a_re : Nat) (a_dr : Nat) (tg : Int32) (kc : Nat) (cm : Int32) (su : Int32) (kq : Nat) (rw : Nat → Int32) (hM : RepM rw Ls) (sz : Nat) : Met l y_Model_put (w_Model_put) rm_Model_put (va_Pc [.ref h0, .int x, .int y] (xPre xNs D vwCl cI cZ [(h0, .inr (7, [.int tg, .ref a_st, .ref a_ck, .ref a_en, .ref a_au, .ref a_he, .ref a_qu, .ref a_lo, .ref a_ow, .ref a_fl, .ref a_ti, .ref a_gd, .ref a_ak, .ref a_sp, .ref a_se, .ref a_sd, .ref a_rw, .ref a_sz, .ref a_op, .ref a_th, .ref a_me, .ref a_pk, .int (nI kc), .int cm, .int su, .ref a_re, .int (nI kq), .ref a_dr])), (a_th, .inl (cZ, 2, .inl th)), (a_rw, .inl (cI, 256, .inl rw)), (a_sz, .inl (cI, 4, .inl (szf Ls)))] sz)) (va_Qi (fun (r : Int32) (u : (Nat → Int32) × (Nat → List Int32) × (Nat → Int32)) => (r, u.1, u.2.1) = s_Model_put th Ls x y ∧ RepM u.2.2 u.2.1) (fun u t9 => xAt D vwCl (va_A [(h0, .inr (7, [.int tg, .ref a_st, .ref a_ck, .ref a_en, .ref a_au, .ref a_he, .ref a_qu, .ref a_lo, .ref a_ow, .ref a_fl, .ref a_ti, .ref a_gd, .ref a_ak, .ref a_sp, .ref a_se, .ref a_sd, .ref a_rw, .ref a_sz, .ref a_op, .ref a_th, .ref a_me, .ref a_pk, .int (nI kc), .int cm, .int su, .ref a_re, .int (nI kq), .ref a_dr])), (a_th, .inl (cZ, 2, .inl th)), (a_rw, .inl (cI, 256, .inl rw)), (a_sz, .inl (cI, 4, .inl (szf Ls)))] sz) [(h0, .inr (7, [.int tg, .ref a_st, .ref a_ck, .ref a_en, .ref a_au, .ref a_he, .ref a_qu, .ref a_lo, .ref a_ow, .ref a_fl, .ref a_ti, .ref a_gd, .ref a_ak, .ref a_sp, .ref a_se, .ref a_sd, .ref a_rw, .ref a_sz, .ref a_op, .ref a_th, .ref a_me, .ref a_pk, .int (nI kc), .int cm, .int su, .ref a_re, .int (nI kq), .ref a_dr])), (a_th, .inl (cZ, 2, .inl u.1)), (a_rw, .inl (cI, 256, .inl u.2.2)), (a_sz, .inl (cI, 4, .inl (szf u.2.1)))] t9) (va_A [(h0, .inr (7, [.int tg, .ref a_st, .ref a_ck, .ref a_en, .ref a_au, .ref a_he, .ref a_qu, .ref a_lo, .ref a_ow, .ref a_fl, .ref a_ti, .ref a_gd, .ref a_ak, .ref a_sp, .ref a_se, .ref a_sd, .ref a_rw, .ref a_sz, .ref a_op, .ref a_th, .ref a_me, .ref a_pk, .int (nI kc), .int cm, .int su, .ref a_re, .int (nI kq), .ref a_dr])), (a_th, .inl (cZ, 2, .inl th)), (a_rw, .inl (cI, 256, .inl rw)), (a_sz, .inl (cI, 4, .inl (szf Ls)))] sz)) 0 0 (va_A [(h0, .inr (7, [.int tg, .ref a_st, .ref a_ck, .ref a_en, .ref a_au, .ref a_he, .ref a_qu, .ref a_lo, .ref a_ow, .ref a_fl, .ref a_ti, .ref a_gd, .ref a_ak, .ref a_sp, .ref a_se, .ref a_sd, .ref a_rw, .ref a_sz, .ref a_op, .ref a_th, .ref a_me, .ref a_pk, .int (nI kc), .int cm, .int su, .ref a_re, .int (nI kq), .ref a_dr])), (a_th, .inl (cZ, 2, .inl th)), (a_rw, .inl (cI, 256, .inl rw)), (a_sz, .inl (cI, 4, .inl (szf Ls)))] sz) := by
  refine xBody_i (S := (Nat → Int32) × (Nat → List Int32) × (Nat → Int32)) (cc := b_Model_put) (maxL := 3) (by decide) rfl (Nat.le_of_ble_eq_true rfl) ?_
  intro p e s m args below meth c A H ls Q hx hb hml hin hts hown hP hD hK hN hS hA hl hret
  replace hl : lv_has ls 3 [(0, .ref h0), (1, .int x), (2, .int y)] := hl
  have hin_Model : ∀ w ∈ u_ws R_Model F_Model 28, w ∈ (w_Model_put) := (fun w h => xm (lay_Model w h))
  have hq : s_Model_put th Ls x y = (if (s_Model_isEnd x) = 0 then ((-1), th, Ls) else (if y < 0 then ((-1), th, Ls) else (if y ≤ 257 then (if x = 0 then (if (nI ((Ls 0).length)) = 64 then ((-2), th, Ls) else (bnd2 (s_Model_append th Ls 0 y) (fun th7 Ls7 => (nI ((Ls7 0).length), th7, Ls7)))) else (if (nI ((Ls 2).length)) = 64 then ((-2), th, Ls) else (bnd2 (s_Model_append th Ls 1 y) (fun th9 Ls9 => (nI ((Ls9 2).length), th9, Ls9))))) else ((-1), th, Ls)))) := rfl
  refine lv_iload_n hx hb d_Model_put_0 rfl (lv_at hl 1 rfl) ?_
  refine xcall_i (wc := []) (wr := [(h0, .inr (7, [.int tg, .ref a_st, .ref a_ck, .ref a_en, .ref a_au, .ref a_he, .ref a_qu, .ref a_lo, .ref a_ow, .ref a_fl, .ref a_ti, .ref a_gd, .ref a_ak, .ref a_sp, .ref a_se, .ref a_sd, .ref a_rw, .ref a_sz, .ref a_op, .ref a_th, .ref a_me, .ref a_pk, .int (nI kc), .int cm, .int su, .ref a_re, .int (nI kq), .ref a_dr])), (a_th, .inl (cZ, 2, .inl th)), (a_rw, .inl (cI, 256, .inl rw)), (a_sz, .inl (cI, 4, .inl (szf Ls)))]) (ws1 := fun (u : Unit) => [(h0, .inr (7, [.int tg, .ref a_st, .ref a_ck, .ref a_en, .ref a_au, .ref a_he, .ref a_qu, .ref a_lo, .ref a_ow, .ref a_fl, .ref a_ti, .ref a_gd, .ref a_ak, .ref a_sp, .ref a_se, .ref a_sd, .ref a_rw, .ref a_sz, .ref a_op, .ref a_th, .ref a_me, .ref a_pk, .int (nI kc), .int cm, .int su, .ref a_re, .int (nI kq), .ref a_dr])), (a_th, .inl (cZ, 2, .inl th)), (a_rw, .inl (cI, 256, .inl rw)), (a_sz, .inl (cI, 4, .inl (szf Ls)))]) (va_runS (As := [.int x]) (rest := []) ⟨hx, hb, hml, hown, hts⟩ (c_Model_isEnd x H.size) (xcwS 1 hts ww_720 ww_718 ww_719 ww_8 (by decide +kernel) rfl rfl ⟨Nat.le_of_ble_eq_true rfl, Nat.le_of_ble_eq_true rfl⟩) (xPreS (hP.sub [] rfl) (hD.sub [] (by decide) rfl) hK hN) rfl rfl hl.1 rfl (lv_room (Nat.le_of_ble_eq_true rfl)) d_Model_put_1 ⟨Nat.le_of_ble_eq_true rfl, Nat.le_of_ble_eq_true rfl⟩) hP hD hS hA [] [0, 1, 2, 3] [0, 1, 2, 3] rfl rfl (by decide) (by decide) (by decide) (fun _ => rfl) (fun r1 u1 H locs hw hP hD hS => ?_)
  obtain ⟨hw, hbr_1⟩ := hw
  subst hw
  replace hP : va_P D vwCl [(h0, .inr (7, [.int tg, .ref a_st, .ref a_ck, .ref a_en, .ref a_au, .ref a_he, .ref a_qu, .ref a_lo, .ref a_ow, .ref a_fl, .ref a_ti, .ref a_gd, .ref a_ak, .ref a_sp, .ref a_se, .ref a_sd, .ref a_rw, .ref a_sz, .ref a_op, .ref a_th, .ref a_me, .ref a_pk, .int (nI kc), .int cm, .int su, .ref a_re, .int (nI kq), .ref a_dr])), (a_th, .inl (cZ, 2, .inl th)), (a_rw, .inl (cI, 256, .inl rw)), (a_sz, .inl (cI, 4, .inl (szf Ls)))] H := hP
  replace hD : va_D A [(h0, .inr (7, [.int tg, .ref a_st, .ref a_ck, .ref a_en, .ref a_au, .ref a_he, .ref a_qu, .ref a_lo, .ref a_ow, .ref a_fl, .ref a_ti, .ref a_gd, .ref a_ak, .ref a_sp, .ref a_se, .ref a_sd, .ref a_rw, .ref a_sz, .ref a_op, .ref a_th, .ref a_me, .ref a_pk, .int (nI kc), .int cm, .int su, .ref a_re, .int (nI kq), .ref a_dr])), (a_th, .inl (cZ, 2, .inl th)), (a_rw, .inl (cI, 256, .inl rw)), (a_sz, .inl (cI, 4, .inl (szf Ls)))] := hD
  refine lv_if_eq (tgt := 18) hx hb d_Model_put_4 rfl (fun h2 => ?_) (fun h2 => ?_)
  · replace hq := hq.trans (if_pos h2)
    refine lv_iconst (v := (-1)) hx hb d_Model_put_18 rfl ?_
    exact hret (-1) (th, Ls, rw) ⟨hq.symm, hM⟩ _ _ _ _ hP hD hS d_Model_put_19
  replace hq := hq.trans (if_neg h2)
  refine lv_iload_n hx hb d_Model_put_7 rfl (lv_at hl 2 rfl) ?_
  refine lv_if_lt (tgt := 18) hx hb d_Model_put_8 rfl (fun h3 => ?_) (fun h3 => ?_)
  · replace hq := hq.trans (if_pos h3)
    refine lv_iconst (v := (-1)) hx hb d_Model_put_18 rfl ?_
    exact hret (-1) (th, Ls, rw) ⟨hq.symm, hM⟩ _ _ _ _ hP hD hS d_Model_put_19
  replace hq := hq.trans (if_neg h3)
  refine lv_iload_n hx hb d_Model_put_11 rfl (lv_at hl 2 rfl) ?_
  refine lv_sipush (v := 257) hx hb d_Model_put_12 rfl ?_
  refine lv_icmp_le (tgt := 20) hx hb d_Model_put_15 rfl (fun h4 => ?_) (fun h4 => ?_)
  · replace hq := hq.trans (if_pos h4)
    by_cases h5 : x = 0
    · replace hq := hq.trans (if_pos h5)
      subst h5
      replace hl : lv_has ls 3 [(0, .ref h0), (1, .int 0), (2, .int y)] := hl
      refine lv_aload_n hx hb d_Model_put_20 rfl (lv_at hl 0 rfl) ?_
      refine va_get (D := D) (ci := 7) (v := .ref a_sz) (C := R_Model) (T := F_Model) (N := 28) hx hb hts hin_Model hown hK hP 0 rfl rfl 17 (by decide) (hts _ (xm ww_550)) (fun _ h9 => h9) rfl d_Model_put_21 ?_
      refine lv_iconst (v := 2) hx hb d_Model_put_24 rfl ?_
      refine lv_iload_n hx hb d_Model_put_25 rfl (lv_at hl 1 rfl) ?_
      refine lv_imul hx hb d_Model_put_26 ?_
      refine xtop (y := 0) (by decide) ?_
      refine xiald (k := 0) hx hb hK hP 3 0 rfl rfl rfl (by decide) (by decide) d_Model_put_27 ?_
      refine xtop (y := nI ((Ls 0).length)) rfl ?_
      refine lv_bipush (v := 64) hx hb d_Model_put_28 rfl ?_
      refine lv_icmp_ne (tgt := 36) hx hb d_Model_put_30 rfl (fun h6 => ?_) (fun h6 => ?_)
      · replace hq := hq.trans (if_neg h6)
        refine lv_aload_n hx hb d_Model_put_36 rfl (lv_at hl 0 rfl) ?_
        refine lv_iload_n hx hb d_Model_put_37 rfl (lv_at hl 1 rfl) ?_
        refine lv_iload_n hx hb d_Model_put_38 rfl (lv_at hl 2 rfl) ?_
        refine xcall_v (wc := [(h0, .inr (7, [.int tg, .ref a_st, .ref a_ck, .ref a_en, .ref a_au, .ref a_he, .ref a_qu, .ref a_lo, .ref a_ow, .ref a_fl, .ref a_ti, .ref a_gd, .ref a_ak, .ref a_sp, .ref a_se, .ref a_sd, .ref a_rw, .ref a_sz, .ref a_op, .ref a_th, .ref a_me, .ref a_pk, .int (nI kc), .int cm, .int su, .ref a_re, .int (nI kq), .ref a_dr])), (a_th, .inl (cZ, 2, .inl th)), (a_rw, .inl (cI, 256, .inl rw)), (a_sz, .inl (cI, 4, .inl (szf Ls)))]) (wr := []) (ws1 := fun (u : (Nat → Int32) × (Nat → List Int32) × (Nat → Int32)) => [(h0, .inr (7, [.int tg, .ref a_st, .ref a_ck, .ref a_en, .ref a_au, .ref a_he, .ref a_qu, .ref a_lo, .ref a_ow, .ref a_fl, .ref a_ti, .ref a_gd, .ref a_ak, .ref a_sp, .ref a_se, .ref a_sd, .ref a_rw, .ref a_sz, .ref a_op, .ref a_th, .ref a_me, .ref a_pk, .int (nI kc), .int cm, .int su, .ref a_re, .int (nI kq), .ref a_dr])), (a_th, .inl (cZ, 2, .inl u.1)), (a_rw, .inl (cI, 256, .inl u.2.2)), (a_sz, .inl (cI, 4, .inl (szf u.2.1)))]) (va_runV (As := [.int 0, .int y]) (rest := []) ⟨hx, hb, hml, hown, hts⟩ (c_Model_append th Ls 0 y h0 a_st a_ck a_en a_au a_he a_qu a_lo a_ow a_fl a_ti a_gd a_ak a_sp a_se a_sd a_rw a_sz a_op a_th a_me a_pk a_re a_dr tg kc cm su kq rw hM (by omega) (fun _ => xlt64 (hM 0 (by decide)).1 h6) H.size) (xcwV 2 hts ww_713 ww_710 ww_712 ws_Model_append ww_8 (by decide +kernel) rfl rfl ⟨Nat.le_of_ble_eq_true rfl, Nat.le_of_ble_eq_true rfl⟩) (xPreV (ci := 7) (q0 := 0) (q := (R_Model, F_Model, 28)) (hP.sub [0, 1, 2, 3] rfl) (hD.sub [0, 1, 2, 3] (by decide) rfl) hK hN rfl rfl rfl) rfl rfl hl.1 rfl (lv_room (Nat.le_of_ble_eq_true rfl)) d_Model_put_39 ⟨Nat.le_of_ble_eq_true rfl, Nat.le_of_ble_eq_true rfl⟩) hP hD hS hA [0, 1, 2, 3] [] [0, 1, 2, 3] rfl rfl (by decide) (by decide) (by decide) (fun _ => rfl) (fun u7 H locs hw hP hD hS => ?_)
        obtain ⟨th7, Ls7, rw7⟩ := u7
        obtain ⟨hw, hM_7⟩ := hw
        replace hP : va_P D vwCl [(h0, .inr (7, [.int tg, .ref a_st, .ref a_ck, .ref a_en, .ref a_au, .ref a_he, .ref a_qu, .ref a_lo, .ref a_ow, .ref a_fl, .ref a_ti, .ref a_gd, .ref a_ak, .ref a_sp, .ref a_se, .ref a_sd, .ref a_rw, .ref a_sz, .ref a_op, .ref a_th, .ref a_me, .ref a_pk, .int (nI kc), .int cm, .int su, .ref a_re, .int (nI kq), .ref a_dr])), (a_th, .inl (cZ, 2, .inl th7)), (a_rw, .inl (cI, 256, .inl rw7)), (a_sz, .inl (cI, 4, .inl (szf Ls7)))] H := hP
        replace hD : va_D A [(h0, .inr (7, [.int tg, .ref a_st, .ref a_ck, .ref a_en, .ref a_au, .ref a_he, .ref a_qu, .ref a_lo, .ref a_ow, .ref a_fl, .ref a_ti, .ref a_gd, .ref a_ak, .ref a_sp, .ref a_se, .ref a_sd, .ref a_rw, .ref a_sz, .ref a_op, .ref a_th, .ref a_me, .ref a_pk, .int (nI kc), .int cm, .int su, .ref a_re, .int (nI kq), .ref a_dr])), (a_th, .inl (cZ, 2, .inl th7)), (a_rw, .inl (cI, 256, .inl rw7)), (a_sz, .inl (cI, 4, .inl (szf Ls7)))] := hD
        have hw_7 := hw
        replace hq := hq.trans (bnd2_eq hw)
        try dsimp only at hq
        refine lv_aload_n hx hb d_Model_put_42 rfl (lv_at hl 0 rfl) ?_
        refine va_get (D := D) (ci := 7) (v := .ref a_sz) (C := R_Model) (T := F_Model) (N := 28) hx hb hts hin_Model hown hK hP 0 rfl rfl 17 (by decide) (hts _ (xm ww_550)) (fun _ h9 => h9) rfl d_Model_put_43 ?_
        refine lv_iconst (v := 2) hx hb d_Model_put_46 rfl ?_
        refine lv_iload_n hx hb d_Model_put_47 rfl (lv_at hl 1 rfl) ?_
        refine lv_imul hx hb d_Model_put_48 ?_
        refine xtop (y := 0) (by decide) ?_
        refine xiald (k := 0) hx hb hK hP 3 0 rfl rfl rfl (by decide) (by decide) d_Model_put_49 ?_
        refine xtop (y := nI ((Ls7 0).length)) rfl ?_
        exact hret (nI ((Ls7 0).length)) (th7, Ls7, rw7) ⟨hq.symm, hM_7⟩ _ _ _ _ hP hD hS d_Model_put_50
      replace hq := hq.trans (if_pos h6)
      refine lv_bipush (v := (-2)) hx hb d_Model_put_33 rfl ?_
      exact hret (-2) (th, Ls, rw) ⟨hq.symm, hM⟩ _ _ _ _ hP hD hS d_Model_put_35
    replace hq := hq.trans (if_neg h5)
    have hx1 : x = 1 := isEnd1 h2 h5
    subst hx1
    replace hl : lv_has ls 3 [(0, .ref h0), (1, .int 1), (2, .int y)] := hl
    refine lv_aload_n hx hb d_Model_put_20 rfl (lv_at hl 0 rfl) ?_
    refine va_get (D := D) (ci := 7) (v := .ref a_sz) (C := R_Model) (T := F_Model) (N := 28) hx hb hts hin_Model hown hK hP 0 rfl rfl 17 (by decide) (hts _ (xm ww_550)) (fun _ h9 => h9) rfl d_Model_put_21 ?_
    refine lv_iconst (v := 2) hx hb d_Model_put_24 rfl ?_
    refine lv_iload_n hx hb d_Model_put_25 rfl (lv_at hl 1 rfl) ?_
    refine lv_imul hx hb d_Model_put_26 ?_
    refine xtop (y := 2) (by decide) ?_
    refine xiald (k := 2) hx hb hK hP 3 0 rfl rfl rfl (by decide) (by decide) d_Model_put_27 ?_
    refine xtop (y := nI ((Ls 2).length)) rfl ?_
    refine lv_bipush (v := 64) hx hb d_Model_put_28 rfl ?_
    refine lv_icmp_ne (tgt := 36) hx hb d_Model_put_30 rfl (fun h8 => ?_) (fun h8 => ?_)
    · replace hq := hq.trans (if_neg h8)
      refine lv_aload_n hx hb d_Model_put_36 rfl (lv_at hl 0 rfl) ?_
      refine lv_iload_n hx hb d_Model_put_37 rfl (lv_at hl 1 rfl) ?_
      refine lv_iload_n hx hb d_Model_put_38 rfl (lv_at hl 2 rfl) ?_
      refine xcall_v (wc := [(h0, .inr (7, [.int tg, .ref a_st, .ref a_ck, .ref a_en, .ref a_au, .ref a_he, .ref a_qu, .ref a_lo, .ref a_ow, .ref a_fl, .ref a_ti, .ref a_gd, .ref a_ak, .ref a_sp, .ref a_se, .ref a_sd, .ref a_rw, .ref a_sz, .ref a_op, .ref a_th, .ref a_me, .ref a_pk, .int (nI kc), .int cm, .int su, .ref a_re, .int (nI kq), .ref a_dr])), (a_th, .inl (cZ, 2, .inl th)), (a_rw, .inl (cI, 256, .inl rw)), (a_sz, .inl (cI, 4, .inl (szf Ls)))]) (wr := []) (ws1 := fun (u : (Nat → Int32) × (Nat → List Int32) × (Nat → Int32)) => [(h0, .inr (7, [.int tg, .ref a_st, .ref a_ck, .ref a_en, .ref a_au, .ref a_he, .ref a_qu, .ref a_lo, .ref a_ow, .ref a_fl, .ref a_ti, .ref a_gd, .ref a_ak, .ref a_sp, .ref a_se, .ref a_sd, .ref a_rw, .ref a_sz, .ref a_op, .ref a_th, .ref a_me, .ref a_pk, .int (nI kc), .int cm, .int su, .ref a_re, .int (nI kq), .ref a_dr])), (a_th, .inl (cZ, 2, .inl u.1)), (a_rw, .inl (cI, 256, .inl u.2.2)), (a_sz, .inl (cI, 4, .inl (szf u.2.1)))]) (va_runV (As := [.int 1, .int y]) (rest := []) ⟨hx, hb, hml, hown, hts⟩ (c_Model_append th Ls 1 y h0 a_st a_ck a_en a_au a_he a_qu a_lo a_ow a_fl a_ti a_gd a_ak a_sp a_se a_sd a_rw a_sz a_op a_th a_me a_pk a_re a_dr tg kc cm su kq rw hM (by omega) (fun _ => xlt64 (hM 2 (by decide)).1 h8) H.size) (xcwV 2 hts ww_713 ww_710 ww_712 ws_Model_append ww_8 (by decide +kernel) rfl rfl ⟨Nat.le_of_ble_eq_true rfl, Nat.le_of_ble_eq_true rfl⟩) (xPreV (ci := 7) (q0 := 0) (q := (R_Model, F_Model, 28)) (hP.sub [0, 1, 2, 3] rfl) (hD.sub [0, 1, 2, 3] (by decide) rfl) hK hN rfl rfl rfl) rfl rfl hl.1 rfl (lv_room (Nat.le_of_ble_eq_true rfl)) d_Model_put_39 ⟨Nat.le_of_ble_eq_true rfl, Nat.le_of_ble_eq_true rfl⟩) hP hD hS hA [0, 1, 2, 3] [] [0, 1, 2, 3] rfl rfl (by decide) (by decide) (by decide) (fun _ => rfl) (fun u9 H locs hw hP hD hS => ?_)
      obtain ⟨th9, Ls9, rw9⟩ := u9
      obtain ⟨hw, hM_9⟩ := hw
      replace hP : va_P D vwCl [(h0, .inr (7, [.int tg, .ref a_st, .ref a_ck, .ref a_en, .ref a_au, .ref a_he, .ref a_qu, .ref a_lo, .ref a_ow, .ref a_fl, .ref a_ti, .ref a_gd, .ref a_ak, .ref a_sp, .ref a_se, .ref a_sd, .ref a_rw, .ref a_sz, .ref a_op, .ref a_th, .ref a_me, .ref a_pk, .int (nI kc), .int cm, .int su, .ref a_re, .int (nI kq), .ref a_dr])), (a_th, .inl (cZ, 2, .inl th9)), (a_rw, .inl (cI, 256, .inl rw9)), (a_sz, .inl (cI, 4, .inl (szf Ls9)))] H := hP
      replace hD : va_D A [(h0, .inr (7, [.int tg, .ref a_st, .ref a_ck, .ref a_en, .ref a_au, .ref a_he, .ref a_qu, .ref a_lo, .ref a_ow, .ref a_fl, .ref a_ti, .ref a_gd, .ref a_ak, .ref a_sp, .ref a_se, .ref a_sd, .ref a_rw, .ref a_sz, .ref a_op, .ref a_th, .ref a_me, .ref a_pk, .int (nI kc), .int cm, .int su, .ref a_re, .int (nI kq), .ref a_dr])), (a_th, .inl (cZ, 2, .inl th9)), (a_rw, .inl (cI, 256, .inl rw9)), (a_sz, .inl (cI, 4, .inl (szf Ls9)))] := hD
      have hw_9 := hw
      replace hq := hq.trans (bnd2_eq hw)
      try dsimp only at hq
      refine lv_aload_n hx hb d_Model_put_42 rfl (lv_at hl 0 rfl) ?_
      refine va_get (D := D) (ci := 7) (v := .ref a_sz) (C := R_Model) (T := F_Model) (N := 28) hx hb hts hin_Model hown hK hP 0 rfl rfl 17 (by decide) (hts _ (xm ww_550)) (fun _ h9 => h9) rfl d_Model_put_43 ?_
      refine lv_iconst (v := 2) hx hb d_Model_put_46 rfl ?_
      refine lv_iload_n hx hb d_Model_put_47 rfl (lv_at hl 1 rfl) ?_
      refine lv_imul hx hb d_Model_put_48 ?_
      refine xtop (y := 2) (by decide) ?_
      refine xiald (k := 2) hx hb hK hP 3 0 rfl rfl rfl (by decide) (by decide) d_Model_put_49 ?_
      refine xtop (y := nI ((Ls9 2).length)) rfl ?_
      exact hret (nI ((Ls9 2).length)) (th9, Ls9, rw9) ⟨hq.symm, hM_9⟩ _ _ _ _ hP hD hS d_Model_put_50
    replace hq := hq.trans (if_pos h8)
    refine lv_bipush (v := (-2)) hx hb d_Model_put_33 rfl ?_
    exact hret (-2) (th, Ls, rw) ⟨hq.symm, hM⟩ _ _ _ _ hP hD hS d_Model_put_35
  replace hq := hq.trans (if_neg h4)
  refine lv_iconst (v := (-1)) hx hb d_Model_put_18 rfl ?_
  exact hret (-1) (th, Ls, rw) ⟨hq.symm, hM⟩ _ _ _ _ hP hD hS d_Model_put_19

def s_Model_take (Ls : Nat → List Int32) (tg : Int32) (x : Int32) : Int32 × (Nat → List Int32) := if (s_Model_isEnd x) = 0 then ((-1), Ls) else (if x = 1 then (if tg = 0 then (if x = 0 then (if (nI ((Ls 1).length)) = 0 then ((-3), Ls) else (bnd2 (s_Model_remove Ls 1) (fun r12 Ls12 => (r12, Ls12)))) else (if (nI ((Ls 3).length)) = 0 then ((-3), Ls) else (bnd2 (s_Model_remove Ls 3) (fun r14 Ls14 => (r14, Ls14))))) else ((-1), Ls)) else (if x = 0 then (if (nI ((Ls 1).length)) = 0 then ((-3), Ls) else (bnd2 (s_Model_remove Ls 1) (fun r6 Ls6 => (r6, Ls6)))) else (if (nI ((Ls 3).length)) = 0 then ((-3), Ls) else (bnd2 (s_Model_remove Ls 3) (fun r8 Ls8 => (r8, Ls8))))))
abbrev rm_Model_take : Room := { frames := 1, cells := 0, slots := 0, locals := 23 }
set_option maxHeartbeats 1000000 in
set_option maxRecDepth 100000 in
theorem c_Model_take {l : Launch} {D : va_G} {cI cZ : ClassId} (Ls : Nat → List Int32) (tg : Int32) (x : Int32) (h0 : Nat) (a_st : Nat) (a_ck : Nat) (a_en : Nat) (a_au : Nat) (a_he : Nat) (a_qu : Nat) (a_lo : Nat) (a_ow : Nat) (a_fl : Nat) (a_ti : Nat) (a_gd : Nat) (a_ak : Nat) (a_sp : Nat) (a_se : Nat) (a_sd : Nat) (a_rw : Nat) (a_sz : Nat) (a_op : Nat) (a_th : Nat) (a_me : Nat) (a_pk : Nat) (a_re : Nat) (a_dr : Nat) (kc : Nat) (cm : Int32) (su : Int32) (kq : Nat) (rw : Nat → Int32) (hM : RepM rw Ls) (sz : Nat) : Met l y_Model_take (w_Model_take) rm_Model_take (va_Pc [.ref h0, .int x] (xPre xNs D vwCl cI cZ [(h0, .inr (7, [.int tg, .ref a_st, .ref a_ck, .ref a_en, .ref a_au, .ref a_he, .ref a_qu, .ref a_lo, .ref a_ow, .ref a_fl, .ref a_ti, .ref a_gd, .ref a_ak, .ref a_sp, .ref a_se, .ref a_sd, .ref a_rw, .ref a_sz, .ref a_op, .ref a_th, .ref a_me, .ref a_pk, .int (nI kc), .int cm, .int su, .ref a_re, .int (nI kq), .ref a_dr])), (a_rw, .inl (cI, 256, .inl rw)), (a_sz, .inl (cI, 4, .inl (szf Ls)))] sz)) (va_Qi (fun (r : Int32) (u : (Nat → List Int32) × (Nat → Int32)) => (r, u.1) = s_Model_take Ls tg x ∧ RepM u.2 u.1) (fun u t9 => xAt D vwCl (va_A [(h0, .inr (7, [.int tg, .ref a_st, .ref a_ck, .ref a_en, .ref a_au, .ref a_he, .ref a_qu, .ref a_lo, .ref a_ow, .ref a_fl, .ref a_ti, .ref a_gd, .ref a_ak, .ref a_sp, .ref a_se, .ref a_sd, .ref a_rw, .ref a_sz, .ref a_op, .ref a_th, .ref a_me, .ref a_pk, .int (nI kc), .int cm, .int su, .ref a_re, .int (nI kq), .ref a_dr])), (a_rw, .inl (cI, 256, .inl rw)), (a_sz, .inl (cI, 4, .inl (szf Ls)))] sz) [(h0, .inr (7, [.int tg, .ref a_st, .ref a_ck, .ref a_en, .ref a_au, .ref a_he, .ref a_qu, .ref a_lo, .ref a_ow, .ref a_fl, .ref a_ti, .ref a_gd, .ref a_ak, .ref a_sp, .ref a_se, .ref a_sd, .ref a_rw, .ref a_sz, .ref a_op, .ref a_th, .ref a_me, .ref a_pk, .int (nI kc), .int cm, .int su, .ref a_re, .int (nI kq), .ref a_dr])), (a_rw, .inl (cI, 256, .inl u.2)), (a_sz, .inl (cI, 4, .inl (szf u.1)))] t9) (va_A [(h0, .inr (7, [.int tg, .ref a_st, .ref a_ck, .ref a_en, .ref a_au, .ref a_he, .ref a_qu, .ref a_lo, .ref a_ow, .ref a_fl, .ref a_ti, .ref a_gd, .ref a_ak, .ref a_sp, .ref a_se, .ref a_sd, .ref a_rw, .ref a_sz, .ref a_op, .ref a_th, .ref a_me, .ref a_pk, .int (nI kc), .int cm, .int su, .ref a_re, .int (nI kq), .ref a_dr])), (a_rw, .inl (cI, 256, .inl rw)), (a_sz, .inl (cI, 4, .inl (szf Ls)))] sz)) 0 0 (va_A [(h0, .inr (7, [.int tg, .ref a_st, .ref a_ck, .ref a_en, .ref a_au, .ref a_he, .ref a_qu, .ref a_lo, .ref a_ow, .ref a_fl, .ref a_ti, .ref a_gd, .ref a_ak, .ref a_sp, .ref a_se, .ref a_sd, .ref a_rw, .ref a_sz, .ref a_op, .ref a_th, .ref a_me, .ref a_pk, .int (nI kc), .int cm, .int su, .ref a_re, .int (nI kq), .ref a_dr])), (a_rw, .inl (cI, 256, .inl rw)), (a_sz, .inl (cI, 4, .inl (szf Ls)))] sz) := by
  refine xBody_i (S := (Nat → List Int32) × (Nat → Int32)) (cc := b_Model_take) (maxL := 2) (by decide) rfl (Nat.le_of_ble_eq_true rfl) ?_
  intro p e s m args below meth c A H ls Q hx hb hml hin hts hown hP hD hK hN hS hA hl hret
  replace hl : lv_has ls 2 [(0, .ref h0), (1, .int x)] := hl
  have hin_Model : ∀ w ∈ u_ws R_Model F_Model 28, w ∈ (w_Model_take) := (fun w h => xm (lay_Model w h))
  have hq : s_Model_take Ls tg x = (if (s_Model_isEnd x) = 0 then ((-1), Ls) else (if x = 1 then (if tg = 0 then (if x = 0 then (if (nI ((Ls 1).length)) = 0 then ((-3), Ls) else (bnd2 (s_Model_remove Ls 1) (fun r12 Ls12 => (r12, Ls12)))) else (if (nI ((Ls 3).length)) = 0 then ((-3), Ls) else (bnd2 (s_Model_remove Ls 3) (fun r14 Ls14 => (r14, Ls14))))) else ((-1), Ls)) else (if x = 0 then (if (nI ((Ls 1).length)) = 0 then ((-3), Ls) else (bnd2 (s_Model_remove Ls 1) (fun r6 Ls6 => (r6, Ls6)))) else (if (nI ((Ls 3).length)) = 0 then ((-3), Ls) else (bnd2 (s_Model_remove Ls 3) (fun r8 Ls8 => (r8, Ls8))))))) := rfl
  refine lv_iload_n hx hb d_Model_take_0 rfl (lv_at hl 1 rfl) ?_
  refine xcall_i (wc := []) (wr := [(h0, .inr (7, [.int tg, .ref a_st, .ref a_ck, .ref a_en, .ref a_au, .ref a_he, .ref a_qu, .ref a_lo, .ref a_ow, .ref a_fl, .ref a_ti, .ref a_gd, .ref a_ak, .ref a_sp, .ref a_se, .ref a_sd, .ref a_rw, .ref a_sz, .ref a_op, .ref a_th, .ref a_me, .ref a_pk, .int (nI kc), .int cm, .int su, .ref a_re, .int (nI kq), .ref a_dr])), (a_rw, .inl (cI, 256, .inl rw)), (a_sz, .inl (cI, 4, .inl (szf Ls)))]) (ws1 := fun (u : Unit) => [(h0, .inr (7, [.int tg, .ref a_st, .ref a_ck, .ref a_en, .ref a_au, .ref a_he, .ref a_qu, .ref a_lo, .ref a_ow, .ref a_fl, .ref a_ti, .ref a_gd, .ref a_ak, .ref a_sp, .ref a_se, .ref a_sd, .ref a_rw, .ref a_sz, .ref a_op, .ref a_th, .ref a_me, .ref a_pk, .int (nI kc), .int cm, .int su, .ref a_re, .int (nI kq), .ref a_dr])), (a_rw, .inl (cI, 256, .inl rw)), (a_sz, .inl (cI, 4, .inl (szf Ls)))]) (va_runS (As := [.int x]) (rest := []) ⟨hx, hb, hml, hown, hts⟩ (c_Model_isEnd x H.size) (xcwS 1 hts ww_720 ww_718 ww_719 ww_8 (by decide +kernel) rfl rfl ⟨Nat.le_of_ble_eq_true rfl, Nat.le_of_ble_eq_true rfl⟩) (xPreS (hP.sub [] rfl) (hD.sub [] (by decide) rfl) hK hN) rfl rfl hl.1 rfl (lv_room (Nat.le_of_ble_eq_true rfl)) d_Model_take_1 ⟨Nat.le_of_ble_eq_true rfl, Nat.le_of_ble_eq_true rfl⟩) hP hD hS hA [] [0, 1, 2] [0, 1, 2] rfl rfl (by decide) (by decide) (by decide) (fun _ => rfl) (fun r1 u1 H locs hw hP hD hS => ?_)
  obtain ⟨hw, hbr_1⟩ := hw
  subst hw
  replace hP : va_P D vwCl [(h0, .inr (7, [.int tg, .ref a_st, .ref a_ck, .ref a_en, .ref a_au, .ref a_he, .ref a_qu, .ref a_lo, .ref a_ow, .ref a_fl, .ref a_ti, .ref a_gd, .ref a_ak, .ref a_sp, .ref a_se, .ref a_sd, .ref a_rw, .ref a_sz, .ref a_op, .ref a_th, .ref a_me, .ref a_pk, .int (nI kc), .int cm, .int su, .ref a_re, .int (nI kq), .ref a_dr])), (a_rw, .inl (cI, 256, .inl rw)), (a_sz, .inl (cI, 4, .inl (szf Ls)))] H := hP
  replace hD : va_D A [(h0, .inr (7, [.int tg, .ref a_st, .ref a_ck, .ref a_en, .ref a_au, .ref a_he, .ref a_qu, .ref a_lo, .ref a_ow, .ref a_fl, .ref a_ti, .ref a_gd, .ref a_ak, .ref a_sp, .ref a_se, .ref a_sd, .ref a_rw, .ref a_sz, .ref a_op, .ref a_th, .ref a_me, .ref a_pk, .int (nI kc), .int cm, .int su, .ref a_re, .int (nI kq), .ref a_dr])), (a_rw, .inl (cI, 256, .inl rw)), (a_sz, .inl (cI, 4, .inl (szf Ls)))] := hD
  refine lv_if_eq (tgt := 19) hx hb d_Model_take_4 rfl (fun h2 => ?_) (fun h2 => ?_)
  · replace hq := hq.trans (if_pos h2)
    refine lv_iconst (v := (-1)) hx hb d_Model_take_19 rfl ?_
    exact hret (-1) (Ls, rw) ⟨hq.symm, hM⟩ _ _ _ _ hP hD hS d_Model_take_20
  replace hq := hq.trans (if_neg h2)
  refine lv_iload_n hx hb d_Model_take_7 rfl (lv_at hl 1 rfl) ?_
  refine lv_iconst (v := 1) hx hb d_Model_take_8 rfl ?_
  refine lv_icmp_ne (tgt := 21) hx hb d_Model_take_9 rfl (fun h3 => ?_) (fun h3 => ?_)
  · replace hq := hq.trans (if_neg h3)
    by_cases h4 : x = 0
    · replace hq := hq.trans (if_pos h4)
      subst h4
      replace hl : lv_has ls 2 [(0, .ref h0), (1, .int 0)] := hl
      refine lv_aload_n hx hb d_Model_take_21 rfl (lv_at hl 0 rfl) ?_
      refine va_get (D := D) (ci := 7) (v := .ref a_sz) (C := R_Model) (T := F_Model) (N := 28) hx hb hts hin_Model hown hK hP 0 rfl rfl 17 (by decide) (hts _ (xm ww_550)) (fun _ h9 => h9) rfl d_Model_take_22 ?_
      refine lv_iconst (v := 2) hx hb d_Model_take_25 rfl ?_
      refine lv_iload_n hx hb d_Model_take_26 rfl (lv_at hl 1 rfl) ?_
      refine lv_imul hx hb d_Model_take_27 ?_
      refine xtop (y := 0) (by decide) ?_
      refine lv_iconst (v := 1) hx hb d_Model_take_28 rfl ?_
      refine lv_iadd hx hb d_Model_take_29 ?_
      refine xtop (y := 1) (by decide) ?_
      refine xiald (k := 1) hx hb hK hP 2 0 rfl rfl rfl (by decide) (by decide) d_Model_take_30 ?_
      refine xtop (y := nI ((Ls 1).length)) rfl ?_
      refine lv_if_ne (tgt := 39) hx hb d_Model_take_31 rfl (fun h5 => ?_) (fun h5 => ?_)
      · replace hq := hq.trans (if_neg h5)
        refine lv_aload_n hx hb d_Model_take_39 rfl (lv_at hl 0 rfl) ?_
        refine lv_iconst (v := 2) hx hb d_Model_take_40 rfl ?_
        refine lv_iload_n hx hb d_Model_take_41 rfl (lv_at hl 1 rfl) ?_
        refine lv_imul hx hb d_Model_take_42 ?_
        refine xtop (y := 0) (by decide) ?_
        refine lv_iconst (v := 1) hx hb d_Model_take_43 rfl ?_
        refine lv_iadd hx hb d_Model_take_44 ?_
        refine xtop (y := 1) (by decide) ?_
        refine xcall_i (wc := [(h0, .inr (7, [.int tg, .ref a_st, .ref a_ck, .ref a_en, .ref a_au, .ref a_he, .ref a_qu, .ref a_lo, .ref a_ow, .ref a_fl, .ref a_ti, .ref a_gd, .ref a_ak, .ref a_sp, .ref a_se, .ref a_sd, .ref a_rw, .ref a_sz, .ref a_op, .ref a_th, .ref a_me, .ref a_pk, .int (nI kc), .int cm, .int su, .ref a_re, .int (nI kq), .ref a_dr])), (a_rw, .inl (cI, 256, .inl rw)), (a_sz, .inl (cI, 4, .inl (szf Ls)))]) (wr := []) (ws1 := fun (u : (Nat → List Int32) × (Nat → Int32)) => [(h0, .inr (7, [.int tg, .ref a_st, .ref a_ck, .ref a_en, .ref a_au, .ref a_he, .ref a_qu, .ref a_lo, .ref a_ow, .ref a_fl, .ref a_ti, .ref a_gd, .ref a_ak, .ref a_sp, .ref a_se, .ref a_sd, .ref a_rw, .ref a_sz, .ref a_op, .ref a_th, .ref a_me, .ref a_pk, .int (nI kc), .int cm, .int su, .ref a_re, .int (nI kq), .ref a_dr])), (a_rw, .inl (cI, 256, .inl u.2)), (a_sz, .inl (cI, 4, .inl (szf u.1)))]) (va_runV (As := [.int 1]) (rest := []) ⟨hx, hb, hml, hown, hts⟩ (c_Model_remove Ls 1 h0 a_st a_ck a_en a_au a_he a_qu a_lo a_ow a_fl a_ti a_gd a_ak a_sp a_se a_sd a_rw a_sz a_op a_th a_me a_pk a_re a_dr tg kc cm su kq rw hM (by omega) (Nat.pos_of_ne_zero fun h9 => h5 (by rw [h9]; rfl)) H.size) (xcwV 1 hts ww_646 ww_643 ww_645 ws_Model_remove ww_8 (by decide +kernel) rfl rfl ⟨Nat.le_of_ble_eq_true rfl, Nat.le_of_ble_eq_true rfl⟩) (xPreV (ci := 7) (q0 := 0) (q := (R_Model, F_Model, 28)) (hP.sub [0, 1, 2] rfl) (hD.sub [0, 1, 2] (by decide) rfl) hK hN rfl rfl rfl) rfl rfl hl.1 rfl (lv_room (Nat.le_of_ble_eq_true rfl)) d_Model_take_45 ⟨Nat.le_of_ble_eq_true rfl, Nat.le_of_ble_eq_true rfl⟩) hP hD hS hA [0, 1, 2] [] [0, 1, 2] rfl rfl (by decide) (by decide) (by decide) (fun _ => rfl) (fun r6 u6 H locs hw hP hD hS => ?_)
        obtain ⟨Ls6, rw6⟩ := u6
        obtain ⟨hw, hM_6⟩ := hw
        replace hP : va_P D vwCl [(h0, .inr (7, [.int tg, .ref a_st, .ref a_ck, .ref a_en, .ref a_au, .ref a_he, .ref a_qu, .ref a_lo, .ref a_ow, .ref a_fl, .ref a_ti, .ref a_gd, .ref a_ak, .ref a_sp, .ref a_se, .ref a_sd, .ref a_rw, .ref a_sz, .ref a_op, .ref a_th, .ref a_me, .ref a_pk, .int (nI kc), .int cm, .int su, .ref a_re, .int (nI kq), .ref a_dr])), (a_rw, .inl (cI, 256, .inl rw6)), (a_sz, .inl (cI, 4, .inl (szf Ls6)))] H := hP
        replace hD : va_D A [(h0, .inr (7, [.int tg, .ref a_st, .ref a_ck, .ref a_en, .ref a_au, .ref a_he, .ref a_qu, .ref a_lo, .ref a_ow, .ref a_fl, .ref a_ti, .ref a_gd, .ref a_ak, .ref a_sp, .ref a_se, .ref a_sd, .ref a_rw, .ref a_sz, .ref a_op, .ref a_th, .ref a_me, .ref a_pk, .int (nI kc), .int cm, .int su, .ref a_re, .int (nI kq), .ref a_dr])), (a_rw, .inl (cI, 256, .inl rw6)), (a_sz, .inl (cI, 4, .inl (szf Ls6)))] := hD
        have hw_6 := hw
        replace hq := hq.trans (bnd2_eq hw)
        try dsimp only at hq
        exact hret r6 (Ls6, rw6) ⟨hq.symm, hM_6⟩ _ _ _ _ hP hD hS d_Model_take_48
      replace hq := hq.trans (if_pos h5)
      refine lv_bipush (v := (-3)) hx hb d_Model_take_34 rfl ?_
      refine lv_goto (tgt := 48) hx hb d_Model_take_36 rfl ?_
      exact hret (-3) (Ls, rw) ⟨hq.symm, hM⟩ _ _ _ _ hP hD hS d_Model_take_48
    replace hq := hq.trans (if_neg h4)
    have hx1 : x = 1 := isEnd1 h2 h4
    subst hx1
    replace hl : lv_has ls 2 [(0, .ref h0), (1, .int 1)] := hl
    refine lv_aload_n hx hb d_Model_take_21 rfl (lv_at hl 0 rfl) ?_
    refine va_get (D := D) (ci := 7) (v := .ref a_sz) (C := R_Model) (T := F_Model) (N := 28) hx hb hts hin_Model hown hK hP 0 rfl rfl 17 (by decide) (hts _ (xm ww_550)) (fun _ h9 => h9) rfl d_Model_take_22 ?_
    refine lv_iconst (v := 2) hx hb d_Model_take_25 rfl ?_
    refine lv_iload_n hx hb d_Model_take_26 rfl (lv_at hl 1 rfl) ?_
    refine lv_imul hx hb d_Model_take_27 ?_
    refine xtop (y := 2) (by decide) ?_
    refine lv_iconst (v := 1) hx hb d_Model_take_28 rfl ?_
    refine lv_iadd hx hb d_Model_take_29 ?_
    refine xtop (y := 3) (by decide) ?_
    refine xiald (k := 3) hx hb hK hP 2 0 rfl rfl rfl (by decide) (by decide) d_Model_take_30 ?_
    refine xtop (y := nI ((Ls 3).length)) rfl ?_
    refine lv_if_ne (tgt := 39) hx hb d_Model_take_31 rfl (fun h7 => ?_) (fun h7 => ?_)
    · replace hq := hq.trans (if_neg h7)
      refine lv_aload_n hx hb d_Model_take_39 rfl (lv_at hl 0 rfl) ?_
      refine lv_iconst (v := 2) hx hb d_Model_take_40 rfl ?_
      refine lv_iload_n hx hb d_Model_take_41 rfl (lv_at hl 1 rfl) ?_
      refine lv_imul hx hb d_Model_take_42 ?_
      refine xtop (y := 2) (by decide) ?_
      refine lv_iconst (v := 1) hx hb d_Model_take_43 rfl ?_
      refine lv_iadd hx hb d_Model_take_44 ?_
      refine xtop (y := 3) (by decide) ?_
      refine xcall_i (wc := [(h0, .inr (7, [.int tg, .ref a_st, .ref a_ck, .ref a_en, .ref a_au, .ref a_he, .ref a_qu, .ref a_lo, .ref a_ow, .ref a_fl, .ref a_ti, .ref a_gd, .ref a_ak, .ref a_sp, .ref a_se, .ref a_sd, .ref a_rw, .ref a_sz, .ref a_op, .ref a_th, .ref a_me, .ref a_pk, .int (nI kc), .int cm, .int su, .ref a_re, .int (nI kq), .ref a_dr])), (a_rw, .inl (cI, 256, .inl rw)), (a_sz, .inl (cI, 4, .inl (szf Ls)))]) (wr := []) (ws1 := fun (u : (Nat → List Int32) × (Nat → Int32)) => [(h0, .inr (7, [.int tg, .ref a_st, .ref a_ck, .ref a_en, .ref a_au, .ref a_he, .ref a_qu, .ref a_lo, .ref a_ow, .ref a_fl, .ref a_ti, .ref a_gd, .ref a_ak, .ref a_sp, .ref a_se, .ref a_sd, .ref a_rw, .ref a_sz, .ref a_op, .ref a_th, .ref a_me, .ref a_pk, .int (nI kc), .int cm, .int su, .ref a_re, .int (nI kq), .ref a_dr])), (a_rw, .inl (cI, 256, .inl u.2)), (a_sz, .inl (cI, 4, .inl (szf u.1)))]) (va_runV (As := [.int 3]) (rest := []) ⟨hx, hb, hml, hown, hts⟩ (c_Model_remove Ls 3 h0 a_st a_ck a_en a_au a_he a_qu a_lo a_ow a_fl a_ti a_gd a_ak a_sp a_se a_sd a_rw a_sz a_op a_th a_me a_pk a_re a_dr tg kc cm su kq rw hM (by omega) (Nat.pos_of_ne_zero fun h9 => h7 (by rw [h9]; rfl)) H.size) (xcwV 1 hts ww_646 ww_643 ww_645 ws_Model_remove ww_8 (by decide +kernel) rfl rfl ⟨Nat.le_of_ble_eq_true rfl, Nat.le_of_ble_eq_true rfl⟩) (xPreV (ci := 7) (q0 := 0) (q := (R_Model, F_Model, 28)) (hP.sub [0, 1, 2] rfl) (hD.sub [0, 1, 2] (by decide) rfl) hK hN rfl rfl rfl) rfl rfl hl.1 rfl (lv_room (Nat.le_of_ble_eq_true rfl)) d_Model_take_45 ⟨Nat.le_of_ble_eq_true rfl, Nat.le_of_ble_eq_true rfl⟩) hP hD hS hA [0, 1, 2] [] [0, 1, 2] rfl rfl (by decide) (by decide) (by decide) (fun _ => rfl) (fun r8 u8 H locs hw hP hD hS => ?_)
      obtain ⟨Ls8, rw8⟩ := u8
      obtain ⟨hw, hM_8⟩ := hw
      replace hP : va_P D vwCl [(h0, .inr (7, [.int tg, .ref a_st, .ref a_ck, .ref a_en, .ref a_au, .ref a_he, .ref a_qu, .ref a_lo, .ref a_ow, .ref a_fl, .ref a_ti, .ref a_gd, .ref a_ak, .ref a_sp, .ref a_se, .ref a_sd, .ref a_rw, .ref a_sz, .ref a_op, .ref a_th, .ref a_me, .ref a_pk, .int (nI kc), .int cm, .int su, .ref a_re, .int (nI kq), .ref a_dr])), (a_rw, .inl (cI, 256, .inl rw8)), (a_sz, .inl (cI, 4, .inl (szf Ls8)))] H := hP
      replace hD : va_D A [(h0, .inr (7, [.int tg, .ref a_st, .ref a_ck, .ref a_en, .ref a_au, .ref a_he, .ref a_qu, .ref a_lo, .ref a_ow, .ref a_fl, .ref a_ti, .ref a_gd, .ref a_ak, .ref a_sp, .ref a_se, .ref a_sd, .ref a_rw, .ref a_sz, .ref a_op, .ref a_th, .ref a_me, .ref a_pk, .int (nI kc), .int cm, .int su, .ref a_re, .int (nI kq), .ref a_dr])), (a_rw, .inl (cI, 256, .inl rw8)), (a_sz, .inl (cI, 4, .inl (szf Ls8)))] := hD
      have hw_8 := hw
      replace hq := hq.trans (bnd2_eq hw)
      try dsimp only at hq
      exact hret r8 (Ls8, rw8) ⟨hq.symm, hM_8⟩ _ _ _ _ hP hD hS d_Model_take_48
    replace hq := hq.trans (if_pos h7)
    refine lv_bipush (v := (-3)) hx hb d_Model_take_34 rfl ?_
    refine lv_goto (tgt := 48) hx hb d_Model_take_36 rfl ?_
    exact hret (-3) (Ls, rw) ⟨hq.symm, hM⟩ _ _ _ _ hP hD hS d_Model_take_48
  replace hq := hq.trans (if_pos h3)
  refine lv_aload_n hx hb d_Model_take_12 rfl (lv_at hl 0 rfl) ?_
  refine va_get (D := D) (ci := 7) (v := .int tg) (C := R_Model) (T := F_Model) (N := 28) hx hb hts hin_Model hown hK hP 0 rfl rfl 0 (by decide) (hts _ (xm ww_533)) (fun _ h9 => h9) rfl d_Model_take_13 ?_
  refine lv_if_eq (tgt := 21) hx hb d_Model_take_16 rfl (fun h9 => ?_) (fun h9 => ?_)
  · replace hq := hq.trans (if_pos h9)
    by_cases h10 : x = 0
    · replace hq := hq.trans (if_pos h10)
      subst h10
      replace hl : lv_has ls 2 [(0, .ref h0), (1, .int 0)] := hl
      refine lv_aload_n hx hb d_Model_take_21 rfl (lv_at hl 0 rfl) ?_
      refine va_get (D := D) (ci := 7) (v := .ref a_sz) (C := R_Model) (T := F_Model) (N := 28) hx hb hts hin_Model hown hK hP 0 rfl rfl 17 (by decide) (hts _ (xm ww_550)) (fun _ h9 => h9) rfl d_Model_take_22 ?_
      refine lv_iconst (v := 2) hx hb d_Model_take_25 rfl ?_
      refine lv_iload_n hx hb d_Model_take_26 rfl (lv_at hl 1 rfl) ?_
      refine lv_imul hx hb d_Model_take_27 ?_
      refine xtop (y := 0) (by decide) ?_
      refine lv_iconst (v := 1) hx hb d_Model_take_28 rfl ?_
      refine lv_iadd hx hb d_Model_take_29 ?_
      refine xtop (y := 1) (by decide) ?_
      refine xiald (k := 1) hx hb hK hP 2 0 rfl rfl rfl (by decide) (by decide) d_Model_take_30 ?_
      refine xtop (y := nI ((Ls 1).length)) rfl ?_
      refine lv_if_ne (tgt := 39) hx hb d_Model_take_31 rfl (fun h11 => ?_) (fun h11 => ?_)
      · replace hq := hq.trans (if_neg h11)
        refine lv_aload_n hx hb d_Model_take_39 rfl (lv_at hl 0 rfl) ?_
        refine lv_iconst (v := 2) hx hb d_Model_take_40 rfl ?_
        refine lv_iload_n hx hb d_Model_take_41 rfl (lv_at hl 1 rfl) ?_
        refine lv_imul hx hb d_Model_take_42 ?_
        refine xtop (y := 0) (by decide) ?_
        refine lv_iconst (v := 1) hx hb d_Model_take_43 rfl ?_
        refine lv_iadd hx hb d_Model_take_44 ?_
        refine xtop (y := 1) (by decide) ?_
        refine xcall_i (wc := [(h0, .inr (7, [.int tg, .ref a_st, .ref a_ck, .ref a_en, .ref a_au, .ref a_he, .ref a_qu, .ref a_lo, .ref a_ow, .ref a_fl, .ref a_ti, .ref a_gd, .ref a_ak, .ref a_sp, .ref a_se, .ref a_sd, .ref a_rw, .ref a_sz, .ref a_op, .ref a_th, .ref a_me, .ref a_pk, .int (nI kc), .int cm, .int su, .ref a_re, .int (nI kq), .ref a_dr])), (a_rw, .inl (cI, 256, .inl rw)), (a_sz, .inl (cI, 4, .inl (szf Ls)))]) (wr := []) (ws1 := fun (u : (Nat → List Int32) × (Nat → Int32)) => [(h0, .inr (7, [.int tg, .ref a_st, .ref a_ck, .ref a_en, .ref a_au, .ref a_he, .ref a_qu, .ref a_lo, .ref a_ow, .ref a_fl, .ref a_ti, .ref a_gd, .ref a_ak, .ref a_sp, .ref a_se, .ref a_sd, .ref a_rw, .ref a_sz, .ref a_op, .ref a_th, .ref a_me, .ref a_pk, .int (nI kc), .int cm, .int su, .ref a_re, .int (nI kq), .ref a_dr])), (a_rw, .inl (cI, 256, .inl u.2)), (a_sz, .inl (cI, 4, .inl (szf u.1)))]) (va_runV (As := [.int 1]) (rest := []) ⟨hx, hb, hml, hown, hts⟩ (c_Model_remove Ls 1 h0 a_st a_ck a_en a_au a_he a_qu a_lo a_ow a_fl a_ti a_gd a_ak a_sp a_se a_sd a_rw a_sz a_op a_th a_me a_pk a_re a_dr tg kc cm su kq rw hM (by omega) (Nat.pos_of_ne_zero fun h9 => h11 (by rw [h9]; rfl)) H.size) (xcwV 1 hts ww_646 ww_643 ww_645 ws_Model_remove ww_8 (by decide +kernel) rfl rfl ⟨Nat.le_of_ble_eq_true rfl, Nat.le_of_ble_eq_true rfl⟩) (xPreV (ci := 7) (q0 := 0) (q := (R_Model, F_Model, 28)) (hP.sub [0, 1, 2] rfl) (hD.sub [0, 1, 2] (by decide) rfl) hK hN rfl rfl rfl) rfl rfl hl.1 rfl (lv_room (Nat.le_of_ble_eq_true rfl)) d_Model_take_45 ⟨Nat.le_of_ble_eq_true rfl, Nat.le_of_ble_eq_true rfl⟩) hP hD hS hA [0, 1, 2] [] [0, 1, 2] rfl rfl (by decide) (by decide) (by decide) (fun _ => rfl) (fun r12 u12 H locs hw hP hD hS => ?_)
        obtain ⟨Ls12, rw12⟩ := u12
        obtain ⟨hw, hM_12⟩ := hw
        replace hP : va_P D vwCl [(h0, .inr (7, [.int tg, .ref a_st, .ref a_ck, .ref a_en, .ref a_au, .ref a_he, .ref a_qu, .ref a_lo, .ref a_ow, .ref a_fl, .ref a_ti, .ref a_gd, .ref a_ak, .ref a_sp, .ref a_se, .ref a_sd, .ref a_rw, .ref a_sz, .ref a_op, .ref a_th, .ref a_me, .ref a_pk, .int (nI kc), .int cm, .int su, .ref a_re, .int (nI kq), .ref a_dr])), (a_rw, .inl (cI, 256, .inl rw12)), (a_sz, .inl (cI, 4, .inl (szf Ls12)))] H := hP
        replace hD : va_D A [(h0, .inr (7, [.int tg, .ref a_st, .ref a_ck, .ref a_en, .ref a_au, .ref a_he, .ref a_qu, .ref a_lo, .ref a_ow, .ref a_fl, .ref a_ti, .ref a_gd, .ref a_ak, .ref a_sp, .ref a_se, .ref a_sd, .ref a_rw, .ref a_sz, .ref a_op, .ref a_th, .ref a_me, .ref a_pk, .int (nI kc), .int cm, .int su, .ref a_re, .int (nI kq), .ref a_dr])), (a_rw, .inl (cI, 256, .inl rw12)), (a_sz, .inl (cI, 4, .inl (szf Ls12)))] := hD
        have hw_12 := hw
        replace hq := hq.trans (bnd2_eq hw)
        try dsimp only at hq
        exact hret r12 (Ls12, rw12) ⟨hq.symm, hM_12⟩ _ _ _ _ hP hD hS d_Model_take_48
      replace hq := hq.trans (if_pos h11)
      refine lv_bipush (v := (-3)) hx hb d_Model_take_34 rfl ?_
      refine lv_goto (tgt := 48) hx hb d_Model_take_36 rfl ?_
      exact hret (-3) (Ls, rw) ⟨hq.symm, hM⟩ _ _ _ _ hP hD hS d_Model_take_48
    replace hq := hq.trans (if_neg h10)
    have hx1 : x = 1 := isEnd1 h2 h10
    subst hx1
    replace hl : lv_has ls 2 [(0, .ref h0), (1, .int 1)] := hl
    refine lv_aload_n hx hb d_Model_take_21 rfl (lv_at hl 0 rfl) ?_
    refine va_get (D := D) (ci := 7) (v := .ref a_sz) (C := R_Model) (T := F_Model) (N := 28) hx hb hts hin_Model hown hK hP 0 rfl rfl 17 (by decide) (hts _ (xm ww_550)) (fun _ h9 => h9) rfl d_Model_take_22 ?_
    refine lv_iconst (v := 2) hx hb d_Model_take_25 rfl ?_
    refine lv_iload_n hx hb d_Model_take_26 rfl (lv_at hl 1 rfl) ?_
    refine lv_imul hx hb d_Model_take_27 ?_
    refine xtop (y := 2) (by decide) ?_
    refine lv_iconst (v := 1) hx hb d_Model_take_28 rfl ?_
    refine lv_iadd hx hb d_Model_take_29 ?_
    refine xtop (y := 3) (by decide) ?_
    refine xiald (k := 3) hx hb hK hP 2 0 rfl rfl rfl (by decide) (by decide) d_Model_take_30 ?_
    refine xtop (y := nI ((Ls 3).length)) rfl ?_
    refine lv_if_ne (tgt := 39) hx hb d_Model_take_31 rfl (fun h13 => ?_) (fun h13 => ?_)
    · replace hq := hq.trans (if_neg h13)
      refine lv_aload_n hx hb d_Model_take_39 rfl (lv_at hl 0 rfl) ?_
      refine lv_iconst (v := 2) hx hb d_Model_take_40 rfl ?_
      refine lv_iload_n hx hb d_Model_take_41 rfl (lv_at hl 1 rfl) ?_
      refine lv_imul hx hb d_Model_take_42 ?_
      refine xtop (y := 2) (by decide) ?_
      refine lv_iconst (v := 1) hx hb d_Model_take_43 rfl ?_
      refine lv_iadd hx hb d_Model_take_44 ?_
      refine xtop (y := 3) (by decide) ?_
      refine xcall_i (wc := [(h0, .inr (7, [.int tg, .ref a_st, .ref a_ck, .ref a_en, .ref a_au, .ref a_he, .ref a_qu, .ref a_lo, .ref a_ow, .ref a_fl, .ref a_ti, .ref a_gd, .ref a_ak, .ref a_sp, .ref a_se, .ref a_sd, .ref a_rw, .ref a_sz, .ref a_op, .ref a_th, .ref a_me, .ref a_pk, .int (nI kc), .int cm, .int su, .ref a_re, .int (nI kq), .ref a_dr])), (a_rw, .inl (cI, 256, .inl rw)), (a_sz, .inl (cI, 4, .inl (szf Ls)))]) (wr := []) (ws1 := fun (u : (Nat → List Int32) × (Nat → Int32)) => [(h0, .inr (7, [.int tg, .ref a_st, .ref a_ck, .ref a_en, .ref a_au, .ref a_he, .ref a_qu, .ref a_lo, .ref a_ow, .ref a_fl, .ref a_ti, .ref a_gd, .ref a_ak, .ref a_sp, .ref a_se, .ref a_sd, .ref a_rw, .ref a_sz, .ref a_op, .ref a_th, .ref a_me, .ref a_pk, .int (nI kc), .int cm, .int su, .ref a_re, .int (nI kq), .ref a_dr])), (a_rw, .inl (cI, 256, .inl u.2)), (a_sz, .inl (cI, 4, .inl (szf u.1)))]) (va_runV (As := [.int 3]) (rest := []) ⟨hx, hb, hml, hown, hts⟩ (c_Model_remove Ls 3 h0 a_st a_ck a_en a_au a_he a_qu a_lo a_ow a_fl a_ti a_gd a_ak a_sp a_se a_sd a_rw a_sz a_op a_th a_me a_pk a_re a_dr tg kc cm su kq rw hM (by omega) (Nat.pos_of_ne_zero fun h9 => h13 (by rw [h9]; rfl)) H.size) (xcwV 1 hts ww_646 ww_643 ww_645 ws_Model_remove ww_8 (by decide +kernel) rfl rfl ⟨Nat.le_of_ble_eq_true rfl, Nat.le_of_ble_eq_true rfl⟩) (xPreV (ci := 7) (q0 := 0) (q := (R_Model, F_Model, 28)) (hP.sub [0, 1, 2] rfl) (hD.sub [0, 1, 2] (by decide) rfl) hK hN rfl rfl rfl) rfl rfl hl.1 rfl (lv_room (Nat.le_of_ble_eq_true rfl)) d_Model_take_45 ⟨Nat.le_of_ble_eq_true rfl, Nat.le_of_ble_eq_true rfl⟩) hP hD hS hA [0, 1, 2] [] [0, 1, 2] rfl rfl (by decide) (by decide) (by decide) (fun _ => rfl) (fun r14 u14 H locs hw hP hD hS => ?_)
      obtain ⟨Ls14, rw14⟩ := u14
      obtain ⟨hw, hM_14⟩ := hw
      replace hP : va_P D vwCl [(h0, .inr (7, [.int tg, .ref a_st, .ref a_ck, .ref a_en, .ref a_au, .ref a_he, .ref a_qu, .ref a_lo, .ref a_ow, .ref a_fl, .ref a_ti, .ref a_gd, .ref a_ak, .ref a_sp, .ref a_se, .ref a_sd, .ref a_rw, .ref a_sz, .ref a_op, .ref a_th, .ref a_me, .ref a_pk, .int (nI kc), .int cm, .int su, .ref a_re, .int (nI kq), .ref a_dr])), (a_rw, .inl (cI, 256, .inl rw14)), (a_sz, .inl (cI, 4, .inl (szf Ls14)))] H := hP
      replace hD : va_D A [(h0, .inr (7, [.int tg, .ref a_st, .ref a_ck, .ref a_en, .ref a_au, .ref a_he, .ref a_qu, .ref a_lo, .ref a_ow, .ref a_fl, .ref a_ti, .ref a_gd, .ref a_ak, .ref a_sp, .ref a_se, .ref a_sd, .ref a_rw, .ref a_sz, .ref a_op, .ref a_th, .ref a_me, .ref a_pk, .int (nI kc), .int cm, .int su, .ref a_re, .int (nI kq), .ref a_dr])), (a_rw, .inl (cI, 256, .inl rw14)), (a_sz, .inl (cI, 4, .inl (szf Ls14)))] := hD
      have hw_14 := hw
      replace hq := hq.trans (bnd2_eq hw)
      try dsimp only at hq
      exact hret r14 (Ls14, rw14) ⟨hq.symm, hM_14⟩ _ _ _ _ hP hD hS d_Model_take_48
    replace hq := hq.trans (if_pos h13)
    refine lv_bipush (v := (-3)) hx hb d_Model_take_34 rfl ?_
    refine lv_goto (tgt := 48) hx hb d_Model_take_36 rfl ?_
    exact hret (-3) (Ls, rw) ⟨hq.symm, hM⟩ _ _ _ _ hP hD hS d_Model_take_48
  replace hq := hq.trans (if_neg h9)
  refine lv_iconst (v := (-1)) hx hb d_Model_take_19 rfl ?_
  exact hret (-1) (Ls, rw) ⟨hq.symm, hM⟩ _ _ _ _ hP hD hS d_Model_take_20

def s_Model_sendTime (ak : Nat → Int32) (x : Int32) (y : Int32) : Int32 × (Nat → Int32) := if (s_Model_isEnd x) = 0 then (0, ak) else (if (s_Model_fits y 63) = 0 then (0, ak) else (if x = 0 then (1, upd ak 0 y) else (1, upd ak 1 y)))
abbrev rm_Model_sendTime : Room := { frames := 1, cells := 0, slots := 0, locals := 21 }
set_option maxHeartbeats 1000000 in
set_option maxRecDepth 100000 in
theorem c_Model_sendTime {l : Launch} {D : va_G} {cI cZ : ClassId} (ak : Nat → Int32) (x : Int32) (y : Int32) (h0 : Nat) (a_st : Nat) (a_ck : Nat) (a_en : Nat) (a_au : Nat) (a_he : Nat) (a_qu : Nat) (a_lo : Nat) (a_ow : Nat) (a_fl : Nat) (a_ti : Nat) (a_gd : Nat) (a_ak : Nat) (a_sp : Nat) (a_se : Nat) (a_sd : Nat) (a_rw : Nat) (a_sz : Nat) (a_op : Nat) (a_th : Nat) (a_me : Nat) (a_pk : Nat) (a_re : Nat) (a_dr : Nat) (tg : Int32) (kc : Nat) (cm : Int32) (su : Int32) (kq : Nat) (sz : Nat) : Met l y_Model_sendTime (w_Model_sendTime) rm_Model_sendTime (va_Pc [.ref h0, .int x, .int y] (xPre xNs D vwCl cI cZ [(h0, .inr (7, [.int tg, .ref a_st, .ref a_ck, .ref a_en, .ref a_au, .ref a_he, .ref a_qu, .ref a_lo, .ref a_ow, .ref a_fl, .ref a_ti, .ref a_gd, .ref a_ak, .ref a_sp, .ref a_se, .ref a_sd, .ref a_rw, .ref a_sz, .ref a_op, .ref a_th, .ref a_me, .ref a_pk, .int (nI kc), .int cm, .int su, .ref a_re, .int (nI kq), .ref a_dr])), (a_ak, .inl (cI, 2, .inl ak))] sz)) (va_Qi (fun (r : Int32) (u : (Nat → Int32)) => (r, u) = s_Model_sendTime ak x y) (fun u t9 => xAt D vwCl (va_A [(h0, .inr (7, [.int tg, .ref a_st, .ref a_ck, .ref a_en, .ref a_au, .ref a_he, .ref a_qu, .ref a_lo, .ref a_ow, .ref a_fl, .ref a_ti, .ref a_gd, .ref a_ak, .ref a_sp, .ref a_se, .ref a_sd, .ref a_rw, .ref a_sz, .ref a_op, .ref a_th, .ref a_me, .ref a_pk, .int (nI kc), .int cm, .int su, .ref a_re, .int (nI kq), .ref a_dr])), (a_ak, .inl (cI, 2, .inl ak))] sz) [(h0, .inr (7, [.int tg, .ref a_st, .ref a_ck, .ref a_en, .ref a_au, .ref a_he, .ref a_qu, .ref a_lo, .ref a_ow, .ref a_fl, .ref a_ti, .ref a_gd, .ref a_ak, .ref a_sp, .ref a_se, .ref a_sd, .ref a_rw, .ref a_sz, .ref a_op, .ref a_th, .ref a_me, .ref a_pk, .int (nI kc), .int cm, .int su, .ref a_re, .int (nI kq), .ref a_dr])), (a_ak, .inl (cI, 2, .inl u))] t9) (va_A [(h0, .inr (7, [.int tg, .ref a_st, .ref a_ck, .ref a_en, .ref a_au, .ref a_he, .ref a_qu, .ref a_lo, .ref a_ow, .ref a_fl, .ref a_ti, .ref a_gd, .ref a_ak, .ref a_sp, .ref a_se, .ref a_sd, .ref a_rw, .ref a_sz, .ref a_op, .ref a_th, .ref a_me, .ref a_pk, .int (nI kc), .int cm, .int su, .ref a_re, .int (nI kq), .ref a_dr])), (a_ak, .inl (cI, 2, .inl ak))] sz)) 0 0 (va_A [(h0, .inr (7, [.int tg, .ref a_st, .ref a_ck, .ref a_en, .ref a_au, .ref a_he, .ref a_qu, .ref a_lo, .ref a_ow, .ref a_fl, .ref a_ti, .ref a_gd, .ref a_ak, .ref a_sp, .ref a_se, .ref a_sd, .ref a_rw, .ref a_sz, .ref a_op, .ref a_th, .ref a_me, .ref a_pk, .int (nI kc), .int cm, .int su, .ref a_re, .int (nI kq), .ref a_dr])), (a_ak, .inl (cI, 2, .inl ak))] sz) := by
  refine xBody_z (S := (Nat → Int32)) (cc := b_Model_sendTime) (maxL := 3) (by decide) rfl (Nat.le_of_ble_eq_true rfl) ?_
  intro p e s m args below meth c A H ls Q hx hb hml hin hts hown hP hD hK hN hS hA hl hret
  replace hl : lv_has ls 3 [(0, .ref h0), (1, .int x), (2, .int y)] := hl
  have hin_Model : ∀ w ∈ u_ws R_Model F_Model 28, w ∈ (w_Model_sendTime) := (fun w h => xm (lay_Model w h))
  have hq : s_Model_sendTime ak x y = (if (s_Model_isEnd x) = 0 then (0, ak) else (if (s_Model_fits y 63) = 0 then (0, ak) else (if x = 0 then (1, upd ak 0 y) else (1, upd ak 1 y)))) := rfl
  refine lv_iload_n hx hb d_Model_sendTime_0 rfl (lv_at hl 1 rfl) ?_
  refine xcall_i (wc := []) (wr := [(h0, .inr (7, [.int tg, .ref a_st, .ref a_ck, .ref a_en, .ref a_au, .ref a_he, .ref a_qu, .ref a_lo, .ref a_ow, .ref a_fl, .ref a_ti, .ref a_gd, .ref a_ak, .ref a_sp, .ref a_se, .ref a_sd, .ref a_rw, .ref a_sz, .ref a_op, .ref a_th, .ref a_me, .ref a_pk, .int (nI kc), .int cm, .int su, .ref a_re, .int (nI kq), .ref a_dr])), (a_ak, .inl (cI, 2, .inl ak))]) (ws1 := fun (u : Unit) => [(h0, .inr (7, [.int tg, .ref a_st, .ref a_ck, .ref a_en, .ref a_au, .ref a_he, .ref a_qu, .ref a_lo, .ref a_ow, .ref a_fl, .ref a_ti, .ref a_gd, .ref a_ak, .ref a_sp, .ref a_se, .ref a_sd, .ref a_rw, .ref a_sz, .ref a_op, .ref a_th, .ref a_me, .ref a_pk, .int (nI kc), .int cm, .int su, .ref a_re, .int (nI kq), .ref a_dr])), (a_ak, .inl (cI, 2, .inl ak))]) (va_runS (As := [.int x]) (rest := []) ⟨hx, hb, hml, hown, hts⟩ (c_Model_isEnd x H.size) (xcwS 1 hts ww_720 ww_718 ww_719 ww_8 (by decide +kernel) rfl rfl ⟨Nat.le_of_ble_eq_true rfl, Nat.le_of_ble_eq_true rfl⟩) (xPreS (hP.sub [] rfl) (hD.sub [] (by decide) rfl) hK hN) rfl rfl hl.1 rfl (lv_room (Nat.le_of_ble_eq_true rfl)) d_Model_sendTime_1 ⟨Nat.le_of_ble_eq_true rfl, Nat.le_of_ble_eq_true rfl⟩) hP hD hS hA [] [0, 1] [0, 1] rfl rfl (by decide) (by decide) (by decide) (fun _ => rfl) (fun r1 u1 H locs hw hP hD hS => ?_)
  obtain ⟨hw, hbr_1⟩ := hw
  subst hw
  replace hP : va_P D vwCl [(h0, .inr (7, [.int tg, .ref a_st, .ref a_ck, .ref a_en, .ref a_au, .ref a_he, .ref a_qu, .ref a_lo, .ref a_ow, .ref a_fl, .ref a_ti, .ref a_gd, .ref a_ak, .ref a_sp, .ref a_se, .ref a_sd, .ref a_rw, .ref a_sz, .ref a_op, .ref a_th, .ref a_me, .ref a_pk, .int (nI kc), .int cm, .int su, .ref a_re, .int (nI kq), .ref a_dr])), (a_ak, .inl (cI, 2, .inl ak))] H := hP
  replace hD : va_D A [(h0, .inr (7, [.int tg, .ref a_st, .ref a_ck, .ref a_en, .ref a_au, .ref a_he, .ref a_qu, .ref a_lo, .ref a_ow, .ref a_fl, .ref a_ti, .ref a_gd, .ref a_ak, .ref a_sp, .ref a_se, .ref a_sd, .ref a_rw, .ref a_sz, .ref a_op, .ref a_th, .ref a_me, .ref a_pk, .int (nI kc), .int cm, .int su, .ref a_re, .int (nI kq), .ref a_dr])), (a_ak, .inl (cI, 2, .inl ak))] := hD
  refine lv_if_eq (tgt := 16) hx hb d_Model_sendTime_4 rfl (fun h2 => ?_) (fun h2 => ?_)
  · replace hq := hq.trans (if_pos h2)
    refine lv_iconst (v := 0) hx hb d_Model_sendTime_16 rfl ?_
    exact hret 0 ak hq.symm _ _ _ _ (Or.inl rfl) hP hD hS d_Model_sendTime_17
  replace hq := hq.trans (if_neg h2)
  refine lv_iload_n hx hb d_Model_sendTime_7 rfl (lv_at hl 2 rfl) ?_
  refine lv_bipush (v := 63) hx hb d_Model_sendTime_8 rfl ?_
  refine xcall_i (wc := []) (wr := [(h0, .inr (7, [.int tg, .ref a_st, .ref a_ck, .ref a_en, .ref a_au, .ref a_he, .ref a_qu, .ref a_lo, .ref a_ow, .ref a_fl, .ref a_ti, .ref a_gd, .ref a_ak, .ref a_sp, .ref a_se, .ref a_sd, .ref a_rw, .ref a_sz, .ref a_op, .ref a_th, .ref a_me, .ref a_pk, .int (nI kc), .int cm, .int su, .ref a_re, .int (nI kq), .ref a_dr])), (a_ak, .inl (cI, 2, .inl ak))]) (ws1 := fun (u : Unit) => [(h0, .inr (7, [.int tg, .ref a_st, .ref a_ck, .ref a_en, .ref a_au, .ref a_he, .ref a_qu, .ref a_lo, .ref a_ow, .ref a_fl, .ref a_ti, .ref a_gd, .ref a_ak, .ref a_sp, .ref a_se, .ref a_sd, .ref a_rw, .ref a_sz, .ref a_op, .ref a_th, .ref a_me, .ref a_pk, .int (nI kc), .int cm, .int su, .ref a_re, .int (nI kq), .ref a_dr])), (a_ak, .inl (cI, 2, .inl ak))]) (va_runS (As := [.int y, .int 63]) (rest := []) ⟨hx, hb, hml, hown, hts⟩ (c_Model_fits y 63 H.size) (xcwS 2 hts ww_731 ww_729 ww_730 ww_8 (by decide +kernel) rfl rfl ⟨Nat.le_of_ble_eq_true rfl, Nat.le_of_ble_eq_true rfl⟩) (xPreS (hP.sub [] rfl) (hD.sub [] (by decide) rfl) hK hN) rfl rfl hl.1 rfl (lv_room (Nat.le_of_ble_eq_true rfl)) d_Model_sendTime_10 ⟨Nat.le_of_ble_eq_true rfl, Nat.le_of_ble_eq_true rfl⟩) hP hD hS hA [] [0, 1] [0, 1] rfl rfl (by decide) (by decide) (by decide) (fun _ => rfl) (fun r3 u3 H locs hw hP hD hS => ?_)
  obtain ⟨hw, hbr_3⟩ := hw
  subst hw
  replace hP : va_P D vwCl [(h0, .inr (7, [.int tg, .ref a_st, .ref a_ck, .ref a_en, .ref a_au, .ref a_he, .ref a_qu, .ref a_lo, .ref a_ow, .ref a_fl, .ref a_ti, .ref a_gd, .ref a_ak, .ref a_sp, .ref a_se, .ref a_sd, .ref a_rw, .ref a_sz, .ref a_op, .ref a_th, .ref a_me, .ref a_pk, .int (nI kc), .int cm, .int su, .ref a_re, .int (nI kq), .ref a_dr])), (a_ak, .inl (cI, 2, .inl ak))] H := hP
  replace hD : va_D A [(h0, .inr (7, [.int tg, .ref a_st, .ref a_ck, .ref a_en, .ref a_au, .ref a_he, .ref a_qu, .ref a_lo, .ref a_ow, .ref a_fl, .ref a_ti, .ref a_gd, .ref a_ak, .ref a_sp, .ref a_se, .ref a_sd, .ref a_rw, .ref a_sz, .ref a_op, .ref a_th, .ref a_me, .ref a_pk, .int (nI kc), .int cm, .int su, .ref a_re, .int (nI kq), .ref a_dr])), (a_ak, .inl (cI, 2, .inl ak))] := hD
  refine lv_if_ne (tgt := 18) hx hb d_Model_sendTime_13 rfl (fun h4 => ?_) (fun h4 => ?_)
  · replace hq := hq.trans (if_neg h4)
    by_cases h5 : x = 0
    · replace hq := hq.trans (if_pos h5)
      subst h5
      replace hl : lv_has ls 3 [(0, .ref h0), (1, .int 0), (2, .int y)] := hl
      refine lv_aload_n hx hb d_Model_sendTime_18 rfl (lv_at hl 0 rfl) ?_
      refine va_get (D := D) (ci := 7) (v := .ref a_ak) (C := R_Model) (T := F_Model) (N := 28) hx hb hts hin_Model hown hK hP 0 rfl rfl 12 (by decide) (hts _ (xm ww_545)) (fun _ h9 => h9) rfl d_Model_sendTime_19 ?_
      refine lv_iload_n hx hb d_Model_sendTime_22 rfl (lv_at hl 1 rfl) ?_
      refine lv_iload_n hx hb d_Model_sendTime_23 rfl (lv_at hl 2 rfl) ?_
      refine xiast (k := 0) hx hb hK hP hD hS 1 0 rfl rfl rfl (by decide) (by decide) d_Model_sendTime_24 (fun H locs hP hD hS => ?_)
      replace hP : va_P D vwCl [(h0, .inr (7, [.int tg, .ref a_st, .ref a_ck, .ref a_en, .ref a_au, .ref a_he, .ref a_qu, .ref a_lo, .ref a_ow, .ref a_fl, .ref a_ti, .ref a_gd, .ref a_ak, .ref a_sp, .ref a_se, .ref a_sd, .ref a_rw, .ref a_sz, .ref a_op, .ref a_th, .ref a_me, .ref a_pk, .int (nI kc), .int cm, .int su, .ref a_re, .int (nI kq), .ref a_dr])), (a_ak, .inl (cI, 2, .inl (upd ak 0 y)))] H := hP
      replace hD : va_D A [(h0, .inr (7, [.int tg, .ref a_st, .ref a_ck, .ref a_en, .ref a_au, .ref a_he, .ref a_qu, .ref a_lo, .ref a_ow, .ref a_fl, .ref a_ti, .ref a_gd, .ref a_ak, .ref a_sp, .ref a_se, .ref a_sd, .ref a_rw, .ref a_sz, .ref a_op, .ref a_th, .ref a_me, .ref a_pk, .int (nI kc), .int cm, .int su, .ref a_re, .int (nI kq), .ref a_dr])), (a_ak, .inl (cI, 2, .inl (upd ak 0 y)))] := hD
      refine lv_iconst (v := 1) hx hb d_Model_sendTime_25 rfl ?_
      exact hret 1 (upd ak 0 y) hq.symm _ _ _ _ (Or.inr rfl) hP hD hS d_Model_sendTime_26
    replace hq := hq.trans (if_neg h5)
    have hx1 : x = 1 := isEnd1 h2 h5
    subst hx1
    replace hl : lv_has ls 3 [(0, .ref h0), (1, .int 1), (2, .int y)] := hl
    refine lv_aload_n hx hb d_Model_sendTime_18 rfl (lv_at hl 0 rfl) ?_
    refine va_get (D := D) (ci := 7) (v := .ref a_ak) (C := R_Model) (T := F_Model) (N := 28) hx hb hts hin_Model hown hK hP 0 rfl rfl 12 (by decide) (hts _ (xm ww_545)) (fun _ h9 => h9) rfl d_Model_sendTime_19 ?_
    refine lv_iload_n hx hb d_Model_sendTime_22 rfl (lv_at hl 1 rfl) ?_
    refine lv_iload_n hx hb d_Model_sendTime_23 rfl (lv_at hl 2 rfl) ?_
    refine xiast (k := 1) hx hb hK hP hD hS 1 0 rfl rfl rfl (by decide) (by decide) d_Model_sendTime_24 (fun H locs hP hD hS => ?_)
    replace hP : va_P D vwCl [(h0, .inr (7, [.int tg, .ref a_st, .ref a_ck, .ref a_en, .ref a_au, .ref a_he, .ref a_qu, .ref a_lo, .ref a_ow, .ref a_fl, .ref a_ti, .ref a_gd, .ref a_ak, .ref a_sp, .ref a_se, .ref a_sd, .ref a_rw, .ref a_sz, .ref a_op, .ref a_th, .ref a_me, .ref a_pk, .int (nI kc), .int cm, .int su, .ref a_re, .int (nI kq), .ref a_dr])), (a_ak, .inl (cI, 2, .inl (upd ak 1 y)))] H := hP
    replace hD : va_D A [(h0, .inr (7, [.int tg, .ref a_st, .ref a_ck, .ref a_en, .ref a_au, .ref a_he, .ref a_qu, .ref a_lo, .ref a_ow, .ref a_fl, .ref a_ti, .ref a_gd, .ref a_ak, .ref a_sp, .ref a_se, .ref a_sd, .ref a_rw, .ref a_sz, .ref a_op, .ref a_th, .ref a_me, .ref a_pk, .int (nI kc), .int cm, .int su, .ref a_re, .int (nI kq), .ref a_dr])), (a_ak, .inl (cI, 2, .inl (upd ak 1 y)))] := hD
    refine lv_iconst (v := 1) hx hb d_Model_sendTime_25 rfl ?_
    exact hret 1 (upd ak 1 y) hq.symm _ _ _ _ (Or.inr rfl) hP hD hS d_Model_sendTime_26
  replace hq := hq.trans (if_pos h4)
  refine lv_iconst (v := 0) hx hb d_Model_sendTime_16 rfl ?_
  exact hret 0 ak hq.symm _ _ _ _ (Or.inl rfl) hP hD hS d_Model_sendTime_17

def s_Model_spoil (sp : Nat → Int32) (x : Int32) : Int32 × (Nat → Int32) := if (s_Model_isEnd x) = 0 then (0, sp) else (if x = 0 then (1, upd sp 0 1) else (1, upd sp 1 1))
abbrev rm_Model_spoil : Room := { frames := 1, cells := 0, slots := 0, locals := 20 }
set_option maxHeartbeats 1000000 in
set_option maxRecDepth 100000 in
theorem c_Model_spoil {l : Launch} {D : va_G} {cI cZ : ClassId} (sp : Nat → Int32) (x : Int32) (h0 : Nat) (a_st : Nat) (a_ck : Nat) (a_en : Nat) (a_au : Nat) (a_he : Nat) (a_qu : Nat) (a_lo : Nat) (a_ow : Nat) (a_fl : Nat) (a_ti : Nat) (a_gd : Nat) (a_ak : Nat) (a_sp : Nat) (a_se : Nat) (a_sd : Nat) (a_rw : Nat) (a_sz : Nat) (a_op : Nat) (a_th : Nat) (a_me : Nat) (a_pk : Nat) (a_re : Nat) (a_dr : Nat) (tg : Int32) (kc : Nat) (cm : Int32) (su : Int32) (kq : Nat) (sz : Nat) : Met l y_Model_spoil (w_Model_spoil) rm_Model_spoil (va_Pc [.ref h0, .int x] (xPre xNs D vwCl cI cZ [(h0, .inr (7, [.int tg, .ref a_st, .ref a_ck, .ref a_en, .ref a_au, .ref a_he, .ref a_qu, .ref a_lo, .ref a_ow, .ref a_fl, .ref a_ti, .ref a_gd, .ref a_ak, .ref a_sp, .ref a_se, .ref a_sd, .ref a_rw, .ref a_sz, .ref a_op, .ref a_th, .ref a_me, .ref a_pk, .int (nI kc), .int cm, .int su, .ref a_re, .int (nI kq), .ref a_dr])), (a_sp, .inl (cZ, 2, .inl sp))] sz)) (va_Qi (fun (r : Int32) (u : (Nat → Int32)) => (r, u) = s_Model_spoil sp x) (fun u t9 => xAt D vwCl (va_A [(h0, .inr (7, [.int tg, .ref a_st, .ref a_ck, .ref a_en, .ref a_au, .ref a_he, .ref a_qu, .ref a_lo, .ref a_ow, .ref a_fl, .ref a_ti, .ref a_gd, .ref a_ak, .ref a_sp, .ref a_se, .ref a_sd, .ref a_rw, .ref a_sz, .ref a_op, .ref a_th, .ref a_me, .ref a_pk, .int (nI kc), .int cm, .int su, .ref a_re, .int (nI kq), .ref a_dr])), (a_sp, .inl (cZ, 2, .inl sp))] sz) [(h0, .inr (7, [.int tg, .ref a_st, .ref a_ck, .ref a_en, .ref a_au, .ref a_he, .ref a_qu, .ref a_lo, .ref a_ow, .ref a_fl, .ref a_ti, .ref a_gd, .ref a_ak, .ref a_sp, .ref a_se, .ref a_sd, .ref a_rw, .ref a_sz, .ref a_op, .ref a_th, .ref a_me, .ref a_pk, .int (nI kc), .int cm, .int su, .ref a_re, .int (nI kq), .ref a_dr])), (a_sp, .inl (cZ, 2, .inl u))] t9) (va_A [(h0, .inr (7, [.int tg, .ref a_st, .ref a_ck, .ref a_en, .ref a_au, .ref a_he, .ref a_qu, .ref a_lo, .ref a_ow, .ref a_fl, .ref a_ti, .ref a_gd, .ref a_ak, .ref a_sp, .ref a_se, .ref a_sd, .ref a_rw, .ref a_sz, .ref a_op, .ref a_th, .ref a_me, .ref a_pk, .int (nI kc), .int cm, .int su, .ref a_re, .int (nI kq), .ref a_dr])), (a_sp, .inl (cZ, 2, .inl sp))] sz)) 0 0 (va_A [(h0, .inr (7, [.int tg, .ref a_st, .ref a_ck, .ref a_en, .ref a_au, .ref a_he, .ref a_qu, .ref a_lo, .ref a_ow, .ref a_fl, .ref a_ti, .ref a_gd, .ref a_ak, .ref a_sp, .ref a_se, .ref a_sd, .ref a_rw, .ref a_sz, .ref a_op, .ref a_th, .ref a_me, .ref a_pk, .int (nI kc), .int cm, .int su, .ref a_re, .int (nI kq), .ref a_dr])), (a_sp, .inl (cZ, 2, .inl sp))] sz) := by
  refine xBody_z (S := (Nat → Int32)) (cc := b_Model_spoil) (maxL := 2) (by decide) rfl (Nat.le_of_ble_eq_true rfl) ?_
  intro p e s m args below meth c A H ls Q hx hb hml hin hts hown hP hD hK hN hS hA hl hret
  replace hl : lv_has ls 2 [(0, .ref h0), (1, .int x)] := hl
  have hin_Model : ∀ w ∈ u_ws R_Model F_Model 28, w ∈ (w_Model_spoil) := (fun w h => xm (lay_Model w h))
  have hq : s_Model_spoil sp x = (if (s_Model_isEnd x) = 0 then (0, sp) else (if x = 0 then (1, upd sp 0 1) else (1, upd sp 1 1))) := rfl
  refine lv_iload_n hx hb d_Model_spoil_0 rfl (lv_at hl 1 rfl) ?_
  refine xcall_i (wc := []) (wr := [(h0, .inr (7, [.int tg, .ref a_st, .ref a_ck, .ref a_en, .ref a_au, .ref a_he, .ref a_qu, .ref a_lo, .ref a_ow, .ref a_fl, .ref a_ti, .ref a_gd, .ref a_ak, .ref a_sp, .ref a_se, .ref a_sd, .ref a_rw, .ref a_sz, .ref a_op, .ref a_th, .ref a_me, .ref a_pk, .int (nI kc), .int cm, .int su, .ref a_re, .int (nI kq), .ref a_dr])), (a_sp, .inl (cZ, 2, .inl sp))]) (ws1 := fun (u : Unit) => [(h0, .inr (7, [.int tg, .ref a_st, .ref a_ck, .ref a_en, .ref a_au, .ref a_he, .ref a_qu, .ref a_lo, .ref a_ow, .ref a_fl, .ref a_ti, .ref a_gd, .ref a_ak, .ref a_sp, .ref a_se, .ref a_sd, .ref a_rw, .ref a_sz, .ref a_op, .ref a_th, .ref a_me, .ref a_pk, .int (nI kc), .int cm, .int su, .ref a_re, .int (nI kq), .ref a_dr])), (a_sp, .inl (cZ, 2, .inl sp))]) (va_runS (As := [.int x]) (rest := []) ⟨hx, hb, hml, hown, hts⟩ (c_Model_isEnd x H.size) (xcwS 1 hts ww_720 ww_718 ww_719 ww_8 (by decide +kernel) rfl rfl ⟨Nat.le_of_ble_eq_true rfl, Nat.le_of_ble_eq_true rfl⟩) (xPreS (hP.sub [] rfl) (hD.sub [] (by decide) rfl) hK hN) rfl rfl hl.1 rfl (lv_room (Nat.le_of_ble_eq_true rfl)) d_Model_spoil_1 ⟨Nat.le_of_ble_eq_true rfl, Nat.le_of_ble_eq_true rfl⟩) hP hD hS hA [] [0, 1] [0, 1] rfl rfl (by decide) (by decide) (by decide) (fun _ => rfl) (fun r1 u1 H locs hw hP hD hS => ?_)
  obtain ⟨hw, hbr_1⟩ := hw
  subst hw
  replace hP : va_P D vwCl [(h0, .inr (7, [.int tg, .ref a_st, .ref a_ck, .ref a_en, .ref a_au, .ref a_he, .ref a_qu, .ref a_lo, .ref a_ow, .ref a_fl, .ref a_ti, .ref a_gd, .ref a_ak, .ref a_sp, .ref a_se, .ref a_sd, .ref a_rw, .ref a_sz, .ref a_op, .ref a_th, .ref a_me, .ref a_pk, .int (nI kc), .int cm, .int su, .ref a_re, .int (nI kq), .ref a_dr])), (a_sp, .inl (cZ, 2, .inl sp))] H := hP
  replace hD : va_D A [(h0, .inr (7, [.int tg, .ref a_st, .ref a_ck, .ref a_en, .ref a_au, .ref a_he, .ref a_qu, .ref a_lo, .ref a_ow, .ref a_fl, .ref a_ti, .ref a_gd, .ref a_ak, .ref a_sp, .ref a_se, .ref a_sd, .ref a_rw, .ref a_sz, .ref a_op, .ref a_th, .ref a_me, .ref a_pk, .int (nI kc), .int cm, .int su, .ref a_re, .int (nI kq), .ref a_dr])), (a_sp, .inl (cZ, 2, .inl sp))] := hD
  refine lv_if_ne (tgt := 9) hx hb d_Model_spoil_4 rfl (fun h2 => ?_) (fun h2 => ?_)
  · replace hq := hq.trans (if_neg h2)
    by_cases h3 : x = 0
    · replace hq := hq.trans (if_pos h3)
      subst h3
      replace hl : lv_has ls 2 [(0, .ref h0), (1, .int 0)] := hl
      refine lv_aload_n hx hb d_Model_spoil_9 rfl (lv_at hl 0 rfl) ?_
      refine va_get (D := D) (ci := 7) (v := .ref a_sp) (C := R_Model) (T := F_Model) (N := 28) hx hb hts hin_Model hown hK hP 0 rfl rfl 13 (by decide) (hts _ (xm ww_546)) (fun _ h9 => h9) rfl d_Model_spoil_10 ?_
      refine lv_iload_n hx hb d_Model_spoil_13 rfl (lv_at hl 1 rfl) ?_
      refine lv_iconst (v := 1) hx hb d_Model_spoil_14 rfl ?_
      refine xzast (k := 0) hx hb hK hP hD hS 1 1 rfl rfl rfl (by decide) (by decide) (Or.inr rfl) d_Model_spoil_15 (fun H locs hP hD hS => ?_)
      replace hP : va_P D vwCl [(h0, .inr (7, [.int tg, .ref a_st, .ref a_ck, .ref a_en, .ref a_au, .ref a_he, .ref a_qu, .ref a_lo, .ref a_ow, .ref a_fl, .ref a_ti, .ref a_gd, .ref a_ak, .ref a_sp, .ref a_se, .ref a_sd, .ref a_rw, .ref a_sz, .ref a_op, .ref a_th, .ref a_me, .ref a_pk, .int (nI kc), .int cm, .int su, .ref a_re, .int (nI kq), .ref a_dr])), (a_sp, .inl (cZ, 2, .inl (upd sp 0 1)))] H := hP
      replace hD : va_D A [(h0, .inr (7, [.int tg, .ref a_st, .ref a_ck, .ref a_en, .ref a_au, .ref a_he, .ref a_qu, .ref a_lo, .ref a_ow, .ref a_fl, .ref a_ti, .ref a_gd, .ref a_ak, .ref a_sp, .ref a_se, .ref a_sd, .ref a_rw, .ref a_sz, .ref a_op, .ref a_th, .ref a_me, .ref a_pk, .int (nI kc), .int cm, .int su, .ref a_re, .int (nI kq), .ref a_dr])), (a_sp, .inl (cZ, 2, .inl (upd sp 0 1)))] := hD
      refine lv_iconst (v := 1) hx hb d_Model_spoil_16 rfl ?_
      exact hret 1 (upd sp 0 1) hq.symm _ _ _ _ (Or.inr rfl) hP hD hS d_Model_spoil_17
    replace hq := hq.trans (if_neg h3)
    have hx1 : x = 1 := isEnd1 h2 h3
    subst hx1
    replace hl : lv_has ls 2 [(0, .ref h0), (1, .int 1)] := hl
    refine lv_aload_n hx hb d_Model_spoil_9 rfl (lv_at hl 0 rfl) ?_
    refine va_get (D := D) (ci := 7) (v := .ref a_sp) (C := R_Model) (T := F_Model) (N := 28) hx hb hts hin_Model hown hK hP 0 rfl rfl 13 (by decide) (hts _ (xm ww_546)) (fun _ h9 => h9) rfl d_Model_spoil_10 ?_
    refine lv_iload_n hx hb d_Model_spoil_13 rfl (lv_at hl 1 rfl) ?_
    refine lv_iconst (v := 1) hx hb d_Model_spoil_14 rfl ?_
    refine xzast (k := 1) hx hb hK hP hD hS 1 1 rfl rfl rfl (by decide) (by decide) (Or.inr rfl) d_Model_spoil_15 (fun H locs hP hD hS => ?_)
    replace hP : va_P D vwCl [(h0, .inr (7, [.int tg, .ref a_st, .ref a_ck, .ref a_en, .ref a_au, .ref a_he, .ref a_qu, .ref a_lo, .ref a_ow, .ref a_fl, .ref a_ti, .ref a_gd, .ref a_ak, .ref a_sp, .ref a_se, .ref a_sd, .ref a_rw, .ref a_sz, .ref a_op, .ref a_th, .ref a_me, .ref a_pk, .int (nI kc), .int cm, .int su, .ref a_re, .int (nI kq), .ref a_dr])), (a_sp, .inl (cZ, 2, .inl (upd sp 1 1)))] H := hP
    replace hD : va_D A [(h0, .inr (7, [.int tg, .ref a_st, .ref a_ck, .ref a_en, .ref a_au, .ref a_he, .ref a_qu, .ref a_lo, .ref a_ow, .ref a_fl, .ref a_ti, .ref a_gd, .ref a_ak, .ref a_sp, .ref a_se, .ref a_sd, .ref a_rw, .ref a_sz, .ref a_op, .ref a_th, .ref a_me, .ref a_pk, .int (nI kc), .int cm, .int su, .ref a_re, .int (nI kq), .ref a_dr])), (a_sp, .inl (cZ, 2, .inl (upd sp 1 1)))] := hD
    refine lv_iconst (v := 1) hx hb d_Model_spoil_16 rfl ?_
    exact hret 1 (upd sp 1 1) hq.symm _ _ _ _ (Or.inr rfl) hP hD hS d_Model_spoil_17
  replace hq := hq.trans (if_pos h2)
  refine lv_iconst (v := 0) hx hb d_Model_spoil_7 rfl ?_
  exact hret 0 sp hq.symm _ _ _ _ (Or.inl rfl) hP hD hS d_Model_spoil_8

def s_Model_look (st : Nat → Int32) (ck : Nat → Int32) (lo : Nat → Int32) (ow : Nat → Int32) (Ls : Nat → List Int32) (fl : Nat → Int32) (ti : Nat → Int32) (gd : Nat → Int32) (se : Nat → Int32) (x : Int32) (y : Int32) : Int32 := if (s_Model_isEnd x) = 0 then (-1) else (if x = 0 then (if y = 0 then (st 0) else (if y = 1 then (ck 0) else (if y = 2 then (lo 0) else (if y = 3 then (ow 0) else (if y = 4 then (nI ((Ls 0).length)) else (if y = 5 then (nI ((Ls 1).length)) else (if y = 6 then (fl 0) else (if y = 7 then (ti 0) else (if y = 8 then (gd 0) else (if y = 9 then (se 0) else (-1))))))))))) else (if y = 0 then (st 1) else (if y = 1 then (ck 1) else (if y = 2 then (lo 1) else (if y = 3 then (ow 1) else (if y = 4 then (nI ((Ls 2).length)) else (if y = 5 then (nI ((Ls 3).length)) else (if y = 6 then (fl 1) else (if y = 7 then (ti 1) else (if y = 8 then (gd 1) else (if y = 9 then (se 1) else (-1))))))))))))
abbrev rm_Model_look : Room := { frames := 1, cells := 0, slots := 0, locals := 20 }
set_option maxHeartbeats 1000000 in
set_option maxRecDepth 100000 in
theorem c_Model_look {l : Launch} {D : va_G} {cI cZ : ClassId} (st : Nat → Int32) (ck : Nat → Int32) (lo : Nat → Int32) (ow : Nat → Int32) (Ls : Nat → List Int32) (fl : Nat → Int32) (ti : Nat → Int32) (gd : Nat → Int32) (se : Nat → Int32) (x : Int32) (y : Int32) (h0 : Nat) (a_st : Nat) (a_ck : Nat) (a_en : Nat) (a_au : Nat) (a_he : Nat) (a_qu : Nat) (a_lo : Nat) (a_ow : Nat) (a_fl : Nat) (a_ti : Nat) (a_gd : Nat) (a_ak : Nat) (a_sp : Nat) (a_se : Nat) (a_sd : Nat) (a_rw : Nat) (a_sz : Nat) (a_op : Nat) (a_th : Nat) (a_me : Nat) (a_pk : Nat) (a_re : Nat) (a_dr : Nat) (tg : Int32) (kc : Nat) (cm : Int32) (su : Int32) (kq : Nat) (sz : Nat) : Met l y_Model_look (w_Model_look) rm_Model_look (va_Pc [.ref h0, .int x, .int y] (xPre xNs D vwCl cI cZ [(h0, .inr (7, [.int tg, .ref a_st, .ref a_ck, .ref a_en, .ref a_au, .ref a_he, .ref a_qu, .ref a_lo, .ref a_ow, .ref a_fl, .ref a_ti, .ref a_gd, .ref a_ak, .ref a_sp, .ref a_se, .ref a_sd, .ref a_rw, .ref a_sz, .ref a_op, .ref a_th, .ref a_me, .ref a_pk, .int (nI kc), .int cm, .int su, .ref a_re, .int (nI kq), .ref a_dr])), (a_st, .inl (cI, 2, .inl st)), (a_ck, .inl (cI, 2, .inl ck)), (a_lo, .inl (cI, 2, .inl lo)), (a_ow, .inl (cI, 2, .inl ow)), (a_sz, .inl (cI, 4, .inl (szf Ls))), (a_fl, .inl (cI, 2, .inl fl)), (a_ti, .inl (cI, 2, .inl ti)), (a_gd, .inl (cI, 2, .inl gd)), (a_se, .inl (cI, 2, .inl se))] sz)) (va_Qi (fun (r : Int32) (u : Unit) => r = s_Model_look st ck lo ow Ls fl ti gd se x y) (fun u t9 => xAt D vwCl (va_A [(h0, .inr (7, [.int tg, .ref a_st, .ref a_ck, .ref a_en, .ref a_au, .ref a_he, .ref a_qu, .ref a_lo, .ref a_ow, .ref a_fl, .ref a_ti, .ref a_gd, .ref a_ak, .ref a_sp, .ref a_se, .ref a_sd, .ref a_rw, .ref a_sz, .ref a_op, .ref a_th, .ref a_me, .ref a_pk, .int (nI kc), .int cm, .int su, .ref a_re, .int (nI kq), .ref a_dr])), (a_st, .inl (cI, 2, .inl st)), (a_ck, .inl (cI, 2, .inl ck)), (a_lo, .inl (cI, 2, .inl lo)), (a_ow, .inl (cI, 2, .inl ow)), (a_sz, .inl (cI, 4, .inl (szf Ls))), (a_fl, .inl (cI, 2, .inl fl)), (a_ti, .inl (cI, 2, .inl ti)), (a_gd, .inl (cI, 2, .inl gd)), (a_se, .inl (cI, 2, .inl se))] sz) [(h0, .inr (7, [.int tg, .ref a_st, .ref a_ck, .ref a_en, .ref a_au, .ref a_he, .ref a_qu, .ref a_lo, .ref a_ow, .ref a_fl, .ref a_ti, .ref a_gd, .ref a_ak, .ref a_sp, .ref a_se, .ref a_sd, .ref a_rw, .ref a_sz, .ref a_op, .ref a_th, .ref a_me, .ref a_pk, .int (nI kc), .int cm, .int su, .ref a_re, .int (nI kq), .ref a_dr])), (a_st, .inl (cI, 2, .inl st)), (a_ck, .inl (cI, 2, .inl ck)), (a_lo, .inl (cI, 2, .inl lo)), (a_ow, .inl (cI, 2, .inl ow)), (a_sz, .inl (cI, 4, .inl (szf Ls))), (a_fl, .inl (cI, 2, .inl fl)), (a_ti, .inl (cI, 2, .inl ti)), (a_gd, .inl (cI, 2, .inl gd)), (a_se, .inl (cI, 2, .inl se))] t9) (va_A [(h0, .inr (7, [.int tg, .ref a_st, .ref a_ck, .ref a_en, .ref a_au, .ref a_he, .ref a_qu, .ref a_lo, .ref a_ow, .ref a_fl, .ref a_ti, .ref a_gd, .ref a_ak, .ref a_sp, .ref a_se, .ref a_sd, .ref a_rw, .ref a_sz, .ref a_op, .ref a_th, .ref a_me, .ref a_pk, .int (nI kc), .int cm, .int su, .ref a_re, .int (nI kq), .ref a_dr])), (a_st, .inl (cI, 2, .inl st)), (a_ck, .inl (cI, 2, .inl ck)), (a_lo, .inl (cI, 2, .inl lo)), (a_ow, .inl (cI, 2, .inl ow)), (a_sz, .inl (cI, 4, .inl (szf Ls))), (a_fl, .inl (cI, 2, .inl fl)), (a_ti, .inl (cI, 2, .inl ti)), (a_gd, .inl (cI, 2, .inl gd)), (a_se, .inl (cI, 2, .inl se))] sz)) 0 0 (va_A [(h0, .inr (7, [.int tg, .ref a_st, .ref a_ck, .ref a_en, .ref a_au, .ref a_he, .ref a_qu, .ref a_lo, .ref a_ow, .ref a_fl, .ref a_ti, .ref a_gd, .ref a_ak, .ref a_sp, .ref a_se, .ref a_sd, .ref a_rw, .ref a_sz, .ref a_op, .ref a_th, .ref a_me, .ref a_pk, .int (nI kc), .int cm, .int su, .ref a_re, .int (nI kq), .ref a_dr])), (a_st, .inl (cI, 2, .inl st)), (a_ck, .inl (cI, 2, .inl ck)), (a_lo, .inl (cI, 2, .inl lo)), (a_ow, .inl (cI, 2, .inl ow)), (a_sz, .inl (cI, 4, .inl (szf Ls))), (a_fl, .inl (cI, 2, .inl fl)), (a_ti, .inl (cI, 2, .inl ti)), (a_gd, .inl (cI, 2, .inl gd)), (a_se, .inl (cI, 2, .inl se))] sz) := by
  refine xBody_i (S := Unit) (cc := b_Model_look) (maxL := 3) (by decide) rfl (Nat.le_of_ble_eq_true rfl) ?_
  intro p e s m args below meth c A H ls Q hx hb hml hin hts hown hP hD hK hN hS hA hl hret
  replace hl : lv_has ls 3 [(0, .ref h0), (1, .int x), (2, .int y)] := hl
  have hin_Model : ∀ w ∈ u_ws R_Model F_Model 28, w ∈ (w_Model_look) := (fun w h => xm (lay_Model w h))
  have hq : s_Model_look st ck lo ow Ls fl ti gd se x y = (if (s_Model_isEnd x) = 0 then (-1) else (if x = 0 then (if y = 0 then (st 0) else (if y = 1 then (ck 0) else (if y = 2 then (lo 0) else (if y = 3 then (ow 0) else (if y = 4 then (nI ((Ls 0).length)) else (if y = 5 then (nI ((Ls 1).length)) else (if y = 6 then (fl 0) else (if y = 7 then (ti 0) else (if y = 8 then (gd 0) else (if y = 9 then (se 0) else (-1))))))))))) else (if y = 0 then (st 1) else (if y = 1 then (ck 1) else (if y = 2 then (lo 1) else (if y = 3 then (ow 1) else (if y = 4 then (nI ((Ls 2).length)) else (if y = 5 then (nI ((Ls 3).length)) else (if y = 6 then (fl 1) else (if y = 7 then (ti 1) else (if y = 8 then (gd 1) else (if y = 9 then (se 1) else (-1))))))))))))) := rfl
  refine lv_iload_n hx hb d_Model_look_0 rfl (lv_at hl 1 rfl) ?_
  refine xcall_i (wc := []) (wr := [(h0, .inr (7, [.int tg, .ref a_st, .ref a_ck, .ref a_en, .ref a_au, .ref a_he, .ref a_qu, .ref a_lo, .ref a_ow, .ref a_fl, .ref a_ti, .ref a_gd, .ref a_ak, .ref a_sp, .ref a_se, .ref a_sd, .ref a_rw, .ref a_sz, .ref a_op, .ref a_th, .ref a_me, .ref a_pk, .int (nI kc), .int cm, .int su, .ref a_re, .int (nI kq), .ref a_dr])), (a_st, .inl (cI, 2, .inl st)), (a_ck, .inl (cI, 2, .inl ck)), (a_lo, .inl (cI, 2, .inl lo)), (a_ow, .inl (cI, 2, .inl ow)), (a_sz, .inl (cI, 4, .inl (szf Ls))), (a_fl, .inl (cI, 2, .inl fl)), (a_ti, .inl (cI, 2, .inl ti)), (a_gd, .inl (cI, 2, .inl gd)), (a_se, .inl (cI, 2, .inl se))]) (ws1 := fun (u : Unit) => [(h0, .inr (7, [.int tg, .ref a_st, .ref a_ck, .ref a_en, .ref a_au, .ref a_he, .ref a_qu, .ref a_lo, .ref a_ow, .ref a_fl, .ref a_ti, .ref a_gd, .ref a_ak, .ref a_sp, .ref a_se, .ref a_sd, .ref a_rw, .ref a_sz, .ref a_op, .ref a_th, .ref a_me, .ref a_pk, .int (nI kc), .int cm, .int su, .ref a_re, .int (nI kq), .ref a_dr])), (a_st, .inl (cI, 2, .inl st)), (a_ck, .inl (cI, 2, .inl ck)), (a_lo, .inl (cI, 2, .inl lo)), (a_ow, .inl (cI, 2, .inl ow)), (a_sz, .inl (cI, 4, .inl (szf Ls))), (a_fl, .inl (cI, 2, .inl fl)), (a_ti, .inl (cI, 2, .inl ti)), (a_gd, .inl (cI, 2, .inl gd)), (a_se, .inl (cI, 2, .inl se))]) (va_runS (As := [.int x]) (rest := []) ⟨hx, hb, hml, hown, hts⟩ (c_Model_isEnd x H.size) (xcwS 1 hts ww_720 ww_718 ww_719 ww_8 (by decide +kernel) rfl rfl ⟨Nat.le_of_ble_eq_true rfl, Nat.le_of_ble_eq_true rfl⟩) (xPreS (hP.sub [] rfl) (hD.sub [] (by decide) rfl) hK hN) rfl rfl hl.1 rfl (lv_room (Nat.le_of_ble_eq_true rfl)) d_Model_look_1 ⟨Nat.le_of_ble_eq_true rfl, Nat.le_of_ble_eq_true rfl⟩) hP hD hS hA [] [0, 1, 2, 3, 4, 5, 6, 7, 8, 9] [0, 1, 2, 3, 4, 5, 6, 7, 8, 9] rfl rfl (by decide) (by decide) (by decide) (fun _ => rfl) (fun r1 u1 H locs hw hP hD hS => ?_)
  obtain ⟨hw, hbr_1⟩ := hw
  subst hw
  replace hP : va_P D vwCl [(h0, .inr (7, [.int tg, .ref a_st, .ref a_ck, .ref a_en, .ref a_au, .ref a_he, .ref a_qu, .ref a_lo, .ref a_ow, .ref a_fl, .ref a_ti, .ref a_gd, .ref a_ak, .ref a_sp, .ref a_se, .ref a_sd, .ref a_rw, .ref a_sz, .ref a_op, .ref a_th, .ref a_me, .ref a_pk, .int (nI kc), .int cm, .int su, .ref a_re, .int (nI kq), .ref a_dr])), (a_st, .inl (cI, 2, .inl st)), (a_ck, .inl (cI, 2, .inl ck)), (a_lo, .inl (cI, 2, .inl lo)), (a_ow, .inl (cI, 2, .inl ow)), (a_sz, .inl (cI, 4, .inl (szf Ls))), (a_fl, .inl (cI, 2, .inl fl)), (a_ti, .inl (cI, 2, .inl ti)), (a_gd, .inl (cI, 2, .inl gd)), (a_se, .inl (cI, 2, .inl se))] H := hP
  replace hD : va_D A [(h0, .inr (7, [.int tg, .ref a_st, .ref a_ck, .ref a_en, .ref a_au, .ref a_he, .ref a_qu, .ref a_lo, .ref a_ow, .ref a_fl, .ref a_ti, .ref a_gd, .ref a_ak, .ref a_sp, .ref a_se, .ref a_sd, .ref a_rw, .ref a_sz, .ref a_op, .ref a_th, .ref a_me, .ref a_pk, .int (nI kc), .int cm, .int su, .ref a_re, .int (nI kq), .ref a_dr])), (a_st, .inl (cI, 2, .inl st)), (a_ck, .inl (cI, 2, .inl ck)), (a_lo, .inl (cI, 2, .inl lo)), (a_ow, .inl (cI, 2, .inl ow)), (a_sz, .inl (cI, 4, .inl (szf Ls))), (a_fl, .inl (cI, 2, .inl fl)), (a_ti, .inl (cI, 2, .inl ti)), (a_gd, .inl (cI, 2, .inl gd)), (a_se, .inl (cI, 2, .inl se))] := hD
  refine lv_if_ne (tgt := 9) hx hb d_Model_look_4 rfl (fun h2 => ?_) (fun h2 => ?_)
  · replace hq := hq.trans (if_neg h2)
    by_cases h3 : x = 0
    · replace hq := hq.trans (if_pos h3)
      subst h3
      replace hl : lv_has ls 3 [(0, .ref h0), (1, .int 0), (2, .int y)] := hl
      refine lv_iload_n hx hb d_Model_look_9 rfl (lv_at hl 2 rfl) ?_
      by_cases h4 : y = 0
      · replace hq := hq.trans (if_pos h4)
        refine lv_tableIn (tgt := 64) hx hb d_Model_look_10 (by rw [h4]; decide) (by rw [h4]; decide) (by rw [h4]; rfl) rfl ?_
        refine lv_aload_n hx hb d_Model_look_64 rfl (lv_at hl 0 rfl) ?_
        refine va_get (D := D) (ci := 7) (v := .ref a_st) (C := R_Model) (T := F_Model) (N := 28) hx hb hts hin_Model hown hK hP 0 rfl rfl 1 (by decide) (hts _ (xm ww_534)) (fun _ h9 => h9) rfl d_Model_look_65 ?_
        refine lv_iload_n hx hb d_Model_look_68 rfl (lv_at hl 1 rfl) ?_
        refine xiald (k := 0) hx hb hK hP 1 0 rfl rfl rfl (by decide) (by decide) d_Model_look_69 ?_
        exact hret (st 0) () hq.symm _ _ _ _ hP hD hS d_Model_look_70
      replace hq := hq.trans (if_neg h4)
      by_cases h5 : y = 1
      · replace hq := hq.trans (if_pos h5)
        refine lv_tableIn (tgt := 71) hx hb d_Model_look_10 (by rw [h5]; decide) (by rw [h5]; decide) (by rw [h5]; rfl) rfl ?_
        refine lv_aload_n hx hb d_Model_look_71 rfl (lv_at hl 0 rfl) ?_
        refine va_get (D := D) (ci := 7) (v := .ref a_ck) (C := R_Model) (T := F_Model) (N := 28) hx hb hts hin_Model hown hK hP 0 rfl rfl 2 (by decide) (hts _ (xm ww_535)) (fun _ h9 => h9) rfl d_Model_look_72 ?_
        refine lv_iload_n hx hb d_Model_look_75 rfl (lv_at hl 1 rfl) ?_
        refine xiald (k := 0) hx hb hK hP 2 0 rfl rfl rfl (by decide) (by decide) d_Model_look_76 ?_
        exact hret (ck 0) () hq.symm _ _ _ _ hP hD hS d_Model_look_77
      replace hq := hq.trans (if_neg h5)
      by_cases h6 : y = 2
      · replace hq := hq.trans (if_pos h6)
        refine lv_tableIn (tgt := 78) hx hb d_Model_look_10 (by rw [h6]; decide) (by rw [h6]; decide) (by rw [h6]; rfl) rfl ?_
        refine lv_aload_n hx hb d_Model_look_78 rfl (lv_at hl 0 rfl) ?_
        refine va_get (D := D) (ci := 7) (v := .ref a_lo) (C := R_Model) (T := F_Model) (N := 28) hx hb hts hin_Model hown hK hP 0 rfl rfl 7 (by decide) (hts _ (xm ww_540)) (fun _ h9 => h9) rfl d_Model_look_79 ?_
        refine lv_iload_n hx hb d_Model_look_82 rfl (lv_at hl 1 rfl) ?_
        refine xiald (k := 0) hx hb hK hP 3 0 rfl rfl rfl (by decide) (by decide) d_Model_look_83 ?_
        exact hret (lo 0) () hq.symm _ _ _ _ hP hD hS d_Model_look_84
      replace hq := hq.trans (if_neg h6)
      by_cases h7 : y = 3
      · replace hq := hq.trans (if_pos h7)
        refine lv_tableIn (tgt := 85) hx hb d_Model_look_10 (by rw [h7]; decide) (by rw [h7]; decide) (by rw [h7]; rfl) rfl ?_
        refine lv_aload_n hx hb d_Model_look_85 rfl (lv_at hl 0 rfl) ?_
        refine va_get (D := D) (ci := 7) (v := .ref a_ow) (C := R_Model) (T := F_Model) (N := 28) hx hb hts hin_Model hown hK hP 0 rfl rfl 8 (by decide) (hts _ (xm ww_541)) (fun _ h9 => h9) rfl d_Model_look_86 ?_
        refine lv_iload_n hx hb d_Model_look_89 rfl (lv_at hl 1 rfl) ?_
        refine xiald (k := 0) hx hb hK hP 4 0 rfl rfl rfl (by decide) (by decide) d_Model_look_90 ?_
        exact hret (ow 0) () hq.symm _ _ _ _ hP hD hS d_Model_look_91
      replace hq := hq.trans (if_neg h7)
      by_cases h8 : y = 4
      · replace hq := hq.trans (if_pos h8)
        refine lv_tableIn (tgt := 92) hx hb d_Model_look_10 (by rw [h8]; decide) (by rw [h8]; decide) (by rw [h8]; rfl) rfl ?_
        refine lv_aload_n hx hb d_Model_look_92 rfl (lv_at hl 0 rfl) ?_
        refine va_get (D := D) (ci := 7) (v := .ref a_sz) (C := R_Model) (T := F_Model) (N := 28) hx hb hts hin_Model hown hK hP 0 rfl rfl 17 (by decide) (hts _ (xm ww_550)) (fun _ h9 => h9) rfl d_Model_look_93 ?_
        refine lv_iconst (v := 2) hx hb d_Model_look_96 rfl ?_
        refine lv_iload_n hx hb d_Model_look_97 rfl (lv_at hl 1 rfl) ?_
        refine lv_imul hx hb d_Model_look_98 ?_
        refine xtop (y := 0) (by decide) ?_
        refine xiald (k := 0) hx hb hK hP 5 0 rfl rfl rfl (by decide) (by decide) d_Model_look_99 ?_
        refine xtop (y := nI ((Ls 0).length)) rfl ?_
        exact hret (nI ((Ls 0).length)) () hq.symm _ _ _ _ hP hD hS d_Model_look_100
      replace hq := hq.trans (if_neg h8)
      by_cases h9 : y = 5
      · replace hq := hq.trans (if_pos h9)
        refine lv_tableIn (tgt := 101) hx hb d_Model_look_10 (by rw [h9]; decide) (by rw [h9]; decide) (by rw [h9]; rfl) rfl ?_
        refine lv_aload_n hx hb d_Model_look_101 rfl (lv_at hl 0 rfl) ?_
        refine va_get (D := D) (ci := 7) (v := .ref a_sz) (C := R_Model) (T := F_Model) (N := 28) hx hb hts hin_Model hown hK hP 0 rfl rfl 17 (by decide) (hts _ (xm ww_550)) (fun _ h9 => h9) rfl d_Model_look_102 ?_
        refine lv_iconst (v := 2) hx hb d_Model_look_105 rfl ?_
        refine lv_iload_n hx hb d_Model_look_106 rfl (lv_at hl 1 rfl) ?_
        refine lv_imul hx hb d_Model_look_107 ?_
        refine xtop (y := 0) (by decide) ?_
        refine lv_iconst (v := 1) hx hb d_Model_look_108 rfl ?_
        refine lv_iadd hx hb d_Model_look_109 ?_
        refine xtop (y := 1) (by decide) ?_
        refine xiald (k := 1) hx hb hK hP 5 0 rfl rfl rfl (by decide) (by decide) d_Model_look_110 ?_
        refine xtop (y := nI ((Ls 1).length)) rfl ?_
        exact hret (nI ((Ls 1).length)) () hq.symm _ _ _ _ hP hD hS d_Model_look_111
      replace hq := hq.trans (if_neg h9)
      by_cases h10 : y = 6
      · replace hq := hq.trans (if_pos h10)
        refine lv_tableIn (tgt := 112) hx hb d_Model_look_10 (by rw [h10]; decide) (by rw [h10]; decide) (by rw [h10]; rfl) rfl ?_
        refine lv_aload_n hx hb d_Model_look_112 rfl (lv_at hl 0 rfl) ?_
        refine va_get (D := D) (ci := 7) (v := .ref a_fl) (C := R_Model) (T := F_Model) (N := 28) hx hb hts hin_Model hown hK hP 0 rfl rfl 9 (by decide) (hts _ (xm ww_542)) (fun _ h9 => h9) rfl d_Model_look_113 ?_
        refine lv_iload_n hx hb d_Model_look_116 rfl (lv_at hl 1 rfl) ?_
        refine xiald (k := 0) hx hb hK hP 6 0 rfl rfl rfl (by decide) (by decide) d_Model_look_117 ?_
        exact hret (fl 0) () hq.symm _ _ _ _ hP hD hS d_Model_look_118
      replace hq := hq.trans (if_neg h10)
      by_cases h11 : y = 7
      · replace hq := hq.trans (if_pos h11)
        refine lv_tableIn (tgt := 119) hx hb d_Model_look_10 (by rw [h11]; decide) (by rw [h11]; decide) (by rw [h11]; rfl) rfl ?_
        refine lv_aload_n hx hb d_Model_look_119 rfl (lv_at hl 0 rfl) ?_
        refine va_get (D := D) (ci := 7) (v := .ref a_ti) (C := R_Model) (T := F_Model) (N := 28) hx hb hts hin_Model hown hK hP 0 rfl rfl 10 (by decide) (hts _ (xm ww_543)) (fun _ h9 => h9) rfl d_Model_look_120 ?_
        refine lv_iload_n hx hb d_Model_look_123 rfl (lv_at hl 1 rfl) ?_
        refine xiald (k := 0) hx hb hK hP 7 0 rfl rfl rfl (by decide) (by decide) d_Model_look_124 ?_
        exact hret (ti 0) () hq.symm _ _ _ _ hP hD hS d_Model_look_125
      replace hq := hq.trans (if_neg h11)
      by_cases h12 : y = 8
      · replace hq := hq.trans (if_pos h12)
        refine lv_tableIn (tgt := 126) hx hb d_Model_look_10 (by rw [h12]; decide) (by rw [h12]; decide) (by rw [h12]; rfl) rfl ?_
        refine lv_aload_n hx hb d_Model_look_126 rfl (lv_at hl 0 rfl) ?_
        refine va_get (D := D) (ci := 7) (v := .ref a_gd) (C := R_Model) (T := F_Model) (N := 28) hx hb hts hin_Model hown hK hP 0 rfl rfl 11 (by decide) (hts _ (xm ww_544)) (fun _ h9 => h9) rfl d_Model_look_127 ?_
        refine lv_iload_n hx hb d_Model_look_130 rfl (lv_at hl 1 rfl) ?_
        refine xiald (k := 0) hx hb hK hP 8 0 rfl rfl rfl (by decide) (by decide) d_Model_look_131 ?_
        exact hret (gd 0) () hq.symm _ _ _ _ hP hD hS d_Model_look_132
      replace hq := hq.trans (if_neg h12)
      by_cases h13 : y = 9
      · replace hq := hq.trans (if_pos h13)
        refine lv_tableIn (tgt := 133) hx hb d_Model_look_10 (by rw [h13]; decide) (by rw [h13]; decide) (by rw [h13]; rfl) rfl ?_
        refine lv_aload_n hx hb d_Model_look_133 rfl (lv_at hl 0 rfl) ?_
        refine va_get (D := D) (ci := 7) (v := .ref a_se) (C := R_Model) (T := F_Model) (N := 28) hx hb hts hin_Model hown hK hP 0 rfl rfl 14 (by decide) (hts _ (xm ww_547)) (fun _ h9 => h9) rfl d_Model_look_134 ?_
        refine lv_iload_n hx hb d_Model_look_137 rfl (lv_at hl 1 rfl) ?_
        refine xiald (k := 0) hx hb hK hP 9 0 rfl rfl rfl (by decide) (by decide) d_Model_look_138 ?_
        exact hret (se 0) () hq.symm _ _ _ _ hP hD hS d_Model_look_139
      replace hq := hq.trans (if_neg h13)
      refine lv_tableOut (tgt := 140) hx hb d_Model_look_10 (by have w0 := xne (n := 0) h4 (by decide); have w1 := xne (n := 1) h5 (by decide); have w2 := xne (n := 2) h6 (by decide); have w3 := xne (n := 3) h7 (by decide); have w4 := xne (n := 4) h8 (by decide); have w5 := xne (n := 5) h9 (by decide); have w6 := xne (n := 6) h10 (by decide); have w7 := xne (n := 7) h11 (by decide); have w8 := xne (n := 8) h12 (by decide); have w9 := xne (n := 9) h13 (by decide); omega) rfl ?_
      refine lv_iconst (v := (-1)) hx hb d_Model_look_140 rfl ?_
      exact hret (-1) () hq.symm _ _ _ _ hP hD hS d_Model_look_141
    replace hq := hq.trans (if_neg h3)
    have hx1 : x = 1 := isEnd1 h2 h3
    subst hx1
    replace hl : lv_has ls 3 [(0, .ref h0), (1, .int 1), (2, .int y)] := hl
    refine lv_iload_n hx hb d_Model_look_9 rfl (lv_at hl 2 rfl) ?_
    by_cases h14 : y = 0
    · replace hq := hq.trans (if_pos h14)
      refine lv_tableIn (tgt := 64) hx hb d_Model_look_10 (by rw [h14]; decide) (by rw [h14]; decide) (by rw [h14]; rfl) rfl ?_
      refine lv_aload_n hx hb d_Model_look_64 rfl (lv_at hl 0 rfl) ?_
      refine va_get (D := D) (ci := 7) (v := .ref a_st) (C := R_Model) (T := F_Model) (N := 28) hx hb hts hin_Model hown hK hP 0 rfl rfl 1 (by decide) (hts _ (xm ww_534)) (fun _ h9 => h9) rfl d_Model_look_65 ?_
      refine lv_iload_n hx hb d_Model_look_68 rfl (lv_at hl 1 rfl) ?_
      refine xiald (k := 1) hx hb hK hP 1 0 rfl rfl rfl (by decide) (by decide) d_Model_look_69 ?_
      exact hret (st 1) () hq.symm _ _ _ _ hP hD hS d_Model_look_70
    replace hq := hq.trans (if_neg h14)
    by_cases h15 : y = 1
    · replace hq := hq.trans (if_pos h15)
      refine lv_tableIn (tgt := 71) hx hb d_Model_look_10 (by rw [h15]; decide) (by rw [h15]; decide) (by rw [h15]; rfl) rfl ?_
      refine lv_aload_n hx hb d_Model_look_71 rfl (lv_at hl 0 rfl) ?_
      refine va_get (D := D) (ci := 7) (v := .ref a_ck) (C := R_Model) (T := F_Model) (N := 28) hx hb hts hin_Model hown hK hP 0 rfl rfl 2 (by decide) (hts _ (xm ww_535)) (fun _ h9 => h9) rfl d_Model_look_72 ?_
      refine lv_iload_n hx hb d_Model_look_75 rfl (lv_at hl 1 rfl) ?_
      refine xiald (k := 1) hx hb hK hP 2 0 rfl rfl rfl (by decide) (by decide) d_Model_look_76 ?_
      exact hret (ck 1) () hq.symm _ _ _ _ hP hD hS d_Model_look_77
    replace hq := hq.trans (if_neg h15)
    by_cases h16 : y = 2
    · replace hq := hq.trans (if_pos h16)
      refine lv_tableIn (tgt := 78) hx hb d_Model_look_10 (by rw [h16]; decide) (by rw [h16]; decide) (by rw [h16]; rfl) rfl ?_
      refine lv_aload_n hx hb d_Model_look_78 rfl (lv_at hl 0 rfl) ?_
      refine va_get (D := D) (ci := 7) (v := .ref a_lo) (C := R_Model) (T := F_Model) (N := 28) hx hb hts hin_Model hown hK hP 0 rfl rfl 7 (by decide) (hts _ (xm ww_540)) (fun _ h9 => h9) rfl d_Model_look_79 ?_
      refine lv_iload_n hx hb d_Model_look_82 rfl (lv_at hl 1 rfl) ?_
      refine xiald (k := 1) hx hb hK hP 3 0 rfl rfl rfl (by decide) (by decide) d_Model_look_83 ?_
      exact hret (lo 1) () hq.symm _ _ _ _ hP hD hS d_Model_look_84
    replace hq := hq.trans (if_neg h16)
    by_cases h17 : y = 3
    · replace hq := hq.trans (if_pos h17)
      refine lv_tableIn (tgt := 85) hx hb d_Model_look_10 (by rw [h17]; decide) (by rw [h17]; decide) (by rw [h17]; rfl) rfl ?_
      refine lv_aload_n hx hb d_Model_look_85 rfl (lv_at hl 0 rfl) ?_
      refine va_get (D := D) (ci := 7) (v := .ref a_ow) (C := R_Model) (T := F_Model) (N := 28) hx hb hts hin_Model hown hK hP 0 rfl rfl 8 (by decide) (hts _ (xm ww_541)) (fun _ h9 => h9) rfl d_Model_look_86 ?_
      refine lv_iload_n hx hb d_Model_look_89 rfl (lv_at hl 1 rfl) ?_
      refine xiald (k := 1) hx hb hK hP 4 0 rfl rfl rfl (by decide) (by decide) d_Model_look_90 ?_
      exact hret (ow 1) () hq.symm _ _ _ _ hP hD hS d_Model_look_91
    replace hq := hq.trans (if_neg h17)
    by_cases h18 : y = 4
    · replace hq := hq.trans (if_pos h18)
      refine lv_tableIn (tgt := 92) hx hb d_Model_look_10 (by rw [h18]; decide) (by rw [h18]; decide) (by rw [h18]; rfl) rfl ?_
      refine lv_aload_n hx hb d_Model_look_92 rfl (lv_at hl 0 rfl) ?_
      refine va_get (D := D) (ci := 7) (v := .ref a_sz) (C := R_Model) (T := F_Model) (N := 28) hx hb hts hin_Model hown hK hP 0 rfl rfl 17 (by decide) (hts _ (xm ww_550)) (fun _ h9 => h9) rfl d_Model_look_93 ?_
      refine lv_iconst (v := 2) hx hb d_Model_look_96 rfl ?_
      refine lv_iload_n hx hb d_Model_look_97 rfl (lv_at hl 1 rfl) ?_
      refine lv_imul hx hb d_Model_look_98 ?_
      refine xtop (y := 2) (by decide) ?_
      refine xiald (k := 2) hx hb hK hP 5 0 rfl rfl rfl (by decide) (by decide) d_Model_look_99 ?_
      refine xtop (y := nI ((Ls 2).length)) rfl ?_
      exact hret (nI ((Ls 2).length)) () hq.symm _ _ _ _ hP hD hS d_Model_look_100
    replace hq := hq.trans (if_neg h18)
    by_cases h19 : y = 5
    · replace hq := hq.trans (if_pos h19)
      refine lv_tableIn (tgt := 101) hx hb d_Model_look_10 (by rw [h19]; decide) (by rw [h19]; decide) (by rw [h19]; rfl) rfl ?_
      refine lv_aload_n hx hb d_Model_look_101 rfl (lv_at hl 0 rfl) ?_
      refine va_get (D := D) (ci := 7) (v := .ref a_sz) (C := R_Model) (T := F_Model) (N := 28) hx hb hts hin_Model hown hK hP 0 rfl rfl 17 (by decide) (hts _ (xm ww_550)) (fun _ h9 => h9) rfl d_Model_look_102 ?_
      refine lv_iconst (v := 2) hx hb d_Model_look_105 rfl ?_
      refine lv_iload_n hx hb d_Model_look_106 rfl (lv_at hl 1 rfl) ?_
      refine lv_imul hx hb d_Model_look_107 ?_
      refine xtop (y := 2) (by decide) ?_
      refine lv_iconst (v := 1) hx hb d_Model_look_108 rfl ?_
      refine lv_iadd hx hb d_Model_look_109 ?_
      refine xtop (y := 3) (by decide) ?_
      refine xiald (k := 3) hx hb hK hP 5 0 rfl rfl rfl (by decide) (by decide) d_Model_look_110 ?_
      refine xtop (y := nI ((Ls 3).length)) rfl ?_
      exact hret (nI ((Ls 3).length)) () hq.symm _ _ _ _ hP hD hS d_Model_look_111
    replace hq := hq.trans (if_neg h19)
    by_cases h20 : y = 6
    · replace hq := hq.trans (if_pos h20)
      refine lv_tableIn (tgt := 112) hx hb d_Model_look_10 (by rw [h20]; decide) (by rw [h20]; decide) (by rw [h20]; rfl) rfl ?_
      refine lv_aload_n hx hb d_Model_look_112 rfl (lv_at hl 0 rfl) ?_
      refine va_get (D := D) (ci := 7) (v := .ref a_fl) (C := R_Model) (T := F_Model) (N := 28) hx hb hts hin_Model hown hK hP 0 rfl rfl 9 (by decide) (hts _ (xm ww_542)) (fun _ h9 => h9) rfl d_Model_look_113 ?_
      refine lv_iload_n hx hb d_Model_look_116 rfl (lv_at hl 1 rfl) ?_
      refine xiald (k := 1) hx hb hK hP 6 0 rfl rfl rfl (by decide) (by decide) d_Model_look_117 ?_
      exact hret (fl 1) () hq.symm _ _ _ _ hP hD hS d_Model_look_118
    replace hq := hq.trans (if_neg h20)
    by_cases h21 : y = 7
    · replace hq := hq.trans (if_pos h21)
      refine lv_tableIn (tgt := 119) hx hb d_Model_look_10 (by rw [h21]; decide) (by rw [h21]; decide) (by rw [h21]; rfl) rfl ?_
      refine lv_aload_n hx hb d_Model_look_119 rfl (lv_at hl 0 rfl) ?_
      refine va_get (D := D) (ci := 7) (v := .ref a_ti) (C := R_Model) (T := F_Model) (N := 28) hx hb hts hin_Model hown hK hP 0 rfl rfl 10 (by decide) (hts _ (xm ww_543)) (fun _ h9 => h9) rfl d_Model_look_120 ?_
      refine lv_iload_n hx hb d_Model_look_123 rfl (lv_at hl 1 rfl) ?_
      refine xiald (k := 1) hx hb hK hP 7 0 rfl rfl rfl (by decide) (by decide) d_Model_look_124 ?_
      exact hret (ti 1) () hq.symm _ _ _ _ hP hD hS d_Model_look_125
    replace hq := hq.trans (if_neg h21)
    by_cases h22 : y = 8
    · replace hq := hq.trans (if_pos h22)
      refine lv_tableIn (tgt := 126) hx hb d_Model_look_10 (by rw [h22]; decide) (by rw [h22]; decide) (by rw [h22]; rfl) rfl ?_
      refine lv_aload_n hx hb d_Model_look_126 rfl (lv_at hl 0 rfl) ?_
      refine va_get (D := D) (ci := 7) (v := .ref a_gd) (C := R_Model) (T := F_Model) (N := 28) hx hb hts hin_Model hown hK hP 0 rfl rfl 11 (by decide) (hts _ (xm ww_544)) (fun _ h9 => h9) rfl d_Model_look_127 ?_
      refine lv_iload_n hx hb d_Model_look_130 rfl (lv_at hl 1 rfl) ?_
      refine xiald (k := 1) hx hb hK hP 8 0 rfl rfl rfl (by decide) (by decide) d_Model_look_131 ?_
      exact hret (gd 1) () hq.symm _ _ _ _ hP hD hS d_Model_look_132
    replace hq := hq.trans (if_neg h22)
    by_cases h23 : y = 9
    · replace hq := hq.trans (if_pos h23)
      refine lv_tableIn (tgt := 133) hx hb d_Model_look_10 (by rw [h23]; decide) (by rw [h23]; decide) (by rw [h23]; rfl) rfl ?_
      refine lv_aload_n hx hb d_Model_look_133 rfl (lv_at hl 0 rfl) ?_
      refine va_get (D := D) (ci := 7) (v := .ref a_se) (C := R_Model) (T := F_Model) (N := 28) hx hb hts hin_Model hown hK hP 0 rfl rfl 14 (by decide) (hts _ (xm ww_547)) (fun _ h9 => h9) rfl d_Model_look_134 ?_
      refine lv_iload_n hx hb d_Model_look_137 rfl (lv_at hl 1 rfl) ?_
      refine xiald (k := 1) hx hb hK hP 9 0 rfl rfl rfl (by decide) (by decide) d_Model_look_138 ?_
      exact hret (se 1) () hq.symm _ _ _ _ hP hD hS d_Model_look_139
    replace hq := hq.trans (if_neg h23)
    refine lv_tableOut (tgt := 140) hx hb d_Model_look_10 (by have w0 := xne (n := 0) h14 (by decide); have w1 := xne (n := 1) h15 (by decide); have w2 := xne (n := 2) h16 (by decide); have w3 := xne (n := 3) h17 (by decide); have w4 := xne (n := 4) h18 (by decide); have w5 := xne (n := 5) h19 (by decide); have w6 := xne (n := 6) h20 (by decide); have w7 := xne (n := 7) h21 (by decide); have w8 := xne (n := 8) h22 (by decide); have w9 := xne (n := 9) h23 (by decide); omega) rfl ?_
    refine lv_iconst (v := (-1)) hx hb d_Model_look_140 rfl ?_
    exact hret (-1) () hq.symm _ _ _ _ hP hD hS d_Model_look_141
  replace hq := hq.trans (if_pos h2)
  refine lv_iconst (v := (-1)) hx hb d_Model_look_7 rfl ?_
  exact hret (-1) () hq.symm _ _ _ _ hP hD hS d_Model_look_8

def s_Model_memory (me : Nat → Int32) (x : Int32) : Int32 := bnd (α := Int32) (if (s_Model_fits x 31) = 0 then (-1) else (me x.toNatClampNeg)) (fun y3 => y3)
abbrev rm_Model_memory : Room := { frames := 1, cells := 0, slots := 0, locals := 21 }
set_option maxHeartbeats 1000000 in
set_option maxRecDepth 100000 in
theorem c_Model_memory {l : Launch} {D : va_G} {cI cZ : ClassId} (me : Nat → Int32) (x : Int32) (h0 : Nat) (a_st : Nat) (a_ck : Nat) (a_en : Nat) (a_au : Nat) (a_he : Nat) (a_qu : Nat) (a_lo : Nat) (a_ow : Nat) (a_fl : Nat) (a_ti : Nat) (a_gd : Nat) (a_ak : Nat) (a_sp : Nat) (a_se : Nat) (a_sd : Nat) (a_rw : Nat) (a_sz : Nat) (a_op : Nat) (a_th : Nat) (a_me : Nat) (a_pk : Nat) (a_re : Nat) (a_dr : Nat) (tg : Int32) (kc : Nat) (cm : Int32) (su : Int32) (kq : Nat) (sz : Nat) : Met l y_Model_memory (w_Model_memory) rm_Model_memory (va_Pc [.ref h0, .int x] (xPre xNs D vwCl cI cZ [(h0, .inr (7, [.int tg, .ref a_st, .ref a_ck, .ref a_en, .ref a_au, .ref a_he, .ref a_qu, .ref a_lo, .ref a_ow, .ref a_fl, .ref a_ti, .ref a_gd, .ref a_ak, .ref a_sp, .ref a_se, .ref a_sd, .ref a_rw, .ref a_sz, .ref a_op, .ref a_th, .ref a_me, .ref a_pk, .int (nI kc), .int cm, .int su, .ref a_re, .int (nI kq), .ref a_dr])), (a_me, .inl (cI, 32, .inl me))] sz)) (va_Qi (fun (r : Int32) (u : Unit) => r = s_Model_memory me x) (fun u t9 => xAt D vwCl (va_A [(h0, .inr (7, [.int tg, .ref a_st, .ref a_ck, .ref a_en, .ref a_au, .ref a_he, .ref a_qu, .ref a_lo, .ref a_ow, .ref a_fl, .ref a_ti, .ref a_gd, .ref a_ak, .ref a_sp, .ref a_se, .ref a_sd, .ref a_rw, .ref a_sz, .ref a_op, .ref a_th, .ref a_me, .ref a_pk, .int (nI kc), .int cm, .int su, .ref a_re, .int (nI kq), .ref a_dr])), (a_me, .inl (cI, 32, .inl me))] sz) [(h0, .inr (7, [.int tg, .ref a_st, .ref a_ck, .ref a_en, .ref a_au, .ref a_he, .ref a_qu, .ref a_lo, .ref a_ow, .ref a_fl, .ref a_ti, .ref a_gd, .ref a_ak, .ref a_sp, .ref a_se, .ref a_sd, .ref a_rw, .ref a_sz, .ref a_op, .ref a_th, .ref a_me, .ref a_pk, .int (nI kc), .int cm, .int su, .ref a_re, .int (nI kq), .ref a_dr])), (a_me, .inl (cI, 32, .inl me))] t9) (va_A [(h0, .inr (7, [.int tg, .ref a_st, .ref a_ck, .ref a_en, .ref a_au, .ref a_he, .ref a_qu, .ref a_lo, .ref a_ow, .ref a_fl, .ref a_ti, .ref a_gd, .ref a_ak, .ref a_sp, .ref a_se, .ref a_sd, .ref a_rw, .ref a_sz, .ref a_op, .ref a_th, .ref a_me, .ref a_pk, .int (nI kc), .int cm, .int su, .ref a_re, .int (nI kq), .ref a_dr])), (a_me, .inl (cI, 32, .inl me))] sz)) 0 0 (va_A [(h0, .inr (7, [.int tg, .ref a_st, .ref a_ck, .ref a_en, .ref a_au, .ref a_he, .ref a_qu, .ref a_lo, .ref a_ow, .ref a_fl, .ref a_ti, .ref a_gd, .ref a_ak, .ref a_sp, .ref a_se, .ref a_sd, .ref a_rw, .ref a_sz, .ref a_op, .ref a_th, .ref a_me, .ref a_pk, .int (nI kc), .int cm, .int su, .ref a_re, .int (nI kq), .ref a_dr])), (a_me, .inl (cI, 32, .inl me))] sz) := by
  refine xBody_i (S := Unit) (cc := b_Model_memory) (maxL := 2) (by decide) rfl (Nat.le_of_ble_eq_true rfl) ?_
  intro p e s m args below meth c A H ls Q hx hb hml hin hts hown hP hD hK hN hS hA hl hret
  replace hl : lv_has ls 2 [(0, .ref h0), (1, .int x)] := hl
  have hin_Model : ∀ w ∈ u_ws R_Model F_Model 28, w ∈ (w_Model_memory) := (fun w h => xm (lay_Model w h))
  have hq : s_Model_memory me x = (bnd (α := Int32) (if (s_Model_fits x 31) = 0 then (-1) else (me x.toNatClampNeg)) (fun y3 => y3)) := rfl
  refine lv_iload_n hx hb d_Model_memory_0 rfl (lv_at hl 1 rfl) ?_
  refine lv_bipush (v := 31) hx hb d_Model_memory_1 rfl ?_
  refine xcall_i (wc := []) (wr := [(h0, .inr (7, [.int tg, .ref a_st, .ref a_ck, .ref a_en, .ref a_au, .ref a_he, .ref a_qu, .ref a_lo, .ref a_ow, .ref a_fl, .ref a_ti, .ref a_gd, .ref a_ak, .ref a_sp, .ref a_se, .ref a_sd, .ref a_rw, .ref a_sz, .ref a_op, .ref a_th, .ref a_me, .ref a_pk, .int (nI kc), .int cm, .int su, .ref a_re, .int (nI kq), .ref a_dr])), (a_me, .inl (cI, 32, .inl me))]) (ws1 := fun (u : Unit) => [(h0, .inr (7, [.int tg, .ref a_st, .ref a_ck, .ref a_en, .ref a_au, .ref a_he, .ref a_qu, .ref a_lo, .ref a_ow, .ref a_fl, .ref a_ti, .ref a_gd, .ref a_ak, .ref a_sp, .ref a_se, .ref a_sd, .ref a_rw, .ref a_sz, .ref a_op, .ref a_th, .ref a_me, .ref a_pk, .int (nI kc), .int cm, .int su, .ref a_re, .int (nI kq), .ref a_dr])), (a_me, .inl (cI, 32, .inl me))]) (va_runS (As := [.int x, .int 31]) (rest := []) ⟨hx, hb, hml, hown, hts⟩ (c_Model_fits x 31 H.size) (xcwS 2 hts ww_731 ww_729 ww_730 ww_8 (by decide +kernel) rfl rfl ⟨Nat.le_of_ble_eq_true rfl, Nat.le_of_ble_eq_true rfl⟩) (xPreS (hP.sub [] rfl) (hD.sub [] (by decide) rfl) hK hN) rfl rfl hl.1 rfl (lv_room (Nat.le_of_ble_eq_true rfl)) d_Model_memory_3 ⟨Nat.le_of_ble_eq_true rfl, Nat.le_of_ble_eq_true rfl⟩) hP hD hS hA [] [0, 1] [0, 1] rfl rfl (by decide) (by decide) (by decide) (fun _ => rfl) (fun r1 u1 H locs hw hP hD hS => ?_)
  obtain ⟨hw, hbr_1⟩ := hw
  subst hw
  replace hP : va_P D vwCl [(h0, .inr (7, [.int tg, .ref a_st, .ref a_ck, .ref a_en, .ref a_au, .ref a_he, .ref a_qu, .ref a_lo, .ref a_ow, .ref a_fl, .ref a_ti, .ref a_gd, .ref a_ak, .ref a_sp, .ref a_se, .ref a_sd, .ref a_rw, .ref a_sz, .ref a_op, .ref a_th, .ref a_me, .ref a_pk, .int (nI kc), .int cm, .int su, .ref a_re, .int (nI kq), .ref a_dr])), (a_me, .inl (cI, 32, .inl me))] H := hP
  replace hD : va_D A [(h0, .inr (7, [.int tg, .ref a_st, .ref a_ck, .ref a_en, .ref a_au, .ref a_he, .ref a_qu, .ref a_lo, .ref a_ow, .ref a_fl, .ref a_ti, .ref a_gd, .ref a_ak, .ref a_sp, .ref a_se, .ref a_sd, .ref a_rw, .ref a_sz, .ref a_op, .ref a_th, .ref a_me, .ref a_pk, .int (nI kc), .int cm, .int su, .ref a_re, .int (nI kq), .ref a_dr])), (a_me, .inl (cI, 32, .inl me))] := hD
  have J2 : ∀ (y3 : Int32) (H : Heap) (locs : List Loc), y3 = (if (s_Model_fits x 31) = 0 then (-1) else (me x.toNatClampNeg)) → va_P D vwCl [(h0, .inr (7, [.int tg, .ref a_st, .ref a_ck, .ref a_en, .ref a_au, .ref a_he, .ref a_qu, .ref a_lo, .ref a_ow, .ref a_fl, .ref a_ti, .ref a_gd, .ref a_ak, .ref a_sp, .ref a_se, .ref a_sd, .ref a_rw, .ref a_sz, .ref a_op, .ref a_th, .ref a_me, .ref a_pk, .int (nI kc), .int cm, .int su, .ref a_re, .int (nI kq), .ref a_dr])), (a_me, .inl (cI, 32, .inl me))] H → va_D A [(h0, .inr (7, [.int tg, .ref a_st, .ref a_ck, .ref a_en, .ref a_au, .ref a_he, .ref a_qu, .ref a_lo, .ref a_ow, .ref a_fl, .ref a_ti, .ref a_gd, .ref a_ak, .ref a_sp, .ref a_se, .ref a_sd, .ref a_rw, .ref a_sz, .ref a_op, .ref a_th, .ref a_me, .ref a_pk, .int (nI kc), .int cm, .int su, .ref a_re, .int (nI kq), .ref a_dr])), (a_me, .inl (cI, 32, .inl me))] → va_S A s.heap H locs → W p l e rm_Model_memory s m args below meth c H locs 0 0 Q (F0 m 19 ls [.int y3]) := by
    intro y3 H locs hy3 hP hD hS
    replace hq := hq.trans (bnd_eq hy3)
    try dsimp only at hq
    exact hret y3 () hq.symm _ _ _ _ hP hD hS d_Model_memory_19
  have hv : ((if (s_Model_fits x 31) = 0 then (-1) else (me x.toNatClampNeg)) : Int32) = (if (s_Model_fits x 31) = 0 then (-1) else (me x.toNatClampNeg)) := rfl
  refine lv_if_eq (tgt := 18) hx hb d_Model_memory_6 rfl (fun h4 => ?_) (fun h4 => ?_)
  · replace hv := hv.trans (if_pos h4)
    refine lv_iconst (v := (-1)) hx hb d_Model_memory_18 rfl ?_
    exact J2 _ _ _ hv.symm hP hD hS
  replace hv := hv.trans (if_neg h4)
  refine lv_aload_n hx hb d_Model_memory_9 rfl (lv_at hl 0 rfl) ?_
  refine va_get (D := D) (ci := 7) (v := .ref a_me) (C := R_Model) (T := F_Model) (N := 28) hx hb hts hin_Model hown hK hP 0 rfl rfl 20 (by decide) (hts _ (xm ww_553)) (fun _ h9 => h9) rfl d_Model_memory_10 ?_
  refine lv_iload_n hx hb d_Model_memory_13 rfl (lv_at hl 1 rfl) ?_
  refine xiald (k := x.toNatClampNeg) hx hb hK hP 1 0 rfl rfl (xnat (fits_nn h4)) (fits_lt h4) (by decide) d_Model_memory_14 ?_
  refine lv_goto (tgt := 19) hx hb d_Model_memory_15 rfl ?_
  exact J2 _ _ _ hv.symm hP hD hS

def s_Model_commands (cm : Int32) : Int32 := cm
abbrev rm_Model_commands : Room := { frames := 0, cells := 0, slots := 0, locals := 0 }
set_option maxHeartbeats 1000000 in
set_option maxRecDepth 100000 in
theorem c_Model_commands {l : Launch} {D : va_G} {cI cZ : ClassId} (cm : Int32) (h0 : Nat) (a_st : Nat) (a_ck : Nat) (a_en : Nat) (a_au : Nat) (a_he : Nat) (a_qu : Nat) (a_lo : Nat) (a_ow : Nat) (a_fl : Nat) (a_ti : Nat) (a_gd : Nat) (a_ak : Nat) (a_sp : Nat) (a_se : Nat) (a_sd : Nat) (a_rw : Nat) (a_sz : Nat) (a_op : Nat) (a_th : Nat) (a_me : Nat) (a_pk : Nat) (a_re : Nat) (a_dr : Nat) (tg : Int32) (kc : Nat) (su : Int32) (kq : Nat) (sz : Nat) : Met l y_Model_commands (w_Model_commands) rm_Model_commands (va_Pc [.ref h0] (xPre xNs D vwCl cI cZ [(h0, .inr (7, [.int tg, .ref a_st, .ref a_ck, .ref a_en, .ref a_au, .ref a_he, .ref a_qu, .ref a_lo, .ref a_ow, .ref a_fl, .ref a_ti, .ref a_gd, .ref a_ak, .ref a_sp, .ref a_se, .ref a_sd, .ref a_rw, .ref a_sz, .ref a_op, .ref a_th, .ref a_me, .ref a_pk, .int (nI kc), .int cm, .int su, .ref a_re, .int (nI kq), .ref a_dr]))] sz)) (va_Qi (fun (r : Int32) (u : Unit) => r = s_Model_commands cm) (fun u t9 => xAt D vwCl (va_A [(h0, .inr (7, [.int tg, .ref a_st, .ref a_ck, .ref a_en, .ref a_au, .ref a_he, .ref a_qu, .ref a_lo, .ref a_ow, .ref a_fl, .ref a_ti, .ref a_gd, .ref a_ak, .ref a_sp, .ref a_se, .ref a_sd, .ref a_rw, .ref a_sz, .ref a_op, .ref a_th, .ref a_me, .ref a_pk, .int (nI kc), .int cm, .int su, .ref a_re, .int (nI kq), .ref a_dr]))] sz) [(h0, .inr (7, [.int tg, .ref a_st, .ref a_ck, .ref a_en, .ref a_au, .ref a_he, .ref a_qu, .ref a_lo, .ref a_ow, .ref a_fl, .ref a_ti, .ref a_gd, .ref a_ak, .ref a_sp, .ref a_se, .ref a_sd, .ref a_rw, .ref a_sz, .ref a_op, .ref a_th, .ref a_me, .ref a_pk, .int (nI kc), .int cm, .int su, .ref a_re, .int (nI kq), .ref a_dr]))] t9) (va_A [(h0, .inr (7, [.int tg, .ref a_st, .ref a_ck, .ref a_en, .ref a_au, .ref a_he, .ref a_qu, .ref a_lo, .ref a_ow, .ref a_fl, .ref a_ti, .ref a_gd, .ref a_ak, .ref a_sp, .ref a_se, .ref a_sd, .ref a_rw, .ref a_sz, .ref a_op, .ref a_th, .ref a_me, .ref a_pk, .int (nI kc), .int cm, .int su, .ref a_re, .int (nI kq), .ref a_dr]))] sz)) 0 0 (va_A [(h0, .inr (7, [.int tg, .ref a_st, .ref a_ck, .ref a_en, .ref a_au, .ref a_he, .ref a_qu, .ref a_lo, .ref a_ow, .ref a_fl, .ref a_ti, .ref a_gd, .ref a_ak, .ref a_sp, .ref a_se, .ref a_sd, .ref a_rw, .ref a_sz, .ref a_op, .ref a_th, .ref a_me, .ref a_pk, .int (nI kc), .int cm, .int su, .ref a_re, .int (nI kq), .ref a_dr]))] sz) := by
  refine xBody_i (S := Unit) (cc := b_Model_commands) (maxL := 1) (by decide) rfl (Nat.le_of_ble_eq_true rfl) ?_
  intro p e s m args below meth c A H ls Q hx hb hml hin hts hown hP hD hK hN hS hA hl hret
  replace hl : lv_has ls 1 [(0, .ref h0)] := hl
  have hin_Model : ∀ w ∈ u_ws R_Model F_Model 28, w ∈ (w_Model_commands) := (fun w h => xm (lay_Model w h))
  have hq : s_Model_commands cm = (cm) := rfl
  refine lv_aload_n hx hb d_Model_commands_0 rfl (lv_at hl 0 rfl) ?_
  refine va_get (D := D) (ci := 7) (v := .int cm) (C := R_Model) (T := F_Model) (N := 28) hx hb hts hin_Model hown hK hP 0 rfl rfl 23 (by decide) (hts _ (xm ww_556)) (fun _ h9 => h9) rfl d_Model_commands_1 ?_
  exact hret cm () hq.symm _ _ _ _ hP hD hS d_Model_commands_4

def s_Model_status (su : Int32) : Int32 := su
abbrev rm_Model_status : Room := { frames := 0, cells := 0, slots := 0, locals := 0 }
set_option maxHeartbeats 1000000 in
set_option maxRecDepth 100000 in
theorem c_Model_status {l : Launch} {D : va_G} {cI cZ : ClassId} (su : Int32) (h0 : Nat) (a_st : Nat) (a_ck : Nat) (a_en : Nat) (a_au : Nat) (a_he : Nat) (a_qu : Nat) (a_lo : Nat) (a_ow : Nat) (a_fl : Nat) (a_ti : Nat) (a_gd : Nat) (a_ak : Nat) (a_sp : Nat) (a_se : Nat) (a_sd : Nat) (a_rw : Nat) (a_sz : Nat) (a_op : Nat) (a_th : Nat) (a_me : Nat) (a_pk : Nat) (a_re : Nat) (a_dr : Nat) (tg : Int32) (kc : Nat) (cm : Int32) (kq : Nat) (sz : Nat) : Met l y_Model_status (w_Model_status) rm_Model_status (va_Pc [.ref h0] (xPre xNs D vwCl cI cZ [(h0, .inr (7, [.int tg, .ref a_st, .ref a_ck, .ref a_en, .ref a_au, .ref a_he, .ref a_qu, .ref a_lo, .ref a_ow, .ref a_fl, .ref a_ti, .ref a_gd, .ref a_ak, .ref a_sp, .ref a_se, .ref a_sd, .ref a_rw, .ref a_sz, .ref a_op, .ref a_th, .ref a_me, .ref a_pk, .int (nI kc), .int cm, .int su, .ref a_re, .int (nI kq), .ref a_dr]))] sz)) (va_Qi (fun (r : Int32) (u : Unit) => r = s_Model_status su) (fun u t9 => xAt D vwCl (va_A [(h0, .inr (7, [.int tg, .ref a_st, .ref a_ck, .ref a_en, .ref a_au, .ref a_he, .ref a_qu, .ref a_lo, .ref a_ow, .ref a_fl, .ref a_ti, .ref a_gd, .ref a_ak, .ref a_sp, .ref a_se, .ref a_sd, .ref a_rw, .ref a_sz, .ref a_op, .ref a_th, .ref a_me, .ref a_pk, .int (nI kc), .int cm, .int su, .ref a_re, .int (nI kq), .ref a_dr]))] sz) [(h0, .inr (7, [.int tg, .ref a_st, .ref a_ck, .ref a_en, .ref a_au, .ref a_he, .ref a_qu, .ref a_lo, .ref a_ow, .ref a_fl, .ref a_ti, .ref a_gd, .ref a_ak, .ref a_sp, .ref a_se, .ref a_sd, .ref a_rw, .ref a_sz, .ref a_op, .ref a_th, .ref a_me, .ref a_pk, .int (nI kc), .int cm, .int su, .ref a_re, .int (nI kq), .ref a_dr]))] t9) (va_A [(h0, .inr (7, [.int tg, .ref a_st, .ref a_ck, .ref a_en, .ref a_au, .ref a_he, .ref a_qu, .ref a_lo, .ref a_ow, .ref a_fl, .ref a_ti, .ref a_gd, .ref a_ak, .ref a_sp, .ref a_se, .ref a_sd, .ref a_rw, .ref a_sz, .ref a_op, .ref a_th, .ref a_me, .ref a_pk, .int (nI kc), .int cm, .int su, .ref a_re, .int (nI kq), .ref a_dr]))] sz)) 0 0 (va_A [(h0, .inr (7, [.int tg, .ref a_st, .ref a_ck, .ref a_en, .ref a_au, .ref a_he, .ref a_qu, .ref a_lo, .ref a_ow, .ref a_fl, .ref a_ti, .ref a_gd, .ref a_ak, .ref a_sp, .ref a_se, .ref a_sd, .ref a_rw, .ref a_sz, .ref a_op, .ref a_th, .ref a_me, .ref a_pk, .int (nI kc), .int cm, .int su, .ref a_re, .int (nI kq), .ref a_dr]))] sz) := by
  refine xBody_i (S := Unit) (cc := b_Model_status) (maxL := 1) (by decide) rfl (Nat.le_of_ble_eq_true rfl) ?_
  intro p e s m args below meth c A H ls Q hx hb hml hin hts hown hP hD hK hN hS hA hl hret
  replace hl : lv_has ls 1 [(0, .ref h0)] := hl
  have hin_Model : ∀ w ∈ u_ws R_Model F_Model 28, w ∈ (w_Model_status) := (fun w h => xm (lay_Model w h))
  have hq : s_Model_status su = (su) := rfl
  refine lv_aload_n hx hb d_Model_status_0 rfl (lv_at hl 0 rfl) ?_
  refine va_get (D := D) (ci := 7) (v := .int su) (C := R_Model) (T := F_Model) (N := 28) hx hb hts hin_Model hown hK hP 0 rfl rfl 24 (by decide) (hts _ (xm ww_557)) (fun _ h9 => h9) rfl d_Model_status_1 ?_
  exact hret su () hq.symm _ _ _ _ hP hD hS d_Model_status_4

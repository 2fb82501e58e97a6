theorem d_Inlet_size_0 : decode b_Inlet_size 0 = .ok (.aload_n 0, 1) := by decide +kernel
theorem d_Inlet_size_1 : decode b_Inlet_size 1 = .ok (.getfield 14, 3) := by decide +kernel
theorem d_Inlet_size_4 : decode b_Inlet_size 4 = .ok (.getfield 20, 3) := by decide +kernel
theorem d_Inlet_size_7 : decode b_Inlet_size 7 = .ok (.ireturn, 1) := by decide +kernel
theorem d_Inlet_receive_0 : decode b_Inlet_receive 0 = .ok (.aload_n 0, 1) := by decide +kernel
theorem d_Inlet_receive_1 : decode b_Inlet_receive 1 = .ok (.getfield 14, 3) := by decide +kernel
theorem d_Inlet_receive_4 : decode b_Inlet_receive 4 = .ok (.iload_n 1, 1) := by decide +kernel
theorem d_Inlet_receive_5 : decode b_Inlet_receive 5 = .ok (.invokevirtual 24, 3) := by decide +kernel
theorem d_Inlet_receive_8 : decode b_Inlet_receive 8 = .ok (.aload_n 0, 1) := by decide +kernel
theorem d_Inlet_receive_9 : decode b_Inlet_receive 9 = .ok (.iload_n 1, 1) := by decide +kernel
theorem d_Inlet_receive_10 : decode b_Inlet_receive 10 = .ok (.invokestatic 27, 3) := by decide +kernel
theorem d_Inlet_receive_13 : decode b_Inlet_receive 13 = .ok (.putfield 31, 3) := by decide +kernel
theorem d_Inlet_receive_16 : decode b_Inlet_receive 16 = .ok (.return_, 1) := by decide +kernel
theorem d_Inlet_removeFirst_0 : decode b_Inlet_removeFirst 0 = .ok (.aload_n 0, 1) := by decide +kernel
theorem d_Inlet_removeFirst_1 : decode b_Inlet_removeFirst 1 = .ok (.getfield 14, 3) := by decide +kernel
theorem d_Inlet_removeFirst_4 : decode b_Inlet_removeFirst 4 = .ok (.invokevirtual 35, 3) := by decide +kernel
theorem d_Inlet_removeFirst_7 : decode b_Inlet_removeFirst 7 = .ok (.ireturn, 1) := by decide +kernel
theorem d_Inlet_breakOff_0 : decode b_Inlet_breakOff 0 = .ok (.aload_n 0, 1) := by decide +kernel
theorem d_Inlet_breakOff_1 : decode b_Inlet_breakOff 1 = .ok (.getfield 31, 3) := by decide +kernel
theorem d_Inlet_breakOff_4 : decode b_Inlet_breakOff 4 = .ok (.ifCond .eq 18, 3) := by decide +kernel
theorem d_Inlet_breakOff_7 : decode b_Inlet_breakOff 7 = .ok (.aload_n 0, 1) := by decide +kernel
theorem d_Inlet_breakOff_8 : decode b_Inlet_breakOff 8 = .ok (.getfield 14, 3) := by decide +kernel
theorem d_Inlet_breakOff_11 : decode b_Inlet_breakOff 11 = .ok (.sipush 257, 3) := by decide +kernel
theorem d_Inlet_breakOff_14 : decode b_Inlet_breakOff 14 = .ok (.invokevirtual 24, 3) := by decide +kernel
theorem d_Inlet_breakOff_17 : decode b_Inlet_breakOff 17 = .ok (.aload_n 0, 1) := by decide +kernel
theorem d_Inlet_breakOff_18 : decode b_Inlet_breakOff 18 = .ok (.iconst 0, 1) := by decide +kernel
theorem d_Inlet_breakOff_19 : decode b_Inlet_breakOff 19 = .ok (.putfield 31, 3) := by decide +kernel
theorem d_Inlet_breakOff_22 : decode b_Inlet_breakOff 22 = .ok (.return_, 1) := by decide +kernel
theorem d_Packet_clear_0 : decode b_Packet_clear 0 = .ok (.aload_n 0, 1) := by decide +kernel
theorem d_Packet_clear_1 : decode b_Packet_clear 1 = .ok (.iconst 0, 1) := by decide +kernel
theorem d_Packet_clear_2 : decode b_Packet_clear 2 = .ok (.putfield 13, 3) := by decide +kernel
theorem d_Packet_clear_5 : decode b_Packet_clear 5 = .ok (.return_, 1) := by decide +kernel
theorem d_Packet_add_0 : decode b_Packet_add 0 = .ok (.aload_n 0, 1) := by decide +kernel
theorem d_Packet_add_1 : decode b_Packet_add 1 = .ok (.getfield 13, 3) := by decide +kernel
theorem d_Packet_add_4 : decode b_Packet_add 4 = .ok (.aload_n 0, 1) := by decide +kernel
theorem d_Packet_add_5 : decode b_Packet_add 5 = .ok (.getfield 7, 3) := by decide +kernel
theorem d_Packet_add_8 : decode b_Packet_add 8 = .ok (.arraylength, 1) := by decide +kernel
theorem d_Packet_add_9 : decode b_Packet_add 9 = .ok (.if_icmp .ge 13, 3) := by decide +kernel
theorem d_Packet_add_12 : decode b_Packet_add 12 = .ok (.aload_n 0, 1) := by decide +kernel
theorem d_Packet_add_13 : decode b_Packet_add 13 = .ok (.getfield 7, 3) := by decide +kernel
theorem d_Packet_add_16 : decode b_Packet_add 16 = .ok (.aload_n 0, 1) := by decide +kernel
theorem d_Packet_add_17 : decode b_Packet_add 17 = .ok (.getfield 13, 3) := by decide +kernel
theorem d_Packet_add_20 : decode b_Packet_add 20 = .ok (.iload_n 1, 1) := by decide +kernel
theorem d_Packet_add_21 : decode b_Packet_add 21 = .ok (.iastore, 1) := by decide +kernel
theorem d_Packet_add_22 : decode b_Packet_add 22 = .ok (.aload_n 0, 1) := by decide +kernel
theorem d_Packet_add_23 : decode b_Packet_add 23 = .ok (.dup, 1) := by decide +kernel
theorem d_Packet_add_24 : decode b_Packet_add 24 = .ok (.getfield 13, 3) := by decide +kernel
theorem d_Packet_add_27 : decode b_Packet_add 27 = .ok (.iconst 1, 1) := by decide +kernel
theorem d_Packet_add_28 : decode b_Packet_add 28 = .ok (.iadd, 1) := by decide +kernel
theorem d_Packet_add_29 : decode b_Packet_add 29 = .ok (.putfield 13, 3) := by decide +kernel
theorem d_Packet_add_32 : decode b_Packet_add 32 = .ok (.return_, 1) := by decide +kernel
theorem d_Packet_at_0 : decode b_Packet_at 0 = .ok (.iload_n 1, 1) := by decide +kernel
theorem d_Packet_at_1 : decode b_Packet_at 1 = .ok (.ifCond .lt 29, 3) := by decide +kernel
theorem d_Packet_at_4 : decode b_Packet_at 4 = .ok (.iload_n 1, 1) := by decide +kernel
theorem d_Packet_at_5 : decode b_Packet_at 5 = .ok (.aload_n 0, 1) := by decide +kernel
theorem d_Packet_at_6 : decode b_Packet_at 6 = .ok (.getfield 13, 3) := by decide +kernel
theorem d_Packet_at_9 : decode b_Packet_at 9 = .ok (.if_icmp .ge 21, 3) := by decide +kernel
theorem d_Packet_at_12 : decode b_Packet_at 12 = .ok (.iload_n 1, 1) := by decide +kernel
theorem d_Packet_at_13 : decode b_Packet_at 13 = .ok (.aload_n 0, 1) := by decide +kernel
theorem d_Packet_at_14 : decode b_Packet_at 14 = .ok (.getfield 7, 3) := by decide +kernel
theorem d_Packet_at_17 : decode b_Packet_at 17 = .ok (.arraylength, 1) := by decide +kernel
theorem d_Packet_at_18 : decode b_Packet_at 18 = .ok (.if_icmp .ge 12, 3) := by decide +kernel
theorem d_Packet_at_21 : decode b_Packet_at 21 = .ok (.aload_n 0, 1) := by decide +kernel
theorem d_Packet_at_22 : decode b_Packet_at 22 = .ok (.getfield 7, 3) := by decide +kernel
theorem d_Packet_at_25 : decode b_Packet_at 25 = .ok (.iload_n 1, 1) := by decide +kernel
theorem d_Packet_at_26 : decode b_Packet_at 26 = .ok (.iaload, 1) := by decide +kernel
theorem d_Packet_at_27 : decode b_Packet_at 27 = .ok (.goto 4, 3) := by decide +kernel
theorem d_Packet_at_30 : decode b_Packet_at 30 = .ok (.iconst 0, 1) := by decide +kernel
theorem d_Packet_at_31 : decode b_Packet_at 31 = .ok (.ireturn, 1) := by decide +kernel
theorem d_Packet_check_0 : decode b_Packet_check 0 = .ok (.iconst 0, 1) := by decide +kernel
theorem d_Packet_check_1 : decode b_Packet_check 1 = .ok (.istore_n 3, 1) := by decide +kernel
theorem d_Packet_check_2 : decode b_Packet_check 2 = .ok (.iconst 0, 1) := by decide +kernel
theorem d_Packet_check_3 : decode b_Packet_check 3 = .ok (.istore 4, 2) := by decide +kernel
theorem d_Packet_check_5 : decode b_Packet_check 5 = .ok (.iload 4, 2) := by decide +kernel
theorem d_Packet_check_7 : decode b_Packet_check 7 = .ok (.iload_n 2, 1) := by decide +kernel
theorem d_Packet_check_8 : decode b_Packet_check 8 = .ok (.if_icmp .ge 57, 3) := by decide +kernel
theorem d_Packet_check_11 : decode b_Packet_check 11 = .ok (.iload_n 3, 1) := by decide +kernel
theorem d_Packet_check_12 : decode b_Packet_check 12 = .ok (.aload_n 0, 1) := by decide +kernel
theorem d_Packet_check_13 : decode b_Packet_check 13 = .ok (.iload_n 1, 1) := by decide +kernel
theorem d_Packet_check_14 : decode b_Packet_check 14 = .ok (.iload 4, 2) := by decide +kernel
theorem d_Packet_check_16 : decode b_Packet_check 16 = .ok (.iadd, 1) := by decide +kernel
theorem d_Packet_check_17 : decode b_Packet_check 17 = .ok (.invokevirtual 17, 3) := by decide +kernel
theorem d_Packet_check_20 : decode b_Packet_check 20 = .ok (.ixor, 1) := by decide +kernel
theorem d_Packet_check_21 : decode b_Packet_check 21 = .ok (.istore_n 3, 1) := by decide +kernel
theorem d_Packet_check_22 : decode b_Packet_check 22 = .ok (.iconst 0, 1) := by decide +kernel
theorem d_Packet_check_23 : decode b_Packet_check 23 = .ok (.istore 5, 2) := by decide +kernel
theorem d_Packet_check_25 : decode b_Packet_check 25 = .ok (.iload 5, 2) := by decide +kernel
theorem d_Packet_check_27 : decode b_Packet_check 27 = .ok (.bipush 8, 2) := by decide +kernel
theorem d_Packet_check_29 : decode b_Packet_check 29 = .ok (.if_icmp .ge 30, 3) := by decide +kernel
theorem d_Packet_check_32 : decode b_Packet_check 32 = .ok (.iload_n 3, 1) := by decide +kernel
theorem d_Packet_check_33 : decode b_Packet_check 33 = .ok (.iconst 1, 1) := by decide +kernel
theorem d_Packet_check_34 : decode b_Packet_check 34 = .ok (.iand, 1) := by decide +kernel
theorem d_Packet_check_35 : decode b_Packet_check 35 = .ok (.iconst 1, 1) := by decide +kernel
theorem d_Packet_check_36 : decode b_Packet_check 36 = .ok (.if_icmp .ne 13, 3) := by decide +kernel
theorem d_Packet_check_39 : decode b_Packet_check 39 = .ok (.iload_n 3, 1) := by decide +kernel
theorem d_Packet_check_40 : decode b_Packet_check 40 = .ok (.iconst 1, 1) := by decide +kernel
theorem d_Packet_check_41 : decode b_Packet_check 41 = .ok (.ishr, 1) := by decide +kernel
theorem d_Packet_check_42 : decode b_Packet_check 42 = .ok (.sipush 224, 3) := by decide +kernel
theorem d_Packet_check_45 : decode b_Packet_check 45 = .ok (.ixor, 1) := by decide +kernel
theorem d_Packet_check_46 : decode b_Packet_check 46 = .ok (.goto 6, 3) := by decide +kernel
theorem d_Packet_check_49 : decode b_Packet_check 49 = .ok (.iload_n 3, 1) := by decide +kernel
theorem d_Packet_check_50 : decode b_Packet_check 50 = .ok (.iconst 1, 1) := by decide +kernel
theorem d_Packet_check_51 : decode b_Packet_check 51 = .ok (.ishr, 1) := by decide +kernel
theorem d_Packet_check_52 : decode b_Packet_check 52 = .ok (.istore_n 3, 1) := by decide +kernel
theorem d_Packet_check_53 : decode b_Packet_check 53 = .ok (.iinc 5 1, 3) := by decide +kernel
theorem d_Packet_check_56 : decode b_Packet_check 56 = .ok (.goto (-31), 3) := by decide +kernel
theorem d_Packet_check_59 : decode b_Packet_check 59 = .ok (.iinc 4 1, 3) := by decide +kernel
theorem d_Packet_check_62 : decode b_Packet_check 62 = .ok (.goto (-57), 3) := by decide +kernel
theorem d_Packet_check_65 : decode b_Packet_check 65 = .ok (.iload_n 3, 1) := by decide +kernel
theorem d_Packet_check_66 : decode b_Packet_check 66 = .ok (.ireturn, 1) := by decide +kernel
theorem d_Outlet_size_0 : decode b_Outlet_size 0 = .ok (.aload_n 0, 1) := by decide +kernel
theorem d_Outlet_size_1 : decode b_Outlet_size 1 = .ok (.getfield 14, 3) := by decide +kernel
theorem d_Outlet_size_4 : decode b_Outlet_size 4 = .ok (.getfield 20, 3) := by decide +kernel
theorem d_Outlet_size_7 : decode b_Outlet_size 7 = .ok (.ireturn, 1) := by decide +kernel
theorem d_Outlet_free_0 : decode b_Outlet_free 0 = .ok (.aload_n 0, 1) := by decide +kernel
theorem d_Outlet_free_1 : decode b_Outlet_free 1 = .ok (.getfield 14, 3) := by decide +kernel
theorem d_Outlet_free_4 : decode b_Outlet_free 4 = .ok (.invokevirtual 24, 3) := by decide +kernel
theorem d_Outlet_free_7 : decode b_Outlet_free 7 = .ok (.ireturn, 1) := by decide +kernel
theorem d_Outlet_accept_0 : decode b_Outlet_accept 0 = .ok (.aload_n 0, 1) := by decide +kernel
theorem d_Outlet_accept_1 : decode b_Outlet_accept 1 = .ok (.getfield 28, 3) := by decide +kernel
theorem d_Outlet_accept_4 : decode b_Outlet_accept 4 = .ok (.ifCond .eq 14, 3) := by decide +kernel
theorem d_Outlet_accept_7 : decode b_Outlet_accept 7 = .ok (.aload_n 0, 1) := by decide +kernel
theorem d_Outlet_accept_8 : decode b_Outlet_accept 8 = .ok (.iload_n 1, 1) := by decide +kernel
theorem d_Outlet_accept_9 : decode b_Outlet_accept 9 = .ok (.invokestatic 32, 3) := by decide +kernel
theorem d_Outlet_accept_12 : decode b_Outlet_accept 12 = .ok (.putfield 28, 3) := by decide +kernel
theorem d_Outlet_accept_15 : decode b_Outlet_accept 15 = .ok (.goto 11, 3) := by decide +kernel
theorem d_Outlet_accept_18 : decode b_Outlet_accept 18 = .ok (.aload_n 0, 1) := by decide +kernel
theorem d_Outlet_accept_19 : decode b_Outlet_accept 19 = .ok (.getfield 14, 3) := by decide +kernel
theorem d_Outlet_accept_22 : decode b_Outlet_accept 22 = .ok (.iload_n 1, 1) := by decide +kernel
theorem d_Outlet_accept_23 : decode b_Outlet_accept 23 = .ok (.invokevirtual 36, 3) := by decide +kernel
theorem d_Outlet_accept_26 : decode b_Outlet_accept 26 = .ok (.return_, 1) := by decide +kernel
theorem d_Outlet_acceptAll_0 : decode b_Outlet_acceptAll 0 = .ok (.iconst 0, 1) := by decide +kernel
theorem d_Outlet_acceptAll_1 : decode b_Outlet_acceptAll 1 = .ok (.istore_n 2, 1) := by decide +kernel
theorem d_Outlet_acceptAll_2 : decode b_Outlet_acceptAll 2 = .ok (.iload_n 2, 1) := by decide +kernel
theorem d_Outlet_acceptAll_3 : decode b_Outlet_acceptAll 3 = .ok (.aload_n 1, 1) := by decide +kernel
theorem d_Outlet_acceptAll_4 : decode b_Outlet_acceptAll 4 = .ok (.getfield 39, 3) := by decide +kernel
theorem d_Outlet_acceptAll_7 : decode b_Outlet_acceptAll 7 = .ok (.if_icmp .ge 18, 3) := by decide +kernel
theorem d_Outlet_acceptAll_10 : decode b_Outlet_acceptAll 10 = .ok (.aload_n 0, 1) := by decide +kernel
theorem d_Outlet_acceptAll_11 : decode b_Outlet_acceptAll 11 = .ok (.aload_n 1, 1) := by decide +kernel
theorem d_Outlet_acceptAll_12 : decode b_Outlet_acceptAll 12 = .ok (.iload_n 2, 1) := by decide +kernel
theorem d_Outlet_acceptAll_13 : decode b_Outlet_acceptAll 13 = .ok (.invokevirtual 44, 3) := by decide +kernel
theorem d_Outlet_acceptAll_16 : decode b_Outlet_acceptAll 16 = .ok (.invokevirtual 48, 3) := by decide +kernel
theorem d_Outlet_acceptAll_19 : decode b_Outlet_acceptAll 19 = .ok (.iinc 2 1, 3) := by decide +kernel
theorem d_Outlet_acceptAll_22 : decode b_Outlet_acceptAll 22 = .ok (.goto (-20), 3) := by decide +kernel
theorem d_Outlet_acceptAll_25 : decode b_Outlet_acceptAll 25 = .ok (.return_, 1) := by decide +kernel
theorem d_Outlet_removeFirst_0 : decode b_Outlet_removeFirst 0 = .ok (.aload_n 0, 1) := by decide +kernel
theorem d_Outlet_removeFirst_1 : decode b_Outlet_removeFirst 1 = .ok (.getfield 14, 3) := by decide +kernel
theorem d_Outlet_removeFirst_4 : decode b_Outlet_removeFirst 4 = .ok (.invokevirtual 51, 3) := by decide +kernel
theorem d_Outlet_removeFirst_7 : decode b_Outlet_removeFirst 7 = .ok (.istore_n 1, 1) := by decide +kernel
theorem d_Outlet_removeFirst_8 : decode b_Outlet_removeFirst 8 = .ok (.aload_n 0, 1) := by decide +kernel
theorem d_Outlet_removeFirst_9 : decode b_Outlet_removeFirst 9 = .ok (.iload_n 1, 1) := by decide +kernel
theorem d_Outlet_removeFirst_10 : decode b_Outlet_removeFirst 10 = .ok (.invokestatic 32, 3) := by decide +kernel
theorem d_Outlet_removeFirst_13 : decode b_Outlet_removeFirst 13 = .ok (.putfield 54, 3) := by decide +kernel
theorem d_Outlet_removeFirst_16 : decode b_Outlet_removeFirst 16 = .ok (.iload_n 1, 1) := by decide +kernel
theorem d_Outlet_removeFirst_17 : decode b_Outlet_removeFirst 17 = .ok (.ireturn, 1) := by decide +kernel
theorem d_Outlet_breakOff_0 : decode b_Outlet_breakOff 0 = .ok (.aload_n 0, 1) := by decide +kernel
theorem d_Outlet_breakOff_1 : decode b_Outlet_breakOff 1 = .ok (.getfield 54, 3) := by decide +kernel
theorem d_Outlet_breakOff_4 : decode b_Outlet_breakOff 4 = .ok (.ifCond .ne 4, 3) := by decide +kernel
theorem d_Outlet_breakOff_7 : decode b_Outlet_breakOff 7 = .ok (.return_, 1) := by decide +kernel
theorem d_Outlet_breakOff_8 : decode b_Outlet_breakOff 8 = .ok (.aload_n 0, 1) := by decide +kernel
theorem d_Outlet_breakOff_9 : decode b_Outlet_breakOff 9 = .ok (.iconst 0, 1) := by decide +kernel
theorem d_Outlet_breakOff_10 : decode b_Outlet_breakOff 10 = .ok (.putfield 54, 3) := by decide +kernel
theorem d_Outlet_breakOff_13 : decode b_Outlet_breakOff 13 = .ok (.aload_n 0, 1) := by decide +kernel
theorem d_Outlet_breakOff_14 : decode b_Outlet_breakOff 14 = .ok (.iconst 1, 1) := by decide +kernel
theorem d_Outlet_breakOff_15 : decode b_Outlet_breakOff 15 = .ok (.putfield 28, 3) := by decide +kernel
theorem d_Outlet_breakOff_18 : decode b_Outlet_breakOff 18 = .ok (.aload_n 0, 1) := by decide +kernel
theorem d_Outlet_breakOff_19 : decode b_Outlet_breakOff 19 = .ok (.getfield 14, 3) := by decide +kernel
theorem d_Outlet_breakOff_22 : decode b_Outlet_breakOff 22 = .ok (.getfield 20, 3) := by decide +kernel
theorem d_Outlet_breakOff_25 : decode b_Outlet_breakOff 25 = .ok (.istore_n 1, 1) := by decide +kernel
theorem d_Outlet_breakOff_26 : decode b_Outlet_breakOff 26 = .ok (.iload_n 1, 1) := by decide +kernel
theorem d_Outlet_breakOff_27 : decode b_Outlet_breakOff 27 = .ok (.ifCond .le 30, 3) := by decide +kernel
theorem d_Outlet_breakOff_30 : decode b_Outlet_breakOff 30 = .ok (.aload_n 0, 1) := by decide +kernel
theorem d_Outlet_breakOff_31 : decode b_Outlet_breakOff 31 = .ok (.getfield 28, 3) := by decide +kernel
theorem d_Outlet_breakOff_34 : decode b_Outlet_breakOff 34 = .ok (.ifCond .eq 23, 3) := by decide +kernel
theorem d_Outlet_breakOff_37 : decode b_Outlet_breakOff 37 = .ok (.aload_n 0, 1) := by decide +kernel
theorem d_Outlet_breakOff_38 : decode b_Outlet_breakOff 38 = .ok (.aload_n 0, 1) := by decide +kernel
theorem d_Outlet_breakOff_39 : decode b_Outlet_breakOff 39 = .ok (.getfield 14, 3) := by decide +kernel
theorem d_Outlet_breakOff_42 : decode b_Outlet_breakOff 42 = .ok (.invokevirtual 51, 3) := by decide +kernel
theorem d_Outlet_breakOff_45 : decode b_Outlet_breakOff 45 = .ok (.invokestatic 32, 3) := by decide +kernel
theorem d_Outlet_breakOff_48 : decode b_Outlet_breakOff 48 = .ok (.putfield 28, 3) := by decide +kernel
theorem d_Outlet_breakOff_51 : decode b_Outlet_breakOff 51 = .ok (.iinc 1 (-1), 3) := by decide +kernel
theorem d_Outlet_breakOff_54 : decode b_Outlet_breakOff 54 = .ok (.goto (-28), 3) := by decide +kernel
theorem d_Outlet_breakOff_57 : decode b_Outlet_breakOff 57 = .ok (.return_, 1) := by decide +kernel
def s_Inlet_size (L : List Int32) : Int32 := nI L.length
abbrev rm_Inlet_size : Room := { frames := 0, cells := 0, slots := 0, locals := 0 }
set_option maxHeartbeats 4000000 in
set_option maxRecDepth 100000 in
theorem c_Inlet_size {l : Launch} {D : va_G} {cI cZ : ClassId} (L : List Int32) (h0 : Nat) (q : Nat) (a : Nat) (f : Nat → Int32) (i : Nat) (o : Int32) (hR : Rep 25 f i L) (sz : Nat) : Met l y_Inlet_size (w_Inlet_size) rm_Inlet_size (va_Pc [.ref h0] (xPre xNs D vwCl cI cZ [(h0, .inr (1, [.ref q, .int o])), (q, .inr (0, [.ref a, .int (nI i), .int (nI L.length)])), (a, .inl (cI, 25, .inl f))] sz)) (va_Qi (fun (r : Int32) (u : Unit) => r = s_Inlet_size L) (fun u t9 => xAt D vwCl (va_A [(h0, .inr (1, [.ref q, .int o])), (q, .inr (0, [.ref a, .int (nI i), .int (nI L.length)])), (a, .inl (cI, 25, .inl f))] sz) [(h0, .inr (1, [.ref q, .int o])), (q, .inr (0, [.ref a, .int (nI i), .int (nI L.length)])), (a, .inl (cI, 25, .inl f))] t9) (va_A [(h0, .inr (1, [.ref q, .int o])), (q, .inr (0, [.ref a, .int (nI i), .int (nI L.length)])), (a, .inl (cI, 25, .inl f))] sz)) 0 0 (va_A [(h0, .inr (1, [.ref q, .int o])), (q, .inr (0, [.ref a, .int (nI i), .int (nI L.length)])), (a, .inl (cI, 25, .inl f))] sz) := by
  refine xBody_i (S := Unit) (cc := b_Inlet_size) (maxL := 1) (by decide) rfl (Nat.le_of_ble_eq_true rfl) ?_
  intro p e s m args below meth c A H ls Q hx hb hml hin hts hown hP hD hK hN hS hA hl hret
  replace hl : lv_has ls 1 [(0, .ref h0)] := hl
  have hin_Inlet : ∀ w ∈ u_ws R_Inlet F_Inlet 2, w ∈ (w_Inlet_size) := (fun w h => xm (lay_Inlet w h))
  have hin_Row : ∀ w ∈ u_ws R_Row F_Row 3, w ∈ (w_Inlet_size) := (fun w h => xm (lay_Row w h))
  have hq : s_Inlet_size L = (nI L.length) := rfl
  refine lv_aload_n hx hb d_Inlet_size_0 rfl (lv_at hl 0 rfl) ?_
  refine va_get (D := D) (ci := 1) (v := .ref q) (C := R_Inlet) (T := F_Inlet) (N := 2) hx hb hts hin_Inlet hown hK hP 0 rfl rfl 0 (by decide) (hts _ (xm ww_49)) (fun _ h9 => h9) rfl d_Inlet_size_1 ?_
  refine va_getN (D := D) (ci := 0) (v := .int (nI L.length)) (C := R_Row) (T := F_Row) (N := 3) hx hb hts hin_Row hown hK hP 1 rfl rfl 2 (by decide) (hN.use wn_38) (fun _ h9 => h9) rfl d_Inlet_size_4 ?_
  exact hret (nI L.length) () hq.symm _ _ _ _ hP hD hS d_Inlet_size_7

def s_Inlet_receive (L : List Int32) (c_ : Int32) : List Int32 × Int32 := bnd (s_Row_append 25 L c_) (fun L1 => (L1, s_MemoryLink_isData c_))
abbrev rm_Inlet_receive : Room := { frames := 2, cells := 0, slots := 0, locals := 42 }
set_option maxHeartbeats 4000000 in
set_option maxRecDepth 100000 in
theorem c_Inlet_receive {l : Launch} {D : va_G} {cI cZ : ClassId} (L : List Int32) (c_ : Int32) (h0 : Nat) (q : Nat) (a : Nat) (f : Nat → Int32) (i : Nat) (o : Int32) (hR : Rep 25 f i L) (sz : Nat) : Met l y_Inlet_receive (w_Inlet_receive) rm_Inlet_receive (va_Pc [.ref h0, .int c_] (xPre xNs D vwCl cI cZ [(h0, .inr (1, [.ref q, .int o])), (q, .inr (0, [.ref a, .int (nI i), .int (nI L.length)])), (a, .inl (cI, 25, .inl f))] sz)) (va_Qv (fun (u : List Int32 × Int32 × (Nat → Int32)) => (u.1, u.2.1) = s_Inlet_receive L c_ ∧ Rep 25 u.2.2 i u.1) (fun u t9 => xAt D vwCl (va_A [(h0, .inr (1, [.ref q, .int o])), (q, .inr (0, [.ref a, .int (nI i), .int (nI L.length)])), (a, .inl (cI, 25, .inl f))] sz) [(h0, .inr (1, [.ref q, .int u.2.1])), (q, .inr (0, [.ref a, .int (nI i), .int (nI u.1.length)])), (a, .inl (cI, 25, .inl u.2.2))] t9) (va_A [(h0, .inr (1, [.ref q, .int o])), (q, .inr (0, [.ref a, .int (nI i), .int (nI L.length)])), (a, .inl (cI, 25, .inl f))] sz)) 0 0 (va_A [(h0, .inr (1, [.ref q, .int o])), (q, .inr (0, [.ref a, .int (nI i), .int (nI L.length)])), (a, .inl (cI, 25, .inl f))] sz) := by
  refine xBody_v (S := List Int32 × Int32 × (Nat → Int32)) (cc := b_Inlet_receive) (maxL := 2) (by decide) rfl (Nat.le_of_ble_eq_true rfl) ?_
  intro p e s m args below meth c A H ls Q hx hb hml hin hts hown hP hD hK hN hS hA hl hret
  replace hl : lv_has ls 2 [(0, .ref h0), (1, .int c_)] := hl
  have hin_Inlet : ∀ w ∈ u_ws R_Inlet F_Inlet 2, w ∈ (w_Inlet_receive) := (fun w h => xm (lay_Inlet w h))
  have hq : s_Inlet_receive L c_ = (bnd (s_Row_append 25 L c_) (fun L1 => (L1, s_MemoryLink_isData c_))) := rfl
  refine lv_aload_n hx hb d_Inlet_receive_0 rfl (lv_at hl 0 rfl) ?_
  refine va_get (D := D) (ci := 1) (v := .ref q) (C := R_Inlet) (T := F_Inlet) (N := 2) hx hb hts hin_Inlet hown hK hP 0 rfl rfl 0 (by decide) (hts _ (xm ww_49)) (fun _ h9 => h9) rfl d_Inlet_receive_1 ?_
  refine lv_iload_n hx hb d_Inlet_receive_4 rfl (lv_at hl 1 rfl) ?_
  refine xcall_v (wc := [(q, .inr (0, [.ref a, .int (nI i), .int (nI L.length)])), (a, .inl (cI, 25, .inl f))]) (wr := [(h0, .inr (1, [.ref q, .int o]))]) (ws1 := fun (u : List Int32 × (Nat → Int32)) => [(h0, .inr (1, [.ref q, .int o])), (q, .inr (0, [.ref a, .int (nI i), .int (nI u.1.length)])), (a, .inl (cI, 25, .inl u.2))]) (va_runV (As := [.int c_]) (rest := []) ⟨hx, hb, hml, hown, hts⟩ (c_Row_append 25 L c_ q a f i hR H.size) (xcwV 1 hts ww_260 ww_257 ww_258 ww_259 ww_4 (by decide +kernel) rfl rfl ⟨Nat.le_of_ble_eq_true rfl, Nat.le_of_ble_eq_true rfl⟩) (xPreV (ci := 0) (q0 := 0) (q := (R_Row, F_Row, 3)) (hP.sub [1, 2] rfl) (hD.sub [1, 2] (by decide) rfl) hK hN rfl rfl rfl) rfl rfl hl.1 rfl (lv_room (Nat.le_of_ble_eq_true rfl)) d_Inlet_receive_5 ⟨Nat.le_of_ble_eq_true rfl, Nat.le_of_ble_eq_true rfl⟩) hP hD hS hA [1, 2] [0] [0, 1, 2] rfl rfl (by decide) (by decide) (by decide) (fun _ => rfl) (fun u1 H locs hw hP hD hS => ?_)
  obtain ⟨L1, f1⟩ := u1
  obtain ⟨hw, hR_1⟩ := hw
  replace hP : va_P D vwCl [(h0, .inr (1, [.ref q, .int o])), (q, .inr (0, [.ref a, .int (nI i), .int (nI L1.length)])), (a, .inl (cI, 25, .inl f1))] H := hP
  replace hD : va_D A [(h0, .inr (1, [.ref q, .int o])), (q, .inr (0, [.ref a, .int (nI i), .int (nI L1.length)])), (a, .inl (cI, 25, .inl f1))] := hD
  have hw_1 := hw
  replace hq := hq.trans (bnd_eq hw)
  try dsimp only at hq
  refine lv_aload_n hx hb d_Inlet_receive_8 rfl (lv_at hl 0 rfl) ?_
  refine lv_iload_n hx hb d_Inlet_receive_9 rfl (lv_at hl 1 rfl) ?_
  refine xcall_i (wc := []) (wr := [(h0, .inr (1, [.ref q, .int o])), (q, .inr (0, [.ref a, .int (nI i), .int (nI L1.length)])), (a, .inl (cI, 25, .inl f1))]) (ws1 := fun (u : Unit) => [(h0, .inr (1, [.ref q, .int o])), (q, .inr (0, [.ref a, .int (nI i), .int (nI L1.length)])), (a, .inl (cI, 25, .inl f1))]) (va_runSN (As := [.int c_]) (rest := [.ref h0]) ⟨hx, hb, hml, hown, hts⟩ (c_MemoryLink_isData c_ H.size) (xcnS 1 hts hN ww_267 wn_265 ww_266 ww_1 (by decide +kernel) rfl rfl ⟨Nat.le_of_ble_eq_true rfl, Nat.le_of_ble_eq_true rfl⟩) (xPreS (hP.sub [] rfl) (hD.sub [] (by decide) rfl) hK hN) rfl rfl hl.1 rfl (lv_room (Nat.le_of_ble_eq_true rfl)) d_Inlet_receive_10 ⟨Nat.le_of_ble_eq_true rfl, Nat.le_of_ble_eq_true rfl⟩) hP hD hS hA [] [0, 1, 2] [0, 1, 2] rfl rfl (by decide) (by decide) (by decide) (fun _ => rfl) (fun r2 u2 H locs hw hP hD hS => ?_)
  obtain ⟨hw, hbr_2⟩ := hw
  subst hw
  replace hP : va_P D vwCl [(h0, .inr (1, [.ref q, .int o])), (q, .inr (0, [.ref a, .int (nI i), .int (nI L1.length)])), (a, .inl (cI, 25, .inl f1))] H := hP
  replace hD : va_D A [(h0, .inr (1, [.ref q, .int o])), (q, .inr (0, [.ref a, .int (nI i), .int (nI L1.length)])), (a, .inl (cI, 25, .inl f1))] := hD
  refine va_put (D := D) (ci := 1) (v := .int (s_MemoryLink_isData c_)) (ty := (.boolean)) (C := R_Inlet) (T := F_Inlet) (N := 2) hx hb hts hin_Inlet t_Inlet t_Inlet_ok n_Inlet hown hK hP hD hS 0 rfl rfl 1 (by decide) (hts _ (xm ww_50)) (fun _ h9 => h9) rfl (by decide +kernel) (xB_n hbr_2) (xB_f hbr_2) (Nat.le_of_ble_eq_true rfl) d_Inlet_receive_13 (fun H locs hP hD hS => ?_)
  replace hP : va_P D vwCl [(h0, .inr (1, [.ref q, .int (s_MemoryLink_isData c_)])), (q, .inr (0, [.ref a, .int (nI i), .int (nI L1.length)])), (a, .inl (cI, 25, .inl f1))] H := hP
  replace hD : va_D A [(h0, .inr (1, [.ref q, .int (s_MemoryLink_isData c_)])), (q, .inr (0, [.ref a, .int (nI i), .int (nI L1.length)])), (a, .inl (cI, 25, .inl f1))] := hD
  exact hret (L1, s_MemoryLink_isData c_, f1) ⟨hq.symm, hR_1⟩ _ _ _ _ hP hD hS d_Inlet_receive_16

def s_Inlet_removeFirst (L : List Int32) : Int32 × List Int32 := bnd2 (s_Row_removeFirst L) (fun r1 L1 => (r1, L1))
abbrev rm_Inlet_removeFirst : Room := { frames := 2, cells := 0, slots := 0, locals := 42 }
set_option maxHeartbeats 4000000 in
set_option maxRecDepth 100000 in
theorem c_Inlet_removeFirst {l : Launch} {D : va_G} {cI cZ : ClassId} (L : List Int32) (h0 : Nat) (q : Nat) (a : Nat) (f : Nat → Int32) (i : Nat) (o : Int32) (hR : Rep 25 f i L) (sz : Nat) : Met l y_Inlet_removeFirst (w_Inlet_removeFirst) rm_Inlet_removeFirst (va_Pc [.ref h0] (xPre xNs D vwCl cI cZ [(h0, .inr (1, [.ref q, .int o])), (q, .inr (0, [.ref a, .int (nI i), .int (nI L.length)])), (a, .inl (cI, 25, .inl f))] sz)) (va_Qi (fun (r : Int32) (u : List Int32 × Nat) => (r, u.1) = s_Inlet_removeFirst L ∧ Rep 25 f u.2 u.1) (fun u t9 => xAt D vwCl (va_A [(h0, .inr (1, [.ref q, .int o])), (q, .inr (0, [.ref a, .int (nI i), .int (nI L.length)])), (a, .inl (cI, 25, .inl f))] sz) [(h0, .inr (1, [.ref q, .int o])), (q, .inr (0, [.ref a, .int (nI u.2), .int (nI u.1.length)])), (a, .inl (cI, 25, .inl f))] t9) (va_A [(h0, .inr (1, [.ref q, .int o])), (q, .inr (0, [.ref a, .int (nI i), .int (nI L.length)])), (a, .inl (cI, 25, .inl f))] sz)) 0 0 (va_A [(h0, .inr (1, [.ref q, .int o])), (q, .inr (0, [.ref a, .int (nI i), .int (nI L.length)])), (a, .inl (cI, 25, .inl f))] sz) := by
  refine xBody_i (S := List Int32 × Nat) (cc := b_Inlet_removeFirst) (maxL := 1) (by decide) rfl (Nat.le_of_ble_eq_true rfl) ?_
  intro p e s m args below meth c A H ls Q hx hb hml hin hts hown hP hD hK hN hS hA hl hret
  replace hl : lv_has ls 1 [(0, .ref h0)] := hl
  have hin_Inlet : ∀ w ∈ u_ws R_Inlet F_Inlet 2, w ∈ (w_Inlet_removeFirst) := (fun w h => xm (lay_Inlet w h))
  have hq : s_Inlet_removeFirst L = (bnd2 (s_Row_removeFirst L) (fun r1 L1 => (r1, L1))) := rfl
  refine lv_aload_n hx hb d_Inlet_removeFirst_0 rfl (lv_at hl 0 rfl) ?_
  refine va_get (D := D) (ci := 1) (v := .ref q) (C := R_Inlet) (T := F_Inlet) (N := 2) hx hb hts hin_Inlet hown hK hP 0 rfl rfl 0 (by decide) (hts _ (xm ww_49)) (fun _ h9 => h9) rfl d_Inlet_removeFirst_1 ?_
  refine xcall_i (wc := [(q, .inr (0, [.ref a, .int (nI i), .int (nI L.length)])), (a, .inl (cI, 25, .inl f))]) (wr := [(h0, .inr (1, [.ref q, .int o]))]) (ws1 := fun (u : List Int32 × Nat) => [(h0, .inr (1, [.ref q, .int o])), (q, .inr (0, [.ref a, .int (nI u.2), .int (nI u.1.length)])), (a, .inl (cI, 25, .inl f))]) (va_runV (As := []) (rest := []) ⟨hx, hb, hml, hown, hts⟩ (c_Row_removeFirst L 25 q a f i hR H.size) (xcwV 0 hts ww_287 ww_362 ww_285 ww_286 ww_4 (by decide +kernel) rfl rfl ⟨Nat.le_of_ble_eq_true rfl, Nat.le_of_ble_eq_true rfl⟩) (xPreV (ci := 0) (q0 := 0) (q := (R_Row, F_Row, 3)) (hP.sub [1, 2] rfl) (hD.sub [1, 2] (by decide) rfl) hK hN rfl rfl rfl) rfl rfl hl.1 rfl (lv_room (Nat.le_of_ble_eq_true rfl)) d_Inlet_removeFirst_4 ⟨Nat.le_of_ble_eq_true rfl, Nat.le_of_ble_eq_true rfl⟩) hP hD hS hA [1, 2] [0] [0, 1, 2] rfl rfl (by decide) (by decide) (by decide) (fun _ => rfl) (fun r1 u1 H locs hw hP hD hS => ?_)
  obtain ⟨L1, i1⟩ := u1
  obtain ⟨hw, hR_1⟩ := hw
  replace hP : va_P D vwCl [(h0, .inr (1, [.ref q, .int o])), (q, .inr (0, [.ref a, .int (nI i1), .int (nI L1.length)])), (a, .inl (cI, 25, .inl f))] H := hP
  replace hD : va_D A [(h0, .inr (1, [.ref q, .int o])), (q, .inr (0, [.ref a, .int (nI i1), .int (nI L1.length)])), (a, .inl (cI, 25, .inl f))] := hD
  have hw_1 := hw
  replace hq := hq.trans (bnd2_eq hw)
  try dsimp only at hq
  exact hret r1 (L1, i1) ⟨hq.symm, hR_1⟩ _ _ _ _ hP hD hS d_Inlet_removeFirst_7

def s_Inlet_breakOff (L : List Int32) (o : Int32) : List Int32 × Int32 := if o = 0 then (L, o) else (bnd (s_Row_append 25 L 257) (fun L2 => (L2, 0)))
abbrev rm_Inlet_breakOff : Room := { frames := 2, cells := 0, slots := 0, locals := 42 }
set_option maxHeartbeats 4000000 in
set_option maxRecDepth 100000 in
theorem c_Inlet_breakOff {l : Launch} {D : va_G} {cI cZ : ClassId} (L : List Int32) (o : Int32) (h0 : Nat) (q : Nat) (a : Nat) (f : Nat → Int32) (i : Nat) (hR : Rep 25 f i L) (sz : Nat) : Met l y_Inlet_breakOff (w_Inlet_breakOff) rm_Inlet_breakOff (va_Pc [.ref h0] (xPre xNs D vwCl cI cZ [(h0, .inr (1, [.ref q, .int o])), (q, .inr (0, [.ref a, .int (nI i), .int (nI L.length)])), (a, .inl (cI, 25, .inl f))] sz)) (va_Qv (fun (u : List Int32 × Int32 × (Nat → Int32)) => (u.1, u.2.1) = s_Inlet_breakOff L o ∧ Rep 25 u.2.2 i u.1) (fun u t9 => xAt D vwCl (va_A [(h0, .inr (1, [.ref q, .int o])), (q, .inr (0, [.ref a, .int (nI i), .int (nI L.length)])), (a, .inl (cI, 25, .inl f))] sz) [(h0, .inr (1, [.ref q, .int u.2.1])), (q, .inr (0, [.ref a, .int (nI i), .int (nI u.1.length)])), (a, .inl (cI, 25, .inl u.2.2))] t9) (va_A [(h0, .inr (1, [.ref q, .int o])), (q, .inr (0, [.ref a, .int (nI i), .int (nI L.length)])), (a, .inl (cI, 25, .inl f))] sz)) 0 0 (va_A [(h0, .inr (1, [.ref q, .int o])), (q, .inr (0, [.ref a, .int (nI i), .int (nI L.length)])), (a, .inl (cI, 25, .inl f))] sz) := by
  refine xBody_v (S := List Int32 × Int32 × (Nat → Int32)) (cc := b_Inlet_breakOff) (maxL := 1) (by decide) rfl (Nat.le_of_ble_eq_true rfl) ?_
  intro p e s m args below meth c A H ls Q hx hb hml hin hts hown hP hD hK hN hS hA hl hret
  replace hl : lv_has ls 1 [(0, .ref h0)] := hl
  have hin_Inlet : ∀ w ∈ u_ws R_Inlet F_Inlet 2, w ∈ (w_Inlet_breakOff) := (fun w h => xm (lay_Inlet w h))
  have hq : s_Inlet_breakOff L o = (if o = 0 then (L, o) else (bnd (s_Row_append 25 L 257) (fun L2 => (L2, 0)))) := rfl
  refine lv_aload_n hx hb d_Inlet_breakOff_0 rfl (lv_at hl 0 rfl) ?_
  refine va_get (D := D) (ci := 1) (v := .int o) (C := R_Inlet) (T := F_Inlet) (N := 2) hx hb hts hin_Inlet hown hK hP 0 rfl rfl 1 (by decide) (hts _ (xm ww_50)) (fun _ h9 => h9) rfl d_Inlet_breakOff_1 ?_
  refine lv_if_eq (tgt := 22) hx hb d_Inlet_breakOff_4 rfl (fun h1 => ?_) (fun h1 => ?_)
  · replace hq := hq.trans (if_pos h1)
    exact hret (L, o, f) ⟨hq.symm, hR⟩ _ _ _ _ hP hD hS d_Inlet_breakOff_22
  replace hq := hq.trans (if_neg h1)
  refine lv_aload_n hx hb d_Inlet_breakOff_7 rfl (lv_at hl 0 rfl) ?_
  refine va_get (D := D) (ci := 1) (v := .ref q) (C := R_Inlet) (T := F_Inlet) (N := 2) hx hb hts hin_Inlet hown hK hP 0 rfl rfl 0 (by decide) (hts _ (xm ww_49)) (fun _ h9 => h9) rfl d_Inlet_breakOff_8 ?_
  refine lv_sipush (v := 257) hx hb d_Inlet_breakOff_11 rfl ?_
  refine xcall_v (wc := [(q, .inr (0, [.ref a, .int (nI i), .int (nI L.length)])), (a, .inl (cI, 25, .inl f))]) (wr := [(h0, .inr (1, [.ref q, .int o]))]) (ws1 := fun (u : List Int32 × (Nat → Int32)) => [(h0, .inr (1, [.ref q, .int o])), (q, .inr (0, [.ref a, .int (nI i), .int (nI u.1.length)])), (a, .inl (cI, 25, .inl u.2))]) (va_runV (As := [.int 257]) (rest := []) ⟨hx, hb, hml, hown, hts⟩ (c_Row_append 25 L 257 q a f i hR H.size) (xcwV 1 hts ww_260 ww_257 ww_258 ww_259 ww_4 (by decide +kernel) rfl rfl ⟨Nat.le_of_ble_eq_true rfl, Nat.le_of_ble_eq_true rfl⟩) (xPreV (ci := 0) (q0 := 0) (q := (R_Row, F_Row, 3)) (hP.sub [1, 2] rfl) (hD.sub [1, 2] (by decide) rfl) hK hN rfl rfl rfl) rfl rfl hl.1 rfl (lv_room (Nat.le_of_ble_eq_true rfl)) d_Inlet_breakOff_14 ⟨Nat.le_of_ble_eq_true rfl, Nat.le_of_ble_eq_true rfl⟩) hP hD hS hA [1, 2] [0] [0, 1, 2] rfl rfl (by decide) (by decide) (by decide) (fun _ => rfl) (fun u2 H locs hw hP hD hS => ?_)
  obtain ⟨L2, f2⟩ := u2
  obtain ⟨hw, hR_2⟩ := hw
  replace hP : va_P D vwCl [(h0, .inr (1, [.ref q, .int o])), (q, .inr (0, [.ref a, .int (nI i), .int (nI L2.length)])), (a, .inl (cI, 25, .inl f2))] H := hP
  replace hD : va_D A [(h0, .inr (1, [.ref q, .int o])), (q, .inr (0, [.ref a, .int (nI i), .int (nI L2.length)])), (a, .inl (cI, 25, .inl f2))] := hD
  have hw_2 := hw
  replace hq := hq.trans (bnd_eq hw)
  try dsimp only at hq
  refine lv_aload_n hx hb d_Inlet_breakOff_17 rfl (lv_at hl 0 rfl) ?_
  refine lv_iconst (v := 0) hx hb d_Inlet_breakOff_18 rfl ?_
  refine va_put (D := D) (ci := 1) (v := .int 0) (ty := (.boolean)) (C := R_Inlet) (T := F_Inlet) (N := 2) hx hb hts hin_Inlet t_Inlet t_Inlet_ok n_Inlet hown hK hP hD hS 0 rfl rfl 1 (by decide) (hts _ (xm ww_50)) (fun _ h9 => h9) rfl (by decide +kernel) (xB_n (Or.inl rfl)) (xB_f (Or.inl rfl)) (Nat.le_of_ble_eq_true rfl) d_Inlet_breakOff_19 (fun H locs hP hD hS => ?_)
  replace hP : va_P D vwCl [(h0, .inr (1, [.ref q, .int 0])), (q, .inr (0, [.ref a, .int (nI i), .int (nI L2.length)])), (a, .inl (cI, 25, .inl f2))] H := hP
  replace hD : va_D A [(h0, .inr (1, [.ref q, .int 0])), (q, .inr (0, [.ref a, .int (nI i), .int (nI L2.length)])), (a, .inl (cI, 25, .inl f2))] := hD
  exact hret (L2, 0, f2) ⟨hq.symm, hR_2⟩ _ _ _ _ hP hD hS d_Inlet_breakOff_22

def s_Packet_clear  : Nat := 0
abbrev rm_Packet_clear : Room := { frames := 0, cells := 0, slots := 0, locals := 0 }
set_option maxHeartbeats 4000000 in
set_option maxRecDepth 100000 in
theorem c_Packet_clear {l : Launch} {D : va_G} {cI cZ : ClassId} (h0 : Nat) (a : Nat) (n : Nat) (f : Nat → Int32) (k : Nat) (sz : Nat) : Met l y_Packet_clear (w_Packet_clear) rm_Packet_clear (va_Pc [.ref h0] (xPre xNs D vwCl cI cZ [(h0, .inr (3, [.ref a, .int (nI k)])), (a, .inl (cI, n, .inl f))] sz)) (va_Qv (fun (u : Nat) => u = s_Packet_clear ∧ u = 0) (fun u t9 => xAt D vwCl (va_A [(h0, .inr (3, [.ref a, .int (nI k)])), (a, .inl (cI, n, .inl f))] sz) [(h0, .inr (3, [.ref a, .int (nI u)])), (a, .inl (cI, n, .inl f))] t9) (va_A [(h0, .inr (3, [.ref a, .int (nI k)])), (a, .inl (cI, n, .inl f))] sz)) 0 0 (va_A [(h0, .inr (3, [.ref a, .int (nI k)])), (a, .inl (cI, n, .inl f))] sz) := by
  refine xBody_v (S := Nat) (cc := b_Packet_clear) (maxL := 1) (by decide) rfl (Nat.le_of_ble_eq_true rfl) ?_
  intro p e s m args below meth c A H ls Q hx hb hml hin hts hown hP hD hK hN hS hA hl hret
  replace hl : lv_has ls 1 [(0, .ref h0)] := hl
  have hin_Packet : ∀ w ∈ u_ws R_Packet F_Packet 2, w ∈ (w_Packet_clear) := (fun w h => xm (lay_Packet w h))
  have hq : s_Packet_clear = (0) := rfl
  refine lv_aload_n hx hb d_Packet_clear_0 rfl (lv_at hl 0 rfl) ?_
  refine lv_iconst (v := 0) hx hb d_Packet_clear_1 rfl ?_
  refine va_put (D := D) (ci := 3) (v := .int 0) (ty := (.int)) (C := R_Packet) (T := F_Packet) (N := 2) hx hb hts hin_Packet t_Packet t_Packet_ok n_Packet hown hK hP hD hS 0 rfl rfl 1 (by decide) (hts _ (xm ww_155)) (fun _ h9 => h9) rfl (by decide +kernel) rfl rfl (Nat.le_of_ble_eq_true rfl) d_Packet_clear_2 (fun H locs hP hD hS => ?_)
  replace hP : va_P D vwCl [(h0, .inr (3, [.ref a, .int 0])), (a, .inl (cI, n, .inl f))] H := hP
  replace hD : va_D A [(h0, .inr (3, [.ref a, .int 0])), (a, .inl (cI, n, .inl f))] := hD
  exact hret 0 ⟨hq.symm, (by first | omega | (dsimp only; omega))⟩ _ _ _ _ hP hD hS d_Packet_clear_5

def s_Packet_add (n : Nat) (f : Nat → Int32) (k : Nat) (c_ : Int32) : (Nat → Int32) × Nat := if (nI n) ≤ (nI k) then (f, k + 1) else (upd f k c_, k + 1)
abbrev rm_Packet_add : Room := { frames := 0, cells := 0, slots := 0, locals := 0 }
set_option maxHeartbeats 4000000 in
set_option maxRecDepth 100000 in
theorem c_Packet_add {l : Launch} {D : va_G} {cI cZ : ClassId} (n : Nat) (f : Nat → Int32) (k : Nat) (c_ : Int32) (h0 : Nat) (a : Nat) (hn : n ≤ 64) (hk : k < 1048576) (sz : Nat) : Met l y_Packet_add (w_Packet_add) rm_Packet_add (va_Pc [.ref h0, .int c_] (xPre xNs D vwCl cI cZ [(h0, .inr (3, [.ref a, .int (nI k)])), (a, .inl (cI, n, .inl f))] sz)) (va_Qv (fun (u : (Nat → Int32) × Nat) => (u.1, u.2) = s_Packet_add n f k c_ ∧ u.2 = k + 1) (fun u t9 => xAt D vwCl (va_A [(h0, .inr (3, [.ref a, .int (nI k)])), (a, .inl (cI, n, .inl f))] sz) [(h0, .inr (3, [.ref a, .int (nI u.2)])), (a, .inl (cI, n, .inl u.1))] t9) (va_A [(h0, .inr (3, [.ref a, .int (nI k)])), (a, .inl (cI, n, .inl f))] sz)) 0 0 (va_A [(h0, .inr (3, [.ref a, .int (nI k)])), (a, .inl (cI, n, .inl f))] sz) := by
  refine xBody_v (S := (Nat → Int32) × Nat) (cc := b_Packet_add) (maxL := 2) (by decide) rfl (Nat.le_of_ble_eq_true rfl) ?_
  intro p e s m args below meth c A H ls Q hx hb hml hin hts hown hP hD hK hN hS hA hl hret
  replace hl : lv_has ls 2 [(0, .ref h0), (1, .int c_)] := hl
  have hin_Packet : ∀ w ∈ u_ws R_Packet F_Packet 2, w ∈ (w_Packet_add) := (fun w h => xm (lay_Packet w h))
  have hq : s_Packet_add n f k c_ = (if (nI n) ≤ (nI k) then (f, k + 1) else (upd f k c_, k + 1)) := rfl
  refine lv_aload_n hx hb d_Packet_add_0 rfl (lv_at hl 0 rfl) ?_
  refine va_get (D := D) (ci := 3) (v := .int (nI k)) (C := R_Packet) (T := F_Packet) (N := 2) hx hb hts hin_Packet hown hK hP 0 rfl rfl 1 (by decide) (hts _ (xm ww_155)) (fun _ h9 => h9) rfl d_Packet_add_1 ?_
  refine lv_aload_n hx hb d_Packet_add_4 rfl (lv_at hl 0 rfl) ?_
  refine va_get (D := D) (ci := 3) (v := .ref a) (C := R_Packet) (T := F_Packet) (N := 2) hx hb hts hin_Packet hown hK hP 0 rfl rfl 0 (by decide) (hts _ (xm ww_154)) (fun _ h9 => h9) rfl d_Packet_add_5 ?_
  refine va_alen (v := nI n) hx hb hK hP 1 0 rfl rfl rfl d_Packet_add_8 ?_
  refine lv_icmp_ge (tgt := 22) hx hb d_Packet_add_9 rfl (fun h1 => ?_) (fun h1 => ?_)
  · replace hq := hq.trans (if_pos h1)
    refine lv_aload_n hx hb d_Packet_add_22 rfl (lv_at hl 0 rfl) ?_
    refine lv_dup hx hb d_Packet_add_23 rfl ?_
    refine va_get (D := D) (ci := 3) (v := .int (nI k)) (C := R_Packet) (T := F_Packet) (N := 2) hx hb hts hin_Packet hown hK hP 0 rfl rfl 1 (by decide) (hts _ (xm ww_155)) (fun _ h9 => h9) rfl d_Packet_add_24 ?_
    refine lv_iconst (v := 1) hx hb d_Packet_add_27 rfl ?_
    refine lv_iadd hx hb d_Packet_add_28 ?_
    refine xtop (y := nI (k + 1)) (nI_add k 1) ?_
    refine va_put (D := D) (ci := 3) (v := .int (nI (k + 1))) (ty := (.int)) (C := R_Packet) (T := F_Packet) (N := 2) hx hb hts hin_Packet t_Packet t_Packet_ok n_Packet hown hK hP hD hS 0 rfl rfl 1 (by decide) (hts _ (xm ww_155)) (fun _ h9 => h9) rfl (by decide +kernel) rfl rfl (Nat.le_of_ble_eq_true rfl) d_Packet_add_29 (fun H locs hP hD hS => ?_)
    replace hP : va_P D vwCl [(h0, .inr (3, [.ref a, .int (nI (k + 1))])), (a, .inl (cI, n, .inl f))] H := hP
    replace hD : va_D A [(h0, .inr (3, [.ref a, .int (nI (k + 1))])), (a, .inl (cI, n, .inl f))] := hD
    exact hret (f, k + 1) ⟨hq.symm, (by first | omega | (dsimp only; omega))⟩ _ _ _ _ hP hD hS d_Packet_add_32
  replace hq := hq.trans (if_neg h1)
  refine lv_aload_n hx hb d_Packet_add_12 rfl (lv_at hl 0 rfl) ?_
  refine va_get (D := D) (ci := 3) (v := .ref a) (C := R_Packet) (T := F_Packet) (N := 2) hx hb hts hin_Packet hown hK hP 0 rfl rfl 0 (by decide) (hts _ (xm ww_154)) (fun _ h9 => h9) rfl d_Packet_add_13 ?_
  refine lv_aload_n hx hb d_Packet_add_16 rfl (lv_at hl 0 rfl) ?_
  refine va_get (D := D) (ci := 3) (v := .int (nI k)) (C := R_Packet) (T := F_Packet) (N := 2) hx hb hts hin_Packet hown hK hP 0 rfl rfl 1 (by decide) (hts _ (xm ww_155)) (fun _ h9 => h9) rfl d_Packet_add_17 ?_
  refine lv_iload_n hx hb d_Packet_add_20 rfl (lv_at hl 1 rfl) ?_
  refine xiast (k := k) hx hb hK hP hD hS 1 0 rfl rfl rfl ((nI_ltI (by omega) (by omega)).mp (Int32.not_le.mp h1)) (by first | omega | (have := hR.2.2.1; omega)) d_Packet_add_21 (fun H locs hP hD hS => ?_)
  replace hP : va_P D vwCl [(h0, .inr (3, [.ref a, .int (nI k)])), (a, .inl (cI, n, .inl (upd f k c_)))] H := hP
  replace hD : va_D A [(h0, .inr (3, [.ref a, .int (nI k)])), (a, .inl (cI, n, .inl (upd f k c_)))] := hD
  refine lv_aload_n hx hb d_Packet_add_22 rfl (lv_at hl 0 rfl) ?_
  refine lv_dup hx hb d_Packet_add_23 rfl ?_
  refine va_get (D := D) (ci := 3) (v := .int (nI k)) (C := R_Packet) (T := F_Packet) (N := 2) hx hb hts hin_Packet hown hK hP 0 rfl rfl 1 (by decide) (hts _ (xm ww_155)) (fun _ h9 => h9) rfl d_Packet_add_24 ?_
  refine lv_iconst (v := 1) hx hb d_Packet_add_27 rfl ?_
  refine lv_iadd hx hb d_Packet_add_28 ?_
  refine xtop (y := nI (k + 1)) (nI_add k 1) ?_
  refine va_put (D := D) (ci := 3) (v := .int (nI (k + 1))) (ty := (.int)) (C := R_Packet) (T := F_Packet) (N := 2) hx hb hts hin_Packet t_Packet t_Packet_ok n_Packet hown hK hP hD hS 0 rfl rfl 1 (by decide) (hts _ (xm ww_155)) (fun _ h9 => h9) rfl (by decide +kernel) rfl rfl (Nat.le_of_ble_eq_true rfl) d_Packet_add_29 (fun H locs hP hD hS => ?_)
  replace hP : va_P D vwCl [(h0, .inr (3, [.ref a, .int (nI (k + 1))])), (a, .inl (cI, n, .inl (upd f k c_)))] H := hP
  replace hD : va_D A [(h0, .inr (3, [.ref a, .int (nI (k + 1))])), (a, .inl (cI, n, .inl (upd f k c_)))] := hD
  exact hret (upd f k c_, k + 1) ⟨hq.symm, (by first | omega | (dsimp only; omega))⟩ _ _ _ _ hP hD hS d_Packet_add_32

def s_Packet_at (n : Nat) (f : Nat → Int32) (k : Nat) (i : Int32) : Int32 := bnd (α := Int32) (if i < 0 then (0) else (if (nI k) ≤ i then (0) else (if (nI n) ≤ i then (0) else (f i.toNatClampNeg)))) (fun y2 => y2)
abbrev rm_Packet_at : Room := { frames := 0, cells := 0, slots := 0, locals := 0 }
set_option maxHeartbeats 4000000 in
set_option maxRecDepth 100000 in
theorem c_Packet_at {l : Launch} {D : va_G} {cI cZ : ClassId} (n : Nat) (f : Nat → Int32) (k : Nat) (i : Int32) (h0 : Nat) (a : Nat) (hn : n ≤ 64) (sz : Nat) : Met l y_Packet_at (w_Packet_at) rm_Packet_at (va_Pc [.ref h0, .int i] (xPre xNs D vwCl cI cZ [(h0, .inr (3, [.ref a, .int (nI k)])), (a, .inl (cI, n, .inl f))] sz)) (va_Qi (fun (r : Int32) (u : Unit) => r = s_Packet_at n f k i) (fun u t9 => xAt D vwCl (va_A [(h0, .inr (3, [.ref a, .int (nI k)])), (a, .inl (cI, n, .inl f))] sz) [(h0, .inr (3, [.ref a, .int (nI k)])), (a, .inl (cI, n, .inl f))] t9) (va_A [(h0, .inr (3, [.ref a, .int (nI k)])), (a, .inl (cI, n, .inl f))] sz)) 0 0 (va_A [(h0, .inr (3, [.ref a, .int (nI k)])), (a, .inl (cI, n, .inl f))] sz) := by
  refine xBody_i (S := Unit) (cc := b_Packet_at) (maxL := 2) (by decide) rfl (Nat.le_of_ble_eq_true rfl) ?_
  intro p e s m args below meth c A H ls Q hx hb hml hin hts hown hP hD hK hN hS hA hl hret
  replace hl : lv_has ls 2 [(0, .ref h0), (1, .int i)] := hl
  have hin_Packet : ∀ w ∈ u_ws R_Packet F_Packet 2, w ∈ (w_Packet_at) := (fun w h => xm (lay_Packet w h))
  have hq : s_Packet_at n f k i = (bnd (α := Int32) (if i < 0 then (0) else (if (nI k) ≤ i then (0) else (if (nI n) ≤ i then (0) else (f i.toNatClampNeg)))) (fun y2 => y2)) := rfl
  refine lv_iload_n hx hb d_Packet_at_0 rfl (lv_at hl 1 rfl) ?_
  have J1 : ∀ (y2 : Int32) (H : Heap) (locs : List Loc), y2 = (if i < 0 then (0) else (if (nI k) ≤ i then (0) else (if (nI n) ≤ i then (0) else (f i.toNatClampNeg)))) → va_P D vwCl [(h0, .inr (3, [.ref a, .int (nI k)])), (a, .inl (cI, n, .inl f))] H → va_D A [(h0, .inr (3, [.ref a, .int (nI k)])), (a, .inl (cI, n, .inl f))] → va_S A s.heap H locs → W p l e rm_Packet_at s m args below meth c H locs 0 0 Q (F0 m 31 ls [.int y2]) := by
    intro y2 H locs hy2 hP hD hS
    replace hq := hq.trans (bnd_eq hy2)
    try dsimp only at hq
    exact hret y2 () hq.symm _ _ _ _ hP hD hS d_Packet_at_31
  have hv : ((if i < 0 then (0) else (if (nI k) ≤ i then (0) else (if (nI n) ≤ i then (0) else (f i.toNatClampNeg)))) : Int32) = (if i < 0 then (0) else (if (nI k) ≤ i then (0) else (if (nI n) ≤ i then (0) else (f i.toNatClampNeg)))) := rfl
  refine lv_if_lt (tgt := 30) hx hb d_Packet_at_1 rfl (fun h3 => ?_) (fun h3 => ?_)
  · replace hv := hv.trans (if_pos h3)
    refine lv_iconst (v := 0) hx hb d_Packet_at_30 rfl ?_
    exact J1 _ _ _ hv.symm hP hD hS
  replace hv := hv.trans (if_neg h3)
  refine lv_iload_n hx hb d_Packet_at_4 rfl (lv_at hl 1 rfl) ?_
  refine lv_aload_n hx hb d_Packet_at_5 rfl (lv_at hl 0 rfl) ?_
  refine va_get (D := D) (ci := 3) (v := .int (nI k)) (C := R_Packet) (T := F_Packet) (N := 2) hx hb hts hin_Packet hown hK hP 0 rfl rfl 1 (by decide) (hts _ (xm ww_155)) (fun _ h9 => h9) rfl d_Packet_at_6 ?_
  refine lv_icmp_ge (tgt := 30) hx hb d_Packet_at_9 rfl (fun h4 => ?_) (fun h4 => ?_)
  · replace hv := hv.trans (if_pos h4)
    refine lv_iconst (v := 0) hx hb d_Packet_at_30 rfl ?_
    exact J1 _ _ _ hv.symm hP hD hS
  replace hv := hv.trans (if_neg h4)
  refine lv_iload_n hx hb d_Packet_at_12 rfl (lv_at hl 1 rfl) ?_
  refine lv_aload_n hx hb d_Packet_at_13 rfl (lv_at hl 0 rfl) ?_
  refine va_get (D := D) (ci := 3) (v := .ref a) (C := R_Packet) (T := F_Packet) (N := 2) hx hb hts hin_Packet hown hK hP 0 rfl rfl 0 (by decide) (hts _ (xm ww_154)) (fun _ h9 => h9) rfl d_Packet_at_14 ?_
  refine va_alen (v := nI n) hx hb hK hP 1 0 rfl rfl rfl d_Packet_at_17 ?_
  refine lv_icmp_ge (tgt := 30) hx hb d_Packet_at_18 rfl (fun h5 => ?_) (fun h5 => ?_)
  · replace hv := hv.trans (if_pos h5)
    refine lv_iconst (v := 0) hx hb d_Packet_at_30 rfl ?_
    exact J1 _ _ _ hv.symm hP hD hS
  replace hv := hv.trans (if_neg h5)
  refine lv_aload_n hx hb d_Packet_at_21 rfl (lv_at hl 0 rfl) ?_
  refine va_get (D := D) (ci := 3) (v := .ref a) (C := R_Packet) (T := F_Packet) (N := 2) hx hb hts hin_Packet hown hK hP 0 rfl rfl 0 (by decide) (hts _ (xm ww_154)) (fun _ h9 => h9) rfl d_Packet_at_22 ?_
  refine lv_iload_n hx hb d_Packet_at_25 rfl (lv_at hl 1 rfl) ?_
  refine xiald (k := i.toNatClampNeg) hx hb hK hP 1 0 rfl rfl (xnat h3) (xnat_lt h3 h5 (by omega)) (by first | omega | (have := hR.2.2.1; omega)) d_Packet_at_26 ?_
  refine lv_goto (tgt := 31) hx hb d_Packet_at_27 rfl ?_
  exact J1 _ _ _ hv.symm hP hD hS

def lp_check (n : Nat) (f : Nat → Int32) (k : Nat) (fr : Nat) (ln : Nat) : Nat → Nat → Int32 → Int32
  | 0, j, x1 => x1
  | nlp_check + 1, j, x1 => if (nI ln) ≤ (nI j) then (x1) else (bnd (α := Int32) (if ((x1 ^^^ (s_Packet_at n f k (nI (fr + j)))) &&& 1) = 1 then (((x1 ^^^ (s_Packet_at n f k (nI (fr + j)))) >>> (1 &&& 31)) ^^^ 224) else ((x1 ^^^ (s_Packet_at n f k (nI (fr + j)))) >>> (1 &&& 31))) (fun y5 => bnd (α := Int32) (if (y5 &&& 1) = 1 then ((y5 >>> (1 &&& 31)) ^^^ 224) else (y5 >>> (1 &&& 31))) (fun y7 => bnd (α := Int32) (if (y7 &&& 1) = 1 then ((y7 >>> (1 &&& 31)) ^^^ 224) else (y7 >>> (1 &&& 31))) (fun y9 => bnd (α := Int32) (if (y9 &&& 1) = 1 then ((y9 >>> (1 &&& 31)) ^^^ 224) else (y9 >>> (1 &&& 31))) (fun y11 => bnd (α := Int32) (if (y11 &&& 1) = 1 then ((y11 >>> (1 &&& 31)) ^^^ 224) else (y11 >>> (1 &&& 31))) (fun y13 => bnd (α := Int32) (if (y13 &&& 1) = 1 then ((y13 >>> (1 &&& 31)) ^^^ 224) else (y13 >>> (1 &&& 31))) (fun y15 => bnd (α := Int32) (if (y15 &&& 1) = 1 then ((y15 >>> (1 &&& 31)) ^^^ 224) else (y15 >>> (1 &&& 31))) (fun y17 => bnd (α := Int32) (if (y17 &&& 1) = 1 then ((y17 >>> (1 &&& 31)) ^^^ 224) else (y17 >>> (1 &&& 31))) (fun y19 => lp_check n f k fr ln nlp_check (j + 1) y19)))))))))
def s_Packet_check (n : Nat) (f : Nat → Int32) (k : Nat) (fr : Nat) (ln : Nat) : Int32 := lp_check n f k fr ln (ln - 0) 0 0
abbrev rm_Packet_check : Room := { frames := 1, cells := 0, slots := 0, locals := 21 }
set_option maxHeartbeats 4000000 in
set_option maxRecDepth 100000 in
theorem c_Packet_check {l : Launch} {D : va_G} {cI cZ : ClassId} (n : Nat) (f : Nat → Int32) (k : Nat) (fr : Nat) (ln : Nat) (h0 : Nat) (a : Nat) (hn : n ≤ 64) (hfl : fr + ln < 1048576) (sz : Nat) : Met l y_Packet_check (w_Packet_check) rm_Packet_check (va_Pc [.ref h0, .int (nI fr), .int (nI ln)] (xPre xNs D vwCl cI cZ [(h0, .inr (3, [.ref a, .int (nI k)])), (a, .inl (cI, n, .inl f))] sz)) (va_Qi (fun (r : Int32) (u : Unit) => r = s_Packet_check n f k fr ln) (fun u t9 => xAt D vwCl (va_A [(h0, .inr (3, [.ref a, .int (nI k)])), (a, .inl (cI, n, .inl f))] sz) [(h0, .inr (3, [.ref a, .int (nI k)])), (a, .inl (cI, n, .inl f))] t9) (va_A [(h0, .inr (3, [.ref a, .int (nI k)])), (a, .inl (cI, n, .inl f))] sz)) 0 0 (va_A [(h0, .inr (3, [.ref a, .int (nI k)])), (a, .inl (cI, n, .inl f))] sz) := by
  refine xBody_i (S := Unit) (cc := b_Packet_check) (maxL := 6) (by decide) rfl (Nat.le_of_ble_eq_true rfl) ?_
  intro p e s m args below meth c A H ls Q hx hb hml hin hts hown hP hD hK hN hS hA hl hret
  replace hl : lv_has ls 6 [(0, .ref h0), (1, .int (nI fr)), (2, .int (nI ln))] := hl
  have hq : s_Packet_check n f k fr ln = (lp_check n f k fr ln (ln - 0) 0 0) := rfl
  refine lv_iconst (v := 0) hx hb d_Packet_check_0 rfl ?_
  refine lv_istore_n hx hb d_Packet_check_1 rfl hl (by decide) rfl (fun ls hl => ?_)
  replace hl : lv_has ls 6 [(3, .int 0), (0, .ref h0), (1, .int (nI fr)), (2, .int (nI ln))] := hl
  refine lv_iconst (v := 0) hx hb d_Packet_check_2 rfl ?_
  refine lv_istore hx hb d_Packet_check_3 hl (by decide) rfl (fun ls hl => ?_)
  replace hl : lv_has ls 6 [(4, .int 0), (3, .int 0), (0, .ref h0), (1, .int (nI fr)), (2, .int (nI ln))] := hl
  have LPlp_check : ∀ (nlp_check : Nat) (j : Nat) (x1 : Int32) (ls : Array Slot) (H : Heap) (locs : List Loc), j ≤ ln → ln - j ≤ nlp_check → lv_has ls 6 [(0, .ref h0), (1, .int (nI fr)), (2, .int (nI ln)), (3, .int x1), (4, .int (nI j))] → va_P D vwCl [(h0, .inr (3, [.ref a, .int (nI k)])), (a, .inl (cI, n, .inl f))] H → va_D A [(h0, .inr (3, [.ref a, .int (nI k)])), (a, .inl (cI, n, .inl f))] → va_S A s.heap H locs → s_Packet_check n f k fr ln = lp_check n f k fr ln nlp_check j x1 → W p l e rm_Packet_check s m args below meth c H locs 0 0 Q (F0 m 5 ls []) := by
    intro nlp_check
    induction nlp_check with
    | zero =>
      intro j x1 ls H locs hj hmlp_check hl hP hD hS hq
      replace hq : s_Packet_check n f k fr ln = (x1) := hq
      refine lv_iload hx hb d_Packet_check_5 (lv_at hl 4 rfl) ?_
      refine lv_iload_n hx hb d_Packet_check_7 rfl (lv_at hl 2 rfl) ?_
      refine lv_icmp_ge (tgt := 65) hx hb d_Packet_check_8 rfl (fun h1 => ?_) (fun h1 => ?_)
      rotate_left
      · exact absurd (nI_le (by omega) (by omega)) h1
      refine lv_iload_n hx hb d_Packet_check_65 rfl (lv_at hl 3 rfl) ?_
      exact hret x1 () hq.symm _ _ _ _ hP hD hS d_Packet_check_66
    | succ nlp_check ihlp_check =>
      intro j x1 ls H locs hj hmlp_check hl hP hD hS hq
      replace hq : s_Packet_check n f k fr ln = (if (nI ln) ≤ (nI j) then (x1) else (bnd (α := Int32) (if ((x1 ^^^ (s_Packet_at n f k (nI (fr + j)))) &&& 1) = 1 then (((x1 ^^^ (s_Packet_at n f k (nI (fr + j)))) >>> (1 &&& 31)) ^^^ 224) else ((x1 ^^^ (s_Packet_at n f k (nI (fr + j)))) >>> (1 &&& 31))) (fun y5 => bnd (α := Int32) (if (y5 &&& 1) = 1 then ((y5 >>> (1 &&& 31)) ^^^ 224) else (y5 >>> (1 &&& 31))) (fun y7 => bnd (α := Int32) (if (y7 &&& 1) = 1 then ((y7 >>> (1 &&& 31)) ^^^ 224) else (y7 >>> (1 &&& 31))) (fun y9 => bnd (α := Int32) (if (y9 &&& 1) = 1 then ((y9 >>> (1 &&& 31)) ^^^ 224) else (y9 >>> (1 &&& 31))) (fun y11 => bnd (α := Int32) (if (y11 &&& 1) = 1 then ((y11 >>> (1 &&& 31)) ^^^ 224) else (y11 >>> (1 &&& 31))) (fun y13 => bnd (α := Int32) (if (y13 &&& 1) = 1 then ((y13 >>> (1 &&& 31)) ^^^ 224) else (y13 >>> (1 &&& 31))) (fun y15 => bnd (α := Int32) (if (y15 &&& 1) = 1 then ((y15 >>> (1 &&& 31)) ^^^ 224) else (y15 >>> (1 &&& 31))) (fun y17 => bnd (α := Int32) (if (y17 &&& 1) = 1 then ((y17 >>> (1 &&& 31)) ^^^ 224) else (y17 >>> (1 &&& 31))) (fun y19 => lp_check n f k fr ln nlp_check (j + 1) y19)))))))))) := hq
      refine lv_iload hx hb d_Packet_check_5 (lv_at hl 4 rfl) ?_
      refine lv_iload_n hx hb d_Packet_check_7 rfl (lv_at hl 2 rfl) ?_
      refine lv_icmp_ge (tgt := 65) hx hb d_Packet_check_8 rfl (fun h2 => ?_) (fun h2 => ?_)
      · replace hq := hq.trans (if_pos h2)
        refine lv_iload_n hx hb d_Packet_check_65 rfl (lv_at hl 3 rfl) ?_
        exact hret x1 () hq.symm _ _ _ _ hP hD hS d_Packet_check_66
      replace hq := hq.trans (if_neg h2)
      refine lv_iload_n hx hb d_Packet_check_11 rfl (lv_at hl 3 rfl) ?_
      refine lv_aload_n hx hb d_Packet_check_12 rfl (lv_at hl 0 rfl) ?_
      refine lv_iload_n hx hb d_Packet_check_13 rfl (lv_at hl 1 rfl) ?_
      refine lv_iload hx hb d_Packet_check_14 (lv_at hl 4 rfl) ?_
      refine lv_iadd hx hb d_Packet_check_16 ?_
      refine xtop (y := nI (fr + j)) (nI_add fr j) ?_
      refine xcall_i (wc := [(h0, .inr (3, [.ref a, .int (nI k)])), (a, .inl (cI, n, .inl f))]) (wr := []) (ws1 := fun (u : Unit) => [(h0, .inr (3, [.ref a, .int (nI k)])), (a, .inl (cI, n, .inl f))]) (va_runV (As := [.int (nI (fr + j))]) (rest := [.int x1]) ⟨hx, hb, hml, hown, hts⟩ (c_Packet_at n f k (nI (fr + j)) h0 a hn H.size) (xcwV 1 hts ww_352 ww_377 ww_350 ww_351 ww_7 (by decide +kernel) rfl rfl ⟨Nat.le_of_ble_eq_true rfl, Nat.le_of_ble_eq_true rfl⟩) (xPreV (ci := 3) (q0 := 0) (q := (R_Packet, F_Packet, 2)) (hP.sub [0, 1] rfl) (hD.sub [0, 1] (by decide) rfl) hK hN rfl rfl rfl) rfl rfl hl.1 rfl (lv_room (Nat.le_of_ble_eq_true rfl)) d_Packet_check_17 ⟨Nat.le_of_ble_eq_true rfl, Nat.le_of_ble_eq_true rfl⟩) hP hD hS hA [0, 1] [] [0, 1] rfl rfl (by decide) (by decide) (by decide) (fun _ => rfl) (fun r3 u3 H locs hw hP hD hS => ?_)
      subst hw
      replace hP : va_P D vwCl [(h0, .inr (3, [.ref a, .int (nI k)])), (a, .inl (cI, n, .inl f))] H := hP
      replace hD : va_D A [(h0, .inr (3, [.ref a, .int (nI k)])), (a, .inl (cI, n, .inl f))] := hD
      refine lv_ixor hx hb d_Packet_check_20 ?_
      refine lv_istore_n hx hb d_Packet_check_21 rfl hl (by decide) rfl (fun ls hl => ?_)
      replace hl : lv_has ls 6 [(3, .int (x1 ^^^ (s_Packet_at n f k (nI (fr + j))))), (0, .ref h0), (1, .int (nI fr)), (2, .int (nI ln)), (4, .int (nI j))] := hl
      refine lv_iconst (v := 0) hx hb d_Packet_check_22 rfl ?_
      refine lv_istore hx hb d_Packet_check_23 hl (by decide) rfl (fun ls hl => ?_)
      replace hl : lv_has ls 6 [(5, .int 0), (3, .int (x1 ^^^ (s_Packet_at n f k (nI (fr + j))))), (0, .ref h0), (1, .int (nI fr)), (2, .int (nI ln)), (4, .int (nI j))] := hl
      refine lv_iload hx hb d_Packet_check_25 (lv_at hl 0 rfl) ?_
      refine lv_bipush (v := 8) hx hb d_Packet_check_27 rfl ?_
      refine lv_icmp_ge (tgt := 59) hx hb d_Packet_check_29 rfl (fun h9 => absurd h9 (by decide)) (fun _ => ?_)
      refine lv_iload_n hx hb d_Packet_check_32 rfl (lv_at hl 1 rfl) ?_
      refine lv_iconst (v := 1) hx hb d_Packet_check_33 rfl ?_
      refine lv_iand hx hb d_Packet_check_34 ?_
      refine lv_iconst (v := 1) hx hb d_Packet_check_35 rfl ?_
      have J4 : ∀ (y5 : Int32) (H : Heap) (locs : List Loc), y5 = (if ((x1 ^^^ (s_Packet_at n f k (nI (fr + j)))) &&& 1) = 1 then (((x1 ^^^ (s_Packet_at n f k (nI (fr + j)))) >>> (1 &&& 31)) ^^^ 224) else ((x1 ^^^ (s_Packet_at n f k (nI (fr + j)))) >>> (1 &&& 31))) → va_P D vwCl [(h0, .inr (3, [.ref a, .int (nI k)])), (a, .inl (cI, n, .inl f))] H → va_D A [(h0, .inr (3, [.ref a, .int (nI k)])), (a, .inl (cI, n, .inl f))] → va_S A s.heap H locs → W p l e rm_Packet_check s m args below meth c H locs 0 0 Q (F0 m 52 ls [.int y5]) := by
        intro y5 H locs hy5 hP hD hS
        replace hq := hq.trans (bnd_eq hy5)
        try dsimp only at hq
        refine lv_istore_n hx hb d_Packet_check_52 rfl hl (by decide) rfl (fun ls hl => ?_)
        replace hl : lv_has ls 6 [(3, .int y5), (5, .int 0), (0, .ref h0), (1, .int (nI fr)), (2, .int (nI ln)), (4, .int (nI j))] := hl
        refine lv_iinc (k := 1) (v := 1) hx hb d_Packet_check_53 hl rfl rfl (by decide) rfl (fun ls hl => ?_)
        replace hl : lv_has ls 6 [(5, .int 1), (3, .int y5), (0, .ref h0), (1, .int (nI fr)), (2, .int (nI ln)), (4, .int (nI j))] := hl
        refine lv_goto (tgt := 25) hx hb d_Packet_check_56 rfl ?_
        refine lv_iload hx hb d_Packet_check_25 (lv_at hl 0 rfl) ?_
        refine lv_bipush (v := 8) hx hb d_Packet_check_27 rfl ?_
        refine lv_icmp_ge (tgt := 59) hx hb d_Packet_check_29 rfl (fun h9 => absurd h9 (by decide)) (fun _ => ?_)
        refine lv_iload_n hx hb d_Packet_check_32 rfl (lv_at hl 1 rfl) ?_
        refine lv_iconst (v := 1) hx hb d_Packet_check_33 rfl ?_
        refine lv_iand hx hb d_Packet_check_34 ?_
        refine lv_iconst (v := 1) hx hb d_Packet_check_35 rfl ?_
        have J6 : ∀ (y7 : Int32) (H : Heap) (locs : List Loc), y7 = (if (y5 &&& 1) = 1 then ((y5 >>> (1 &&& 31)) ^^^ 224) else (y5 >>> (1 &&& 31))) → va_P D vwCl [(h0, .inr (3, [.ref a, .int (nI k)])), (a, .inl (cI, n, .inl f))] H → va_D A [(h0, .inr (3, [.ref a, .int (nI k)])), (a, .inl (cI, n, .inl f))] → va_S A s.heap H locs → W p l e rm_Packet_check s m args below meth c H locs 0 0 Q (F0 m 52 ls [.int y7]) := by
          intro y7 H locs hy7 hP hD hS
          replace hq := hq.trans (bnd_eq hy7)
          try dsimp only at hq
          refine lv_istore_n hx hb d_Packet_check_52 rfl hl (by decide) rfl (fun ls hl => ?_)
          replace hl : lv_has ls 6 [(3, .int y7), (5, .int 1), (0, .ref h0), (1, .int (nI fr)), (2, .int (nI ln)), (4, .int (nI j))] := hl
          refine lv_iinc (k := 1) (v := 2) hx hb d_Packet_check_53 hl rfl rfl (by decide) rfl (fun ls hl => ?_)
          replace hl : lv_has ls 6 [(5, .int 2), (3, .int y7), (0, .ref h0), (1, .int (nI fr)), (2, .int (nI ln)), (4, .int (nI j))] := hl
          refine lv_goto (tgt := 25) hx hb d_Packet_check_56 rfl ?_
          refine lv_iload hx hb d_Packet_check_25 (lv_at hl 0 rfl) ?_
          refine lv_bipush (v := 8) hx hb d_Packet_check_27 rfl ?_
          refine lv_icmp_ge (tgt := 59) hx hb d_Packet_check_29 rfl (fun h9 => absurd h9 (by decide)) (fun _ => ?_)
          refine lv_iload_n hx hb d_Packet_check_32 rfl (lv_at hl 1 rfl) ?_
          refine lv_iconst (v := 1) hx hb d_Packet_check_33 rfl ?_
          refine lv_iand hx hb d_Packet_check_34 ?_
          refine lv_iconst (v := 1) hx hb d_Packet_check_35 rfl ?_
          have J8 : ∀ (y9 : Int32) (H : Heap) (locs : List Loc), y9 = (if (y7 &&& 1) = 1 then ((y7 >>> (1 &&& 31)) ^^^ 224) else (y7 >>> (1 &&& 31))) → va_P D vwCl [(h0, .inr (3, [.ref a, .int (nI k)])), (a, .inl (cI, n, .inl f))] H → va_D A [(h0, .inr (3, [.ref a, .int (nI k)])), (a, .inl (cI, n, .inl f))] → va_S A s.heap H locs → W p l e rm_Packet_check s m args below meth c H locs 0 0 Q (F0 m 52 ls [.int y9]) := by
            intro y9 H locs hy9 hP hD hS
            replace hq := hq.trans (bnd_eq hy9)
            try dsimp only at hq
            refine lv_istore_n hx hb d_Packet_check_52 rfl hl (by decide) rfl (fun ls hl => ?_)
            replace hl : lv_has ls 6 [(3, .int y9), (5, .int 2), (0, .ref h0), (1, .int (nI fr)), (2, .int (nI ln)), (4, .int (nI j))] := hl
            refine lv_iinc (k := 1) (v := 3) hx hb d_Packet_check_53 hl rfl rfl (by decide) rfl (fun ls hl => ?_)
            replace hl : lv_has ls 6 [(5, .int 3), (3, .int y9), (0, .ref h0), (1, .int (nI fr)), (2, .int (nI ln)), (4, .int (nI j))] := hl
            refine lv_goto (tgt := 25) hx hb d_Packet_check_56 rfl ?_
            refine lv_iload hx hb d_Packet_check_25 (lv_at hl 0 rfl) ?_
            refine lv_bipush (v := 8) hx hb d_Packet_check_27 rfl ?_
            refine lv_icmp_ge (tgt := 59) hx hb d_Packet_check_29 rfl (fun h9 => absurd h9 (by decide)) (fun _ => ?_)
            refine lv_iload_n hx hb d_Packet_check_32 rfl (lv_at hl 1 rfl) ?_
            refine lv_iconst (v := 1) hx hb d_Packet_check_33 rfl ?_
            refine lv_iand hx hb d_Packet_check_34 ?_
            refine lv_iconst (v := 1) hx hb d_Packet_check_35 rfl ?_
            have J10 : ∀ (y11 : Int32) (H : Heap) (locs : List Loc), y11 = (if (y9 &&& 1) = 1 then ((y9 >>> (1 &&& 31)) ^^^ 224) else (y9 >>> (1 &&& 31))) → va_P D vwCl [(h0, .inr (3, [.ref a, .int (nI k)])), (a, .inl (cI, n, .inl f))] H → va_D A [(h0, .inr (3, [.ref a, .int (nI k)])), (a, .inl (cI, n, .inl f))] → va_S A s.heap H locs → W p l e rm_Packet_check s m args below meth c H locs 0 0 Q (F0 m 52 ls [.int y11]) := by
              intro y11 H locs hy11 hP hD hS
              replace hq := hq.trans (bnd_eq hy11)
              try dsimp only at hq
              refine lv_istore_n hx hb d_Packet_check_52 rfl hl (by decide) rfl (fun ls hl => ?_)
              replace hl : lv_has ls 6 [(3, .int y11), (5, .int 3), (0, .ref h0), (1, .int (nI fr)), (2, .int (nI ln)), (4, .int (nI j))] := hl
              refine lv_iinc (k := 1) (v := 4) hx hb d_Packet_check_53 hl rfl rfl (by decide) rfl (fun ls hl => ?_)
              replace hl : lv_has ls 6 [(5, .int 4), (3, .int y11), (0, .ref h0), (1, .int (nI fr)), (2, .int (nI ln)), (4, .int (nI j))] := hl
              refine lv_goto (tgt := 25) hx hb d_Packet_check_56 rfl ?_
              refine lv_iload hx hb d_Packet_check_25 (lv_at hl 0 rfl) ?_
              refine lv_bipush (v := 8) hx hb d_Packet_check_27 rfl ?_
              refine lv_icmp_ge (tgt := 59) hx hb d_Packet_check_29 rfl (fun h9 => absurd h9 (by decide)) (fun _ => ?_)
              refine lv_iload_n hx hb d_Packet_check_32 rfl (lv_at hl 1 rfl) ?_
              refine lv_iconst (v := 1) hx hb d_Packet_check_33 rfl ?_
              refine lv_iand hx hb d_Packet_check_34 ?_
              refine lv_iconst (v := 1) hx hb d_Packet_check_35 rfl ?_
              have J12 : ∀ (y13 : Int32) (H : Heap) (locs : List Loc), y13 = (if (y11 &&& 1) = 1 then ((y11 >>> (1 &&& 31)) ^^^ 224) else (y11 >>> (1 &&& 31))) → va_P D vwCl [(h0, .inr (3, [.ref a, .int (nI k)])), (a, .inl (cI, n, .inl f))] H → va_D A [(h0, .inr (3, [.ref a, .int (nI k)])), (a, .inl (cI, n, .inl f))] → va_S A s.heap H locs → W p l e rm_Packet_check s m args below meth c H locs 0 0 Q (F0 m 52 ls [.int y13]) := by
                intro y13 H locs hy13 hP hD hS
                replace hq := hq.trans (bnd_eq hy13)
                try dsimp only at hq
                refine lv_istore_n hx hb d_Packet_check_52 rfl hl (by decide) rfl (fun ls hl => ?_)
                replace hl : lv_has ls 6 [(3, .int y13), (5, .int 4), (0, .ref h0), (1, .int (nI fr)), (2, .int (nI ln)), (4, .int (nI j))] := hl
                refine lv_iinc (k := 1) (v := 5) hx hb d_Packet_check_53 hl rfl rfl (by decide) rfl (fun ls hl => ?_)
                replace hl : lv_has ls 6 [(5, .int 5), (3, .int y13), (0, .ref h0), (1, .int (nI fr)), (2, .int (nI ln)), (4, .int (nI j))] := hl
                refine lv_goto (tgt := 25) hx hb d_Packet_check_56 rfl ?_
                refine lv_iload hx hb d_Packet_check_25 (lv_at hl 0 rfl) ?_
                refine lv_bipush (v := 8) hx hb d_Packet_check_27 rfl ?_
                refine lv_icmp_ge (tgt := 59) hx hb d_Packet_check_29 rfl (fun h9 => absurd h9 (by decide)) (fun _ => ?_)
                refine lv_iload_n hx hb d_Packet_check_32 rfl (lv_at hl 1 rfl) ?_
                refine lv_iconst (v := 1) hx hb d_Packet_check_33 rfl ?_
                refine lv_iand hx hb d_Packet_check_34 ?_
                refine lv_iconst (v := 1) hx hb d_Packet_check_35 rfl ?_
                have J14 : ∀ (y15 : Int32) (H : Heap) (locs : List Loc), y15 = (if (y13 &&& 1) = 1 then ((y13 >>> (1 &&& 31)) ^^^ 224) else (y13 >>> (1 &&& 31))) → va_P D vwCl [(h0, .inr (3, [.ref a, .int (nI k)])), (a, .inl (cI, n, .inl f))] H → va_D A [(h0, .inr (3, [.ref a, .int (nI k)])), (a, .inl (cI, n, .inl f))] → va_S A s.heap H locs → W p l e rm_Packet_check s m args below meth c H locs 0 0 Q (F0 m 52 ls [.int y15]) := by
                  intro y15 H locs hy15 hP hD hS
                  replace hq := hq.trans (bnd_eq hy15)
                  try dsimp only at hq
                  refine lv_istore_n hx hb d_Packet_check_52 rfl hl (by decide) rfl (fun ls hl => ?_)
                  replace hl : lv_has ls 6 [(3, .int y15), (5, .int 5), (0, .ref h0), (1, .int (nI fr)), (2, .int (nI ln)), (4, .int (nI j))] := hl
                  refine lv_iinc (k := 1) (v := 6) hx hb d_Packet_check_53 hl rfl rfl (by decide) rfl (fun ls hl => ?_)
                  replace hl : lv_has ls 6 [(5, .int 6), (3, .int y15), (0, .ref h0), (1, .int (nI fr)), (2, .int (nI ln)), (4, .int (nI j))] := hl
                  refine lv_goto (tgt := 25) hx hb d_Packet_check_56 rfl ?_
                  refine lv_iload hx hb d_Packet_check_25 (lv_at hl 0 rfl) ?_
                  refine lv_bipush (v := 8) hx hb d_Packet_check_27 rfl ?_
                  refine lv_icmp_ge (tgt := 59) hx hb d_Packet_check_29 rfl (fun h9 => absurd h9 (by decide)) (fun _ => ?_)
                  refine lv_iload_n hx hb d_Packet_check_32 rfl (lv_at hl 1 rfl) ?_
                  refine lv_iconst (v := 1) hx hb d_Packet_check_33 rfl ?_
                  refine lv_iand hx hb d_Packet_check_34 ?_
                  refine lv_iconst (v := 1) hx hb d_Packet_check_35 rfl ?_
                  have J16 : ∀ (y17 : Int32) (H : Heap) (locs : List Loc), y17 = (if (y15 &&& 1) = 1 then ((y15 >>> (1 &&& 31)) ^^^ 224) else (y15 >>> (1 &&& 31))) → va_P D vwCl [(h0, .inr (3, [.ref a, .int (nI k)])), (a, .inl (cI, n, .inl f))] H → va_D A [(h0, .inr (3, [.ref a, .int (nI k)])), (a, .inl (cI, n, .inl f))] → va_S A s.heap H locs → W p l e rm_Packet_check s m args below meth c H locs 0 0 Q (F0 m 52 ls [.int y17]) := by
                    intro y17 H locs hy17 hP hD hS
                    replace hq := hq.trans (bnd_eq hy17)
                    try dsimp only at hq
                    refine lv_istore_n hx hb d_Packet_check_52 rfl hl (by decide) rfl (fun ls hl => ?_)
                    replace hl : lv_has ls 6 [(3, .int y17), (5, .int 6), (0, .ref h0), (1, .int (nI fr)), (2, .int (nI ln)), (4, .int (nI j))] := hl
                    refine lv_iinc (k := 1) (v := 7) hx hb d_Packet_check_53 hl rfl rfl (by decide) rfl (fun ls hl => ?_)
                    replace hl : lv_has ls 6 [(5, .int 7), (3, .int y17), (0, .ref h0), (1, .int (nI fr)), (2, .int (nI ln)), (4, .int (nI j))] := hl
                    refine lv_goto (tgt := 25) hx hb d_Packet_check_56 rfl ?_
                    refine lv_iload hx hb d_Packet_check_25 (lv_at hl 0 rfl) ?_
                    refine lv_bipush (v := 8) hx hb d_Packet_check_27 rfl ?_
                    refine lv_icmp_ge (tgt := 59) hx hb d_Packet_check_29 rfl (fun h9 => absurd h9 (by decide)) (fun _ => ?_)
                    refine lv_iload_n hx hb d_Packet_check_32 rfl (lv_at hl 1 rfl) ?_
                    refine lv_iconst (v := 1) hx hb d_Packet_check_33 rfl ?_
                    refine lv_iand hx hb d_Packet_check_34 ?_
                    refine lv_iconst (v := 1) hx hb d_Packet_check_35 rfl ?_
                    have J18 : ∀ (y19 : Int32) (H : Heap) (locs : List Loc), y19 = (if (y17 &&& 1) = 1 then ((y17 >>> (1 &&& 31)) ^^^ 224) else (y17 >>> (1 &&& 31))) → va_P D vwCl [(h0, .inr (3, [.ref a, .int (nI k)])), (a, .inl (cI, n, .inl f))] H → va_D A [(h0, .inr (3, [.ref a, .int (nI k)])), (a, .inl (cI, n, .inl f))] → va_S A s.heap H locs → W p l e rm_Packet_check s m args below meth c H locs 0 0 Q (F0 m 52 ls [.int y19]) := by
                      intro y19 H locs hy19 hP hD hS
                      replace hq := hq.trans (bnd_eq hy19)
                      try dsimp only at hq
                      refine lv_istore_n hx hb d_Packet_check_52 rfl hl (by decide) rfl (fun ls hl => ?_)
                      replace hl : lv_has ls 6 [(3, .int y19), (5, .int 7), (0, .ref h0), (1, .int (nI fr)), (2, .int (nI ln)), (4, .int (nI j))] := hl
                      refine lv_iinc (k := 1) (v := 8) hx hb d_Packet_check_53 hl rfl rfl (by decide) rfl (fun ls hl => ?_)
                      replace hl : lv_has ls 6 [(5, .int 8), (3, .int y19), (0, .ref h0), (1, .int (nI fr)), (2, .int (nI ln)), (4, .int (nI j))] := hl
                      refine lv_goto (tgt := 25) hx hb d_Packet_check_56 rfl ?_
                      refine lv_iload hx hb d_Packet_check_25 (lv_at hl 0 rfl) ?_
                      refine lv_bipush (v := 8) hx hb d_Packet_check_27 rfl ?_
                      refine lv_icmp_ge (tgt := 59) hx hb d_Packet_check_29 rfl (fun _ => ?_) (fun h9 => absurd h9 (by decide))
                      refine lv_iinc (k := 5) (v := nI (j + 1)) hx hb d_Packet_check_59 hl rfl (nI_1 j) (by decide) rfl (fun ls hl => ?_)
                      replace hl : lv_has ls 6 [(4, .int (nI (j + 1))), (5, .int 8), (3, .int y19), (0, .ref h0), (1, .int (nI fr)), (2, .int (nI ln))] := hl
                      refine lv_goto (tgt := 5) hx hb d_Packet_check_62 rfl ?_
                      exact ihlp_check (j + 1) y19 _ _ _ (Nat.lt_of_not_le fun h9 => h2 (nI_le h9 (by omega))) (by omega) (lv_sub hl [3, 4, 5, 2, 0] rfl) hP hD hS hq
                    have hv : ((if (y17 &&& 1) = 1 then ((y17 >>> (1 &&& 31)) ^^^ 224) else (y17 >>> (1 &&& 31))) : Int32) = (if (y17 &&& 1) = 1 then ((y17 >>> (1 &&& 31)) ^^^ 224) else (y17 >>> (1 &&& 31))) := rfl
                    refine lv_icmp_ne (tgt := 49) hx hb d_Packet_check_36 rfl (fun h20 => ?_) (fun h20 => ?_)
                    · replace hv := hv.trans (if_neg h20)
                      refine lv_iload_n hx hb d_Packet_check_49 rfl (lv_at hl 1 rfl) ?_
                      refine lv_iconst (v := 1) hx hb d_Packet_check_50 rfl ?_
                      refine lv_ishr hx hb d_Packet_check_51 ?_
                      exact J18 _ _ _ hv.symm hP hD hS
                    replace hv := hv.trans (if_pos h20)
                    refine lv_iload_n hx hb d_Packet_check_39 rfl (lv_at hl 1 rfl) ?_
                    refine lv_iconst (v := 1) hx hb d_Packet_check_40 rfl ?_
                    refine lv_ishr hx hb d_Packet_check_41 ?_
                    refine lv_sipush (v := 224) hx hb d_Packet_check_42 rfl ?_
                    refine lv_ixor hx hb d_Packet_check_45 ?_
                    refine lv_goto (tgt := 52) hx hb d_Packet_check_46 rfl ?_
                    exact J18 _ _ _ hv.symm hP hD hS
                  have hv : ((if (y15 &&& 1) = 1 then ((y15 >>> (1 &&& 31)) ^^^ 224) else (y15 >>> (1 &&& 31))) : Int32) = (if (y15 &&& 1) = 1 then ((y15 >>> (1 &&& 31)) ^^^ 224) else (y15 >>> (1 &&& 31))) := rfl
                  refine lv_icmp_ne (tgt := 49) hx hb d_Packet_check_36 rfl (fun h21 => ?_) (fun h21 => ?_)
                  · replace hv := hv.trans (if_neg h21)
                    refine lv_iload_n hx hb d_Packet_check_49 rfl (lv_at hl 1 rfl) ?_
                    refine lv_iconst (v := 1) hx hb d_Packet_check_50 rfl ?_
                    refine lv_ishr hx hb d_Packet_check_51 ?_
                    exact J16 _ _ _ hv.symm hP hD hS
                  replace hv := hv.trans (if_pos h21)
                  refine lv_iload_n hx hb d_Packet_check_39 rfl (lv_at hl 1 rfl) ?_
                  refine lv_iconst (v := 1) hx hb d_Packet_check_40 rfl ?_
                  refine lv_ishr hx hb d_Packet_check_41 ?_
                  refine lv_sipush (v := 224) hx hb d_Packet_check_42 rfl ?_
                  refine lv_ixor hx hb d_Packet_check_45 ?_
                  refine lv_goto (tgt := 52) hx hb d_Packet_check_46 rfl ?_
                  exact J16 _ _ _ hv.symm hP hD hS
                have hv : ((if (y13 &&& 1) = 1 then ((y13 >>> (1 &&& 31)) ^^^ 224) else (y13 >>> (1 &&& 31))) : Int32) = (if (y13 &&& 1) = 1 then ((y13 >>> (1 &&& 31)) ^^^ 224) else (y13 >>> (1 &&& 31))) := rfl
                refine lv_icmp_ne (tgt := 49) hx hb d_Packet_check_36 rfl (fun h22 => ?_) (fun h22 => ?_)
                · replace hv := hv.trans (if_neg h22)
                  refine lv_iload_n hx hb d_Packet_check_49 rfl (lv_at hl 1 rfl) ?_
                  refine lv_iconst (v := 1) hx hb d_Packet_check_50 rfl ?_
                  refine lv_ishr hx hb d_Packet_check_51 ?_
                  exact J14 _ _ _ hv.symm hP hD hS
                replace hv := hv.trans (if_pos h22)
                refine lv_iload_n hx hb d_Packet_check_39 rfl (lv_at hl 1 rfl) ?_
                refine lv_iconst (v := 1) hx hb d_Packet_check_40 rfl ?_
                refine lv_ishr hx hb d_Packet_check_41 ?_
                refine lv_sipush (v := 224) hx hb d_Packet_check_42 rfl ?_
                refine lv_ixor hx hb d_Packet_check_45 ?_
                refine lv_goto (tgt := 52) hx hb d_Packet_check_46 rfl ?_
                exact J14 _ _ _ hv.symm hP hD hS
              have hv : ((if (y11 &&& 1) = 1 then ((y11 >>> (1 &&& 31)) ^^^ 224) else (y11 >>> (1 &&& 31))) : Int32) = (if (y11 &&& 1) = 1 then ((y11 >>> (1 &&& 31)) ^^^ 224) else (y11 >>> (1 &&& 31))) := rfl
              refine lv_icmp_ne (tgt := 49) hx hb d_Packet_check_36 rfl (fun h23 => ?_) (fun h23 => ?_)
              · replace hv := hv.trans (if_neg h23)
                refine lv_iload_n hx hb d_Packet_check_49 rfl (lv_at hl 1 rfl) ?_
                refine lv_iconst (v := 1) hx hb d_Packet_check_50 rfl ?_
                refine lv_ishr hx hb d_Packet_check_51 ?_
                exact J12 _ _ _ hv.symm hP hD hS
              replace hv := hv.trans (if_pos h23)
              refine lv_iload_n hx hb d_Packet_check_39 rfl (lv_at hl 1 rfl) ?_
              refine lv_iconst (v := 1) hx hb d_Packet_check_40 rfl ?_
              refine lv_ishr hx hb d_Packet_check_41 ?_
              refine lv_sipush (v := 224) hx hb d_Packet_check_42 rfl ?_
              refine lv_ixor hx hb d_Packet_check_45 ?_
              refine lv_goto (tgt := 52) hx hb d_Packet_check_46 rfl ?_
              exact J12 _ _ _ hv.symm hP hD hS
            have hv : ((if (y9 &&& 1) = 1 then ((y9 >>> (1 &&& 31)) ^^^ 224) else (y9 >>> (1 &&& 31))) : Int32) = (if (y9 &&& 1) = 1 then ((y9 >>> (1 &&& 31)) ^^^ 224) else (y9 >>> (1 &&& 31))) := rfl
            refine lv_icmp_ne (tgt := 49) hx hb d_Packet_check_36 rfl (fun h24 => ?_) (fun h24 => ?_)
            · replace hv := hv.trans (if_neg h24)
              refine lv_iload_n hx hb d_Packet_check_49 rfl (lv_at hl 1 rfl) ?_
              refine lv_iconst (v := 1) hx hb d_Packet_check_50 rfl ?_
              refine lv_ishr hx hb d_Packet_check_51 ?_
              exact J10 _ _ _ hv.symm hP hD hS
            replace hv := hv.trans (if_pos h24)
            refine lv_iload_n hx hb d_Packet_check_39 rfl (lv_at hl 1 rfl) ?_
            refine lv_iconst (v := 1) hx hb d_Packet_check_40 rfl ?_
            refine lv_ishr hx hb d_Packet_check_41 ?_
            refine lv_sipush (v := 224) hx hb d_Packet_check_42 rfl ?_
            refine lv_ixor hx hb d_Packet_check_45 ?_
            refine lv_goto (tgt := 52) hx hb d_Packet_check_46 rfl ?_
            exact J10 _ _ _ hv.symm hP hD hS
          have hv : ((if (y7 &&& 1) = 1 then ((y7 >>> (1 &&& 31)) ^^^ 224) else (y7 >>> (1 &&& 31))) : Int32) = (if (y7 &&& 1) = 1 then ((y7 >>> (1 &&& 31)) ^^^ 224) else (y7 >>> (1 &&& 31))) := rfl
          refine lv_icmp_ne (tgt := 49) hx hb d_Packet_check_36 rfl (fun h25 => ?_) (fun h25 => ?_)
          · replace hv := hv.trans (if_neg h25)
            refine lv_iload_n hx hb d_Packet_check_49 rfl (lv_at hl 1 rfl) ?_
            refine lv_iconst (v := 1) hx hb d_Packet_check_50 rfl ?_
            refine lv_ishr hx hb d_Packet_check_51 ?_
            exact J8 _ _ _ hv.symm hP hD hS
          replace hv := hv.trans (if_pos h25)
          refine lv_iload_n hx hb d_Packet_check_39 rfl (lv_at hl 1 rfl) ?_
          refine lv_iconst (v := 1) hx hb d_Packet_check_40 rfl ?_
          refine lv_ishr hx hb d_Packet_check_41 ?_
          refine lv_sipush (v := 224) hx hb d_Packet_check_42 rfl ?_
          refine lv_ixor hx hb d_Packet_check_45 ?_
          refine lv_goto (tgt := 52) hx hb d_Packet_check_46 rfl ?_
          exact J8 _ _ _ hv.symm hP hD hS
        have hv : ((if (y5 &&& 1) = 1 then ((y5 >>> (1 &&& 31)) ^^^ 224) else (y5 >>> (1 &&& 31))) : Int32) = (if (y5 &&& 1) = 1 then ((y5 >>> (1 &&& 31)) ^^^ 224) else (y5 >>> (1 &&& 31))) := rfl
        refine lv_icmp_ne (tgt := 49) hx hb d_Packet_check_36 rfl (fun h26 => ?_) (fun h26 => ?_)
        · replace hv := hv.trans (if_neg h26)
          refine lv_iload_n hx hb d_Packet_check_49 rfl (lv_at hl 1 rfl) ?_
          refine lv_iconst (v := 1) hx hb d_Packet_check_50 rfl ?_
          refine lv_ishr hx hb d_Packet_check_51 ?_
          exact J6 _ _ _ hv.symm hP hD hS
        replace hv := hv.trans (if_pos h26)
        refine lv_iload_n hx hb d_Packet_check_39 rfl (lv_at hl 1 rfl) ?_
        refine lv_iconst (v := 1) hx hb d_Packet_check_40 rfl ?_
        refine lv_ishr hx hb d_Packet_check_41 ?_
        refine lv_sipush (v := 224) hx hb d_Packet_check_42 rfl ?_
        refine lv_ixor hx hb d_Packet_check_45 ?_
        refine lv_goto (tgt := 52) hx hb d_Packet_check_46 rfl ?_
        exact J6 _ _ _ hv.symm hP hD hS
      have hv : ((if ((x1 ^^^ (s_Packet_at n f k (nI (fr + j)))) &&& 1) = 1 then (((x1 ^^^ (s_Packet_at n f k (nI (fr + j)))) >>> (1 &&& 31)) ^^^ 224) else ((x1 ^^^ (s_Packet_at n f k (nI (fr + j)))) >>> (1 &&& 31))) : Int32) = (if ((x1 ^^^ (s_Packet_at n f k (nI (fr + j)))) &&& 1) = 1 then (((x1 ^^^ (s_Packet_at n f k (nI (fr + j)))) >>> (1 &&& 31)) ^^^ 224) else ((x1 ^^^ (s_Packet_at n f k (nI (fr + j)))) >>> (1 &&& 31))) := rfl
      refine lv_icmp_ne (tgt := 49) hx hb d_Packet_check_36 rfl (fun h27 => ?_) (fun h27 => ?_)
      · replace hv := hv.trans (if_neg h27)
        refine lv_iload_n hx hb d_Packet_check_49 rfl (lv_at hl 1 rfl) ?_
        refine lv_iconst (v := 1) hx hb d_Packet_check_50 rfl ?_
        refine lv_ishr hx hb d_Packet_check_51 ?_
        exact J4 _ _ _ hv.symm hP hD hS
      replace hv := hv.trans (if_pos h27)
      refine lv_iload_n hx hb d_Packet_check_39 rfl (lv_at hl 1 rfl) ?_
      refine lv_iconst (v := 1) hx hb d_Packet_check_40 rfl ?_
      refine lv_ishr hx hb d_Packet_check_41 ?_
      refine lv_sipush (v := 224) hx hb d_Packet_check_42 rfl ?_
      refine lv_ixor hx hb d_Packet_check_45 ?_
      refine lv_goto (tgt := 52) hx hb d_Packet_check_46 rfl ?_
      exact J4 _ _ _ hv.symm hP hD hS
  exact LPlp_check (ln - 0) 0 0 _ _ _ (by omega) (Nat.le_refl _) (lv_sub hl [2, 3, 4, 1, 0] rfl) hP hD hS hq

def s_Outlet_size (L : List Int32) : Int32 := nI L.length
abbrev rm_Outlet_size : Room := { frames := 0, cells := 0, slots := 0, locals := 0 }
set_option maxHeartbeats 4000000 in
set_option maxRecDepth 100000 in
theorem c_Outlet_size {l : Launch} {D : va_G} {cI cZ : ClassId} (L : List Int32) (h0 : Nat) (q : Nat) (a : Nat) (f : Nat → Int32) (i : Nat) (o : Int32) (t : Int32) (hR : Rep 64 f i L) (sz : Nat) : Met l y_Outlet_size (w_Outlet_size) rm_Outlet_size (va_Pc [.ref h0] (xPre xNs D vwCl cI cZ [(h0, .inr (2, [.ref q, .int o, .int t])), (q, .inr (0, [.ref a, .int (nI i), .int (nI L.length)])), (a, .inl (cI, 64, .inl f))] sz)) (va_Qi (fun (r : Int32) (u : Unit) => r = s_Outlet_size L) (fun u t9 => xAt D vwCl (va_A [(h0, .inr (2, [.ref q, .int o, .int t])), (q, .inr (0, [.ref a, .int (nI i), .int (nI L.length)])), (a, .inl (cI, 64, .inl f))] sz) [(h0, .inr (2, [.ref q, .int o, .int t])), (q, .inr (0, [.ref a, .int (nI i), .int (nI L.length)])), (a, .inl (cI, 64, .inl f))] t9) (va_A [(h0, .inr (2, [.ref q, .int o, .int t])), (q, .inr (0, [.ref a, .int (nI i), .int (nI L.length)])), (a, .inl (cI, 64, .inl f))] sz)) 0 0 (va_A [(h0, .inr (2, [.ref q, .int o, .int t])), (q, .inr (0, [.ref a, .int (nI i), .int (nI L.length)])), (a, .inl (cI, 64, .inl f))] sz) := by
  refine xBody_i (S := Unit) (cc := b_Outlet_size) (maxL := 1) (by decide) rfl (Nat.le_of_ble_eq_true rfl) ?_
  intro p e s m args below meth c A H ls Q hx hb hml hin hts hown hP hD hK hN hS hA hl hret
  replace hl : lv_has ls 1 [(0, .ref h0)] := hl
  have hin_Outlet : ∀ w ∈ u_ws R_Outlet F_Outlet 3, w ∈ (w_Outlet_size) := (fun w h => xm (lay_Outlet w h))
  have hin_Row : ∀ w ∈ u_ws R_Row F_Row 3, w ∈ (w_Outlet_size) := (fun w h => xm (lay_Row w h))
  have hq : s_Outlet_size L = (nI L.length) := rfl
  refine lv_aload_n hx hb d_Outlet_size_0 rfl (lv_at hl 0 rfl) ?_
  refine va_get (D := D) (ci := 2) (v := .ref q) (C := R_Outlet) (T := F_Outlet) (N := 3) hx hb hts hin_Outlet hown hK hP 0 rfl rfl 0 (by decide) (hts _ (xm ww_64)) (fun _ h9 => h9) rfl d_Outlet_size_1 ?_
  refine va_getN (D := D) (ci := 0) (v := .int (nI L.length)) (C := R_Row) (T := F_Row) (N := 3) hx hb hts hin_Row hown hK hP 1 rfl rfl 2 (by decide) (hN.use wn_39) (fun _ h9 => h9) rfl d_Outlet_size_4 ?_
  exact hret (nI L.length) () hq.symm _ _ _ _ hP hD hS d_Outlet_size_7

def s_Outlet_free (L : List Int32) : Int32 := s_Row_free 64 L
abbrev rm_Outlet_free : Room := { frames := 1, cells := 0, slots := 0, locals := 20 }
set_option maxHeartbeats 4000000 in
set_option maxRecDepth 100000 in
theorem c_Outlet_free {l : Launch} {D : va_G} {cI cZ : ClassId} (L : List Int32) (h0 : Nat) (q : Nat) (a : Nat) (f : Nat → Int32) (i : Nat) (o : Int32) (t : Int32) (hR : Rep 64 f i L) (sz : Nat) : Met l y_Outlet_free (w_Outlet_free) rm_Outlet_free (va_Pc [.ref h0] (xPre xNs D vwCl cI cZ [(h0, .inr (2, [.ref q, .int o, .int t])), (q, .inr (0, [.ref a, .int (nI i), .int (nI L.length)])), (a, .inl (cI, 64, .inl f))] sz)) (va_Qi (fun (r : Int32) (u : Unit) => r = s_Outlet_free L) (fun u t9 => xAt D vwCl (va_A [(h0, .inr (2, [.ref q, .int o, .int t])), (q, .inr (0, [.ref a, .int (nI i), .int (nI L.length)])), (a, .inl (cI, 64, .inl f))] sz) [(h0, .inr (2, [.ref q, .int o, .int t])), (q, .inr (0, [.ref a, .int (nI i), .int (nI L.length)])), (a, .inl (cI, 64, .inl f))] t9) (va_A [(h0, .inr (2, [.ref q, .int o, .int t])), (q, .inr (0, [.ref a, .int (nI i), .int (nI L.length)])), (a, .inl (cI, 64, .inl f))] sz)) 0 0 (va_A [(h0, .inr (2, [.ref q, .int o, .int t])), (q, .inr (0, [.ref a, .int (nI i), .int (nI L.length)])), (a, .inl (cI, 64, .inl f))] sz) := by
  refine xBody_i (S := Unit) (cc := b_Outlet_free) (maxL := 1) (by decide) rfl (Nat.le_of_ble_eq_true rfl) ?_
  intro p e s m args below meth c A H ls Q hx hb hml hin hts hown hP hD hK hN hS hA hl hret
  replace hl : lv_has ls 1 [(0, .ref h0)] := hl
  have hin_Outlet : ∀ w ∈ u_ws R_Outlet F_Outlet 3, w ∈ (w_Outlet_free) := (fun w h => xm (lay_Outlet w h))
  have hq : s_Outlet_free L = (s_Row_free 64 L) := rfl
  refine lv_aload_n hx hb d_Outlet_free_0 rfl (lv_at hl 0 rfl) ?_
  refine va_get (D := D) (ci := 2) (v := .ref q) (C := R_Outlet) (T := F_Outlet) (N := 3) hx hb hts hin_Outlet hown hK hP 0 rfl rfl 0 (by decide) (hts _ (xm ww_64)) (fun _ h9 => h9) rfl d_Outlet_free_1 ?_
  refine xcall_i (wc := [(q, .inr (0, [.ref a, .int (nI i), .int (nI L.length)])), (a, .inl (cI, 64, .inl f))]) (wr := [(h0, .inr (2, [.ref q, .int o, .int t]))]) (ws1 := fun (u : Unit) => [(h0, .inr (2, [.ref q, .int o, .int t])), (q, .inr (0, [.ref a, .int (nI i), .int (nI L.length)])), (a, .inl (cI, 64, .inl f))]) (va_runV (As := []) (rest := []) ⟨hx, hb, hml, hown, hts⟩ (c_Row_free 64 L q a f i hR H.size) (xcwV 0 hts ww_344 ww_341 ww_342 ww_343 ww_4 (by decide +kernel) rfl rfl ⟨Nat.le_of_ble_eq_true rfl, Nat.le_of_ble_eq_true rfl⟩) (xPreV (ci := 0) (q0 := 0) (q := (R_Row, F_Row, 3)) (hP.sub [1, 2] rfl) (hD.sub [1, 2] (by decide) rfl) hK hN rfl rfl rfl) rfl rfl hl.1 rfl (lv_room (Nat.le_of_ble_eq_true rfl)) d_Outlet_free_4 ⟨Nat.le_of_ble_eq_true rfl, Nat.le_of_ble_eq_true rfl⟩) hP hD hS hA [1, 2] [0] [0, 1, 2] rfl rfl (by decide) (by decide) (by decide) (fun _ => rfl) (fun r1 u1 H locs hw hP hD hS => ?_)
  subst hw
  replace hP : va_P D vwCl [(h0, .inr (2, [.ref q, .int o, .int t])), (q, .inr (0, [.ref a, .int (nI i), .int (nI L.length)])), (a, .inl (cI, 64, .inl f))] H := hP
  replace hD : va_D A [(h0, .inr (2, [.ref q, .int o, .int t])), (q, .inr (0, [.ref a, .int (nI i), .int (nI L.length)])), (a, .inl (cI, 64, .inl f))] := hD
  exact hret (s_Row_free 64 L) () hq.symm _ _ _ _ hP hD hS d_Outlet_free_7

def s_Outlet_accept (t : Int32) (L : List Int32) (c_ : Int32) : Int32 × List Int32 := if t = 0 then (bnd (s_Row_append 64 L c_) (fun L2 => (t, L2))) else (s_MemoryLink_isData c_, L)
abbrev rm_Outlet_accept : Room := { frames := 2, cells := 0, slots := 0, locals := 42 }
set_option maxHeartbeats 4000000 in
set_option maxRecDepth 100000 in
theorem c_Outlet_accept {l : Launch} {D : va_G} {cI cZ : ClassId} (t : Int32) (L : List Int32) (c_ : Int32) (h0 : Nat) (q : Nat) (a : Nat) (f : Nat → Int32) (i : Nat) (o : Int32) (hR : Rep 64 f i L) (sz : Nat) : Met l y_Outlet_accept (w_Outlet_accept) rm_Outlet_accept (va_Pc [.ref h0, .int c_] (xPre xNs D vwCl cI cZ [(h0, .inr (2, [.ref q, .int o, .int t])), (q, .inr (0, [.ref a, .int (nI i), .int (nI L.length)])), (a, .inl (cI, 64, .inl f))] sz)) (va_Qv (fun (u : Int32 × List Int32 × (Nat → Int32)) => (u.1, u.2.1) = s_Outlet_accept t L c_ ∧ Rep 64 u.2.2 i u.2.1) (fun u t9 => xAt D vwCl (va_A [(h0, .inr (2, [.ref q, .int o, .int t])), (q, .inr (0, [.ref a, .int (nI i), .int (nI L.length)])), (a, .inl (cI, 64, .inl f))] sz) [(h0, .inr (2, [.ref q, .int o, .int u.1])), (q, .inr (0, [.ref a, .int (nI i), .int (nI u.2.1.length)])), (a, .inl (cI, 64, .inl u.2.2))] t9) (va_A [(h0, .inr (2, [.ref q, .int o, .int t])), (q, .inr (0, [.ref a, .int (nI i), .int (nI L.length)])), (a, .inl (cI, 64, .inl f))] sz)) 0 0 (va_A [(h0, .inr (2, [.ref q, .int o, .int t])), (q, .inr (0, [.ref a, .int (nI i), .int (nI L.length)])), (a, .inl (cI, 64, .inl f))] sz) := by
  refine xBody_v (S := Int32 × List Int32 × (Nat → Int32)) (cc := b_Outlet_accept) (maxL := 2) (by decide) rfl (Nat.le_of_ble_eq_true rfl) ?_
  intro p e s m args below meth c A H ls Q hx hb hml hin hts hown hP hD hK hN hS hA hl hret
  replace hl : lv_has ls 2 [(0, .ref h0), (1, .int c_)] := hl
  have hin_Outlet : ∀ w ∈ u_ws R_Outlet F_Outlet 3, w ∈ (w_Outlet_accept) := (fun w h => xm (lay_Outlet w h))
  have hq : s_Outlet_accept t L c_ = (if t = 0 then (bnd (s_Row_append 64 L c_) (fun L2 => (t, L2))) else (s_MemoryLink_isData c_, L)) := rfl
  refine lv_aload_n hx hb d_Outlet_accept_0 rfl (lv_at hl 0 rfl) ?_
  refine va_get (D := D) (ci := 2) (v := .int t) (C := R_Outlet) (T := F_Outlet) (N := 3) hx hb hts hin_Outlet hown hK hP 0 rfl rfl 2 (by decide) (hts _ (xm ww_66)) (fun _ h9 => h9) rfl d_Outlet_accept_1 ?_
  refine lv_if_eq (tgt := 18) hx hb d_Outlet_accept_4 rfl (fun h1 => ?_) (fun h1 => ?_)
  · replace hq := hq.trans (if_pos h1)
    refine lv_aload_n hx hb d_Outlet_accept_18 rfl (lv_at hl 0 rfl) ?_
    refine va_get (D := D) (ci := 2) (v := .ref q) (C := R_Outlet) (T := F_Outlet) (N := 3) hx hb hts hin_Outlet hown hK hP 0 rfl rfl 0 (by decide) (hts _ (xm ww_64)) (fun _ h9 => h9) rfl d_Outlet_accept_19 ?_
    refine lv_iload_n hx hb d_Outlet_accept_22 rfl (lv_at hl 1 rfl) ?_
    refine xcall_v (wc := [(q, .inr (0, [.ref a, .int (nI i), .int (nI L.length)])), (a, .inl (cI, 64, .inl f))]) (wr := [(h0, .inr (2, [.ref q, .int o, .int t]))]) (ws1 := fun (u : List Int32 × (Nat → Int32)) => [(h0, .inr (2, [.ref q, .int o, .int t])), (q, .inr (0, [.ref a, .int (nI i), .int (nI u.1.length)])), (a, .inl (cI, 64, .inl u.2))]) (va_runV (As := [.int c_]) (rest := []) ⟨hx, hb, hml, hown, hts⟩ (c_Row_append 64 L c_ q a f i hR H.size) (xcwV 1 hts ww_260 ww_357 ww_258 ww_259 ww_4 (by decide +kernel) rfl rfl ⟨Nat.le_of_ble_eq_true rfl, Nat.le_of_ble_eq_true rfl⟩) (xPreV (ci := 0) (q0 := 0) (q := (R_Row, F_Row, 3)) (hP.sub [1, 2] rfl) (hD.sub [1, 2] (by decide) rfl) hK hN rfl rfl rfl) rfl rfl hl.1 rfl (lv_room (Nat.le_of_ble_eq_true rfl)) d_Outlet_accept_23 ⟨Nat.le_of_ble_eq_true rfl, Nat.le_of_ble_eq_true rfl⟩) hP hD hS hA [1, 2] [0] [0, 1, 2] rfl rfl (by decide) (by decide) (by decide) (fun _ => rfl) (fun u2 H locs hw hP hD hS => ?_)
    obtain ⟨L2, f2⟩ := u2
    obtain ⟨hw, hR_2⟩ := hw
    replace hP : va_P D vwCl [(h0, .inr (2, [.ref q, .int o, .int t])), (q, .inr (0, [.ref a, .int (nI i), .int (nI L2.length)])), (a, .inl (cI, 64, .inl f2))] H := hP
    replace hD : va_D A [(h0, .inr (2, [.ref q, .int o, .int t])), (q, .inr (0, [.ref a, .int (nI i), .int (nI L2.length)])), (a, .inl (cI, 64, .inl f2))] := hD
    have hw_2 := hw
    replace hq := hq.trans (bnd_eq hw)
    try dsimp only at hq
    exact hret (t, L2, f2) ⟨hq.symm, hR_2⟩ _ _ _ _ hP hD hS d_Outlet_accept_26
  replace hq := hq.trans (if_neg h1)
  refine lv_aload_n hx hb d_Outlet_accept_7 rfl (lv_at hl 0 rfl) ?_
  refine lv_iload_n hx hb d_Outlet_accept_8 rfl (lv_at hl 1 rfl) ?_
  refine xcall_i (wc := []) (wr := [(h0, .inr (2, [.ref q, .int o, .int t])), (q, .inr (0, [.ref a, .int (nI i), .int (nI L.length)])), (a, .inl (cI, 64, .inl f))]) (ws1 := fun (u : Unit) => [(h0, .inr (2, [.ref q, .int o, .int t])), (q, .inr (0, [.ref a, .int (nI i), .int (nI L.length)])), (a, .inl (cI, 64, .inl f))]) (va_runSN (As := [.int c_]) (rest := [.ref h0]) ⟨hx, hb, hml, hown, hts⟩ (c_MemoryLink_isData c_ H.size) (xcnS 1 hts hN ww_267 wn_288 ww_266 ww_1 (by decide +kernel) rfl rfl ⟨Nat.le_of_ble_eq_true rfl, Nat.le_of_ble_eq_true rfl⟩) (xPreS (hP.sub [] rfl) (hD.sub [] (by decide) rfl) hK hN) rfl rfl hl.1 rfl (lv_room (Nat.le_of_ble_eq_true rfl)) d_Outlet_accept_9 ⟨Nat.le_of_ble_eq_true rfl, Nat.le_of_ble_eq_true rfl⟩) hP hD hS hA [] [0, 1, 2] [0, 1, 2] rfl rfl (by decide) (by decide) (by decide) (fun _ => rfl) (fun r3 u3 H locs hw hP hD hS => ?_)
  obtain ⟨hw, hbr_3⟩ := hw
  subst hw
  replace hP : va_P D vwCl [(h0, .inr (2, [.ref q, .int o, .int t])), (q, .inr (0, [.ref a, .int (nI i), .int (nI L.length)])), (a, .inl (cI, 64, .inl f))] H := hP
  replace hD : va_D A [(h0, .inr (2, [.ref q, .int o, .int t])), (q, .inr (0, [.ref a, .int (nI i), .int (nI L.length)])), (a, .inl (cI, 64, .inl f))] := hD
  refine va_put (D := D) (ci := 2) (v := .int (s_MemoryLink_isData c_)) (ty := (.boolean)) (C := R_Outlet) (T := F_Outlet) (N := 3) hx hb hts hin_Outlet t_Outlet t_Outlet_ok n_Outlet hown hK hP hD hS 0 rfl rfl 2 (by decide) (hts _ (xm ww_66)) (fun _ h9 => h9) rfl (by decide +kernel) (xB_n hbr_3) (xB_f hbr_3) (Nat.le_of_ble_eq_true rfl) d_Outlet_accept_12 (fun H locs hP hD hS => ?_)
  replace hP : va_P D vwCl [(h0, .inr (2, [.ref q, .int o, .int (s_MemoryLink_isData c_)])), (q, .inr (0, [.ref a, .int (nI i), .int (nI L.length)])), (a, .inl (cI, 64, .inl f))] H := hP
  replace hD : va_D A [(h0, .inr (2, [.ref q, .int o, .int (s_MemoryLink_isData c_)])), (q, .inr (0, [.ref a, .int (nI i), .int (nI L.length)])), (a, .inl (cI, 64, .inl f))] := hD
  refine lv_goto (tgt := 26) hx hb d_Outlet_accept_15 rfl ?_
  exact hret (s_MemoryLink_isData c_, L, f) ⟨hq.symm, hR⟩ _ _ _ _ hP hD hS d_Outlet_accept_26

def lp_acceptAll (n : Nat) (fp : Nat → Int32) (kp : Nat) : Nat → Nat → Int32 → List Int32 → Int32 × List Int32
  | 0, j, t1, L1 => (t1, L1)
  | nlp_acceptAll + 1, j, t1, L1 => if (nI kp) ≤ (nI j) then (t1, L1) else (bnd2 (s_Outlet_accept t1 L1 (s_Packet_at n fp kp (nI j))) (fun t4 L4 => lp_acceptAll n fp kp nlp_acceptAll (j + 1) t4 L4))
def s_Outlet_acceptAll (n : Nat) (fp : Nat → Int32) (kp : Nat) (t : Int32) (L : List Int32) : Int32 × List Int32 := lp_acceptAll n fp kp (kp - 0) 0 t L
abbrev rm_Outlet_acceptAll : Room := { frames := 3, cells := 0, slots := 0, locals := 63 }
set_option maxHeartbeats 4000000 in
set_option maxRecDepth 100000 in
theorem c_Outlet_acceptAll {l : Launch} {D : va_G} {cI cZ : ClassId} (n : Nat) (fp : Nat → Int32) (kp : Nat) (t : Int32) (L : List Int32) (h0 : Nat) (q : Nat) (a : Nat) (f : Nat → Int32) (i : Nat) (o : Int32) (hp : Nat) (pa : Nat) (hR : Rep 64 f i L) (hn : n ≤ 64) (hkp : kp < 1048576) (sz : Nat) : Met l y_Outlet_acceptAll (w_Outlet_acceptAll) rm_Outlet_acceptAll (va_Pc [.ref h0, .ref hp] (xPre xNs D vwCl cI cZ [(h0, .inr (2, [.ref q, .int o, .int t])), (q, .inr (0, [.ref a, .int (nI i), .int (nI L.length)])), (a, .inl (cI, 64, .inl f)), (hp, .inr (3, [.ref pa, .int (nI kp)])), (pa, .inl (cI, n, .inl fp))] sz)) (va_Qv (fun (u : Int32 × List Int32 × (Nat → Int32)) => (u.1, u.2.1) = s_Outlet_acceptAll n fp kp t L ∧ Rep 64 u.2.2 i u.2.1) (fun u t9 => xAt D vwCl (va_A [(h0, .inr (2, [.ref q, .int o, .int t])), (q, .inr (0, [.ref a, .int (nI i), .int (nI L.length)])), (a, .inl (cI, 64, .inl f)), (hp, .inr (3, [.ref pa, .int (nI kp)])), (pa, .inl (cI, n, .inl fp))] sz) [(h0, .inr (2, [.ref q, .int o, .int u.1])), (q, .inr (0, [.ref a, .int (nI i), .int (nI u.2.1.length)])), (a, .inl (cI, 64, .inl u.2.2)), (hp, .inr (3, [.ref pa, .int (nI kp)])), (pa, .inl (cI, n, .inl fp))] t9) (va_A [(h0, .inr (2, [.ref q, .int o, .int t])), (q, .inr (0, [.ref a, .int (nI i), .int (nI L.length)])), (a, .inl (cI, 64, .inl f)), (hp, .inr (3, [.ref pa, .int (nI kp)])), (pa, .inl (cI, n, .inl fp))] sz)) 0 0 (va_A [(h0, .inr (2, [.ref q, .int o, .int t])), (q, .inr (0, [.ref a, .int (nI i), .int (nI L.length)])), (a, .inl (cI, 64, .inl f)), (hp, .inr (3, [.ref pa, .int (nI kp)])), (pa, .inl (cI, n, .inl fp))] sz) := by
  refine xBody_v (S := Int32 × List Int32 × (Nat → Int32)) (cc := b_Outlet_acceptAll) (maxL := 3) (by decide) rfl (Nat.le_of_ble_eq_true rfl) ?_
  intro p e s m args below meth c A H ls Q hx hb hml hin hts hown hP hD hK hN hS hA hl hret
  replace hl : lv_has ls 3 [(0, .ref h0), (1, .ref hp)] := hl
  have hin_Packet : ∀ w ∈ u_ws R_Packet F_Packet 2, w ∈ (w_Outlet_acceptAll) := (fun w h => xm (lay_Packet w h))
  have hq : s_Outlet_acceptAll n fp kp t L = (lp_acceptAll n fp kp (kp - 0) 0 t L) := rfl
  refine lv_iconst (v := 0) hx hb d_Outlet_acceptAll_0 rfl ?_
  refine lv_istore_n hx hb d_Outlet_acceptAll_1 rfl hl (by decide) rfl (fun ls hl => ?_)
  replace hl : lv_has ls 3 [(2, .int 0), (0, .ref h0), (1, .ref hp)] := hl
  have LPlp_acceptAll : ∀ (nlp_acceptAll : Nat) (j : Nat) (t1 : Int32) (L1 : List Int32) (f1 : Nat → Int32) (ls : Array Slot) (H : Heap) (locs : List Loc), Rep 64 f1 i L1 → j ≤ kp → kp - j ≤ nlp_acceptAll → lv_has ls 3 [(0, .ref h0), (1, .ref hp), (2, .int (nI j))] → va_P D vwCl [(h0, .inr (2, [.ref q, .int o, .int t1])), (q, .inr (0, [.ref a, .int (nI i), .int (nI L1.length)])), (a, .inl (cI, 64, .inl f1)), (hp, .inr (3, [.ref pa, .int (nI kp)])), (pa, .inl (cI, n, .inl fp))] H → va_D A [(h0, .inr (2, [.ref q, .int o, .int t1])), (q, .inr (0, [.ref a, .int (nI i), .int (nI L1.length)])), (a, .inl (cI, 64, .inl f1)), (hp, .inr (3, [.ref pa, .int (nI kp)])), (pa, .inl (cI, n, .inl fp))] → va_S A s.heap H locs → s_Outlet_acceptAll n fp kp t L = lp_acceptAll n fp kp nlp_acceptAll j t1 L1 → W p l e rm_Outlet_acceptAll s m args below meth c H locs 0 0 Q (F0 m 2 ls []) := by
    intro nlp_acceptAll
    induction nlp_acceptAll with
    | zero =>
      intro j t1 L1 f1 ls H locs hR1 hj hmlp_acceptAll hl hP hD hS hq
      replace hq : s_Outlet_acceptAll n fp kp t L = ((t1, L1)) := hq
      refine lv_iload_n hx hb d_Outlet_acceptAll_2 rfl (lv_at hl 2 rfl) ?_
      refine lv_aload_n hx hb d_Outlet_acceptAll_3 rfl (lv_at hl 1 rfl) ?_
      refine va_getN (D := D) (ci := 3) (v := .int (nI kp)) (C := R_Packet) (T := F_Packet) (N := 2) hx hb hts hin_Packet hown hK hP 3 rfl rfl 1 (by decide) (hN.use wn_157) (fun _ h9 => h9) rfl d_Outlet_acceptAll_4 ?_
      refine lv_icmp_ge (tgt := 25) hx hb d_Outlet_acceptAll_7 rfl (fun h1 => ?_) (fun h1 => ?_)
      rotate_left
      · exact absurd (nI_le (by omega) (by omega)) h1
      exact hret (t1, L1, f1) ⟨hq.symm, hR1⟩ _ _ _ _ hP hD hS d_Outlet_acceptAll_25
    | succ nlp_acceptAll ihlp_acceptAll =>
      intro j t1 L1 f1 ls H locs hR1 hj hmlp_acceptAll hl hP hD hS hq
      replace hq : s_Outlet_acceptAll n fp kp t L = (if (nI kp) ≤ (nI j) then (t1, L1) else (bnd2 (s_Outlet_accept t1 L1 (s_Packet_at n fp kp (nI j))) (fun t4 L4 => lp_acceptAll n fp kp nlp_acceptAll (j + 1) t4 L4))) := hq
      refine lv_iload_n hx hb d_Outlet_acceptAll_2 rfl (lv_at hl 2 rfl) ?_
      refine lv_aload_n hx hb d_Outlet_acceptAll_3 rfl (lv_at hl 1 rfl) ?_
      refine va_getN (D := D) (ci := 3) (v := .int (nI kp)) (C := R_Packet) (T := F_Packet) (N := 2) hx hb hts hin_Packet hown hK hP 3 rfl rfl 1 (by decide) (hN.use wn_157) (fun _ h9 => h9) rfl d_Outlet_acceptAll_4 ?_
      refine lv_icmp_ge (tgt := 25) hx hb d_Outlet_acceptAll_7 rfl (fun h2 => ?_) (fun h2 => ?_)
      · replace hq := hq.trans (if_pos h2)
        exact hret (t1, L1, f1) ⟨hq.symm, hR1⟩ _ _ _ _ hP hD hS d_Outlet_acceptAll_25
      replace hq := hq.trans (if_neg h2)
      refine lv_aload_n hx hb d_Outlet_acceptAll_10 rfl (lv_at hl 0 rfl) ?_
      refine lv_aload_n hx hb d_Outlet_acceptAll_11 rfl (lv_at hl 1 rfl) ?_
      refine lv_iload_n hx hb d_Outlet_acceptAll_12 rfl (lv_at hl 2 rfl) ?_
      refine xcall_i (wc := [(hp, .inr (3, [.ref pa, .int (nI kp)])), (pa, .inl (cI, n, .inl fp))]) (wr := [(h0, .inr (2, [.ref q, .int o, .int t1])), (q, .inr (0, [.ref a, .int (nI i), .int (nI L1.length)])), (a, .inl (cI, 64, .inl f1))]) (ws1 := fun (u : Unit) => [(h0, .inr (2, [.ref q, .int o, .int t1])), (q, .inr (0, [.ref a, .int (nI i), .int (nI L1.length)])), (a, .inl (cI, 64, .inl f1)), (hp, .inr (3, [.ref pa, .int (nI kp)])), (pa, .inl (cI, n, .inl fp))]) (va_runV (As := [.int (nI j)]) (rest := [.ref h0]) ⟨hx, hb, hml, hown, hts⟩ (c_Packet_at n fp kp (nI j) hp pa hn H.size) (xcwV 1 hts ww_352 ww_349 ww_350 ww_351 ww_7 (by decide +kernel) rfl rfl ⟨Nat.le_of_ble_eq_true rfl, Nat.le_of_ble_eq_true rfl⟩) (xPreV (ci := 3) (q0 := 0) (q := (R_Packet, F_Packet, 2)) (hP.sub [3, 4] rfl) (hD.sub [3, 4] (by decide) rfl) hK hN rfl rfl rfl) rfl rfl hl.1 rfl (lv_room (Nat.le_of_ble_eq_true rfl)) d_Outlet_acceptAll_13 ⟨Nat.le_of_ble_eq_true rfl, Nat.le_of_ble_eq_true rfl⟩) hP hD hS hA [3, 4] [0, 1, 2] [0, 1, 2, 3, 4] rfl rfl (by decide) (by decide) (by decide) (fun _ => rfl) (fun r3 u3 H locs hw hP hD hS => ?_)
      subst hw
      replace hP : va_P D vwCl [(h0, .inr (2, [.ref q, .int o, .int t1])), (q, .inr (0, [.ref a, .int (nI i), .int (nI L1.length)])), (a, .inl (cI, 64, .inl f1)), (hp, .inr (3, [.ref pa, .int (nI kp)])), (pa, .inl (cI, n, .inl fp))] H := hP
      replace hD : va_D A [(h0, .inr (2, [.ref q, .int o, .int t1])), (q, .inr (0, [.ref a, .int (nI i), .int (nI L1.length)])), (a, .inl (cI, 64, .inl f1)), (hp, .inr (3, [.ref pa, .int (nI kp)])), (pa, .inl (cI, n, .inl fp))] := hD
      refine xcall_v (wc := [(h0, .inr (2, [.ref q, .int o, .int t1])), (q, .inr (0, [.ref a, .int (nI i), .int (nI L1.length)])), (a, .inl (cI, 64, .inl f1))]) (wr := [(hp, .inr (3, [.ref pa, .int (nI kp)])), (pa, .inl (cI, n, .inl fp))]) (ws1 := fun (u : Int32 × List Int32 × (Nat → Int32)) => [(h0, .inr (2, [.ref q, .int o, .int u.1])), (q, .inr (0, [.ref a, .int (nI i), .int (nI u.2.1.length)])), (a, .inl (cI, 64, .inl u.2.2)), (hp, .inr (3, [.ref pa, .int (nI kp)])), (pa, .inl (cI, n, .inl fp))]) (va_runV (As := [.int (s_Packet_at n fp kp (nI j))]) (rest := []) ⟨hx, hb, hml, hown, hts⟩ (c_Outlet_accept t1 L1 (s_Packet_at n fp kp (nI j)) h0 q a f1 i o hR1 H.size) (xcwV 1 hts ww_356 ww_353 ww_354 ww_355 ww_5 (by decide +kernel) rfl rfl ⟨Nat.le_of_ble_eq_true rfl, Nat.le_of_ble_eq_true rfl⟩) (xPreV (ci := 2) (q0 := 0) (q := (R_Outlet, F_Outlet, 3)) (hP.sub [0, 1, 2] rfl) (hD.sub [0, 1, 2] (by decide) rfl) hK hN rfl rfl rfl) rfl rfl hl.1 rfl (lv_room (Nat.le_of_ble_eq_true rfl)) d_Outlet_acceptAll_16 ⟨Nat.le_of_ble_eq_true rfl, Nat.le_of_ble_eq_true rfl⟩) hP hD hS hA [0, 1, 2] [3, 4] [2, 3, 4, 0, 1] rfl rfl (by decide) (by decide) (by decide) (fun _ => rfl) (fun u4 H locs hw hP hD hS => ?_)
      obtain ⟨t4, L4, f4⟩ := u4
      obtain ⟨hw, hR_4⟩ := hw
      replace hP : va_P D vwCl [(h0, .inr (2, [.ref q, .int o, .int t4])), (q, .inr (0, [.ref a, .int (nI i), .int (nI L4.length)])), (a, .inl (cI, 64, .inl f4)), (hp, .inr (3, [.ref pa, .int (nI kp)])), (pa, .inl (cI, n, .inl fp))] H := hP
      replace hD : va_D A [(h0, .inr (2, [.ref q, .int o, .int t4])), (q, .inr (0, [.ref a, .int (nI i), .int (nI L4.length)])), (a, .inl (cI, 64, .inl f4)), (hp, .inr (3, [.ref pa, .int (nI kp)])), (pa, .inl (cI, n, .inl fp))] := hD
      have hw_4 := hw
      replace hq := hq.trans (bnd2_eq hw)
      try dsimp only at hq
      refine lv_iinc (k := 2) (v := nI (j + 1)) hx hb d_Outlet_acceptAll_19 hl rfl (nI_1 j) (by decide) rfl (fun ls hl => ?_)
      replace hl : lv_has ls 3 [(2, .int (nI (j + 1))), (0, .ref h0), (1, .ref hp)] := hl
      refine lv_goto (tgt := 2) hx hb d_Outlet_acceptAll_22 rfl ?_
      exact ihlp_acceptAll (j + 1) t4 L4 f4 _ _ _ hR_4 (Nat.lt_of_not_le fun h9 => h2 (nI_le h9 (by omega))) (by omega) (lv_sub hl [1, 2, 0] rfl) hP hD hS hq
  exact LPlp_acceptAll (kp - 0) 0 t L f _ _ _ hR (by omega) (Nat.le_refl _) (lv_sub hl [1, 2, 0] rfl) hP hD hS hq

def s_Outlet_removeFirst (L : List Int32) : Int32 × Int32 × List Int32 := bnd2 (s_Row_removeFirst L) (fun r1 L1 => (r1, s_MemoryLink_isData r1, L1))
abbrev rm_Outlet_removeFirst : Room := { frames := 2, cells := 0, slots := 0, locals := 42 }
set_option maxHeartbeats 4000000 in
set_option maxRecDepth 100000 in
theorem c_Outlet_removeFirst {l : Launch} {D : va_G} {cI cZ : ClassId} (L : List Int32) (h0 : Nat) (q : Nat) (a : Nat) (f : Nat → Int32) (i : Nat) (o : Int32) (t : Int32) (hR : Rep 64 f i L) (sz : Nat) : Met l y_Outlet_removeFirst (w_Outlet_removeFirst) rm_Outlet_removeFirst (va_Pc [.ref h0] (xPre xNs D vwCl cI cZ [(h0, .inr (2, [.ref q, .int o, .int t])), (q, .inr (0, [.ref a, .int (nI i), .int (nI L.length)])), (a, .inl (cI, 64, .inl f))] sz)) (va_Qi (fun (r : Int32) (u : Int32 × List Int32 × Nat) => (r, u.1, u.2.1) = s_Outlet_removeFirst L ∧ Rep 64 f u.2.2 u.2.1) (fun u t9 => xAt D vwCl (va_A [(h0, .inr (2, [.ref q, .int o, .int t])), (q, .inr (0, [.ref a, .int (nI i), .int (nI L.length)])), (a, .inl (cI, 64, .inl f))] sz) [(h0, .inr (2, [.ref q, .int u.1, .int t])), (q, .inr (0, [.ref a, .int (nI u.2.2), .int (nI u.2.1.length)])), (a, .inl (cI, 64, .inl f))] t9) (va_A [(h0, .inr (2, [.ref q, .int o, .int t])), (q, .inr (0, [.ref a, .int (nI i), .int (nI L.length)])), (a, .inl (cI, 64, .inl f))] sz)) 0 0 (va_A [(h0, .inr (2, [.ref q, .int o, .int t])), (q, .inr (0, [.ref a, .int (nI i), .int (nI L.length)])), (a, .inl (cI, 64, .inl f))] sz) := by
  refine xBody_i (S := Int32 × List Int32 × Nat) (cc := b_Outlet_removeFirst) (maxL := 2) (by decide) rfl (Nat.le_of_ble_eq_true rfl) ?_
  intro p e s m args below meth c A H ls Q hx hb hml hin hts hown hP hD hK hN hS hA hl hret
  replace hl : lv_has ls 2 [(0, .ref h0)] := hl
  have hin_Outlet : ∀ w ∈ u_ws R_Outlet F_Outlet 3, w ∈ (w_Outlet_removeFirst) := (fun w h => xm (lay_Outlet w h))
  have hq : s_Outlet_removeFirst L = (bnd2 (s_Row_removeFirst L) (fun r1 L1 => (r1, s_MemoryLink_isData r1, L1))) := rfl
  refine lv_aload_n hx hb d_Outlet_removeFirst_0 rfl (lv_at hl 0 rfl) ?_
  refine va_get (D := D) (ci := 2) (v := .ref q) (C := R_Outlet) (T := F_Outlet) (N := 3) hx hb hts hin_Outlet hown hK hP 0 rfl rfl 0 (by decide) (hts _ (xm ww_64)) (fun _ h9 => h9) rfl d_Outlet_removeFirst_1 ?_
  refine xcall_i (wc := [(q, .inr (0, [.ref a, .int (nI i), .int (nI L.length)])), (a, .inl (cI, 64, .inl f))]) (wr := [(h0, .inr (2, [.ref q, .int o, .int t]))]) (ws1 := fun (u : List Int32 × Nat) => [(h0, .inr (2, [.ref q, .int o, .int t])), (q, .inr (0, [.ref a, .int (nI u.2), .int (nI u.1.length)])), (a, .inl (cI, 64, .inl f))]) (va_runV (As := []) (rest := []) ⟨hx, hb, hml, hown, hts⟩ (c_Row_removeFirst L 64 q a f i hR H.size) (xcwV 0 hts ww_287 ww_284 ww_285 ww_286 ww_4 (by decide +kernel) rfl rfl ⟨Nat.le_of_ble_eq_true rfl, Nat.le_of_ble_eq_true rfl⟩) (xPreV (ci := 0) (q0 := 0) (q := (R_Row, F_Row, 3)) (hP.sub [1, 2] rfl) (hD.sub [1, 2] (by decide) rfl) hK hN rfl rfl rfl) rfl rfl hl.1 rfl (lv_room (Nat.le_of_ble_eq_true rfl)) d_Outlet_removeFirst_4 ⟨Nat.le_of_ble_eq_true rfl, Nat.le_of_ble_eq_true rfl⟩) hP hD hS hA [1, 2] [0] [0, 1, 2] rfl rfl (by decide) (by decide) (by decide) (fun _ => rfl) (fun r1 u1 H locs hw hP hD hS => ?_)
  obtain ⟨L1, i1⟩ := u1
  obtain ⟨hw, hR_1⟩ := hw
  replace hP : va_P D vwCl [(h0, .inr (2, [.ref q, .int o, .int t])), (q, .inr (0, [.ref a, .int (nI i1), .int (nI L1.length)])), (a, .inl (cI, 64, .inl f))] H := hP
  replace hD : va_D A [(h0, .inr (2, [.ref q, .int o, .int t])), (q, .inr (0, [.ref a, .int (nI i1), .int (nI L1.length)])), (a, .inl (cI, 64, .inl f))] := hD
  have hw_1 := hw
  replace hq := hq.trans (bnd2_eq hw)
  try dsimp only at hq
  refine lv_istore_n hx hb d_Outlet_removeFirst_7 rfl hl (by decide) rfl (fun ls hl => ?_)
  replace hl : lv_has ls 2 [(1, .int r1), (0, .ref h0)] := hl
  refine lv_aload_n hx hb d_Outlet_removeFirst_8 rfl (lv_at hl 1 rfl) ?_
  refine lv_iload_n hx hb d_Outlet_removeFirst_9 rfl (lv_at hl 0 rfl) ?_
  refine xcall_i (wc := []) (wr := [(h0, .inr (2, [.ref q, .int o, .int t])), (q, .inr (0, [.ref a, .int (nI i1), .int (nI L1.length)])), (a, .inl (cI, 64, .inl f))]) (ws1 := fun (u : Unit) => [(h0, .inr (2, [.ref q, .int o, .int t])), (q, .inr (0, [.ref a, .int (nI i1), .int (nI L1.length)])), (a, .inl (cI, 64, .inl f))]) (va_runSN (As := [.int r1]) (rest := [.ref h0]) ⟨hx, hb, hml, hown, hts⟩ (c_MemoryLink_isData r1 H.size) (xcnS 1 hts hN ww_267 wn_288 ww_266 ww_1 (by decide +kernel) rfl rfl ⟨Nat.le_of_ble_eq_true rfl, Nat.le_of_ble_eq_true rfl⟩) (xPreS (hP.sub [] rfl) (hD.sub [] (by decide) rfl) hK hN) rfl rfl hl.1 rfl (lv_room (Nat.le_of_ble_eq_true rfl)) d_Outlet_removeFirst_10 ⟨Nat.le_of_ble_eq_true rfl, Nat.le_of_ble_eq_true rfl⟩) hP hD hS hA [] [0, 1, 2] [0, 1, 2] rfl rfl (by decide) (by decide) (by decide) (fun _ => rfl) (fun r2 u2 H locs hw hP hD hS => ?_)
  obtain ⟨hw, hbr_2⟩ := hw
  subst hw
  replace hP : va_P D vwCl [(h0, .inr (2, [.ref q, .int o, .int t])), (q, .inr (0, [.ref a, .int (nI i1), .int (nI L1.length)])), (a, .inl (cI, 64, .inl f))] H := hP
  replace hD : va_D A [(h0, .inr (2, [.ref q, .int o, .int t])), (q, .inr (0, [.ref a, .int (nI i1), .int (nI L1.length)])), (a, .inl (cI, 64, .inl f))] := hD
  refine va_put (D := D) (ci := 2) (v := .int (s_MemoryLink_isData r1)) (ty := (.boolean)) (C := R_Outlet) (T := F_Outlet) (N := 3) hx hb hts hin_Outlet t_Outlet t_Outlet_ok n_Outlet hown hK hP hD hS 0 rfl rfl 1 (by decide) (hts _ (xm ww_65)) (fun _ h9 => h9) rfl (by decide +kernel) (xB_n hbr_2) (xB_f hbr_2) (Nat.le_of_ble_eq_true rfl) d_Outlet_removeFirst_13 (fun H locs hP hD hS => ?_)
  replace hP : va_P D vwCl [(h0, .inr (2, [.ref q, .int (s_MemoryLink_isData r1), .int t])), (q, .inr (0, [.ref a, .int (nI i1), .int (nI L1.length)])), (a, .inl (cI, 64, .inl f))] H := hP
  replace hD : va_D A [(h0, .inr (2, [.ref q, .int (s_MemoryLink_isData r1), .int t])), (q, .inr (0, [.ref a, .int (nI i1), .int (nI L1.length)])), (a, .inl (cI, 64, .inl f))] := hD
  refine lv_iload_n hx hb d_Outlet_removeFirst_16 rfl (lv_at hl 0 rfl) ?_
  exact hret r1 (s_MemoryLink_isData r1, L1, i1) ⟨hq.symm, hR_1⟩ _ _ _ _ hP hD hS d_Outlet_removeFirst_17

def lp_breakOff  : Nat → Nat → Int32 → List Int32 → Int32 × Int32 × List Int32
  | 0, w, t1, L1 => (0, t1, L1)
  | nlp_breakOff + 1, w, t1, L1 => if (nI w) ≤ 0 then (0, t1, L1) else (if t1 = 0 then (0, t1, L1) else (bnd2 (s_Row_removeFirst L1) (fun r5 L5 => lp_breakOff nlp_breakOff (w - 1) (s_MemoryLink_isData r5) L5)))
def s_Outlet_breakOff (o : Int32) (t : Int32) (L : List Int32) : Int32 × Int32 × List Int32 := if o = 0 then (o, t, L) else (lp_breakOff L.length L.length 1 L)
abbrev rm_Outlet_breakOff : Room := { frames := 2, cells := 0, slots := 0, locals := 42 }
set_option maxHeartbeats 4000000 in
set_option maxRecDepth 100000 in
theorem c_Outlet_breakOff {l : Launch} {D : va_G} {cI cZ : ClassId} (o : Int32) (t : Int32) (L : List Int32) (h0 : Nat) (q : Nat) (a : Nat) (f : Nat → Int32) (i : Nat) (hR : Rep 64 f i L) (sz : Nat) : Met l y_Outlet_breakOff (w_Outlet_breakOff) rm_Outlet_breakOff (va_Pc [.ref h0] (xPre xNs D vwCl cI cZ [(h0, .inr (2, [.ref q, .int o, .int t])), (q, .inr (0, [.ref a, .int (nI i), .int (nI L.length)])), (a, .inl (cI, 64, .inl f))] sz)) (va_Qv (fun (u : Int32 × Int32 × List Int32 × Nat) => (u.1, u.2.1, u.2.2.1) = s_Outlet_breakOff o t L ∧ Rep 64 f u.2.2.2 u.2.2.1) (fun u t9 => xAt D vwCl (va_A [(h0, .inr (2, [.ref q, .int o, .int t])), (q, .inr (0, [.ref a, .int (nI i), .int (nI L.length)])), (a, .inl (cI, 64, .inl f))] sz) [(h0, .inr (2, [.ref q, .int u.1, .int u.2.1])), (q, .inr (0, [.ref a, .int (nI u.2.2.2), .int (nI u.2.2.1.length)])), (a, .inl (cI, 64, .inl f))] t9) (va_A [(h0, .inr (2, [.ref q, .int o, .int t])), (q, .inr (0, [.ref a, .int (nI i), .int (nI L.length)])), (a, .inl (cI, 64, .inl f))] sz)) 0 0 (va_A [(h0, .inr (2, [.ref q, .int o, .int t])), (q, .inr (0, [.ref a, .int (nI i), .int (nI L.length)])), (a, .inl (cI, 64, .inl f))] sz) := by
  refine xBody_v (S := Int32 × Int32 × List Int32 × Nat) (cc := b_Outlet_breakOff) (maxL := 2) (by decide) rfl (Nat.le_of_ble_eq_true rfl) ?_
  intro p e s m args below meth c A H ls Q hx hb hml hin hts hown hP hD hK hN hS hA hl hret
  replace hl : lv_has ls 2 [(0, .ref h0)] := hl
  have hin_Outlet : ∀ w ∈ u_ws R_Outlet F_Outlet 3, w ∈ (w_Outlet_breakOff) := (fun w h => xm (lay_Outlet w h))
  have hin_Row : ∀ w ∈ u_ws R_Row F_Row 3, w ∈ (w_Outlet_breakOff) := (fun w h => xm (lay_Row w h))
  have hq : s_Outlet_breakOff o t L = (if o = 0 then (o, t, L) else (lp_breakOff L.length L.length 1 L)) := rfl
  refine lv_aload_n hx hb d_Outlet_breakOff_0 rfl (lv_at hl 0 rfl) ?_
  refine va_get (D := D) (ci := 2) (v := .int o) (C := R_Outlet) (T := F_Outlet) (N := 3) hx hb hts hin_Outlet hown hK hP 0 rfl rfl 1 (by decide) (hts _ (xm ww_65)) (fun _ h9 => h9) rfl d_Outlet_breakOff_1 ?_
  refine lv_if_ne (tgt := 8) hx hb d_Outlet_breakOff_4 rfl (fun h1 => ?_) (fun h1 => ?_)
  · replace hq := hq.trans (if_neg h1)
    refine lv_aload_n hx hb d_Outlet_breakOff_8 rfl (lv_at hl 0 rfl) ?_
    refine lv_iconst (v := 0) hx hb d_Outlet_breakOff_9 rfl ?_
    refine va_put (D := D) (ci := 2) (v := .int 0) (ty := (.boolean)) (C := R_Outlet) (T := F_Outlet) (N := 3) hx hb hts hin_Outlet t_Outlet t_Outlet_ok n_Outlet hown hK hP hD hS 0 rfl rfl 1 (by decide) (hts _ (xm ww_65)) (fun _ h9 => h9) rfl (by decide +kernel) (xB_n (Or.inl rfl)) (xB_f (Or.inl rfl)) (Nat.le_of_ble_eq_true rfl) d_Outlet_breakOff_10 (fun H locs hP hD hS => ?_)
    replace hP : va_P D vwCl [(h0, .inr (2, [.ref q, .int 0, .int t])), (q, .inr (0, [.ref a, .int (nI i), .int (nI L.length)])), (a, .inl (cI, 64, .inl f))] H := hP
    replace hD : va_D A [(h0, .inr (2, [.ref q, .int 0, .int t])), (q, .inr (0, [.ref a, .int (nI i), .int (nI L.length)])), (a, .inl (cI, 64, .inl f))] := hD
    refine lv_aload_n hx hb d_Outlet_breakOff_13 rfl (lv_at hl 0 rfl) ?_
    refine lv_iconst (v := 1) hx hb d_Outlet_breakOff_14 rfl ?_
    refine va_put (D := D) (ci := 2) (v := .int 1) (ty := (.boolean)) (C := R_Outlet) (T := F_Outlet) (N := 3) hx hb hts hin_Outlet t_Outlet t_Outlet_ok n_Outlet hown hK hP hD hS 0 rfl rfl 2 (by decide) (hts _ (xm ww_66)) (fun _ h9 => h9) rfl (by decide +kernel) (xB_n (Or.inr rfl)) (xB_f (Or.inr rfl)) (Nat.le_of_ble_eq_true rfl) d_Outlet_breakOff_15 (fun H locs hP hD hS => ?_)
    replace hP : va_P D vwCl [(h0, .inr (2, [.ref q, .int 0, .int 1])), (q, .inr (0, [.ref a, .int (nI i), .int (nI L.length)])), (a, .inl (cI, 64, .inl f))] H := hP
    replace hD : va_D A [(h0, .inr (2, [.ref q, .int 0, .int 1])), (q, .inr (0, [.ref a, .int (nI i), .int (nI L.length)])), (a, .inl (cI, 64, .inl f))] := hD
    refine lv_aload_n hx hb d_Outlet_breakOff_18 rfl (lv_at hl 0 rfl) ?_
    refine va_get (D := D) (ci := 2) (v := .ref q) (C := R_Outlet) (T := F_Outlet) (N := 3) hx hb hts hin_Outlet hown hK hP 0 rfl rfl 0 (by decide) (hts _ (xm ww_64)) (fun _ h9 => h9) rfl d_Outlet_breakOff_19 ?_
    refine va_getN (D := D) (ci := 0) (v := .int (nI L.length)) (C := R_Row) (T := F_Row) (N := 3) hx hb hts hin_Row hown hK hP 1 rfl rfl 2 (by decide) (hN.use wn_39) (fun _ h9 => h9) rfl d_Outlet_breakOff_22 ?_
    refine lv_istore_n hx hb d_Outlet_breakOff_25 rfl hl (by decide) rfl (fun ls hl => ?_)
    replace hl : lv_has ls 2 [(1, .int (nI L.length)), (0, .ref h0)] := hl
    have LPlp_breakOff : ∀ (nlp_breakOff : Nat) (w : Nat) (t1 : Int32) (L1 : List Int32) (i1 : Nat) (ls : Array Slot) (H : Heap) (locs : List Loc), Rep 64 f i1 L1 → w = L1.length → w ≤ nlp_breakOff → lv_has ls 2 [(0, .ref h0), (1, .int (nI w))] → va_P D vwCl [(h0, .inr (2, [.ref q, .int 0, .int t1])), (q, .inr (0, [.ref a, .int (nI i1), .int (nI L1.length)])), (a, .inl (cI, 64, .inl f))] H → va_D A [(h0, .inr (2, [.ref q, .int 0, .int t1])), (q, .inr (0, [.ref a, .int (nI i1), .int (nI L1.length)])), (a, .inl (cI, 64, .inl f))] → va_S A s.heap H locs → s_Outlet_breakOff o t L = lp_breakOff nlp_breakOff w t1 L1 → W p l e rm_Outlet_breakOff s m args below meth c H locs 0 0 Q (F0 m 26 ls []) := by
      intro nlp_breakOff
      induction nlp_breakOff with
      | zero =>
        intro w t1 L1 i1 ls H locs hR1 hw1 hmlp_breakOff hl hP hD hS hq
        replace hq : s_Outlet_breakOff o t L = ((0, t1, L1)) := hq
        refine lv_iload_n hx hb d_Outlet_breakOff_26 rfl (lv_at hl 1 rfl) ?_
        refine lv_if_le (tgt := 57) hx hb d_Outlet_breakOff_27 rfl (fun h2 => ?_) (fun h2 => ?_)
        rotate_left
        · exact absurd (by rw [Nat.le_zero.mp hmlp_breakOff]; decide) h2
        exact hret (0, t1, L1, i1) ⟨hq.symm, hR1⟩ _ _ _ _ hP hD hS d_Outlet_breakOff_57
      | succ nlp_breakOff ihlp_breakOff =>
        intro w t1 L1 i1 ls H locs hR1 hw1 hmlp_breakOff hl hP hD hS hq
        replace hq : s_Outlet_breakOff o t L = (if (nI w) ≤ 0 then (0, t1, L1) else (if t1 = 0 then (0, t1, L1) else (bnd2 (s_Row_removeFirst L1) (fun r5 L5 => lp_breakOff nlp_breakOff (w - 1) (s_MemoryLink_isData r5) L5)))) := hq
        refine lv_iload_n hx hb d_Outlet_breakOff_26 rfl (lv_at hl 1 rfl) ?_
        refine lv_if_le (tgt := 57) hx hb d_Outlet_breakOff_27 rfl (fun h3 => ?_) (fun h3 => ?_)
        · replace hq := hq.trans (if_pos h3)
          exact hret (0, t1, L1, i1) ⟨hq.symm, hR1⟩ _ _ _ _ hP hD hS d_Outlet_breakOff_57
        replace hq := hq.trans (if_neg h3)
        refine lv_aload_n hx hb d_Outlet_breakOff_30 rfl (lv_at hl 0 rfl) ?_
        refine va_get (D := D) (ci := 2) (v := .int t1) (C := R_Outlet) (T := F_Outlet) (N := 3) hx hb hts hin_Outlet hown hK hP 0 rfl rfl 2 (by decide) (hts _ (xm ww_66)) (fun _ h9 => h9) rfl d_Outlet_breakOff_31 ?_
        refine lv_if_eq (tgt := 57) hx hb d_Outlet_breakOff_34 rfl (fun h4 => ?_) (fun h4 => ?_)
        · replace hq := hq.trans (if_pos h4)
          exact hret (0, t1, L1, i1) ⟨hq.symm, hR1⟩ _ _ _ _ hP hD hS d_Outlet_breakOff_57
        replace hq := hq.trans (if_neg h4)
        refine lv_aload_n hx hb d_Outlet_breakOff_37 rfl (lv_at hl 0 rfl) ?_
        refine lv_aload_n hx hb d_Outlet_breakOff_38 rfl (lv_at hl 0 rfl) ?_
        refine va_get (D := D) (ci := 2) (v := .ref q) (C := R_Outlet) (T := F_Outlet) (N := 3) hx hb hts hin_Outlet hown hK hP 0 rfl rfl 0 (by decide) (hts _ (xm ww_64)) (fun _ h9 => h9) rfl d_Outlet_breakOff_39 ?_
        refine xcall_i (wc := [(q, .inr (0, [.ref a, .int (nI i1), .int (nI L1.length)])), (a, .inl (cI, 64, .inl f))]) (wr := [(h0, .inr (2, [.ref q, .int 0, .int t1]))]) (ws1 := fun (u : List Int32 × Nat) => [(h0, .inr (2, [.ref q, .int 0, .int t1])), (q, .inr (0, [.ref a, .int (nI u.2), .int (nI u.1.length)])), (a, .inl (cI, 64, .inl f))]) (va_runV (As := []) (rest := [.ref h0]) ⟨hx, hb, hml, hown, hts⟩ (c_Row_removeFirst L1 64 q a f i1 hR1 H.size) (xcwV 0 hts ww_287 ww_284 ww_285 ww_286 ww_4 (by decide +kernel) rfl rfl ⟨Nat.le_of_ble_eq_true rfl, Nat.le_of_ble_eq_true rfl⟩) (xPreV (ci := 0) (q0 := 0) (q := (R_Row, F_Row, 3)) (hP.sub [1, 2] rfl) (hD.sub [1, 2] (by decide) rfl) hK hN rfl rfl rfl) rfl rfl hl.1 rfl (lv_room (Nat.le_of_ble_eq_true rfl)) d_Outlet_breakOff_42 ⟨Nat.le_of_ble_eq_true rfl, Nat.le_of_ble_eq_true rfl⟩) hP hD hS hA [1, 2] [0] [0, 1, 2] rfl rfl (by decide) (by decide) (by decide) (fun _ => rfl) (fun r5 u5 H locs hw hP hD hS => ?_)
        obtain ⟨L5, i5⟩ := u5
        obtain ⟨hw, hR_5⟩ := hw
        replace hP : va_P D vwCl [(h0, .inr (2, [.ref q, .int 0, .int t1])), (q, .inr (0, [.ref a, .int (nI i5), .int (nI L5.length)])), (a, .inl (cI, 64, .inl f))] H := hP
        replace hD : va_D A [(h0, .inr (2, [.ref q, .int 0, .int t1])), (q, .inr (0, [.ref a, .int (nI i5), .int (nI L5.length)])), (a, .inl (cI, 64, .inl f))] := hD
        have hw_5 := hw
        replace hq := hq.trans (bnd2_eq hw)
        try dsimp only at hq
        refine xcall_i (wc := []) (wr := [(h0, .inr (2, [.ref q, .int 0, .int t1])), (q, .inr (0, [.ref a, .int (nI i5), .int (nI L5.length)])), (a, .inl (cI, 64, .inl f))]) (ws1 := fun (u : Unit) => [(h0, .inr (2, [.ref q, .int 0, .int t1])), (q, .inr (0, [.ref a, .int (nI i5), .int (nI L5.length)])), (a, .inl (cI, 64, .inl f))]) (va_runSN (As := [.int r5]) (rest := [.ref h0]) ⟨hx, hb, hml, hown, hts⟩ (c_MemoryLink_isData r5 H.size) (xcnS 1 hts hN ww_267 wn_288 ww_266 ww_1 (by decide +kernel) rfl rfl ⟨Nat.le_of_ble_eq_true rfl, Nat.le_of_ble_eq_true rfl⟩) (xPreS (hP.sub [] rfl) (hD.sub [] (by decide) rfl) hK hN) rfl rfl hl.1 rfl (lv_room (Nat.le_of_ble_eq_true rfl)) d_Outlet_breakOff_45 ⟨Nat.le_of_ble_eq_true rfl, Nat.le_of_ble_eq_true rfl⟩) hP hD hS hA [] [0, 1, 2] [0, 1, 2] rfl rfl (by decide) (by decide) (by decide) (fun _ => rfl) (fun r6 u6 H locs hw hP hD hS => ?_)
        obtain ⟨hw, hbr_6⟩ := hw
        subst hw
        replace hP : va_P D vwCl [(h0, .inr (2, [.ref q, .int 0, .int t1])), (q, .inr (0, [.ref a, .int (nI i5), .int (nI L5.length)])), (a, .inl (cI, 64, .inl f))] H := hP
        replace hD : va_D A [(h0, .inr (2, [.ref q, .int 0, .int t1])), (q, .inr (0, [.ref a, .int (nI i5), .int (nI L5.length)])), (a, .inl (cI, 64, .inl f))] := hD
        refine va_put (D := D) (ci := 2) (v := .int (s_MemoryLink_isData r5)) (ty := (.boolean)) (C := R_Outlet) (T := F_Outlet) (N := 3) hx hb hts hin_Outlet t_Outlet t_Outlet_ok n_Outlet hown hK hP hD hS 0 rfl rfl 2 (by decide) (hts _ (xm ww_66)) (fun _ h9 => h9) rfl (by decide +kernel) (xB_n hbr_6) (xB_f hbr_6) (Nat.le_of_ble_eq_true rfl) d_Outlet_breakOff_48 (fun H locs hP hD hS => ?_)
        replace hP : va_P D vwCl [(h0, .inr (2, [.ref q, .int 0, .int (s_MemoryLink_isData r5)])), (q, .inr (0, [.ref a, .int (nI i5), .int (nI L5.length)])), (a, .inl (cI, 64, .inl f))] H := hP
        replace hD : va_D A [(h0, .inr (2, [.ref q, .int 0, .int (s_MemoryLink_isData r5)])), (q, .inr (0, [.ref a, .int (nI i5), .int (nI L5.length)])), (a, .inl (cI, 64, .inl f))] := hD
        refine lv_iinc (k := 1) (v := nI (w - 1)) hx hb d_Outlet_breakOff_51 hl rfl (sb_m1 (Nat.pos_of_ne_zero fun h9 => h3 (by rw [h9]; decide))) (by decide) rfl (fun ls hl => ?_)
        replace hl : lv_has ls 2 [(1, .int (nI (w - 1))), (0, .ref h0)] := hl
        refine lv_goto (tgt := 26) hx hb d_Outlet_breakOff_54 rfl ?_
        exact ihlp_breakOff (w - 1) (s_MemoryLink_isData r5) L5 i5 _ _ _ hR_5 (by have h9 := congrArg (fun z => z.2.length) hw_5; simp [s_Row_removeFirst] at h9; omega) (by omega) (lv_sub hl [1, 0] rfl) hP hD hS hq
    exact LPlp_breakOff L.length L.length 1 L i _ _ _ hR rfl (Nat.le_refl _) (lv_sub hl [1, 0] rfl) hP hD hS hq
  replace hq := hq.trans (if_pos h1)
  exact hret (o, t, L, i) ⟨hq.symm, hR⟩ _ _ _ _ hP hD hS d_Outlet_breakOff_7

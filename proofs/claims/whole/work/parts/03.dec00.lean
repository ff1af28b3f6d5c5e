theorem dX0_init_0 : decode cX0_init 0 = .ok (.aload_n 0, 1) := by decide +kernel
theorem dX0_init_1 : decode cX0_init 1 = .ok (.invokespecial 3, 3) := by decide +kernel
theorem dX0_init_4 : decode cX0_init 4 = .ok (.aload_n 0, 1) := by decide +kernel
theorem dX0_init_5 : decode cX0_init 5 = .ok (.lconst 0, 1) := by decide +kernel
theorem dX0_init_6 : decode cX0_init 6 = .ok (.putfield 9, 3) := by decide +kernel
theorem dX0_init_9 : decode cX0_init 9 = .ok (.aload_n 0, 1) := by decide +kernel
theorem dX0_init_10 : decode cX0_init 10 = .ok (.lconst 0, 1) := by decide +kernel
theorem dX0_init_11 : decode cX0_init 11 = .ok (.putfield 15, 3) := by decide +kernel
theorem dX0_init_14 : decode cX0_init 14 = .ok (.aload_n 0, 1) := by decide +kernel
theorem dX0_init_15 : decode cX0_init 15 = .ok (.lconst 0, 1) := by decide +kernel
theorem dX0_init_16 : decode cX0_init 16 = .ok (.putfield 18, 3) := by decide +kernel
theorem dX0_init_19 : decode cX0_init 19 = .ok (.return_, 1) := by decide +kernel
theorem dX0_become_0 : decode cX0_become 0 = .ok (.aload_n 0, 1) := by decide +kernel
theorem dX0_become_1 : decode cX0_become 1 = .ok (.lload_n 1, 1) := by decide +kernel
theorem dX0_become_2 : decode cX0_become 2 = .ok (.putfield 9, 3) := by decide +kernel
theorem dX0_become_5 : decode cX0_become 5 = .ok (.aload_n 0, 1) := by decide +kernel
theorem dX0_become_6 : decode cX0_become 6 = .ok (.lload_n 3, 1) := by decide +kernel
theorem dX0_become_7 : decode cX0_become 7 = .ok (.putfield 15, 3) := by decide +kernel
theorem dX0_become_10 : decode cX0_become 10 = .ok (.aload_n 0, 1) := by decide +kernel
theorem dX0_become_11 : decode cX0_become 11 = .ok (.lload 5, 2) := by decide +kernel
theorem dX0_become_13 : decode cX0_become 13 = .ok (.putfield 18, 3) := by decide +kernel
theorem dX0_become_16 : decode cX0_become 16 = .ok (.return_, 1) := by decide +kernel
theorem dX0_stateOf_0 : decode cX0_stateOf 0 = .ok (.aload_n 0, 1) := by decide +kernel
theorem dX0_stateOf_1 : decode cX0_stateOf 1 = .ok (.getfield 9, 3) := by decide +kernel
theorem dX0_stateOf_4 : decode cX0_stateOf 4 = .ok (.iload_n 1, 1) := by decide +kernel
theorem dX0_stateOf_5 : decode cX0_stateOf 5 = .ok (.invokestatic 21, 3) := by decide +kernel
theorem dX0_stateOf_8 : decode cX0_stateOf 8 = .ok (.land, 1) := by decide +kernel
theorem dX0_stateOf_9 : decode cX0_stateOf 9 = .ok (.lconst 0, 1) := by decide +kernel
theorem dX0_stateOf_10 : decode cX0_stateOf 10 = .ok (.lcmp, 1) := by decide +kernel
theorem dX0_stateOf_11 : decode cX0_stateOf 11 = .ok (.ifCond .eq 5, 3) := by decide +kernel
theorem dX0_stateOf_14 : decode cX0_stateOf 14 = .ok (.iconst 1, 1) := by decide +kernel
theorem dX0_stateOf_15 : decode cX0_stateOf 15 = .ok (.ireturn, 1) := by decide +kernel
theorem dX0_stateOf_16 : decode cX0_stateOf 16 = .ok (.aload_n 0, 1) := by decide +kernel
theorem dX0_stateOf_17 : decode cX0_stateOf 17 = .ok (.getfield 15, 3) := by decide +kernel
theorem dX0_stateOf_20 : decode cX0_stateOf 20 = .ok (.iload_n 1, 1) := by decide +kernel
theorem dX0_stateOf_21 : decode cX0_stateOf 21 = .ok (.invokestatic 21, 3) := by decide +kernel
theorem dX0_stateOf_24 : decode cX0_stateOf 24 = .ok (.land, 1) := by decide +kernel
theorem dX0_stateOf_25 : decode cX0_stateOf 25 = .ok (.lconst 0, 1) := by decide +kernel
theorem dX0_stateOf_26 : decode cX0_stateOf 26 = .ok (.lcmp, 1) := by decide +kernel
theorem dX0_stateOf_27 : decode cX0_stateOf 27 = .ok (.ifCond .eq 7, 3) := by decide +kernel
theorem dX0_stateOf_30 : decode cX0_stateOf 30 = .ok (.iconst 2, 1) := by decide +kernel
theorem dX0_stateOf_31 : decode cX0_stateOf 31 = .ok (.goto 4, 3) := by decide +kernel
theorem dX0_stateOf_34 : decode cX0_stateOf 34 = .ok (.iconst 0, 1) := by decide +kernel
theorem dX0_stateOf_35 : decode cX0_stateOf 35 = .ok (.ireturn, 1) := by decide +kernel
theorem dX0_mark_0 : decode cX0_mark 0 = .ok (.aload_n 0, 1) := by decide +kernel
theorem dX0_mark_1 : decode cX0_mark 1 = .ok (.dup, 1) := by decide +kernel
theorem dX0_mark_2 : decode cX0_mark 2 = .ok (.getfield 9, 3) := by decide +kernel
theorem dX0_mark_5 : decode cX0_mark 5 = .ok (.iload_n 1, 1) := by decide +kernel
theorem dX0_mark_6 : decode cX0_mark 6 = .ok (.invokestatic 21, 3) := by decide +kernel
theorem dX0_mark_9 : decode cX0_mark 9 = .ok (.ldc2_w 25, 3) := by decide +kernel
theorem dX0_mark_12 : decode cX0_mark 12 = .ok (.lxor, 1) := by decide +kernel
theorem dX0_mark_13 : decode cX0_mark 13 = .ok (.land, 1) := by decide +kernel
theorem dX0_mark_14 : decode cX0_mark 14 = .ok (.putfield 9, 3) := by decide +kernel
theorem dX0_mark_17 : decode cX0_mark 17 = .ok (.aload_n 0, 1) := by decide +kernel
theorem dX0_mark_18 : decode cX0_mark 18 = .ok (.dup, 1) := by decide +kernel
theorem dX0_mark_19 : decode cX0_mark 19 = .ok (.getfield 15, 3) := by decide +kernel
theorem dX0_mark_22 : decode cX0_mark 22 = .ok (.iload_n 1, 1) := by decide +kernel
theorem dX0_mark_23 : decode cX0_mark 23 = .ok (.invokestatic 21, 3) := by decide +kernel
theorem dX0_mark_26 : decode cX0_mark 26 = .ok (.ldc2_w 25, 3) := by decide +kernel
theorem dX0_mark_29 : decode cX0_mark 29 = .ok (.lxor, 1) := by decide +kernel
theorem dX0_mark_30 : decode cX0_mark 30 = .ok (.land, 1) := by decide +kernel
theorem dX0_mark_31 : decode cX0_mark 31 = .ok (.putfield 15, 3) := by decide +kernel
theorem dX0_mark_34 : decode cX0_mark 34 = .ok (.iload_n 2, 1) := by decide +kernel
theorem dX0_mark_35 : decode cX0_mark 35 = .ok (.iconst 1, 1) := by decide +kernel
theorem dX0_mark_36 : decode cX0_mark 36 = .ok (.if_icmp .ne 19, 3) := by decide +kernel
theorem dX0_mark_39 : decode cX0_mark 39 = .ok (.aload_n 0, 1) := by decide +kernel
theorem dX0_mark_40 : decode cX0_mark 40 = .ok (.dup, 1) := by decide +kernel
theorem dX0_mark_41 : decode cX0_mark 41 = .ok (.getfield 9, 3) := by decide +kernel
theorem dX0_mark_44 : decode cX0_mark 44 = .ok (.iload_n 1, 1) := by decide +kernel
theorem dX0_mark_45 : decode cX0_mark 45 = .ok (.invokestatic 21, 3) := by decide +kernel
theorem dX0_mark_48 : decode cX0_mark 48 = .ok (.lor, 1) := by decide +kernel
theorem dX0_mark_49 : decode cX0_mark 49 = .ok (.putfield 9, 3) := by decide +kernel
theorem dX0_mark_52 : decode cX0_mark 52 = .ok (.goto 21, 3) := by decide +kernel
theorem dX0_mark_55 : decode cX0_mark 55 = .ok (.iload_n 2, 1) := by decide +kernel
theorem dX0_mark_56 : decode cX0_mark 56 = .ok (.iconst 2, 1) := by decide +kernel
theorem dX0_mark_57 : decode cX0_mark 57 = .ok (.if_icmp .ne 16, 3) := by decide +kernel
theorem dX0_mark_60 : decode cX0_mark 60 = .ok (.aload_n 0, 1) := by decide +kernel
theorem dX0_mark_61 : decode cX0_mark 61 = .ok (.dup, 1) := by decide +kernel
theorem dX0_mark_62 : decode cX0_mark 62 = .ok (.getfield 15, 3) := by decide +kernel
theorem dX0_mark_65 : decode cX0_mark 65 = .ok (.iload_n 1, 1) := by decide +kernel
theorem dX0_mark_66 : decode cX0_mark 66 = .ok (.invokestatic 21, 3) := by decide +kernel
theorem dX0_mark_69 : decode cX0_mark 69 = .ok (.lor, 1) := by decide +kernel
theorem dX0_mark_70 : decode cX0_mark 70 = .ok (.putfield 15, 3) := by decide +kernel
theorem dX0_mark_73 : decode cX0_mark 73 = .ok (.return_, 1) := by decide +kernel
theorem dX0_numberOf_0 : decode cX0_numberOf 0 = .ok (.aload_n 0, 1) := by decide +kernel
theorem dX0_numberOf_1 : decode cX0_numberOf 1 = .ok (.getfield 18, 3) := by decide +kernel
theorem dX0_numberOf_4 : decode cX0_numberOf 4 = .ok (.iload_n 1, 1) := by decide +kernel
theorem dX0_numberOf_5 : decode cX0_numberOf 5 = .ok (.invokestatic 27, 3) := by decide +kernel
theorem dX0_numberOf_8 : decode cX0_numberOf 8 = .ok (.ireturn, 1) := by decide +kernel
theorem dX0_numberIn_0 : decode cX0_numberIn 0 = .ok (.lload_n 0, 1) := by decide +kernel
theorem dX0_numberIn_1 : decode cX0_numberIn 1 = .ok (.iconst 4, 1) := by decide +kernel
theorem dX0_numberIn_2 : decode cX0_numberIn 2 = .ok (.iload_n 2, 1) := by decide +kernel
theorem dX0_numberIn_3 : decode cX0_numberIn 3 = .ok (.imul, 1) := by decide +kernel
theorem dX0_numberIn_4 : decode cX0_numberIn 4 = .ok (.lushr, 1) := by decide +kernel
theorem dX0_numberIn_5 : decode cX0_numberIn 5 = .ok (.ldc2_w 31, 3) := by decide +kernel
theorem dX0_numberIn_8 : decode cX0_numberIn 8 = .ok (.land, 1) := by decide +kernel
theorem dX0_numberIn_9 : decode cX0_numberIn 9 = .ok (.l2i, 1) := by decide +kernel
theorem dX0_numberIn_10 : decode cX0_numberIn 10 = .ok (.iconst 1, 1) := by decide +kernel
theorem dX0_numberIn_11 : decode cX0_numberIn 11 = .ok (.isub, 1) := by decide +kernel
theorem dX0_numberIn_12 : decode cX0_numberIn 12 = .ok (.ireturn, 1) := by decide +kernel
theorem dX0_withNumber_0 : decode cX0_withNumber 0 = .ok (.lload_n 0, 1) := by decide +kernel
theorem dX0_withNumber_1 : decode cX0_withNumber 1 = .ok (.ldc2_w 31, 3) := by decide +kernel
theorem dX0_withNumber_4 : decode cX0_withNumber 4 = .ok (.iconst 4, 1) := by decide +kernel
theorem dX0_withNumber_5 : decode cX0_withNumber 5 = .ok (.iload_n 2, 1) := by decide +kernel
theorem dX0_withNumber_6 : decode cX0_withNumber 6 = .ok (.imul, 1) := by decide +kernel
theorem dX0_withNumber_7 : decode cX0_withNumber 7 = .ok (.lshl, 1) := by decide +kernel
theorem dX0_withNumber_8 : decode cX0_withNumber 8 = .ok (.ldc2_w 25, 3) := by decide +kernel
theorem dX0_withNumber_11 : decode cX0_withNumber 11 = .ok (.lxor, 1) := by decide +kernel
theorem dX0_withNumber_12 : decode cX0_withNumber 12 = .ok (.land, 1) := by decide +kernel
theorem dX0_withNumber_13 : decode cX0_withNumber 13 = .ok (.lstore 4, 2) := by decide +kernel
theorem dX0_withNumber_15 : decode cX0_withNumber 15 = .ok (.lload 4, 2) := by decide +kernel
theorem dX0_withNumber_17 : decode cX0_withNumber 17 = .ok (.iload_n 3, 1) := by decide +kernel
theorem dX0_withNumber_18 : decode cX0_withNumber 18 = .ok (.iconst 1, 1) := by decide +kernel
theorem dX0_withNumber_19 : decode cX0_withNumber 19 = .ok (.iadd, 1) := by decide +kernel
theorem dX0_withNumber_20 : decode cX0_withNumber 20 = .ok (.i2l, 1) := by decide +kernel
theorem dX0_withNumber_21 : decode cX0_withNumber 21 = .ok (.iconst 4, 1) := by decide +kernel
theorem dX0_withNumber_22 : decode cX0_withNumber 22 = .ok (.iload_n 2, 1) := by decide +kernel
theorem dX0_withNumber_23 : decode cX0_withNumber 23 = .ok (.imul, 1) := by decide +kernel
theorem dX0_withNumber_24 : decode cX0_withNumber 24 = .ok (.lshl, 1) := by decide +kernel
theorem dX0_withNumber_25 : decode cX0_withNumber 25 = .ok (.lor, 1) := by decide +kernel
theorem dX0_withNumber_26 : decode cX0_withNumber 26 = .ok (.lreturn, 1) := by decide +kernel
theorem dX1_init_0 : decode cX1_init 0 = .ok (.aload_n 0, 1) := by decide +kernel
theorem dX1_init_1 : decode cX1_init 1 = .ok (.invokespecial 3, 3) := by decide +kernel
theorem dX1_init_4 : decode cX1_init 4 = .ok (.aload_n 0, 1) := by decide +kernel
theorem dX1_init_5 : decode cX1_init 5 = .ok (.lconst 0, 1) := by decide +kernel
theorem dX1_init_6 : decode cX1_init 6 = .ok (.putfield 9, 3) := by decide +kernel
theorem dX1_init_9 : decode cX1_init 9 = .ok (.aload_n 0, 1) := by decide +kernel
theorem dX1_init_10 : decode cX1_init 10 = .ok (.lconst 0, 1) := by decide +kernel
theorem dX1_init_11 : decode cX1_init 11 = .ok (.putfield 15, 3) := by decide +kernel
theorem dX1_init_14 : decode cX1_init 14 = .ok (.aload_n 0, 1) := by decide +kernel
theorem dX1_init_15 : decode cX1_init 15 = .ok (.lconst 0, 1) := by decide +kernel
theorem dX1_init_16 : decode cX1_init 16 = .ok (.putfield 18, 3) := by decide +kernel
theorem dX1_init_19 : decode cX1_init 19 = .ok (.aload_n 0, 1) := by decide +kernel
theorem dX1_init_20 : decode cX1_init 20 = .ok (.iconst 0, 1) := by decide +kernel
theorem dX1_init_21 : decode cX1_init 21 = .ok (.putfield 21, 3) := by decide +kernel
theorem dX1_init_24 : decode cX1_init 24 = .ok (.aload_n 0, 1) := by decide +kernel
theorem dX1_init_25 : decode cX1_init 25 = .ok (.aload_n 1, 1) := by decide +kernel
theorem dX1_init_26 : decode cX1_init 26 = .ok (.putfield 25, 3) := by decide +kernel
theorem dX1_init_29 : decode cX1_init 29 = .ok (.aload_n 0, 1) := by decide +kernel
theorem dX1_init_30 : decode cX1_init 30 = .ok (.iload_n 2, 1) := by decide +kernel
theorem dX1_init_31 : decode cX1_init 31 = .ok (.iconst 0, 1) := by decide +kernel
theorem dX1_init_32 : decode cX1_init 32 = .ok (.invokestatic 29, 3) := by decide +kernel
theorem dX1_init_35 : decode cX1_init 35 = .ok (.newarray .long, 2) := by decide +kernel
theorem dX1_init_37 : decode cX1_init 37 = .ok (.putfield 35, 3) := by decide +kernel
theorem dX1_init_40 : decode cX1_init 40 = .ok (.return_, 1) := by decide +kernel
theorem dX1_search_0 : decode cX1_search 0 = .ok (.aload_n 0, 1) := by decide +kernel
theorem dX1_search_1 : decode cX1_search 1 = .ok (.lload_n 1, 1) := by decide +kernel
theorem dX1_search_2 : decode cX1_search 2 = .ok (.putfield 9, 3) := by decide +kernel
theorem dX1_search_5 : decode cX1_search 5 = .ok (.aload_n 0, 1) := by decide +kernel
theorem dX1_search_6 : decode cX1_search 6 = .ok (.lload_n 3, 1) := by decide +kernel
theorem dX1_search_7 : decode cX1_search 7 = .ok (.putfield 15, 3) := by decide +kernel
theorem dX1_search_10 : decode cX1_search 10 = .ok (.aload_n 0, 1) := by decide +kernel
theorem dX1_search_11 : decode cX1_search 11 = .ok (.lload 5, 2) := by decide +kernel
theorem dX1_search_13 : decode cX1_search 13 = .ok (.putfield 18, 3) := by decide +kernel
theorem dX1_search_16 : decode cX1_search 16 = .ok (.aload_n 0, 1) := by decide +kernel
theorem dX1_search_17 : decode cX1_search 17 = .ok (.iconst 0, 1) := by decide +kernel
theorem dX1_search_18 : decode cX1_search 18 = .ok (.putfield 21, 3) := by decide +kernel
theorem dX1_search_21 : decode cX1_search 21 = .ok (.aload_n 0, 1) := by decide +kernel
theorem dX1_search_22 : decode cX1_search 22 = .ok (.aload_n 0, 1) := by decide +kernel
theorem dX1_search_23 : decode cX1_search 23 = .ok (.getfield 25, 3) := by decide +kernel
theorem dX1_search_26 : decode cX1_search 26 = .ok (.getfield 39, 3) := by decide +kernel
theorem dX1_search_29 : decode cX1_search 29 = .ok (.bipush 16, 2) := by decide +kernel
theorem dX1_search_31 : decode cX1_search 31 = .ok (.invokestatic 44, 3) := by decide +kernel
theorem dX1_search_34 : decode cX1_search 34 = .ok (.iconst 1, 1) := by decide +kernel
theorem dX1_search_35 : decode cX1_search 35 = .ok (.isub, 1) := by decide +kernel
theorem dX1_search_36 : decode cX1_search 36 = .ok (.lconst 0, 1) := by decide +kernel
theorem dX1_search_37 : decode cX1_search 37 = .ok (.invokestatic 47, 3) := by decide +kernel
theorem dX1_search_40 : decode cX1_search 40 = .ok (.return_, 1) := by decide +kernel
theorem dX1_ring_0 : decode cX1_ring 0 = .ok (.aload_n 0, 1) := by decide +kernel
theorem dX1_ring_1 : decode cX1_ring 1 = .ok (.getfield 35, 3) := by decide +kernel
theorem dX1_ring_4 : decode cX1_ring 4 = .ok (.iload_n 1, 1) := by decide +kernel
theorem dX1_ring_5 : decode cX1_ring 5 = .ok (.invokestatic 51, 3) := by decide +kernel
theorem dX1_ring_8 : decode cX1_ring 8 = .ok (.lreturn, 1) := by decide +kernel
theorem dX1_inAll_0 : decode cX1_inAll 0 = .ok (.aload_n 0, 1) := by decide +kernel
theorem dX1_inAll_1 : decode cX1_inAll 1 = .ok (.getfield 25, 3) := by decide +kernel
theorem dX1_inAll_4 : decode cX1_inAll 4 = .ok (.invokevirtual 55, 3) := by decide +kernel
theorem dX1_inAll_7 : decode cX1_inAll 7 = .ok (.lstore_n 1, 1) := by decide +kernel
theorem dX1_inAll_8 : decode cX1_inAll 8 = .ok (.iconst 0, 1) := by decide +kernel
theorem dX1_inAll_9 : decode cX1_inAll 9 = .ok (.istore_n 3, 1) := by decide +kernel
theorem dX1_inAll_10 : decode cX1_inAll 10 = .ok (.iload_n 3, 1) := by decide +kernel
theorem dX1_inAll_11 : decode cX1_inAll 11 = .ok (.aload_n 0, 1) := by decide +kernel
theorem dX1_inAll_12 : decode cX1_inAll 12 = .ok (.getfield 21, 3) := by decide +kernel
theorem dX1_inAll_15 : decode cX1_inAll 15 = .ok (.if_icmp .ge 27, 3) := by decide +kernel
theorem dX1_inAll_18 : decode cX1_inAll 18 = .ok (.iload_n 3, 1) := by decide +kernel
theorem dX1_inAll_19 : decode cX1_inAll 19 = .ok (.aload_n 0, 1) := by decide +kernel
theorem dX1_inAll_20 : decode cX1_inAll 20 = .ok (.getfield 35, 3) := by decide +kernel
theorem dX1_inAll_23 : decode cX1_inAll 23 = .ok (.arraylength, 1) := by decide +kernel
theorem dX1_inAll_24 : decode cX1_inAll 24 = .ok (.if_icmp .ge 18, 3) := by decide +kernel
theorem dX1_inAll_27 : decode cX1_inAll 27 = .ok (.lload_n 1, 1) := by decide +kernel
theorem dX1_inAll_28 : decode cX1_inAll 28 = .ok (.aload_n 0, 1) := by decide +kernel
theorem dX1_inAll_29 : decode cX1_inAll 29 = .ok (.getfield 35, 3) := by decide +kernel
theorem dX1_inAll_32 : decode cX1_inAll 32 = .ok (.iload_n 3, 1) := by decide +kernel
theorem dX1_inAll_33 : decode cX1_inAll 33 = .ok (.laload, 1) := by decide +kernel
theorem dX1_inAll_34 : decode cX1_inAll 34 = .ok (.land, 1) := by decide +kernel
theorem dX1_inAll_35 : decode cX1_inAll 35 = .ok (.lstore_n 1, 1) := by decide +kernel
theorem dX1_inAll_36 : decode cX1_inAll 36 = .ok (.iinc 3 1, 3) := by decide +kernel
theorem dX1_inAll_39 : decode cX1_inAll 39 = .ok (.goto (-29), 3) := by decide +kernel
theorem dX1_inAll_42 : decode cX1_inAll 42 = .ok (.lload_n 1, 1) := by decide +kernel
theorem dX1_inAll_43 : decode cX1_inAll 43 = .ok (.lreturn, 1) := by decide +kernel
theorem dX1_inNone_0 : decode cX1_inNone 0 = .ok (.lconst 0, 1) := by decide +kernel
theorem dX1_inNone_1 : decode cX1_inNone 1 = .ok (.lstore_n 1, 1) := by decide +kernel
theorem dX1_inNone_2 : decode cX1_inNone 2 = .ok (.iconst 0, 1) := by decide +kernel
theorem dX1_inNone_3 : decode cX1_inNone 3 = .ok (.istore_n 3, 1) := by decide +kernel
theorem dX1_inNone_4 : decode cX1_inNone 4 = .ok (.iload_n 3, 1) := by decide +kernel
theorem dX1_inNone_5 : decode cX1_inNone 5 = .ok (.aload_n 0, 1) := by decide +kernel
theorem dX1_inNone_6 : decode cX1_inNone 6 = .ok (.getfield 21, 3) := by decide +kernel
theorem dX1_inNone_9 : decode cX1_inNone 9 = .ok (.if_icmp .ge 27, 3) := by decide +kernel
theorem dX1_inNone_12 : decode cX1_inNone 12 = .ok (.iload_n 3, 1) := by decide +kernel
theorem dX1_inNone_13 : decode cX1_inNone 13 = .ok (.aload_n 0, 1) := by decide +kernel
theorem dX1_inNone_14 : decode cX1_inNone 14 = .ok (.getfield 35, 3) := by decide +kernel
theorem dX1_inNone_17 : decode cX1_inNone 17 = .ok (.arraylength, 1) := by decide +kernel
theorem dX1_inNone_18 : decode cX1_inNone 18 = .ok (.if_icmp .ge 18, 3) := by decide +kernel
theorem dX1_inNone_21 : decode cX1_inNone 21 = .ok (.lload_n 1, 1) := by decide +kernel
theorem dX1_inNone_22 : decode cX1_inNone 22 = .ok (.aload_n 0, 1) := by decide +kernel
theorem dX1_inNone_23 : decode cX1_inNone 23 = .ok (.getfield 35, 3) := by decide +kernel
theorem dX1_inNone_26 : decode cX1_inNone 26 = .ok (.iload_n 3, 1) := by decide +kernel
theorem dX1_inNone_27 : decode cX1_inNone 27 = .ok (.laload, 1) := by decide +kernel
theorem dX1_inNone_28 : decode cX1_inNone 28 = .ok (.lor, 1) := by decide +kernel
theorem dX1_inNone_29 : decode cX1_inNone 29 = .ok (.lstore_n 1, 1) := by decide +kernel
theorem dX1_inNone_30 : decode cX1_inNone 30 = .ok (.iinc 3 1, 3) := by decide +kernel
theorem dX1_inNone_33 : decode cX1_inNone 33 = .ok (.goto (-29), 3) := by decide +kernel
theorem dX1_inNone_36 : decode cX1_inNone 36 = .ok (.aload_n 0, 1) := by decide +kernel
theorem dX1_inNone_37 : decode cX1_inNone 37 = .ok (.getfield 25, 3) := by decide +kernel
theorem dX1_inNone_40 : decode cX1_inNone 40 = .ok (.invokevirtual 55, 3) := by decide +kernel
theorem dX1_inNone_43 : decode cX1_inNone 43 = .ok (.lload_n 1, 1) := by decide +kernel
theorem dX1_inNone_44 : decode cX1_inNone 44 = .ok (.ldc2_w 59, 3) := by decide +kernel
theorem dX1_inNone_47 : decode cX1_inNone 47 = .ok (.lxor, 1) := by decide +kernel
theorem dX1_inNone_48 : decode cX1_inNone 48 = .ok (.land, 1) := by decide +kernel
theorem dX1_inNone_49 : decode cX1_inNone 49 = .ok (.lreturn, 1) := by decide +kernel
theorem dX1_howManyHave_0 : decode cX1_howManyHave 0 = .ok (.iconst 0, 1) := by decide +kernel
theorem dX1_howManyHave_1 : decode cX1_howManyHave 1 = .ok (.istore_n 2, 1) := by decide +kernel
theorem dX1_howManyHave_2 : decode cX1_howManyHave 2 = .ok (.iconst 0, 1) := by decide +kernel
theorem dX1_howManyHave_3 : decode cX1_howManyHave 3 = .ok (.istore_n 3, 1) := by decide +kernel
theorem dX1_howManyHave_4 : decode cX1_howManyHave 4 = .ok (.iload_n 3, 1) := by decide +kernel
theorem dX1_howManyHave_5 : decode cX1_howManyHave 5 = .ok (.aload_n 0, 1) := by decide +kernel
theorem dX1_howManyHave_6 : decode cX1_howManyHave 6 = .ok (.getfield 21, 3) := by decide +kernel
theorem dX1_howManyHave_9 : decode cX1_howManyHave 9 = .ok (.if_icmp .ge 32, 3) := by decide +kernel
theorem dX1_howManyHave_12 : decode cX1_howManyHave 12 = .ok (.iload_n 3, 1) := by decide +kernel
theorem dX1_howManyHave_13 : decode cX1_howManyHave 13 = .ok (.aload_n 0, 1) := by decide +kernel
theorem dX1_howManyHave_14 : decode cX1_howManyHave 14 = .ok (.getfield 35, 3) := by decide +kernel
theorem dX1_howManyHave_17 : decode cX1_howManyHave 17 = .ok (.arraylength, 1) := by decide +kernel
theorem dX1_howManyHave_18 : decode cX1_howManyHave 18 = .ok (.if_icmp .ge 23, 3) := by decide +kernel
theorem dX1_howManyHave_21 : decode cX1_howManyHave 21 = .ok (.iload_n 2, 1) := by decide +kernel
theorem dX1_howManyHave_22 : decode cX1_howManyHave 22 = .ok (.aload_n 0, 1) := by decide +kernel
theorem dX1_howManyHave_23 : decode cX1_howManyHave 23 = .ok (.getfield 35, 3) := by decide +kernel
theorem dX1_howManyHave_26 : decode cX1_howManyHave 26 = .ok (.iload_n 3, 1) := by decide +kernel
theorem dX1_howManyHave_27 : decode cX1_howManyHave 27 = .ok (.laload, 1) := by decide +kernel
theorem dX1_howManyHave_28 : decode cX1_howManyHave 28 = .ok (.iload_n 1, 1) := by decide +kernel
theorem dX1_howManyHave_29 : decode cX1_howManyHave 29 = .ok (.lushr, 1) := by decide +kernel
theorem dX1_howManyHave_30 : decode cX1_howManyHave 30 = .ok (.lconst 1, 1) := by decide +kernel
theorem dX1_howManyHave_31 : decode cX1_howManyHave 31 = .ok (.land, 1) := by decide +kernel
theorem dX1_howManyHave_32 : decode cX1_howManyHave 32 = .ok (.l2i, 1) := by decide +kernel
theorem dX1_howManyHave_33 : decode cX1_howManyHave 33 = .ok (.iadd, 1) := by decide +kernel
theorem dX1_howManyHave_34 : decode cX1_howManyHave 34 = .ok (.istore_n 2, 1) := by decide +kernel
theorem dX1_howManyHave_35 : decode cX1_howManyHave 35 = .ok (.iinc 3 1, 3) := by decide +kernel
theorem dX1_howManyHave_38 : decode cX1_howManyHave 38 = .ok (.goto (-34), 3) := by decide +kernel
theorem dX1_howManyHave_41 : decode cX1_howManyHave 41 = .ok (.iload_n 2, 1) := by decide +kernel
theorem dX1_howManyHave_42 : decode cX1_howManyHave 42 = .ok (.ireturn, 1) := by decide +kernel
theorem dX1_decide_0 : decode cX1_decide 0 = .ok (.aload_n 0, 1) := by decide +kernel
theorem dX1_decide_1 : decode cX1_decide 1 = .ok (.getfield 21, 3) := by decide +kernel
theorem dX1_decide_4 : decode cX1_decide 4 = .ok (.aload_n 0, 1) := by decide +kernel
theorem dX1_decide_5 : decode cX1_decide 5 = .ok (.getfield 35, 3) := by decide +kernel
theorem dX1_decide_8 : decode cX1_decide 8 = .ok (.arraylength, 1) := by decide +kernel
theorem dX1_decide_9 : decode cX1_decide 9 = .ok (.if_icmp .lt 4, 3) := by decide +kernel
theorem dX1_decide_12 : decode cX1_decide 12 = .ok (.return_, 1) := by decide +kernel
theorem dX1_decide_13 : decode cX1_decide 13 = .ok (.iload_n 1, 1) := by decide +kernel
theorem dX1_decide_14 : decode cX1_decide 14 = .ok (.ifCond .ge 9, 3) := by decide +kernel
theorem dX1_decide_17 : decode cX1_decide 17 = .ok (.aload_n 0, 1) := by decide +kernel
theorem dX1_decide_18 : decode cX1_decide 18 = .ok (.lload_n 2, 1) := by decide +kernel
theorem dX1_decide_19 : decode cX1_decide 19 = .ok (.invokevirtual 61, 3) := by decide +kernel
theorem dX1_decide_22 : decode cX1_decide 22 = .ok (.return_, 1) := by decide +kernel
theorem dX1_decide_23 : decode cX1_decide 23 = .ok (.aload_n 0, 1) := by decide +kernel
theorem dX1_decide_24 : decode cX1_decide 24 = .ok (.getfield 25, 3) := by decide +kernel
theorem dX1_decide_27 : decode cX1_decide 27 = .ok (.astore 4, 2) := by decide +kernel
theorem dX1_decide_29 : decode cX1_decide 29 = .ok (.lload_n 2, 1) := by decide +kernel
theorem dX1_decide_30 : decode cX1_decide 30 = .ok (.aload 4, 2) := by decide +kernel
theorem dX1_decide_32 : decode cX1_decide 32 = .ok (.iload_n 1, 1) := by decide +kernel
theorem dX1_decide_33 : decode cX1_decide 33 = .ok (.invokevirtual 65, 3) := by decide +kernel
theorem dX1_decide_36 : decode cX1_decide 36 = .ok (.lxor, 1) := by decide +kernel
theorem dX1_decide_37 : decode cX1_decide 37 = .ok (.lstore 5, 2) := by decide +kernel
theorem dX1_decide_39 : decode cX1_decide 39 = .ok (.lload_n 2, 1) := by decide +kernel
theorem dX1_decide_40 : decode cX1_decide 40 = .ok (.aload 4, 2) := by decide +kernel
theorem dX1_decide_42 : decode cX1_decide 42 = .ok (.iload_n 1, 1) := by decide +kernel
theorem dX1_decide_43 : decode cX1_decide 43 = .ok (.iconst 3, 1) := by decide +kernel
theorem dX1_decide_44 : decode cX1_decide 44 = .ok (.invokevirtual 69, 3) := by decide +kernel
theorem dX1_decide_47 : decode cX1_decide 47 = .ok (.invokestatic 72, 3) := by decide +kernel
theorem dX1_decide_50 : decode cX1_decide 50 = .ok (.land, 1) := by decide +kernel
theorem dX1_decide_51 : decode cX1_decide 51 = .ok (.lconst 0, 1) := by decide +kernel
theorem dX1_decide_52 : decode cX1_decide 52 = .ok (.lcmp, 1) := by decide +kernel
theorem dX1_decide_53 : decode cX1_decide 53 = .ok (.ifCond .eq 7, 3) := by decide +kernel
theorem dX1_decide_56 : decode cX1_decide 56 = .ok (.iconst 1, 1) := by decide +kernel
theorem dX1_decide_57 : decode cX1_decide 57 = .ok (.goto 4, 3) := by decide +kernel
theorem dX1_decide_60 : decode cX1_decide 60 = .ok (.iconst 0, 1) := by decide +kernel
theorem dX1_decide_61 : decode cX1_decide 61 = .ok (.istore 7, 2) := by decide +kernel
theorem dX1_decide_63 : decode cX1_decide 63 = .ok (.iload 7, 2) := by decide +kernel
theorem dX1_decide_65 : decode cX1_decide 65 = .ok (.ifCond .eq 8, 3) := by decide +kernel
theorem dX1_decide_68 : decode cX1_decide 68 = .ok (.lload 5, 2) := by decide +kernel
theorem dX1_decide_70 : decode cX1_decide 70 = .ok (.goto 4, 3) := by decide +kernel
theorem dX1_decide_73 : decode cX1_decide 73 = .ok (.lload_n 2, 1) := by decide +kernel
theorem dX1_decide_74 : decode cX1_decide 74 = .ok (.lstore 8, 2) := by decide +kernel
theorem dX1_decide_76 : decode cX1_decide 76 = .ok (.iload 7, 2) := by decide +kernel
theorem dX1_decide_78 : decode cX1_decide 78 = .ok (.ifCond .eq 7, 3) := by decide +kernel
theorem dX1_decide_81 : decode cX1_decide 81 = .ok (.lload_n 2, 1) := by decide +kernel
theorem dX1_decide_82 : decode cX1_decide 82 = .ok (.goto 5, 3) := by decide +kernel
theorem dX1_decide_85 : decode cX1_decide 85 = .ok (.lload 5, 2) := by decide +kernel
theorem dX1_decide_87 : decode cX1_decide 87 = .ok (.lstore 10, 2) := by decide +kernel
theorem dX1_decide_89 : decode cX1_decide 89 = .ok (.aload_n 0, 1) := by decide +kernel
theorem dX1_decide_90 : decode cX1_decide 90 = .ok (.iload_n 1, 1) := by decide +kernel
theorem dX1_decide_91 : decode cX1_decide 91 = .ok (.lload 8, 2) := by decide +kernel
theorem dX1_decide_93 : decode cX1_decide 93 = .ok (.invokevirtual 75, 3) := by decide +kernel
theorem dX1_decide_96 : decode cX1_decide 96 = .ok (.ifCond .eq 12, 3) := by decide +kernel
theorem dX1_decide_99 : decode cX1_decide 99 = .ok (.aload_n 0, 1) := by decide +kernel
theorem dX1_decide_100 : decode cX1_decide 100 = .ok (.iload_n 1, 1) := by decide +kernel
theorem dX1_decide_101 : decode cX1_decide 101 = .ok (.iconst 1, 1) := by decide +kernel
theorem dX1_decide_102 : decode cX1_decide 102 = .ok (.isub, 1) := by decide +kernel
theorem dX1_decide_103 : decode cX1_decide 103 = .ok (.lload 8, 2) := by decide +kernel
theorem dX1_decide_105 : decode cX1_decide 105 = .ok (.invokestatic 47, 3) := by decide +kernel
theorem dX1_decide_108 : decode cX1_decide 108 = .ok (.aload_n 0, 1) := by decide +kernel
theorem dX1_decide_109 : decode cX1_decide 109 = .ok (.iload_n 1, 1) := by decide +kernel
theorem dX1_decide_110 : decode cX1_decide 110 = .ok (.lload 10, 2) := by decide +kernel
theorem dX1_decide_112 : decode cX1_decide 112 = .ok (.invokevirtual 75, 3) := by decide +kernel
theorem dX1_decide_115 : decode cX1_decide 115 = .ok (.ifCond .eq 12, 3) := by decide +kernel
theorem dX1_decide_118 : decode cX1_decide 118 = .ok (.aload_n 0, 1) := by decide +kernel
theorem dX1_decide_119 : decode cX1_decide 119 = .ok (.iload_n 1, 1) := by decide +kernel
theorem dX1_decide_120 : decode cX1_decide 120 = .ok (.iconst 1, 1) := by decide +kernel
theorem dX1_decide_121 : decode cX1_decide 121 = .ok (.isub, 1) := by decide +kernel
theorem dX1_decide_122 : decode cX1_decide 122 = .ok (.lload 10, 2) := by decide +kernel
theorem dX1_decide_124 : decode cX1_decide 124 = .ok (.invokestatic 47, 3) := by decide +kernel
theorem dX1_decide_127 : decode cX1_decide 127 = .ok (.return_, 1) := by decide +kernel
theorem dX1_takeRing_0 : decode cX1_takeRing 0 = .ok (.lload_n 1, 1) := by decide +kernel
theorem dX1_takeRing_1 : decode cX1_takeRing 1 = .ok (.lconst 0, 1) := by decide +kernel
theorem dX1_takeRing_2 : decode cX1_takeRing 2 = .ok (.lcmp, 1) := by decide +kernel
theorem dX1_takeRing_3 : decode cX1_takeRing 3 = .ok (.ifCond .eq 24, 3) := by decide +kernel
theorem dX1_takeRing_6 : decode cX1_takeRing 6 = .ok (.aload_n 0, 1) := by decide +kernel
theorem dX1_takeRing_7 : decode cX1_takeRing 7 = .ok (.getfield 25, 3) := by decide +kernel
theorem dX1_takeRing_10 : decode cX1_takeRing 10 = .ok (.lload_n 1, 1) := by decide +kernel
theorem dX1_takeRing_11 : decode cX1_takeRing 11 = .ok (.lload_n 1, 1) := by decide +kernel
theorem dX1_takeRing_12 : decode cX1_takeRing 12 = .ok (.invokestatic 79, 3) := by decide +kernel
theorem dX1_takeRing_15 : decode cX1_takeRing 15 = .ok (.invokevirtual 85, 3) := by decide +kernel
theorem dX1_takeRing_18 : decode cX1_takeRing 18 = .ok (.lload_n 1, 1) := by decide +kernel
theorem dX1_takeRing_19 : decode cX1_takeRing 19 = .ok (.lcmp, 1) := by decide +kernel
theorem dX1_takeRing_20 : decode cX1_takeRing 20 = .ok (.ifCond .ne 7, 3) := by decide +kernel
theorem dX1_takeRing_23 : decode cX1_takeRing 23 = .ok (.iconst 1, 1) := by decide +kernel
theorem dX1_takeRing_24 : decode cX1_takeRing 24 = .ok (.goto 4, 3) := by decide +kernel
theorem dX1_takeRing_27 : decode cX1_takeRing 27 = .ok (.iconst 0, 1) := by decide +kernel
theorem dX1_takeRing_28 : decode cX1_takeRing 28 = .ok (.istore_n 3, 1) := by decide +kernel
theorem dX1_takeRing_29 : decode cX1_takeRing 29 = .ok (.iload_n 3, 1) := by decide +kernel
theorem dX1_takeRing_30 : decode cX1_takeRing 30 = .ok (.ifCond .eq 42, 3) := by decide +kernel
theorem dX1_takeRing_33 : decode cX1_takeRing 33 = .ok (.aload_n 0, 1) := by decide +kernel
theorem dX1_takeRing_34 : decode cX1_takeRing 34 = .ok (.getfield 21, 3) := by decide +kernel
theorem dX1_takeRing_37 : decode cX1_takeRing 37 = .ok (.ifCond .lt 35, 3) := by decide +kernel
theorem dX1_takeRing_40 : decode cX1_takeRing 40 = .ok (.aload_n 0, 1) := by decide +kernel
theorem dX1_takeRing_41 : decode cX1_takeRing 41 = .ok (.getfield 21, 3) := by decide +kernel
theorem dX1_takeRing_44 : decode cX1_takeRing 44 = .ok (.aload_n 0, 1) := by decide +kernel
theorem dX1_takeRing_45 : decode cX1_takeRing 45 = .ok (.getfield 35, 3) := by decide +kernel
theorem dX1_takeRing_48 : decode cX1_takeRing 48 = .ok (.arraylength, 1) := by decide +kernel
theorem dX1_takeRing_49 : decode cX1_takeRing 49 = .ok (.if_icmp .ge 23, 3) := by decide +kernel
theorem dX1_takeRing_52 : decode cX1_takeRing 52 = .ok (.aload_n 0, 1) := by decide +kernel
theorem dX1_takeRing_53 : decode cX1_takeRing 53 = .ok (.getfield 35, 3) := by decide +kernel
theorem dX1_takeRing_56 : decode cX1_takeRing 56 = .ok (.aload_n 0, 1) := by decide +kernel
theorem dX1_takeRing_57 : decode cX1_takeRing 57 = .ok (.getfield 21, 3) := by decide +kernel
theorem dX1_takeRing_60 : decode cX1_takeRing 60 = .ok (.lload_n 1, 1) := by decide +kernel
theorem dX1_takeRing_61 : decode cX1_takeRing 61 = .ok (.lastore, 1) := by decide +kernel
theorem dX1_takeRing_62 : decode cX1_takeRing 62 = .ok (.aload_n 0, 1) := by decide +kernel
theorem dX1_takeRing_63 : decode cX1_takeRing 63 = .ok (.dup, 1) := by decide +kernel
theorem dX1_takeRing_64 : decode cX1_takeRing 64 = .ok (.getfield 21, 3) := by decide +kernel
theorem dX1_takeRing_67 : decode cX1_takeRing 67 = .ok (.iconst 1, 1) := by decide +kernel
theorem dX1_takeRing_68 : decode cX1_takeRing 68 = .ok (.iadd, 1) := by decide +kernel
theorem dX1_takeRing_69 : decode cX1_takeRing 69 = .ok (.putfield 21, 3) := by decide +kernel
theorem dX1_takeRing_72 : decode cX1_takeRing 72 = .ok (.return_, 1) := by decide +kernel
theorem dX1_fits_0 : decode cX1_fits 0 = .ok (.aload_n 0, 1) := by decide +kernel
theorem dX1_fits_1 : decode cX1_fits 1 = .ok (.getfield 25, 3) := by decide +kernel
theorem dX1_fits_4 : decode cX1_fits 4 = .ok (.iload_n 1, 1) := by decide +kernel
theorem dX1_fits_5 : decode cX1_fits 5 = .ok (.invokevirtual 89, 3) := by decide +kernel
theorem dX1_fits_8 : decode cX1_fits 8 = .ok (.lstore 4, 2) := by decide +kernel
theorem dX1_fits_10 : decode cX1_fits 10 = .ok (.lload_n 2, 1) := by decide +kernel
theorem dX1_fits_11 : decode cX1_fits 11 = .ok (.lload 4, 2) := by decide +kernel
theorem dX1_fits_13 : decode cX1_fits 13 = .ok (.land, 1) := by decide +kernel
theorem dX1_fits_14 : decode cX1_fits 14 = .ok (.aload_n 0, 1) := by decide +kernel
theorem dX1_fits_15 : decode cX1_fits 15 = .ok (.getfield 15, 3) := by decide +kernel
theorem dX1_fits_18 : decode cX1_fits 18 = .ok (.land, 1) := by decide +kernel
theorem dX1_fits_19 : decode cX1_fits 19 = .ok (.lconst 0, 1) := by decide +kernel
theorem dX1_fits_20 : decode cX1_fits 20 = .ok (.lcmp, 1) := by decide +kernel
theorem dX1_fits_21 : decode cX1_fits 21 = .ok (.ifCond .ne 21, 3) := by decide +kernel
theorem dX1_fits_24 : decode cX1_fits 24 = .ok (.lload_n 2, 1) := by decide +kernel
theorem dX1_fits_25 : decode cX1_fits 25 = .ok (.ldc2_w 59, 3) := by decide +kernel
theorem dX1_fits_28 : decode cX1_fits 28 = .ok (.lxor, 1) := by decide +kernel
theorem dX1_fits_29 : decode cX1_fits 29 = .ok (.lload 4, 2) := by decide +kernel
theorem dX1_fits_31 : decode cX1_fits 31 = .ok (.land, 1) := by decide +kernel
theorem dX1_fits_32 : decode cX1_fits 32 = .ok (.aload_n 0, 1) := by decide +kernel
theorem dX1_fits_33 : decode cX1_fits 33 = .ok (.getfield 9, 3) := by decide +kernel
theorem dX1_fits_36 : decode cX1_fits 36 = .ok (.land, 1) := by decide +kernel
theorem dX1_fits_37 : decode cX1_fits 37 = .ok (.lconst 0, 1) := by decide +kernel
theorem dX1_fits_38 : decode cX1_fits 38 = .ok (.lcmp, 1) := by decide +kernel
theorem dX1_fits_39 : decode cX1_fits 39 = .ok (.ifCond .eq 5, 3) := by decide +kernel
theorem dX1_fits_42 : decode cX1_fits 42 = .ok (.iconst 0, 1) := by decide +kernel
theorem dX1_fits_43 : decode cX1_fits 43 = .ok (.ireturn, 1) := by decide +kernel
theorem dX1_fits_44 : decode cX1_fits 44 = .ok (.lload_n 2, 1) := by decide +kernel
theorem dX1_fits_45 : decode cX1_fits 45 = .ok (.aload_n 0, 1) := by decide +kernel
theorem dX1_fits_46 : decode cX1_fits 46 = .ok (.getfield 25, 3) := by decide +kernel
theorem dX1_fits_49 : decode cX1_fits 49 = .ok (.iload_n 1, 1) := by decide +kernel
theorem dX1_fits_50 : decode cX1_fits 50 = .ok (.invokevirtual 92, 3) := by decide +kernel
theorem dX1_fits_53 : decode cX1_fits 53 = .ok (.land, 1) := by decide +kernel
theorem dX1_fits_54 : decode cX1_fits 54 = .ok (.invokestatic 95, 3) := by decide +kernel
theorem dX1_fits_57 : decode cX1_fits 57 = .ok (.iconst 2, 1) := by decide +kernel
theorem dX1_fits_58 : decode cX1_fits 58 = .ok (.if_icmp .le 5, 3) := by decide +kernel
theorem dX1_fits_61 : decode cX1_fits 61 = .ok (.iconst 0, 1) := by decide +kernel
theorem dX1_fits_62 : decode cX1_fits 62 = .ok (.ireturn, 1) := by decide +kernel
theorem dX1_fits_63 : decode cX1_fits 63 = .ok (.aload_n 0, 1) := by decide +kernel
theorem dX1_fits_64 : decode cX1_fits 64 = .ok (.getfield 18, 3) := by decide +kernel
theorem dX1_fits_67 : decode cX1_fits 67 = .ok (.lconst 0, 1) := by decide +kernel
theorem dX1_fits_68 : decode cX1_fits 68 = .ok (.lcmp, 1) := by decide +kernel
theorem dX1_fits_69 : decode cX1_fits 69 = .ok (.ifCond .ne 5, 3) := by decide +kernel
theorem dX1_fits_72 : decode cX1_fits 72 = .ok (.iconst 1, 1) := by decide +kernel
theorem dX1_fits_73 : decode cX1_fits 73 = .ok (.ireturn, 1) := by decide +kernel
theorem dX1_fits_74 : decode cX1_fits 74 = .ok (.aload_n 0, 1) := by decide +kernel
theorem dX1_fits_75 : decode cX1_fits 75 = .ok (.getfield 25, 3) := by decide +kernel
theorem dX1_fits_78 : decode cX1_fits 78 = .ok (.aload_n 0, 1) := by decide +kernel
theorem dX1_fits_79 : decode cX1_fits 79 = .ok (.getfield 25, 3) := by decide +kernel
theorem dX1_fits_82 : decode cX1_fits 82 = .ok (.iload_n 1, 1) := by decide +kernel
theorem dX1_fits_83 : decode cX1_fits 83 = .ok (.iconst 1, 1) := by decide +kernel
theorem dX1_fits_84 : decode cX1_fits 84 = .ok (.invokevirtual 69, 3) := by decide +kernel
theorem dX1_fits_87 : decode cX1_fits 87 = .ok (.iconst 1, 1) := by decide +kernel
theorem dX1_fits_88 : decode cX1_fits 88 = .ok (.invokevirtual 98, 3) := by decide +kernel
theorem dX1_fits_91 : decode cX1_fits 91 = .ok (.istore 6, 2) := by decide +kernel
theorem dX1_fits_93 : decode cX1_fits 93 = .ok (.aload_n 0, 1) := by decide +kernel
theorem dX1_fits_94 : decode cX1_fits 94 = .ok (.getfield 25, 3) := by decide +kernel
theorem dX1_fits_97 : decode cX1_fits 97 = .ok (.aload_n 0, 1) := by decide +kernel
theorem dX1_fits_98 : decode cX1_fits 98 = .ok (.getfield 25, 3) := by decide +kernel
theorem dX1_fits_101 : decode cX1_fits 101 = .ok (.iload_n 1, 1) := by decide +kernel
theorem dX1_fits_102 : decode cX1_fits 102 = .ok (.iconst 3, 1) := by decide +kernel
theorem dX1_fits_103 : decode cX1_fits 103 = .ok (.invokevirtual 69, 3) := by decide +kernel
theorem dX1_fits_106 : decode cX1_fits 106 = .ok (.iconst 1, 1) := by decide +kernel
theorem dX1_fits_107 : decode cX1_fits 107 = .ok (.invokevirtual 98, 3) := by decide +kernel
theorem dX1_fits_110 : decode cX1_fits 110 = .ok (.istore 7, 2) := by decide +kernel
theorem dX1_fits_112 : decode cX1_fits 112 = .ok (.aload_n 0, 1) := by decide +kernel
theorem dX1_fits_113 : decode cX1_fits 113 = .ok (.iload_n 1, 1) := by decide +kernel
theorem dX1_fits_114 : decode cX1_fits 114 = .ok (.lload_n 2, 1) := by decide +kernel
theorem dX1_fits_115 : decode cX1_fits 115 = .ok (.lload 4, 2) := by decide +kernel
theorem dX1_fits_117 : decode cX1_fits 117 = .ok (.invokevirtual 101, 3) := by decide +kernel
theorem dX1_fits_120 : decode cX1_fits 120 = .ok (.ifCond .eq 31, 3) := by decide +kernel
theorem dX1_fits_123 : decode cX1_fits 123 = .ok (.aload_n 0, 1) := by decide +kernel
theorem dX1_fits_124 : decode cX1_fits 124 = .ok (.iload 6, 2) := by decide +kernel
theorem dX1_fits_126 : decode cX1_fits 126 = .ok (.lload_n 2, 1) := by decide +kernel
theorem dX1_fits_127 : decode cX1_fits 127 = .ok (.lload 4, 2) := by decide +kernel
theorem dX1_fits_129 : decode cX1_fits 129 = .ok (.invokevirtual 101, 3) := by decide +kernel
theorem dX1_fits_132 : decode cX1_fits 132 = .ok (.ifCond .eq 19, 3) := by decide +kernel
theorem dX1_fits_135 : decode cX1_fits 135 = .ok (.aload_n 0, 1) := by decide +kernel
theorem dX1_fits_136 : decode cX1_fits 136 = .ok (.iload 7, 2) := by decide +kernel
theorem dX1_fits_138 : decode cX1_fits 138 = .ok (.lload_n 2, 1) := by decide +kernel
theorem dX1_fits_139 : decode cX1_fits 139 = .ok (.lload 4, 2) := by decide +kernel
theorem dX1_fits_141 : decode cX1_fits 141 = .ok (.invokevirtual 101, 3) := by decide +kernel
theorem dX1_fits_144 : decode cX1_fits 144 = .ok (.ifCond .eq 7, 3) := by decide +kernel
theorem dX1_fits_147 : decode cX1_fits 147 = .ok (.iconst 1, 1) := by decide +kernel
theorem dX1_fits_148 : decode cX1_fits 148 = .ok (.goto 4, 3) := by decide +kernel
theorem dX1_fits_151 : decode cX1_fits 151 = .ok (.iconst 0, 1) := by decide +kernel
theorem dX1_fits_152 : decode cX1_fits 152 = .ok (.ireturn, 1) := by decide +kernel
theorem dX1_fitsNumber_0 : decode cX1_fitsNumber 0 = .ok (.iload_n 1, 1) := by decide +kernel
theorem dX1_fitsNumber_1 : decode cX1_fitsNumber 1 = .ok (.bipush 16, 2) := by decide +kernel
theorem dX1_fitsNumber_3 : decode cX1_fitsNumber 3 = .ok (.if_icmp .ge 14, 3) := by decide +kernel
theorem dX1_fitsNumber_6 : decode cX1_fitsNumber 6 = .ok (.aload_n 0, 1) := by decide +kernel
theorem dX1_fitsNumber_7 : decode cX1_fitsNumber 7 = .ok (.getfield 18, 3) := by decide +kernel
theorem dX1_fitsNumber_10 : decode cX1_fitsNumber 10 = .ok (.iload_n 1, 1) := by decide +kernel
theorem dX1_fitsNumber_11 : decode cX1_fitsNumber 11 = .ok (.invokestatic 105, 3) := by decide +kernel
theorem dX1_fitsNumber_14 : decode cX1_fitsNumber 14 = .ok (.goto 4, 3) := by decide +kernel
theorem dX1_fitsNumber_17 : decode cX1_fitsNumber 17 = .ok (.iconst (-1), 1) := by decide +kernel
theorem dX1_fitsNumber_18 : decode cX1_fitsNumber 18 = .ok (.istore 6, 2) := by decide +kernel
theorem dX1_fitsNumber_20 : decode cX1_fitsNumber 20 = .ok (.iload 6, 2) := by decide +kernel
theorem dX1_fitsNumber_22 : decode cX1_fitsNumber 22 = .ok (.ifCond .ge 5, 3) := by decide +kernel
theorem dX1_fitsNumber_25 : decode cX1_fitsNumber 25 = .ok (.iconst 1, 1) := by decide +kernel
theorem dX1_fitsNumber_26 : decode cX1_fitsNumber 26 = .ok (.ireturn, 1) := by decide +kernel
theorem dX1_fitsNumber_27 : decode cX1_fitsNumber 27 = .ok (.aload_n 0, 1) := by decide +kernel
theorem dX1_fitsNumber_28 : decode cX1_fitsNumber 28 = .ok (.getfield 25, 3) := by decide +kernel
theorem dX1_fitsNumber_31 : decode cX1_fitsNumber 31 = .ok (.iload_n 1, 1) := by decide +kernel
theorem dX1_fitsNumber_32 : decode cX1_fitsNumber 32 = .ok (.invokevirtual 65, 3) := by decide +kernel
theorem dX1_fitsNumber_35 : decode cX1_fitsNumber 35 = .ok (.lstore 7, 2) := by decide +kernel
theorem dX1_fitsNumber_37 : decode cX1_fitsNumber 37 = .ok (.lload 7, 2) := by decide +kernel
theorem dX1_fitsNumber_39 : decode cX1_fitsNumber 39 = .ok (.lload 4, 2) := by decide +kernel
theorem dX1_fitsNumber_41 : decode cX1_fitsNumber 41 = .ok (.land, 1) := by decide +kernel
theorem dX1_fitsNumber_42 : decode cX1_fitsNumber 42 = .ok (.lload_n 2, 1) := by decide +kernel
theorem dX1_fitsNumber_43 : decode cX1_fitsNumber 43 = .ok (.land, 1) := by decide +kernel
theorem dX1_fitsNumber_44 : decode cX1_fitsNumber 44 = .ok (.invokestatic 95, 3) := by decide +kernel
theorem dX1_fitsNumber_47 : decode cX1_fitsNumber 47 = .ok (.istore 9, 2) := by decide +kernel
theorem dX1_fitsNumber_49 : decode cX1_fitsNumber 49 = .ok (.lload 7, 2) := by decide +kernel
theorem dX1_fitsNumber_51 : decode cX1_fitsNumber 51 = .ok (.lload 4, 2) := by decide +kernel
theorem dX1_fitsNumber_53 : decode cX1_fitsNumber 53 = .ok (.ldc2_w 59, 3) := by decide +kernel
theorem dX1_fitsNumber_56 : decode cX1_fitsNumber 56 = .ok (.lxor, 1) := by decide +kernel
theorem dX1_fitsNumber_57 : decode cX1_fitsNumber 57 = .ok (.land, 1) := by decide +kernel
theorem dX1_fitsNumber_58 : decode cX1_fitsNumber 58 = .ok (.invokestatic 95, 3) := by decide +kernel
theorem dX1_fitsNumber_61 : decode cX1_fitsNumber 61 = .ok (.istore 10, 2) := by decide +kernel
theorem dX1_fitsNumber_63 : decode cX1_fitsNumber 63 = .ok (.iload 9, 2) := by decide +kernel
theorem dX1_fitsNumber_65 : decode cX1_fitsNumber 65 = .ok (.iload 6, 2) := by decide +kernel
theorem dX1_fitsNumber_67 : decode cX1_fitsNumber 67 = .ok (.if_icmp .gt 17, 3) := by decide +kernel
theorem dX1_fitsNumber_70 : decode cX1_fitsNumber 70 = .ok (.iload 6, 2) := by decide +kernel
theorem dX1_fitsNumber_72 : decode cX1_fitsNumber 72 = .ok (.iload 9, 2) := by decide +kernel
theorem dX1_fitsNumber_74 : decode cX1_fitsNumber 74 = .ok (.iload 10, 2) := by decide +kernel
theorem dX1_fitsNumber_76 : decode cX1_fitsNumber 76 = .ok (.iadd, 1) := by decide +kernel
theorem dX1_fitsNumber_77 : decode cX1_fitsNumber 77 = .ok (.if_icmp .gt 7, 3) := by decide +kernel
theorem dX1_fitsNumber_80 : decode cX1_fitsNumber 80 = .ok (.iconst 1, 1) := by decide +kernel
theorem dX1_fitsNumber_81 : decode cX1_fitsNumber 81 = .ok (.goto 4, 3) := by decide +kernel
theorem dX1_fitsNumber_84 : decode cX1_fitsNumber 84 = .ok (.iconst 0, 1) := by decide +kernel
theorem dX1_fitsNumber_85 : decode cX1_fitsNumber 85 = .ok (.ireturn, 1) := by decide +kernel
theorem dX2_init_0 : decode cX2_init 0 = .ok (.aload_n 0, 1) := by decide +kernel
theorem dX2_init_1 : decode cX2_init 1 = .ok (.invokespecial 3, 3) := by decide +kernel
theorem dX2_init_4 : decode cX2_init 4 = .ok (.aload_n 0, 1) := by decide +kernel
theorem dX2_init_5 : decode cX2_init 5 = .ok (.new 9, 3) := by decide +kernel
theorem dX2_init_8 : decode cX2_init 8 = .ok (.dup, 1) := by decide +kernel
theorem dX2_init_9 : decode cX2_init 9 = .ok (.bipush 10, 2) := by decide +kernel
theorem dX2_init_11 : decode cX2_init 11 = .ok (.invokespecial 11, 3) := by decide +kernel
theorem dX2_init_14 : decode cX2_init 14 = .ok (.putfield 14, 3) := by decide +kernel
theorem dX2_init_17 : decode cX2_init 17 = .ok (.aload_n 0, 1) := by decide +kernel
theorem dX2_init_18 : decode cX2_init 18 = .ok (.iconst 0, 1) := by decide +kernel
theorem dX2_init_19 : decode cX2_init 19 = .ok (.putfield 20, 3) := by decide +kernel
theorem dX2_init_22 : decode cX2_init 22 = .ok (.aload_n 0, 1) := by decide +kernel
theorem dX2_init_23 : decode cX2_init 23 = .ok (.iconst 0, 1) := by decide +kernel
theorem dX2_init_24 : decode cX2_init 24 = .ok (.putfield 24, 3) := by decide +kernel
theorem dX2_init_27 : decode cX2_init 27 = .ok (.return_, 1) := by decide +kernel
theorem dX2_remember_0 : decode cX2_remember 0 = .ok (.aload_n 0, 1) := by decide +kernel
theorem dX2_remember_1 : decode cX2_remember 1 = .ok (.getfield 14, 3) := by decide +kernel
theorem dX2_remember_4 : decode cX2_remember 4 = .ok (.aload_n 0, 1) := by decide +kernel
theorem dX2_remember_5 : decode cX2_remember 5 = .ok (.getfield 20, 3) := by decide +kernel
theorem dX2_remember_8 : decode cX2_remember 8 = .ok (.aload_n 1, 1) := by decide +kernel
theorem dX2_remember_9 : decode cX2_remember 9 = .ok (.invokevirtual 27, 3) := by decide +kernel
theorem dX2_remember_12 : decode cX2_remember 12 = .ok (.aload_n 0, 1) := by decide +kernel
theorem dX2_remember_13 : decode cX2_remember 13 = .ok (.aload_n 0, 1) := by decide +kernel
theorem dX2_remember_14 : decode cX2_remember 14 = .ok (.getfield 20, 3) := by decide +kernel
theorem dX2_remember_17 : decode cX2_remember 17 = .ok (.iconst 1, 1) := by decide +kernel
theorem dX2_remember_18 : decode cX2_remember 18 = .ok (.iadd, 1) := by decide +kernel
theorem dX2_remember_19 : decode cX2_remember 19 = .ok (.bipush 10, 2) := by decide +kernel
theorem dX2_remember_21 : decode cX2_remember 21 = .ok (.if_icmp .ge 12, 3) := by decide +kernel
theorem dX2_remember_24 : decode cX2_remember 24 = .ok (.aload_n 0, 1) := by decide +kernel
theorem dX2_remember_25 : decode cX2_remember 25 = .ok (.getfield 20, 3) := by decide +kernel
theorem dX2_remember_28 : decode cX2_remember 28 = .ok (.iconst 1, 1) := by decide +kernel
theorem dX2_remember_29 : decode cX2_remember 29 = .ok (.iadd, 1) := by decide +kernel
theorem dX2_remember_30 : decode cX2_remember 30 = .ok (.goto 4, 3) := by decide +kernel
theorem dX2_remember_33 : decode cX2_remember 33 = .ok (.iconst 0, 1) := by decide +kernel
theorem dX2_remember_34 : decode cX2_remember 34 = .ok (.putfield 20, 3) := by decide +kernel
theorem dX2_remember_37 : decode cX2_remember 37 = .ok (.aload_n 0, 1) := by decide +kernel
theorem dX2_remember_38 : decode cX2_remember 38 = .ok (.aload_n 0, 1) := by decide +kernel
theorem dX2_remember_39 : decode cX2_remember 39 = .ok (.getfield 24, 3) := by decide +kernel
theorem dX2_remember_42 : decode cX2_remember 42 = .ok (.iconst 1, 1) := by decide +kernel
theorem dX2_remember_43 : decode cX2_remember 43 = .ok (.iadd, 1) := by decide +kernel
theorem dX2_remember_44 : decode cX2_remember 44 = .ok (.bipush 10, 2) := by decide +kernel
theorem dX2_remember_46 : decode cX2_remember 46 = .ok (.invokestatic 31, 3) := by decide +kernel
theorem dX2_remember_49 : decode cX2_remember 49 = .ok (.putfield 24, 3) := by decide +kernel
theorem dX2_remember_52 : decode cX2_remember 52 = .ok (.return_, 1) := by decide +kernel
theorem dX2_giveLatest_0 : decode cX2_giveLatest 0 = .ok (.aload_n 0, 1) := by decide +kernel
theorem dX2_giveLatest_1 : decode cX2_giveLatest 1 = .ok (.aload_n 0, 1) := by decide +kernel
theorem dX2_giveLatest_2 : decode cX2_giveLatest 2 = .ok (.getfield 20, 3) := by decide +kernel
theorem dX2_giveLatest_5 : decode cX2_giveLatest 5 = .ok (.ifCond .le 12, 3) := by decide +kernel
theorem dX2_giveLatest_8 : decode cX2_giveLatest 8 = .ok (.aload_n 0, 1) := by decide +kernel
theorem dX2_giveLatest_9 : decode cX2_giveLatest 9 = .ok (.getfield 20, 3) := by decide +kernel
theorem dX2_giveLatest_12 : decode cX2_giveLatest 12 = .ok (.iconst 1, 1) := by decide +kernel
theorem dX2_giveLatest_13 : decode cX2_giveLatest 13 = .ok (.isub, 1) := by decide +kernel
theorem dX2_giveLatest_14 : decode cX2_giveLatest 14 = .ok (.goto 5, 3) := by decide +kernel
theorem dX2_giveLatest_17 : decode cX2_giveLatest 17 = .ok (.bipush 9, 2) := by decide +kernel
theorem dX2_giveLatest_19 : decode cX2_giveLatest 19 = .ok (.putfield 20, 3) := by decide +kernel
theorem dX2_giveLatest_22 : decode cX2_giveLatest 22 = .ok (.aload_n 0, 1) := by decide +kernel
theorem dX2_giveLatest_23 : decode cX2_giveLatest 23 = .ok (.aload_n 0, 1) := by decide +kernel
theorem dX2_giveLatest_24 : decode cX2_giveLatest 24 = .ok (.getfield 24, 3) := by decide +kernel
theorem dX2_giveLatest_27 : decode cX2_giveLatest 27 = .ok (.iconst 1, 1) := by decide +kernel
theorem dX2_giveLatest_28 : decode cX2_giveLatest 28 = .ok (.isub, 1) := by decide +kernel
theorem dX2_giveLatest_29 : decode cX2_giveLatest 29 = .ok (.iconst 0, 1) := by decide +kernel
theorem dX2_giveLatest_30 : decode cX2_giveLatest 30 = .ok (.invokestatic 37, 3) := by decide +kernel
theorem dX2_giveLatest_33 : decode cX2_giveLatest 33 = .ok (.putfield 24, 3) := by decide +kernel
theorem dX2_giveLatest_36 : decode cX2_giveLatest 36 = .ok (.aload_n 0, 1) := by decide +kernel
theorem dX2_giveLatest_37 : decode cX2_giveLatest 37 = .ok (.getfield 14, 3) := by decide +kernel
theorem dX2_giveLatest_40 : decode cX2_giveLatest 40 = .ok (.aload_n 0, 1) := by decide +kernel
theorem dX2_giveLatest_41 : decode cX2_giveLatest 41 = .ok (.getfield 20, 3) := by decide +kernel
theorem dX2_giveLatest_44 : decode cX2_giveLatest 44 = .ok (.aload_n 1, 1) := by decide +kernel
theorem dX2_giveLatest_45 : decode cX2_giveLatest 45 = .ok (.invokevirtual 40, 3) := by decide +kernel
theorem dX2_giveLatest_48 : decode cX2_giveLatest 48 = .ok (.return_, 1) := by decide +kernel
theorem dX2_forget_0 : decode cX2_forget 0 = .ok (.aload_n 0, 1) := by decide +kernel
theorem dX2_forget_1 : decode cX2_forget 1 = .ok (.iconst 0, 1) := by decide +kernel
theorem dX2_forget_2 : decode cX2_forget 2 = .ok (.putfield 24, 3) := by decide +kernel
theorem dX2_forget_5 : decode cX2_forget 5 = .ok (.return_, 1) := by decide +kernel
theorem dX3_init_0 : decode cX3_init 0 = .ok (.aload_n 0, 1) := by decide +kernel
theorem dX3_init_1 : decode cX3_init 1 = .ok (.invokespecial 3, 3) := by decide +kernel
theorem dX3_init_4 : decode cX3_init 4 = .ok (.aload_n 0, 1) := by decide +kernel
theorem dX3_init_5 : decode cX3_init 5 = .ok (.iconst 0, 1) := by decide +kernel
theorem dX3_init_6 : decode cX3_init 6 = .ok (.putfield 11, 3) := by decide +kernel
theorem dX3_init_9 : decode cX3_init 9 = .ok (.aload_n 0, 1) := by decide +kernel
theorem dX3_init_10 : decode cX3_init 10 = .ok (.iconst 0, 1) := by decide +kernel
theorem dX3_init_11 : decode cX3_init 11 = .ok (.putfield 15, 3) := by decide +kernel
theorem dX3_init_14 : decode cX3_init 14 = .ok (.aload_n 0, 1) := by decide +kernel
theorem dX3_init_15 : decode cX3_init 15 = .ok (.iconst 0, 1) := by decide +kernel
theorem dX3_init_16 : decode cX3_init 16 = .ok (.putfield 18, 3) := by decide +kernel
theorem dX3_init_19 : decode cX3_init 19 = .ok (.aload_n 0, 1) := by decide +kernel
theorem dX3_init_20 : decode cX3_init 20 = .ok (.lconst 0, 1) := by decide +kernel
theorem dX3_init_21 : decode cX3_init 21 = .ok (.putfield 21, 3) := by decide +kernel
theorem dX3_init_24 : decode cX3_init 24 = .ok (.aload_n 0, 1) := by decide +kernel
theorem dX3_init_25 : decode cX3_init 25 = .ok (.aload_n 1, 1) := by decide +kernel
theorem dX3_init_26 : decode cX3_init 26 = .ok (.putfield 25, 3) := by decide +kernel
theorem dX3_init_29 : decode cX3_init 29 = .ok (.aload_n 0, 1) := by decide +kernel
theorem dX3_init_30 : decode cX3_init 30 = .ok (.aload_n 2, 1) := by decide +kernel
theorem dX3_init_31 : decode cX3_init 31 = .ok (.putfield 29, 3) := by decide +kernel
theorem dX3_init_34 : decode cX3_init 34 = .ok (.return_, 1) := by decide +kernel
theorem dX3_tells_0 : decode cX3_tells 0 = .ok (.aload_n 0, 1) := by decide +kernel
theorem dX3_tells_1 : decode cX3_tells 1 = .ok (.getfield 11, 3) := by decide +kernel
theorem dX3_tells_4 : decode cX3_tells 4 = .ok (.iconst 1, 1) := by decide +kernel
theorem dX3_tells_5 : decode cX3_tells 5 = .ok (.if_icmp .eq 11, 3) := by decide +kernel
theorem dX3_tells_8 : decode cX3_tells 8 = .ok (.aload_n 0, 1) := by decide +kernel
theorem dX3_tells_9 : decode cX3_tells 9 = .ok (.getfield 11, 3) := by decide +kernel
theorem dX3_tells_12 : decode cX3_tells 12 = .ok (.iconst 2, 1) := by decide +kernel
theorem dX3_tells_13 : decode cX3_tells 13 = .ok (.if_icmp .ne 7, 3) := by decide +kernel
theorem dX3_tells_16 : decode cX3_tells 16 = .ok (.iconst 1, 1) := by decide +kernel
theorem dX3_tells_17 : decode cX3_tells 17 = .ok (.goto 4, 3) := by decide +kernel
theorem dX3_tells_20 : decode cX3_tells 20 = .ok (.iconst 0, 1) := by decide +kernel
theorem dX3_tells_21 : decode cX3_tells 21 = .ok (.ireturn, 1) := by decide +kernel
theorem dX3_seek_0 : decode cX3_seek 0 = .ok (.aload_n 0, 1) := by decide +kernel
theorem dX3_seek_1 : decode cX3_seek 1 = .ok (.iconst 0, 1) := by decide +kernel
theorem dX3_seek_2 : decode cX3_seek 2 = .ok (.putfield 11, 3) := by decide +kernel
theorem dX3_seek_5 : decode cX3_seek 5 = .ok (.aload_n 0, 1) := by decide +kernel
theorem dX3_seek_6 : decode cX3_seek 6 = .ok (.lconst 0, 1) := by decide +kernel
theorem dX3_seek_7 : decode cX3_seek 7 = .ok (.putfield 21, 3) := by decide +kernel
theorem dX3_seek_10 : decode cX3_seek 10 = .ok (.aload_n 0, 1) := by decide +kernel
theorem dX3_seek_11 : decode cX3_seek 11 = .ok (.iconst 0, 1) := by decide +kernel
theorem dX3_seek_12 : decode cX3_seek 12 = .ok (.putfield 15, 3) := by decide +kernel
theorem dX3_seek_15 : decode cX3_seek 15 = .ok (.iconst 0, 1) := by decide +kernel
theorem dX3_seek_16 : decode cX3_seek 16 = .ok (.istore_n 1, 1) := by decide +kernel
theorem dX3_seek_17 : decode cX3_seek 17 = .ok (.iload_n 1, 1) := by decide +kernel
theorem dX3_seek_18 : decode cX3_seek 18 = .ok (.aload_n 0, 1) := by decide +kernel
theorem dX3_seek_19 : decode cX3_seek 19 = .ok (.getfield 25, 3) := by decide +kernel
theorem dX3_seek_22 : decode cX3_seek 22 = .ok (.getfield 33, 3) := by decide +kernel
theorem dX3_seek_25 : decode cX3_seek 25 = .ok (.if_icmp .ge 41, 3) := by decide +kernel
theorem dX3_seek_28 : decode cX3_seek 28 = .ok (.aload_n 0, 1) := by decide +kernel
theorem dX3_seek_29 : decode cX3_seek 29 = .ok (.getfield 11, 3) := by decide +kernel
theorem dX3_seek_32 : decode cX3_seek 32 = .ok (.ifCond .ne 34, 3) := by decide +kernel
theorem dX3_seek_35 : decode cX3_seek 35 = .ok (.aload_n 0, 1) := by decide +kernel
theorem dX3_seek_36 : decode cX3_seek 36 = .ok (.iload_n 1, 1) := by decide +kernel
theorem dX3_seek_37 : decode cX3_seek 37 = .ok (.putfield 18, 3) := by decide +kernel
theorem dX3_seek_40 : decode cX3_seek 40 = .ok (.aload_n 0, 1) := by decide +kernel
theorem dX3_seek_41 : decode cX3_seek 41 = .ok (.aload_n 0, 1) := by decide +kernel
theorem dX3_seek_42 : decode cX3_seek 42 = .ok (.getfield 29, 3) := by decide +kernel
theorem dX3_seek_45 : decode cX3_seek 45 = .ok (.iload_n 1, 1) := by decide +kernel
theorem dX3_seek_46 : decode cX3_seek 46 = .ok (.invokevirtual 38, 3) := by decide +kernel
theorem dX3_seek_49 : decode cX3_seek 49 = .ok (.aload_n 0, 1) := by decide +kernel
theorem dX3_seek_50 : decode cX3_seek 50 = .ok (.getfield 25, 3) := by decide +kernel
theorem dX3_seek_53 : decode cX3_seek 53 = .ok (.iload_n 1, 1) := by decide +kernel
theorem dX3_seek_54 : decode cX3_seek 54 = .ok (.invokevirtual 44, 3) := by decide +kernel
theorem dX3_seek_57 : decode cX3_seek 57 = .ok (.invokevirtual 48, 3) := by decide +kernel
theorem dX3_seek_60 : decode cX3_seek 60 = .ok (.iinc 1 1, 3) := by decide +kernel
theorem dX3_seek_63 : decode cX3_seek 63 = .ok (.goto (-46), 3) := by decide +kernel
theorem dX3_seek_66 : decode cX3_seek 66 = .ok (.aload_n 0, 1) := by decide +kernel
theorem dX3_seek_67 : decode cX3_seek 67 = .ok (.getfield 11, 3) := by decide +kernel
theorem dX3_seek_70 : decode cX3_seek 70 = .ok (.ifCond .ne 8, 3) := by decide +kernel
theorem dX3_seek_73 : decode cX3_seek 73 = .ok (.aload_n 0, 1) := by decide +kernel
theorem dX3_seek_74 : decode cX3_seek 74 = .ok (.iconst 1, 1) := by decide +kernel
theorem dX3_seek_75 : decode cX3_seek 75 = .ok (.putfield 15, 3) := by decide +kernel
theorem dX3_seek_78 : decode cX3_seek 78 = .ok (.iconst 0, 1) := by decide +kernel
theorem dX3_seek_79 : decode cX3_seek 79 = .ok (.istore_n 1, 1) := by decide +kernel
theorem dX3_seek_80 : decode cX3_seek 80 = .ok (.iload_n 1, 1) := by decide +kernel
theorem dX3_seek_81 : decode cX3_seek 81 = .ok (.aload_n 0, 1) := by decide +kernel
theorem dX3_seek_82 : decode cX3_seek 82 = .ok (.getfield 25, 3) := by decide +kernel
theorem dX3_seek_85 : decode cX3_seek 85 = .ok (.getfield 52, 3) := by decide +kernel
theorem dX3_seek_88 : decode cX3_seek 88 = .ok (.if_icmp .ge 33, 3) := by decide +kernel
theorem dX3_seek_91 : decode cX3_seek 91 = .ok (.aload_n 0, 1) := by decide +kernel
theorem dX3_seek_92 : decode cX3_seek 92 = .ok (.getfield 11, 3) := by decide +kernel
theorem dX3_seek_95 : decode cX3_seek 95 = .ok (.ifCond .ne 26, 3) := by decide +kernel
theorem dX3_seek_98 : decode cX3_seek 98 = .ok (.aload_n 0, 1) := by decide +kernel
theorem dX3_seek_99 : decode cX3_seek 99 = .ok (.iload_n 1, 1) := by decide +kernel
theorem dX3_seek_100 : decode cX3_seek 100 = .ok (.putfield 18, 3) := by decide +kernel
theorem dX3_seek_103 : decode cX3_seek 103 = .ok (.aload_n 0, 1) := by decide +kernel
theorem dX3_seek_104 : decode cX3_seek 104 = .ok (.aload_n 0, 1) := by decide +kernel
theorem dX3_seek_105 : decode cX3_seek 105 = .ok (.getfield 25, 3) := by decide +kernel
theorem dX3_seek_108 : decode cX3_seek 108 = .ok (.iload_n 1, 1) := by decide +kernel
theorem dX3_seek_109 : decode cX3_seek 109 = .ok (.invokevirtual 55, 3) := by decide +kernel
theorem dX3_seek_112 : decode cX3_seek 112 = .ok (.invokevirtual 58, 3) := by decide +kernel
theorem dX3_seek_115 : decode cX3_seek 115 = .ok (.iinc 1 1, 3) := by decide +kernel
theorem dX3_seek_118 : decode cX3_seek 118 = .ok (.goto (-38), 3) := by decide +kernel
theorem dX3_seek_121 : decode cX3_seek 121 = .ok (.aload_n 0, 1) := by decide +kernel
theorem dX3_seek_122 : decode cX3_seek 122 = .ok (.getfield 11, 3) := by decide +kernel
theorem dX3_seek_125 : decode cX3_seek 125 = .ok (.ifCond .ne 8, 3) := by decide +kernel
theorem dX3_seek_128 : decode cX3_seek 128 = .ok (.aload_n 0, 1) := by decide +kernel
theorem dX3_seek_129 : decode cX3_seek 129 = .ok (.iconst 2, 1) := by decide +kernel
theorem dX3_seek_130 : decode cX3_seek 130 = .ok (.putfield 15, 3) := by decide +kernel
theorem dX3_seek_133 : decode cX3_seek 133 = .ok (.iconst 0, 1) := by decide +kernel
theorem dX3_seek_134 : decode cX3_seek 134 = .ok (.istore_n 1, 1) := by decide +kernel
theorem dX3_seek_135 : decode cX3_seek 135 = .ok (.iload_n 1, 1) := by decide +kernel
theorem dX3_seek_136 : decode cX3_seek 136 = .ok (.aload_n 0, 1) := by decide +kernel
theorem dX3_seek_137 : decode cX3_seek 137 = .ok (.getfield 25, 3) := by decide +kernel
theorem dX3_seek_140 : decode cX3_seek 140 = .ok (.getfield 62, 3) := by decide +kernel
theorem dX3_seek_143 : decode cX3_seek 143 = .ok (.if_icmp .ge 34, 3) := by decide +kernel
theorem dX3_seek_146 : decode cX3_seek 146 = .ok (.aload_n 0, 1) := by decide +kernel
theorem dX3_seek_147 : decode cX3_seek 147 = .ok (.getfield 11, 3) := by decide +kernel
theorem dX3_seek_150 : decode cX3_seek 150 = .ok (.ifCond .ne 27, 3) := by decide +kernel
theorem dX3_seek_153 : decode cX3_seek 153 = .ok (.aload_n 0, 1) := by decide +kernel
theorem dX3_seek_154 : decode cX3_seek 154 = .ok (.iload_n 1, 1) := by decide +kernel
theorem dX3_seek_155 : decode cX3_seek 155 = .ok (.putfield 18, 3) := by decide +kernel
theorem dX3_seek_158 : decode cX3_seek 158 = .ok (.aload_n 0, 1) := by decide +kernel
theorem dX3_seek_159 : decode cX3_seek 159 = .ok (.iload_n 1, 1) := by decide +kernel
theorem dX3_seek_160 : decode cX3_seek 160 = .ok (.aload_n 0, 1) := by decide +kernel
theorem dX3_seek_161 : decode cX3_seek 161 = .ok (.getfield 29, 3) := by decide +kernel
theorem dX3_seek_164 : decode cX3_seek 164 = .ok (.iload_n 1, 1) := by decide +kernel
theorem dX3_seek_165 : decode cX3_seek 165 = .ok (.invokevirtual 65, 3) := by decide +kernel
theorem dX3_seek_168 : decode cX3_seek 168 = .ok (.invokevirtual 68, 3) := by decide +kernel
theorem dX3_seek_171 : decode cX3_seek 171 = .ok (.iinc 1 1, 3) := by decide +kernel
theorem dX3_seek_174 : decode cX3_seek 174 = .ok (.goto (-39), 3) := by decide +kernel
theorem dX3_seek_177 : decode cX3_seek 177 = .ok (.aload_n 0, 1) := by decide +kernel
theorem dX3_seek_178 : decode cX3_seek 178 = .ok (.getfield 11, 3) := by decide +kernel
theorem dX3_seek_181 : decode cX3_seek 181 = .ok (.ifCond .ne 8, 3) := by decide +kernel
theorem dX3_seek_184 : decode cX3_seek 184 = .ok (.aload_n 0, 1) := by decide +kernel
theorem dX3_seek_185 : decode cX3_seek 185 = .ok (.iconst 3, 1) := by decide +kernel
theorem dX3_seek_186 : decode cX3_seek 186 = .ok (.putfield 15, 3) := by decide +kernel
theorem dX3_seek_189 : decode cX3_seek 189 = .ok (.iconst 0, 1) := by decide +kernel
theorem dX3_seek_190 : decode cX3_seek 190 = .ok (.istore_n 1, 1) := by decide +kernel
theorem dX3_seek_191 : decode cX3_seek 191 = .ok (.iload_n 1, 1) := by decide +kernel
theorem dX3_seek_192 : decode cX3_seek 192 = .ok (.aload_n 0, 1) := by decide +kernel
theorem dX3_seek_193 : decode cX3_seek 193 = .ok (.getfield 25, 3) := by decide +kernel
theorem dX3_seek_196 : decode cX3_seek 196 = .ok (.getfield 62, 3) := by decide +kernel
theorem dX3_seek_199 : decode cX3_seek 199 = .ok (.if_icmp .ge 34, 3) := by decide +kernel
theorem dX3_seek_202 : decode cX3_seek 202 = .ok (.aload_n 0, 1) := by decide +kernel
theorem dX3_seek_203 : decode cX3_seek 203 = .ok (.getfield 11, 3) := by decide +kernel
theorem dX3_seek_206 : decode cX3_seek 206 = .ok (.ifCond .ne 27, 3) := by decide +kernel
theorem dX3_seek_209 : decode cX3_seek 209 = .ok (.aload_n 0, 1) := by decide +kernel
theorem dX3_seek_210 : decode cX3_seek 210 = .ok (.iload_n 1, 1) := by decide +kernel
theorem dX3_seek_211 : decode cX3_seek 211 = .ok (.putfield 18, 3) := by decide +kernel
theorem dX3_seek_214 : decode cX3_seek 214 = .ok (.aload_n 0, 1) := by decide +kernel
theorem dX3_seek_215 : decode cX3_seek 215 = .ok (.iload_n 1, 1) := by decide +kernel
theorem dX3_seek_216 : decode cX3_seek 216 = .ok (.aload_n 0, 1) := by decide +kernel
theorem dX3_seek_217 : decode cX3_seek 217 = .ok (.getfield 29, 3) := by decide +kernel
theorem dX3_seek_220 : decode cX3_seek 220 = .ok (.iload_n 1, 1) := by decide +kernel
theorem dX3_seek_221 : decode cX3_seek 221 = .ok (.invokevirtual 65, 3) := by decide +kernel
theorem dX3_seek_224 : decode cX3_seek 224 = .ok (.invokevirtual 72, 3) := by decide +kernel
theorem dX3_seek_227 : decode cX3_seek 227 = .ok (.iinc 1 1, 3) := by decide +kernel
theorem dX3_seek_230 : decode cX3_seek 230 = .ok (.goto (-39), 3) := by decide +kernel
theorem dX3_seek_233 : decode cX3_seek 233 = .ok (.return_, 1) := by decide +kernel
theorem dX3_lookAtCell_0 : decode cX3_lookAtCell 0 = .ok (.iload_n 1, 1) := by decide +kernel
theorem dX3_lookAtCell_1 : decode cX3_lookAtCell 1 = .ok (.ifCond .ge 4, 3) := by decide +kernel
theorem dX3_lookAtCell_4 : decode cX3_lookAtCell 4 = .ok (.return_, 1) := by decide +kernel
theorem dX3_lookAtCell_5 : decode cX3_lookAtCell 5 = .ok (.aload_n 0, 1) := by decide +kernel
theorem dX3_lookAtCell_6 : decode cX3_lookAtCell 6 = .ok (.lload_n 2, 1) := by decide +kernel
theorem dX3_lookAtCell_7 : decode cX3_lookAtCell 7 = .ok (.invokevirtual 75, 3) := by decide +kernel
theorem dX3_lookAtCell_10 : decode cX3_lookAtCell 10 = .ok (.lstore 4, 2) := by decide +kernel
theorem dX3_lookAtCell_12 : decode cX3_lookAtCell 12 = .ok (.lload_n 2, 1) := by decide +kernel
theorem dX3_lookAtCell_13 : decode cX3_lookAtCell 13 = .ok (.aload_n 0, 1) := by decide +kernel
theorem dX3_lookAtCell_14 : decode cX3_lookAtCell 14 = .ok (.getfield 29, 3) := by decide +kernel
theorem dX3_lookAtCell_17 : decode cX3_lookAtCell 17 = .ok (.getfield 79, 3) := by decide +kernel
theorem dX3_lookAtCell_20 : decode cX3_lookAtCell 20 = .ok (.land, 1) := by decide +kernel
theorem dX3_lookAtCell_21 : decode cX3_lookAtCell 21 = .ok (.invokestatic 82, 3) := by decide +kernel
theorem dX3_lookAtCell_24 : decode cX3_lookAtCell 24 = .ok (.istore 6, 2) := by decide +kernel
theorem dX3_lookAtCell_26 : decode cX3_lookAtCell 26 = .ok (.lload 4, 2) := by decide +kernel
theorem dX3_lookAtCell_28 : decode cX3_lookAtCell 28 = .ok (.invokestatic 82, 3) := by decide +kernel
theorem dX3_lookAtCell_31 : decode cX3_lookAtCell 31 = .ok (.istore 7, 2) := by decide +kernel
theorem dX3_lookAtCell_33 : decode cX3_lookAtCell 33 = .ok (.iload 6, 2) := by decide +kernel
theorem dX3_lookAtCell_35 : decode cX3_lookAtCell 35 = .ok (.iload_n 1, 1) := by decide +kernel
theorem dX3_lookAtCell_36 : decode cX3_lookAtCell 36 = .ok (.if_icmp .gt 12, 3) := by decide +kernel
theorem dX3_lookAtCell_39 : decode cX3_lookAtCell 39 = .ok (.iload 6, 2) := by decide +kernel
theorem dX3_lookAtCell_41 : decode cX3_lookAtCell 41 = .ok (.iload 7, 2) := by decide +kernel
theorem dX3_lookAtCell_43 : decode cX3_lookAtCell 43 = .ok (.iadd, 1) := by decide +kernel
theorem dX3_lookAtCell_44 : decode cX3_lookAtCell 44 = .ok (.iload_n 1, 1) := by decide +kernel
theorem dX3_lookAtCell_45 : decode cX3_lookAtCell 45 = .ok (.if_icmp .ge 11, 3) := by decide +kernel
theorem dX3_lookAtCell_48 : decode cX3_lookAtCell 48 = .ok (.aload_n 0, 1) := by decide +kernel
theorem dX3_lookAtCell_49 : decode cX3_lookAtCell 49 = .ok (.iconst 3, 1) := by decide +kernel
theorem dX3_lookAtCell_50 : decode cX3_lookAtCell 50 = .ok (.putfield 11, 3) := by decide +kernel
theorem dX3_lookAtCell_53 : decode cX3_lookAtCell 53 = .ok (.goto 45, 3) := by decide +kernel
theorem dX3_lookAtCell_56 : decode cX3_lookAtCell 56 = .ok (.iload 7, 2) := by decide +kernel
theorem dX3_lookAtCell_58 : decode cX3_lookAtCell 58 = .ok (.ifCond .le 19, 3) := by decide +kernel
theorem dX3_lookAtCell_61 : decode cX3_lookAtCell 61 = .ok (.iload 6, 2) := by decide +kernel
theorem dX3_lookAtCell_63 : decode cX3_lookAtCell 63 = .ok (.iload_n 1, 1) := by decide +kernel
theorem dX3_lookAtCell_64 : decode cX3_lookAtCell 64 = .ok (.if_icmp .ne 13, 3) := by decide +kernel
theorem dX3_lookAtCell_67 : decode cX3_lookAtCell 67 = .ok (.aload_n 0, 1) := by decide +kernel
theorem dX3_lookAtCell_68 : decode cX3_lookAtCell 68 = .ok (.iconst 1, 1) := by decide +kernel
theorem dX3_lookAtCell_69 : decode cX3_lookAtCell 69 = .ok (.lload 4, 2) := by decide +kernel
theorem dX3_lookAtCell_71 : decode cX3_lookAtCell 71 = .ok (.invokevirtual 88, 3) := by decide +kernel
theorem dX3_lookAtCell_74 : decode cX3_lookAtCell 74 = .ok (.goto 24, 3) := by decide +kernel
theorem dX3_lookAtCell_77 : decode cX3_lookAtCell 77 = .ok (.iload 7, 2) := by decide +kernel
theorem dX3_lookAtCell_79 : decode cX3_lookAtCell 79 = .ok (.ifCond .le 19, 3) := by decide +kernel
theorem dX3_lookAtCell_82 : decode cX3_lookAtCell 82 = .ok (.iload 6, 2) := by decide +kernel
theorem dX3_lookAtCell_84 : decode cX3_lookAtCell 84 = .ok (.iload 7, 2) := by decide +kernel
theorem dX3_lookAtCell_86 : decode cX3_lookAtCell 86 = .ok (.iadd, 1) := by decide +kernel
theorem dX3_lookAtCell_87 : decode cX3_lookAtCell 87 = .ok (.iload_n 1, 1) := by decide +kernel
theorem dX3_lookAtCell_88 : decode cX3_lookAtCell 88 = .ok (.if_icmp .ne 10, 3) := by decide +kernel
theorem dX3_lookAtCell_91 : decode cX3_lookAtCell 91 = .ok (.aload_n 0, 1) := by decide +kernel
theorem dX3_lookAtCell_92 : decode cX3_lookAtCell 92 = .ok (.iconst 2, 1) := by decide +kernel
theorem dX3_lookAtCell_93 : decode cX3_lookAtCell 93 = .ok (.lload 4, 2) := by decide +kernel
theorem dX3_lookAtCell_95 : decode cX3_lookAtCell 95 = .ok (.invokevirtual 88, 3) := by decide +kernel
theorem dX3_lookAtCell_98 : decode cX3_lookAtCell 98 = .ok (.return_, 1) := by decide +kernel
theorem dX3_lookAtPoint_0 : decode cX3_lookAtPoint 0 = .ok (.aload_n 0, 1) := by decide +kernel
theorem dX3_lookAtPoint_1 : decode cX3_lookAtPoint 1 = .ok (.lload_n 1, 1) := by decide +kernel
theorem dX3_lookAtPoint_2 : decode cX3_lookAtPoint 2 = .ok (.invokevirtual 75, 3) := by decide +kernel
theorem dX3_lookAtPoint_5 : decode cX3_lookAtPoint 5 = .ok (.lstore_n 3, 1) := by decide +kernel
theorem dX3_lookAtPoint_6 : decode cX3_lookAtPoint 6 = .ok (.lload_n 1, 1) := by decide +kernel
theorem dX3_lookAtPoint_7 : decode cX3_lookAtPoint 7 = .ok (.aload_n 0, 1) := by decide +kernel
theorem dX3_lookAtPoint_8 : decode cX3_lookAtPoint 8 = .ok (.getfield 29, 3) := by decide +kernel
theorem dX3_lookAtPoint_11 : decode cX3_lookAtPoint 11 = .ok (.getfield 79, 3) := by decide +kernel
theorem dX3_lookAtPoint_14 : decode cX3_lookAtPoint 14 = .ok (.land, 1) := by decide +kernel
theorem dX3_lookAtPoint_15 : decode cX3_lookAtPoint 15 = .ok (.invokestatic 82, 3) := by decide +kernel
theorem dX3_lookAtPoint_18 : decode cX3_lookAtPoint 18 = .ok (.istore 5, 2) := by decide +kernel
theorem dX3_lookAtPoint_20 : decode cX3_lookAtPoint 20 = .ok (.lload_n 3, 1) := by decide +kernel
theorem dX3_lookAtPoint_21 : decode cX3_lookAtPoint 21 = .ok (.invokestatic 82, 3) := by decide +kernel
theorem dX3_lookAtPoint_24 : decode cX3_lookAtPoint 24 = .ok (.istore 6, 2) := by decide +kernel
theorem dX3_lookAtPoint_26 : decode cX3_lookAtPoint 26 = .ok (.iload 5, 2) := by decide +kernel
theorem dX3_lookAtPoint_28 : decode cX3_lookAtPoint 28 = .ok (.iconst 2, 1) := by decide +kernel
theorem dX3_lookAtPoint_29 : decode cX3_lookAtPoint 29 = .ok (.if_icmp .gt 14, 3) := by decide +kernel
theorem dX3_lookAtPoint_32 : decode cX3_lookAtPoint 32 = .ok (.iload 5, 2) := by decide +kernel
theorem dX3_lookAtPoint_34 : decode cX3_lookAtPoint 34 = .ok (.iconst 1, 1) := by decide +kernel
theorem dX3_lookAtPoint_35 : decode cX3_lookAtPoint 35 = .ok (.if_icmp .ne 16, 3) := by decide +kernel
theorem dX3_lookAtPoint_38 : decode cX3_lookAtPoint 38 = .ok (.iload 6, 2) := by decide +kernel
theorem dX3_lookAtPoint_40 : decode cX3_lookAtPoint 40 = .ok (.ifCond .ne 11, 3) := by decide +kernel
theorem dX3_lookAtPoint_43 : decode cX3_lookAtPoint 43 = .ok (.aload_n 0, 1) := by decide +kernel
theorem dX3_lookAtPoint_44 : decode cX3_lookAtPoint 44 = .ok (.iconst 3, 1) := by decide +kernel
theorem dX3_lookAtPoint_45 : decode cX3_lookAtPoint 45 = .ok (.putfield 11, 3) := by decide +kernel
theorem dX3_lookAtPoint_48 : decode cX3_lookAtPoint 48 = .ok (.goto 52, 3) := by decide +kernel
theorem dX3_lookAtPoint_51 : decode cX3_lookAtPoint 51 = .ok (.iload 5, 2) := by decide +kernel
theorem dX3_lookAtPoint_53 : decode cX3_lookAtPoint 53 = .ok (.iconst 2, 1) := by decide +kernel
theorem dX3_lookAtPoint_54 : decode cX3_lookAtPoint 54 = .ok (.if_icmp .ne 8, 3) := by decide +kernel
theorem dX3_lookAtPoint_57 : decode cX3_lookAtPoint 57 = .ok (.iload 6, 2) := by decide +kernel
theorem dX3_lookAtPoint_59 : decode cX3_lookAtPoint 59 = .ok (.ifCond .gt 14, 3) := by decide +kernel
theorem dX3_lookAtPoint_62 : decode cX3_lookAtPoint 62 = .ok (.iload 5, 2) := by decide +kernel
theorem dX3_lookAtPoint_64 : decode cX3_lookAtPoint 64 = .ok (.ifCond .ne 18, 3) := by decide +kernel
theorem dX3_lookAtPoint_67 : decode cX3_lookAtPoint 67 = .ok (.iload 6, 2) := by decide +kernel
theorem dX3_lookAtPoint_69 : decode cX3_lookAtPoint 69 = .ok (.iconst 1, 1) := by decide +kernel
theorem dX3_lookAtPoint_70 : decode cX3_lookAtPoint 70 = .ok (.if_icmp .ne 12, 3) := by decide +kernel
theorem dX3_lookAtPoint_73 : decode cX3_lookAtPoint 73 = .ok (.aload_n 0, 1) := by decide +kernel
theorem dX3_lookAtPoint_74 : decode cX3_lookAtPoint 74 = .ok (.iconst 1, 1) := by decide +kernel
theorem dX3_lookAtPoint_75 : decode cX3_lookAtPoint 75 = .ok (.lload_n 3, 1) := by decide +kernel
theorem dX3_lookAtPoint_76 : decode cX3_lookAtPoint 76 = .ok (.invokevirtual 88, 3) := by decide +kernel
theorem dX3_lookAtPoint_79 : decode cX3_lookAtPoint 79 = .ok (.goto 21, 3) := by decide +kernel
theorem dX3_lookAtPoint_82 : decode cX3_lookAtPoint 82 = .ok (.iload 5, 2) := by decide +kernel
theorem dX3_lookAtPoint_84 : decode cX3_lookAtPoint 84 = .ok (.iconst 1, 1) := by decide +kernel
theorem dX3_lookAtPoint_85 : decode cX3_lookAtPoint 85 = .ok (.if_icmp .ne 15, 3) := by decide +kernel
theorem dX3_lookAtPoint_88 : decode cX3_lookAtPoint 88 = .ok (.iload 6, 2) := by decide +kernel
theorem dX3_lookAtPoint_90 : decode cX3_lookAtPoint 90 = .ok (.iconst 1, 1) := by decide +kernel
theorem dX3_lookAtPoint_91 : decode cX3_lookAtPoint 91 = .ok (.if_icmp .ne 9, 3) := by decide +kernel
theorem dX3_lookAtPoint_94 : decode cX3_lookAtPoint 94 = .ok (.aload_n 0, 1) := by decide +kernel
theorem dX3_lookAtPoint_95 : decode cX3_lookAtPoint 95 = .ok (.iconst 2, 1) := by decide +kernel
theorem dX3_lookAtPoint_96 : decode cX3_lookAtPoint 96 = .ok (.lload_n 3, 1) := by decide +kernel
theorem dX3_lookAtPoint_97 : decode cX3_lookAtPoint 97 = .ok (.invokevirtual 88, 3) := by decide +kernel
theorem dX3_lookAtPoint_100 : decode cX3_lookAtPoint 100 = .ok (.return_, 1) := by decide +kernel
theorem dX3_lookAtChain_0 : decode cX3_lookAtChain 0 = .ok (.iload_n 2, 1) := by decide +kernel
theorem dX3_lookAtChain_1 : decode cX3_lookAtChain 1 = .ok (.iconst 1, 1) := by decide +kernel
theorem dX3_lookAtChain_2 : decode cX3_lookAtChain 2 = .ok (.if_icmp .ne 43, 3) := by decide +kernel
theorem dX3_lookAtChain_5 : decode cX3_lookAtChain 5 = .ok (.aload_n 0, 1) := by decide +kernel
theorem dX3_lookAtChain_6 : decode cX3_lookAtChain 6 = .ok (.getfield 25, 3) := by decide +kernel
theorem dX3_lookAtChain_9 : decode cX3_lookAtChain 9 = .ok (.aload_n 0, 1) := by decide +kernel
theorem dX3_lookAtChain_10 : decode cX3_lookAtChain 10 = .ok (.getfield 29, 3) := by decide +kernel
theorem dX3_lookAtChain_13 : decode cX3_lookAtChain 13 = .ok (.getfield 79, 3) := by decide +kernel
theorem dX3_lookAtChain_16 : decode cX3_lookAtChain 16 = .ok (.iload_n 1, 1) := by decide +kernel
theorem dX3_lookAtChain_17 : decode cX3_lookAtChain 17 = .ok (.invokevirtual 91, 3) := by decide +kernel
theorem dX3_lookAtChain_20 : decode cX3_lookAtChain 20 = .ok (.lstore_n 3, 1) := by decide +kernel
theorem dX3_lookAtChain_21 : decode cX3_lookAtChain 21 = .ok (.aload_n 0, 1) := by decide +kernel
theorem dX3_lookAtChain_22 : decode cX3_lookAtChain 22 = .ok (.lload_n 3, 1) := by decide +kernel
theorem dX3_lookAtChain_23 : decode cX3_lookAtChain 23 = .ok (.invokevirtual 95, 3) := by decide +kernel
theorem dX3_lookAtChain_26 : decode cX3_lookAtChain 26 = .ok (.ifCond .eq 16, 3) := by decide +kernel
theorem dX3_lookAtChain_29 : decode cX3_lookAtChain 29 = .ok (.aload_n 0, 1) := by decide +kernel
theorem dX3_lookAtChain_30 : decode cX3_lookAtChain 30 = .ok (.lload_n 3, 1) := by decide +kernel
theorem dX3_lookAtChain_31 : decode cX3_lookAtChain 31 = .ok (.invokevirtual 99, 3) := by decide +kernel
theorem dX3_lookAtChain_34 : decode cX3_lookAtChain 34 = .ok (.ifCond .eq 8, 3) := by decide +kernel
theorem dX3_lookAtChain_37 : decode cX3_lookAtChain 37 = .ok (.aload_n 0, 1) := by decide +kernel
theorem dX3_lookAtChain_38 : decode cX3_lookAtChain 38 = .ok (.iconst 3, 1) := by decide +kernel
theorem dX3_lookAtChain_39 : decode cX3_lookAtChain 39 = .ok (.putfield 11, 3) := by decide +kernel
theorem dX3_lookAtChain_42 : decode cX3_lookAtChain 42 = .ok (.goto 55, 3) := by decide +kernel
theorem dX3_lookAtChain_45 : decode cX3_lookAtChain 45 = .ok (.iload_n 2, 1) := by decide +kernel
theorem dX3_lookAtChain_46 : decode cX3_lookAtChain 46 = .ok (.ifCond .ne 51, 3) := by decide +kernel
theorem dX3_lookAtChain_49 : decode cX3_lookAtChain 49 = .ok (.aload_n 0, 1) := by decide +kernel
theorem dX3_lookAtChain_50 : decode cX3_lookAtChain 50 = .ok (.iload_n 1, 1) := by decide +kernel
theorem dX3_lookAtChain_51 : decode cX3_lookAtChain 51 = .ok (.invokevirtual 102, 3) := by decide +kernel
theorem dX3_lookAtChain_54 : decode cX3_lookAtChain 54 = .ok (.lstore_n 3, 1) := by decide +kernel
theorem dX3_lookAtChain_55 : decode cX3_lookAtChain 55 = .ok (.lload_n 3, 1) := by decide +kernel
theorem dX3_lookAtChain_56 : decode cX3_lookAtChain 56 = .ok (.lconst 0, 1) := by decide +kernel
theorem dX3_lookAtChain_57 : decode cX3_lookAtChain 57 = .ok (.lcmp, 1) := by decide +kernel
theorem dX3_lookAtChain_58 : decode cX3_lookAtChain 58 = .ok (.ifCond .eq 39, 3) := by decide +kernel
theorem dX3_lookAtChain_61 : decode cX3_lookAtChain 61 = .ok (.aload_n 0, 1) := by decide +kernel
theorem dX3_lookAtChain_62 : decode cX3_lookAtChain 62 = .ok (.lload_n 3, 1) := by decide +kernel
theorem dX3_lookAtChain_63 : decode cX3_lookAtChain 63 = .ok (.invokevirtual 95, 3) := by decide +kernel
theorem dX3_lookAtChain_66 : decode cX3_lookAtChain 66 = .ok (.ifCond .ne 22, 3) := by decide +kernel
theorem dX3_lookAtChain_69 : decode cX3_lookAtChain 69 = .ok (.aload_n 0, 1) := by decide +kernel
theorem dX3_lookAtChain_70 : decode cX3_lookAtChain 70 = .ok (.aload_n 0, 1) := by decide +kernel
theorem dX3_lookAtChain_71 : decode cX3_lookAtChain 71 = .ok (.getfield 29, 3) := by decide +kernel
theorem dX3_lookAtChain_74 : decode cX3_lookAtChain 74 = .ok (.getfield 79, 3) := by decide +kernel
theorem dX3_lookAtChain_77 : decode cX3_lookAtChain 77 = .ok (.iload_n 1, 1) := by decide +kernel
theorem dX3_lookAtChain_78 : decode cX3_lookAtChain 78 = .ok (.invokestatic 105, 3) := by decide +kernel
theorem dX3_lookAtChain_81 : decode cX3_lookAtChain 81 = .ok (.lor, 1) := by decide +kernel
theorem dX3_lookAtChain_82 : decode cX3_lookAtChain 82 = .ok (.invokevirtual 108, 3) := by decide +kernel
theorem dX3_lookAtChain_85 : decode cX3_lookAtChain 85 = .ok (.ifCond .eq 12, 3) := by decide +kernel
theorem dX3_lookAtChain_88 : decode cX3_lookAtChain 88 = .ok (.aload_n 0, 1) := by decide +kernel
theorem dX3_lookAtChain_89 : decode cX3_lookAtChain 89 = .ok (.iconst 1, 1) := by decide +kernel
theorem dX3_lookAtChain_90 : decode cX3_lookAtChain 90 = .ok (.iload_n 1, 1) := by decide +kernel
theorem dX3_lookAtChain_91 : decode cX3_lookAtChain 91 = .ok (.invokestatic 105, 3) := by decide +kernel
theorem dX3_lookAtChain_94 : decode cX3_lookAtChain 94 = .ok (.invokevirtual 88, 3) := by decide +kernel
theorem dX3_lookAtChain_97 : decode cX3_lookAtChain 97 = .ok (.return_, 1) := by decide +kernel
theorem dX3_othersThan_0 : decode cX3_othersThan 0 = .ok (.aload_n 0, 1) := by decide +kernel
theorem dX3_othersThan_1 : decode cX3_othersThan 1 = .ok (.getfield 29, 3) := by decide +kernel
theorem dX3_othersThan_4 : decode cX3_othersThan 4 = .ok (.getfield 79, 3) := by decide +kernel
theorem dX3_othersThan_7 : decode cX3_othersThan 7 = .ok (.lload_n 1, 1) := by decide +kernel
theorem dX3_othersThan_8 : decode cX3_othersThan 8 = .ok (.ldc2_w 111, 3) := by decide +kernel
theorem dX3_othersThan_11 : decode cX3_othersThan 11 = .ok (.lxor, 1) := by decide +kernel
theorem dX3_othersThan_12 : decode cX3_othersThan 12 = .ok (.land, 1) := by decide +kernel
theorem dX3_othersThan_13 : decode cX3_othersThan 13 = .ok (.lconst 0, 1) := by decide +kernel
theorem dX3_othersThan_14 : decode cX3_othersThan 14 = .ok (.lcmp, 1) := by decide +kernel
theorem dX3_othersThan_15 : decode cX3_othersThan 15 = .ok (.ifCond .eq 7, 3) := by decide +kernel
theorem dX3_othersThan_18 : decode cX3_othersThan 18 = .ok (.iconst 1, 1) := by decide +kernel
theorem dX3_othersThan_19 : decode cX3_othersThan 19 = .ok (.goto 4, 3) := by decide +kernel
theorem dX3_othersThan_22 : decode cX3_othersThan 22 = .ok (.iconst 0, 1) := by decide +kernel
theorem dX3_othersThan_23 : decode cX3_othersThan 23 = .ok (.ireturn, 1) := by decide +kernel
theorem dX3_isClosed_0 : decode cX3_isClosed 0 = .ok (.iconst 0, 1) := by decide +kernel
theorem dX3_isClosed_1 : decode cX3_isClosed 1 = .ok (.istore_n 3, 1) := by decide +kernel
theorem dX3_isClosed_2 : decode cX3_isClosed 2 = .ok (.iload_n 3, 1) := by decide +kernel
theorem dX3_isClosed_3 : decode cX3_isClosed 3 = .ok (.aload_n 0, 1) := by decide +kernel
theorem dX3_isClosed_4 : decode cX3_isClosed 4 = .ok (.getfield 25, 3) := by decide +kernel
theorem dX3_isClosed_7 : decode cX3_isClosed 7 = .ok (.getfield 52, 3) := by decide +kernel
theorem dX3_isClosed_10 : decode cX3_isClosed 10 = .ok (.if_icmp .ge 47, 3) := by decide +kernel
theorem dX3_isClosed_13 : decode cX3_isClosed 13 = .ok (.aload_n 0, 1) := by decide +kernel
theorem dX3_isClosed_14 : decode cX3_isClosed 14 = .ok (.getfield 25, 3) := by decide +kernel
theorem dX3_isClosed_17 : decode cX3_isClosed 17 = .ok (.iload_n 3, 1) := by decide +kernel
theorem dX3_isClosed_18 : decode cX3_isClosed 18 = .ok (.invokevirtual 55, 3) := by decide +kernel
theorem dX3_isClosed_21 : decode cX3_isClosed 21 = .ok (.lstore 4, 2) := by decide +kernel
theorem dX3_isClosed_23 : decode cX3_isClosed 23 = .ok (.lload 4, 2) := by decide +kernel
theorem dX3_isClosed_25 : decode cX3_isClosed 25 = .ok (.lload_n 1, 1) := by decide +kernel
theorem dX3_isClosed_26 : decode cX3_isClosed 26 = .ok (.land, 1) := by decide +kernel
theorem dX3_isClosed_27 : decode cX3_isClosed 27 = .ok (.lconst 0, 1) := by decide +kernel
theorem dX3_isClosed_28 : decode cX3_isClosed 28 = .ok (.lcmp, 1) := by decide +kernel
theorem dX3_isClosed_29 : decode cX3_isClosed 29 = .ok (.ifCond .eq 22, 3) := by decide +kernel
theorem dX3_isClosed_32 : decode cX3_isClosed 32 = .ok (.lload 4, 2) := by decide +kernel
theorem dX3_isClosed_34 : decode cX3_isClosed 34 = .ok (.aload_n 0, 1) := by decide +kernel
theorem dX3_isClosed_35 : decode cX3_isClosed 35 = .ok (.getfield 29, 3) := by decide +kernel
theorem dX3_isClosed_38 : decode cX3_isClosed 38 = .ok (.getfield 79, 3) := by decide +kernel
theorem dX3_isClosed_41 : decode cX3_isClosed 41 = .ok (.land, 1) := by decide +kernel
theorem dX3_isClosed_42 : decode cX3_isClosed 42 = .ok (.invokestatic 82, 3) := by decide +kernel
theorem dX3_isClosed_45 : decode cX3_isClosed 45 = .ok (.iconst 2, 1) := by decide +kernel
theorem dX3_isClosed_46 : decode cX3_isClosed 46 = .ok (.if_icmp .eq 5, 3) := by decide +kernel
theorem dX3_isClosed_49 : decode cX3_isClosed 49 = .ok (.iconst 0, 1) := by decide +kernel
theorem dX3_isClosed_50 : decode cX3_isClosed 50 = .ok (.ireturn, 1) := by decide +kernel
theorem dX3_isClosed_51 : decode cX3_isClosed 51 = .ok (.iinc 3 1, 3) := by decide +kernel
theorem dX3_isClosed_54 : decode cX3_isClosed 54 = .ok (.goto (-52), 3) := by decide +kernel
theorem dX3_isClosed_57 : decode cX3_isClosed 57 = .ok (.iconst 1, 1) := by decide +kernel
theorem dX3_isClosed_58 : decode cX3_isClosed 58 = .ok (.ireturn, 1) := by decide +kernel
theorem dX3_chainThatWouldClose_0 : decode cX3_chainThatWouldClose 0 = .ok (.aload_n 0, 1) := by decide +kernel
theorem dX3_chainThatWouldClose_1 : decode cX3_chainThatWouldClose 1 = .ok (.getfield 25, 3) := by decide +kernel
theorem dX3_chainThatWouldClose_4 : decode cX3_chainThatWouldClose 4 = .ok (.aload_n 0, 1) := by decide +kernel
theorem dX3_chainThatWouldClose_5 : decode cX3_chainThatWouldClose 5 = .ok (.getfield 25, 3) := by decide +kernel
theorem dX3_chainThatWouldClose_8 : decode cX3_chainThatWouldClose 8 = .ok (.iload_n 1, 1) := by decide +kernel
theorem dX3_chainThatWouldClose_9 : decode cX3_chainThatWouldClose 9 = .ok (.iconst 0, 1) := by decide +kernel
theorem dX3_chainThatWouldClose_10 : decode cX3_chainThatWouldClose 10 = .ok (.invokevirtual 113, 3) := by decide +kernel
theorem dX3_chainThatWouldClose_13 : decode cX3_chainThatWouldClose 13 = .ok (.invokevirtual 55, 3) := by decide +kernel
theorem dX3_chainThatWouldClose_16 : decode cX3_chainThatWouldClose 16 = .ok (.aload_n 0, 1) := by decide +kernel
theorem dX3_chainThatWouldClose_17 : decode cX3_chainThatWouldClose 17 = .ok (.getfield 29, 3) := by decide +kernel
theorem dX3_chainThatWouldClose_20 : decode cX3_chainThatWouldClose 20 = .ok (.getfield 79, 3) := by decide +kernel
theorem dX3_chainThatWouldClose_23 : decode cX3_chainThatWouldClose 23 = .ok (.land, 1) := by decide +kernel
theorem dX3_chainThatWouldClose_24 : decode cX3_chainThatWouldClose 24 = .ok (.lstore_n 2, 1) := by decide +kernel
theorem dX3_chainThatWouldClose_25 : decode cX3_chainThatWouldClose 25 = .ok (.aload_n 0, 1) := by decide +kernel
theorem dX3_chainThatWouldClose_26 : decode cX3_chainThatWouldClose 26 = .ok (.getfield 25, 3) := by decide +kernel
theorem dX3_chainThatWouldClose_29 : decode cX3_chainThatWouldClose 29 = .ok (.aload_n 0, 1) := by decide +kernel
theorem dX3_chainThatWouldClose_30 : decode cX3_chainThatWouldClose 30 = .ok (.getfield 25, 3) := by decide +kernel
theorem dX3_chainThatWouldClose_33 : decode cX3_chainThatWouldClose 33 = .ok (.iload_n 1, 1) := by decide +kernel
theorem dX3_chainThatWouldClose_34 : decode cX3_chainThatWouldClose 34 = .ok (.iconst 1, 1) := by decide +kernel
theorem dX3_chainThatWouldClose_35 : decode cX3_chainThatWouldClose 35 = .ok (.invokevirtual 113, 3) := by decide +kernel
theorem dX3_chainThatWouldClose_38 : decode cX3_chainThatWouldClose 38 = .ok (.invokevirtual 55, 3) := by decide +kernel
theorem dX3_chainThatWouldClose_41 : decode cX3_chainThatWouldClose 41 = .ok (.aload_n 0, 1) := by decide +kernel
theorem dX3_chainThatWouldClose_42 : decode cX3_chainThatWouldClose 42 = .ok (.getfield 29, 3) := by decide +kernel
theorem dX3_chainThatWouldClose_45 : decode cX3_chainThatWouldClose 45 = .ok (.getfield 79, 3) := by decide +kernel
theorem dX3_chainThatWouldClose_48 : decode cX3_chainThatWouldClose 48 = .ok (.land, 1) := by decide +kernel
theorem dX3_chainThatWouldClose_49 : decode cX3_chainThatWouldClose 49 = .ok (.lstore 4, 2) := by decide +kernel
theorem dX3_chainThatWouldClose_51 : decode cX3_chainThatWouldClose 51 = .ok (.lload_n 2, 1) := by decide +kernel
theorem dX3_chainThatWouldClose_52 : decode cX3_chainThatWouldClose 52 = .ok (.lconst 0, 1) := by decide +kernel
theorem dX3_chainThatWouldClose_53 : decode cX3_chainThatWouldClose 53 = .ok (.lcmp, 1) := by decide +kernel
theorem dX3_chainThatWouldClose_54 : decode cX3_chainThatWouldClose 54 = .ok (.ifCond .eq 10, 3) := by decide +kernel
theorem dX3_chainThatWouldClose_57 : decode cX3_chainThatWouldClose 57 = .ok (.lload 4, 2) := by decide +kernel
theorem dX3_chainThatWouldClose_59 : decode cX3_chainThatWouldClose 59 = .ok (.lconst 0, 1) := by decide +kernel
theorem dX3_chainThatWouldClose_60 : decode cX3_chainThatWouldClose 60 = .ok (.lcmp, 1) := by decide +kernel
theorem dX3_chainThatWouldClose_61 : decode cX3_chainThatWouldClose 61 = .ok (.ifCond .ne 5, 3) := by decide +kernel
theorem dX3_chainThatWouldClose_64 : decode cX3_chainThatWouldClose 64 = .ok (.lconst 0, 1) := by decide +kernel
theorem dX3_chainThatWouldClose_65 : decode cX3_chainThatWouldClose 65 = .ok (.lreturn, 1) := by decide +kernel
theorem dX3_chainThatWouldClose_66 : decode cX3_chainThatWouldClose 66 = .ok (.aload_n 0, 1) := by decide +kernel
theorem dX3_chainThatWouldClose_67 : decode cX3_chainThatWouldClose 67 = .ok (.getfield 25, 3) := by decide +kernel
theorem dX3_chainThatWouldClose_70 : decode cX3_chainThatWouldClose 70 = .ok (.aload_n 0, 1) := by decide +kernel
theorem dX3_chainThatWouldClose_71 : decode cX3_chainThatWouldClose 71 = .ok (.getfield 29, 3) := by decide +kernel
theorem dX3_chainThatWouldClose_74 : decode cX3_chainThatWouldClose 74 = .ok (.getfield 79, 3) := by decide +kernel
theorem dX3_chainThatWouldClose_77 : decode cX3_chainThatWouldClose 77 = .ok (.lload_n 2, 1) := by decide +kernel
theorem dX3_chainThatWouldClose_78 : decode cX3_chainThatWouldClose 78 = .ok (.invokestatic 117, 3) := by decide +kernel
theorem dX3_chainThatWouldClose_81 : decode cX3_chainThatWouldClose 81 = .ok (.invokevirtual 91, 3) := by decide +kernel
theorem dX3_chainThatWouldClose_84 : decode cX3_chainThatWouldClose 84 = .ok (.lstore 6, 2) := by decide +kernel
theorem dX3_chainThatWouldClose_86 : decode cX3_chainThatWouldClose 86 = .ok (.lload 6, 2) := by decide +kernel
theorem dX3_chainThatWouldClose_88 : decode cX3_chainThatWouldClose 88 = .ok (.lload 4, 2) := by decide +kernel
theorem dX3_chainThatWouldClose_90 : decode cX3_chainThatWouldClose 90 = .ok (.land, 1) := by decide +kernel
theorem dX3_chainThatWouldClose_91 : decode cX3_chainThatWouldClose 91 = .ok (.lconst 0, 1) := by decide +kernel
theorem dX3_chainThatWouldClose_92 : decode cX3_chainThatWouldClose 92 = .ok (.lcmp, 1) := by decide +kernel
theorem dX3_chainThatWouldClose_93 : decode cX3_chainThatWouldClose 93 = .ok (.ifCond .eq 8, 3) := by decide +kernel
theorem dX3_chainThatWouldClose_96 : decode cX3_chainThatWouldClose 96 = .ok (.lload 6, 2) := by decide +kernel
theorem dX3_chainThatWouldClose_98 : decode cX3_chainThatWouldClose 98 = .ok (.goto 4, 3) := by decide +kernel
theorem dX3_chainThatWouldClose_101 : decode cX3_chainThatWouldClose 101 = .ok (.lconst 0, 1) := by decide +kernel
theorem dX3_chainThatWouldClose_102 : decode cX3_chainThatWouldClose 102 = .ok (.lreturn, 1) := by decide +kernel
theorem dX3_missesNumber_0 : decode cX3_missesNumber 0 = .ok (.iconst 0, 1) := by decide +kernel
theorem dX3_missesNumber_1 : decode cX3_missesNumber 1 = .ok (.istore_n 3, 1) := by decide +kernel
theorem dX3_missesNumber_2 : decode cX3_missesNumber 2 = .ok (.iload_n 3, 1) := by decide +kernel
theorem dX3_missesNumber_3 : decode cX3_missesNumber 3 = .ok (.aload_n 0, 1) := by decide +kernel
theorem dX3_missesNumber_4 : decode cX3_missesNumber 4 = .ok (.getfield 25, 3) := by decide +kernel
theorem dX3_missesNumber_7 : decode cX3_missesNumber 7 = .ok (.getfield 33, 3) := by decide +kernel
theorem dX3_missesNumber_10 : decode cX3_missesNumber 10 = .ok (.if_icmp .ge 44, 3) := by decide +kernel
theorem dX3_missesNumber_13 : decode cX3_missesNumber 13 = .ok (.aload_n 0, 1) := by decide +kernel
theorem dX3_missesNumber_14 : decode cX3_missesNumber 14 = .ok (.getfield 29, 3) := by decide +kernel
theorem dX3_missesNumber_17 : decode cX3_missesNumber 17 = .ok (.iload_n 3, 1) := by decide +kernel
theorem dX3_missesNumber_18 : decode cX3_missesNumber 18 = .ok (.invokevirtual 38, 3) := by decide +kernel
theorem dX3_missesNumber_21 : decode cX3_missesNumber 21 = .ok (.istore 4, 2) := by decide +kernel
theorem dX3_missesNumber_23 : decode cX3_missesNumber 23 = .ok (.iload 4, 2) := by decide +kernel
theorem dX3_missesNumber_25 : decode cX3_missesNumber 25 = .ok (.ifCond .lt 23, 3) := by decide +kernel
theorem dX3_missesNumber_28 : decode cX3_missesNumber 28 = .ok (.aload_n 0, 1) := by decide +kernel
theorem dX3_missesNumber_29 : decode cX3_missesNumber 29 = .ok (.getfield 25, 3) := by decide +kernel
theorem dX3_missesNumber_32 : decode cX3_missesNumber 32 = .ok (.iload_n 3, 1) := by decide +kernel
theorem dX3_missesNumber_33 : decode cX3_missesNumber 33 = .ok (.invokevirtual 44, 3) := by decide +kernel
theorem dX3_missesNumber_36 : decode cX3_missesNumber 36 = .ok (.lload_n 1, 1) := by decide +kernel
theorem dX3_missesNumber_37 : decode cX3_missesNumber 37 = .ok (.land, 1) := by decide +kernel
theorem dX3_missesNumber_38 : decode cX3_missesNumber 38 = .ok (.invokestatic 82, 3) := by decide +kernel
theorem dX3_missesNumber_41 : decode cX3_missesNumber 41 = .ok (.iload 4, 2) := by decide +kernel
theorem dX3_missesNumber_43 : decode cX3_missesNumber 43 = .ok (.if_icmp .eq 5, 3) := by decide +kernel
theorem dX3_missesNumber_46 : decode cX3_missesNumber 46 = .ok (.iconst 1, 1) := by decide +kernel
theorem dX3_missesNumber_47 : decode cX3_missesNumber 47 = .ok (.ireturn, 1) := by decide +kernel
theorem dX3_missesNumber_48 : decode cX3_missesNumber 48 = .ok (.iinc 3 1, 3) := by decide +kernel
theorem dX3_missesNumber_51 : decode cX3_missesNumber 51 = .ok (.goto (-49), 3) := by decide +kernel
theorem dX3_missesNumber_54 : decode cX3_missesNumber 54 = .ok (.iconst 0, 1) := by decide +kernel
theorem dX3_missesNumber_55 : decode cX3_missesNumber 55 = .ok (.ireturn, 1) := by decide +kernel
theorem dX3_lookAtHands_0 : decode cX3_lookAtHands 0 = .ok (.aload_n 0, 1) := by decide +kernel
theorem dX3_lookAtHands_1 : decode cX3_lookAtHands 1 = .ok (.iload_n 1, 1) := by decide +kernel
theorem dX3_lookAtHands_2 : decode cX3_lookAtHands 2 = .ok (.invokevirtual 120, 3) := by decide +kernel
theorem dX3_lookAtHands_5 : decode cX3_lookAtHands 5 = .ok (.istore_n 3, 1) := by decide +kernel
theorem dX3_lookAtHands_6 : decode cX3_lookAtHands 6 = .ok (.iload_n 2, 1) := by decide +kernel
theorem dX3_lookAtHands_7 : decode cX3_lookAtHands 7 = .ok (.ifCond .ne 37, 3) := by decide +kernel
theorem dX3_lookAtHands_10 : decode cX3_lookAtHands 10 = .ok (.iload_n 3, 1) := by decide +kernel
theorem dX3_lookAtHands_11 : decode cX3_lookAtHands 11 = .ok (.iconst 2, 1) := by decide +kernel
theorem dX3_lookAtHands_12 : decode cX3_lookAtHands 12 = .ok (.if_icmp .ne 15, 3) := by decide +kernel
theorem dX3_lookAtHands_15 : decode cX3_lookAtHands 15 = .ok (.aload_n 0, 1) := by decide +kernel
theorem dX3_lookAtHands_16 : decode cX3_lookAtHands 16 = .ok (.iconst 2, 1) := by decide +kernel
theorem dX3_lookAtHands_17 : decode cX3_lookAtHands 17 = .ok (.iload_n 1, 1) := by decide +kernel
theorem dX3_lookAtHands_18 : decode cX3_lookAtHands 18 = .ok (.invokestatic 105, 3) := by decide +kernel
theorem dX3_lookAtHands_21 : decode cX3_lookAtHands 21 = .ok (.invokevirtual 88, 3) := by decide +kernel
theorem dX3_lookAtHands_24 : decode cX3_lookAtHands 24 = .ok (.goto 40, 3) := by decide +kernel
theorem dX3_lookAtHands_27 : decode cX3_lookAtHands 27 = .ok (.iload_n 3, 1) := by decide +kernel
theorem dX3_lookAtHands_28 : decode cX3_lookAtHands 28 = .ok (.iconst 1, 1) := by decide +kernel
theorem dX3_lookAtHands_29 : decode cX3_lookAtHands 29 = .ok (.if_icmp .ne 35, 3) := by decide +kernel
theorem dX3_lookAtHands_32 : decode cX3_lookAtHands 32 = .ok (.aload_n 0, 1) := by decide +kernel
theorem dX3_lookAtHands_33 : decode cX3_lookAtHands 33 = .ok (.iconst 1, 1) := by decide +kernel
theorem dX3_lookAtHands_34 : decode cX3_lookAtHands 34 = .ok (.iload_n 1, 1) := by decide +kernel
theorem dX3_lookAtHands_35 : decode cX3_lookAtHands 35 = .ok (.invokestatic 105, 3) := by decide +kernel
theorem dX3_lookAtHands_38 : decode cX3_lookAtHands 38 = .ok (.invokevirtual 88, 3) := by decide +kernel
theorem dX3_lookAtHands_41 : decode cX3_lookAtHands 41 = .ok (.goto 23, 3) := by decide +kernel
theorem dX3_lookAtHands_44 : decode cX3_lookAtHands 44 = .ok (.iload_n 3, 1) := by decide +kernel
theorem dX3_lookAtHands_45 : decode cX3_lookAtHands 45 = .ok (.iload_n 2, 1) := by decide +kernel
theorem dX3_lookAtHands_46 : decode cX3_lookAtHands 46 = .ok (.iconst 1, 1) := by decide +kernel
theorem dX3_lookAtHands_47 : decode cX3_lookAtHands 47 = .ok (.if_icmp .ne 7, 3) := by decide +kernel
theorem dX3_lookAtHands_50 : decode cX3_lookAtHands 50 = .ok (.iconst 1, 1) := by decide +kernel
theorem dX3_lookAtHands_51 : decode cX3_lookAtHands 51 = .ok (.goto 4, 3) := by decide +kernel
theorem dX3_lookAtHands_54 : decode cX3_lookAtHands 54 = .ok (.iconst 2, 1) := by decide +kernel
theorem dX3_lookAtHands_55 : decode cX3_lookAtHands 55 = .ok (.iand, 1) := by decide +kernel
theorem dX3_lookAtHands_56 : decode cX3_lookAtHands 56 = .ok (.ifCond .eq 8, 3) := by decide +kernel
theorem dX3_lookAtHands_59 : decode cX3_lookAtHands 59 = .ok (.aload_n 0, 1) := by decide +kernel
theorem dX3_lookAtHands_60 : decode cX3_lookAtHands 60 = .ok (.iconst 3, 1) := by decide +kernel
theorem dX3_lookAtHands_61 : decode cX3_lookAtHands 61 = .ok (.putfield 11, 3) := by decide +kernel
theorem dX3_lookAtHands_64 : decode cX3_lookAtHands 64 = .ok (.return_, 1) := by decide +kernel
theorem dX3_waysPast_0 : decode cX3_waysPast 0 = .ok (.aload_n 0, 1) := by decide +kernel
theorem dX3_waysPast_1 : decode cX3_waysPast 1 = .ok (.getfield 29, 3) := by decide +kernel
theorem dX3_waysPast_4 : decode cX3_waysPast 4 = .ok (.getfield 79, 3) := by decide +kernel
theorem dX3_waysPast_7 : decode cX3_waysPast 7 = .ok (.aload_n 0, 1) := by decide +kernel
theorem dX3_waysPast_8 : decode cX3_waysPast 8 = .ok (.getfield 29, 3) := by decide +kernel
theorem dX3_waysPast_11 : decode cX3_waysPast 11 = .ok (.getfield 123, 3) := by decide +kernel
theorem dX3_waysPast_14 : decode cX3_waysPast 14 = .ok (.lor, 1) := by decide +kernel
theorem dX3_waysPast_15 : decode cX3_waysPast 15 = .ok (.iload_n 1, 1) := by decide +kernel
theorem dX3_waysPast_16 : decode cX3_waysPast 16 = .ok (.invokestatic 105, 3) := by decide +kernel
theorem dX3_waysPast_19 : decode cX3_waysPast 19 = .ok (.ldc2_w 111, 3) := by decide +kernel
theorem dX3_waysPast_22 : decode cX3_waysPast 22 = .ok (.lxor, 1) := by decide +kernel
theorem dX3_waysPast_23 : decode cX3_waysPast 23 = .ok (.land, 1) := by decide +kernel
theorem dX3_waysPast_24 : decode cX3_waysPast 24 = .ok (.lstore_n 2, 1) := by decide +kernel
theorem dX3_waysPast_25 : decode cX3_waysPast 25 = .ok (.aload_n 0, 1) := by decide +kernel
theorem dX3_waysPast_26 : decode cX3_waysPast 26 = .ok (.getfield 25, 3) := by decide +kernel
theorem dX3_waysPast_29 : decode cX3_waysPast 29 = .ok (.iload_n 1, 1) := by decide +kernel
theorem dX3_waysPast_30 : decode cX3_waysPast 30 = .ok (.iconst 0, 1) := by decide +kernel
theorem dX3_waysPast_31 : decode cX3_waysPast 31 = .ok (.invokevirtual 126, 3) := by decide +kernel
theorem dX3_waysPast_34 : decode cX3_waysPast 34 = .ok (.invokestatic 105, 3) := by decide +kernel
theorem dX3_waysPast_37 : decode cX3_waysPast 37 = .ok (.lstore 4, 2) := by decide +kernel
theorem dX3_waysPast_39 : decode cX3_waysPast 39 = .ok (.lload 4, 2) := by decide +kernel
theorem dX3_waysPast_41 : decode cX3_waysPast 41 = .ok (.lstore 6, 2) := by decide +kernel
theorem dX3_waysPast_43 : decode cX3_waysPast 43 = .ok (.iconst 0, 1) := by decide +kernel
theorem dX3_waysPast_44 : decode cX3_waysPast 44 = .ok (.istore 8, 2) := by decide +kernel
theorem dX3_waysPast_46 : decode cX3_waysPast 46 = .ok (.iload 8, 2) := by decide +kernel
theorem dX3_waysPast_48 : decode cX3_waysPast 48 = .ok (.bipush 64, 2) := by decide +kernel
theorem dX3_waysPast_50 : decode cX3_waysPast 50 = .ok (.if_icmp .ge 63, 3) := by decide +kernel
theorem dX3_waysPast_53 : decode cX3_waysPast 53 = .ok (.lload 6, 2) := by decide +kernel
theorem dX3_waysPast_55 : decode cX3_waysPast 55 = .ok (.lconst 0, 1) := by decide +kernel
theorem dX3_waysPast_56 : decode cX3_waysPast 56 = .ok (.lcmp, 1) := by decide +kernel
theorem dX3_waysPast_57 : decode cX3_waysPast 57 = .ok (.ifCond .eq 56, 3) := by decide +kernel
theorem dX3_waysPast_60 : decode cX3_waysPast 60 = .ok (.lload 6, 2) := by decide +kernel
theorem dX3_waysPast_62 : decode cX3_waysPast 62 = .ok (.invokestatic 117, 3) := by decide +kernel
theorem dX3_waysPast_65 : decode cX3_waysPast 65 = .ok (.istore 9, 2) := by decide +kernel
theorem dX3_waysPast_67 : decode cX3_waysPast 67 = .ok (.aload_n 0, 1) := by decide +kernel
theorem dX3_waysPast_68 : decode cX3_waysPast 68 = .ok (.iload 9, 2) := by decide +kernel
theorem dX3_waysPast_70 : decode cX3_waysPast 70 = .ok (.lload_n 2, 1) := by decide +kernel
theorem dX3_waysPast_71 : decode cX3_waysPast 71 = .ok (.invokevirtual 129, 3) := by decide +kernel
theorem dX3_waysPast_74 : decode cX3_waysPast 74 = .ok (.lload 4, 2) := by decide +kernel
theorem dX3_waysPast_76 : decode cX3_waysPast 76 = .ok (.ldc2_w 111, 3) := by decide +kernel
theorem dX3_waysPast_79 : decode cX3_waysPast 79 = .ok (.lxor, 1) := by decide +kernel
theorem dX3_waysPast_80 : decode cX3_waysPast 80 = .ok (.land, 1) := by decide +kernel
theorem dX3_waysPast_81 : decode cX3_waysPast 81 = .ok (.lstore 10, 2) := by decide +kernel
theorem dX3_waysPast_83 : decode cX3_waysPast 83 = .ok (.lload 4, 2) := by decide +kernel
theorem dX3_waysPast_85 : decode cX3_waysPast 85 = .ok (.lload 10, 2) := by decide +kernel
theorem dX3_waysPast_87 : decode cX3_waysPast 87 = .ok (.lor, 1) := by decide +kernel
theorem dX3_waysPast_88 : decode cX3_waysPast 88 = .ok (.lstore 4, 2) := by decide +kernel
theorem dX3_waysPast_90 : decode cX3_waysPast 90 = .ok (.lload 6, 2) := by decide +kernel
theorem dX3_waysPast_92 : decode cX3_waysPast 92 = .ok (.iload 9, 2) := by decide +kernel
theorem dX3_waysPast_94 : decode cX3_waysPast 94 = .ok (.invokestatic 105, 3) := by decide +kernel
theorem dX3_waysPast_97 : decode cX3_waysPast 97 = .ok (.ldc2_w 111, 3) := by decide +kernel
theorem dX3_waysPast_100 : decode cX3_waysPast 100 = .ok (.lxor, 1) := by decide +kernel
theorem dX3_waysPast_101 : decode cX3_waysPast 101 = .ok (.land, 1) := by decide +kernel
theorem dX3_waysPast_102 : decode cX3_waysPast 102 = .ok (.lload 10, 2) := by decide +kernel
theorem dX3_waysPast_104 : decode cX3_waysPast 104 = .ok (.lor, 1) := by decide +kernel
theorem dX3_waysPast_105 : decode cX3_waysPast 105 = .ok (.lstore 6, 2) := by decide +kernel
theorem dX3_waysPast_107 : decode cX3_waysPast 107 = .ok (.iinc 8 1, 3) := by decide +kernel
theorem dX3_waysPast_110 : decode cX3_waysPast 110 = .ok (.goto (-64), 3) := by decide +kernel
theorem dX3_waysPast_113 : decode cX3_waysPast 113 = .ok (.aload_n 0, 1) := by decide +kernel
theorem dX3_waysPast_114 : decode cX3_waysPast 114 = .ok (.getfield 25, 3) := by decide +kernel
theorem dX3_waysPast_117 : decode cX3_waysPast 117 = .ok (.iload_n 1, 1) := by decide +kernel
theorem dX3_waysPast_118 : decode cX3_waysPast 118 = .ok (.iconst 1, 1) := by decide +kernel
theorem dX3_waysPast_119 : decode cX3_waysPast 119 = .ok (.invokevirtual 126, 3) := by decide +kernel
theorem dX3_waysPast_122 : decode cX3_waysPast 122 = .ok (.istore 8, 2) := by decide +kernel
theorem dX3_waysPast_124 : decode cX3_waysPast 124 = .ok (.lload 4, 2) := by decide +kernel
theorem dX3_waysPast_126 : decode cX3_waysPast 126 = .ok (.iload 8, 2) := by decide +kernel
theorem dX3_waysPast_128 : decode cX3_waysPast 128 = .ok (.invokestatic 105, 3) := by decide +kernel
theorem dX3_waysPast_131 : decode cX3_waysPast 131 = .ok (.land, 1) := by decide +kernel
theorem dX3_waysPast_132 : decode cX3_waysPast 132 = .ok (.lconst 0, 1) := by decide +kernel
theorem dX3_waysPast_133 : decode cX3_waysPast 133 = .ok (.lcmp, 1) := by decide +kernel
theorem dX3_waysPast_134 : decode cX3_waysPast 134 = .ok (.ifCond .eq 7, 3) := by decide +kernel
theorem dX3_waysPast_137 : decode cX3_waysPast 137 = .ok (.iconst 1, 1) := by decide +kernel
theorem dX3_waysPast_138 : decode cX3_waysPast 138 = .ok (.goto 4, 3) := by decide +kernel
theorem dX3_waysPast_141 : decode cX3_waysPast 141 = .ok (.iconst 0, 1) := by decide +kernel
theorem dX3_waysPast_142 : decode cX3_waysPast 142 = .ok (.istore 9, 2) := by decide +kernel
theorem dX3_waysPast_144 : decode cX3_waysPast 144 = .ok (.lload 4, 2) := by decide +kernel
theorem dX3_waysPast_146 : decode cX3_waysPast 146 = .ok (.iload 8, 2) := by decide +kernel
theorem dX3_waysPast_148 : decode cX3_waysPast 148 = .ok (.bipush 32, 2) := by decide +kernel
theorem dX3_waysPast_150 : decode cX3_waysPast 150 = .ok (.iadd, 1) := by decide +kernel
theorem dX3_waysPast_151 : decode cX3_waysPast 151 = .ok (.invokestatic 105, 3) := by decide +kernel
theorem dX3_waysPast_154 : decode cX3_waysPast 154 = .ok (.land, 1) := by decide +kernel
theorem dX3_waysPast_155 : decode cX3_waysPast 155 = .ok (.lconst 0, 1) := by decide +kernel
theorem dX3_waysPast_156 : decode cX3_waysPast 156 = .ok (.lcmp, 1) := by decide +kernel
theorem dX3_waysPast_157 : decode cX3_waysPast 157 = .ok (.ifCond .eq 7, 3) := by decide +kernel
theorem dX3_waysPast_160 : decode cX3_waysPast 160 = .ok (.iconst 2, 1) := by decide +kernel
theorem dX3_waysPast_161 : decode cX3_waysPast 161 = .ok (.goto 4, 3) := by decide +kernel
theorem dX3_waysPast_164 : decode cX3_waysPast 164 = .ok (.iconst 0, 1) := by decide +kernel
theorem dX3_waysPast_165 : decode cX3_waysPast 165 = .ok (.istore 10, 2) := by decide +kernel
theorem dX3_waysPast_167 : decode cX3_waysPast 167 = .ok (.iload 9, 2) := by decide +kernel
theorem dX3_waysPast_169 : decode cX3_waysPast 169 = .ok (.iload 10, 2) := by decide +kernel
theorem dX3_waysPast_171 : decode cX3_waysPast 171 = .ok (.ior, 1) := by decide +kernel
theorem dX3_waysPast_172 : decode cX3_waysPast 172 = .ok (.ireturn, 1) := by decide +kernel
theorem dX3_nextOnWay_0 : decode cX3_nextOnWay 0 = .ok (.iload_n 1, 1) := by decide +kernel
theorem dX3_nextOnWay_1 : decode cX3_nextOnWay 1 = .ok (.bipush 32, 2) := by decide +kernel
theorem dX3_nextOnWay_3 : decode cX3_nextOnWay 3 = .ok (.if_icmp .ge 7, 3) := by decide +kernel
theorem dX3_nextOnWay_6 : decode cX3_nextOnWay 6 = .ok (.iload_n 1, 1) := by decide +kernel
theorem dX3_nextOnWay_7 : decode cX3_nextOnWay 7 = .ok (.goto 7, 3) := by decide +kernel
theorem dX3_nextOnWay_10 : decode cX3_nextOnWay 10 = .ok (.iload_n 1, 1) := by decide +kernel
theorem dX3_nextOnWay_11 : decode cX3_nextOnWay 11 = .ok (.bipush 32, 2) := by decide +kernel
theorem dX3_nextOnWay_13 : decode cX3_nextOnWay 13 = .ok (.isub, 1) := by decide +kernel
theorem dX3_nextOnWay_14 : decode cX3_nextOnWay 14 = .ok (.istore 4, 2) := by decide +kernel
theorem dX3_nextOnWay_16 : decode cX3_nextOnWay 16 = .ok (.iload_n 1, 1) := by decide +kernel
theorem dX3_nextOnWay_17 : decode cX3_nextOnWay 17 = .ok (.iload 4, 2) := by decide +kernel
theorem dX3_nextOnWay_19 : decode cX3_nextOnWay 19 = .ok (.isub, 1) := by decide +kernel
theorem dX3_nextOnWay_20 : decode cX3_nextOnWay 20 = .ok (.istore 5, 2) := by decide +kernel
theorem dX3_nextOnWay_22 : decode cX3_nextOnWay 22 = .ok (.lconst 0, 1) := by decide +kernel
theorem dX3_nextOnWay_23 : decode cX3_nextOnWay 23 = .ok (.lstore 6, 2) := by decide +kernel
theorem dX3_nextOnWay_25 : decode cX3_nextOnWay 25 = .ok (.aload_n 0, 1) := by decide +kernel
theorem dX3_nextOnWay_26 : decode cX3_nextOnWay 26 = .ok (.getfield 25, 3) := by decide +kernel
theorem dX3_nextOnWay_29 : decode cX3_nextOnWay 29 = .ok (.iload 4, 2) := by decide +kernel
theorem dX3_nextOnWay_31 : decode cX3_nextOnWay 31 = .ok (.invokevirtual 44, 3) := by decide +kernel
theorem dX3_nextOnWay_34 : decode cX3_nextOnWay 34 = .ok (.lload_n 2, 1) := by decide +kernel
theorem dX3_nextOnWay_35 : decode cX3_nextOnWay 35 = .ok (.land, 1) := by decide +kernel
theorem dX3_nextOnWay_36 : decode cX3_nextOnWay 36 = .ok (.lstore 8, 2) := by decide +kernel
theorem dX3_nextOnWay_38 : decode cX3_nextOnWay 38 = .ok (.iconst 0, 1) := by decide +kernel
theorem dX3_nextOnWay_39 : decode cX3_nextOnWay 39 = .ok (.istore 10, 2) := by decide +kernel
theorem dX3_nextOnWay_41 : decode cX3_nextOnWay 41 = .ok (.iload 10, 2) := by decide +kernel
theorem dX3_nextOnWay_43 : decode cX3_nextOnWay 43 = .ok (.bipush 40, 2) := by decide +kernel
theorem dX3_nextOnWay_45 : decode cX3_nextOnWay 45 = .ok (.if_icmp .ge 128, 3) := by decide +kernel
theorem dX3_nextOnWay_48 : decode cX3_nextOnWay 48 = .ok (.lload 8, 2) := by decide +kernel
theorem dX3_nextOnWay_50 : decode cX3_nextOnWay 50 = .ok (.lconst 0, 1) := by decide +kernel
theorem dX3_nextOnWay_51 : decode cX3_nextOnWay 51 = .ok (.lcmp, 1) := by decide +kernel
theorem dX3_nextOnWay_52 : decode cX3_nextOnWay 52 = .ok (.ifCond .eq 121, 3) := by decide +kernel
theorem dX3_nextOnWay_55 : decode cX3_nextOnWay 55 = .ok (.lload 8, 2) := by decide +kernel
theorem dX3_nextOnWay_57 : decode cX3_nextOnWay 57 = .ok (.invokestatic 117, 3) := by decide +kernel
theorem dX3_nextOnWay_60 : decode cX3_nextOnWay 60 = .ok (.istore 11, 2) := by decide +kernel
theorem dX3_nextOnWay_62 : decode cX3_nextOnWay 62 = .ok (.lload 8, 2) := by decide +kernel
theorem dX3_nextOnWay_64 : decode cX3_nextOnWay 64 = .ok (.iload 11, 2) := by decide +kernel
theorem dX3_nextOnWay_66 : decode cX3_nextOnWay 66 = .ok (.invokestatic 105, 3) := by decide +kernel
theorem dX3_nextOnWay_69 : decode cX3_nextOnWay 69 = .ok (.ldc2_w 111, 3) := by decide +kernel
theorem dX3_nextOnWay_72 : decode cX3_nextOnWay 72 = .ok (.lxor, 1) := by decide +kernel
theorem dX3_nextOnWay_73 : decode cX3_nextOnWay 73 = .ok (.land, 1) := by decide +kernel
theorem dX3_nextOnWay_74 : decode cX3_nextOnWay 74 = .ok (.lstore 8, 2) := by decide +kernel
theorem dX3_nextOnWay_76 : decode cX3_nextOnWay 76 = .ok (.aload_n 0, 1) := by decide +kernel
theorem dX3_nextOnWay_77 : decode cX3_nextOnWay 77 = .ok (.getfield 25, 3) := by decide +kernel
theorem dX3_nextOnWay_80 : decode cX3_nextOnWay 80 = .ok (.iload 11, 2) := by decide +kernel
theorem dX3_nextOnWay_82 : decode cX3_nextOnWay 82 = .ok (.iconst 0, 1) := by decide +kernel
theorem dX3_nextOnWay_83 : decode cX3_nextOnWay 83 = .ok (.invokevirtual 126, 3) := by decide +kernel
theorem dX3_nextOnWay_86 : decode cX3_nextOnWay 86 = .ok (.iload 4, 2) := by decide +kernel
theorem dX3_nextOnWay_88 : decode cX3_nextOnWay 88 = .ok (.if_icmp .ne 16, 3) := by decide +kernel
theorem dX3_nextOnWay_91 : decode cX3_nextOnWay 91 = .ok (.aload_n 0, 1) := by decide +kernel
theorem dX3_nextOnWay_92 : decode cX3_nextOnWay 92 = .ok (.getfield 25, 3) := by decide +kernel
theorem dX3_nextOnWay_95 : decode cX3_nextOnWay 95 = .ok (.iload 11, 2) := by decide +kernel
theorem dX3_nextOnWay_97 : decode cX3_nextOnWay 97 = .ok (.iconst 1, 1) := by decide +kernel
theorem dX3_nextOnWay_98 : decode cX3_nextOnWay 98 = .ok (.invokevirtual 126, 3) := by decide +kernel
theorem dX3_nextOnWay_101 : decode cX3_nextOnWay 101 = .ok (.goto 13, 3) := by decide +kernel
theorem dX3_nextOnWay_104 : decode cX3_nextOnWay 104 = .ok (.aload_n 0, 1) := by decide +kernel
theorem dX3_nextOnWay_105 : decode cX3_nextOnWay 105 = .ok (.getfield 25, 3) := by decide +kernel
theorem dX3_nextOnWay_108 : decode cX3_nextOnWay 108 = .ok (.iload 11, 2) := by decide +kernel
theorem dX3_nextOnWay_110 : decode cX3_nextOnWay 110 = .ok (.iconst 0, 1) := by decide +kernel
theorem dX3_nextOnWay_111 : decode cX3_nextOnWay 111 = .ok (.invokevirtual 126, 3) := by decide +kernel
theorem dX3_nextOnWay_114 : decode cX3_nextOnWay 114 = .ok (.istore 12, 2) := by decide +kernel
theorem dX3_nextOnWay_116 : decode cX3_nextOnWay 116 = .ok (.aload_n 0, 1) := by decide +kernel
theorem dX3_nextOnWay_117 : decode cX3_nextOnWay 117 = .ok (.getfield 29, 3) := by decide +kernel
theorem dX3_nextOnWay_120 : decode cX3_nextOnWay 120 = .ok (.getfield 79, 3) := by decide +kernel
theorem dX3_nextOnWay_123 : decode cX3_nextOnWay 123 = .ok (.iload 11, 2) := by decide +kernel
theorem dX3_nextOnWay_125 : decode cX3_nextOnWay 125 = .ok (.invokestatic 105, 3) := by decide +kernel
theorem dX3_nextOnWay_128 : decode cX3_nextOnWay 128 = .ok (.land, 1) := by decide +kernel
theorem dX3_nextOnWay_129 : decode cX3_nextOnWay 129 = .ok (.lconst 0, 1) := by decide +kernel
theorem dX3_nextOnWay_130 : decode cX3_nextOnWay 130 = .ok (.lcmp, 1) := by decide +kernel
theorem dX3_nextOnWay_131 : decode cX3_nextOnWay 131 = .ok (.ifCond .eq 7, 3) := by decide +kernel
theorem dX3_nextOnWay_134 : decode cX3_nextOnWay 134 = .ok (.iconst 1, 1) := by decide +kernel
theorem dX3_nextOnWay_135 : decode cX3_nextOnWay 135 = .ok (.goto 4, 3) := by decide +kernel
theorem dX3_nextOnWay_138 : decode cX3_nextOnWay 138 = .ok (.iconst 0, 1) := by decide +kernel
theorem dX3_nextOnWay_139 : decode cX3_nextOnWay 139 = .ok (.istore 13, 2) := by decide +kernel
theorem dX3_nextOnWay_141 : decode cX3_nextOnWay 141 = .ok (.lload 6, 2) := by decide +kernel
theorem dX3_nextOnWay_143 : decode cX3_nextOnWay 143 = .ok (.iload 12, 2) := by decide +kernel
theorem dX3_nextOnWay_145 : decode cX3_nextOnWay 145 = .ok (.iload 13, 2) := by decide +kernel
theorem dX3_nextOnWay_147 : decode cX3_nextOnWay 147 = .ok (.ifCond .eq 11, 3) := by decide +kernel
theorem dX3_nextOnWay_150 : decode cX3_nextOnWay 150 = .ok (.bipush 32, 2) := by decide +kernel
theorem dX3_nextOnWay_152 : decode cX3_nextOnWay 152 = .ok (.iload 5, 2) := by decide +kernel
theorem dX3_nextOnWay_154 : decode cX3_nextOnWay 154 = .ok (.isub, 1) := by decide +kernel
theorem dX3_nextOnWay_155 : decode cX3_nextOnWay 155 = .ok (.goto 5, 3) := by decide +kernel
theorem dX3_nextOnWay_158 : decode cX3_nextOnWay 158 = .ok (.iload 5, 2) := by decide +kernel
theorem dX3_nextOnWay_160 : decode cX3_nextOnWay 160 = .ok (.iadd, 1) := by decide +kernel
theorem dX3_nextOnWay_161 : decode cX3_nextOnWay 161 = .ok (.invokestatic 105, 3) := by decide +kernel
theorem dX3_nextOnWay_164 : decode cX3_nextOnWay 164 = .ok (.lor, 1) := by decide +kernel
theorem dX3_nextOnWay_165 : decode cX3_nextOnWay 165 = .ok (.lstore 6, 2) := by decide +kernel
theorem dX3_nextOnWay_167 : decode cX3_nextOnWay 167 = .ok (.iinc 10 1, 3) := by decide +kernel
theorem dX3_nextOnWay_170 : decode cX3_nextOnWay 170 = .ok (.goto (-129), 3) := by decide +kernel
theorem dX3_nextOnWay_173 : decode cX3_nextOnWay 173 = .ok (.lload 6, 2) := by decide +kernel
theorem dX3_nextOnWay_175 : decode cX3_nextOnWay 175 = .ok (.lreturn, 1) := by decide +kernel
theorem dX3_openOf_0 : decode cX3_openOf 0 = .ok (.lload_n 1, 1) := by decide +kernel
theorem dX3_openOf_1 : decode cX3_openOf 1 = .ok (.aload_n 0, 1) := by decide +kernel
theorem dX3_openOf_2 : decode cX3_openOf 2 = .ok (.getfield 29, 3) := by decide +kernel
theorem dX3_openOf_5 : decode cX3_openOf 5 = .ok (.getfield 79, 3) := by decide +kernel
theorem dX3_openOf_8 : decode cX3_openOf 8 = .ok (.ldc2_w 111, 3) := by decide +kernel
theorem dX3_openOf_11 : decode cX3_openOf 11 = .ok (.lxor, 1) := by decide +kernel
theorem dX3_openOf_12 : decode cX3_openOf 12 = .ok (.land, 1) := by decide +kernel
theorem dX3_openOf_13 : decode cX3_openOf 13 = .ok (.aload_n 0, 1) := by decide +kernel
theorem dX3_openOf_14 : decode cX3_openOf 14 = .ok (.getfield 29, 3) := by decide +kernel
theorem dX3_openOf_17 : decode cX3_openOf 17 = .ok (.getfield 123, 3) := by decide +kernel
theorem dX3_openOf_20 : decode cX3_openOf 20 = .ok (.ldc2_w 111, 3) := by decide +kernel
theorem dX3_openOf_23 : decode cX3_openOf 23 = .ok (.lxor, 1) := by decide +kernel
theorem dX3_openOf_24 : decode cX3_openOf 24 = .ok (.land, 1) := by decide +kernel
theorem dX3_openOf_25 : decode cX3_openOf 25 = .ok (.lreturn, 1) := by decide +kernel
theorem dX3_tell_0 : decode cX3_tell 0 = .ok (.aload_n 0, 1) := by decide +kernel
theorem dX3_tell_1 : decode cX3_tell 1 = .ok (.iload_n 1, 1) := by decide +kernel
theorem dX3_tell_2 : decode cX3_tell 2 = .ok (.putfield 11, 3) := by decide +kernel
theorem dX3_tell_5 : decode cX3_tell 5 = .ok (.aload_n 0, 1) := by decide +kernel
theorem dX3_tell_6 : decode cX3_tell 6 = .ok (.lload_n 2, 1) := by decide +kernel
theorem dX3_tell_7 : decode cX3_tell 7 = .ok (.putfield 21, 3) := by decide +kernel
theorem dX3_tell_10 : decode cX3_tell 10 = .ok (.return_, 1) := by decide +kernel
theorem dX4_init_0 : decode cX4_init 0 = .ok (.aload_n 0, 1) := by decide +kernel
theorem dX4_init_1 : decode cX4_init 1 = .ok (.invokespecial 3, 3) := by decide +kernel
theorem dX4_init_4 : decode cX4_init 4 = .ok (.aload_n 0, 1) := by decide +kernel
theorem dX4_init_5 : decode cX4_init 5 = .ok (.iconst 0, 1) := by decide +kernel
theorem dX4_init_6 : decode cX4_init 6 = .ok (.putfield 9, 3) := by decide +kernel
theorem dX4_init_9 : decode cX4_init 9 = .ok (.aload_n 0, 1) := by decide +kernel
theorem dX4_init_10 : decode cX4_init 10 = .ok (.iconst 0, 1) := by decide +kernel
theorem dX4_init_11 : decode cX4_init 11 = .ok (.putfield 15, 3) := by decide +kernel
theorem dX4_init_14 : decode cX4_init 14 = .ok (.aload_n 0, 1) := by decide +kernel
theorem dX4_init_15 : decode cX4_init 15 = .ok (.iconst 0, 1) := by decide +kernel
theorem dX4_init_16 : decode cX4_init 16 = .ok (.putfield 18, 3) := by decide +kernel
theorem dX4_init_19 : decode cX4_init 19 = .ok (.aload_n 0, 1) := by decide +kernel
theorem dX4_init_20 : decode cX4_init 20 = .ok (.iconst 0, 1) := by decide +kernel
theorem dX4_init_21 : decode cX4_init 21 = .ok (.putfield 21, 3) := by decide +kernel
theorem dX4_init_24 : decode cX4_init 24 = .ok (.aload_n 0, 1) := by decide +kernel
theorem dX4_init_25 : decode cX4_init 25 = .ok (.iconst 0, 1) := by decide +kernel
theorem dX4_init_26 : decode cX4_init 26 = .ok (.putfield 24, 3) := by decide +kernel
theorem dX4_init_29 : decode cX4_init 29 = .ok (.aload_n 0, 1) := by decide +kernel
theorem dX4_init_30 : decode cX4_init 30 = .ok (.bipush 64, 2) := by decide +kernel
theorem dX4_init_32 : decode cX4_init 32 = .ok (.newarray .int, 2) := by decide +kernel
theorem dX4_init_34 : decode cX4_init 34 = .ok (.putfield 27, 3) := by decide +kernel
theorem dX4_init_37 : decode cX4_init 37 = .ok (.aload_n 0, 1) := by decide +kernel
theorem dX4_init_38 : decode cX4_init 38 = .ok (.bipush 100, 2) := by decide +kernel
theorem dX4_init_40 : decode cX4_init 40 = .ok (.newarray .int, 2) := by decide +kernel
theorem dX4_init_42 : decode cX4_init 42 = .ok (.putfield 31, 3) := by decide +kernel
theorem dX4_init_45 : decode cX4_init 45 = .ok (.aload_n 0, 1) := by decide +kernel
theorem dX4_init_46 : decode cX4_init 46 = .ok (.bipush 80, 2) := by decide +kernel
theorem dX4_init_48 : decode cX4_init 48 = .ok (.newarray .int, 2) := by decide +kernel
theorem dX4_init_50 : decode cX4_init 50 = .ok (.putfield 34, 3) := by decide +kernel
theorem dX4_init_53 : decode cX4_init 53 = .ok (.aload_n 0, 1) := by decide +kernel
theorem dX4_init_54 : decode cX4_init 54 = .ok (.bipush 80, 2) := by decide +kernel
theorem dX4_init_56 : decode cX4_init 56 = .ok (.newarray .int, 2) := by decide +kernel
theorem dX4_init_58 : decode cX4_init 58 = .ok (.putfield 37, 3) := by decide +kernel
theorem dX4_init_61 : decode cX4_init 61 = .ok (.aload_n 0, 1) := by decide +kernel
theorem dX4_init_62 : decode cX4_init 62 = .ok (.bipush 17, 2) := by decide +kernel
theorem dX4_init_64 : decode cX4_init 64 = .ok (.newarray .long, 2) := by decide +kernel
theorem dX4_init_66 : decode cX4_init 66 = .ok (.putfield 40, 3) := by decide +kernel
theorem dX4_init_69 : decode cX4_init 69 = .ok (.aload_n 0, 1) := by decide +kernel
theorem dX4_init_70 : decode cX4_init 70 = .ok (.bipush 25, 2) := by decide +kernel
theorem dX4_init_72 : decode cX4_init 72 = .ok (.newarray .long, 2) := by decide +kernel
theorem dX4_init_74 : decode cX4_init 74 = .ok (.putfield 44, 3) := by decide +kernel
theorem dX4_init_77 : decode cX4_init 77 = .ok (.aload_n 0, 1) := by decide +kernel
theorem dX4_init_78 : decode cX4_init 78 = .ok (.bipush 40, 2) := by decide +kernel
theorem dX4_init_80 : decode cX4_init 80 = .ok (.newarray .long, 2) := by decide +kernel
theorem dX4_init_82 : decode cX4_init 82 = .ok (.putfield 47, 3) := by decide +kernel
theorem dX4_init_85 : decode cX4_init 85 = .ok (.aload_n 0, 1) := by decide +kernel
theorem dX4_init_86 : decode cX4_init 86 = .ok (.bipush 16, 2) := by decide +kernel
theorem dX4_init_88 : decode cX4_init 88 = .ok (.newarray .long, 2) := by decide +kernel
theorem dX4_init_90 : decode cX4_init 90 = .ok (.putfield 50, 3) := by decide +kernel
theorem dX4_init_93 : decode cX4_init 93 = .ok (.aload_n 0, 1) := by decide +kernel
theorem dX4_init_94 : decode cX4_init 94 = .ok (.bipush 16, 2) := by decide +kernel
theorem dX4_init_96 : decode cX4_init 96 = .ok (.newarray .long, 2) := by decide +kernel
theorem dX4_init_98 : decode cX4_init 98 = .ok (.putfield 53, 3) := by decide +kernel
theorem dX4_init_101 : decode cX4_init 101 = .ok (.return_, 1) := by decide +kernel
theorem dX4_become_0 : decode cX4_become 0 = .ok (.aload_n 0, 1) := by decide +kernel
theorem dX4_become_1 : decode cX4_become 1 = .ok (.iload_n 1, 1) := by decide +kernel
theorem dX4_become_2 : decode cX4_become 2 = .ok (.putfield 9, 3) := by decide +kernel
theorem dX4_become_5 : decode cX4_become 5 = .ok (.aload_n 0, 1) := by decide +kernel
theorem dX4_become_6 : decode cX4_become 6 = .ok (.iload_n 2, 1) := by decide +kernel
theorem dX4_become_7 : decode cX4_become 7 = .ok (.putfield 15, 3) := by decide +kernel
theorem dX4_become_10 : decode cX4_become 10 = .ok (.aload_n 0, 1) := by decide +kernel
theorem dX4_become_11 : decode cX4_become 11 = .ok (.aload_n 0, 1) := by decide +kernel
theorem dX4_become_12 : decode cX4_become 12 = .ok (.getfield 9, 3) := by decide +kernel
theorem dX4_become_15 : decode cX4_become 15 = .ok (.aload_n 0, 1) := by decide +kernel
theorem dX4_become_16 : decode cX4_become 16 = .ok (.getfield 15, 3) := by decide +kernel
theorem dX4_become_19 : decode cX4_become 19 = .ok (.imul, 1) := by decide +kernel
theorem dX4_become_20 : decode cX4_become 20 = .ok (.putfield 18, 3) := by decide +kernel
theorem dX4_become_23 : decode cX4_become 23 = .ok (.aload_n 0, 1) := by decide +kernel
theorem dX4_become_24 : decode cX4_become 24 = .ok (.aload_n 0, 1) := by decide +kernel
theorem dX4_become_25 : decode cX4_become 25 = .ok (.getfield 9, 3) := by decide +kernel
theorem dX4_become_28 : decode cX4_become 28 = .ok (.iconst 1, 1) := by decide +kernel
theorem dX4_become_29 : decode cX4_become 29 = .ok (.iadd, 1) := by decide +kernel
theorem dX4_become_30 : decode cX4_become 30 = .ok (.aload_n 0, 1) := by decide +kernel
theorem dX4_become_31 : decode cX4_become 31 = .ok (.getfield 15, 3) := by decide +kernel
theorem dX4_become_34 : decode cX4_become 34 = .ok (.iconst 1, 1) := by decide +kernel
theorem dX4_become_35 : decode cX4_become 35 = .ok (.iadd, 1) := by decide +kernel
theorem dX4_become_36 : decode cX4_become 36 = .ok (.imul, 1) := by decide +kernel
theorem dX4_become_37 : decode cX4_become 37 = .ok (.putfield 21, 3) := by decide +kernel
theorem dX4_become_40 : decode cX4_become 40 = .ok (.aload_n 0, 1) := by decide +kernel
theorem dX4_become_41 : decode cX4_become 41 = .ok (.aload_n 0, 1) := by decide +kernel
theorem dX4_become_42 : decode cX4_become 42 = .ok (.getfield 9, 3) := by decide +kernel
theorem dX4_become_45 : decode cX4_become 45 = .ok (.aload_n 0, 1) := by decide +kernel
theorem dX4_become_46 : decode cX4_become 46 = .ok (.getfield 15, 3) := by decide +kernel
theorem dX4_become_49 : decode cX4_become 49 = .ok (.iconst 1, 1) := by decide +kernel
theorem dX4_become_50 : decode cX4_become 50 = .ok (.iadd, 1) := by decide +kernel
theorem dX4_become_51 : decode cX4_become 51 = .ok (.imul, 1) := by decide +kernel
theorem dX4_become_52 : decode cX4_become 52 = .ok (.aload_n 0, 1) := by decide +kernel
theorem dX4_become_53 : decode cX4_become 53 = .ok (.getfield 9, 3) := by decide +kernel
theorem dX4_become_56 : decode cX4_become 56 = .ok (.iconst 1, 1) := by decide +kernel
theorem dX4_become_57 : decode cX4_become 57 = .ok (.iadd, 1) := by decide +kernel
theorem dX4_become_58 : decode cX4_become 58 = .ok (.aload_n 0, 1) := by decide +kernel
theorem dX4_become_59 : decode cX4_become 59 = .ok (.getfield 15, 3) := by decide +kernel
theorem dX4_become_62 : decode cX4_become 62 = .ok (.imul, 1) := by decide +kernel
theorem dX4_become_63 : decode cX4_become 63 = .ok (.iadd, 1) := by decide +kernel
theorem dX4_become_64 : decode cX4_become 64 = .ok (.putfield 24, 3) := by decide +kernel
theorem dX4_become_67 : decode cX4_become 67 = .ok (.aload_n 0, 1) := by decide +kernel
theorem dX4_become_68 : decode cX4_become 68 = .ok (.getfield 34, 3) := by decide +kernel
theorem dX4_become_71 : decode cX4_become 71 = .ok (.bipush 16, 2) := by decide +kernel
theorem dX4_become_73 : decode cX4_become 73 = .ok (.invokestatic 56, 3) := by decide +kernel
theorem dX4_become_76 : decode cX4_become 76 = .ok (.aload_n 0, 1) := by decide +kernel
theorem dX4_become_77 : decode cX4_become 77 = .ok (.getfield 40, 3) := by decide +kernel
theorem dX4_become_80 : decode cX4_become 80 = .ok (.lconst 0, 1) := by decide +kernel
theorem dX4_become_81 : decode cX4_become 81 = .ok (.invokestatic 62, 3) := by decide +kernel
theorem dX4_become_84 : decode cX4_become 84 = .ok (.aload_n 0, 1) := by decide +kernel
theorem dX4_become_85 : decode cX4_become 85 = .ok (.getfield 44, 3) := by decide +kernel
theorem dX4_become_88 : decode cX4_become 88 = .ok (.lconst 0, 1) := by decide +kernel
theorem dX4_become_89 : decode cX4_become 89 = .ok (.invokestatic 62, 3) := by decide +kernel
theorem dX4_become_92 : decode cX4_become 92 = .ok (.aload_n 0, 1) := by decide +kernel
theorem dX4_become_93 : decode cX4_become 93 = .ok (.getfield 47, 3) := by decide +kernel
theorem dX4_become_96 : decode cX4_become 96 = .ok (.lconst 0, 1) := by decide +kernel
theorem dX4_become_97 : decode cX4_become 97 = .ok (.invokestatic 62, 3) := by decide +kernel
theorem dX4_become_100 : decode cX4_become 100 = .ok (.aload_n 0, 1) := by decide +kernel
theorem dX4_become_101 : decode cX4_become 101 = .ok (.getfield 50, 3) := by decide +kernel
theorem dX4_become_104 : decode cX4_become 104 = .ok (.lconst 0, 1) := by decide +kernel
theorem dX4_become_105 : decode cX4_become 105 = .ok (.invokestatic 62, 3) := by decide +kernel
theorem dX4_become_108 : decode cX4_become 108 = .ok (.aload_n 0, 1) := by decide +kernel
theorem dX4_become_109 : decode cX4_become 109 = .ok (.invokevirtual 65, 3) := by decide +kernel
theorem dX4_become_112 : decode cX4_become 112 = .ok (.aload_n 0, 1) := by decide +kernel
theorem dX4_become_113 : decode cX4_become 113 = .ok (.invokevirtual 68, 3) := by decide +kernel
theorem dX4_become_116 : decode cX4_become 116 = .ok (.aload_n 0, 1) := by decide +kernel
theorem dX4_become_117 : decode cX4_become 117 = .ok (.invokevirtual 71, 3) := by decide +kernel
theorem dX4_become_120 : decode cX4_become 120 = .ok (.aload_n 0, 1) := by decide +kernel
theorem dX4_become_121 : decode cX4_become 121 = .ok (.invokevirtual 74, 3) := by decide +kernel
theorem dX4_become_124 : decode cX4_become 124 = .ok (.aload_n 0, 1) := by decide +kernel
theorem dX4_become_125 : decode cX4_become 125 = .ok (.invokevirtual 77, 3) := by decide +kernel
theorem dX4_become_128 : decode cX4_become 128 = .ok (.return_, 1) := by decide +kernel
theorem dX4_layCells_0 : decode cX4_layCells 0 = .ok (.iconst 0, 1) := by decide +kernel
theorem dX4_layCells_1 : decode cX4_layCells 1 = .ok (.istore_n 1, 1) := by decide +kernel
theorem dX4_layCells_2 : decode cX4_layCells 2 = .ok (.iload_n 1, 1) := by decide +kernel
theorem dX4_layCells_3 : decode cX4_layCells 3 = .ok (.aload_n 0, 1) := by decide +kernel
theorem dX4_layCells_4 : decode cX4_layCells 4 = .ok (.getfield 15, 3) := by decide +kernel
theorem dX4_layCells_7 : decode cX4_layCells 7 = .ok (.if_icmp .ge 86, 3) := by decide +kernel
theorem dX4_layCells_10 : decode cX4_layCells 10 = .ok (.iconst 0, 1) := by decide +kernel
theorem dX4_layCells_11 : decode cX4_layCells 11 = .ok (.istore_n 2, 1) := by decide +kernel
theorem dX4_layCells_12 : decode cX4_layCells 12 = .ok (.iload_n 2, 1) := by decide +kernel
theorem dX4_layCells_13 : decode cX4_layCells 13 = .ok (.aload_n 0, 1) := by decide +kernel
theorem dX4_layCells_14 : decode cX4_layCells 14 = .ok (.getfield 9, 3) := by decide +kernel
theorem dX4_layCells_17 : decode cX4_layCells 17 = .ok (.if_icmp .ge 70, 3) := by decide +kernel
theorem dX4_layCells_20 : decode cX4_layCells 20 = .ok (.iload_n 1, 1) := by decide +kernel
theorem dX4_layCells_21 : decode cX4_layCells 21 = .ok (.aload_n 0, 1) := by decide +kernel
theorem dX4_layCells_22 : decode cX4_layCells 22 = .ok (.getfield 9, 3) := by decide +kernel
theorem dX4_layCells_25 : decode cX4_layCells 25 = .ok (.imul, 1) := by decide +kernel
theorem dX4_layCells_26 : decode cX4_layCells 26 = .ok (.iload_n 2, 1) := by decide +kernel
theorem dX4_layCells_27 : decode cX4_layCells 27 = .ok (.iadd, 1) := by decide +kernel
theorem dX4_layCells_28 : decode cX4_layCells 28 = .ok (.istore_n 3, 1) := by decide +kernel
theorem dX4_layCells_29 : decode cX4_layCells 29 = .ok (.aload_n 0, 1) := by decide +kernel
theorem dX4_layCells_30 : decode cX4_layCells 30 = .ok (.iload_n 3, 1) := by decide +kernel
theorem dX4_layCells_31 : decode cX4_layCells 31 = .ok (.iconst 0, 1) := by decide +kernel
theorem dX4_layCells_32 : decode cX4_layCells 32 = .ok (.aload_n 0, 1) := by decide +kernel
theorem dX4_layCells_33 : decode cX4_layCells 33 = .ok (.iload_n 2, 1) := by decide +kernel
theorem dX4_layCells_34 : decode cX4_layCells 34 = .ok (.iload_n 1, 1) := by decide +kernel
theorem dX4_layCells_35 : decode cX4_layCells 35 = .ok (.invokevirtual 80, 3) := by decide +kernel
theorem dX4_layCells_38 : decode cX4_layCells 38 = .ok (.invokevirtual 84, 3) := by decide +kernel
theorem dX4_layCells_41 : decode cX4_layCells 41 = .ok (.aload_n 0, 1) := by decide +kernel
theorem dX4_layCells_42 : decode cX4_layCells 42 = .ok (.iload_n 3, 1) := by decide +kernel
theorem dX4_layCells_43 : decode cX4_layCells 43 = .ok (.iconst 1, 1) := by decide +kernel
theorem dX4_layCells_44 : decode cX4_layCells 44 = .ok (.aload_n 0, 1) := by decide +kernel
theorem dX4_layCells_45 : decode cX4_layCells 45 = .ok (.iload_n 2, 1) := by decide +kernel
theorem dX4_layCells_46 : decode cX4_layCells 46 = .ok (.iload_n 1, 1) := by decide +kernel
theorem dX4_layCells_47 : decode cX4_layCells 47 = .ok (.iconst 1, 1) := by decide +kernel
theorem dX4_layCells_48 : decode cX4_layCells 48 = .ok (.iadd, 1) := by decide +kernel
theorem dX4_layCells_49 : decode cX4_layCells 49 = .ok (.invokevirtual 80, 3) := by decide +kernel
theorem dX4_layCells_52 : decode cX4_layCells 52 = .ok (.invokevirtual 84, 3) := by decide +kernel
theorem dX4_layCells_55 : decode cX4_layCells 55 = .ok (.aload_n 0, 1) := by decide +kernel
theorem dX4_layCells_56 : decode cX4_layCells 56 = .ok (.iload_n 3, 1) := by decide +kernel
theorem dX4_layCells_57 : decode cX4_layCells 57 = .ok (.iconst 2, 1) := by decide +kernel
theorem dX4_layCells_58 : decode cX4_layCells 58 = .ok (.aload_n 0, 1) := by decide +kernel
theorem dX4_layCells_59 : decode cX4_layCells 59 = .ok (.iload_n 2, 1) := by decide +kernel
theorem dX4_layCells_60 : decode cX4_layCells 60 = .ok (.iload_n 1, 1) := by decide +kernel
theorem dX4_layCells_61 : decode cX4_layCells 61 = .ok (.invokevirtual 88, 3) := by decide +kernel
theorem dX4_layCells_64 : decode cX4_layCells 64 = .ok (.invokevirtual 84, 3) := by decide +kernel
theorem dX4_layCells_67 : decode cX4_layCells 67 = .ok (.aload_n 0, 1) := by decide +kernel
theorem dX4_layCells_68 : decode cX4_layCells 68 = .ok (.iload_n 3, 1) := by decide +kernel
theorem dX4_layCells_69 : decode cX4_layCells 69 = .ok (.iconst 3, 1) := by decide +kernel
theorem dX4_layCells_70 : decode cX4_layCells 70 = .ok (.aload_n 0, 1) := by decide +kernel
theorem dX4_layCells_71 : decode cX4_layCells 71 = .ok (.iload_n 2, 1) := by decide +kernel
theorem dX4_layCells_72 : decode cX4_layCells 72 = .ok (.iconst 1, 1) := by decide +kernel
theorem dX4_layCells_73 : decode cX4_layCells 73 = .ok (.iadd, 1) := by decide +kernel
theorem dX4_layCells_74 : decode cX4_layCells 74 = .ok (.iload_n 1, 1) := by decide +kernel
theorem dX4_layCells_75 : decode cX4_layCells 75 = .ok (.invokevirtual 88, 3) := by decide +kernel
theorem dX4_layCells_78 : decode cX4_layCells 78 = .ok (.invokevirtual 84, 3) := by decide +kernel
theorem dX4_layCells_81 : decode cX4_layCells 81 = .ok (.iinc 2 1, 3) := by decide +kernel
theorem dX4_layCells_84 : decode cX4_layCells 84 = .ok (.goto (-72), 3) := by decide +kernel
theorem dX4_layCells_87 : decode cX4_layCells 87 = .ok (.iinc 1 1, 3) := by decide +kernel
theorem dX4_layCells_90 : decode cX4_layCells 90 = .ok (.goto (-88), 3) := by decide +kernel
theorem dX4_layCells_93 : decode cX4_layCells 93 = .ok (.iconst 0, 1) := by decide +kernel
theorem dX4_layCells_94 : decode cX4_layCells 94 = .ok (.istore_n 1, 1) := by decide +kernel
theorem dX4_layCells_95 : decode cX4_layCells 95 = .ok (.iload_n 1, 1) := by decide +kernel
theorem dX4_layCells_96 : decode cX4_layCells 96 = .ok (.aload_n 0, 1) := by decide +kernel
theorem dX4_layCells_97 : decode cX4_layCells 97 = .ok (.getfield 24, 3) := by decide +kernel
theorem dX4_layCells_100 : decode cX4_layCells 100 = .ok (.if_icmp .ge 51, 3) := by decide +kernel
theorem dX4_layCells_103 : decode cX4_layCells 103 = .ok (.aload_n 0, 1) := by decide +kernel
theorem dX4_layCells_104 : decode cX4_layCells 104 = .ok (.iload_n 1, 1) := by decide +kernel
theorem dX4_layCells_105 : decode cX4_layCells 105 = .ok (.iconst 0, 1) := by decide +kernel
theorem dX4_layCells_106 : decode cX4_layCells 106 = .ok (.invokevirtual 91, 3) := by decide +kernel
theorem dX4_layCells_109 : decode cX4_layCells 109 = .ok (.bipush 16, 2) := by decide +kernel
theorem dX4_layCells_111 : decode cX4_layCells 111 = .ok (.if_icmp .eq 14, 3) := by decide +kernel
theorem dX4_layCells_114 : decode cX4_layCells 114 = .ok (.aload_n 0, 1) := by decide +kernel
theorem dX4_layCells_115 : decode cX4_layCells 115 = .ok (.iload_n 1, 1) := by decide +kernel
theorem dX4_layCells_116 : decode cX4_layCells 116 = .ok (.iconst 1, 1) := by decide +kernel
theorem dX4_layCells_117 : decode cX4_layCells 117 = .ok (.invokevirtual 91, 3) := by decide +kernel
theorem dX4_layCells_120 : decode cX4_layCells 120 = .ok (.bipush 16, 2) := by decide +kernel
theorem dX4_layCells_122 : decode cX4_layCells 122 = .ok (.if_icmp .ne 23, 3) := by decide +kernel
theorem dX4_layCells_125 : decode cX4_layCells 125 = .ok (.aload_n 0, 1) := by decide +kernel
theorem dX4_layCells_126 : decode cX4_layCells 126 = .ok (.getfield 40, 3) := by decide +kernel
theorem dX4_layCells_129 : decode cX4_layCells 129 = .ok (.bipush 16, 2) := by decide +kernel
theorem dX4_layCells_131 : decode cX4_layCells 131 = .ok (.aload_n 0, 1) := by decide +kernel
theorem dX4_layCells_132 : decode cX4_layCells 132 = .ok (.bipush 16, 2) := by decide +kernel
theorem dX4_layCells_134 : decode cX4_layCells 134 = .ok (.invokevirtual 94, 3) := by decide +kernel
theorem dX4_layCells_137 : decode cX4_layCells 137 = .ok (.iload_n 1, 1) := by decide +kernel
theorem dX4_layCells_138 : decode cX4_layCells 138 = .ok (.invokestatic 98, 3) := by decide +kernel
theorem dX4_layCells_141 : decode cX4_layCells 141 = .ok (.lor, 1) := by decide +kernel
theorem dX4_layCells_142 : decode cX4_layCells 142 = .ok (.invokestatic 101, 3) := by decide +kernel
theorem dX4_layCells_145 : decode cX4_layCells 145 = .ok (.iinc 1 1, 3) := by decide +kernel
theorem dX4_layCells_148 : decode cX4_layCells 148 = .ok (.goto (-53), 3) := by decide +kernel
theorem dX4_layCells_151 : decode cX4_layCells 151 = .ok (.return_, 1) := by decide +kernel
theorem dX4_layPoints_0 : decode cX4_layPoints 0 = .ok (.iconst 0, 1) := by decide +kernel
theorem dX4_layPoints_1 : decode cX4_layPoints 1 = .ok (.istore_n 1, 1) := by decide +kernel
theorem dX4_layPoints_2 : decode cX4_layPoints 2 = .ok (.iload_n 1, 1) := by decide +kernel
theorem dX4_layPoints_3 : decode cX4_layPoints 3 = .ok (.aload_n 0, 1) := by decide +kernel
theorem dX4_layPoints_4 : decode cX4_layPoints 4 = .ok (.getfield 15, 3) := by decide +kernel
theorem dX4_layPoints_7 : decode cX4_layPoints 7 = .ok (.if_icmp .gt 132, 3) := by decide +kernel
theorem dX4_layPoints_10 : decode cX4_layPoints 10 = .ok (.iconst 0, 1) := by decide +kernel
theorem dX4_layPoints_11 : decode cX4_layPoints 11 = .ok (.istore_n 2, 1) := by decide +kernel
theorem dX4_layPoints_12 : decode cX4_layPoints 12 = .ok (.iload_n 2, 1) := by decide +kernel
theorem dX4_layPoints_13 : decode cX4_layPoints 13 = .ok (.aload_n 0, 1) := by decide +kernel
theorem dX4_layPoints_14 : decode cX4_layPoints 14 = .ok (.getfield 9, 3) := by decide +kernel
theorem dX4_layPoints_17 : decode cX4_layPoints 17 = .ok (.if_icmp .gt 116, 3) := by decide +kernel
theorem dX4_layPoints_20 : decode cX4_layPoints 20 = .ok (.iload_n 1, 1) := by decide +kernel
theorem dX4_layPoints_21 : decode cX4_layPoints 21 = .ok (.aload_n 0, 1) := by decide +kernel
theorem dX4_layPoints_22 : decode cX4_layPoints 22 = .ok (.getfield 9, 3) := by decide +kernel
theorem dX4_layPoints_25 : decode cX4_layPoints 25 = .ok (.iconst 1, 1) := by decide +kernel
theorem dX4_layPoints_26 : decode cX4_layPoints 26 = .ok (.iadd, 1) := by decide +kernel
theorem dX4_layPoints_27 : decode cX4_layPoints 27 = .ok (.imul, 1) := by decide +kernel
theorem dX4_layPoints_28 : decode cX4_layPoints 28 = .ok (.iload_n 2, 1) := by decide +kernel
theorem dX4_layPoints_29 : decode cX4_layPoints 29 = .ok (.iadd, 1) := by decide +kernel
theorem dX4_layPoints_30 : decode cX4_layPoints 30 = .ok (.istore_n 3, 1) := by decide +kernel
theorem dX4_layPoints_31 : decode cX4_layPoints 31 = .ok (.aload_n 0, 1) := by decide +kernel
theorem dX4_layPoints_32 : decode cX4_layPoints 32 = .ok (.iload_n 3, 1) := by decide +kernel
theorem dX4_layPoints_33 : decode cX4_layPoints 33 = .ok (.iconst 0, 1) := by decide +kernel
theorem dX4_layPoints_34 : decode cX4_layPoints 34 = .ok (.iload_n 2, 1) := by decide +kernel
theorem dX4_layPoints_35 : decode cX4_layPoints 35 = .ok (.ifCond .le 14, 3) := by decide +kernel
theorem dX4_layPoints_38 : decode cX4_layPoints 38 = .ok (.aload_n 0, 1) := by decide +kernel
theorem dX4_layPoints_39 : decode cX4_layPoints 39 = .ok (.iload_n 2, 1) := by decide +kernel
theorem dX4_layPoints_40 : decode cX4_layPoints 40 = .ok (.iconst 1, 1) := by decide +kernel
theorem dX4_layPoints_41 : decode cX4_layPoints 41 = .ok (.isub, 1) := by decide +kernel
theorem dX4_layPoints_42 : decode cX4_layPoints 42 = .ok (.iload_n 1, 1) := by decide +kernel
theorem dX4_layPoints_43 : decode cX4_layPoints 43 = .ok (.invokevirtual 80, 3) := by decide +kernel
theorem dX4_layPoints_46 : decode cX4_layPoints 46 = .ok (.goto 5, 3) := by decide +kernel
theorem dX4_layPoints_49 : decode cX4_layPoints 49 = .ok (.bipush (-9), 2) := by decide +kernel
theorem dX4_layPoints_51 : decode cX4_layPoints 51 = .ok (.invokevirtual 105, 3) := by decide +kernel
theorem dX4_layPoints_54 : decode cX4_layPoints 54 = .ok (.aload_n 0, 1) := by decide +kernel
theorem dX4_layPoints_55 : decode cX4_layPoints 55 = .ok (.iload_n 3, 1) := by decide +kernel
theorem dX4_layPoints_56 : decode cX4_layPoints 56 = .ok (.iconst 1, 1) := by decide +kernel
theorem dX4_layPoints_57 : decode cX4_layPoints 57 = .ok (.iload_n 2, 1) := by decide +kernel
theorem dX4_layPoints_58 : decode cX4_layPoints 58 = .ok (.aload_n 0, 1) := by decide +kernel
theorem dX4_layPoints_59 : decode cX4_layPoints 59 = .ok (.getfield 9, 3) := by decide +kernel
theorem dX4_layPoints_62 : decode cX4_layPoints 62 = .ok (.if_icmp .ge 12, 3) := by decide +kernel
theorem dX4_layPoints_65 : decode cX4_layPoints 65 = .ok (.aload_n 0, 1) := by decide +kernel
theorem dX4_layPoints_66 : decode cX4_layPoints 66 = .ok (.iload_n 2, 1) := by decide +kernel
theorem dX4_layPoints_67 : decode cX4_layPoints 67 = .ok (.iload_n 1, 1) := by decide +kernel
theorem dX4_layPoints_68 : decode cX4_layPoints 68 = .ok (.invokevirtual 80, 3) := by decide +kernel
theorem dX4_layPoints_71 : decode cX4_layPoints 71 = .ok (.goto 5, 3) := by decide +kernel
theorem dX4_layPoints_74 : decode cX4_layPoints 74 = .ok (.bipush (-9), 2) := by decide +kernel
theorem dX4_layPoints_76 : decode cX4_layPoints 76 = .ok (.invokevirtual 105, 3) := by decide +kernel
theorem dX4_layPoints_79 : decode cX4_layPoints 79 = .ok (.aload_n 0, 1) := by decide +kernel
theorem dX4_layPoints_80 : decode cX4_layPoints 80 = .ok (.iload_n 3, 1) := by decide +kernel
theorem dX4_layPoints_81 : decode cX4_layPoints 81 = .ok (.iconst 2, 1) := by decide +kernel
theorem dX4_layPoints_82 : decode cX4_layPoints 82 = .ok (.iload_n 1, 1) := by decide +kernel
theorem dX4_layPoints_83 : decode cX4_layPoints 83 = .ok (.ifCond .le 14, 3) := by decide +kernel
theorem dX4_layPoints_86 : decode cX4_layPoints 86 = .ok (.aload_n 0, 1) := by decide +kernel
theorem dX4_layPoints_87 : decode cX4_layPoints 87 = .ok (.iload_n 2, 1) := by decide +kernel
theorem dX4_layPoints_88 : decode cX4_layPoints 88 = .ok (.iload_n 1, 1) := by decide +kernel
theorem dX4_layPoints_89 : decode cX4_layPoints 89 = .ok (.iconst 1, 1) := by decide +kernel
theorem dX4_layPoints_90 : decode cX4_layPoints 90 = .ok (.isub, 1) := by decide +kernel
theorem dX4_layPoints_91 : decode cX4_layPoints 91 = .ok (.invokevirtual 88, 3) := by decide +kernel
theorem dX4_layPoints_94 : decode cX4_layPoints 94 = .ok (.goto 5, 3) := by decide +kernel
theorem dX4_layPoints_97 : decode cX4_layPoints 97 = .ok (.bipush (-9), 2) := by decide +kernel
theorem dX4_layPoints_99 : decode cX4_layPoints 99 = .ok (.invokevirtual 105, 3) := by decide +kernel
theorem dX4_layPoints_102 : decode cX4_layPoints 102 = .ok (.aload_n 0, 1) := by decide +kernel
theorem dX4_layPoints_103 : decode cX4_layPoints 103 = .ok (.iload_n 3, 1) := by decide +kernel
theorem dX4_layPoints_104 : decode cX4_layPoints 104 = .ok (.iconst 3, 1) := by decide +kernel
theorem dX4_layPoints_105 : decode cX4_layPoints 105 = .ok (.iload_n 1, 1) := by decide +kernel
theorem dX4_layPoints_106 : decode cX4_layPoints 106 = .ok (.aload_n 0, 1) := by decide +kernel
theorem dX4_layPoints_107 : decode cX4_layPoints 107 = .ok (.getfield 15, 3) := by decide +kernel
theorem dX4_layPoints_110 : decode cX4_layPoints 110 = .ok (.if_icmp .ge 12, 3) := by decide +kernel
theorem dX4_layPoints_113 : decode cX4_layPoints 113 = .ok (.aload_n 0, 1) := by decide +kernel
theorem dX4_layPoints_114 : decode cX4_layPoints 114 = .ok (.iload_n 2, 1) := by decide +kernel
theorem dX4_layPoints_115 : decode cX4_layPoints 115 = .ok (.iload_n 1, 1) := by decide +kernel
theorem dX4_layPoints_116 : decode cX4_layPoints 116 = .ok (.invokevirtual 88, 3) := by decide +kernel
theorem dX4_layPoints_119 : decode cX4_layPoints 119 = .ok (.goto 5, 3) := by decide +kernel
theorem dX4_layPoints_122 : decode cX4_layPoints 122 = .ok (.bipush (-9), 2) := by decide +kernel
theorem dX4_layPoints_124 : decode cX4_layPoints 124 = .ok (.invokevirtual 105, 3) := by decide +kernel
theorem dX4_layPoints_127 : decode cX4_layPoints 127 = .ok (.iinc 2 1, 3) := by decide +kernel
theorem dX4_layPoints_130 : decode cX4_layPoints 130 = .ok (.goto (-118), 3) := by decide +kernel
theorem dX4_layPoints_133 : decode cX4_layPoints 133 = .ok (.iinc 1 1, 3) := by decide +kernel
theorem dX4_layPoints_136 : decode cX4_layPoints 136 = .ok (.goto (-134), 3) := by decide +kernel
theorem dX4_layPoints_139 : decode cX4_layPoints 139 = .ok (.return_, 1) := by decide +kernel
theorem dX4_lying_0 : decode cX4_lying 0 = .ok (.iload_n 2, 1) := by decide +kernel
theorem dX4_lying_1 : decode cX4_lying 1 = .ok (.aload_n 0, 1) := by decide +kernel
theorem dX4_lying_2 : decode cX4_lying 2 = .ok (.getfield 9, 3) := by decide +kernel
theorem dX4_lying_5 : decode cX4_lying 5 = .ok (.imul, 1) := by decide +kernel
theorem dX4_lying_6 : decode cX4_lying 6 = .ok (.iload_n 1, 1) := by decide +kernel
theorem dX4_lying_7 : decode cX4_lying 7 = .ok (.iadd, 1) := by decide +kernel
theorem dX4_lying_8 : decode cX4_lying 8 = .ok (.ireturn, 1) := by decide +kernel
theorem dX4_standing_0 : decode cX4_standing 0 = .ok (.aload_n 0, 1) := by decide +kernel
theorem dX4_standing_1 : decode cX4_standing 1 = .ok (.getfield 9, 3) := by decide +kernel
theorem dX4_standing_4 : decode cX4_standing 4 = .ok (.aload_n 0, 1) := by decide +kernel
theorem dX4_standing_5 : decode cX4_standing 5 = .ok (.getfield 15, 3) := by decide +kernel
theorem dX4_standing_8 : decode cX4_standing 8 = .ok (.iconst 1, 1) := by decide +kernel
theorem dX4_standing_9 : decode cX4_standing 9 = .ok (.iadd, 1) := by decide +kernel
theorem dX4_standing_10 : decode cX4_standing 10 = .ok (.imul, 1) := by decide +kernel
theorem dX4_standing_11 : decode cX4_standing 11 = .ok (.iload_n 2, 1) := by decide +kernel
theorem dX4_standing_12 : decode cX4_standing 12 = .ok (.aload_n 0, 1) := by decide +kernel
theorem dX4_standing_13 : decode cX4_standing 13 = .ok (.getfield 9, 3) := by decide +kernel
theorem dX4_standing_16 : decode cX4_standing 16 = .ok (.iconst 1, 1) := by decide +kernel
theorem dX4_standing_17 : decode cX4_standing 17 = .ok (.iadd, 1) := by decide +kernel
theorem dX4_standing_18 : decode cX4_standing 18 = .ok (.imul, 1) := by decide +kernel
theorem dX4_standing_19 : decode cX4_standing 19 = .ok (.iadd, 1) := by decide +kernel
theorem dX4_standing_20 : decode cX4_standing 20 = .ok (.iload_n 1, 1) := by decide +kernel
theorem dX4_standing_21 : decode cX4_standing 21 = .ok (.iadd, 1) := by decide +kernel
theorem dX4_standing_22 : decode cX4_standing 22 = .ok (.ireturn, 1) := by decide +kernel
theorem dX4_layCellSide_0 : decode cX4_layCellSide 0 = .ok (.aload_n 0, 1) := by decide +kernel
theorem dX4_layCellSide_1 : decode cX4_layCellSide 1 = .ok (.getfield 27, 3) := by decide +kernel
theorem dX4_layCellSide_4 : decode cX4_layCellSide 4 = .ok (.iload_n 1, 1) := by decide +kernel
theorem dX4_layCellSide_5 : decode cX4_layCellSide 5 = .ok (.iconst 4, 1) := by decide +kernel
theorem dX4_layCellSide_6 : decode cX4_layCellSide 6 = .ok (.imul, 1) := by decide +kernel
theorem dX4_layCellSide_7 : decode cX4_layCellSide 7 = .ok (.iload_n 2, 1) := by decide +kernel
theorem dX4_layCellSide_8 : decode cX4_layCellSide 8 = .ok (.iadd, 1) := by decide +kernel
theorem dX4_layCellSide_9 : decode cX4_layCellSide 9 = .ok (.iload_n 3, 1) := by decide +kernel
theorem dX4_layCellSide_10 : decode cX4_layCellSide 10 = .ok (.invokestatic 108, 3) := by decide +kernel
theorem dX4_layCellSide_13 : decode cX4_layCellSide 13 = .ok (.aload_n 0, 1) := by decide +kernel
theorem dX4_layCellSide_14 : decode cX4_layCellSide 14 = .ok (.getfield 40, 3) := by decide +kernel
theorem dX4_layCellSide_17 : decode cX4_layCellSide 17 = .ok (.iload_n 1, 1) := by decide +kernel
theorem dX4_layCellSide_18 : decode cX4_layCellSide 18 = .ok (.aload_n 0, 1) := by decide +kernel
theorem dX4_layCellSide_19 : decode cX4_layCellSide 19 = .ok (.iload_n 1, 1) := by decide +kernel
theorem dX4_layCellSide_20 : decode cX4_layCellSide 20 = .ok (.invokevirtual 94, 3) := by decide +kernel
theorem dX4_layCellSide_23 : decode cX4_layCellSide 23 = .ok (.iload_n 3, 1) := by decide +kernel
theorem dX4_layCellSide_24 : decode cX4_layCellSide 24 = .ok (.invokestatic 98, 3) := by decide +kernel
theorem dX4_layCellSide_27 : decode cX4_layCellSide 27 = .ok (.lor, 1) := by decide +kernel
theorem dX4_layCellSide_28 : decode cX4_layCellSide 28 = .ok (.invokestatic 101, 3) := by decide +kernel
theorem dX4_layCellSide_31 : decode cX4_layCellSide 31 = .ok (.aload_n 0, 1) := by decide +kernel
theorem dX4_layCellSide_32 : decode cX4_layCellSide 32 = .ok (.getfield 34, 3) := by decide +kernel
theorem dX4_layCellSide_35 : decode cX4_layCellSide 35 = .ok (.iload_n 3, 1) := by decide +kernel
theorem dX4_layCellSide_36 : decode cX4_layCellSide 36 = .ok (.iconst 2, 1) := by decide +kernel
theorem dX4_layCellSide_37 : decode cX4_layCellSide 37 = .ok (.imul, 1) := by decide +kernel
theorem dX4_layCellSide_38 : decode cX4_layCellSide 38 = .ok (.iload_n 2, 1) := by decide +kernel
theorem dX4_layCellSide_39 : decode cX4_layCellSide 39 = .ok (.invokestatic 111, 3) := by decide +kernel

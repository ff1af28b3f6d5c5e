theorem dX4_layCellSide_42 : decode cX4_layCellSide 42 = .ok (.iadd, 1) := by decide +kernel
theorem dX4_layCellSide_43 : decode cX4_layCellSide 43 = .ok (.iload_n 1, 1) := by decide +kernel
theorem dX4_layCellSide_44 : decode cX4_layCellSide 44 = .ok (.invokestatic 108, 3) := by decide +kernel
theorem dX4_layCellSide_47 : decode cX4_layCellSide 47 = .ok (.return_, 1) := by decide +kernel
theorem dX4_layPointSide_0 : decode cX4_layPointSide 0 = .ok (.aload_n 0, 1) := by decide +kernel
theorem dX4_layPointSide_1 : decode cX4_layPointSide 1 = .ok (.getfield 31, 3) := by decide +kernel
theorem dX4_layPointSide_4 : decode cX4_layPointSide 4 = .ok (.iload_n 1, 1) := by decide +kernel
theorem dX4_layPointSide_5 : decode cX4_layPointSide 5 = .ok (.iconst 4, 1) := by decide +kernel
theorem dX4_layPointSide_6 : decode cX4_layPointSide 6 = .ok (.imul, 1) := by decide +kernel
theorem dX4_layPointSide_7 : decode cX4_layPointSide 7 = .ok (.iload_n 2, 1) := by decide +kernel
theorem dX4_layPointSide_8 : decode cX4_layPointSide 8 = .ok (.iadd, 1) := by decide +kernel
theorem dX4_layPointSide_9 : decode cX4_layPointSide 9 = .ok (.iload_n 3, 1) := by decide +kernel
theorem dX4_layPointSide_10 : decode cX4_layPointSide 10 = .ok (.invokestatic 108, 3) := by decide +kernel
theorem dX4_layPointSide_13 : decode cX4_layPointSide 13 = .ok (.iload_n 3, 1) := by decide +kernel
theorem dX4_layPointSide_14 : decode cX4_layPointSide 14 = .ok (.bipush (-9), 2) := by decide +kernel
theorem dX4_layPointSide_16 : decode cX4_layPointSide 16 = .ok (.if_icmp .eq 37, 3) := by decide +kernel
theorem dX4_layPointSide_19 : decode cX4_layPointSide 19 = .ok (.aload_n 0, 1) := by decide +kernel
theorem dX4_layPointSide_20 : decode cX4_layPointSide 20 = .ok (.getfield 44, 3) := by decide +kernel
theorem dX4_layPointSide_23 : decode cX4_layPointSide 23 = .ok (.iload_n 1, 1) := by decide +kernel
theorem dX4_layPointSide_24 : decode cX4_layPointSide 24 = .ok (.aload_n 0, 1) := by decide +kernel
theorem dX4_layPointSide_25 : decode cX4_layPointSide 25 = .ok (.iload_n 1, 1) := by decide +kernel
theorem dX4_layPointSide_26 : decode cX4_layPointSide 26 = .ok (.invokevirtual 115, 3) := by decide +kernel
theorem dX4_layPointSide_29 : decode cX4_layPointSide 29 = .ok (.iload_n 3, 1) := by decide +kernel
theorem dX4_layPointSide_30 : decode cX4_layPointSide 30 = .ok (.invokestatic 98, 3) := by decide +kernel
theorem dX4_layPointSide_33 : decode cX4_layPointSide 33 = .ok (.lor, 1) := by decide +kernel
theorem dX4_layPointSide_34 : decode cX4_layPointSide 34 = .ok (.invokestatic 101, 3) := by decide +kernel
theorem dX4_layPointSide_37 : decode cX4_layPointSide 37 = .ok (.aload_n 0, 1) := by decide +kernel
theorem dX4_layPointSide_38 : decode cX4_layPointSide 38 = .ok (.getfield 37, 3) := by decide +kernel
theorem dX4_layPointSide_41 : decode cX4_layPointSide 41 = .ok (.iload_n 3, 1) := by decide +kernel
theorem dX4_layPointSide_42 : decode cX4_layPointSide 42 = .ok (.iconst 2, 1) := by decide +kernel
theorem dX4_layPointSide_43 : decode cX4_layPointSide 43 = .ok (.imul, 1) := by decide +kernel
theorem dX4_layPointSide_44 : decode cX4_layPointSide 44 = .ok (.iload_n 2, 1) := by decide +kernel
theorem dX4_layPointSide_45 : decode cX4_layPointSide 45 = .ok (.invokestatic 111, 3) := by decide +kernel
theorem dX4_layPointSide_48 : decode cX4_layPointSide 48 = .ok (.iadd, 1) := by decide +kernel
theorem dX4_layPointSide_49 : decode cX4_layPointSide 49 = .ok (.iload_n 1, 1) := by decide +kernel
theorem dX4_layPointSide_50 : decode cX4_layPointSide 50 = .ok (.invokestatic 108, 3) := by decide +kernel
theorem dX4_layPointSide_53 : decode cX4_layPointSide 53 = .ok (.return_, 1) := by decide +kernel
theorem dX4_firstOrSecond_0 : decode cX4_firstOrSecond 0 = .ok (.iload_n 0, 1) := by decide +kernel
theorem dX4_firstOrSecond_1 : decode cX4_firstOrSecond 1 = .ok (.ifCond .eq 8, 3) := by decide +kernel
theorem dX4_firstOrSecond_4 : decode cX4_firstOrSecond 4 = .ok (.iload_n 0, 1) := by decide +kernel
theorem dX4_firstOrSecond_5 : decode cX4_firstOrSecond 5 = .ok (.iconst 2, 1) := by decide +kernel
theorem dX4_firstOrSecond_6 : decode cX4_firstOrSecond 6 = .ok (.if_icmp .ne 7, 3) := by decide +kernel
theorem dX4_firstOrSecond_9 : decode cX4_firstOrSecond 9 = .ok (.iconst 1, 1) := by decide +kernel
theorem dX4_firstOrSecond_10 : decode cX4_firstOrSecond 10 = .ok (.goto 4, 3) := by decide +kernel
theorem dX4_firstOrSecond_13 : decode cX4_firstOrSecond 13 = .ok (.iconst 0, 1) := by decide +kernel
theorem dX4_firstOrSecond_14 : decode cX4_firstOrSecond 14 = .ok (.ireturn, 1) := by decide +kernel
theorem dX4_layBesides_0 : decode cX4_layBesides 0 = .ok (.iconst 0, 1) := by decide +kernel
theorem dX4_layBesides_1 : decode cX4_layBesides 1 = .ok (.istore_n 1, 1) := by decide +kernel
theorem dX4_layBesides_2 : decode cX4_layBesides 2 = .ok (.iload_n 1, 1) := by decide +kernel
theorem dX4_layBesides_3 : decode cX4_layBesides 3 = .ok (.aload_n 0, 1) := by decide +kernel
theorem dX4_layBesides_4 : decode cX4_layBesides 4 = .ok (.getfield 24, 3) := by decide +kernel
theorem dX4_layBesides_7 : decode cX4_layBesides 7 = .ok (.if_icmp .ge 38, 3) := by decide +kernel
theorem dX4_layBesides_10 : decode cX4_layBesides 10 = .ok (.aload_n 0, 1) := by decide +kernel
theorem dX4_layBesides_11 : decode cX4_layBesides 11 = .ok (.getfield 47, 3) := by decide +kernel
theorem dX4_layBesides_14 : decode cX4_layBesides 14 = .ok (.iload_n 1, 1) := by decide +kernel
theorem dX4_layBesides_15 : decode cX4_layBesides 15 = .ok (.aload_n 0, 1) := by decide +kernel
theorem dX4_layBesides_16 : decode cX4_layBesides 16 = .ok (.aload_n 0, 1) := by decide +kernel
theorem dX4_layBesides_17 : decode cX4_layBesides 17 = .ok (.iload_n 1, 1) := by decide +kernel
theorem dX4_layBesides_18 : decode cX4_layBesides 18 = .ok (.iconst 0, 1) := by decide +kernel
theorem dX4_layBesides_19 : decode cX4_layBesides 19 = .ok (.invokevirtual 118, 3) := by decide +kernel
theorem dX4_layBesides_22 : decode cX4_layBesides 22 = .ok (.invokevirtual 115, 3) := by decide +kernel
theorem dX4_layBesides_25 : decode cX4_layBesides 25 = .ok (.aload_n 0, 1) := by decide +kernel
theorem dX4_layBesides_26 : decode cX4_layBesides 26 = .ok (.aload_n 0, 1) := by decide +kernel
theorem dX4_layBesides_27 : decode cX4_layBesides 27 = .ok (.iload_n 1, 1) := by decide +kernel
theorem dX4_layBesides_28 : decode cX4_layBesides 28 = .ok (.iconst 1, 1) := by decide +kernel
theorem dX4_layBesides_29 : decode cX4_layBesides 29 = .ok (.invokevirtual 118, 3) := by decide +kernel
theorem dX4_layBesides_32 : decode cX4_layBesides 32 = .ok (.invokevirtual 115, 3) := by decide +kernel
theorem dX4_layBesides_35 : decode cX4_layBesides 35 = .ok (.lor, 1) := by decide +kernel
theorem dX4_layBesides_36 : decode cX4_layBesides 36 = .ok (.invokestatic 101, 3) := by decide +kernel
theorem dX4_layBesides_39 : decode cX4_layBesides 39 = .ok (.iinc 1 1, 3) := by decide +kernel
theorem dX4_layBesides_42 : decode cX4_layBesides 42 = .ok (.goto (-40), 3) := by decide +kernel
theorem dX4_layBesides_45 : decode cX4_layBesides 45 = .ok (.return_, 1) := by decide +kernel
theorem dX4_laySettled_0 : decode cX4_laySettled 0 = .ok (.iconst 0, 1) := by decide +kernel
theorem dX4_laySettled_1 : decode cX4_laySettled 1 = .ok (.istore_n 1, 1) := by decide +kernel
theorem dX4_laySettled_2 : decode cX4_laySettled 2 = .ok (.iload_n 1, 1) := by decide +kernel
theorem dX4_laySettled_3 : decode cX4_laySettled 3 = .ok (.aload_n 0, 1) := by decide +kernel
theorem dX4_laySettled_4 : decode cX4_laySettled 4 = .ok (.getfield 24, 3) := by decide +kernel
theorem dX4_laySettled_7 : decode cX4_laySettled 7 = .ok (.if_icmp .ge 64, 3) := by decide +kernel
theorem dX4_laySettled_10 : decode cX4_laySettled 10 = .ok (.aload_n 0, 1) := by decide +kernel
theorem dX4_laySettled_11 : decode cX4_laySettled 11 = .ok (.iload_n 1, 1) := by decide +kernel
theorem dX4_laySettled_12 : decode cX4_laySettled 12 = .ok (.iconst 0, 1) := by decide +kernel
theorem dX4_laySettled_13 : decode cX4_laySettled 13 = .ok (.invokevirtual 91, 3) := by decide +kernel
theorem dX4_laySettled_16 : decode cX4_laySettled 16 = .ok (.aload_n 0, 1) := by decide +kernel
theorem dX4_laySettled_17 : decode cX4_laySettled 17 = .ok (.iload_n 1, 1) := by decide +kernel
theorem dX4_laySettled_18 : decode cX4_laySettled 18 = .ok (.iconst 1, 1) := by decide +kernel
theorem dX4_laySettled_19 : decode cX4_laySettled 19 = .ok (.invokevirtual 91, 3) := by decide +kernel
theorem dX4_laySettled_22 : decode cX4_laySettled 22 = .ok (.invokestatic 121, 3) := by decide +kernel
theorem dX4_laySettled_25 : decode cX4_laySettled 25 = .ok (.istore_n 2, 1) := by decide +kernel
theorem dX4_laySettled_26 : decode cX4_laySettled 26 = .ok (.iconst 0, 1) := by decide +kernel
theorem dX4_laySettled_27 : decode cX4_laySettled 27 = .ok (.istore_n 3, 1) := by decide +kernel
theorem dX4_laySettled_28 : decode cX4_laySettled 28 = .ok (.iload_n 3, 1) := by decide +kernel
theorem dX4_laySettled_29 : decode cX4_laySettled 29 = .ok (.iload_n 2, 1) := by decide +kernel
theorem dX4_laySettled_30 : decode cX4_laySettled 30 = .ok (.if_icmp .gt 35, 3) := by decide +kernel
theorem dX4_laySettled_33 : decode cX4_laySettled 33 = .ok (.iload_n 3, 1) := by decide +kernel
theorem dX4_laySettled_34 : decode cX4_laySettled 34 = .ok (.aload_n 0, 1) := by decide +kernel
theorem dX4_laySettled_35 : decode cX4_laySettled 35 = .ok (.getfield 18, 3) := by decide +kernel
theorem dX4_laySettled_38 : decode cX4_laySettled 38 = .ok (.if_icmp .ge 27, 3) := by decide +kernel
theorem dX4_laySettled_41 : decode cX4_laySettled 41 = .ok (.aload_n 0, 1) := by decide +kernel
theorem dX4_laySettled_42 : decode cX4_laySettled 42 = .ok (.getfield 50, 3) := by decide +kernel
theorem dX4_laySettled_45 : decode cX4_laySettled 45 = .ok (.iload_n 3, 1) := by decide +kernel
theorem dX4_laySettled_46 : decode cX4_laySettled 46 = .ok (.aload_n 0, 1) := by decide +kernel
theorem dX4_laySettled_47 : decode cX4_laySettled 47 = .ok (.iload_n 3, 1) := by decide +kernel
theorem dX4_laySettled_48 : decode cX4_laySettled 48 = .ok (.invokevirtual 126, 3) := by decide +kernel
theorem dX4_laySettled_51 : decode cX4_laySettled 51 = .ok (.iload_n 1, 1) := by decide +kernel
theorem dX4_laySettled_52 : decode cX4_laySettled 52 = .ok (.invokestatic 98, 3) := by decide +kernel
theorem dX4_laySettled_55 : decode cX4_laySettled 55 = .ok (.lor, 1) := by decide +kernel
theorem dX4_laySettled_56 : decode cX4_laySettled 56 = .ok (.invokestatic 101, 3) := by decide +kernel
theorem dX4_laySettled_59 : decode cX4_laySettled 59 = .ok (.iinc 3 1, 3) := by decide +kernel
theorem dX4_laySettled_62 : decode cX4_laySettled 62 = .ok (.goto (-34), 3) := by decide +kernel
theorem dX4_laySettled_65 : decode cX4_laySettled 65 = .ok (.iinc 1 1, 3) := by decide +kernel
theorem dX4_laySettled_68 : decode cX4_laySettled 68 = .ok (.goto (-66), 3) := by decide +kernel
theorem dX4_laySettled_71 : decode cX4_laySettled 71 = .ok (.return_, 1) := by decide +kernel
theorem dX4_layCorners_0 : decode cX4_layCorners 0 = .ok (.iconst 0, 1) := by decide +kernel
theorem dX4_layCorners_1 : decode cX4_layCorners 1 = .ok (.istore_n 1, 1) := by decide +kernel
theorem dX4_layCorners_2 : decode cX4_layCorners 2 = .ok (.iload_n 1, 1) := by decide +kernel
theorem dX4_layCorners_3 : decode cX4_layCorners 3 = .ok (.aload_n 0, 1) := by decide +kernel
theorem dX4_layCorners_4 : decode cX4_layCorners 4 = .ok (.getfield 18, 3) := by decide +kernel
theorem dX4_layCorners_7 : decode cX4_layCorners 7 = .ok (.if_icmp .ge 32, 3) := by decide +kernel
theorem dX4_layCorners_10 : decode cX4_layCorners 10 = .ok (.aload_n 0, 1) := by decide +kernel
theorem dX4_layCorners_11 : decode cX4_layCorners 11 = .ok (.getfield 53, 3) := by decide +kernel
theorem dX4_layCorners_14 : decode cX4_layCorners 14 = .ok (.iload_n 1, 1) := by decide +kernel
theorem dX4_layCorners_15 : decode cX4_layCorners 15 = .ok (.aload_n 0, 1) := by decide +kernel
theorem dX4_layCorners_16 : decode cX4_layCorners 16 = .ok (.aload_n 0, 1) := by decide +kernel
theorem dX4_layCorners_17 : decode cX4_layCorners 17 = .ok (.aload_n 0, 1) := by decide +kernel
theorem dX4_layCorners_18 : decode cX4_layCorners 18 = .ok (.iload_n 1, 1) := by decide +kernel
theorem dX4_layCorners_19 : decode cX4_layCorners 19 = .ok (.iconst 1, 1) := by decide +kernel
theorem dX4_layCorners_20 : decode cX4_layCorners 20 = .ok (.invokevirtual 129, 3) := by decide +kernel
theorem dX4_layCorners_23 : decode cX4_layCorners 23 = .ok (.iconst 1, 1) := by decide +kernel
theorem dX4_layCorners_24 : decode cX4_layCorners 24 = .ok (.invokevirtual 118, 3) := by decide +kernel
theorem dX4_layCorners_27 : decode cX4_layCorners 27 = .ok (.invokevirtual 115, 3) := by decide +kernel
theorem dX4_layCorners_30 : decode cX4_layCorners 30 = .ok (.invokestatic 101, 3) := by decide +kernel
theorem dX4_layCorners_33 : decode cX4_layCorners 33 = .ok (.iinc 1 1, 3) := by decide +kernel
theorem dX4_layCorners_36 : decode cX4_layCorners 36 = .ok (.goto (-34), 3) := by decide +kernel
theorem dX4_layCorners_39 : decode cX4_layCorners 39 = .ok (.return_, 1) := by decide +kernel
theorem dX4_hasCell_0 : decode cX4_hasCell 0 = .ok (.iload_n 1, 1) := by decide +kernel
theorem dX4_hasCell_1 : decode cX4_hasCell 1 = .ok (.ifCond .lt 15, 3) := by decide +kernel
theorem dX4_hasCell_4 : decode cX4_hasCell 4 = .ok (.iload_n 1, 1) := by decide +kernel
theorem dX4_hasCell_5 : decode cX4_hasCell 5 = .ok (.aload_n 0, 1) := by decide +kernel
theorem dX4_hasCell_6 : decode cX4_hasCell 6 = .ok (.getfield 18, 3) := by decide +kernel
theorem dX4_hasCell_9 : decode cX4_hasCell 9 = .ok (.if_icmp .ge 7, 3) := by decide +kernel
theorem dX4_hasCell_12 : decode cX4_hasCell 12 = .ok (.iconst 1, 1) := by decide +kernel
theorem dX4_hasCell_13 : decode cX4_hasCell 13 = .ok (.goto 4, 3) := by decide +kernel
theorem dX4_hasCell_16 : decode cX4_hasCell 16 = .ok (.iconst 0, 1) := by decide +kernel
theorem dX4_hasCell_17 : decode cX4_hasCell 17 = .ok (.ireturn, 1) := by decide +kernel
theorem dX4_hasPoint_0 : decode cX4_hasPoint 0 = .ok (.iload_n 1, 1) := by decide +kernel
theorem dX4_hasPoint_1 : decode cX4_hasPoint 1 = .ok (.ifCond .lt 15, 3) := by decide +kernel
theorem dX4_hasPoint_4 : decode cX4_hasPoint 4 = .ok (.iload_n 1, 1) := by decide +kernel
theorem dX4_hasPoint_5 : decode cX4_hasPoint 5 = .ok (.aload_n 0, 1) := by decide +kernel
theorem dX4_hasPoint_6 : decode cX4_hasPoint 6 = .ok (.getfield 21, 3) := by decide +kernel
theorem dX4_hasPoint_9 : decode cX4_hasPoint 9 = .ok (.if_icmp .ge 7, 3) := by decide +kernel
theorem dX4_hasPoint_12 : decode cX4_hasPoint 12 = .ok (.iconst 1, 1) := by decide +kernel
theorem dX4_hasPoint_13 : decode cX4_hasPoint 13 = .ok (.goto 4, 3) := by decide +kernel
theorem dX4_hasPoint_16 : decode cX4_hasPoint 16 = .ok (.iconst 0, 1) := by decide +kernel
theorem dX4_hasPoint_17 : decode cX4_hasPoint 17 = .ok (.ireturn, 1) := by decide +kernel
theorem dX4_hasSide_0 : decode cX4_hasSide 0 = .ok (.iload_n 1, 1) := by decide +kernel
theorem dX4_hasSide_1 : decode cX4_hasSide 1 = .ok (.ifCond .lt 15, 3) := by decide +kernel
theorem dX4_hasSide_4 : decode cX4_hasSide 4 = .ok (.iload_n 1, 1) := by decide +kernel
theorem dX4_hasSide_5 : decode cX4_hasSide 5 = .ok (.aload_n 0, 1) := by decide +kernel
theorem dX4_hasSide_6 : decode cX4_hasSide 6 = .ok (.getfield 24, 3) := by decide +kernel
theorem dX4_hasSide_9 : decode cX4_hasSide 9 = .ok (.if_icmp .ge 7, 3) := by decide +kernel
theorem dX4_hasSide_12 : decode cX4_hasSide 12 = .ok (.iconst 1, 1) := by decide +kernel
theorem dX4_hasSide_13 : decode cX4_hasSide 13 = .ok (.goto 4, 3) := by decide +kernel
theorem dX4_hasSide_16 : decode cX4_hasSide 16 = .ok (.iconst 0, 1) := by decide +kernel
theorem dX4_hasSide_17 : decode cX4_hasSide 17 = .ok (.ireturn, 1) := by decide +kernel
theorem dX4_sideOfCell_0 : decode cX4_sideOfCell 0 = .ok (.aload_n 0, 1) := by decide +kernel
theorem dX4_sideOfCell_1 : decode cX4_sideOfCell 1 = .ok (.getfield 27, 3) := by decide +kernel
theorem dX4_sideOfCell_4 : decode cX4_sideOfCell 4 = .ok (.iload_n 1, 1) := by decide +kernel
theorem dX4_sideOfCell_5 : decode cX4_sideOfCell 5 = .ok (.iconst 4, 1) := by decide +kernel
theorem dX4_sideOfCell_6 : decode cX4_sideOfCell 6 = .ok (.imul, 1) := by decide +kernel
theorem dX4_sideOfCell_7 : decode cX4_sideOfCell 7 = .ok (.iload_n 2, 1) := by decide +kernel
theorem dX4_sideOfCell_8 : decode cX4_sideOfCell 8 = .ok (.iadd, 1) := by decide +kernel
theorem dX4_sideOfCell_9 : decode cX4_sideOfCell 9 = .ok (.invokestatic 132, 3) := by decide +kernel
theorem dX4_sideOfCell_12 : decode cX4_sideOfCell 12 = .ok (.ireturn, 1) := by decide +kernel
theorem dX4_sideOfPoint_0 : decode cX4_sideOfPoint 0 = .ok (.aload_n 0, 1) := by decide +kernel
theorem dX4_sideOfPoint_1 : decode cX4_sideOfPoint 1 = .ok (.getfield 31, 3) := by decide +kernel
theorem dX4_sideOfPoint_4 : decode cX4_sideOfPoint 4 = .ok (.iload_n 1, 1) := by decide +kernel
theorem dX4_sideOfPoint_5 : decode cX4_sideOfPoint 5 = .ok (.iconst 4, 1) := by decide +kernel
theorem dX4_sideOfPoint_6 : decode cX4_sideOfPoint 6 = .ok (.imul, 1) := by decide +kernel
theorem dX4_sideOfPoint_7 : decode cX4_sideOfPoint 7 = .ok (.iload_n 2, 1) := by decide +kernel
theorem dX4_sideOfPoint_8 : decode cX4_sideOfPoint 8 = .ok (.iadd, 1) := by decide +kernel
theorem dX4_sideOfPoint_9 : decode cX4_sideOfPoint 9 = .ok (.invokestatic 132, 3) := by decide +kernel
theorem dX4_sideOfPoint_12 : decode cX4_sideOfPoint 12 = .ok (.ireturn, 1) := by decide +kernel
theorem dX4_hand_0 : decode cX4_hand 0 = .ok (.aload_n 0, 1) := by decide +kernel
theorem dX4_hand_1 : decode cX4_hand 1 = .ok (.getfield 34, 3) := by decide +kernel
theorem dX4_hand_4 : decode cX4_hand 4 = .ok (.iload_n 1, 1) := by decide +kernel
theorem dX4_hand_5 : decode cX4_hand 5 = .ok (.iconst 2, 1) := by decide +kernel
theorem dX4_hand_6 : decode cX4_hand 6 = .ok (.imul, 1) := by decide +kernel
theorem dX4_hand_7 : decode cX4_hand 7 = .ok (.iload_n 2, 1) := by decide +kernel
theorem dX4_hand_8 : decode cX4_hand 8 = .ok (.iadd, 1) := by decide +kernel
theorem dX4_hand_9 : decode cX4_hand 9 = .ok (.invokestatic 132, 3) := by decide +kernel
theorem dX4_hand_12 : decode cX4_hand 12 = .ok (.ireturn, 1) := by decide +kernel
theorem dX4_end_0 : decode cX4_end 0 = .ok (.aload_n 0, 1) := by decide +kernel
theorem dX4_end_1 : decode cX4_end 1 = .ok (.getfield 37, 3) := by decide +kernel
theorem dX4_end_4 : decode cX4_end 4 = .ok (.iload_n 1, 1) := by decide +kernel
theorem dX4_end_5 : decode cX4_end 5 = .ok (.iconst 2, 1) := by decide +kernel
theorem dX4_end_6 : decode cX4_end 6 = .ok (.imul, 1) := by decide +kernel
theorem dX4_end_7 : decode cX4_end 7 = .ok (.iload_n 2, 1) := by decide +kernel
theorem dX4_end_8 : decode cX4_end 8 = .ok (.iadd, 1) := by decide +kernel
theorem dX4_end_9 : decode cX4_end 9 = .ok (.invokestatic 132, 3) := by decide +kernel
theorem dX4_end_12 : decode cX4_end 12 = .ok (.ireturn, 1) := by decide +kernel
theorem dX4_roundCell_0 : decode cX4_roundCell 0 = .ok (.iload_n 1, 1) := by decide +kernel
theorem dX4_roundCell_1 : decode cX4_roundCell 1 = .ok (.ifCond .lt 21, 3) := by decide +kernel
theorem dX4_roundCell_4 : decode cX4_roundCell 4 = .ok (.iload_n 1, 1) := by decide +kernel
theorem dX4_roundCell_5 : decode cX4_roundCell 5 = .ok (.aload_n 0, 1) := by decide +kernel
theorem dX4_roundCell_6 : decode cX4_roundCell 6 = .ok (.getfield 40, 3) := by decide +kernel
theorem dX4_roundCell_9 : decode cX4_roundCell 9 = .ok (.arraylength, 1) := by decide +kernel
theorem dX4_roundCell_10 : decode cX4_roundCell 10 = .ok (.if_icmp .ge 12, 3) := by decide +kernel
theorem dX4_roundCell_13 : decode cX4_roundCell 13 = .ok (.aload_n 0, 1) := by decide +kernel
theorem dX4_roundCell_14 : decode cX4_roundCell 14 = .ok (.getfield 40, 3) := by decide +kernel
theorem dX4_roundCell_17 : decode cX4_roundCell 17 = .ok (.iload_n 1, 1) := by decide +kernel
theorem dX4_roundCell_18 : decode cX4_roundCell 18 = .ok (.laload, 1) := by decide +kernel
theorem dX4_roundCell_19 : decode cX4_roundCell 19 = .ok (.goto 4, 3) := by decide +kernel
theorem dX4_roundCell_22 : decode cX4_roundCell 22 = .ok (.lconst 0, 1) := by decide +kernel
theorem dX4_roundCell_23 : decode cX4_roundCell 23 = .ok (.lreturn, 1) := by decide +kernel
theorem dX4_atPoint_0 : decode cX4_atPoint 0 = .ok (.iload_n 1, 1) := by decide +kernel
theorem dX4_atPoint_1 : decode cX4_atPoint 1 = .ok (.ifCond .lt 21, 3) := by decide +kernel
theorem dX4_atPoint_4 : decode cX4_atPoint 4 = .ok (.iload_n 1, 1) := by decide +kernel
theorem dX4_atPoint_5 : decode cX4_atPoint 5 = .ok (.aload_n 0, 1) := by decide +kernel
theorem dX4_atPoint_6 : decode cX4_atPoint 6 = .ok (.getfield 44, 3) := by decide +kernel
theorem dX4_atPoint_9 : decode cX4_atPoint 9 = .ok (.arraylength, 1) := by decide +kernel
theorem dX4_atPoint_10 : decode cX4_atPoint 10 = .ok (.if_icmp .ge 12, 3) := by decide +kernel
theorem dX4_atPoint_13 : decode cX4_atPoint 13 = .ok (.aload_n 0, 1) := by decide +kernel
theorem dX4_atPoint_14 : decode cX4_atPoint 14 = .ok (.getfield 44, 3) := by decide +kernel
theorem dX4_atPoint_17 : decode cX4_atPoint 17 = .ok (.iload_n 1, 1) := by decide +kernel
theorem dX4_atPoint_18 : decode cX4_atPoint 18 = .ok (.laload, 1) := by decide +kernel
theorem dX4_atPoint_19 : decode cX4_atPoint 19 = .ok (.goto 4, 3) := by decide +kernel
theorem dX4_atPoint_22 : decode cX4_atPoint 22 = .ok (.lconst 0, 1) := by decide +kernel
theorem dX4_atPoint_23 : decode cX4_atPoint 23 = .ok (.lreturn, 1) := by decide +kernel
theorem dX4_settledFrom_0 : decode cX4_settledFrom 0 = .ok (.iload_n 1, 1) := by decide +kernel
theorem dX4_settledFrom_1 : decode cX4_settledFrom 1 = .ok (.ifCond .lt 21, 3) := by decide +kernel
theorem dX4_settledFrom_4 : decode cX4_settledFrom 4 = .ok (.iload_n 1, 1) := by decide +kernel
theorem dX4_settledFrom_5 : decode cX4_settledFrom 5 = .ok (.aload_n 0, 1) := by decide +kernel
theorem dX4_settledFrom_6 : decode cX4_settledFrom 6 = .ok (.getfield 50, 3) := by decide +kernel
theorem dX4_settledFrom_9 : decode cX4_settledFrom 9 = .ok (.arraylength, 1) := by decide +kernel
theorem dX4_settledFrom_10 : decode cX4_settledFrom 10 = .ok (.if_icmp .ge 12, 3) := by decide +kernel
theorem dX4_settledFrom_13 : decode cX4_settledFrom 13 = .ok (.aload_n 0, 1) := by decide +kernel
theorem dX4_settledFrom_14 : decode cX4_settledFrom 14 = .ok (.getfield 50, 3) := by decide +kernel
theorem dX4_settledFrom_17 : decode cX4_settledFrom 17 = .ok (.iload_n 1, 1) := by decide +kernel
theorem dX4_settledFrom_18 : decode cX4_settledFrom 18 = .ok (.laload, 1) := by decide +kernel
theorem dX4_settledFrom_19 : decode cX4_settledFrom 19 = .ok (.goto 4, 3) := by decide +kernel
theorem dX4_settledFrom_22 : decode cX4_settledFrom 22 = .ok (.lconst 0, 1) := by decide +kernel
theorem dX4_settledFrom_23 : decode cX4_settledFrom 23 = .ok (.lreturn, 1) := by decide +kernel
theorem dX4_atCorner_0 : decode cX4_atCorner 0 = .ok (.iload_n 1, 1) := by decide +kernel
theorem dX4_atCorner_1 : decode cX4_atCorner 1 = .ok (.ifCond .lt 21, 3) := by decide +kernel
theorem dX4_atCorner_4 : decode cX4_atCorner 4 = .ok (.iload_n 1, 1) := by decide +kernel
theorem dX4_atCorner_5 : decode cX4_atCorner 5 = .ok (.aload_n 0, 1) := by decide +kernel
theorem dX4_atCorner_6 : decode cX4_atCorner 6 = .ok (.getfield 53, 3) := by decide +kernel
theorem dX4_atCorner_9 : decode cX4_atCorner 9 = .ok (.arraylength, 1) := by decide +kernel
theorem dX4_atCorner_10 : decode cX4_atCorner 10 = .ok (.if_icmp .ge 12, 3) := by decide +kernel
theorem dX4_atCorner_13 : decode cX4_atCorner 13 = .ok (.aload_n 0, 1) := by decide +kernel
theorem dX4_atCorner_14 : decode cX4_atCorner 14 = .ok (.getfield 53, 3) := by decide +kernel
theorem dX4_atCorner_17 : decode cX4_atCorner 17 = .ok (.iload_n 1, 1) := by decide +kernel
theorem dX4_atCorner_18 : decode cX4_atCorner 18 = .ok (.laload, 1) := by decide +kernel
theorem dX4_atCorner_19 : decode cX4_atCorner 19 = .ok (.goto 4, 3) := by decide +kernel
theorem dX4_atCorner_22 : decode cX4_atCorner 22 = .ok (.lconst 0, 1) := by decide +kernel
theorem dX4_atCorner_23 : decode cX4_atCorner 23 = .ok (.lreturn, 1) := by decide +kernel
theorem dX4_allSides_0 : decode cX4_allSides 0 = .ok (.aload_n 0, 1) := by decide +kernel
theorem dX4_allSides_1 : decode cX4_allSides 1 = .ok (.getfield 24, 3) := by decide +kernel
theorem dX4_allSides_4 : decode cX4_allSides 4 = .ok (.invokestatic 98, 3) := by decide +kernel
theorem dX4_allSides_7 : decode cX4_allSides 7 = .ok (.lconst 1, 1) := by decide +kernel
theorem dX4_allSides_8 : decode cX4_allSides 8 = .ok (.lsub, 1) := by decide +kernel
theorem dX4_allSides_9 : decode cX4_allSides 9 = .ok (.lreturn, 1) := by decide +kernel
theorem dX4_chainOf_0 : decode cX4_chainOf 0 = .ok (.iload_n 3, 1) := by decide +kernel
theorem dX4_chainOf_1 : decode cX4_chainOf 1 = .ok (.invokestatic 98, 3) := by decide +kernel
theorem dX4_chainOf_4 : decode cX4_chainOf 4 = .ok (.lstore 4, 2) := by decide +kernel
theorem dX4_chainOf_6 : decode cX4_chainOf 6 = .ok (.lload 4, 2) := by decide +kernel
theorem dX4_chainOf_8 : decode cX4_chainOf 8 = .ok (.lstore 6, 2) := by decide +kernel
theorem dX4_chainOf_10 : decode cX4_chainOf 10 = .ok (.iconst 0, 1) := by decide +kernel
theorem dX4_chainOf_11 : decode cX4_chainOf 11 = .ok (.istore 8, 2) := by decide +kernel
theorem dX4_chainOf_13 : decode cX4_chainOf 13 = .ok (.iload 8, 2) := by decide +kernel
theorem dX4_chainOf_15 : decode cX4_chainOf 15 = .ok (.bipush 40, 2) := by decide +kernel
theorem dX4_chainOf_17 : decode cX4_chainOf 17 = .ok (.if_icmp .ge 74, 3) := by decide +kernel
theorem dX4_chainOf_20 : decode cX4_chainOf 20 = .ok (.lload 6, 2) := by decide +kernel
theorem dX4_chainOf_22 : decode cX4_chainOf 22 = .ok (.lconst 0, 1) := by decide +kernel
theorem dX4_chainOf_23 : decode cX4_chainOf 23 = .ok (.lcmp, 1) := by decide +kernel
theorem dX4_chainOf_24 : decode cX4_chainOf 24 = .ok (.ifCond .eq 67, 3) := by decide +kernel
theorem dX4_chainOf_27 : decode cX4_chainOf 27 = .ok (.lload 6, 2) := by decide +kernel
theorem dX4_chainOf_29 : decode cX4_chainOf 29 = .ok (.invokestatic 136, 3) := by decide +kernel
theorem dX4_chainOf_32 : decode cX4_chainOf 32 = .ok (.istore 9, 2) := by decide +kernel
theorem dX4_chainOf_34 : decode cX4_chainOf 34 = .ok (.iload 9, 2) := by decide +kernel
theorem dX4_chainOf_36 : decode cX4_chainOf 36 = .ok (.aload_n 0, 1) := by decide +kernel
theorem dX4_chainOf_37 : decode cX4_chainOf 37 = .ok (.getfield 47, 3) := by decide +kernel
theorem dX4_chainOf_40 : decode cX4_chainOf 40 = .ok (.arraylength, 1) := by decide +kernel
theorem dX4_chainOf_41 : decode cX4_chainOf 41 = .ok (.if_icmp .ge 22, 3) := by decide +kernel
theorem dX4_chainOf_44 : decode cX4_chainOf 44 = .ok (.aload_n 0, 1) := by decide +kernel
theorem dX4_chainOf_45 : decode cX4_chainOf 45 = .ok (.getfield 47, 3) := by decide +kernel
theorem dX4_chainOf_48 : decode cX4_chainOf 48 = .ok (.iload 9, 2) := by decide +kernel
theorem dX4_chainOf_50 : decode cX4_chainOf 50 = .ok (.laload, 1) := by decide +kernel
theorem dX4_chainOf_51 : decode cX4_chainOf 51 = .ok (.lload_n 1, 1) := by decide +kernel
theorem dX4_chainOf_52 : decode cX4_chainOf 52 = .ok (.land, 1) := by decide +kernel
theorem dX4_chainOf_53 : decode cX4_chainOf 53 = .ok (.lload 4, 2) := by decide +kernel
theorem dX4_chainOf_55 : decode cX4_chainOf 55 = .ok (.ldc2_w 142, 3) := by decide +kernel
theorem dX4_chainOf_58 : decode cX4_chainOf 58 = .ok (.lxor, 1) := by decide +kernel
theorem dX4_chainOf_59 : decode cX4_chainOf 59 = .ok (.land, 1) := by decide +kernel
theorem dX4_chainOf_60 : decode cX4_chainOf 60 = .ok (.goto 4, 3) := by decide +kernel
theorem dX4_chainOf_63 : decode cX4_chainOf 63 = .ok (.lconst 0, 1) := by decide +kernel
theorem dX4_chainOf_64 : decode cX4_chainOf 64 = .ok (.lstore 10, 2) := by decide +kernel
theorem dX4_chainOf_66 : decode cX4_chainOf 66 = .ok (.lload 4, 2) := by decide +kernel
theorem dX4_chainOf_68 : decode cX4_chainOf 68 = .ok (.lload 10, 2) := by decide +kernel
theorem dX4_chainOf_70 : decode cX4_chainOf 70 = .ok (.lor, 1) := by decide +kernel
theorem dX4_chainOf_71 : decode cX4_chainOf 71 = .ok (.lstore 4, 2) := by decide +kernel
theorem dX4_chainOf_73 : decode cX4_chainOf 73 = .ok (.lload 6, 2) := by decide +kernel
theorem dX4_chainOf_75 : decode cX4_chainOf 75 = .ok (.lload 6, 2) := by decide +kernel
theorem dX4_chainOf_77 : decode cX4_chainOf 77 = .ok (.lconst 1, 1) := by decide +kernel
theorem dX4_chainOf_78 : decode cX4_chainOf 78 = .ok (.lsub, 1) := by decide +kernel
theorem dX4_chainOf_79 : decode cX4_chainOf 79 = .ok (.land, 1) := by decide +kernel
theorem dX4_chainOf_80 : decode cX4_chainOf 80 = .ok (.lload 10, 2) := by decide +kernel
theorem dX4_chainOf_82 : decode cX4_chainOf 82 = .ok (.lor, 1) := by decide +kernel
theorem dX4_chainOf_83 : decode cX4_chainOf 83 = .ok (.lstore 6, 2) := by decide +kernel
theorem dX4_chainOf_85 : decode cX4_chainOf 85 = .ok (.iinc 8 1, 3) := by decide +kernel
theorem dX4_chainOf_88 : decode cX4_chainOf 88 = .ok (.goto (-75), 3) := by decide +kernel
theorem dX4_chainOf_91 : decode cX4_chainOf 91 = .ok (.lload 4, 2) := by decide +kernel
theorem dX4_chainOf_93 : decode cX4_chainOf 93 = .ok (.lreturn, 1) := by decide +kernel
theorem dX4_cellsWithin_0 : decode cX4_cellsWithin 0 = .ok (.iconst 0, 1) := by decide +kernel
theorem dX4_cellsWithin_1 : decode cX4_cellsWithin 1 = .ok (.istore_n 3, 1) := by decide +kernel
theorem dX4_cellsWithin_2 : decode cX4_cellsWithin 2 = .ok (.iconst 0, 1) := by decide +kernel
theorem dX4_cellsWithin_3 : decode cX4_cellsWithin 3 = .ok (.istore 4, 2) := by decide +kernel
theorem dX4_cellsWithin_5 : decode cX4_cellsWithin 5 = .ok (.iload 4, 2) := by decide +kernel
theorem dX4_cellsWithin_7 : decode cX4_cellsWithin 7 = .ok (.aload_n 0, 1) := by decide +kernel
theorem dX4_cellsWithin_8 : decode cX4_cellsWithin 8 = .ok (.getfield 15, 3) := by decide +kernel
theorem dX4_cellsWithin_11 : decode cX4_cellsWithin 11 = .ok (.if_icmp .ge 80, 3) := by decide +kernel
theorem dX4_cellsWithin_14 : decode cX4_cellsWithin 14 = .ok (.iconst 0, 1) := by decide +kernel
theorem dX4_cellsWithin_15 : decode cX4_cellsWithin 15 = .ok (.istore 5, 2) := by decide +kernel
theorem dX4_cellsWithin_17 : decode cX4_cellsWithin 17 = .ok (.iconst 0, 1) := by decide +kernel
theorem dX4_cellsWithin_18 : decode cX4_cellsWithin 18 = .ok (.istore 6, 2) := by decide +kernel
theorem dX4_cellsWithin_20 : decode cX4_cellsWithin 20 = .ok (.iload 6, 2) := by decide +kernel
theorem dX4_cellsWithin_22 : decode cX4_cellsWithin 22 = .ok (.aload_n 0, 1) := by decide +kernel
theorem dX4_cellsWithin_23 : decode cX4_cellsWithin 23 = .ok (.getfield 9, 3) := by decide +kernel
theorem dX4_cellsWithin_26 : decode cX4_cellsWithin 26 = .ok (.if_icmp .ge 59, 3) := by decide +kernel
theorem dX4_cellsWithin_29 : decode cX4_cellsWithin 29 = .ok (.lload_n 1, 1) := by decide +kernel
theorem dX4_cellsWithin_30 : decode cX4_cellsWithin 30 = .ok (.aload_n 0, 1) := by decide +kernel
theorem dX4_cellsWithin_31 : decode cX4_cellsWithin 31 = .ok (.iload 6, 2) := by decide +kernel
theorem dX4_cellsWithin_33 : decode cX4_cellsWithin 33 = .ok (.iload 4, 2) := by decide +kernel
theorem dX4_cellsWithin_35 : decode cX4_cellsWithin 35 = .ok (.invokevirtual 88, 3) := by decide +kernel
theorem dX4_cellsWithin_38 : decode cX4_cellsWithin 38 = .ok (.invokestatic 98, 3) := by decide +kernel
theorem dX4_cellsWithin_41 : decode cX4_cellsWithin 41 = .ok (.land, 1) := by decide +kernel
theorem dX4_cellsWithin_42 : decode cX4_cellsWithin 42 = .ok (.lconst 0, 1) := by decide +kernel
theorem dX4_cellsWithin_43 : decode cX4_cellsWithin 43 = .ok (.lcmp, 1) := by decide +kernel
theorem dX4_cellsWithin_44 : decode cX4_cellsWithin 44 = .ok (.ifCond .eq 15, 3) := by decide +kernel
theorem dX4_cellsWithin_47 : decode cX4_cellsWithin 47 = .ok (.iload 5, 2) := by decide +kernel
theorem dX4_cellsWithin_49 : decode cX4_cellsWithin 49 = .ok (.ifCond .ne 7, 3) := by decide +kernel
theorem dX4_cellsWithin_52 : decode cX4_cellsWithin 52 = .ok (.iconst 1, 1) := by decide +kernel
theorem dX4_cellsWithin_53 : decode cX4_cellsWithin 53 = .ok (.goto 4, 3) := by decide +kernel
theorem dX4_cellsWithin_56 : decode cX4_cellsWithin 56 = .ok (.iconst 0, 1) := by decide +kernel
theorem dX4_cellsWithin_57 : decode cX4_cellsWithin 57 = .ok (.istore 5, 2) := by decide +kernel
theorem dX4_cellsWithin_59 : decode cX4_cellsWithin 59 = .ok (.iload 5, 2) := by decide +kernel
theorem dX4_cellsWithin_61 : decode cX4_cellsWithin 61 = .ok (.ifCond .eq 18, 3) := by decide +kernel
theorem dX4_cellsWithin_64 : decode cX4_cellsWithin 64 = .ok (.iload_n 3, 1) := by decide +kernel
theorem dX4_cellsWithin_65 : decode cX4_cellsWithin 65 = .ok (.iconst 1, 1) := by decide +kernel
theorem dX4_cellsWithin_66 : decode cX4_cellsWithin 66 = .ok (.iload 4, 2) := by decide +kernel
theorem dX4_cellsWithin_68 : decode cX4_cellsWithin 68 = .ok (.aload_n 0, 1) := by decide +kernel
theorem dX4_cellsWithin_69 : decode cX4_cellsWithin 69 = .ok (.getfield 9, 3) := by decide +kernel
theorem dX4_cellsWithin_72 : decode cX4_cellsWithin 72 = .ok (.imul, 1) := by decide +kernel
theorem dX4_cellsWithin_73 : decode cX4_cellsWithin 73 = .ok (.iload 6, 2) := by decide +kernel
theorem dX4_cellsWithin_75 : decode cX4_cellsWithin 75 = .ok (.iadd, 1) := by decide +kernel
theorem dX4_cellsWithin_76 : decode cX4_cellsWithin 76 = .ok (.ishl, 1) := by decide +kernel
theorem dX4_cellsWithin_77 : decode cX4_cellsWithin 77 = .ok (.ior, 1) := by decide +kernel
theorem dX4_cellsWithin_78 : decode cX4_cellsWithin 78 = .ok (.istore_n 3, 1) := by decide +kernel
theorem dX4_cellsWithin_79 : decode cX4_cellsWithin 79 = .ok (.iinc 6 1, 3) := by decide +kernel
theorem dX4_cellsWithin_82 : decode cX4_cellsWithin 82 = .ok (.goto (-62), 3) := by decide +kernel
theorem dX4_cellsWithin_85 : decode cX4_cellsWithin 85 = .ok (.iinc 4 1, 3) := by decide +kernel
theorem dX4_cellsWithin_88 : decode cX4_cellsWithin 88 = .ok (.goto (-83), 3) := by decide +kernel
theorem dX4_cellsWithin_91 : decode cX4_cellsWithin 91 = .ok (.iload_n 3, 1) := by decide +kernel
theorem dX4_cellsWithin_92 : decode cX4_cellsWithin 92 = .ok (.ireturn, 1) := by decide +kernel
theorem dX5_init_0 : decode cX5_init 0 = .ok (.aload_n 0, 1) := by decide +kernel
theorem dX5_init_1 : decode cX5_init 1 = .ok (.invokespecial 1, 3) := by decide +kernel
theorem dX5_init_4 : decode cX5_init 4 = .ok (.iload_n 1, 1) := by decide +kernel
theorem dX5_init_5 : decode cX5_init 5 = .ok (.iconst 0, 1) := by decide +kernel
theorem dX5_init_6 : decode cX5_init 6 = .ok (.invokestatic 7, 3) := by decide +kernel
theorem dX5_init_9 : decode cX5_init 9 = .ok (.istore_n 2, 1) := by decide +kernel
theorem dX5_init_10 : decode cX5_init 10 = .ok (.aload_n 0, 1) := by decide +kernel
theorem dX5_init_11 : decode cX5_init 11 = .ok (.iload_n 2, 1) := by decide +kernel
theorem dX5_init_12 : decode cX5_init 12 = .ok (.newarray .long, 2) := by decide +kernel
theorem dX5_init_14 : decode cX5_init 14 = .ok (.putfield 13, 3) := by decide +kernel
theorem dX5_init_17 : decode cX5_init 17 = .ok (.aload_n 0, 1) := by decide +kernel
theorem dX5_init_18 : decode cX5_init 18 = .ok (.iload_n 2, 1) := by decide +kernel
theorem dX5_init_19 : decode cX5_init 19 = .ok (.newarray .long, 2) := by decide +kernel
theorem dX5_init_21 : decode cX5_init 21 = .ok (.putfield 19, 3) := by decide +kernel
theorem dX5_init_24 : decode cX5_init 24 = .ok (.aload_n 0, 1) := by decide +kernel
theorem dX5_init_25 : decode cX5_init 25 = .ok (.iload_n 2, 1) := by decide +kernel
theorem dX5_init_26 : decode cX5_init 26 = .ok (.newarray .long, 2) := by decide +kernel
theorem dX5_init_28 : decode cX5_init 28 = .ok (.putfield 22, 3) := by decide +kernel
theorem dX5_init_31 : decode cX5_init 31 = .ok (.aload_n 0, 1) := by decide +kernel
theorem dX5_init_32 : decode cX5_init 32 = .ok (.iload_n 2, 1) := by decide +kernel
theorem dX5_init_33 : decode cX5_init 33 = .ok (.newarray .int, 2) := by decide +kernel
theorem dX5_init_35 : decode cX5_init 35 = .ok (.putfield 25, 3) := by decide +kernel
theorem dX5_init_38 : decode cX5_init 38 = .ok (.return_, 1) := by decide +kernel
theorem dX5_has_0 : decode cX5_has 0 = .ok (.aload_n 0, 1) := by decide +kernel
theorem dX5_has_1 : decode cX5_has 1 = .ok (.getfield 25, 3) := by decide +kernel
theorem dX5_has_4 : decode cX5_has 4 = .ok (.iload_n 1, 1) := by decide +kernel
theorem dX5_has_5 : decode cX5_has 5 = .ok (.invokestatic 29, 3) := by decide +kernel
theorem dX5_has_8 : decode cX5_has 8 = .ok (.iconst 1, 1) := by decide +kernel
theorem dX5_has_9 : decode cX5_has 9 = .ok (.if_icmp .ne 7, 3) := by decide +kernel
theorem dX5_has_12 : decode cX5_has 12 = .ok (.iconst 1, 1) := by decide +kernel
theorem dX5_has_13 : decode cX5_has 13 = .ok (.goto 4, 3) := by decide +kernel
theorem dX5_has_16 : decode cX5_has 16 = .ok (.iconst 0, 1) := by decide +kernel
theorem dX5_has_17 : decode cX5_has 17 = .ok (.ireturn, 1) := by decide +kernel
theorem dX5_store_0 : decode cX5_store 0 = .ok (.aload_n 0, 1) := by decide +kernel
theorem dX5_store_1 : decode cX5_store 1 = .ok (.getfield 13, 3) := by decide +kernel
theorem dX5_store_4 : decode cX5_store 4 = .ok (.iload_n 1, 1) := by decide +kernel
theorem dX5_store_5 : decode cX5_store 5 = .ok (.aload_n 2, 1) := by decide +kernel
theorem dX5_store_6 : decode cX5_store 6 = .ok (.getfield 35, 3) := by decide +kernel
theorem dX5_store_9 : decode cX5_store 9 = .ok (.invokestatic 40, 3) := by decide +kernel
theorem dX5_store_12 : decode cX5_store 12 = .ok (.aload_n 0, 1) := by decide +kernel
theorem dX5_store_13 : decode cX5_store 13 = .ok (.getfield 19, 3) := by decide +kernel
theorem dX5_store_16 : decode cX5_store 16 = .ok (.iload_n 1, 1) := by decide +kernel
theorem dX5_store_17 : decode cX5_store 17 = .ok (.aload_n 2, 1) := by decide +kernel
theorem dX5_store_18 : decode cX5_store 18 = .ok (.getfield 44, 3) := by decide +kernel
theorem dX5_store_21 : decode cX5_store 21 = .ok (.invokestatic 40, 3) := by decide +kernel
theorem dX5_store_24 : decode cX5_store 24 = .ok (.aload_n 0, 1) := by decide +kernel
theorem dX5_store_25 : decode cX5_store 25 = .ok (.getfield 22, 3) := by decide +kernel
theorem dX5_store_28 : decode cX5_store 28 = .ok (.iload_n 1, 1) := by decide +kernel
theorem dX5_store_29 : decode cX5_store 29 = .ok (.aload_n 2, 1) := by decide +kernel
theorem dX5_store_30 : decode cX5_store 30 = .ok (.getfield 46, 3) := by decide +kernel
theorem dX5_store_33 : decode cX5_store 33 = .ok (.invokestatic 40, 3) := by decide +kernel
theorem dX5_store_36 : decode cX5_store 36 = .ok (.aload_n 0, 1) := by decide +kernel
theorem dX5_store_37 : decode cX5_store 37 = .ok (.getfield 25, 3) := by decide +kernel
theorem dX5_store_40 : decode cX5_store 40 = .ok (.iload_n 1, 1) := by decide +kernel
theorem dX5_store_41 : decode cX5_store 41 = .ok (.iconst 1, 1) := by decide +kernel
theorem dX5_store_42 : decode cX5_store 42 = .ok (.invokestatic 48, 3) := by decide +kernel
theorem dX5_store_45 : decode cX5_store 45 = .ok (.return_, 1) := by decide +kernel
theorem dX5_give_0 : decode cX5_give 0 = .ok (.aload_n 2, 1) := by decide +kernel
theorem dX5_give_1 : decode cX5_give 1 = .ok (.aload_n 0, 1) := by decide +kernel
theorem dX5_give_2 : decode cX5_give 2 = .ok (.getfield 13, 3) := by decide +kernel
theorem dX5_give_5 : decode cX5_give 5 = .ok (.iload_n 1, 1) := by decide +kernel
theorem dX5_give_6 : decode cX5_give 6 = .ok (.invokestatic 51, 3) := by decide +kernel
theorem dX5_give_9 : decode cX5_give 9 = .ok (.aload_n 0, 1) := by decide +kernel
theorem dX5_give_10 : decode cX5_give 10 = .ok (.getfield 19, 3) := by decide +kernel
theorem dX5_give_13 : decode cX5_give 13 = .ok (.iload_n 1, 1) := by decide +kernel
theorem dX5_give_14 : decode cX5_give 14 = .ok (.invokestatic 51, 3) := by decide +kernel
theorem dX5_give_17 : decode cX5_give 17 = .ok (.aload_n 0, 1) := by decide +kernel
theorem dX5_give_18 : decode cX5_give 18 = .ok (.getfield 22, 3) := by decide +kernel
theorem dX5_give_21 : decode cX5_give 21 = .ok (.iload_n 1, 1) := by decide +kernel
theorem dX5_give_22 : decode cX5_give 22 = .ok (.invokestatic 51, 3) := by decide +kernel
theorem dX5_give_25 : decode cX5_give 25 = .ok (.invokevirtual 54, 3) := by decide +kernel
theorem dX5_give_28 : decode cX5_give 28 = .ok (.return_, 1) := by decide +kernel
theorem dX5_forget_0 : decode cX5_forget 0 = .ok (.aload_n 0, 1) := by decide +kernel
theorem dX5_forget_1 : decode cX5_forget 1 = .ok (.getfield 25, 3) := by decide +kernel
theorem dX5_forget_4 : decode cX5_forget 4 = .ok (.iconst 0, 1) := by decide +kernel
theorem dX5_forget_5 : decode cX5_forget 5 = .ok (.invokestatic 58, 3) := by decide +kernel
theorem dX5_forget_8 : decode cX5_forget 8 = .ok (.return_, 1) := by decide +kernel
theorem dX6_init_0 : decode cX6_init 0 = .ok (.aload_n 0, 1) := by decide +kernel
theorem dX6_init_1 : decode cX6_init 1 = .ok (.invokespecial 3, 3) := by decide +kernel
theorem dX6_init_4 : decode cX6_init 4 = .ok (.aload_n 0, 1) := by decide +kernel
theorem dX6_init_5 : decode cX6_init 5 = .ok (.bipush 40, 2) := by decide +kernel
theorem dX6_init_7 : decode cX6_init 7 = .ok (.newarray .int, 2) := by decide +kernel
theorem dX6_init_9 : decode cX6_init 9 = .ok (.putfield 11, 3) := by decide +kernel
theorem dX6_init_12 : decode cX6_init 12 = .ok (.aload_n 0, 1) := by decide +kernel
theorem dX6_init_13 : decode cX6_init 13 = .ok (.iconst 0, 1) := by decide +kernel
theorem dX6_init_14 : decode cX6_init 14 = .ok (.putfield 15, 3) := by decide +kernel
theorem dX6_init_17 : decode cX6_init 17 = .ok (.aload_n 0, 1) := by decide +kernel
theorem dX6_init_18 : decode cX6_init 18 = .ok (.iconst 0, 1) := by decide +kernel
theorem dX6_init_19 : decode cX6_init 19 = .ok (.putfield 19, 3) := by decide +kernel
theorem dX6_init_22 : decode cX6_init 22 = .ok (.aload_n 0, 1) := by decide +kernel
theorem dX6_init_23 : decode cX6_init 23 = .ok (.iconst 0, 1) := by decide +kernel
theorem dX6_init_24 : decode cX6_init 24 = .ok (.putfield 22, 3) := by decide +kernel
theorem dX6_init_27 : decode cX6_init 27 = .ok (.aload_n 0, 1) := by decide +kernel
theorem dX6_init_28 : decode cX6_init 28 = .ok (.lconst 0, 1) := by decide +kernel
theorem dX6_init_29 : decode cX6_init 29 = .ok (.putfield 25, 3) := by decide +kernel
theorem dX6_init_32 : decode cX6_init 32 = .ok (.return_, 1) := by decide +kernel
theorem dX6_takes_0 : decode cX6_takes 0 = .ok (.aload_n 0, 1) := by decide +kernel
theorem dX6_takes_1 : decode cX6_takes 1 = .ok (.getfield 15, 3) := by decide +kernel
theorem dX6_takes_4 : decode cX6_takes 4 = .ok (.ifCond .lt 15, 3) := by decide +kernel
theorem dX6_takes_7 : decode cX6_takes 7 = .ok (.aload_n 0, 1) := by decide +kernel
theorem dX6_takes_8 : decode cX6_takes 8 = .ok (.getfield 15, 3) := by decide +kernel
theorem dX6_takes_11 : decode cX6_takes 11 = .ok (.aload_n 0, 1) := by decide +kernel
theorem dX6_takes_12 : decode cX6_takes 12 = .ok (.getfield 11, 3) := by decide +kernel
theorem dX6_takes_15 : decode cX6_takes 15 = .ok (.arraylength, 1) := by decide +kernel
theorem dX6_takes_16 : decode cX6_takes 16 = .ok (.if_icmp .lt 5, 3) := by decide +kernel
theorem dX6_takes_19 : decode cX6_takes 19 = .ok (.iconst 0, 1) := by decide +kernel
theorem dX6_takes_20 : decode cX6_takes 20 = .ok (.ireturn, 1) := by decide +kernel
theorem dX6_takes_21 : decode cX6_takes 21 = .ok (.aload_n 0, 1) := by decide +kernel
theorem dX6_takes_22 : decode cX6_takes 22 = .ok (.getfield 11, 3) := by decide +kernel
theorem dX6_takes_25 : decode cX6_takes 25 = .ok (.aload_n 0, 1) := by decide +kernel
theorem dX6_takes_26 : decode cX6_takes 26 = .ok (.getfield 15, 3) := by decide +kernel
theorem dX6_takes_29 : decode cX6_takes 29 = .ok (.iload_n 1, 1) := by decide +kernel
theorem dX6_takes_30 : decode cX6_takes 30 = .ok (.iastore, 1) := by decide +kernel
theorem dX6_takes_31 : decode cX6_takes 31 = .ok (.aload_n 0, 1) := by decide +kernel
theorem dX6_takes_32 : decode cX6_takes 32 = .ok (.dup, 1) := by decide +kernel
theorem dX6_takes_33 : decode cX6_takes 33 = .ok (.getfield 15, 3) := by decide +kernel
theorem dX6_takes_36 : decode cX6_takes 36 = .ok (.iconst 1, 1) := by decide +kernel
theorem dX6_takes_37 : decode cX6_takes 37 = .ok (.iadd, 1) := by decide +kernel
theorem dX6_takes_38 : decode cX6_takes 38 = .ok (.putfield 15, 3) := by decide +kernel
theorem dX6_takes_41 : decode cX6_takes 41 = .ok (.iconst 1, 1) := by decide +kernel
theorem dX6_takes_42 : decode cX6_takes 42 = .ok (.ireturn, 1) := by decide +kernel
theorem dX6_read_0 : decode cX6_read 0 = .ok (.aload_n 0, 1) := by decide +kernel
theorem dX6_read_1 : decode cX6_read 1 = .ok (.iconst 0, 1) := by decide +kernel
theorem dX6_read_2 : decode cX6_read 2 = .ok (.putfield 19, 3) := by decide +kernel
theorem dX6_read_5 : decode cX6_read 5 = .ok (.aload_n 0, 1) := by decide +kernel
theorem dX6_read_6 : decode cX6_read 6 = .ok (.iconst 0, 1) := by decide +kernel
theorem dX6_read_7 : decode cX6_read 7 = .ok (.putfield 22, 3) := by decide +kernel
theorem dX6_read_10 : decode cX6_read 10 = .ok (.aload_n 0, 1) := by decide +kernel
theorem dX6_read_11 : decode cX6_read 11 = .ok (.lconst 0, 1) := by decide +kernel
theorem dX6_read_12 : decode cX6_read 12 = .ok (.putfield 25, 3) := by decide +kernel
theorem dX6_read_15 : decode cX6_read 15 = .ok (.iconst 0, 1) := by decide +kernel
theorem dX6_read_16 : decode cX6_read 16 = .ok (.istore_n 1, 1) := by decide +kernel
theorem dX6_read_17 : decode cX6_read 17 = .ok (.iconst 0, 1) := by decide +kernel
theorem dX6_read_18 : decode cX6_read 18 = .ok (.istore_n 2, 1) := by decide +kernel
theorem dX6_read_19 : decode cX6_read 19 = .ok (.iconst 0, 1) := by decide +kernel
theorem dX6_read_20 : decode cX6_read 20 = .ok (.istore_n 3, 1) := by decide +kernel
theorem dX6_read_21 : decode cX6_read 21 = .ok (.iload_n 3, 1) := by decide +kernel
theorem dX6_read_22 : decode cX6_read 22 = .ok (.aload_n 0, 1) := by decide +kernel
theorem dX6_read_23 : decode cX6_read 23 = .ok (.getfield 15, 3) := by decide +kernel
theorem dX6_read_26 : decode cX6_read 26 = .ok (.if_icmp .ge 111, 3) := by decide +kernel
theorem dX6_read_29 : decode cX6_read 29 = .ok (.aload_n 0, 1) := by decide +kernel
theorem dX6_read_30 : decode cX6_read 30 = .ok (.getfield 11, 3) := by decide +kernel
theorem dX6_read_33 : decode cX6_read 33 = .ok (.iload_n 3, 1) := by decide +kernel
theorem dX6_read_34 : decode cX6_read 34 = .ok (.invokestatic 29, 3) := by decide +kernel
theorem dX6_read_37 : decode cX6_read 37 = .ok (.istore 4, 2) := by decide +kernel
theorem dX6_read_39 : decode cX6_read 39 = .ok (.iload 4, 2) := by decide +kernel
theorem dX6_read_41 : decode cX6_read 41 = .ok (.bipush 32, 2) := by decide +kernel
theorem dX6_read_43 : decode cX6_read 43 = .ok (.if_icmp .ne 6, 3) := by decide +kernel
theorem dX6_read_46 : decode cX6_read 46 = .ok (.goto 85, 3) := by decide +kernel
theorem dX6_read_49 : decode cX6_read 49 = .ok (.iload 4, 2) := by decide +kernel
theorem dX6_read_51 : decode cX6_read 51 = .ok (.invokestatic 33, 3) := by decide +kernel
theorem dX6_read_54 : decode cX6_read 54 = .ok (.istore 5, 2) := by decide +kernel
theorem dX6_read_56 : decode cX6_read 56 = .ok (.iload 4, 2) := by decide +kernel
theorem dX6_read_58 : decode cX6_read 58 = .ok (.bipush 59, 2) := by decide +kernel
theorem dX6_read_60 : decode cX6_read 60 = .ok (.if_icmp .ne 31, 3) := by decide +kernel
theorem dX6_read_63 : decode cX6_read 63 = .ok (.aload_n 0, 1) := by decide +kernel
theorem dX6_read_64 : decode cX6_read 64 = .ok (.iload_n 2, 1) := by decide +kernel
theorem dX6_read_65 : decode cX6_read 65 = .ok (.invokevirtual 37, 3) := by decide +kernel
theorem dX6_read_68 : decode cX6_read 68 = .ok (.ifCond .eq 23, 3) := by decide +kernel
theorem dX6_read_71 : decode cX6_read 71 = .ok (.aload_n 0, 1) := by decide +kernel
theorem dX6_read_72 : decode cX6_read 72 = .ok (.iload_n 2, 1) := by decide +kernel
theorem dX6_read_73 : decode cX6_read 73 = .ok (.putfield 22, 3) := by decide +kernel
theorem dX6_read_76 : decode cX6_read 76 = .ok (.aload_n 0, 1) := by decide +kernel
theorem dX6_read_77 : decode cX6_read 77 = .ok (.dup, 1) := by decide +kernel
theorem dX6_read_78 : decode cX6_read 78 = .ok (.getfield 19, 3) := by decide +kernel
theorem dX6_read_81 : decode cX6_read 81 = .ok (.iconst 1, 1) := by decide +kernel
theorem dX6_read_82 : decode cX6_read 82 = .ok (.iadd, 1) := by decide +kernel
theorem dX6_read_83 : decode cX6_read 83 = .ok (.putfield 19, 3) := by decide +kernel
theorem dX6_read_86 : decode cX6_read 86 = .ok (.iconst 0, 1) := by decide +kernel
theorem dX6_read_87 : decode cX6_read 87 = .ok (.istore_n 2, 1) := by decide +kernel
theorem dX6_read_88 : decode cX6_read 88 = .ok (.goto 43, 3) := by decide +kernel
theorem dX6_read_91 : decode cX6_read 91 = .ok (.iload 5, 2) := by decide +kernel
theorem dX6_read_93 : decode cX6_read 93 = .ok (.bipush (-2), 2) := by decide +kernel
theorem dX6_read_95 : decode cX6_read 95 = .ok (.if_icmp .eq 34, 3) := by decide +kernel
theorem dX6_read_98 : decode cX6_read 98 = .ok (.aload_n 0, 1) := by decide +kernel
theorem dX6_read_99 : decode cX6_read 99 = .ok (.iload_n 2, 1) := by decide +kernel
theorem dX6_read_100 : decode cX6_read 100 = .ok (.invokevirtual 41, 3) := by decide +kernel
theorem dX6_read_103 : decode cX6_read 103 = .ok (.ifCond .eq 26, 3) := by decide +kernel
theorem dX6_read_106 : decode cX6_read 106 = .ok (.aload_n 0, 1) := by decide +kernel
theorem dX6_read_107 : decode cX6_read 107 = .ok (.aload_n 0, 1) := by decide +kernel
theorem dX6_read_108 : decode cX6_read 108 = .ok (.getfield 25, 3) := by decide +kernel
theorem dX6_read_111 : decode cX6_read 111 = .ok (.iload_n 1, 1) := by decide +kernel
theorem dX6_read_112 : decode cX6_read 112 = .ok (.iload 5, 2) := by decide +kernel
theorem dX6_read_114 : decode cX6_read 114 = .ok (.invokestatic 44, 3) := by decide +kernel
theorem dX6_read_117 : decode cX6_read 117 = .ok (.putfield 25, 3) := by decide +kernel
theorem dX6_read_120 : decode cX6_read 120 = .ok (.iinc 1 1, 3) := by decide +kernel
theorem dX6_read_123 : decode cX6_read 123 = .ok (.iinc 2 1, 3) := by decide +kernel
theorem dX6_read_126 : decode cX6_read 126 = .ok (.goto 5, 3) := by decide +kernel
theorem dX6_read_129 : decode cX6_read 129 = .ok (.iload_n 3, 1) := by decide +kernel
theorem dX6_read_130 : decode cX6_read 130 = .ok (.ireturn, 1) := by decide +kernel
theorem dX6_read_131 : decode cX6_read 131 = .ok (.iinc 3 1, 3) := by decide +kernel
theorem dX6_read_134 : decode cX6_read 134 = .ok (.goto (-113), 3) := by decide +kernel
theorem dX6_read_137 : decode cX6_read 137 = .ok (.aload_n 0, 1) := by decide +kernel
theorem dX6_read_138 : decode cX6_read 138 = .ok (.getfield 19, 3) := by decide +kernel
theorem dX6_read_141 : decode cX6_read 141 = .ok (.ifCond .eq 7, 3) := by decide +kernel
theorem dX6_read_144 : decode cX6_read 144 = .ok (.iload_n 2, 1) := by decide +kernel
theorem dX6_read_145 : decode cX6_read 145 = .ok (.ifCond .le 10, 3) := by decide +kernel
theorem dX6_read_148 : decode cX6_read 148 = .ok (.aload_n 0, 1) := by decide +kernel
theorem dX6_read_149 : decode cX6_read 149 = .ok (.getfield 15, 3) := by decide +kernel
theorem dX6_read_152 : decode cX6_read 152 = .ok (.goto 4, 3) := by decide +kernel
theorem dX6_read_155 : decode cX6_read 155 = .ok (.iconst (-1), 1) := by decide +kernel
theorem dX6_read_156 : decode cX6_read 156 = .ok (.ireturn, 1) := by decide +kernel
theorem dX6_endsRow_0 : decode cX6_endsRow 0 = .ok (.iload_n 1, 1) := by decide +kernel
theorem dX6_endsRow_1 : decode cX6_endsRow 1 = .ok (.ifCond .le 22, 3) := by decide +kernel
theorem dX6_endsRow_4 : decode cX6_endsRow 4 = .ok (.aload_n 0, 1) := by decide +kernel
theorem dX6_endsRow_5 : decode cX6_endsRow 5 = .ok (.getfield 19, 3) := by decide +kernel
theorem dX6_endsRow_8 : decode cX6_endsRow 8 = .ok (.ifCond .eq 11, 3) := by decide +kernel
theorem dX6_endsRow_11 : decode cX6_endsRow 11 = .ok (.iload_n 1, 1) := by decide +kernel
theorem dX6_endsRow_12 : decode cX6_endsRow 12 = .ok (.aload_n 0, 1) := by decide +kernel
theorem dX6_endsRow_13 : decode cX6_endsRow 13 = .ok (.getfield 22, 3) := by decide +kernel
theorem dX6_endsRow_16 : decode cX6_endsRow 16 = .ok (.if_icmp .ne 7, 3) := by decide +kernel
theorem dX6_endsRow_19 : decode cX6_endsRow 19 = .ok (.iconst 1, 1) := by decide +kernel
theorem dX6_endsRow_20 : decode cX6_endsRow 20 = .ok (.goto 4, 3) := by decide +kernel
theorem dX6_endsRow_23 : decode cX6_endsRow 23 = .ok (.iconst 0, 1) := by decide +kernel
theorem dX6_endsRow_24 : decode cX6_endsRow 24 = .ok (.ireturn, 1) := by decide +kernel
theorem dX6_fitsRow_0 : decode cX6_fitsRow 0 = .ok (.aload_n 0, 1) := by decide +kernel
theorem dX6_fitsRow_1 : decode cX6_fitsRow 1 = .ok (.getfield 19, 3) := by decide +kernel
theorem dX6_fitsRow_4 : decode cX6_fitsRow 4 = .ok (.iconst 4, 1) := by decide +kernel
theorem dX6_fitsRow_5 : decode cX6_fitsRow 5 = .ok (.if_icmp .ge 26, 3) := by decide +kernel
theorem dX6_fitsRow_8 : decode cX6_fitsRow 8 = .ok (.iload_n 1, 1) := by decide +kernel
theorem dX6_fitsRow_9 : decode cX6_fitsRow 9 = .ok (.aload_n 0, 1) := by decide +kernel
theorem dX6_fitsRow_10 : decode cX6_fitsRow 10 = .ok (.getfield 19, 3) := by decide +kernel
theorem dX6_fitsRow_13 : decode cX6_fitsRow 13 = .ok (.ifCond .ne 7, 3) := by decide +kernel
theorem dX6_fitsRow_16 : decode cX6_fitsRow 16 = .ok (.iconst 4, 1) := by decide +kernel
theorem dX6_fitsRow_17 : decode cX6_fitsRow 17 = .ok (.goto 7, 3) := by decide +kernel
theorem dX6_fitsRow_20 : decode cX6_fitsRow 20 = .ok (.aload_n 0, 1) := by decide +kernel
theorem dX6_fitsRow_21 : decode cX6_fitsRow 21 = .ok (.getfield 22, 3) := by decide +kernel
theorem dX6_fitsRow_24 : decode cX6_fitsRow 24 = .ok (.if_icmp .ge 7, 3) := by decide +kernel
theorem dX6_fitsRow_27 : decode cX6_fitsRow 27 = .ok (.iconst 1, 1) := by decide +kernel
theorem dX6_fitsRow_28 : decode cX6_fitsRow 28 = .ok (.goto 4, 3) := by decide +kernel
theorem dX6_fitsRow_31 : decode cX6_fitsRow 31 = .ok (.iconst 0, 1) := by decide +kernel
theorem dX6_fitsRow_32 : decode cX6_fitsRow 32 = .ok (.ireturn, 1) := by decide +kernel
theorem dX6_numberOfSign_0 : decode cX6_numberOfSign 0 = .ok (.iload_n 0, 1) := by decide +kernel
theorem dX6_numberOfSign_1 : decode cX6_numberOfSign 1 = .ok (.bipush 46, 2) := by decide +kernel
theorem dX6_numberOfSign_3 : decode cX6_numberOfSign 3 = .ok (.if_icmp .ne 5, 3) := by decide +kernel
theorem dX6_numberOfSign_6 : decode cX6_numberOfSign 6 = .ok (.iconst (-1), 1) := by decide +kernel
theorem dX6_numberOfSign_7 : decode cX6_numberOfSign 7 = .ok (.ireturn, 1) := by decide +kernel
theorem dX6_numberOfSign_8 : decode cX6_numberOfSign 8 = .ok (.iload_n 0, 1) := by decide +kernel
theorem dX6_numberOfSign_9 : decode cX6_numberOfSign 9 = .ok (.bipush 48, 2) := by decide +kernel
theorem dX6_numberOfSign_11 : decode cX6_numberOfSign 11 = .ok (.if_icmp .lt 16, 3) := by decide +kernel
theorem dX6_numberOfSign_14 : decode cX6_numberOfSign 14 = .ok (.iload_n 0, 1) := by decide +kernel
theorem dX6_numberOfSign_15 : decode cX6_numberOfSign 15 = .ok (.bipush 52, 2) := by decide +kernel
theorem dX6_numberOfSign_17 : decode cX6_numberOfSign 17 = .ok (.if_icmp .gt 10, 3) := by decide +kernel
theorem dX6_numberOfSign_20 : decode cX6_numberOfSign 20 = .ok (.iload_n 0, 1) := by decide +kernel
theorem dX6_numberOfSign_21 : decode cX6_numberOfSign 21 = .ok (.bipush 48, 2) := by decide +kernel
theorem dX6_numberOfSign_23 : decode cX6_numberOfSign 23 = .ok (.isub, 1) := by decide +kernel
theorem dX6_numberOfSign_24 : decode cX6_numberOfSign 24 = .ok (.goto 5, 3) := by decide +kernel
theorem dX6_numberOfSign_27 : decode cX6_numberOfSign 27 = .ok (.bipush (-2), 2) := by decide +kernel
theorem dX6_numberOfSign_29 : decode cX6_numberOfSign 29 = .ok (.ireturn, 1) := by decide +kernel
theorem dX7_init_0 : decode cX7_init 0 = .ok (.aload_n 0, 1) := by decide +kernel
theorem dX7_init_1 : decode cX7_init 1 = .ok (.invokespecial 1, 3) := by decide +kernel
theorem dX7_init_4 : decode cX7_init 4 = .ok (.aload_n 0, 1) := by decide +kernel
theorem dX7_init_5 : decode cX7_init 5 = .ok (.new 7, 3) := by decide +kernel
theorem dX7_init_8 : decode cX7_init 8 = .ok (.dup, 1) := by decide +kernel
theorem dX7_init_9 : decode cX7_init 9 = .ok (.invokespecial 9, 3) := by decide +kernel
theorem dX7_init_12 : decode cX7_init 12 = .ok (.putfield 10, 3) := by decide +kernel
theorem dX7_init_15 : decode cX7_init 15 = .ok (.aload_n 0, 1) := by decide +kernel
theorem dX7_init_16 : decode cX7_init 16 = .ok (.new 16, 3) := by decide +kernel
theorem dX7_init_19 : decode cX7_init 19 = .ok (.dup, 1) := by decide +kernel
theorem dX7_init_20 : decode cX7_init 20 = .ok (.invokespecial 18, 3) := by decide +kernel
theorem dX7_init_23 : decode cX7_init 23 = .ok (.putfield 19, 3) := by decide +kernel
theorem dX7_init_26 : decode cX7_init 26 = .ok (.aload_n 0, 1) := by decide +kernel
theorem dX7_init_27 : decode cX7_init 27 = .ok (.new 23, 3) := by decide +kernel
theorem dX7_init_30 : decode cX7_init 30 = .ok (.dup, 1) := by decide +kernel
theorem dX7_init_31 : decode cX7_init 31 = .ok (.invokespecial 25, 3) := by decide +kernel
theorem dX7_init_34 : decode cX7_init 34 = .ok (.putfield 26, 3) := by decide +kernel
theorem dX7_init_37 : decode cX7_init 37 = .ok (.aload_n 0, 1) := by decide +kernel
theorem dX7_init_38 : decode cX7_init 38 = .ok (.new 30, 3) := by decide +kernel
theorem dX7_init_41 : decode cX7_init 41 = .ok (.dup, 1) := by decide +kernel
theorem dX7_init_42 : decode cX7_init 42 = .ok (.invokespecial 32, 3) := by decide +kernel
theorem dX7_init_45 : decode cX7_init 45 = .ok (.putfield 33, 3) := by decide +kernel
theorem dX7_init_48 : decode cX7_init 48 = .ok (.aload_n 0, 1) := by decide +kernel
theorem dX7_init_49 : decode cX7_init 49 = .ok (.new 37, 3) := by decide +kernel
theorem dX7_init_52 : decode cX7_init 52 = .ok (.dup, 1) := by decide +kernel
theorem dX7_init_53 : decode cX7_init 53 = .ok (.iconst 2, 1) := by decide +kernel
theorem dX7_init_54 : decode cX7_init 54 = .ok (.invokespecial 39, 3) := by decide +kernel
theorem dX7_init_57 : decode cX7_init 57 = .ok (.putfield 42, 3) := by decide +kernel
theorem dX7_init_60 : decode cX7_init 60 = .ok (.aload_n 0, 1) := by decide +kernel
theorem dX7_init_61 : decode cX7_init 61 = .ok (.new 46, 3) := by decide +kernel
theorem dX7_init_64 : decode cX7_init 64 = .ok (.dup, 1) := by decide +kernel
theorem dX7_init_65 : decode cX7_init 65 = .ok (.aload_n 0, 1) := by decide +kernel
theorem dX7_init_66 : decode cX7_init 66 = .ok (.getfield 19, 3) := by decide +kernel
theorem dX7_init_69 : decode cX7_init 69 = .ok (.aload_n 0, 1) := by decide +kernel
theorem dX7_init_70 : decode cX7_init 70 = .ok (.getfield 26, 3) := by decide +kernel
theorem dX7_init_73 : decode cX7_init 73 = .ok (.invokespecial 48, 3) := by decide +kernel
theorem dX7_init_76 : decode cX7_init 76 = .ok (.putfield 51, 3) := by decide +kernel
theorem dX7_init_79 : decode cX7_init 79 = .ok (.aload_n 0, 1) := by decide +kernel
theorem dX7_init_80 : decode cX7_init 80 = .ok (.new 55, 3) := by decide +kernel
theorem dX7_init_83 : decode cX7_init 83 = .ok (.dup, 1) := by decide +kernel
theorem dX7_init_84 : decode cX7_init 84 = .ok (.aload_n 0, 1) := by decide +kernel
theorem dX7_init_85 : decode cX7_init 85 = .ok (.getfield 19, 3) := by decide +kernel
theorem dX7_init_88 : decode cX7_init 88 = .ok (.sipush 10000, 3) := by decide +kernel
theorem dX7_init_91 : decode cX7_init 91 = .ok (.invokespecial 57, 3) := by decide +kernel
theorem dX7_init_94 : decode cX7_init 94 = .ok (.putfield 60, 3) := by decide +kernel
theorem dX7_init_97 : decode cX7_init 97 = .ok (.aload_n 0, 1) := by decide +kernel
theorem dX7_init_98 : decode cX7_init 98 = .ok (.new 55, 3) := by decide +kernel
theorem dX7_init_101 : decode cX7_init 101 = .ok (.dup, 1) := by decide +kernel
theorem dX7_init_102 : decode cX7_init 102 = .ok (.aload_n 0, 1) := by decide +kernel
theorem dX7_init_103 : decode cX7_init 103 = .ok (.getfield 19, 3) := by decide +kernel
theorem dX7_init_106 : decode cX7_init 106 = .ok (.iconst 2, 1) := by decide +kernel
theorem dX7_init_107 : decode cX7_init 107 = .ok (.invokespecial 57, 3) := by decide +kernel
theorem dX7_init_110 : decode cX7_init 110 = .ok (.putfield 64, 3) := by decide +kernel
theorem dX7_init_113 : decode cX7_init 113 = .ok (.aload_n 0, 1) := by decide +kernel
theorem dX7_init_114 : decode cX7_init 114 = .ok (.iconst 0, 1) := by decide +kernel
theorem dX7_init_115 : decode cX7_init 115 = .ok (.putfield 67, 3) := by decide +kernel
theorem dX7_init_118 : decode cX7_init 118 = .ok (.aload_n 0, 1) := by decide +kernel
theorem dX7_init_119 : decode cX7_init 119 = .ok (.getfield 19, 3) := by decide +kernel
theorem dX7_init_122 : decode cX7_init 122 = .ok (.iconst 2, 1) := by decide +kernel
theorem dX7_init_123 : decode cX7_init 123 = .ok (.iconst 2, 1) := by decide +kernel
theorem dX7_init_124 : decode cX7_init 124 = .ok (.invokevirtual 71, 3) := by decide +kernel
theorem dX7_init_127 : decode cX7_init 127 = .ok (.return_, 1) := by decide +kernel
theorem dX7_type_0 : decode cX7_type 0 = .ok (.iload_n 1, 1) := by decide +kernel
theorem dX7_type_1 : decode cX7_type 1 = .ok (.ifCond .lt 10, 3) := by decide +kernel
theorem dX7_type_4 : decode cX7_type 4 = .ok (.iload_n 1, 1) := by decide +kernel
theorem dX7_type_5 : decode cX7_type 5 = .ok (.sipush 255, 3) := by decide +kernel
theorem dX7_type_8 : decode cX7_type 8 = .ok (.if_icmp .le 5, 3) := by decide +kernel
theorem dX7_type_11 : decode cX7_type 11 = .ok (.iconst (-1), 1) := by decide +kernel
theorem dX7_type_12 : decode cX7_type 12 = .ok (.ireturn, 1) := by decide +kernel
theorem dX7_type_13 : decode cX7_type 13 = .ok (.aload_n 0, 1) := by decide +kernel
theorem dX7_type_14 : decode cX7_type 14 = .ok (.getfield 10, 3) := by decide +kernel
theorem dX7_type_17 : decode cX7_type 17 = .ok (.iload_n 1, 1) := by decide +kernel
theorem dX7_type_18 : decode cX7_type 18 = .ok (.invokevirtual 75, 3) := by decide +kernel
theorem dX7_type_21 : decode cX7_type 21 = .ok (.ifCond .eq 13, 3) := by decide +kernel
theorem dX7_type_24 : decode cX7_type 24 = .ok (.aload_n 0, 1) := by decide +kernel
theorem dX7_type_25 : decode cX7_type 25 = .ok (.getfield 10, 3) := by decide +kernel
theorem dX7_type_28 : decode cX7_type 28 = .ok (.getfield 79, 3) := by decide +kernel
theorem dX7_type_31 : decode cX7_type 31 = .ok (.goto 5, 3) := by decide +kernel
theorem dX7_type_34 : decode cX7_type 34 = .ok (.bipush (-3), 2) := by decide +kernel
theorem dX7_type_36 : decode cX7_type 36 = .ok (.ireturn, 1) := by decide +kernel
theorem dX7_clear_0 : decode cX7_clear 0 = .ok (.aload_n 0, 1) := by decide +kernel
theorem dX7_clear_1 : decode cX7_clear 1 = .ok (.getfield 10, 3) := by decide +kernel
theorem dX7_clear_4 : decode cX7_clear 4 = .ok (.getfield 79, 3) := by decide +kernel
theorem dX7_clear_7 : decode cX7_clear 7 = .ok (.istore_n 1, 1) := by decide +kernel
theorem dX7_clear_8 : decode cX7_clear 8 = .ok (.aload_n 0, 1) := by decide +kernel
theorem dX7_clear_9 : decode cX7_clear 9 = .ok (.getfield 10, 3) := by decide +kernel
theorem dX7_clear_12 : decode cX7_clear 12 = .ok (.iconst 0, 1) := by decide +kernel
theorem dX7_clear_13 : decode cX7_clear 13 = .ok (.putfield 79, 3) := by decide +kernel
theorem dX7_clear_16 : decode cX7_clear 16 = .ok (.iload_n 1, 1) := by decide +kernel
theorem dX7_clear_17 : decode cX7_clear 17 = .ok (.ireturn, 1) := by decide +kernel
theorem dX7_grid_0 : decode cX7_grid 0 = .ok (.aload_n 0, 1) := by decide +kernel
theorem dX7_grid_1 : decode cX7_grid 1 = .ok (.getfield 10, 3) := by decide +kernel
theorem dX7_grid_4 : decode cX7_grid 4 = .ok (.invokevirtual 83, 3) := by decide +kernel
theorem dX7_grid_7 : decode cX7_grid 7 = .ok (.istore_n 1, 1) := by decide +kernel
theorem dX7_grid_8 : decode cX7_grid 8 = .ok (.iload_n 1, 1) := by decide +kernel
theorem dX7_grid_9 : decode cX7_grid 9 = .ok (.iconst (-1), 1) := by decide +kernel
theorem dX7_grid_10 : decode cX7_grid 10 = .ok (.if_icmp .eq 8, 3) := by decide +kernel
theorem dX7_grid_13 : decode cX7_grid 13 = .ok (.bipush (-10), 2) := by decide +kernel
theorem dX7_grid_15 : decode cX7_grid 15 = .ok (.iload_n 1, 1) := by decide +kernel
theorem dX7_grid_16 : decode cX7_grid 16 = .ok (.isub, 1) := by decide +kernel
theorem dX7_grid_17 : decode cX7_grid 17 = .ok (.ireturn, 1) := by decide +kernel
theorem dX7_grid_18 : decode cX7_grid 18 = .ok (.aload_n 0, 1) := by decide +kernel
theorem dX7_grid_19 : decode cX7_grid 19 = .ok (.getfield 19, 3) := by decide +kernel
theorem dX7_grid_22 : decode cX7_grid 22 = .ok (.aload_n 0, 1) := by decide +kernel
theorem dX7_grid_23 : decode cX7_grid 23 = .ok (.getfield 10, 3) := by decide +kernel
theorem dX7_grid_26 : decode cX7_grid 26 = .ok (.getfield 87, 3) := by decide +kernel
theorem dX7_grid_29 : decode cX7_grid 29 = .ok (.aload_n 0, 1) := by decide +kernel
theorem dX7_grid_30 : decode cX7_grid 30 = .ok (.getfield 10, 3) := by decide +kernel
theorem dX7_grid_33 : decode cX7_grid 33 = .ok (.getfield 90, 3) := by decide +kernel
theorem dX7_grid_36 : decode cX7_grid 36 = .ok (.invokevirtual 71, 3) := by decide +kernel
theorem dX7_grid_39 : decode cX7_grid 39 = .ok (.aload_n 0, 1) := by decide +kernel
theorem dX7_grid_40 : decode cX7_grid 40 = .ok (.getfield 26, 3) := by decide +kernel
theorem dX7_grid_43 : decode cX7_grid 43 = .ok (.lconst 0, 1) := by decide +kernel
theorem dX7_grid_44 : decode cX7_grid 44 = .ok (.lconst 0, 1) := by decide +kernel
theorem dX7_grid_45 : decode cX7_grid 45 = .ok (.aload_n 0, 1) := by decide +kernel
theorem dX7_grid_46 : decode cX7_grid 46 = .ok (.getfield 10, 3) := by decide +kernel
theorem dX7_grid_49 : decode cX7_grid 49 = .ok (.getfield 93, 3) := by decide +kernel
theorem dX7_grid_52 : decode cX7_grid 52 = .ok (.invokevirtual 97, 3) := by decide +kernel
theorem dX7_grid_55 : decode cX7_grid 55 = .ok (.aload_n 0, 1) := by decide +kernel
theorem dX7_grid_56 : decode cX7_grid 56 = .ok (.getfield 33, 3) := by decide +kernel
theorem dX7_grid_59 : decode cX7_grid 59 = .ok (.invokevirtual 100, 3) := by decide +kernel
theorem dX7_grid_62 : decode cX7_grid 62 = .ok (.aload_n 0, 1) := by decide +kernel
theorem dX7_grid_63 : decode cX7_grid 63 = .ok (.getfield 42, 3) := by decide +kernel
theorem dX7_grid_66 : decode cX7_grid 66 = .ok (.invokevirtual 103, 3) := by decide +kernel
theorem dX7_grid_69 : decode cX7_grid 69 = .ok (.aload_n 0, 1) := by decide +kernel
theorem dX7_grid_70 : decode cX7_grid 70 = .ok (.getfield 10, 3) := by decide +kernel
theorem dX7_grid_73 : decode cX7_grid 73 = .ok (.iconst 0, 1) := by decide +kernel
theorem dX7_grid_74 : decode cX7_grid 74 = .ok (.putfield 79, 3) := by decide +kernel
theorem dX7_grid_77 : decode cX7_grid 77 = .ok (.aload_n 0, 1) := by decide +kernel
theorem dX7_grid_78 : decode cX7_grid 78 = .ok (.iconst 0, 1) := by decide +kernel
theorem dX7_grid_79 : decode cX7_grid 79 = .ok (.putfield 67, 3) := by decide +kernel
theorem dX7_grid_82 : decode cX7_grid 82 = .ok (.aload_n 0, 1) := by decide +kernel
theorem dX7_grid_83 : decode cX7_grid 83 = .ok (.getfield 19, 3) := by decide +kernel
theorem dX7_grid_86 : decode cX7_grid 86 = .ok (.getfield 104, 3) := by decide +kernel
theorem dX7_grid_89 : decode cX7_grid 89 = .ok (.ireturn, 1) := by decide +kernel
theorem dX7_number_0 : decode cX7_number 0 = .ok (.aload_n 0, 1) := by decide +kernel
theorem dX7_number_1 : decode cX7_number 1 = .ok (.getfield 19, 3) := by decide +kernel
theorem dX7_number_4 : decode cX7_number 4 = .ok (.iload_n 1, 1) := by decide +kernel
theorem dX7_number_5 : decode cX7_number 5 = .ok (.invokevirtual 107, 3) := by decide +kernel
theorem dX7_number_8 : decode cX7_number 8 = .ok (.ifCond .ne 5, 3) := by decide +kernel
theorem dX7_number_11 : decode cX7_number 11 = .ok (.iconst (-1), 1) := by decide +kernel
theorem dX7_number_12 : decode cX7_number 12 = .ok (.ireturn, 1) := by decide +kernel
theorem dX7_number_13 : decode cX7_number 13 = .ok (.aload_n 0, 1) := by decide +kernel
theorem dX7_number_14 : decode cX7_number 14 = .ok (.getfield 26, 3) := by decide +kernel
theorem dX7_number_17 : decode cX7_number 17 = .ok (.iload_n 1, 1) := by decide +kernel
theorem dX7_number_18 : decode cX7_number 18 = .ok (.invokevirtual 110, 3) := by decide +kernel
theorem dX7_number_21 : decode cX7_number 21 = .ok (.istore_n 2, 1) := by decide +kernel
theorem dX7_number_22 : decode cX7_number 22 = .ok (.iload_n 2, 1) := by decide +kernel
theorem dX7_number_23 : decode cX7_number 23 = .ok (.ifCond .ge 8, 3) := by decide +kernel
theorem dX7_number_26 : decode cX7_number 26 = .ok (.bipush (-9), 2) := by decide +kernel
theorem dX7_number_28 : decode cX7_number 28 = .ok (.goto 4, 3) := by decide +kernel
theorem dX7_number_31 : decode cX7_number 31 = .ok (.iload_n 2, 1) := by decide +kernel
theorem dX7_number_32 : decode cX7_number 32 = .ok (.ireturn, 1) := by decide +kernel
theorem dX7_side_0 : decode cX7_side 0 = .ok (.aload_n 0, 1) := by decide +kernel
theorem dX7_side_1 : decode cX7_side 1 = .ok (.getfield 19, 3) := by decide +kernel
theorem dX7_side_4 : decode cX7_side 4 = .ok (.iload_n 1, 1) := by decide +kernel
theorem dX7_side_5 : decode cX7_side 5 = .ok (.invokevirtual 114, 3) := by decide +kernel
theorem dX7_side_8 : decode cX7_side 8 = .ok (.ifCond .eq 14, 3) := by decide +kernel
theorem dX7_side_11 : decode cX7_side 11 = .ok (.aload_n 0, 1) := by decide +kernel
theorem dX7_side_12 : decode cX7_side 12 = .ok (.getfield 26, 3) := by decide +kernel
theorem dX7_side_15 : decode cX7_side 15 = .ok (.iload_n 1, 1) := by decide +kernel
theorem dX7_side_16 : decode cX7_side 16 = .ok (.invokevirtual 117, 3) := by decide +kernel
theorem dX7_side_19 : decode cX7_side 19 = .ok (.goto 4, 3) := by decide +kernel
theorem dX7_side_22 : decode cX7_side 22 = .ok (.iconst (-1), 1) := by decide +kernel
theorem dX7_side_23 : decode cX7_side 23 = .ok (.ireturn, 1) := by decide +kernel
theorem dX7_sideOf_0 : decode cX7_sideOf 0 = .ok (.iload_n 3, 1) := by decide +kernel
theorem dX7_sideOf_1 : decode cX7_sideOf 1 = .ok (.ifCond .lt 8, 3) := by decide +kernel
theorem dX7_sideOf_4 : decode cX7_sideOf 4 = .ok (.iload_n 3, 1) := by decide +kernel
theorem dX7_sideOf_5 : decode cX7_sideOf 5 = .ok (.iconst 3, 1) := by decide +kernel
theorem dX7_sideOf_6 : decode cX7_sideOf 6 = .ok (.if_icmp .le 5, 3) := by decide +kernel
theorem dX7_sideOf_9 : decode cX7_sideOf 9 = .ok (.iconst (-1), 1) := by decide +kernel
theorem dX7_sideOf_10 : decode cX7_sideOf 10 = .ok (.ireturn, 1) := by decide +kernel
theorem dX7_sideOf_11 : decode cX7_sideOf 11 = .ok (.iload_n 1, 1) := by decide +kernel
theorem dX7_sideOf_12 : decode cX7_sideOf 12 = .ok (.ifCond .ne 28, 3) := by decide +kernel
theorem dX7_sideOf_15 : decode cX7_sideOf 15 = .ok (.aload_n 0, 1) := by decide +kernel
theorem dX7_sideOf_16 : decode cX7_sideOf 16 = .ok (.getfield 19, 3) := by decide +kernel
theorem dX7_sideOf_19 : decode cX7_sideOf 19 = .ok (.iload_n 2, 1) := by decide +kernel
theorem dX7_sideOf_20 : decode cX7_sideOf 20 = .ok (.invokevirtual 107, 3) := by decide +kernel
theorem dX7_sideOf_23 : decode cX7_sideOf 23 = .ok (.ifCond .eq 15, 3) := by decide +kernel
theorem dX7_sideOf_26 : decode cX7_sideOf 26 = .ok (.aload_n 0, 1) := by decide +kernel
theorem dX7_sideOf_27 : decode cX7_sideOf 27 = .ok (.getfield 19, 3) := by decide +kernel
theorem dX7_sideOf_30 : decode cX7_sideOf 30 = .ok (.iload_n 2, 1) := by decide +kernel
theorem dX7_sideOf_31 : decode cX7_sideOf 31 = .ok (.iload_n 3, 1) := by decide +kernel
theorem dX7_sideOf_32 : decode cX7_sideOf 32 = .ok (.invokevirtual 120, 3) := by decide +kernel
theorem dX7_sideOf_35 : decode cX7_sideOf 35 = .ok (.goto 4, 3) := by decide +kernel
theorem dX7_sideOf_38 : decode cX7_sideOf 38 = .ok (.iconst (-1), 1) := by decide +kernel
theorem dX7_sideOf_39 : decode cX7_sideOf 39 = .ok (.ireturn, 1) := by decide +kernel
theorem dX7_sideOf_40 : decode cX7_sideOf 40 = .ok (.iload_n 1, 1) := by decide +kernel
theorem dX7_sideOf_41 : decode cX7_sideOf 41 = .ok (.iconst 1, 1) := by decide +kernel
theorem dX7_sideOf_42 : decode cX7_sideOf 42 = .ok (.if_icmp .ne 28, 3) := by decide +kernel
theorem dX7_sideOf_45 : decode cX7_sideOf 45 = .ok (.aload_n 0, 1) := by decide +kernel
theorem dX7_sideOf_46 : decode cX7_sideOf 46 = .ok (.getfield 19, 3) := by decide +kernel
theorem dX7_sideOf_49 : decode cX7_sideOf 49 = .ok (.iload_n 2, 1) := by decide +kernel
theorem dX7_sideOf_50 : decode cX7_sideOf 50 = .ok (.invokevirtual 124, 3) := by decide +kernel
theorem dX7_sideOf_53 : decode cX7_sideOf 53 = .ok (.ifCond .eq 15, 3) := by decide +kernel
theorem dX7_sideOf_56 : decode cX7_sideOf 56 = .ok (.aload_n 0, 1) := by decide +kernel
theorem dX7_sideOf_57 : decode cX7_sideOf 57 = .ok (.getfield 19, 3) := by decide +kernel
theorem dX7_sideOf_60 : decode cX7_sideOf 60 = .ok (.iload_n 2, 1) := by decide +kernel
theorem dX7_sideOf_61 : decode cX7_sideOf 61 = .ok (.iload_n 3, 1) := by decide +kernel
theorem dX7_sideOf_62 : decode cX7_sideOf 62 = .ok (.invokevirtual 127, 3) := by decide +kernel
theorem dX7_sideOf_65 : decode cX7_sideOf 65 = .ok (.goto 4, 3) := by decide +kernel
theorem dX7_sideOf_68 : decode cX7_sideOf 68 = .ok (.iconst (-1), 1) := by decide +kernel
theorem dX7_sideOf_69 : decode cX7_sideOf 69 = .ok (.ireturn, 1) := by decide +kernel
theorem dX7_sideOf_70 : decode cX7_sideOf 70 = .ok (.iconst (-1), 1) := by decide +kernel
theorem dX7_sideOf_71 : decode cX7_sideOf 71 = .ok (.ireturn, 1) := by decide +kernel
theorem dX7_marks_0 : decode cX7_marks 0 = .ok (.aload_n 0, 1) := by decide +kernel
theorem dX7_marks_1 : decode cX7_marks 1 = .ok (.getfield 19, 3) := by decide +kernel
theorem dX7_marks_4 : decode cX7_marks 4 = .ok (.iload_n 1, 1) := by decide +kernel
theorem dX7_marks_5 : decode cX7_marks 5 = .ok (.invokevirtual 114, 3) := by decide +kernel
theorem dX7_marks_8 : decode cX7_marks 8 = .ok (.ifCond .eq 12, 3) := by decide +kernel
theorem dX7_marks_11 : decode cX7_marks 11 = .ok (.iload_n 2, 1) := by decide +kernel
theorem dX7_marks_12 : decode cX7_marks 12 = .ok (.ifCond .lt 8, 3) := by decide +kernel
theorem dX7_marks_15 : decode cX7_marks 15 = .ok (.iload_n 2, 1) := by decide +kernel
theorem dX7_marks_16 : decode cX7_marks 16 = .ok (.iconst 2, 1) := by decide +kernel
theorem dX7_marks_17 : decode cX7_marks 17 = .ok (.if_icmp .le 5, 3) := by decide +kernel
theorem dX7_marks_20 : decode cX7_marks 20 = .ok (.iconst (-1), 1) := by decide +kernel
theorem dX7_marks_21 : decode cX7_marks 21 = .ok (.ireturn, 1) := by decide +kernel
theorem dX7_marks_22 : decode cX7_marks 22 = .ok (.aload_n 0, 1) := by decide +kernel
theorem dX7_marks_23 : decode cX7_marks 23 = .ok (.getfield 26, 3) := by decide +kernel
theorem dX7_marks_26 : decode cX7_marks 26 = .ok (.iload_n 1, 1) := by decide +kernel
theorem dX7_marks_27 : decode cX7_marks 27 = .ok (.invokevirtual 117, 3) := by decide +kernel
theorem dX7_marks_30 : decode cX7_marks 30 = .ok (.istore_n 3, 1) := by decide +kernel
theorem dX7_marks_31 : decode cX7_marks 31 = .ok (.iload_n 3, 1) := by decide +kernel
theorem dX7_marks_32 : decode cX7_marks 32 = .ok (.iload_n 2, 1) := by decide +kernel
theorem dX7_marks_33 : decode cX7_marks 33 = .ok (.if_icmp .ne 6, 3) := by decide +kernel
theorem dX7_marks_36 : decode cX7_marks 36 = .ok (.bipush (-2), 2) := by decide +kernel
theorem dX7_marks_38 : decode cX7_marks 38 = .ok (.ireturn, 1) := by decide +kernel
theorem dX7_marks_39 : decode cX7_marks 39 = .ok (.aload_n 0, 1) := by decide +kernel
theorem dX7_marks_40 : decode cX7_marks 40 = .ok (.invokevirtual 130, 3) := by decide +kernel
theorem dX7_marks_43 : decode cX7_marks 43 = .ok (.aload_n 0, 1) := by decide +kernel
theorem dX7_marks_44 : decode cX7_marks 44 = .ok (.getfield 26, 3) := by decide +kernel
theorem dX7_marks_47 : decode cX7_marks 47 = .ok (.iload_n 1, 1) := by decide +kernel
theorem dX7_marks_48 : decode cX7_marks 48 = .ok (.iload_n 2, 1) := by decide +kernel
theorem dX7_marks_49 : decode cX7_marks 49 = .ok (.invokevirtual 133, 3) := by decide +kernel
theorem dX7_marks_52 : decode cX7_marks 52 = .ok (.iload_n 3, 1) := by decide +kernel
theorem dX7_marks_53 : decode cX7_marks 53 = .ok (.ireturn, 1) := by decide +kernel
theorem dX7_numbers_0 : decode cX7_numbers 0 = .ok (.aload_n 0, 1) := by decide +kernel
theorem dX7_numbers_1 : decode cX7_numbers 1 = .ok (.getfield 19, 3) := by decide +kernel
theorem dX7_numbers_4 : decode cX7_numbers 4 = .ok (.iload_n 1, 1) := by decide +kernel
theorem dX7_numbers_5 : decode cX7_numbers 5 = .ok (.invokevirtual 107, 3) := by decide +kernel
theorem dX7_numbers_8 : decode cX7_numbers 8 = .ok (.ifCond .eq 13, 3) := by decide +kernel
theorem dX7_numbers_11 : decode cX7_numbers 11 = .ok (.iload_n 2, 1) := by decide +kernel
theorem dX7_numbers_12 : decode cX7_numbers 12 = .ok (.iconst (-1), 1) := by decide +kernel
theorem dX7_numbers_13 : decode cX7_numbers 13 = .ok (.if_icmp .lt 8, 3) := by decide +kernel
theorem dX7_numbers_16 : decode cX7_numbers 16 = .ok (.iload_n 2, 1) := by decide +kernel
theorem dX7_numbers_17 : decode cX7_numbers 17 = .ok (.iconst 4, 1) := by decide +kernel
theorem dX7_numbers_18 : decode cX7_numbers 18 = .ok (.if_icmp .le 5, 3) := by decide +kernel
theorem dX7_numbers_21 : decode cX7_numbers 21 = .ok (.iconst (-1), 1) := by decide +kernel
theorem dX7_numbers_22 : decode cX7_numbers 22 = .ok (.ireturn, 1) := by decide +kernel
theorem dX7_numbers_23 : decode cX7_numbers 23 = .ok (.aload_n 0, 1) := by decide +kernel
theorem dX7_numbers_24 : decode cX7_numbers 24 = .ok (.getfield 26, 3) := by decide +kernel
theorem dX7_numbers_27 : decode cX7_numbers 27 = .ok (.iload_n 1, 1) := by decide +kernel
theorem dX7_numbers_28 : decode cX7_numbers 28 = .ok (.invokevirtual 110, 3) := by decide +kernel
theorem dX7_numbers_31 : decode cX7_numbers 31 = .ok (.iload_n 2, 1) := by decide +kernel
theorem dX7_numbers_32 : decode cX7_numbers 32 = .ok (.if_icmp .ne 6, 3) := by decide +kernel
theorem dX7_numbers_35 : decode cX7_numbers 35 = .ok (.bipush (-2), 2) := by decide +kernel
theorem dX7_numbers_37 : decode cX7_numbers 37 = .ok (.ireturn, 1) := by decide +kernel
theorem dX7_numbers_38 : decode cX7_numbers 38 = .ok (.aload_n 0, 1) := by decide +kernel
theorem dX7_numbers_39 : decode cX7_numbers 39 = .ok (.invokevirtual 130, 3) := by decide +kernel
theorem dX7_numbers_42 : decode cX7_numbers 42 = .ok (.aload_n 0, 1) := by decide +kernel
theorem dX7_numbers_43 : decode cX7_numbers 43 = .ok (.getfield 26, 3) := by decide +kernel
theorem dX7_numbers_46 : decode cX7_numbers 46 = .ok (.aload_n 0, 1) := by decide +kernel
theorem dX7_numbers_47 : decode cX7_numbers 47 = .ok (.getfield 26, 3) := by decide +kernel
theorem dX7_numbers_50 : decode cX7_numbers 50 = .ok (.getfield 136, 3) := by decide +kernel
theorem dX7_numbers_53 : decode cX7_numbers 53 = .ok (.iload_n 1, 1) := by decide +kernel
theorem dX7_numbers_54 : decode cX7_numbers 54 = .ok (.iload_n 2, 1) := by decide +kernel
theorem dX7_numbers_55 : decode cX7_numbers 55 = .ok (.invokestatic 139, 3) := by decide +kernel
theorem dX7_numbers_58 : decode cX7_numbers 58 = .ok (.putfield 136, 3) := by decide +kernel
theorem dX7_numbers_61 : decode cX7_numbers 61 = .ok (.iconst 1, 1) := by decide +kernel
theorem dX7_numbers_62 : decode cX7_numbers 62 = .ok (.ireturn, 1) := by decide +kernel
theorem dX7_step_0 : decode cX7_step 0 = .ok (.aload_n 0, 1) := by decide +kernel
theorem dX7_step_1 : decode cX7_step 1 = .ok (.getfield 51, 3) := by decide +kernel
theorem dX7_step_4 : decode cX7_step 4 = .ok (.invokevirtual 143, 3) := by decide +kernel
theorem dX7_step_7 : decode cX7_step 7 = .ok (.aload_n 0, 1) := by decide +kernel
theorem dX7_step_8 : decode cX7_step 8 = .ok (.getfield 51, 3) := by decide +kernel
theorem dX7_step_11 : decode cX7_step 11 = .ok (.getfield 146, 3) := by decide +kernel
theorem dX7_step_14 : decode cX7_step 14 = .ok (.ifCond .ne 6, 3) := by decide +kernel
theorem dX7_step_17 : decode cX7_step 17 = .ok (.bipush (-2), 2) := by decide +kernel
theorem dX7_step_19 : decode cX7_step 19 = .ok (.ireturn, 1) := by decide +kernel
theorem dX7_step_20 : decode cX7_step 20 = .ok (.aload_n 0, 1) := by decide +kernel
theorem dX7_step_21 : decode cX7_step 21 = .ok (.getfield 51, 3) := by decide +kernel
theorem dX7_step_24 : decode cX7_step 24 = .ok (.getfield 146, 3) := by decide +kernel
theorem dX7_step_27 : decode cX7_step 27 = .ok (.iconst 3, 1) := by decide +kernel
theorem dX7_step_28 : decode cX7_step 28 = .ok (.if_icmp .ne 6, 3) := by decide +kernel
theorem dX7_step_31 : decode cX7_step 31 = .ok (.bipush (-4), 2) := by decide +kernel
theorem dX7_step_33 : decode cX7_step 33 = .ok (.ireturn, 1) := by decide +kernel
theorem dX7_step_34 : decode cX7_step 34 = .ok (.aload_n 0, 1) := by decide +kernel
theorem dX7_step_35 : decode cX7_step 35 = .ok (.invokevirtual 130, 3) := by decide +kernel
theorem dX7_step_38 : decode cX7_step 38 = .ok (.aload_n 0, 1) := by decide +kernel
theorem dX7_step_39 : decode cX7_step 39 = .ok (.invokevirtual 149, 3) := by decide +kernel
theorem dX7_step_42 : decode cX7_step 42 = .ok (.ireturn, 1) := by decide +kernel
theorem dX7_spreads_0 : decode cX7_spreads 0 = .ok (.aload_n 0, 1) := by decide +kernel
theorem dX7_spreads_1 : decode cX7_spreads 1 = .ok (.invokevirtual 130, 3) := by decide +kernel
theorem dX7_spreads_4 : decode cX7_spreads 4 = .ok (.iconst 0, 1) := by decide +kernel
theorem dX7_spreads_5 : decode cX7_spreads 5 = .ok (.istore_n 1, 1) := by decide +kernel
theorem dX7_spreads_6 : decode cX7_spreads 6 = .ok (.iconst 0, 1) := by decide +kernel
theorem dX7_spreads_7 : decode cX7_spreads 7 = .ok (.istore_n 2, 1) := by decide +kernel
theorem dX7_spreads_8 : decode cX7_spreads 8 = .ok (.iload_n 2, 1) := by decide +kernel
theorem dX7_spreads_9 : decode cX7_spreads 9 = .ok (.bipush 40, 2) := by decide +kernel
theorem dX7_spreads_11 : decode cX7_spreads 11 = .ok (.if_icmp .gt 36, 3) := by decide +kernel
theorem dX7_spreads_14 : decode cX7_spreads 14 = .ok (.aload_n 0, 1) := by decide +kernel
theorem dX7_spreads_15 : decode cX7_spreads 15 = .ok (.getfield 51, 3) := by decide +kernel
theorem dX7_spreads_18 : decode cX7_spreads 18 = .ok (.invokevirtual 143, 3) := by decide +kernel
theorem dX7_spreads_21 : decode cX7_spreads 21 = .ok (.aload_n 0, 1) := by decide +kernel
theorem dX7_spreads_22 : decode cX7_spreads 22 = .ok (.getfield 51, 3) := by decide +kernel
theorem dX7_spreads_25 : decode cX7_spreads 25 = .ok (.invokevirtual 152, 3) := by decide +kernel
theorem dX7_spreads_28 : decode cX7_spreads 28 = .ok (.ifCond .ne 6, 3) := by decide +kernel
theorem dX7_spreads_31 : decode cX7_spreads 31 = .ok (.goto 16, 3) := by decide +kernel
theorem dX7_spreads_34 : decode cX7_spreads 34 = .ok (.iload_n 1, 1) := by decide +kernel
theorem dX7_spreads_35 : decode cX7_spreads 35 = .ok (.aload_n 0, 1) := by decide +kernel
theorem dX7_spreads_36 : decode cX7_spreads 36 = .ok (.invokevirtual 149, 3) := by decide +kernel
theorem dX7_spreads_39 : decode cX7_spreads 39 = .ok (.iadd, 1) := by decide +kernel
theorem dX7_spreads_40 : decode cX7_spreads 40 = .ok (.istore_n 1, 1) := by decide +kernel
theorem dX7_spreads_41 : decode cX7_spreads 41 = .ok (.iinc 2 1, 3) := by decide +kernel
theorem dX7_spreads_44 : decode cX7_spreads 44 = .ok (.goto (-36), 3) := by decide +kernel
theorem dX7_spreads_47 : decode cX7_spreads 47 = .ok (.iload_n 1, 1) := by decide +kernel
theorem dX7_spreads_48 : decode cX7_spreads 48 = .ok (.ireturn, 1) := by decide +kernel
theorem dX7_undo_0 : decode cX7_undo 0 = .ok (.aload_n 0, 1) := by decide +kernel
theorem dX7_undo_1 : decode cX7_undo 1 = .ok (.getfield 33, 3) := by decide +kernel
theorem dX7_undo_4 : decode cX7_undo 4 = .ok (.getfield 156, 3) := by decide +kernel
theorem dX7_undo_7 : decode cX7_undo 7 = .ok (.ifCond .ne 6, 3) := by decide +kernel
theorem dX7_undo_10 : decode cX7_undo 10 = .ok (.bipush (-2), 2) := by decide +kernel
theorem dX7_undo_12 : decode cX7_undo 12 = .ok (.ireturn, 1) := by decide +kernel
theorem dX7_undo_13 : decode cX7_undo 13 = .ok (.aload_n 0, 1) := by decide +kernel
theorem dX7_undo_14 : decode cX7_undo 14 = .ok (.getfield 33, 3) := by decide +kernel
theorem dX7_undo_17 : decode cX7_undo 17 = .ok (.aload_n 0, 1) := by decide +kernel
theorem dX7_undo_18 : decode cX7_undo 18 = .ok (.getfield 26, 3) := by decide +kernel
theorem dX7_undo_21 : decode cX7_undo 21 = .ok (.invokevirtual 159, 3) := by decide +kernel
theorem dX7_undo_24 : decode cX7_undo 24 = .ok (.aload_n 0, 1) := by decide +kernel
theorem dX7_undo_25 : decode cX7_undo 25 = .ok (.iconst 0, 1) := by decide +kernel
theorem dX7_undo_26 : decode cX7_undo 26 = .ok (.putfield 67, 3) := by decide +kernel
theorem dX7_undo_29 : decode cX7_undo 29 = .ok (.aload_n 0, 1) := by decide +kernel
theorem dX7_undo_30 : decode cX7_undo 30 = .ok (.getfield 33, 3) := by decide +kernel
theorem dX7_undo_33 : decode cX7_undo 33 = .ok (.getfield 156, 3) := by decide +kernel
theorem dX7_undo_36 : decode cX7_undo 36 = .ok (.ireturn, 1) := by decide +kernel
theorem dX7_hint_0 : decode cX7_hint 0 = .ok (.iload_n 1, 1) := by decide +kernel
theorem dX7_hint_1 : decode cX7_hint 1 = .ok (.ifCond .lt 8, 3) := by decide +kernel
theorem dX7_hint_4 : decode cX7_hint 4 = .ok (.iload_n 1, 1) := by decide +kernel
theorem dX7_hint_5 : decode cX7_hint 5 = .ok (.iconst 3, 1) := by decide +kernel
theorem dX7_hint_6 : decode cX7_hint 6 = .ok (.if_icmp .le 5, 3) := by decide +kernel
theorem dX7_hint_9 : decode cX7_hint 9 = .ok (.iconst (-1), 1) := by decide +kernel
theorem dX7_hint_10 : decode cX7_hint 10 = .ok (.ireturn, 1) := by decide +kernel
theorem dX7_hint_11 : decode cX7_hint 11 = .ok (.aload_n 0, 1) := by decide +kernel
theorem dX7_hint_12 : decode cX7_hint 12 = .ok (.getfield 51, 3) := by decide +kernel
theorem dX7_hint_15 : decode cX7_hint 15 = .ok (.invokevirtual 143, 3) := by decide +kernel
theorem dX7_hint_18 : decode cX7_hint 18 = .ok (.iload_n 1, 1) := by decide +kernel
theorem dX7_hint_19 : decode cX7_hint 19 = .ok (.ifCond .ne 11, 3) := by decide +kernel
theorem dX7_hint_22 : decode cX7_hint 22 = .ok (.aload_n 0, 1) := by decide +kernel
theorem dX7_hint_23 : decode cX7_hint 23 = .ok (.getfield 51, 3) := by decide +kernel
theorem dX7_hint_26 : decode cX7_hint 26 = .ok (.getfield 146, 3) := by decide +kernel
theorem dX7_hint_29 : decode cX7_hint 29 = .ok (.ireturn, 1) := by decide +kernel
theorem dX7_hint_30 : decode cX7_hint 30 = .ok (.aload_n 0, 1) := by decide +kernel
theorem dX7_hint_31 : decode cX7_hint 31 = .ok (.getfield 51, 3) := by decide +kernel
theorem dX7_hint_34 : decode cX7_hint 34 = .ok (.getfield 146, 3) := by decide +kernel
theorem dX7_hint_37 : decode cX7_hint 37 = .ok (.ifCond .ne 6, 3) := by decide +kernel
theorem dX7_hint_40 : decode cX7_hint 40 = .ok (.bipush (-9), 2) := by decide +kernel
theorem dX7_hint_42 : decode cX7_hint 42 = .ok (.ireturn, 1) := by decide +kernel
theorem dX7_hint_43 : decode cX7_hint 43 = .ok (.iload_n 1, 1) := by decide +kernel
theorem dX7_hint_44 : decode cX7_hint 44 = .ok (.iconst 1, 1) := by decide +kernel
theorem dX7_hint_45 : decode cX7_hint 45 = .ok (.if_icmp .ne 11, 3) := by decide +kernel
theorem dX7_hint_48 : decode cX7_hint 48 = .ok (.aload_n 0, 1) := by decide +kernel
theorem dX7_hint_49 : decode cX7_hint 49 = .ok (.getfield 51, 3) := by decide +kernel
theorem dX7_hint_52 : decode cX7_hint 52 = .ok (.getfield 163, 3) := by decide +kernel
theorem dX7_hint_55 : decode cX7_hint 55 = .ok (.ireturn, 1) := by decide +kernel
theorem dX7_hint_56 : decode cX7_hint 56 = .ok (.iload_n 1, 1) := by decide +kernel
theorem dX7_hint_57 : decode cX7_hint 57 = .ok (.iconst 2, 1) := by decide +kernel
theorem dX7_hint_58 : decode cX7_hint 58 = .ok (.if_icmp .ne 11, 3) := by decide +kernel
theorem dX7_hint_61 : decode cX7_hint 61 = .ok (.aload_n 0, 1) := by decide +kernel
theorem dX7_hint_62 : decode cX7_hint 62 = .ok (.getfield 51, 3) := by decide +kernel
theorem dX7_hint_65 : decode cX7_hint 65 = .ok (.getfield 166, 3) := by decide +kernel
theorem dX7_hint_68 : decode cX7_hint 68 = .ok (.ireturn, 1) := by decide +kernel
theorem dX7_hint_69 : decode cX7_hint 69 = .ok (.aload_n 0, 1) := by decide +kernel
theorem dX7_hint_70 : decode cX7_hint 70 = .ok (.getfield 51, 3) := by decide +kernel
theorem dX7_hint_73 : decode cX7_hint 73 = .ok (.invokevirtual 152, 3) := by decide +kernel
theorem dX7_hint_76 : decode cX7_hint 76 = .ok (.ifCond .eq 16, 3) := by decide +kernel
theorem dX7_hint_79 : decode cX7_hint 79 = .ok (.aload_n 0, 1) := by decide +kernel
theorem dX7_hint_80 : decode cX7_hint 80 = .ok (.getfield 51, 3) := by decide +kernel
theorem dX7_hint_83 : decode cX7_hint 83 = .ok (.getfield 169, 3) := by decide +kernel
theorem dX7_hint_86 : decode cX7_hint 86 = .ok (.invokestatic 170, 3) := by decide +kernel
theorem dX7_hint_89 : decode cX7_hint 89 = .ok (.goto 5, 3) := by decide +kernel
theorem dX7_hint_92 : decode cX7_hint 92 = .ok (.bipush (-9), 2) := by decide +kernel
theorem dX7_hint_94 : decode cX7_hint 94 = .ok (.ireturn, 1) := by decide +kernel
theorem dX7_hinted_0 : decode cX7_hinted 0 = .ok (.aload_n 0, 1) := by decide +kernel
theorem dX7_hinted_1 : decode cX7_hinted 1 = .ok (.getfield 51, 3) := by decide +kernel
theorem dX7_hinted_4 : decode cX7_hinted 4 = .ok (.invokevirtual 143, 3) := by decide +kernel
theorem dX7_hinted_7 : decode cX7_hinted 7 = .ok (.aload_n 0, 1) := by decide +kernel
theorem dX7_hinted_8 : decode cX7_hinted 8 = .ok (.getfield 51, 3) := by decide +kernel
theorem dX7_hinted_11 : decode cX7_hinted 11 = .ok (.invokevirtual 152, 3) := by decide +kernel
theorem dX7_hinted_14 : decode cX7_hinted 14 = .ok (.ifCond .eq 13, 3) := by decide +kernel
theorem dX7_hinted_17 : decode cX7_hinted 17 = .ok (.aload_n 0, 1) := by decide +kernel
theorem dX7_hinted_18 : decode cX7_hinted 18 = .ok (.getfield 51, 3) := by decide +kernel
theorem dX7_hinted_21 : decode cX7_hinted 21 = .ok (.getfield 169, 3) := by decide +kernel
theorem dX7_hinted_24 : decode cX7_hinted 24 = .ok (.goto 4, 3) := by decide +kernel
theorem dX7_hinted_27 : decode cX7_hinted 27 = .ok (.lconst 0, 1) := by decide +kernel
theorem dX7_hinted_28 : decode cX7_hinted 28 = .ok (.lreturn, 1) := by decide +kernel
theorem dX7_many_0 : decode cX7_many 0 = .ok (.iload_n 1, 1) := by decide +kernel
theorem dX7_many_1 : decode cX7_many 1 = .ok (.iconst 1, 1) := by decide +kernel
theorem dX7_many_2 : decode cX7_many 2 = .ok (.if_icmp .lt 10, 3) := by decide +kernel
theorem dX7_many_5 : decode cX7_many 5 = .ok (.iload_n 1, 1) := by decide +kernel
theorem dX7_many_6 : decode cX7_many 6 = .ok (.sipush 10000, 3) := by decide +kernel
theorem dX7_many_9 : decode cX7_many 9 = .ok (.if_icmp .le 5, 3) := by decide +kernel
theorem dX7_many_12 : decode cX7_many 12 = .ok (.iconst (-1), 1) := by decide +kernel
theorem dX7_many_13 : decode cX7_many 13 = .ok (.ireturn, 1) := by decide +kernel
theorem dX7_many_14 : decode cX7_many 14 = .ok (.aload_n 0, 1) := by decide +kernel
theorem dX7_many_15 : decode cX7_many 15 = .ok (.invokevirtual 176, 3) := by decide +kernel
theorem dX7_many_18 : decode cX7_many 18 = .ok (.aload_n 0, 1) := by decide +kernel
theorem dX7_many_19 : decode cX7_many 19 = .ok (.getfield 60, 3) := by decide +kernel
theorem dX7_many_22 : decode cX7_many 22 = .ok (.getfield 179, 3) := by decide +kernel
theorem dX7_many_25 : decode cX7_many 25 = .ok (.iload_n 1, 1) := by decide +kernel
theorem dX7_many_26 : decode cX7_many 26 = .ok (.invokestatic 180, 3) := by decide +kernel
theorem dX7_many_29 : decode cX7_many 29 = .ok (.ireturn, 1) := by decide +kernel
theorem dX7_loop_0 : decode cX7_loop 0 = .ok (.iload_n 1, 1) := by decide +kernel
theorem dX7_loop_1 : decode cX7_loop 1 = .ok (.ifCond .lt 10, 3) := by decide +kernel
theorem dX7_loop_4 : decode cX7_loop 4 = .ok (.iload_n 1, 1) := by decide +kernel
theorem dX7_loop_5 : decode cX7_loop 5 = .ok (.sipush 10000, 3) := by decide +kernel
theorem dX7_loop_8 : decode cX7_loop 8 = .ok (.if_icmp .lt 7, 3) := by decide +kernel
theorem dX7_loop_11 : decode cX7_loop 11 = .ok (.ldc2_w 185, 3) := by decide +kernel
theorem dX7_loop_14 : decode cX7_loop 14 = .ok (.lreturn, 1) := by decide +kernel
theorem dX7_loop_15 : decode cX7_loop 15 = .ok (.aload_n 0, 1) := by decide +kernel
theorem dX7_loop_16 : decode cX7_loop 16 = .ok (.invokevirtual 176, 3) := by decide +kernel
theorem dX7_loop_19 : decode cX7_loop 19 = .ok (.iload_n 1, 1) := by decide +kernel
theorem dX7_loop_20 : decode cX7_loop 20 = .ok (.aload_n 0, 1) := by decide +kernel
theorem dX7_loop_21 : decode cX7_loop 21 = .ok (.getfield 60, 3) := by decide +kernel
theorem dX7_loop_24 : decode cX7_loop 24 = .ok (.getfield 179, 3) := by decide +kernel
theorem dX7_loop_27 : decode cX7_loop 27 = .ok (.if_icmp .ge 14, 3) := by decide +kernel
theorem dX7_loop_30 : decode cX7_loop 30 = .ok (.aload_n 0, 1) := by decide +kernel
theorem dX7_loop_31 : decode cX7_loop 31 = .ok (.getfield 60, 3) := by decide +kernel
theorem dX7_loop_34 : decode cX7_loop 34 = .ok (.iload_n 1, 1) := by decide +kernel
theorem dX7_loop_35 : decode cX7_loop 35 = .ok (.invokevirtual 187, 3) := by decide +kernel
theorem dX7_loop_38 : decode cX7_loop 38 = .ok (.goto 6, 3) := by decide +kernel
theorem dX7_loop_41 : decode cX7_loop 41 = .ok (.ldc2_w 191, 3) := by decide +kernel
theorem dX7_loop_44 : decode cX7_loop 44 = .ok (.lreturn, 1) := by decide +kernel
theorem dX7_forced_0 : decode cX7_forced 0 = .ok (.iload_n 1, 1) := by decide +kernel
theorem dX7_forced_1 : decode cX7_forced 1 = .ok (.ifCond .lt 8, 3) := by decide +kernel
theorem dX7_forced_4 : decode cX7_forced 4 = .ok (.iload_n 1, 1) := by decide +kernel
theorem dX7_forced_5 : decode cX7_forced 5 = .ok (.iconst 1, 1) := by decide +kernel
theorem dX7_forced_6 : decode cX7_forced 6 = .ok (.if_icmp .le 7, 3) := by decide +kernel
theorem dX7_forced_9 : decode cX7_forced 9 = .ok (.ldc2_w 185, 3) := by decide +kernel
theorem dX7_forced_12 : decode cX7_forced 12 = .ok (.lreturn, 1) := by decide +kernel
theorem dX7_forced_13 : decode cX7_forced 13 = .ok (.aload_n 0, 1) := by decide +kernel
theorem dX7_forced_14 : decode cX7_forced 14 = .ok (.invokevirtual 176, 3) := by decide +kernel
theorem dX7_forced_17 : decode cX7_forced 17 = .ok (.aload_n 0, 1) := by decide +kernel
theorem dX7_forced_18 : decode cX7_forced 18 = .ok (.getfield 60, 3) := by decide +kernel
theorem dX7_forced_21 : decode cX7_forced 21 = .ok (.getfield 179, 3) := by decide +kernel
theorem dX7_forced_24 : decode cX7_forced 24 = .ok (.ifCond .ne 7, 3) := by decide +kernel
theorem dX7_forced_27 : decode cX7_forced 27 = .ok (.ldc2_w 191, 3) := by decide +kernel
theorem dX7_forced_30 : decode cX7_forced 30 = .ok (.lreturn, 1) := by decide +kernel
theorem dX7_forced_31 : decode cX7_forced 31 = .ok (.iload_n 1, 1) := by decide +kernel
theorem dX7_forced_32 : decode cX7_forced 32 = .ok (.ifCond .ne 13, 3) := by decide +kernel
theorem dX7_forced_35 : decode cX7_forced 35 = .ok (.aload_n 0, 1) := by decide +kernel
theorem dX7_forced_36 : decode cX7_forced 36 = .ok (.getfield 60, 3) := by decide +kernel
theorem dX7_forced_39 : decode cX7_forced 39 = .ok (.invokevirtual 193, 3) := by decide +kernel
theorem dX7_forced_42 : decode cX7_forced 42 = .ok (.goto 10, 3) := by decide +kernel
theorem dX7_forced_45 : decode cX7_forced 45 = .ok (.aload_n 0, 1) := by decide +kernel
theorem dX7_forced_46 : decode cX7_forced 46 = .ok (.getfield 60, 3) := by decide +kernel
theorem dX7_forced_49 : decode cX7_forced 49 = .ok (.invokevirtual 197, 3) := by decide +kernel
theorem dX7_forced_52 : decode cX7_forced 52 = .ok (.lreturn, 1) := by decide +kernel
theorem dX7_inside_0 : decode cX7_inside 0 = .ok (.iload_n 1, 1) := by decide +kernel
theorem dX7_inside_1 : decode cX7_inside 1 = .ok (.ifCond .lt 10, 3) := by decide +kernel
theorem dX7_inside_4 : decode cX7_inside 4 = .ok (.iload_n 1, 1) := by decide +kernel
theorem dX7_inside_5 : decode cX7_inside 5 = .ok (.sipush 10000, 3) := by decide +kernel
theorem dX7_inside_8 : decode cX7_inside 8 = .ok (.if_icmp .lt 5, 3) := by decide +kernel
theorem dX7_inside_11 : decode cX7_inside 11 = .ok (.iconst (-1), 1) := by decide +kernel
theorem dX7_inside_12 : decode cX7_inside 12 = .ok (.ireturn, 1) := by decide +kernel
theorem dX7_inside_13 : decode cX7_inside 13 = .ok (.aload_n 0, 1) := by decide +kernel
theorem dX7_inside_14 : decode cX7_inside 14 = .ok (.invokevirtual 176, 3) := by decide +kernel
theorem dX7_inside_17 : decode cX7_inside 17 = .ok (.iload_n 1, 1) := by decide +kernel
theorem dX7_inside_18 : decode cX7_inside 18 = .ok (.aload_n 0, 1) := by decide +kernel
theorem dX7_inside_19 : decode cX7_inside 19 = .ok (.getfield 60, 3) := by decide +kernel
theorem dX7_inside_22 : decode cX7_inside 22 = .ok (.getfield 179, 3) := by decide +kernel
theorem dX7_inside_25 : decode cX7_inside 25 = .ok (.if_icmp .ge 21, 3) := by decide +kernel
theorem dX7_inside_28 : decode cX7_inside 28 = .ok (.aload_n 0, 1) := by decide +kernel
theorem dX7_inside_29 : decode cX7_inside 29 = .ok (.getfield 19, 3) := by decide +kernel
theorem dX7_inside_32 : decode cX7_inside 32 = .ok (.aload_n 0, 1) := by decide +kernel
theorem dX7_inside_33 : decode cX7_inside 33 = .ok (.getfield 60, 3) := by decide +kernel
theorem dX7_inside_36 : decode cX7_inside 36 = .ok (.iload_n 1, 1) := by decide +kernel
theorem dX7_inside_37 : decode cX7_inside 37 = .ok (.invokevirtual 187, 3) := by decide +kernel
theorem dX7_inside_40 : decode cX7_inside 40 = .ok (.invokevirtual 200, 3) := by decide +kernel
theorem dX7_inside_43 : decode cX7_inside 43 = .ok (.goto 5, 3) := by decide +kernel
theorem dX7_inside_46 : decode cX7_inside 46 = .ok (.bipush (-9), 2) := by decide +kernel
theorem dX7_inside_48 : decode cX7_inside 48 = .ok (.ireturn, 1) := by decide +kernel
theorem dX7_numbersThat_0 : decode cX7_numbersThat 0 = .ok (.iload_n 1, 1) := by decide +kernel
theorem dX7_numbersThat_1 : decode cX7_numbersThat 1 = .ok (.ifCond .lt 8, 3) := by decide +kernel
theorem dX7_numbersThat_4 : decode cX7_numbersThat 4 = .ok (.iload_n 1, 1) := by decide +kernel
theorem dX7_numbersThat_5 : decode cX7_numbersThat 5 = .ok (.iconst 1, 1) := by decide +kernel
theorem dX7_numbersThat_6 : decode cX7_numbersThat 6 = .ok (.if_icmp .le 5, 3) := by decide +kernel
theorem dX7_numbersThat_9 : decode cX7_numbersThat 9 = .ok (.iconst (-1), 1) := by decide +kernel
theorem dX7_numbersThat_10 : decode cX7_numbersThat 10 = .ok (.ireturn, 1) := by decide +kernel
theorem dX7_numbersThat_11 : decode cX7_numbersThat 11 = .ok (.aload_n 0, 1) := by decide +kernel
theorem dX7_numbersThat_12 : decode cX7_numbersThat 12 = .ok (.invokevirtual 176, 3) := by decide +kernel
theorem dX7_numbersThat_15 : decode cX7_numbersThat 15 = .ok (.iload_n 1, 1) := by decide +kernel
theorem dX7_numbersThat_16 : decode cX7_numbersThat 16 = .ok (.ifCond .ne 7, 3) := by decide +kernel
theorem dX7_numbersThat_19 : decode cX7_numbersThat 19 = .ok (.iconst 1, 1) := by decide +kernel
theorem dX7_numbersThat_20 : decode cX7_numbersThat 20 = .ok (.goto 4, 3) := by decide +kernel
theorem dX7_numbersThat_23 : decode cX7_numbersThat 23 = .ok (.iconst 0, 1) := by decide +kernel
theorem dX7_numbersThat_24 : decode cX7_numbersThat 24 = .ok (.istore_n 2, 1) := by decide +kernel
theorem dX7_numbersThat_25 : decode cX7_numbersThat 25 = .ok (.aload_n 0, 1) := by decide +kernel
theorem dX7_numbersThat_26 : decode cX7_numbersThat 26 = .ok (.getfield 60, 3) := by decide +kernel
theorem dX7_numbersThat_29 : decode cX7_numbersThat 29 = .ok (.getfield 179, 3) := by decide +kernel
theorem dX7_numbersThat_32 : decode cX7_numbersThat 32 = .ok (.iload_n 2, 1) := by decide +kernel
theorem dX7_numbersThat_33 : decode cX7_numbersThat 33 = .ok (.if_icmp .eq 5, 3) := by decide +kernel
theorem dX7_numbersThat_36 : decode cX7_numbersThat 36 = .ok (.iconst 0, 1) := by decide +kernel
theorem dX7_numbersThat_37 : decode cX7_numbersThat 37 = .ok (.ireturn, 1) := by decide +kernel
theorem dX7_numbersThat_38 : decode cX7_numbersThat 38 = .ok (.iconst 0, 1) := by decide +kernel
theorem dX7_numbersThat_39 : decode cX7_numbersThat 39 = .ok (.istore_n 3, 1) := by decide +kernel
theorem dX7_numbersThat_40 : decode cX7_numbersThat 40 = .ok (.iconst 0, 1) := by decide +kernel
theorem dX7_numbersThat_41 : decode cX7_numbersThat 41 = .ok (.istore 4, 2) := by decide +kernel
theorem dX7_numbersThat_43 : decode cX7_numbersThat 43 = .ok (.iload 4, 2) := by decide +kernel
theorem dX7_numbersThat_45 : decode cX7_numbersThat 45 = .ok (.aload_n 0, 1) := by decide +kernel
theorem dX7_numbersThat_46 : decode cX7_numbersThat 46 = .ok (.getfield 19, 3) := by decide +kernel
theorem dX7_numbersThat_49 : decode cX7_numbersThat 49 = .ok (.getfield 203, 3) := by decide +kernel
theorem dX7_numbersThat_52 : decode cX7_numbersThat 52 = .ok (.if_icmp .ge 93, 3) := by decide +kernel
theorem dX7_numbersThat_55 : decode cX7_numbersThat 55 = .ok (.aload_n 0, 1) := by decide +kernel
theorem dX7_numbersThat_56 : decode cX7_numbersThat 56 = .ok (.getfield 26, 3) := by decide +kernel
theorem dX7_numbersThat_59 : decode cX7_numbersThat 59 = .ok (.iload 4, 2) := by decide +kernel
theorem dX7_numbersThat_61 : decode cX7_numbersThat 61 = .ok (.invokevirtual 110, 3) := by decide +kernel
theorem dX7_numbersThat_64 : decode cX7_numbersThat 64 = .ok (.ifCond .ge 6, 3) := by decide +kernel
theorem dX7_numbersThat_67 : decode cX7_numbersThat 67 = .ok (.goto 72, 3) := by decide +kernel
theorem dX7_numbersThat_70 : decode cX7_numbersThat 70 = .ok (.aload_n 0, 1) := by decide +kernel
theorem dX7_numbersThat_71 : decode cX7_numbersThat 71 = .ok (.getfield 64, 3) := by decide +kernel
theorem dX7_numbersThat_74 : decode cX7_numbersThat 74 = .ok (.aload_n 0, 1) := by decide +kernel
theorem dX7_numbersThat_75 : decode cX7_numbersThat 75 = .ok (.getfield 26, 3) := by decide +kernel
theorem dX7_numbersThat_78 : decode cX7_numbersThat 78 = .ok (.getfield 206, 3) := by decide +kernel
theorem dX7_numbersThat_81 : decode cX7_numbersThat 81 = .ok (.aload_n 0, 1) := by decide +kernel
theorem dX7_numbersThat_82 : decode cX7_numbersThat 82 = .ok (.getfield 26, 3) := by decide +kernel
theorem dX7_numbersThat_85 : decode cX7_numbersThat 85 = .ok (.getfield 209, 3) := by decide +kernel
theorem dX7_numbersThat_88 : decode cX7_numbersThat 88 = .ok (.aload_n 0, 1) := by decide +kernel
theorem dX7_numbersThat_89 : decode cX7_numbersThat 89 = .ok (.getfield 26, 3) := by decide +kernel
theorem dX7_numbersThat_92 : decode cX7_numbersThat 92 = .ok (.getfield 136, 3) := by decide +kernel
theorem dX7_numbersThat_95 : decode cX7_numbersThat 95 = .ok (.iload 4, 2) := by decide +kernel
theorem dX7_numbersThat_97 : decode cX7_numbersThat 97 = .ok (.iconst (-1), 1) := by decide +kernel
theorem dX7_numbersThat_98 : decode cX7_numbersThat 98 = .ok (.invokestatic 139, 3) := by decide +kernel
theorem dX7_numbersThat_101 : decode cX7_numbersThat 101 = .ok (.invokevirtual 212, 3) := by decide +kernel
theorem dX7_numbersThat_104 : decode cX7_numbersThat 104 = .ok (.iload_n 1, 1) := by decide +kernel
theorem dX7_numbersThat_105 : decode cX7_numbersThat 105 = .ok (.ifCond .ne 17, 3) := by decide +kernel
theorem dX7_numbersThat_108 : decode cX7_numbersThat 108 = .ok (.aload_n 0, 1) := by decide +kernel
theorem dX7_numbersThat_109 : decode cX7_numbersThat 109 = .ok (.getfield 64, 3) := by decide +kernel
theorem dX7_numbersThat_112 : decode cX7_numbersThat 112 = .ok (.getfield 179, 3) := by decide +kernel
theorem dX7_numbersThat_115 : decode cX7_numbersThat 115 = .ok (.iconst 1, 1) := by decide +kernel
theorem dX7_numbersThat_116 : decode cX7_numbersThat 116 = .ok (.if_icmp .ne 23, 3) := by decide +kernel
theorem dX7_numbersThat_119 : decode cX7_numbersThat 119 = .ok (.goto 13, 3) := by decide +kernel
theorem dX7_numbersThat_122 : decode cX7_numbersThat 122 = .ok (.aload_n 0, 1) := by decide +kernel
theorem dX7_numbersThat_123 : decode cX7_numbersThat 123 = .ok (.getfield 64, 3) := by decide +kernel
theorem dX7_numbersThat_126 : decode cX7_numbersThat 126 = .ok (.getfield 179, 3) := by decide +kernel
theorem dX7_numbersThat_129 : decode cX7_numbersThat 129 = .ok (.ifCond .le 10, 3) := by decide +kernel
theorem dX7_numbersThat_132 : decode cX7_numbersThat 132 = .ok (.iload_n 3, 1) := by decide +kernel
theorem dX7_numbersThat_133 : decode cX7_numbersThat 133 = .ok (.iconst 1, 1) := by decide +kernel
theorem dX7_numbersThat_134 : decode cX7_numbersThat 134 = .ok (.iload 4, 2) := by decide +kernel
theorem dX7_numbersThat_136 : decode cX7_numbersThat 136 = .ok (.ishl, 1) := by decide +kernel
theorem dX7_numbersThat_137 : decode cX7_numbersThat 137 = .ok (.ior, 1) := by decide +kernel
theorem dX7_numbersThat_138 : decode cX7_numbersThat 138 = .ok (.istore_n 3, 1) := by decide +kernel
theorem dX7_numbersThat_139 : decode cX7_numbersThat 139 = .ok (.iinc 4 1, 3) := by decide +kernel
theorem dX7_numbersThat_142 : decode cX7_numbersThat 142 = .ok (.goto (-99), 3) := by decide +kernel
theorem dX7_numbersThat_145 : decode cX7_numbersThat 145 = .ok (.iload_n 3, 1) := by decide +kernel
theorem dX7_numbersThat_146 : decode cX7_numbersThat 146 = .ok (.ireturn, 1) := by decide +kernel
theorem dX7_tryNext_0 : decode cX7_tryNext 0 = .ok (.aload_n 0, 1) := by decide +kernel
theorem dX7_tryNext_1 : decode cX7_tryNext 1 = .ok (.invokevirtual 176, 3) := by decide +kernel
theorem dX7_tryNext_4 : decode cX7_tryNext 4 = .ok (.bipush (-9), 2) := by decide +kernel
theorem dX7_tryNext_6 : decode cX7_tryNext 6 = .ok (.istore_n 1, 1) := by decide +kernel
theorem dX7_tryNext_7 : decode cX7_tryNext 7 = .ok (.iconst 0, 1) := by decide +kernel
theorem dX7_tryNext_8 : decode cX7_tryNext 8 = .ok (.istore_n 2, 1) := by decide +kernel
theorem dX7_tryNext_9 : decode cX7_tryNext 9 = .ok (.iconst 0, 1) := by decide +kernel
theorem dX7_tryNext_10 : decode cX7_tryNext 10 = .ok (.istore_n 3, 1) := by decide +kernel
theorem dX7_tryNext_11 : decode cX7_tryNext 11 = .ok (.iload_n 3, 1) := by decide +kernel
theorem dX7_tryNext_12 : decode cX7_tryNext 12 = .ok (.aload_n 0, 1) := by decide +kernel
theorem dX7_tryNext_13 : decode cX7_tryNext 13 = .ok (.getfield 19, 3) := by decide +kernel
theorem dX7_tryNext_16 : decode cX7_tryNext 16 = .ok (.getfield 215, 3) := by decide +kernel
theorem dX7_tryNext_19 : decode cX7_tryNext 19 = .ok (.if_icmp .ge 61, 3) := by decide +kernel
theorem dX7_tryNext_22 : decode cX7_tryNext 22 = .ok (.aload_n 0, 1) := by decide +kernel
theorem dX7_tryNext_23 : decode cX7_tryNext 23 = .ok (.getfield 26, 3) := by decide +kernel
theorem dX7_tryNext_26 : decode cX7_tryNext 26 = .ok (.iload_n 3, 1) := by decide +kernel
theorem dX7_tryNext_27 : decode cX7_tryNext 27 = .ok (.invokevirtual 117, 3) := by decide +kernel
theorem dX7_tryNext_30 : decode cX7_tryNext 30 = .ok (.ifCond .eq 6, 3) := by decide +kernel
theorem dX7_tryNext_33 : decode cX7_tryNext 33 = .ok (.goto 41, 3) := by decide +kernel
theorem dX7_tryNext_36 : decode cX7_tryNext 36 = .ok (.aload_n 0, 1) := by decide +kernel
theorem dX7_tryNext_37 : decode cX7_tryNext 37 = .ok (.getfield 60, 3) := by decide +kernel
theorem dX7_tryNext_40 : decode cX7_tryNext 40 = .ok (.iload_n 3, 1) := by decide +kernel
theorem dX7_tryNext_41 : decode cX7_tryNext 41 = .ok (.invokevirtual 218, 3) := by decide +kernel
theorem dX7_tryNext_44 : decode cX7_tryNext 44 = .ok (.istore 4, 2) := by decide +kernel
theorem dX7_tryNext_46 : decode cX7_tryNext 46 = .ok (.iload 4, 2) := by decide +kernel
theorem dX7_tryNext_48 : decode cX7_tryNext 48 = .ok (.aload_n 0, 1) := by decide +kernel
theorem dX7_tryNext_49 : decode cX7_tryNext 49 = .ok (.getfield 60, 3) := by decide +kernel
theorem dX7_tryNext_52 : decode cX7_tryNext 52 = .ok (.getfield 179, 3) := by decide +kernel
theorem dX7_tryNext_55 : decode cX7_tryNext 55 = .ok (.iload 4, 2) := by decide +kernel
theorem dX7_tryNext_57 : decode cX7_tryNext 57 = .ok (.isub, 1) := by decide +kernel
theorem dX7_tryNext_58 : decode cX7_tryNext 58 = .ok (.invokestatic 180, 3) := by decide +kernel
theorem dX7_tryNext_61 : decode cX7_tryNext 61 = .ok (.istore 5, 2) := by decide +kernel
theorem dX7_tryNext_63 : decode cX7_tryNext 63 = .ok (.iload 5, 2) := by decide +kernel
theorem dX7_tryNext_65 : decode cX7_tryNext 65 = .ok (.iload_n 2, 1) := by decide +kernel
theorem dX7_tryNext_66 : decode cX7_tryNext 66 = .ok (.if_icmp .le 8, 3) := by decide +kernel
theorem dX7_tryNext_69 : decode cX7_tryNext 69 = .ok (.iload 5, 2) := by decide +kernel
theorem dX7_tryNext_71 : decode cX7_tryNext 71 = .ok (.istore_n 2, 1) := by decide +kernel
theorem dX7_tryNext_72 : decode cX7_tryNext 72 = .ok (.iload_n 3, 1) := by decide +kernel
theorem dX7_tryNext_73 : decode cX7_tryNext 73 = .ok (.istore_n 1, 1) := by decide +kernel
theorem dX7_tryNext_74 : decode cX7_tryNext 74 = .ok (.iinc 3 1, 3) := by decide +kernel
theorem dX7_tryNext_77 : decode cX7_tryNext 77 = .ok (.goto (-66), 3) := by decide +kernel
theorem dX7_tryNext_80 : decode cX7_tryNext 80 = .ok (.iload_n 1, 1) := by decide +kernel
theorem dX7_tryNext_81 : decode cX7_tryNext 81 = .ok (.ireturn, 1) := by decide +kernel
theorem dX7_keep_0 : decode cX7_keep 0 = .ok (.iload_n 1, 1) := by decide +kernel
theorem dX7_keep_1 : decode cX7_keep 1 = .ok (.ifCond .lt 8, 3) := by decide +kernel
theorem dX7_keep_4 : decode cX7_keep 4 = .ok (.iload_n 1, 1) := by decide +kernel
theorem dX7_keep_5 : decode cX7_keep 5 = .ok (.iconst 2, 1) := by decide +kernel
theorem dX7_keep_6 : decode cX7_keep 6 = .ok (.if_icmp .lt 5, 3) := by decide +kernel
theorem dX7_keep_9 : decode cX7_keep 9 = .ok (.iconst (-1), 1) := by decide +kernel
theorem dX7_keep_10 : decode cX7_keep 10 = .ok (.ireturn, 1) := by decide +kernel
theorem dX7_keep_11 : decode cX7_keep 11 = .ok (.aload_n 0, 1) := by decide +kernel
theorem dX7_keep_12 : decode cX7_keep 12 = .ok (.getfield 42, 3) := by decide +kernel
theorem dX7_keep_15 : decode cX7_keep 15 = .ok (.iload_n 1, 1) := by decide +kernel
theorem dX7_keep_16 : decode cX7_keep 16 = .ok (.aload_n 0, 1) := by decide +kernel
theorem dX7_keep_17 : decode cX7_keep 17 = .ok (.getfield 26, 3) := by decide +kernel
theorem dX7_keep_20 : decode cX7_keep 20 = .ok (.invokevirtual 221, 3) := by decide +kernel
theorem dX7_keep_23 : decode cX7_keep 23 = .ok (.aload_n 0, 1) := by decide +kernel
theorem dX7_keep_24 : decode cX7_keep 24 = .ok (.invokevirtual 225, 3) := by decide +kernel
theorem dX7_keep_27 : decode cX7_keep 27 = .ok (.ireturn, 1) := by decide +kernel
theorem dX7_back_0 : decode cX7_back 0 = .ok (.iload_n 1, 1) := by decide +kernel
theorem dX7_back_1 : decode cX7_back 1 = .ok (.ifCond .lt 8, 3) := by decide +kernel
theorem dX7_back_4 : decode cX7_back 4 = .ok (.iload_n 1, 1) := by decide +kernel
theorem dX7_back_5 : decode cX7_back 5 = .ok (.iconst 2, 1) := by decide +kernel
theorem dX7_back_6 : decode cX7_back 6 = .ok (.if_icmp .lt 5, 3) := by decide +kernel
theorem dX7_back_9 : decode cX7_back 9 = .ok (.iconst (-1), 1) := by decide +kernel
theorem dX7_back_10 : decode cX7_back 10 = .ok (.ireturn, 1) := by decide +kernel
theorem dX7_back_11 : decode cX7_back 11 = .ok (.aload_n 0, 1) := by decide +kernel
theorem dX7_back_12 : decode cX7_back 12 = .ok (.getfield 42, 3) := by decide +kernel
theorem dX7_back_15 : decode cX7_back 15 = .ok (.iload_n 1, 1) := by decide +kernel
theorem dX7_back_16 : decode cX7_back 16 = .ok (.invokevirtual 228, 3) := by decide +kernel
theorem dX7_back_19 : decode cX7_back 19 = .ok (.ifCond .ne 6, 3) := by decide +kernel
theorem dX7_back_22 : decode cX7_back 22 = .ok (.bipush (-2), 2) := by decide +kernel
theorem dX7_back_24 : decode cX7_back 24 = .ok (.ireturn, 1) := by decide +kernel
theorem dX7_back_25 : decode cX7_back 25 = .ok (.aload_n 0, 1) := by decide +kernel
theorem dX7_back_26 : decode cX7_back 26 = .ok (.getfield 42, 3) := by decide +kernel
theorem dX7_back_29 : decode cX7_back 29 = .ok (.iload_n 1, 1) := by decide +kernel
theorem dX7_back_30 : decode cX7_back 30 = .ok (.aload_n 0, 1) := by decide +kernel
theorem dX7_back_31 : decode cX7_back 31 = .ok (.getfield 26, 3) := by decide +kernel
theorem dX7_back_34 : decode cX7_back 34 = .ok (.invokevirtual 231, 3) := by decide +kernel
theorem dX7_back_37 : decode cX7_back 37 = .ok (.aload_n 0, 1) := by decide +kernel
theorem dX7_back_38 : decode cX7_back 38 = .ok (.getfield 33, 3) := by decide +kernel
theorem dX7_back_41 : decode cX7_back 41 = .ok (.invokevirtual 100, 3) := by decide +kernel
theorem dX7_back_44 : decode cX7_back 44 = .ok (.aload_n 0, 1) := by decide +kernel
theorem dX7_back_45 : decode cX7_back 45 = .ok (.iconst 0, 1) := by decide +kernel
theorem dX7_back_46 : decode cX7_back 46 = .ok (.putfield 67, 3) := by decide +kernel
theorem dX7_back_49 : decode cX7_back 49 = .ok (.aload_n 0, 1) := by decide +kernel
theorem dX7_back_50 : decode cX7_back 50 = .ok (.invokevirtual 225, 3) := by decide +kernel
theorem dX7_back_53 : decode cX7_back 53 = .ok (.ireturn, 1) := by decide +kernel
theorem dX7_count_0 : decode cX7_count 0 = .ok (.iload_n 1, 1) := by decide +kernel
theorem dX7_count_1 : decode cX7_count 1 = .ok (.tableswitch 114 0 7 #[47, 55, 63, 71, 82, 93, 98, 106], 47) := by decide +kernel
theorem dX7_count_48 : decode cX7_count 48 = .ok (.aload_n 0, 1) := by decide +kernel
theorem dX7_count_49 : decode cX7_count 49 = .ok (.getfield 19, 3) := by decide +kernel
theorem dX7_count_52 : decode cX7_count 52 = .ok (.getfield 234, 3) := by decide +kernel
theorem dX7_count_55 : decode cX7_count 55 = .ok (.ireturn, 1) := by decide +kernel
theorem dX7_count_56 : decode cX7_count 56 = .ok (.aload_n 0, 1) := by decide +kernel
theorem dX7_count_57 : decode cX7_count 57 = .ok (.getfield 19, 3) := by decide +kernel
theorem dX7_count_60 : decode cX7_count 60 = .ok (.getfield 104, 3) := by decide +kernel
theorem dX7_count_63 : decode cX7_count 63 = .ok (.ireturn, 1) := by decide +kernel
theorem dX7_count_64 : decode cX7_count 64 = .ok (.aload_n 0, 1) := by decide +kernel
theorem dX7_count_65 : decode cX7_count 65 = .ok (.getfield 19, 3) := by decide +kernel
theorem dX7_count_68 : decode cX7_count 68 = .ok (.getfield 215, 3) := by decide +kernel
theorem dX7_count_71 : decode cX7_count 71 = .ok (.ireturn, 1) := by decide +kernel
theorem dX7_count_72 : decode cX7_count 72 = .ok (.aload_n 0, 1) := by decide +kernel
theorem dX7_count_73 : decode cX7_count 73 = .ok (.getfield 26, 3) := by decide +kernel
theorem dX7_count_76 : decode cX7_count 76 = .ok (.getfield 206, 3) := by decide +kernel
theorem dX7_count_79 : decode cX7_count 79 = .ok (.invokestatic 170, 3) := by decide +kernel
theorem dX7_count_82 : decode cX7_count 82 = .ok (.ireturn, 1) := by decide +kernel
theorem dX7_count_83 : decode cX7_count 83 = .ok (.aload_n 0, 1) := by decide +kernel
theorem dX7_count_84 : decode cX7_count 84 = .ok (.getfield 26, 3) := by decide +kernel
theorem dX7_count_87 : decode cX7_count 87 = .ok (.getfield 209, 3) := by decide +kernel
theorem dX7_count_90 : decode cX7_count 90 = .ok (.invokestatic 170, 3) := by decide +kernel
theorem dX7_count_93 : decode cX7_count 93 = .ok (.ireturn, 1) := by decide +kernel
theorem dX7_count_94 : decode cX7_count 94 = .ok (.aload_n 0, 1) := by decide +kernel
theorem dX7_count_95 : decode cX7_count 95 = .ok (.invokevirtual 235, 3) := by decide +kernel
theorem dX7_count_98 : decode cX7_count 98 = .ok (.ireturn, 1) := by decide +kernel
theorem dX7_count_99 : decode cX7_count 99 = .ok (.aload_n 0, 1) := by decide +kernel
theorem dX7_count_100 : decode cX7_count 100 = .ok (.getfield 10, 3) := by decide +kernel
theorem dX7_count_103 : decode cX7_count 103 = .ok (.getfield 79, 3) := by decide +kernel
theorem dX7_count_106 : decode cX7_count 106 = .ok (.ireturn, 1) := by decide +kernel
theorem dX7_count_107 : decode cX7_count 107 = .ok (.aload_n 0, 1) := by decide +kernel
theorem dX7_count_108 : decode cX7_count 108 = .ok (.getfield 33, 3) := by decide +kernel
theorem dX7_count_111 : decode cX7_count 111 = .ok (.getfield 156, 3) := by decide +kernel
theorem dX7_count_114 : decode cX7_count 114 = .ok (.ireturn, 1) := by decide +kernel
theorem dX7_count_115 : decode cX7_count 115 = .ok (.iconst (-1), 1) := by decide +kernel
theorem dX7_count_116 : decode cX7_count 116 = .ok (.ireturn, 1) := by decide +kernel
theorem dX7_beforeChange_0 : decode cX7_beforeChange 0 = .ok (.aload_n 0, 1) := by decide +kernel
theorem dX7_beforeChange_1 : decode cX7_beforeChange 1 = .ok (.getfield 33, 3) := by decide +kernel
theorem dX7_beforeChange_4 : decode cX7_beforeChange 4 = .ok (.aload_n 0, 1) := by decide +kernel
theorem dX7_beforeChange_5 : decode cX7_beforeChange 5 = .ok (.getfield 26, 3) := by decide +kernel
theorem dX7_beforeChange_8 : decode cX7_beforeChange 8 = .ok (.invokevirtual 238, 3) := by decide +kernel
theorem dX7_beforeChange_11 : decode cX7_beforeChange 11 = .ok (.aload_n 0, 1) := by decide +kernel
theorem dX7_beforeChange_12 : decode cX7_beforeChange 12 = .ok (.iconst 0, 1) := by decide +kernel
theorem dX7_beforeChange_13 : decode cX7_beforeChange 13 = .ok (.putfield 67, 3) := by decide +kernel
theorem dX7_beforeChange_16 : decode cX7_beforeChange 16 = .ok (.return_, 1) := by decide +kernel
theorem dX7_follow_0 : decode cX7_follow 0 = .ok (.aload_n 0, 1) := by decide +kernel
theorem dX7_follow_1 : decode cX7_follow 1 = .ok (.getfield 51, 3) := by decide +kernel
theorem dX7_follow_4 : decode cX7_follow 4 = .ok (.getfield 146, 3) := by decide +kernel
theorem dX7_follow_7 : decode cX7_follow 7 = .ok (.iconst 2, 1) := by decide +kernel
theorem dX7_follow_8 : decode cX7_follow 8 = .ok (.if_icmp .ne 25, 3) := by decide +kernel
theorem dX7_follow_11 : decode cX7_follow 11 = .ok (.aload_n 0, 1) := by decide +kernel
theorem dX7_follow_12 : decode cX7_follow 12 = .ok (.getfield 26, 3) := by decide +kernel
theorem dX7_follow_15 : decode cX7_follow 15 = .ok (.dup, 1) := by decide +kernel
theorem dX7_follow_16 : decode cX7_follow 16 = .ok (.getfield 206, 3) := by decide +kernel
theorem dX7_follow_19 : decode cX7_follow 19 = .ok (.aload_n 0, 1) := by decide +kernel
theorem dX7_follow_20 : decode cX7_follow 20 = .ok (.getfield 51, 3) := by decide +kernel
theorem dX7_follow_23 : decode cX7_follow 23 = .ok (.getfield 169, 3) := by decide +kernel
theorem dX7_follow_26 : decode cX7_follow 26 = .ok (.lor, 1) := by decide +kernel
theorem dX7_follow_27 : decode cX7_follow 27 = .ok (.putfield 206, 3) := by decide +kernel
theorem dX7_follow_30 : decode cX7_follow 30 = .ok (.goto 22, 3) := by decide +kernel
theorem dX7_follow_33 : decode cX7_follow 33 = .ok (.aload_n 0, 1) := by decide +kernel
theorem dX7_follow_34 : decode cX7_follow 34 = .ok (.getfield 26, 3) := by decide +kernel
theorem dX7_follow_37 : decode cX7_follow 37 = .ok (.dup, 1) := by decide +kernel
theorem dX7_follow_38 : decode cX7_follow 38 = .ok (.getfield 209, 3) := by decide +kernel
theorem dX7_follow_41 : decode cX7_follow 41 = .ok (.aload_n 0, 1) := by decide +kernel
theorem dX7_follow_42 : decode cX7_follow 42 = .ok (.getfield 51, 3) := by decide +kernel
theorem dX7_follow_45 : decode cX7_follow 45 = .ok (.getfield 169, 3) := by decide +kernel
theorem dX7_follow_48 : decode cX7_follow 48 = .ok (.lor, 1) := by decide +kernel
theorem dX7_follow_49 : decode cX7_follow 49 = .ok (.putfield 209, 3) := by decide +kernel
theorem dX7_follow_52 : decode cX7_follow 52 = .ok (.aload_n 0, 1) := by decide +kernel
theorem dX7_follow_53 : decode cX7_follow 53 = .ok (.getfield 51, 3) := by decide +kernel
theorem dX7_follow_56 : decode cX7_follow 56 = .ok (.getfield 169, 3) := by decide +kernel
theorem dX7_follow_59 : decode cX7_follow 59 = .ok (.invokestatic 170, 3) := by decide +kernel
theorem dX7_follow_62 : decode cX7_follow 62 = .ok (.ireturn, 1) := by decide +kernel
theorem dX7_searchLoops_0 : decode cX7_searchLoops 0 = .ok (.aload_n 0, 1) := by decide +kernel
theorem dX7_searchLoops_1 : decode cX7_searchLoops 1 = .ok (.getfield 67, 3) := by decide +kernel
theorem dX7_searchLoops_4 : decode cX7_searchLoops 4 = .ok (.ifCond .ne 36, 3) := by decide +kernel
theorem dX7_searchLoops_7 : decode cX7_searchLoops 7 = .ok (.aload_n 0, 1) := by decide +kernel
theorem dX7_searchLoops_8 : decode cX7_searchLoops 8 = .ok (.getfield 60, 3) := by decide +kernel
theorem dX7_searchLoops_11 : decode cX7_searchLoops 11 = .ok (.aload_n 0, 1) := by decide +kernel
theorem dX7_searchLoops_12 : decode cX7_searchLoops 12 = .ok (.getfield 26, 3) := by decide +kernel
theorem dX7_searchLoops_15 : decode cX7_searchLoops 15 = .ok (.getfield 206, 3) := by decide +kernel
theorem dX7_searchLoops_18 : decode cX7_searchLoops 18 = .ok (.aload_n 0, 1) := by decide +kernel
theorem dX7_searchLoops_19 : decode cX7_searchLoops 19 = .ok (.getfield 26, 3) := by decide +kernel
theorem dX7_searchLoops_22 : decode cX7_searchLoops 22 = .ok (.getfield 209, 3) := by decide +kernel
theorem dX7_searchLoops_25 : decode cX7_searchLoops 25 = .ok (.aload_n 0, 1) := by decide +kernel
theorem dX7_searchLoops_26 : decode cX7_searchLoops 26 = .ok (.getfield 26, 3) := by decide +kernel
theorem dX7_searchLoops_29 : decode cX7_searchLoops 29 = .ok (.getfield 136, 3) := by decide +kernel
theorem dX7_searchLoops_32 : decode cX7_searchLoops 32 = .ok (.invokevirtual 212, 3) := by decide +kernel
theorem dX7_searchLoops_35 : decode cX7_searchLoops 35 = .ok (.aload_n 0, 1) := by decide +kernel
theorem dX7_searchLoops_36 : decode cX7_searchLoops 36 = .ok (.iconst 1, 1) := by decide +kernel
theorem dX7_searchLoops_37 : decode cX7_searchLoops 37 = .ok (.putfield 67, 3) := by decide +kernel
theorem dX7_searchLoops_40 : decode cX7_searchLoops 40 = .ok (.return_, 1) := by decide +kernel
theorem dX7_openSides_0 : decode cX7_openSides 0 = .ok (.aload_n 0, 1) := by decide +kernel
theorem dX7_openSides_1 : decode cX7_openSides 1 = .ok (.getfield 19, 3) := by decide +kernel
theorem dX7_openSides_4 : decode cX7_openSides 4 = .ok (.getfield 215, 3) := by decide +kernel
theorem dX7_openSides_7 : decode cX7_openSides 7 = .ok (.aload_n 0, 1) := by decide +kernel
theorem dX7_openSides_8 : decode cX7_openSides 8 = .ok (.getfield 26, 3) := by decide +kernel
theorem dX7_openSides_11 : decode cX7_openSides 11 = .ok (.getfield 206, 3) := by decide +kernel
theorem dX7_openSides_14 : decode cX7_openSides 14 = .ok (.invokestatic 170, 3) := by decide +kernel
theorem dX7_openSides_17 : decode cX7_openSides 17 = .ok (.isub, 1) := by decide +kernel
theorem dX7_openSides_18 : decode cX7_openSides 18 = .ok (.aload_n 0, 1) := by decide +kernel
theorem dX7_openSides_19 : decode cX7_openSides 19 = .ok (.getfield 26, 3) := by decide +kernel
theorem dX7_openSides_22 : decode cX7_openSides 22 = .ok (.getfield 209, 3) := by decide +kernel
theorem dX7_openSides_25 : decode cX7_openSides 25 = .ok (.invokestatic 170, 3) := by decide +kernel
theorem dX7_openSides_28 : decode cX7_openSides 28 = .ok (.isub, 1) := by decide +kernel
theorem dX7_openSides_29 : decode cX7_openSides 29 = .ok (.ireturn, 1) := by decide +kernel
theorem dX7_cellsWithNumber_0 : decode cX7_cellsWithNumber 0 = .ok (.iconst 0, 1) := by decide +kernel
theorem dX7_cellsWithNumber_1 : decode cX7_cellsWithNumber 1 = .ok (.istore_n 1, 1) := by decide +kernel
theorem dX7_cellsWithNumber_2 : decode cX7_cellsWithNumber 2 = .ok (.iconst 0, 1) := by decide +kernel
theorem dX7_cellsWithNumber_3 : decode cX7_cellsWithNumber 3 = .ok (.istore_n 2, 1) := by decide +kernel
theorem dX7_cellsWithNumber_4 : decode cX7_cellsWithNumber 4 = .ok (.iload_n 2, 1) := by decide +kernel
theorem dX7_cellsWithNumber_5 : decode cX7_cellsWithNumber 5 = .ok (.aload_n 0, 1) := by decide +kernel
theorem dX7_cellsWithNumber_6 : decode cX7_cellsWithNumber 6 = .ok (.getfield 19, 3) := by decide +kernel
theorem dX7_cellsWithNumber_9 : decode cX7_cellsWithNumber 9 = .ok (.getfield 203, 3) := by decide +kernel
theorem dX7_cellsWithNumber_12 : decode cX7_cellsWithNumber 12 = .ok (.if_icmp .ge 23, 3) := by decide +kernel
theorem dX7_cellsWithNumber_15 : decode cX7_cellsWithNumber 15 = .ok (.aload_n 0, 1) := by decide +kernel
theorem dX7_cellsWithNumber_16 : decode cX7_cellsWithNumber 16 = .ok (.getfield 26, 3) := by decide +kernel
theorem dX7_cellsWithNumber_19 : decode cX7_cellsWithNumber 19 = .ok (.iload_n 2, 1) := by decide +kernel
theorem dX7_cellsWithNumber_20 : decode cX7_cellsWithNumber 20 = .ok (.invokevirtual 110, 3) := by decide +kernel
theorem dX7_cellsWithNumber_23 : decode cX7_cellsWithNumber 23 = .ok (.ifCond .lt 6, 3) := by decide +kernel
theorem dX7_cellsWithNumber_26 : decode cX7_cellsWithNumber 26 = .ok (.iinc 1 1, 3) := by decide +kernel
theorem dX7_cellsWithNumber_29 : decode cX7_cellsWithNumber 29 = .ok (.iinc 2 1, 3) := by decide +kernel
theorem dX7_cellsWithNumber_32 : decode cX7_cellsWithNumber 32 = .ok (.goto (-28), 3) := by decide +kernel
theorem dX7_cellsWithNumber_35 : decode cX7_cellsWithNumber 35 = .ok (.iload_n 1, 1) := by decide +kernel
theorem dX7_cellsWithNumber_36 : decode cX7_cellsWithNumber 36 = .ok (.ireturn, 1) := by decide +kernel
theorem dX7_at_0 : decode cX7_at 0 = .ok (.iload_n 1, 1) := by decide +kernel
theorem dX7_at_1 : decode cX7_at 1 = .ok (.ifCond .lt 15, 3) := by decide +kernel
theorem dX7_at_4 : decode cX7_at 4 = .ok (.iload_n 1, 1) := by decide +kernel
theorem dX7_at_5 : decode cX7_at 5 = .ok (.aload_n 0, 1) := by decide +kernel
theorem dX7_at_6 : decode cX7_at 6 = .ok (.arraylength, 1) := by decide +kernel
theorem dX7_at_7 : decode cX7_at 7 = .ok (.if_icmp .ge 9, 3) := by decide +kernel
theorem dX7_at_10 : decode cX7_at 10 = .ok (.aload_n 0, 1) := by decide +kernel
theorem dX7_at_11 : decode cX7_at 11 = .ok (.iload_n 1, 1) := by decide +kernel
theorem dX7_at_12 : decode cX7_at 12 = .ok (.iaload, 1) := by decide +kernel
theorem dX7_at_13 : decode cX7_at 13 = .ok (.goto 5, 3) := by decide +kernel
theorem dX7_at_16 : decode cX7_at 16 = .ok (.bipush (-9), 2) := by decide +kernel
theorem dX7_at_18 : decode cX7_at 18 = .ok (.ireturn, 1) := by decide +kernel
theorem dX7_at__0 : decode cX7_at_ 0 = .ok (.iload_n 1, 1) := by decide +kernel
theorem dX7_at__1 : decode cX7_at_ 1 = .ok (.ifCond .lt 15, 3) := by decide +kernel
theorem dX7_at__4 : decode cX7_at_ 4 = .ok (.iload_n 1, 1) := by decide +kernel
theorem dX7_at__5 : decode cX7_at_ 5 = .ok (.aload_n 0, 1) := by decide +kernel
theorem dX7_at__6 : decode cX7_at_ 6 = .ok (.arraylength, 1) := by decide +kernel
theorem dX7_at__7 : decode cX7_at_ 7 = .ok (.if_icmp .ge 9, 3) := by decide +kernel
theorem dX7_at__10 : decode cX7_at_ 10 = .ok (.aload_n 0, 1) := by decide +kernel
theorem dX7_at__11 : decode cX7_at_ 11 = .ok (.iload_n 1, 1) := by decide +kernel
theorem dX7_at__12 : decode cX7_at_ 12 = .ok (.laload, 1) := by decide +kernel
theorem dX7_at__13 : decode cX7_at_ 13 = .ok (.goto 4, 3) := by decide +kernel
theorem dX7_at__16 : decode cX7_at_ 16 = .ok (.lconst 0, 1) := by decide +kernel
theorem dX7_at__17 : decode cX7_at_ 17 = .ok (.lreturn, 1) := by decide +kernel
theorem dX7_put_0 : decode cX7_put 0 = .ok (.iload_n 1, 1) := by decide +kernel
theorem dX7_put_1 : decode cX7_put 1 = .ok (.ifCond .lt 13, 3) := by decide +kernel
theorem dX7_put_4 : decode cX7_put 4 = .ok (.iload_n 1, 1) := by decide +kernel
theorem dX7_put_5 : decode cX7_put 5 = .ok (.aload_n 0, 1) := by decide +kernel
theorem dX7_put_6 : decode cX7_put 6 = .ok (.arraylength, 1) := by decide +kernel
theorem dX7_put_7 : decode cX7_put 7 = .ok (.if_icmp .ge 7, 3) := by decide +kernel
theorem dX7_put_10 : decode cX7_put 10 = .ok (.aload_n 0, 1) := by decide +kernel
theorem dX7_put_11 : decode cX7_put 11 = .ok (.iload_n 1, 1) := by decide +kernel
theorem dX7_put_12 : decode cX7_put 12 = .ok (.iload_n 2, 1) := by decide +kernel
theorem dX7_put_13 : decode cX7_put 13 = .ok (.iastore, 1) := by decide +kernel
theorem dX7_put_14 : decode cX7_put 14 = .ok (.return_, 1) := by decide +kernel
theorem dX7_put__0 : decode cX7_put_ 0 = .ok (.iload_n 1, 1) := by decide +kernel
theorem dX7_put__1 : decode cX7_put_ 1 = .ok (.ifCond .lt 13, 3) := by decide +kernel
theorem dX7_put__4 : decode cX7_put_ 4 = .ok (.iload_n 1, 1) := by decide +kernel
theorem dX7_put__5 : decode cX7_put_ 5 = .ok (.aload_n 0, 1) := by decide +kernel
theorem dX7_put__6 : decode cX7_put_ 6 = .ok (.arraylength, 1) := by decide +kernel
theorem dX7_put__7 : decode cX7_put_ 7 = .ok (.if_icmp .ge 7, 3) := by decide +kernel
theorem dX7_put__10 : decode cX7_put_ 10 = .ok (.aload_n 0, 1) := by decide +kernel
theorem dX7_put__11 : decode cX7_put_ 11 = .ok (.iload_n 1, 1) := by decide +kernel
theorem dX7_put__12 : decode cX7_put_ 12 = .ok (.lload_n 2, 1) := by decide +kernel
theorem dX7_put__13 : decode cX7_put_ 13 = .ok (.lastore, 1) := by decide +kernel
theorem dX7_put__14 : decode cX7_put_ 14 = .ok (.return_, 1) := by decide +kernel
theorem dX7_bit_0 : decode cX7_bit 0 = .ok (.lconst 1, 1) := by decide +kernel
theorem dX7_bit_1 : decode cX7_bit 1 = .ok (.iload_n 0, 1) := by decide +kernel
theorem dX7_bit_2 : decode cX7_bit 2 = .ok (.lshl, 1) := by decide +kernel
theorem dX7_bit_3 : decode cX7_bit 3 = .ok (.lreturn, 1) := by decide +kernel
theorem dX8_init_0 : decode cX8_init 0 = .ok (.aload_n 0, 1) := by decide +kernel
theorem dX8_init_1 : decode cX8_init 1 = .ok (.invokespecial 1, 3) := by decide +kernel
theorem dX8_init_4 : decode cX8_init 4 = .ok (.aload_n 0, 1) := by decide +kernel
theorem dX8_init_5 : decode cX8_init 5 = .ok (.iconst 2, 1) := by decide +kernel
theorem dX8_init_6 : decode cX8_init 6 = .ok (.putfield 7, 3) := by decide +kernel
theorem dX8_init_9 : decode cX8_init 9 = .ok (.aload_n 0, 1) := by decide +kernel
theorem dX8_init_10 : decode cX8_init 10 = .ok (.iconst 2, 1) := by decide +kernel
theorem dX8_init_11 : decode cX8_init 11 = .ok (.putfield 13, 3) := by decide +kernel
theorem dX8_init_14 : decode cX8_init 14 = .ok (.aload_n 0, 1) := by decide +kernel
theorem dX8_init_15 : decode cX8_init 15 = .ok (.iconst 4, 1) := by decide +kernel
theorem dX8_init_16 : decode cX8_init 16 = .ok (.putfield 16, 3) := by decide +kernel
theorem dX8_init_19 : decode cX8_init 19 = .ok (.aload_n 0, 1) := by decide +kernel
theorem dX8_init_20 : decode cX8_init 20 = .ok (.bipush 12, 2) := by decide +kernel
theorem dX8_init_22 : decode cX8_init 22 = .ok (.putfield 19, 3) := by decide +kernel
theorem dX8_init_25 : decode cX8_init 25 = .ok (.aload_n 0, 1) := by decide +kernel
theorem dX8_init_26 : decode cX8_init 26 = .ok (.bipush 16, 2) := by decide +kernel
theorem dX8_init_28 : decode cX8_init 28 = .ok (.newarray .long, 2) := by decide +kernel
theorem dX8_init_30 : decode cX8_init 30 = .ok (.putfield 22, 3) := by decide +kernel
theorem dX8_init_33 : decode cX8_init 33 = .ok (.aload_n 0, 1) := by decide +kernel
theorem dX8_init_34 : decode cX8_init 34 = .ok (.bipush 25, 2) := by decide +kernel
theorem dX8_init_36 : decode cX8_init 36 = .ok (.newarray .long, 2) := by decide +kernel
theorem dX8_init_38 : decode cX8_init 38 = .ok (.putfield 26, 3) := by decide +kernel
theorem dX8_init_41 : decode cX8_init 41 = .ok (.aload_n 0, 1) := by decide +kernel
theorem dX8_init_42 : decode cX8_init 42 = .ok (.bipush 80, 2) := by decide +kernel
theorem dX8_init_44 : decode cX8_init 44 = .ok (.newarray .int, 2) := by decide +kernel
theorem dX8_init_46 : decode cX8_init 46 = .ok (.putfield 29, 3) := by decide +kernel
theorem dX8_init_49 : decode cX8_init 49 = .ok (.aload_n 0, 1) := by decide +kernel
theorem dX8_init_50 : decode cX8_init 50 = .ok (.bipush 40, 2) := by decide +kernel
theorem dX8_init_52 : decode cX8_init 52 = .ok (.newarray .int, 2) := by decide +kernel
theorem dX8_init_54 : decode cX8_init 54 = .ok (.putfield 33, 3) := by decide +kernel
theorem dX8_init_57 : decode cX8_init 57 = .ok (.aload_n 0, 1) := by decide +kernel
theorem dX8_init_58 : decode cX8_init 58 = .ok (.bipush 30, 2) := by decide +kernel
theorem dX8_init_60 : decode cX8_init 60 = .ok (.newarray .long, 2) := by decide +kernel
theorem dX8_init_62 : decode cX8_init 62 = .ok (.putfield 36, 3) := by decide +kernel
theorem dX8_init_65 : decode cX8_init 65 = .ok (.aload_n 0, 1) := by decide +kernel
theorem dX8_init_66 : decode cX8_init 66 = .ok (.bipush 6, 2) := by decide +kernel
theorem dX8_init_68 : decode cX8_init 68 = .ok (.newarray .long, 2) := by decide +kernel
theorem dX8_init_70 : decode cX8_init 70 = .ok (.putfield 39, 3) := by decide +kernel
theorem dX8_init_73 : decode cX8_init 73 = .ok (.aload_n 0, 1) := by decide +kernel
theorem dX8_init_74 : decode cX8_init 74 = .ok (.iconst 2, 1) := by decide +kernel
theorem dX8_init_75 : decode cX8_init 75 = .ok (.newarray .boolean, 2) := by decide +kernel
theorem dX8_init_77 : decode cX8_init 77 = .ok (.putfield 42, 3) := by decide +kernel
theorem dX8_init_80 : decode cX8_init 80 = .ok (.aload_n 0, 1) := by decide +kernel
theorem dX8_init_81 : decode cX8_init 81 = .ok (.sipush 9400, 3) := by decide +kernel
theorem dX8_init_84 : decode cX8_init 84 = .ok (.newarray .long, 2) := by decide +kernel
theorem dX8_init_86 : decode cX8_init 86 = .ok (.putfield 46, 3) := by decide +kernel
theorem dX8_init_89 : decode cX8_init 89 = .ok (.aload_n 0, 1) := by decide +kernel
theorem dX8_init_90 : decode cX8_init 90 = .ok (.bipush 40, 2) := by decide +kernel
theorem dX8_init_92 : decode cX8_init 92 = .ok (.newarray .int, 2) := by decide +kernel
theorem dX8_init_94 : decode cX8_init 94 = .ok (.putfield 49, 3) := by decide +kernel
theorem dX8_init_97 : decode cX8_init 97 = .ok (.aload_n 0, 1) := by decide +kernel
theorem dX8_init_98 : decode cX8_init 98 = .ok (.lconst 0, 1) := by decide +kernel
theorem dX8_init_99 : decode cX8_init 99 = .ok (.putfield 52, 3) := by decide +kernel
theorem dX8_init_102 : decode cX8_init 102 = .ok (.iconst 0, 1) := by decide +kernel
theorem dX8_init_103 : decode cX8_init 103 = .ok (.istore_n 1, 1) := by decide +kernel
theorem dX8_init_104 : decode cX8_init 104 = .ok (.iload_n 1, 1) := by decide +kernel
theorem dX8_init_105 : decode cX8_init 105 = .ok (.bipush 16, 2) := by decide +kernel
theorem dX8_init_107 : decode cX8_init 107 = .ok (.if_icmp .ge 25, 3) := by decide +kernel
theorem dX8_init_110 : decode cX8_init 110 = .ok (.aload_n 0, 1) := by decide +kernel
theorem dX8_init_111 : decode cX8_init 111 = .ok (.dup, 1) := by decide +kernel
theorem dX8_init_112 : decode cX8_init 112 = .ok (.getfield 52, 3) := by decide +kernel
theorem dX8_init_115 : decode cX8_init 115 = .ok (.ldc2_w 56, 3) := by decide +kernel
theorem dX8_init_118 : decode cX8_init 118 = .ok (.iconst 3, 1) := by decide +kernel
theorem dX8_init_119 : decode cX8_init 119 = .ok (.iload_n 1, 1) := by decide +kernel
theorem dX8_init_120 : decode cX8_init 120 = .ok (.imul, 1) := by decide +kernel
theorem dX8_init_121 : decode cX8_init 121 = .ok (.lshl, 1) := by decide +kernel
theorem dX8_init_122 : decode cX8_init 122 = .ok (.lor, 1) := by decide +kernel
theorem dX8_init_123 : decode cX8_init 123 = .ok (.putfield 52, 3) := by decide +kernel
theorem dX8_init_126 : decode cX8_init 126 = .ok (.iinc 1 1, 3) := by decide +kernel
theorem dX8_init_129 : decode cX8_init 129 = .ok (.goto (-25), 3) := by decide +kernel
theorem dX8_init_132 : decode cX8_init 132 = .ok (.aload_n 0, 1) := by decide +kernel
theorem dX8_init_133 : decode cX8_init 133 = .ok (.invokevirtual 58, 3) := by decide +kernel
theorem dX8_init_136 : decode cX8_init 136 = .ok (.return_, 1) := by decide +kernel
theorem dX8_in_0 : decode cX8_in 0 = .ok (.lload_n 0, 1) := by decide +kernel
theorem dX8_in_1 : decode cX8_in 1 = .ok (.lload_n 2, 1) := by decide +kernel
theorem dX8_in_2 : decode cX8_in 2 = .ok (.lcmp, 1) := by decide +kernel
theorem dX8_in_3 : decode cX8_in 3 = .ok (.ifCond .lt 14, 3) := by decide +kernel
theorem dX8_in_6 : decode cX8_in 6 = .ok (.lload_n 0, 1) := by decide +kernel
theorem dX8_in_7 : decode cX8_in 7 = .ok (.lload 4, 2) := by decide +kernel
theorem dX8_in_9 : decode cX8_in 9 = .ok (.lcmp, 1) := by decide +kernel
theorem dX8_in_10 : decode cX8_in 10 = .ok (.ifCond .gt 7, 3) := by decide +kernel
theorem dX8_in_13 : decode cX8_in 13 = .ok (.iconst 1, 1) := by decide +kernel
theorem dX8_in_14 : decode cX8_in 14 = .ok (.goto 4, 3) := by decide +kernel
theorem dX8_in_17 : decode cX8_in 17 = .ok (.iconst 0, 1) := by decide +kernel
theorem dX8_in_18 : decode cX8_in 18 = .ok (.ireturn, 1) := by decide +kernel
theorem dX8_has_0 : decode cX8_has 0 = .ok (.lload_n 0, 1) := by decide +kernel
theorem dX8_has_1 : decode cX8_has 1 = .ok (.iload_n 2, 1) := by decide +kernel
theorem dX8_has_2 : decode cX8_has 2 = .ok (.lshr, 1) := by decide +kernel
theorem dX8_has_3 : decode cX8_has 3 = .ok (.lconst 1, 1) := by decide +kernel
theorem dX8_has_4 : decode cX8_has 4 = .ok (.land, 1) := by decide +kernel
theorem dX8_has_5 : decode cX8_has 5 = .ok (.lconst 1, 1) := by decide +kernel
theorem dX8_has_6 : decode cX8_has 6 = .ok (.lcmp, 1) := by decide +kernel
theorem dX8_has_7 : decode cX8_has 7 = .ok (.ifCond .ne 7, 3) := by decide +kernel
theorem dX8_has_10 : decode cX8_has 10 = .ok (.iconst 1, 1) := by decide +kernel
theorem dX8_has_11 : decode cX8_has 11 = .ok (.goto 4, 3) := by decide +kernel
theorem dX8_has_14 : decode cX8_has 14 = .ok (.iconst 0, 1) := by decide +kernel
theorem dX8_has_15 : decode cX8_has 15 = .ok (.ireturn, 1) := by decide +kernel
theorem dX8_ones_0 : decode cX8_ones 0 = .ok (.iconst 0, 1) := by decide +kernel
theorem dX8_ones_1 : decode cX8_ones 1 = .ok (.istore_n 2, 1) := by decide +kernel
theorem dX8_ones_2 : decode cX8_ones 2 = .ok (.lload_n 0, 1) := by decide +kernel
theorem dX8_ones_3 : decode cX8_ones 3 = .ok (.lstore_n 3, 1) := by decide +kernel
theorem dX8_ones_4 : decode cX8_ones 4 = .ok (.lload_n 3, 1) := by decide +kernel
theorem dX8_ones_5 : decode cX8_ones 5 = .ok (.lconst 0, 1) := by decide +kernel
theorem dX8_ones_6 : decode cX8_ones 6 = .ok (.lcmp, 1) := by decide +kernel
theorem dX8_ones_7 : decode cX8_ones 7 = .ok (.ifCond .eq 15, 3) := by decide +kernel
theorem dX8_ones_10 : decode cX8_ones 10 = .ok (.iinc 2 1, 3) := by decide +kernel
theorem dX8_ones_13 : decode cX8_ones 13 = .ok (.lload_n 3, 1) := by decide +kernel
theorem dX8_ones_14 : decode cX8_ones 14 = .ok (.lload_n 3, 1) := by decide +kernel
theorem dX8_ones_15 : decode cX8_ones 15 = .ok (.lconst 1, 1) := by decide +kernel
theorem dX8_ones_16 : decode cX8_ones 16 = .ok (.lsub, 1) := by decide +kernel
theorem dX8_ones_17 : decode cX8_ones 17 = .ok (.land, 1) := by decide +kernel
theorem dX8_ones_18 : decode cX8_ones 18 = .ok (.lstore_n 3, 1) := by decide +kernel
theorem dX8_ones_19 : decode cX8_ones 19 = .ok (.goto (-15), 3) := by decide +kernel
theorem dX8_ones_22 : decode cX8_ones 22 = .ok (.iload_n 2, 1) := by decide +kernel
theorem dX8_ones_23 : decode cX8_ones 23 = .ok (.ireturn, 1) := by decide +kernel
theorem dX8_points_0 : decode cX8_points 0 = .ok (.aload_n 0, 1) := by decide +kernel
theorem dX8_points_1 : decode cX8_points 1 = .ok (.getfield 7, 3) := by decide +kernel
theorem dX8_points_4 : decode cX8_points 4 = .ok (.iconst 1, 1) := by decide +kernel
theorem dX8_points_5 : decode cX8_points 5 = .ok (.iadd, 1) := by decide +kernel
theorem dX8_points_6 : decode cX8_points 6 = .ok (.aload_n 0, 1) := by decide +kernel
theorem dX8_points_7 : decode cX8_points 7 = .ok (.getfield 13, 3) := by decide +kernel
theorem dX8_points_10 : decode cX8_points 10 = .ok (.iconst 1, 1) := by decide +kernel
theorem dX8_points_11 : decode cX8_points 11 = .ok (.iadd, 1) := by decide +kernel
theorem dX8_points_12 : decode cX8_points 12 = .ok (.imul, 1) := by decide +kernel
theorem dX8_points_13 : decode cX8_points 13 = .ok (.ireturn, 1) := by decide +kernel
theorem dX8_lying_0 : decode cX8_lying 0 = .ok (.iload_n 2, 1) := by decide +kernel
theorem dX8_lying_1 : decode cX8_lying 1 = .ok (.aload_n 0, 1) := by decide +kernel
theorem dX8_lying_2 : decode cX8_lying 2 = .ok (.getfield 7, 3) := by decide +kernel
theorem dX8_lying_5 : decode cX8_lying 5 = .ok (.imul, 1) := by decide +kernel
theorem dX8_lying_6 : decode cX8_lying 6 = .ok (.iload_n 1, 1) := by decide +kernel
theorem dX8_lying_7 : decode cX8_lying 7 = .ok (.iadd, 1) := by decide +kernel
theorem dX8_lying_8 : decode cX8_lying 8 = .ok (.ireturn, 1) := by decide +kernel
theorem dX8_standing_0 : decode cX8_standing 0 = .ok (.aload_n 0, 1) := by decide +kernel
theorem dX8_standing_1 : decode cX8_standing 1 = .ok (.getfield 7, 3) := by decide +kernel
theorem dX8_standing_4 : decode cX8_standing 4 = .ok (.aload_n 0, 1) := by decide +kernel
theorem dX8_standing_5 : decode cX8_standing 5 = .ok (.getfield 13, 3) := by decide +kernel
theorem dX8_standing_8 : decode cX8_standing 8 = .ok (.iconst 1, 1) := by decide +kernel
theorem dX8_standing_9 : decode cX8_standing 9 = .ok (.iadd, 1) := by decide +kernel
theorem dX8_standing_10 : decode cX8_standing 10 = .ok (.imul, 1) := by decide +kernel
theorem dX8_standing_11 : decode cX8_standing 11 = .ok (.iload_n 2, 1) := by decide +kernel
theorem dX8_standing_12 : decode cX8_standing 12 = .ok (.aload_n 0, 1) := by decide +kernel
theorem dX8_standing_13 : decode cX8_standing 13 = .ok (.getfield 7, 3) := by decide +kernel
theorem dX8_standing_16 : decode cX8_standing 16 = .ok (.iconst 1, 1) := by decide +kernel
theorem dX8_standing_17 : decode cX8_standing 17 = .ok (.iadd, 1) := by decide +kernel
theorem dX8_standing_18 : decode cX8_standing 18 = .ok (.imul, 1) := by decide +kernel
theorem dX8_standing_19 : decode cX8_standing 19 = .ok (.iadd, 1) := by decide +kernel
theorem dX8_standing_20 : decode cX8_standing 20 = .ok (.iload_n 1, 1) := by decide +kernel
theorem dX8_standing_21 : decode cX8_standing 21 = .ok (.iadd, 1) := by decide +kernel
theorem dX8_standing_22 : decode cX8_standing 22 = .ok (.ireturn, 1) := by decide +kernel
theorem dX8_cellAt_0 : decode cX8_cellAt 0 = .ok (.iload_n 1, 1) := by decide +kernel
theorem dX8_cellAt_1 : decode cX8_cellAt 1 = .ok (.i2l, 1) := by decide +kernel
theorem dX8_cellAt_2 : decode cX8_cellAt 2 = .ok (.lconst 0, 1) := by decide +kernel
theorem dX8_cellAt_3 : decode cX8_cellAt 3 = .ok (.aload_n 0, 1) := by decide +kernel
theorem dX8_cellAt_4 : decode cX8_cellAt 4 = .ok (.getfield 7, 3) := by decide +kernel
theorem dX8_cellAt_7 : decode cX8_cellAt 7 = .ok (.iconst 1, 1) := by decide +kernel
theorem dX8_cellAt_8 : decode cX8_cellAt 8 = .ok (.isub, 1) := by decide +kernel
theorem dX8_cellAt_9 : decode cX8_cellAt 9 = .ok (.i2l, 1) := by decide +kernel
theorem dX8_cellAt_10 : decode cX8_cellAt 10 = .ok (.invokestatic 61, 3) := by decide +kernel
theorem dX8_cellAt_13 : decode cX8_cellAt 13 = .ok (.ifCond .eq 30, 3) := by decide +kernel
theorem dX8_cellAt_16 : decode cX8_cellAt 16 = .ok (.iload_n 2, 1) := by decide +kernel
theorem dX8_cellAt_17 : decode cX8_cellAt 17 = .ok (.i2l, 1) := by decide +kernel
theorem dX8_cellAt_18 : decode cX8_cellAt 18 = .ok (.lconst 0, 1) := by decide +kernel
theorem dX8_cellAt_19 : decode cX8_cellAt 19 = .ok (.aload_n 0, 1) := by decide +kernel
theorem dX8_cellAt_20 : decode cX8_cellAt 20 = .ok (.getfield 13, 3) := by decide +kernel
theorem dX8_cellAt_23 : decode cX8_cellAt 23 = .ok (.iconst 1, 1) := by decide +kernel
theorem dX8_cellAt_24 : decode cX8_cellAt 24 = .ok (.isub, 1) := by decide +kernel
theorem dX8_cellAt_25 : decode cX8_cellAt 25 = .ok (.i2l, 1) := by decide +kernel

theorem dX0_init_0 : decode cX0_init 0 = .ok (.aload_n 0, 1) := by decide +kernel
theorem dX0_init_1 : decode cX0_init 1 = .ok (.invokespecial 3, 3) := by decide +kernel
theorem dX0_init_4 : decode cX0_init 4 = .ok (.aload_n 0, 1) := by decide +kernel
theorem dX0_init_5 : decode cX0_init 5 = .ok (.iload_n 1, 1) := by decide +kernel
theorem dX0_init_6 : decode cX0_init 6 = .ok (.putfield 9, 3) := by decide +kernel
theorem dX0_init_9 : decode cX0_init 9 = .ok (.aload_n 0, 1) := by decide +kernel
theorem dX0_init_10 : decode cX0_init 10 = .ok (.iload_n 2, 1) := by decide +kernel
theorem dX0_init_11 : decode cX0_init 11 = .ok (.putfield 15, 3) := by decide +kernel
theorem dX0_init_14 : decode cX0_init 14 = .ok (.aload_n 0, 1) := by decide +kernel
theorem dX0_init_15 : decode cX0_init 15 = .ok (.lload_n 3, 1) := by decide +kernel
theorem dX0_init_16 : decode cX0_init 16 = .ok (.putfield 18, 3) := by decide +kernel
theorem dX0_init_19 : decode cX0_init 19 = .ok (.return_, 1) := by decide +kernel
theorem dX0_isFor_0 : decode cX0_isFor 0 = .ok (.iload_n 1, 1) := by decide +kernel
theorem dX0_isFor_1 : decode cX0_isFor 1 = .ok (.ifCond .lt 26, 3) := by decide +kernel
theorem dX0_isFor_4 : decode cX0_isFor 4 = .ok (.iload_n 1, 1) := by decide +kernel
theorem dX0_isFor_5 : decode cX0_isFor 5 = .ok (.bipush 60, 2) := by decide +kernel
theorem dX0_isFor_7 : decode cX0_isFor 7 = .ok (.if_icmp .ge 20, 3) := by decide +kernel
theorem dX0_isFor_10 : decode cX0_isFor 10 = .ok (.aload_n 0, 1) := by decide +kernel
theorem dX0_isFor_11 : decode cX0_isFor 11 = .ok (.getfield 22, 3) := by decide +kernel
theorem dX0_isFor_14 : decode cX0_isFor 14 = .ok (.iload_n 1, 1) := by decide +kernel
theorem dX0_isFor_15 : decode cX0_isFor 15 = .ok (.lushr, 1) := by decide +kernel
theorem dX0_isFor_16 : decode cX0_isFor 16 = .ok (.lconst 1, 1) := by decide +kernel
theorem dX0_isFor_17 : decode cX0_isFor 17 = .ok (.land, 1) := by decide +kernel
theorem dX0_isFor_18 : decode cX0_isFor 18 = .ok (.lconst 0, 1) := by decide +kernel
theorem dX0_isFor_19 : decode cX0_isFor 19 = .ok (.lcmp, 1) := by decide +kernel
theorem dX0_isFor_20 : decode cX0_isFor 20 = .ok (.ifCond .eq 7, 3) := by decide +kernel
theorem dX0_isFor_23 : decode cX0_isFor 23 = .ok (.iconst 1, 1) := by decide +kernel
theorem dX0_isFor_24 : decode cX0_isFor 24 = .ok (.goto 4, 3) := by decide +kernel
theorem dX0_isFor_27 : decode cX0_isFor 27 = .ok (.iconst 0, 1) := by decide +kernel
theorem dX0_isFor_28 : decode cX0_isFor 28 = .ok (.ireturn, 1) := by decide +kernel
theorem dX0_addLot_0 : decode cX0_addLot 0 = .ok (.iload_n 1, 1) := by decide +kernel
theorem dX0_addLot_1 : decode cX0_addLot 1 = .ok (.ifCond .lt 21, 3) := by decide +kernel
theorem dX0_addLot_4 : decode cX0_addLot 4 = .ok (.iload_n 1, 1) := by decide +kernel
theorem dX0_addLot_5 : decode cX0_addLot 5 = .ok (.bipush 60, 2) := by decide +kernel
theorem dX0_addLot_7 : decode cX0_addLot 7 = .ok (.if_icmp .ge 15, 3) := by decide +kernel
theorem dX0_addLot_10 : decode cX0_addLot 10 = .ok (.aload_n 0, 1) := by decide +kernel
theorem dX0_addLot_11 : decode cX0_addLot 11 = .ok (.dup, 1) := by decide +kernel
theorem dX0_addLot_12 : decode cX0_addLot 12 = .ok (.getfield 22, 3) := by decide +kernel
theorem dX0_addLot_15 : decode cX0_addLot 15 = .ok (.lconst 1, 1) := by decide +kernel
theorem dX0_addLot_16 : decode cX0_addLot 16 = .ok (.iload_n 1, 1) := by decide +kernel
theorem dX0_addLot_17 : decode cX0_addLot 17 = .ok (.lshl, 1) := by decide +kernel
theorem dX0_addLot_18 : decode cX0_addLot 18 = .ok (.lor, 1) := by decide +kernel
theorem dX0_addLot_19 : decode cX0_addLot 19 = .ok (.putfield 22, 3) := by decide +kernel
theorem dX0_addLot_22 : decode cX0_addLot 22 = .ok (.return_, 1) := by decide +kernel
theorem dX1_init_0 : decode cX1_init 0 = .ok (.aload_n 0, 1) := by decide +kernel
theorem dX1_init_1 : decode cX1_init 1 = .ok (.invokespecial 3, 3) := by decide +kernel
theorem dX1_init_4 : decode cX1_init 4 = .ok (.aload_n 0, 1) := by decide +kernel
theorem dX1_init_5 : decode cX1_init 5 = .ok (.iload_n 1, 1) := by decide +kernel
theorem dX1_init_6 : decode cX1_init 6 = .ok (.putfield 9, 3) := by decide +kernel
theorem dX1_init_9 : decode cX1_init 9 = .ok (.aload_n 0, 1) := by decide +kernel
theorem dX1_init_10 : decode cX1_init 10 = .ok (.lload_n 2, 1) := by decide +kernel
theorem dX1_init_11 : decode cX1_init 11 = .ok (.putfield 15, 3) := by decide +kernel
theorem dX1_init_14 : decode cX1_init 14 = .ok (.aload_n 0, 1) := by decide +kernel
theorem dX1_init_15 : decode cX1_init 15 = .ok (.ldc2_w 19, 3) := by decide +kernel
theorem dX1_init_18 : decode cX1_init 18 = .ok (.putfield 21, 3) := by decide +kernel
theorem dX1_init_21 : decode cX1_init 21 = .ok (.return_, 1) := by decide +kernel
theorem dX1_hasPressUpTo_0 : decode cX1_hasPressUpTo 0 = .ok (.aload_n 0, 1) := by decide +kernel
theorem dX1_hasPressUpTo_1 : decode cX1_hasPressUpTo 1 = .ok (.getfield 21, 3) := by decide +kernel
theorem dX1_hasPressUpTo_4 : decode cX1_hasPressUpTo 4 = .ok (.ldc2_w 19, 3) := by decide +kernel
theorem dX1_hasPressUpTo_7 : decode cX1_hasPressUpTo 7 = .ok (.lcmp, 1) := by decide +kernel
theorem dX1_hasPressUpTo_8 : decode cX1_hasPressUpTo 8 = .ok (.ifCond .eq 16, 3) := by decide +kernel
theorem dX1_hasPressUpTo_11 : decode cX1_hasPressUpTo 11 = .ok (.aload_n 0, 1) := by decide +kernel
theorem dX1_hasPressUpTo_12 : decode cX1_hasPressUpTo 12 = .ok (.getfield 21, 3) := by decide +kernel
theorem dX1_hasPressUpTo_15 : decode cX1_hasPressUpTo 15 = .ok (.lload_n 1, 1) := by decide +kernel
theorem dX1_hasPressUpTo_16 : decode cX1_hasPressUpTo 16 = .ok (.lcmp, 1) := by decide +kernel
theorem dX1_hasPressUpTo_17 : decode cX1_hasPressUpTo 17 = .ok (.ifCond .gt 7, 3) := by decide +kernel
theorem dX1_hasPressUpTo_20 : decode cX1_hasPressUpTo 20 = .ok (.iconst 1, 1) := by decide +kernel
theorem dX1_hasPressUpTo_21 : decode cX1_hasPressUpTo 21 = .ok (.goto 4, 3) := by decide +kernel
theorem dX1_hasPressUpTo_24 : decode cX1_hasPressUpTo 24 = .ok (.iconst 0, 1) := by decide +kernel
theorem dX1_hasPressUpTo_25 : decode cX1_hasPressUpTo 25 = .ok (.ireturn, 1) := by decide +kernel
theorem dX1_dropPress_0 : decode cX1_dropPress 0 = .ok (.aload_n 0, 1) := by decide +kernel
theorem dX1_dropPress_1 : decode cX1_dropPress 1 = .ok (.ldc2_w 19, 3) := by decide +kernel
theorem dX1_dropPress_4 : decode cX1_dropPress 4 = .ok (.putfield 21, 3) := by decide +kernel
theorem dX1_dropPress_7 : decode cX1_dropPress 7 = .ok (.return_, 1) := by decide +kernel
theorem dX2_init_0 : decode cX2_init 0 = .ok (.aload_n 0, 1) := by decide +kernel
theorem dX2_init_1 : decode cX2_init 1 = .ok (.invokespecial 3, 3) := by decide +kernel
theorem dX2_init_4 : decode cX2_init 4 = .ok (.aload_n 0, 1) := by decide +kernel
theorem dX2_init_5 : decode cX2_init 5 = .ok (.sipush 240, 3) := by decide +kernel
theorem dX2_init_8 : decode cX2_init 8 = .ok (.anewarray 11, 3) := by decide +kernel
theorem dX2_init_11 : decode cX2_init 11 = .ok (.putfield 13, 3) := by decide +kernel
theorem dX2_init_14 : decode cX2_init 14 = .ok (.aload_n 0, 1) := by decide +kernel
theorem dX2_init_15 : decode cX2_init 15 = .ok (.iconst 1, 1) := by decide +kernel
theorem dX2_init_16 : decode cX2_init 16 = .ok (.putfield 17, 3) := by decide +kernel
theorem dX2_init_19 : decode cX2_init 19 = .ok (.return_, 1) := by decide +kernel
theorem dX2_add_0 : decode cX2_add 0 = .ok (.aload_n 0, 1) := by decide +kernel
theorem dX2_add_1 : decode cX2_add 1 = .ok (.getfield 21, 3) := by decide +kernel
theorem dX2_add_4 : decode cX2_add 4 = .ok (.ifCond .lt 15, 3) := by decide +kernel
theorem dX2_add_7 : decode cX2_add 7 = .ok (.aload_n 0, 1) := by decide +kernel
theorem dX2_add_8 : decode cX2_add 8 = .ok (.getfield 21, 3) := by decide +kernel
theorem dX2_add_11 : decode cX2_add 11 = .ok (.aload_n 0, 1) := by decide +kernel
theorem dX2_add_12 : decode cX2_add 12 = .ok (.getfield 13, 3) := by decide +kernel
theorem dX2_add_15 : decode cX2_add 15 = .ok (.arraylength, 1) := by decide +kernel
theorem dX2_add_16 : decode cX2_add 16 = .ok (.if_icmp .lt 4, 3) := by decide +kernel
theorem dX2_add_19 : decode cX2_add 19 = .ok (.return_, 1) := by decide +kernel
theorem dX2_add_20 : decode cX2_add 20 = .ok (.aload_n 0, 1) := by decide +kernel
theorem dX2_add_21 : decode cX2_add 21 = .ok (.aload_n 0, 1) := by decide +kernel
theorem dX2_add_22 : decode cX2_add 22 = .ok (.getfield 17, 3) := by decide +kernel
theorem dX2_add_25 : decode cX2_add 25 = .ok (.iload_n 1, 1) := by decide +kernel
theorem dX2_add_26 : decode cX2_add 26 = .ok (.iload_n 2, 1) := by decide +kernel
theorem dX2_add_27 : decode cX2_add 27 = .ok (.iload_n 3, 1) := by decide +kernel
theorem dX2_add_28 : decode cX2_add 28 = .ok (.lload 4, 2) := by decide +kernel
theorem dX2_add_30 : decode cX2_add 30 = .ok (.invokestatic 24, 3) := by decide +kernel
theorem dX2_add_33 : decode cX2_add 33 = .ok (.putfield 17, 3) := by decide +kernel
theorem dX2_add_36 : decode cX2_add 36 = .ok (.aload_n 0, 1) := by decide +kernel
theorem dX2_add_37 : decode cX2_add 37 = .ok (.getfield 13, 3) := by decide +kernel
theorem dX2_add_40 : decode cX2_add 40 = .ok (.aload_n 0, 1) := by decide +kernel
theorem dX2_add_41 : decode cX2_add 41 = .ok (.getfield 21, 3) := by decide +kernel
theorem dX2_add_44 : decode cX2_add 44 = .ok (.new 11, 3) := by decide +kernel
theorem dX2_add_47 : decode cX2_add 47 = .ok (.dup, 1) := by decide +kernel
theorem dX2_add_48 : decode cX2_add 48 = .ok (.iload_n 1, 1) := by decide +kernel
theorem dX2_add_49 : decode cX2_add 49 = .ok (.iload_n 2, 1) := by decide +kernel
theorem dX2_add_50 : decode cX2_add 50 = .ok (.iload_n 3, 1) := by decide +kernel
theorem dX2_add_51 : decode cX2_add 51 = .ok (.lload 4, 2) := by decide +kernel
theorem dX2_add_53 : decode cX2_add 53 = .ok (.aload_n 0, 1) := by decide +kernel
theorem dX2_add_54 : decode cX2_add 54 = .ok (.getfield 17, 3) := by decide +kernel
theorem dX2_add_57 : decode cX2_add 57 = .ok (.invokespecial 28, 3) := by decide +kernel
theorem dX2_add_60 : decode cX2_add 60 = .ok (.aastore, 1) := by decide +kernel
theorem dX2_add_61 : decode cX2_add 61 = .ok (.aload_n 0, 1) := by decide +kernel
theorem dX2_add_62 : decode cX2_add 62 = .ok (.dup, 1) := by decide +kernel
theorem dX2_add_63 : decode cX2_add 63 = .ok (.getfield 21, 3) := by decide +kernel
theorem dX2_add_66 : decode cX2_add 66 = .ok (.iconst 1, 1) := by decide +kernel
theorem dX2_add_67 : decode cX2_add 67 = .ok (.iadd, 1) := by decide +kernel
theorem dX2_add_68 : decode cX2_add 68 = .ok (.putfield 21, 3) := by decide +kernel
theorem dX2_add_71 : decode cX2_add 71 = .ok (.return_, 1) := by decide +kernel
theorem dX2_at_0 : decode cX2_at 0 = .ok (.iload_n 1, 1) := by decide +kernel
theorem dX2_at_1 : decode cX2_at 1 = .ok (.ifCond .lt 20, 3) := by decide +kernel
theorem dX2_at_4 : decode cX2_at 4 = .ok (.iload_n 1, 1) := by decide +kernel
theorem dX2_at_5 : decode cX2_at 5 = .ok (.aload_n 0, 1) := by decide +kernel
theorem dX2_at_6 : decode cX2_at 6 = .ok (.getfield 21, 3) := by decide +kernel
theorem dX2_at_9 : decode cX2_at 9 = .ok (.if_icmp .ge 12, 3) := by decide +kernel
theorem dX2_at_12 : decode cX2_at 12 = .ok (.iload_n 1, 1) := by decide +kernel
theorem dX2_at_13 : decode cX2_at 13 = .ok (.aload_n 0, 1) := by decide +kernel
theorem dX2_at_14 : decode cX2_at 14 = .ok (.getfield 13, 3) := by decide +kernel
theorem dX2_at_17 : decode cX2_at 17 = .ok (.arraylength, 1) := by decide +kernel
theorem dX2_at_18 : decode cX2_at 18 = .ok (.if_icmp .lt 7, 3) := by decide +kernel
theorem dX2_at_21 : decode cX2_at 21 = .ok (.aconst_null, 1) := by decide +kernel
theorem dX2_at_22 : decode cX2_at 22 = .ok (.goto 9, 3) := by decide +kernel
theorem dX2_at_25 : decode cX2_at 25 = .ok (.aload_n 0, 1) := by decide +kernel
theorem dX2_at_26 : decode cX2_at 26 = .ok (.getfield 13, 3) := by decide +kernel
theorem dX2_at_29 : decode cX2_at 29 = .ok (.iload_n 1, 1) := by decide +kernel
theorem dX2_at_30 : decode cX2_at 30 = .ok (.aaload, 1) := by decide +kernel
theorem dX2_at_31 : decode cX2_at 31 = .ok (.areturn, 1) := by decide +kernel
theorem dX2_isWhole_0 : decode cX2_isWhole 0 = .ok (.iconst 1, 1) := by decide +kernel
theorem dX2_isWhole_1 : decode cX2_isWhole 1 = .ok (.istore_n 1, 1) := by decide +kernel
theorem dX2_isWhole_2 : decode cX2_isWhole 2 = .ok (.iconst 0, 1) := by decide +kernel
theorem dX2_isWhole_3 : decode cX2_isWhole 3 = .ok (.istore_n 2, 1) := by decide +kernel
theorem dX2_isWhole_4 : decode cX2_isWhole 4 = .ok (.iload_n 2, 1) := by decide +kernel
theorem dX2_isWhole_5 : decode cX2_isWhole 5 = .ok (.aload_n 0, 1) := by decide +kernel
theorem dX2_isWhole_6 : decode cX2_isWhole 6 = .ok (.getfield 21, 3) := by decide +kernel
theorem dX2_isWhole_9 : decode cX2_isWhole 9 = .ok (.if_icmp .ge 38, 3) := by decide +kernel
theorem dX2_isWhole_12 : decode cX2_isWhole 12 = .ok (.aload_n 0, 1) := by decide +kernel
theorem dX2_isWhole_13 : decode cX2_isWhole 13 = .ok (.iload_n 2, 1) := by decide +kernel
theorem dX2_isWhole_14 : decode cX2_isWhole 14 = .ok (.invokevirtual 31, 3) := by decide +kernel
theorem dX2_isWhole_17 : decode cX2_isWhole 17 = .ok (.astore_n 3, 1) := by decide +kernel
theorem dX2_isWhole_18 : decode cX2_isWhole 18 = .ok (.aload_n 3, 1) := by decide +kernel
theorem dX2_isWhole_19 : decode cX2_isWhole 19 = .ok (.ifnull 15, 3) := by decide +kernel
theorem dX2_isWhole_22 : decode cX2_isWhole 22 = .ok (.aload_n 3, 1) := by decide +kernel
theorem dX2_isWhole_23 : decode cX2_isWhole 23 = .ok (.getfield 35, 3) := by decide +kernel
theorem dX2_isWhole_26 : decode cX2_isWhole 26 = .ok (.aload_n 3, 1) := by decide +kernel
theorem dX2_isWhole_27 : decode cX2_isWhole 27 = .ok (.iload_n 1, 1) := by decide +kernel
theorem dX2_isWhole_28 : decode cX2_isWhole 28 = .ok (.invokevirtual 38, 3) := by decide +kernel
theorem dX2_isWhole_31 : decode cX2_isWhole 31 = .ok (.if_icmp .eq 5, 3) := by decide +kernel
theorem dX2_isWhole_34 : decode cX2_isWhole 34 = .ok (.iconst 0, 1) := by decide +kernel
theorem dX2_isWhole_35 : decode cX2_isWhole 35 = .ok (.ireturn, 1) := by decide +kernel
theorem dX2_isWhole_36 : decode cX2_isWhole 36 = .ok (.aload_n 3, 1) := by decide +kernel
theorem dX2_isWhole_37 : decode cX2_isWhole 37 = .ok (.getfield 35, 3) := by decide +kernel
theorem dX2_isWhole_40 : decode cX2_isWhole 40 = .ok (.istore_n 1, 1) := by decide +kernel
theorem dX2_isWhole_41 : decode cX2_isWhole 41 = .ok (.iinc 2 1, 3) := by decide +kernel
theorem dX2_isWhole_44 : decode cX2_isWhole 44 = .ok (.goto (-40), 3) := by decide +kernel
theorem dX2_isWhole_47 : decode cX2_isWhole 47 = .ok (.iconst 1, 1) := by decide +kernel
theorem dX2_isWhole_48 : decode cX2_isWhole 48 = .ok (.ireturn, 1) := by decide +kernel
theorem dX3_init_0 : decode cX3_init 0 = .ok (.aload_n 0, 1) := by decide +kernel
theorem dX3_init_1 : decode cX3_init 1 = .ok (.invokespecial 1, 3) := by decide +kernel
theorem dX3_init_4 : decode cX3_init 4 = .ok (.aload_n 0, 1) := by decide +kernel
theorem dX3_init_5 : decode cX3_init 5 = .ok (.iload_n 1, 1) := by decide +kernel
theorem dX3_init_6 : decode cX3_init 6 = .ok (.putfield 7, 3) := by decide +kernel
theorem dX3_init_9 : decode cX3_init 9 = .ok (.aload_n 0, 1) := by decide +kernel
theorem dX3_init_10 : decode cX3_init 10 = .ok (.iload_n 2, 1) := by decide +kernel
theorem dX3_init_11 : decode cX3_init 11 = .ok (.putfield 13, 3) := by decide +kernel
theorem dX3_init_14 : decode cX3_init 14 = .ok (.aload_n 0, 1) := by decide +kernel
theorem dX3_init_15 : decode cX3_init 15 = .ok (.iload_n 3, 1) := by decide +kernel
theorem dX3_init_16 : decode cX3_init 16 = .ok (.putfield 16, 3) := by decide +kernel
theorem dX3_init_19 : decode cX3_init 19 = .ok (.aload_n 0, 1) := by decide +kernel
theorem dX3_init_20 : decode cX3_init 20 = .ok (.lload 4, 2) := by decide +kernel
theorem dX3_init_22 : decode cX3_init 22 = .ok (.putfield 19, 3) := by decide +kernel
theorem dX3_init_25 : decode cX3_init 25 = .ok (.aload_n 0, 1) := by decide +kernel
theorem dX3_init_26 : decode cX3_init 26 = .ok (.iload 6, 2) := by decide +kernel
theorem dX3_init_28 : decode cX3_init 28 = .ok (.putfield 23, 3) := by decide +kernel
theorem dX3_init_31 : decode cX3_init 31 = .ok (.return_, 1) := by decide +kernel
theorem dX3_linkBehind_0 : decode cX3_linkBehind 0 = .ok (.iload_n 1, 1) := by decide +kernel
theorem dX3_linkBehind_1 : decode cX3_linkBehind 1 = .ok (.aload_n 0, 1) := by decide +kernel
theorem dX3_linkBehind_2 : decode cX3_linkBehind 2 = .ok (.getfield 7, 3) := by decide +kernel
theorem dX3_linkBehind_5 : decode cX3_linkBehind 5 = .ok (.aload_n 0, 1) := by decide +kernel
theorem dX3_linkBehind_6 : decode cX3_linkBehind 6 = .ok (.getfield 13, 3) := by decide +kernel
theorem dX3_linkBehind_9 : decode cX3_linkBehind 9 = .ok (.aload_n 0, 1) := by decide +kernel
theorem dX3_linkBehind_10 : decode cX3_linkBehind 10 = .ok (.getfield 16, 3) := by decide +kernel
theorem dX3_linkBehind_13 : decode cX3_linkBehind 13 = .ok (.aload_n 0, 1) := by decide +kernel
theorem dX3_linkBehind_14 : decode cX3_linkBehind 14 = .ok (.getfield 19, 3) := by decide +kernel
theorem dX3_linkBehind_17 : decode cX3_linkBehind 17 = .ok (.invokestatic 26, 3) := by decide +kernel
theorem dX3_linkBehind_20 : decode cX3_linkBehind 20 = .ok (.ireturn, 1) := by decide +kernel
theorem dX3_linkOf_0 : decode cX3_linkOf 0 = .ok (.ldc2_w 30, 3) := by decide +kernel
theorem dX3_linkOf_3 : decode cX3_linkOf 3 = .ok (.iload_n 0, 1) := by decide +kernel
theorem dX3_linkOf_4 : decode cX3_linkOf 4 = .ok (.i2l, 1) := by decide +kernel
theorem dX3_linkOf_5 : decode cX3_linkOf 5 = .ok (.lmul, 1) := by decide +kernel
theorem dX3_linkOf_6 : decode cX3_linkOf 6 = .ok (.ldc2_w 32, 3) := by decide +kernel
theorem dX3_linkOf_9 : decode cX3_linkOf 9 = .ok (.iload_n 1, 1) := by decide +kernel
theorem dX3_linkOf_10 : decode cX3_linkOf 10 = .ok (.i2l, 1) := by decide +kernel
theorem dX3_linkOf_11 : decode cX3_linkOf 11 = .ok (.lmul, 1) := by decide +kernel
theorem dX3_linkOf_12 : decode cX3_linkOf 12 = .ok (.ladd, 1) := by decide +kernel
theorem dX3_linkOf_13 : decode cX3_linkOf 13 = .ok (.ldc2_w 34, 3) := by decide +kernel
theorem dX3_linkOf_16 : decode cX3_linkOf 16 = .ok (.iload_n 2, 1) := by decide +kernel
theorem dX3_linkOf_17 : decode cX3_linkOf 17 = .ok (.i2l, 1) := by decide +kernel
theorem dX3_linkOf_18 : decode cX3_linkOf 18 = .ok (.lmul, 1) := by decide +kernel
theorem dX3_linkOf_19 : decode cX3_linkOf 19 = .ok (.ladd, 1) := by decide +kernel
theorem dX3_linkOf_20 : decode cX3_linkOf 20 = .ok (.ldc2_w 36, 3) := by decide +kernel
theorem dX3_linkOf_23 : decode cX3_linkOf 23 = .ok (.iload_n 3, 1) := by decide +kernel
theorem dX3_linkOf_24 : decode cX3_linkOf 24 = .ok (.iconst 1, 1) := by decide +kernel
theorem dX3_linkOf_25 : decode cX3_linkOf 25 = .ok (.iadd, 1) := by decide +kernel
theorem dX3_linkOf_26 : decode cX3_linkOf 26 = .ok (.i2l, 1) := by decide +kernel
theorem dX3_linkOf_27 : decode cX3_linkOf 27 = .ok (.lmul, 1) := by decide +kernel
theorem dX3_linkOf_28 : decode cX3_linkOf 28 = .ok (.ladd, 1) := by decide +kernel
theorem dX3_linkOf_29 : decode cX3_linkOf 29 = .ok (.lload 4, 2) := by decide +kernel
theorem dX3_linkOf_31 : decode cX3_linkOf 31 = .ok (.ladd, 1) := by decide +kernel
theorem dX3_linkOf_32 : decode cX3_linkOf 32 = .ok (.ldc2_w 38, 3) := by decide +kernel
theorem dX3_linkOf_35 : decode cX3_linkOf 35 = .ok (.lrem, 1) := by decide +kernel
theorem dX3_linkOf_36 : decode cX3_linkOf 36 = .ok (.l2i, 1) := by decide +kernel
theorem dX3_linkOf_37 : decode cX3_linkOf 37 = .ok (.ireturn, 1) := by decide +kernel
theorem dX4_init_0 : decode cX4_init 0 = .ok (.aload_n 0, 1) := by decide +kernel
theorem dX4_init_1 : decode cX4_init 1 = .ok (.invokespecial 1, 3) := by decide +kernel
theorem dX4_init_4 : decode cX4_init 4 = .ok (.return_, 1) := by decide +kernel
theorem dX4_endOf_0 : decode cX4_endOf 0 = .ok (.lload_n 2, 1) := by decide +kernel
theorem dX4_endOf_1 : decode cX4_endOf 1 = .ok (.lconst 0, 1) := by decide +kernel
theorem dX4_endOf_2 : decode cX4_endOf 2 = .ok (.lcmp, 1) := by decide +kernel
theorem dX4_endOf_3 : decode cX4_endOf 3 = .ok (.ifCond .gt 7, 3) := by decide +kernel
theorem dX4_endOf_6 : decode cX4_endOf 6 = .ok (.lconst 0, 1) := by decide +kernel
theorem dX4_endOf_7 : decode cX4_endOf 7 = .ok (.goto 12, 3) := by decide +kernel
theorem dX4_endOf_10 : decode cX4_endOf 10 = .ok (.lload_n 0, 1) := by decide +kernel
theorem dX4_endOf_11 : decode cX4_endOf 11 = .ok (.lload_n 2, 1) := by decide +kernel
theorem dX4_endOf_12 : decode cX4_endOf 12 = .ok (.ldiv, 1) := by decide +kernel
theorem dX4_endOf_13 : decode cX4_endOf 13 = .ok (.lconst 1, 1) := by decide +kernel
theorem dX4_endOf_14 : decode cX4_endOf 14 = .ok (.ladd, 1) := by decide +kernel
theorem dX4_endOf_15 : decode cX4_endOf 15 = .ok (.ldc2_w 7, 3) := by decide +kernel
theorem dX4_endOf_18 : decode cX4_endOf 18 = .ok (.lmul, 1) := by decide +kernel
theorem dX4_endOf_19 : decode cX4_endOf 19 = .ok (.lreturn, 1) := by decide +kernel
theorem dX4_begin_0 : decode cX4_begin 0 = .ok (.aload_n 0, 1) := by decide +kernel
theorem dX4_begin_1 : decode cX4_begin 1 = .ok (.aload_n 1, 1) := by decide +kernel
theorem dX4_begin_2 : decode cX4_begin 2 = .ok (.putfield 9, 3) := by decide +kernel
theorem dX4_begin_5 : decode cX4_begin 5 = .ok (.aload_n 0, 1) := by decide +kernel
theorem dX4_begin_6 : decode cX4_begin 6 = .ok (.lload_n 2, 1) := by decide +kernel
theorem dX4_begin_7 : decode cX4_begin 7 = .ok (.putfield 15, 3) := by decide +kernel
theorem dX4_begin_10 : decode cX4_begin 10 = .ok (.aload_n 0, 1) := by decide +kernel
theorem dX4_begin_11 : decode cX4_begin 11 = .ok (.lload 4, 2) := by decide +kernel
theorem dX4_begin_13 : decode cX4_begin 13 = .ok (.putfield 19, 3) := by decide +kernel
theorem dX4_begin_16 : decode cX4_begin 16 = .ok (.aload_n 0, 1) := by decide +kernel
theorem dX4_begin_17 : decode cX4_begin 17 = .ok (.lload 6, 2) := by decide +kernel
theorem dX4_begin_19 : decode cX4_begin 19 = .ok (.putfield 22, 3) := by decide +kernel
theorem dX4_begin_22 : decode cX4_begin 22 = .ok (.aload_n 0, 1) := by decide +kernel
theorem dX4_begin_23 : decode cX4_begin 23 = .ok (.lconst 0, 1) := by decide +kernel
theorem dX4_begin_24 : decode cX4_begin 24 = .ok (.putfield 25, 3) := by decide +kernel
theorem dX4_begin_27 : decode cX4_begin 27 = .ok (.aload_n 0, 1) := by decide +kernel
theorem dX4_begin_28 : decode cX4_begin 28 = .ok (.iconst 0, 1) := by decide +kernel
theorem dX4_begin_29 : decode cX4_begin 29 = .ok (.putfield 28, 3) := by decide +kernel
theorem dX4_begin_32 : decode cX4_begin 32 = .ok (.return_, 1) := by decide +kernel
theorem dX4_priceAt_0 : decode cX4_priceAt 0 = .ok (.aload_n 0, 1) := by decide +kernel
theorem dX4_priceAt_1 : decode cX4_priceAt 1 = .ok (.getfield 15, 3) := by decide +kernel
theorem dX4_priceAt_4 : decode cX4_priceAt 4 = .ok (.aload_n 0, 1) := by decide +kernel
theorem dX4_priceAt_5 : decode cX4_priceAt 5 = .ok (.getfield 19, 3) := by decide +kernel
theorem dX4_priceAt_8 : decode cX4_priceAt 8 = .ok (.lload_n 1, 1) := by decide +kernel
theorem dX4_priceAt_9 : decode cX4_priceAt 9 = .ok (.ldc2_w 7, 3) := by decide +kernel
theorem dX4_priceAt_12 : decode cX4_priceAt 12 = .ok (.ldiv, 1) := by decide +kernel
theorem dX4_priceAt_13 : decode cX4_priceAt 13 = .ok (.lmul, 1) := by decide +kernel
theorem dX4_priceAt_14 : decode cX4_priceAt 14 = .ok (.lsub, 1) := by decide +kernel
theorem dX4_priceAt_15 : decode cX4_priceAt 15 = .ok (.lreturn, 1) := by decide +kernel
theorem dX4_goOn_0 : decode cX4_goOn 0 = .ok (.aload_n 0, 1) := by decide +kernel
theorem dX4_goOn_1 : decode cX4_goOn 1 = .ok (.aload_n 0, 1) := by decide +kernel
theorem dX4_goOn_2 : decode cX4_goOn 2 = .ok (.getfield 25, 3) := by decide +kernel
theorem dX4_goOn_5 : decode cX4_goOn 5 = .ok (.lload_n 1, 1) := by decide +kernel
theorem dX4_goOn_6 : decode cX4_goOn 6 = .ok (.ladd, 1) := by decide +kernel
theorem dX4_goOn_7 : decode cX4_goOn 7 = .ok (.aload_n 0, 1) := by decide +kernel
theorem dX4_goOn_8 : decode cX4_goOn 8 = .ok (.getfield 22, 3) := by decide +kernel
theorem dX4_goOn_11 : decode cX4_goOn 11 = .ok (.invokestatic 32, 3) := by decide +kernel
theorem dX4_goOn_14 : decode cX4_goOn 14 = .ok (.putfield 25, 3) := by decide +kernel
theorem dX4_goOn_17 : decode cX4_goOn 17 = .ok (.return_, 1) := by decide +kernel
theorem dX4_goBackTo_0 : decode cX4_goBackTo 0 = .ok (.aload_n 0, 1) := by decide +kernel
theorem dX4_goBackTo_1 : decode cX4_goBackTo 1 = .ok (.lload_n 1, 1) := by decide +kernel
theorem dX4_goBackTo_2 : decode cX4_goBackTo 2 = .ok (.ldc2_w 7, 3) := by decide +kernel
theorem dX4_goBackTo_5 : decode cX4_goBackTo 5 = .ok (.ldiv, 1) := by decide +kernel
theorem dX4_goBackTo_6 : decode cX4_goBackTo 6 = .ok (.ldc2_w 7, 3) := by decide +kernel
theorem dX4_goBackTo_9 : decode cX4_goBackTo 9 = .ok (.lmul, 1) := by decide +kernel
theorem dX4_goBackTo_10 : decode cX4_goBackTo 10 = .ok (.putfield 25, 3) := by decide +kernel
theorem dX4_goBackTo_13 : decode cX4_goBackTo 13 = .ok (.return_, 1) := by decide +kernel
theorem dX5_init_0 : decode cX5_init 0 = .ok (.aload_n 0, 1) := by decide +kernel
theorem dX5_init_1 : decode cX5_init 1 = .ok (.invokespecial 3, 3) := by decide +kernel
theorem dX5_init_4 : decode cX5_init 4 = .ok (.aload_n 0, 1) := by decide +kernel
theorem dX5_init_5 : decode cX5_init 5 = .ok (.iload_n 1, 1) := by decide +kernel
theorem dX5_init_6 : decode cX5_init 6 = .ok (.putfield 9, 3) := by decide +kernel
theorem dX5_init_9 : decode cX5_init 9 = .ok (.aload_n 0, 1) := by decide +kernel
theorem dX5_init_10 : decode cX5_init 10 = .ok (.iload_n 2, 1) := by decide +kernel
theorem dX5_init_11 : decode cX5_init 11 = .ok (.putfield 15, 3) := by decide +kernel
theorem dX5_init_14 : decode cX5_init 14 = .ok (.aload_n 0, 1) := by decide +kernel
theorem dX5_init_15 : decode cX5_init 15 = .ok (.lload_n 3, 1) := by decide +kernel
theorem dX5_init_16 : decode cX5_init 16 = .ok (.putfield 18, 3) := by decide +kernel
theorem dX5_init_19 : decode cX5_init 19 = .ok (.aload_n 0, 1) := by decide +kernel
theorem dX5_init_20 : decode cX5_init 20 = .ok (.lload 5, 2) := by decide +kernel
theorem dX5_init_22 : decode cX5_init 22 = .ok (.putfield 22, 3) := by decide +kernel
theorem dX5_init_25 : decode cX5_init 25 = .ok (.aload_n 0, 1) := by decide +kernel
theorem dX5_init_26 : decode cX5_init 26 = .ok (.getstatic 25, 3) := by decide +kernel
theorem dX5_init_29 : decode cX5_init 29 = .ok (.putfield 31, 3) := by decide +kernel
theorem dX5_init_32 : decode cX5_init 32 = .ok (.aload_n 0, 1) := by decide +kernel
theorem dX5_init_33 : decode cX5_init 33 = .ok (.iconst (-1), 1) := by decide +kernel
theorem dX5_init_34 : decode cX5_init 34 = .ok (.putfield 34, 3) := by decide +kernel
theorem dX5_init_37 : decode cX5_init 37 = .ok (.return_, 1) := by decide +kernel
theorem dX5_hasTaker_0 : decode cX5_hasTaker 0 = .ok (.aload_n 0, 1) := by decide +kernel
theorem dX5_hasTaker_1 : decode cX5_hasTaker 1 = .ok (.getfield 31, 3) := by decide +kernel
theorem dX5_hasTaker_4 : decode cX5_hasTaker 4 = .ok (.getstatic 37, 3) := by decide +kernel
theorem dX5_hasTaker_7 : decode cX5_hasTaker 7 = .ok (.if_acmp .eq 13, 3) := by decide +kernel
theorem dX5_hasTaker_10 : decode cX5_hasTaker 10 = .ok (.aload_n 0, 1) := by decide +kernel
theorem dX5_hasTaker_11 : decode cX5_hasTaker 11 = .ok (.getfield 31, 3) := by decide +kernel
theorem dX5_hasTaker_14 : decode cX5_hasTaker 14 = .ok (.getstatic 40, 3) := by decide +kernel
theorem dX5_hasTaker_17 : decode cX5_hasTaker 17 = .ok (.if_acmp .ne 7, 3) := by decide +kernel
theorem dX5_hasTaker_20 : decode cX5_hasTaker 20 = .ok (.iconst 1, 1) := by decide +kernel
theorem dX5_hasTaker_21 : decode cX5_hasTaker 21 = .ok (.goto 4, 3) := by decide +kernel
theorem dX5_hasTaker_24 : decode cX5_hasTaker 24 = .ok (.iconst 0, 1) := by decide +kernel
theorem dX5_hasTaker_25 : decode cX5_hasTaker 25 = .ok (.ireturn, 1) := by decide +kernel
theorem dX5_canGoBack_0 : decode cX5_canGoBack 0 = .ok (.aload_n 0, 1) := by decide +kernel
theorem dX5_canGoBack_1 : decode cX5_canGoBack 1 = .ok (.getfield 31, 3) := by decide +kernel
theorem dX5_canGoBack_4 : decode cX5_canGoBack 4 = .ok (.getstatic 25, 3) := by decide +kernel
theorem dX5_canGoBack_7 : decode cX5_canGoBack 7 = .ok (.if_acmp .eq 23, 3) := by decide +kernel
theorem dX5_canGoBack_10 : decode cX5_canGoBack 10 = .ok (.aload_n 0, 1) := by decide +kernel
theorem dX5_canGoBack_11 : decode cX5_canGoBack 11 = .ok (.getfield 31, 3) := by decide +kernel
theorem dX5_canGoBack_14 : decode cX5_canGoBack 14 = .ok (.getstatic 40, 3) := by decide +kernel
theorem dX5_canGoBack_17 : decode cX5_canGoBack 17 = .ok (.if_acmp .eq 13, 3) := by decide +kernel
theorem dX5_canGoBack_20 : decode cX5_canGoBack 20 = .ok (.aload_n 0, 1) := by decide +kernel
theorem dX5_canGoBack_21 : decode cX5_canGoBack 21 = .ok (.getfield 31, 3) := by decide +kernel
theorem dX5_canGoBack_24 : decode cX5_canGoBack 24 = .ok (.getstatic 43, 3) := by decide +kernel
theorem dX5_canGoBack_27 : decode cX5_canGoBack 27 = .ok (.if_acmp .ne 7, 3) := by decide +kernel
theorem dX5_canGoBack_30 : decode cX5_canGoBack 30 = .ok (.iconst 1, 1) := by decide +kernel
theorem dX5_canGoBack_31 : decode cX5_canGoBack 31 = .ok (.goto 4, 3) := by decide +kernel
theorem dX5_canGoBack_34 : decode cX5_canGoBack 34 = .ok (.iconst 0, 1) := by decide +kernel
theorem dX5_canGoBack_35 : decode cX5_canGoBack 35 = .ok (.ireturn, 1) := by decide +kernel
theorem dX5_isOpenOf_0 : decode cX5_isOpenOf 0 = .ok (.aload_n 0, 1) := by decide +kernel
theorem dX5_isOpenOf_1 : decode cX5_isOpenOf 1 = .ok (.getfield 31, 3) := by decide +kernel
theorem dX5_isOpenOf_4 : decode cX5_isOpenOf 4 = .ok (.getstatic 25, 3) := by decide +kernel
theorem dX5_isOpenOf_7 : decode cX5_isOpenOf 7 = .ok (.if_acmp .ne 15, 3) := by decide +kernel
theorem dX5_isOpenOf_10 : decode cX5_isOpenOf 10 = .ok (.aload_n 0, 1) := by decide +kernel
theorem dX5_isOpenOf_11 : decode cX5_isOpenOf 11 = .ok (.getfield 15, 3) := by decide +kernel
theorem dX5_isOpenOf_14 : decode cX5_isOpenOf 14 = .ok (.iload_n 1, 1) := by decide +kernel
theorem dX5_isOpenOf_15 : decode cX5_isOpenOf 15 = .ok (.if_icmp .ne 7, 3) := by decide +kernel
theorem dX5_isOpenOf_18 : decode cX5_isOpenOf 18 = .ok (.iconst 1, 1) := by decide +kernel
theorem dX5_isOpenOf_19 : decode cX5_isOpenOf 19 = .ok (.goto 4, 3) := by decide +kernel
theorem dX5_isOpenOf_22 : decode cX5_isOpenOf 22 = .ok (.iconst 0, 1) := by decide +kernel
theorem dX5_isOpenOf_23 : decode cX5_isOpenOf 23 = .ok (.ireturn, 1) := by decide +kernel
theorem dX5_goesBefore_0 : decode cX5_goesBefore 0 = .ok (.aload_n 0, 1) := by decide +kernel
theorem dX5_goesBefore_1 : decode cX5_goesBefore 1 = .ok (.getfield 18, 3) := by decide +kernel
theorem dX5_goesBefore_4 : decode cX5_goesBefore 4 = .ok (.aload_n 1, 1) := by decide +kernel
theorem dX5_goesBefore_5 : decode cX5_goesBefore 5 = .ok (.getfield 18, 3) := by decide +kernel
theorem dX5_goesBefore_8 : decode cX5_goesBefore 8 = .ok (.lcmp, 1) := by decide +kernel
theorem dX5_goesBefore_9 : decode cX5_goesBefore 9 = .ok (.ifCond .gt 26, 3) := by decide +kernel
theorem dX5_goesBefore_12 : decode cX5_goesBefore 12 = .ok (.aload_n 0, 1) := by decide +kernel
theorem dX5_goesBefore_13 : decode cX5_goesBefore 13 = .ok (.getfield 18, 3) := by decide +kernel
theorem dX5_goesBefore_16 : decode cX5_goesBefore 16 = .ok (.aload_n 1, 1) := by decide +kernel
theorem dX5_goesBefore_17 : decode cX5_goesBefore 17 = .ok (.getfield 18, 3) := by decide +kernel
theorem dX5_goesBefore_20 : decode cX5_goesBefore 20 = .ok (.lcmp, 1) := by decide +kernel
theorem dX5_goesBefore_21 : decode cX5_goesBefore 21 = .ok (.ifCond .ne 18, 3) := by decide +kernel
theorem dX5_goesBefore_24 : decode cX5_goesBefore 24 = .ok (.aload_n 0, 1) := by decide +kernel
theorem dX5_goesBefore_25 : decode cX5_goesBefore 25 = .ok (.getfield 9, 3) := by decide +kernel
theorem dX5_goesBefore_28 : decode cX5_goesBefore 28 = .ok (.aload_n 1, 1) := by decide +kernel
theorem dX5_goesBefore_29 : decode cX5_goesBefore 29 = .ok (.getfield 9, 3) := by decide +kernel
theorem dX5_goesBefore_32 : decode cX5_goesBefore 32 = .ok (.if_icmp .ge 7, 3) := by decide +kernel
theorem dX5_goesBefore_35 : decode cX5_goesBefore 35 = .ok (.iconst 1, 1) := by decide +kernel
theorem dX5_goesBefore_36 : decode cX5_goesBefore 36 = .ok (.goto 4, 3) := by decide +kernel
theorem dX5_goesBefore_39 : decode cX5_goesBefore 39 = .ok (.iconst 0, 1) := by decide +kernel
theorem dX5_goesBefore_40 : decode cX5_goesBefore 40 = .ok (.ireturn, 1) := by decide +kernel
theorem dX5_isTiedWith_0 : decode cX5_isTiedWith 0 = .ok (.iload_n 1, 1) := by decide +kernel
theorem dX5_isTiedWith_1 : decode cX5_isTiedWith 1 = .ok (.ifCond .lt 24, 3) := by decide +kernel
theorem dX5_isTiedWith_4 : decode cX5_isTiedWith 4 = .ok (.iload_n 1, 1) := by decide +kernel
theorem dX5_isTiedWith_5 : decode cX5_isTiedWith 5 = .ok (.bipush 30, 2) := by decide +kernel
theorem dX5_isTiedWith_7 : decode cX5_isTiedWith 7 = .ok (.if_icmp .ge 18, 3) := by decide +kernel
theorem dX5_isTiedWith_10 : decode cX5_isTiedWith 10 = .ok (.aload_n 0, 1) := by decide +kernel
theorem dX5_isTiedWith_11 : decode cX5_isTiedWith 11 = .ok (.getfield 46, 3) := by decide +kernel
theorem dX5_isTiedWith_14 : decode cX5_isTiedWith 14 = .ok (.iload_n 1, 1) := by decide +kernel
theorem dX5_isTiedWith_15 : decode cX5_isTiedWith 15 = .ok (.iushr, 1) := by decide +kernel
theorem dX5_isTiedWith_16 : decode cX5_isTiedWith 16 = .ok (.iconst 1, 1) := by decide +kernel
theorem dX5_isTiedWith_17 : decode cX5_isTiedWith 17 = .ok (.iand, 1) := by decide +kernel
theorem dX5_isTiedWith_18 : decode cX5_isTiedWith 18 = .ok (.ifCond .eq 7, 3) := by decide +kernel
theorem dX5_isTiedWith_21 : decode cX5_isTiedWith 21 = .ok (.iconst 1, 1) := by decide +kernel
theorem dX5_isTiedWith_22 : decode cX5_isTiedWith 22 = .ok (.goto 4, 3) := by decide +kernel
theorem dX5_isTiedWith_25 : decode cX5_isTiedWith 25 = .ok (.iconst 0, 1) := by decide +kernel
theorem dX5_isTiedWith_26 : decode cX5_isTiedWith 26 = .ok (.ireturn, 1) := by decide +kernel
theorem dX5_leastOffer_0 : decode cX5_leastOffer 0 = .ok (.aload_n 0, 1) := by decide +kernel
theorem dX5_leastOffer_1 : decode cX5_leastOffer 1 = .ok (.getfield 31, 3) := by decide +kernel
theorem dX5_leastOffer_4 : decode cX5_leastOffer 4 = .ok (.getstatic 40, 3) := by decide +kernel
theorem dX5_leastOffer_7 : decode cX5_leastOffer 7 = .ok (.if_acmp .ne 23, 3) := by decide +kernel
theorem dX5_leastOffer_10 : decode cX5_leastOffer 10 = .ok (.aload_n 0, 1) := by decide +kernel
theorem dX5_leastOffer_11 : decode cX5_leastOffer 11 = .ok (.getfield 49, 3) := by decide +kernel
theorem dX5_leastOffer_14 : decode cX5_leastOffer 14 = .ok (.lconst 1, 1) := by decide +kernel
theorem dX5_leastOffer_15 : decode cX5_leastOffer 15 = .ok (.aload_n 0, 1) := by decide +kernel
theorem dX5_leastOffer_16 : decode cX5_leastOffer 16 = .ok (.getfield 49, 3) := by decide +kernel
theorem dX5_leastOffer_19 : decode cX5_leastOffer 19 = .ok (.ldc2_w 52, 3) := by decide +kernel
theorem dX5_leastOffer_22 : decode cX5_leastOffer 22 = .ok (.ldiv, 1) := by decide +kernel
theorem dX5_leastOffer_23 : decode cX5_leastOffer 23 = .ok (.invokestatic 54, 3) := by decide +kernel
theorem dX5_leastOffer_26 : decode cX5_leastOffer 26 = .ok (.ladd, 1) := by decide +kernel
theorem dX5_leastOffer_27 : decode cX5_leastOffer 27 = .ok (.goto 7, 3) := by decide +kernel
theorem dX5_leastOffer_30 : decode cX5_leastOffer 30 = .ok (.aload_n 0, 1) := by decide +kernel
theorem dX5_leastOffer_31 : decode cX5_leastOffer 31 = .ok (.getfield 22, 3) := by decide +kernel
theorem dX5_leastOffer_34 : decode cX5_leastOffer 34 = .ok (.lreturn, 1) := by decide +kernel
theorem dX5_offerOf_0 : decode cX5_offerOf 0 = .ok (.aload_n 0, 1) := by decide +kernel
theorem dX5_offerOf_1 : decode cX5_offerOf 1 = .ok (.getfield 31, 3) := by decide +kernel
theorem dX5_offerOf_4 : decode cX5_offerOf 4 = .ok (.getstatic 40, 3) := by decide +kernel
theorem dX5_offerOf_7 : decode cX5_offerOf 7 = .ok (.if_acmp .ne 18, 3) := by decide +kernel
theorem dX5_offerOf_10 : decode cX5_offerOf 10 = .ok (.aload_n 0, 1) := by decide +kernel
theorem dX5_offerOf_11 : decode cX5_offerOf 11 = .ok (.getfield 34, 3) := by decide +kernel
theorem dX5_offerOf_14 : decode cX5_offerOf 14 = .ok (.iload_n 1, 1) := by decide +kernel
theorem dX5_offerOf_15 : decode cX5_offerOf 15 = .ok (.if_icmp .ne 10, 3) := by decide +kernel
theorem dX5_offerOf_18 : decode cX5_offerOf 18 = .ok (.aload_n 0, 1) := by decide +kernel
theorem dX5_offerOf_19 : decode cX5_offerOf 19 = .ok (.getfield 49, 3) := by decide +kernel
theorem dX5_offerOf_22 : decode cX5_offerOf 22 = .ok (.goto 4, 3) := by decide +kernel
theorem dX5_offerOf_25 : decode cX5_offerOf 25 = .ok (.lconst 0, 1) := by decide +kernel
theorem dX5_offerOf_26 : decode cX5_offerOf 26 = .ok (.lreturn, 1) := by decide +kernel
theorem dX5_sellTo_0 : decode cX5_sellTo 0 = .ok (.aload_n 0, 1) := by decide +kernel
theorem dX5_sellTo_1 : decode cX5_sellTo 1 = .ok (.getstatic 37, 3) := by decide +kernel
theorem dX5_sellTo_4 : decode cX5_sellTo 4 = .ok (.putfield 31, 3) := by decide +kernel
theorem dX5_sellTo_7 : decode cX5_sellTo 7 = .ok (.aload_n 0, 1) := by decide +kernel
theorem dX5_sellTo_8 : decode cX5_sellTo 8 = .ok (.iload_n 1, 1) := by decide +kernel
theorem dX5_sellTo_9 : decode cX5_sellTo 9 = .ok (.putfield 34, 3) := by decide +kernel
theorem dX5_sellTo_12 : decode cX5_sellTo 12 = .ok (.aload_n 0, 1) := by decide +kernel
theorem dX5_sellTo_13 : decode cX5_sellTo 13 = .ok (.lload_n 2, 1) := by decide +kernel
theorem dX5_sellTo_14 : decode cX5_sellTo 14 = .ok (.putfield 49, 3) := by decide +kernel
theorem dX5_sellTo_17 : decode cX5_sellTo 17 = .ok (.return_, 1) := by decide +kernel
theorem dX6_init_0 : decode cX6_init 0 = .ok (.aload_n 0, 1) := by decide +kernel
theorem dX6_init_1 : decode cX6_init 1 = .ok (.invokespecial 3, 3) := by decide +kernel
theorem dX6_init_4 : decode cX6_init 4 = .ok (.aload_n 0, 1) := by decide +kernel
theorem dX6_init_5 : decode cX6_init 5 = .ok (.bipush 18, 2) := by decide +kernel
theorem dX6_init_7 : decode cX6_init 7 = .ok (.anewarray 9, 3) := by decide +kernel
theorem dX6_init_10 : decode cX6_init 10 = .ok (.putfield 11, 3) := by decide +kernel
theorem dX6_init_13 : decode cX6_init 13 = .ok (.aload_n 0, 1) := by decide +kernel
theorem dX6_init_14 : decode cX6_init 14 = .ok (.bipush 19, 2) := by decide +kernel
theorem dX6_init_16 : decode cX6_init 16 = .ok (.newarray .long, 2) := by decide +kernel
theorem dX6_init_18 : decode cX6_init 18 = .ok (.putfield 17, 3) := by decide +kernel
theorem dX6_init_21 : decode cX6_init 21 = .ok (.aload_n 0, 1) := by decide +kernel
theorem dX6_init_22 : decode cX6_init 22 = .ok (.bipush 30, 2) := by decide +kernel
theorem dX6_init_24 : decode cX6_init 24 = .ok (.newarray .long, 2) := by decide +kernel
theorem dX6_init_26 : decode cX6_init 26 = .ok (.putfield 21, 3) := by decide +kernel
theorem dX6_init_29 : decode cX6_init 29 = .ok (.return_, 1) := by decide +kernel
theorem dX6_clear_0 : decode cX6_clear 0 = .ok (.aload_n 0, 1) := by decide +kernel
theorem dX6_clear_1 : decode cX6_clear 1 = .ok (.iconst 0, 1) := by decide +kernel
theorem dX6_clear_2 : decode cX6_clear 2 = .ok (.putfield 24, 3) := by decide +kernel
theorem dX6_clear_5 : decode cX6_clear 5 = .ok (.aload_n 0, 1) := by decide +kernel
theorem dX6_clear_6 : decode cX6_clear 6 = .ok (.iconst 0, 1) := by decide +kernel
theorem dX6_clear_7 : decode cX6_clear 7 = .ok (.putfield 28, 3) := by decide +kernel
theorem dX6_clear_10 : decode cX6_clear 10 = .ok (.aload_n 0, 1) := by decide +kernel
theorem dX6_clear_11 : decode cX6_clear 11 = .ok (.lconst 0, 1) := by decide +kernel
theorem dX6_clear_12 : decode cX6_clear 12 = .ok (.putfield 31, 3) := by decide +kernel
theorem dX6_clear_15 : decode cX6_clear 15 = .ok (.return_, 1) := by decide +kernel
theorem dX6_setPurse_0 : decode cX6_setPurse 0 = .ok (.iload_n 1, 1) := by decide +kernel
theorem dX6_setPurse_1 : decode cX6_setPurse 1 = .ok (.ifCond .lt 19, 3) := by decide +kernel
theorem dX6_setPurse_4 : decode cX6_setPurse 4 = .ok (.iload_n 1, 1) := by decide +kernel
theorem dX6_setPurse_5 : decode cX6_setPurse 5 = .ok (.aload_n 0, 1) := by decide +kernel
theorem dX6_setPurse_6 : decode cX6_setPurse 6 = .ok (.getfield 21, 3) := by decide +kernel
theorem dX6_setPurse_9 : decode cX6_setPurse 9 = .ok (.arraylength, 1) := by decide +kernel
theorem dX6_setPurse_10 : decode cX6_setPurse 10 = .ok (.if_icmp .ge 10, 3) := by decide +kernel
theorem dX6_setPurse_13 : decode cX6_setPurse 13 = .ok (.aload_n 0, 1) := by decide +kernel
theorem dX6_setPurse_14 : decode cX6_setPurse 14 = .ok (.getfield 21, 3) := by decide +kernel
theorem dX6_setPurse_17 : decode cX6_setPurse 17 = .ok (.iload_n 1, 1) := by decide +kernel
theorem dX6_setPurse_18 : decode cX6_setPurse 18 = .ok (.lload_n 2, 1) := by decide +kernel
theorem dX6_setPurse_19 : decode cX6_setPurse 19 = .ok (.lastore, 1) := by decide +kernel
theorem dX6_setPurse_20 : decode cX6_setPurse 20 = .ok (.return_, 1) := by decide +kernel
theorem dX6_add_0 : decode cX6_add 0 = .ok (.aload_n 0, 1) := by decide +kernel
theorem dX6_add_1 : decode cX6_add 1 = .ok (.getfield 24, 3) := by decide +kernel
theorem dX6_add_4 : decode cX6_add 4 = .ok (.ifCond .lt 35, 3) := by decide +kernel
theorem dX6_add_7 : decode cX6_add 7 = .ok (.aload_n 0, 1) := by decide +kernel
theorem dX6_add_8 : decode cX6_add 8 = .ok (.getfield 24, 3) := by decide +kernel
theorem dX6_add_11 : decode cX6_add 11 = .ok (.aload_n 0, 1) := by decide +kernel
theorem dX6_add_12 : decode cX6_add 12 = .ok (.getfield 11, 3) := by decide +kernel
theorem dX6_add_15 : decode cX6_add 15 = .ok (.arraylength, 1) := by decide +kernel
theorem dX6_add_16 : decode cX6_add 16 = .ok (.if_icmp .ge 23, 3) := by decide +kernel
theorem dX6_add_19 : decode cX6_add 19 = .ok (.aload_n 0, 1) := by decide +kernel
theorem dX6_add_20 : decode cX6_add 20 = .ok (.getfield 11, 3) := by decide +kernel
theorem dX6_add_23 : decode cX6_add 23 = .ok (.aload_n 0, 1) := by decide +kernel
theorem dX6_add_24 : decode cX6_add 24 = .ok (.getfield 24, 3) := by decide +kernel
theorem dX6_add_27 : decode cX6_add 27 = .ok (.aload_n 1, 1) := by decide +kernel
theorem dX6_add_28 : decode cX6_add 28 = .ok (.aastore, 1) := by decide +kernel
theorem dX6_add_29 : decode cX6_add 29 = .ok (.aload_n 0, 1) := by decide +kernel
theorem dX6_add_30 : decode cX6_add 30 = .ok (.dup, 1) := by decide +kernel
theorem dX6_add_31 : decode cX6_add 31 = .ok (.getfield 24, 3) := by decide +kernel
theorem dX6_add_34 : decode cX6_add 34 = .ok (.iconst 1, 1) := by decide +kernel
theorem dX6_add_35 : decode cX6_add 35 = .ok (.iadd, 1) := by decide +kernel
theorem dX6_add_36 : decode cX6_add 36 = .ok (.putfield 24, 3) := by decide +kernel
theorem dX6_add_39 : decode cX6_add 39 = .ok (.return_, 1) := by decide +kernel
theorem dX6_hasChosen_0 : decode cX6_hasChosen 0 = .ok (.iload_n 1, 1) := by decide +kernel
theorem dX6_hasChosen_1 : decode cX6_hasChosen 1 = .ok (.ifCond .lt 24, 3) := by decide +kernel
theorem dX6_hasChosen_4 : decode cX6_hasChosen 4 = .ok (.iload_n 1, 1) := by decide +kernel
theorem dX6_hasChosen_5 : decode cX6_hasChosen 5 = .ok (.bipush 18, 2) := by decide +kernel
theorem dX6_hasChosen_7 : decode cX6_hasChosen 7 = .ok (.if_icmp .ge 18, 3) := by decide +kernel
theorem dX6_hasChosen_10 : decode cX6_hasChosen 10 = .ok (.aload_n 0, 1) := by decide +kernel
theorem dX6_hasChosen_11 : decode cX6_hasChosen 11 = .ok (.getfield 28, 3) := by decide +kernel
theorem dX6_hasChosen_14 : decode cX6_hasChosen 14 = .ok (.iload_n 1, 1) := by decide +kernel
theorem dX6_hasChosen_15 : decode cX6_hasChosen 15 = .ok (.iushr, 1) := by decide +kernel
theorem dX6_hasChosen_16 : decode cX6_hasChosen 16 = .ok (.iconst 1, 1) := by decide +kernel
theorem dX6_hasChosen_17 : decode cX6_hasChosen 17 = .ok (.iand, 1) := by decide +kernel
theorem dX6_hasChosen_18 : decode cX6_hasChosen 18 = .ok (.ifCond .eq 7, 3) := by decide +kernel
theorem dX6_hasChosen_21 : decode cX6_hasChosen 21 = .ok (.iconst 1, 1) := by decide +kernel
theorem dX6_hasChosen_22 : decode cX6_hasChosen 22 = .ok (.goto 4, 3) := by decide +kernel
theorem dX6_hasChosen_25 : decode cX6_hasChosen 25 = .ok (.iconst 0, 1) := by decide +kernel
theorem dX6_hasChosen_26 : decode cX6_hasChosen 26 = .ok (.ireturn, 1) := by decide +kernel
theorem dX6_chosenCount_0 : decode cX6_chosenCount 0 = .ok (.aload_n 0, 1) := by decide +kernel
theorem dX6_chosenCount_1 : decode cX6_chosenCount 1 = .ok (.getfield 28, 3) := by decide +kernel
theorem dX6_chosenCount_4 : decode cX6_chosenCount 4 = .ok (.invokestatic 35, 3) := by decide +kernel
theorem dX6_chosenCount_7 : decode cX6_chosenCount 7 = .ok (.ireturn, 1) := by decide +kernel
theorem dX6_find_0 : decode cX6_find 0 = .ok (.aload_n 0, 1) := by decide +kernel
theorem dX6_find_1 : decode cX6_find 1 = .ok (.invokevirtual 41, 3) := by decide +kernel
theorem dX6_find_4 : decode cX6_find 4 = .ok (.aload_n 0, 1) := by decide +kernel
theorem dX6_find_5 : decode cX6_find 5 = .ok (.iconst 0, 1) := by decide +kernel
theorem dX6_find_6 : decode cX6_find 6 = .ok (.iconst 0, 1) := by decide +kernel
theorem dX6_find_7 : decode cX6_find 7 = .ok (.lconst 0, 1) := by decide +kernel
theorem dX6_find_8 : decode cX6_find 8 = .ok (.lconst 0, 1) := by decide +kernel
theorem dX6_find_9 : decode cX6_find 9 = .ok (.invokestatic 44, 3) := by decide +kernel
theorem dX6_find_12 : decode cX6_find 12 = .ok (.return_, 1) := by decide +kernel
theorem dX6_addUpRests_0 : decode cX6_addUpRests 0 = .ok (.lconst 0, 1) := by decide +kernel
theorem dX6_addUpRests_1 : decode cX6_addUpRests 1 = .ok (.lstore_n 1, 1) := by decide +kernel
theorem dX6_addUpRests_2 : decode cX6_addUpRests 2 = .ok (.aload_n 0, 1) := by decide +kernel
theorem dX6_addUpRests_3 : decode cX6_addUpRests 3 = .ok (.getfield 11, 3) := by decide +kernel
theorem dX6_addUpRests_6 : decode cX6_addUpRests 6 = .ok (.arraylength, 1) := by decide +kernel
theorem dX6_addUpRests_7 : decode cX6_addUpRests 7 = .ok (.istore_n 3, 1) := by decide +kernel
theorem dX6_addUpRests_8 : decode cX6_addUpRests 8 = .ok (.iload_n 3, 1) := by decide +kernel
theorem dX6_addUpRests_9 : decode cX6_addUpRests 9 = .ok (.ifCond .lt 63, 3) := by decide +kernel
theorem dX6_addUpRests_12 : decode cX6_addUpRests 12 = .ok (.iload_n 3, 1) := by decide +kernel
theorem dX6_addUpRests_13 : decode cX6_addUpRests 13 = .ok (.aload_n 0, 1) := by decide +kernel
theorem dX6_addUpRests_14 : decode cX6_addUpRests 14 = .ok (.getfield 24, 3) := by decide +kernel
theorem dX6_addUpRests_17 : decode cX6_addUpRests 17 = .ok (.if_icmp .ge 33, 3) := by decide +kernel
theorem dX6_addUpRests_20 : decode cX6_addUpRests 20 = .ok (.iload_n 3, 1) := by decide +kernel
theorem dX6_addUpRests_21 : decode cX6_addUpRests 21 = .ok (.aload_n 0, 1) := by decide +kernel
theorem dX6_addUpRests_22 : decode cX6_addUpRests 22 = .ok (.getfield 11, 3) := by decide +kernel
theorem dX6_addUpRests_25 : decode cX6_addUpRests 25 = .ok (.arraylength, 1) := by decide +kernel
theorem dX6_addUpRests_26 : decode cX6_addUpRests 26 = .ok (.if_icmp .ge 24, 3) := by decide +kernel
theorem dX6_addUpRests_29 : decode cX6_addUpRests 29 = .ok (.aload_n 0, 1) := by decide +kernel
theorem dX6_addUpRests_30 : decode cX6_addUpRests 30 = .ok (.getfield 11, 3) := by decide +kernel
theorem dX6_addUpRests_33 : decode cX6_addUpRests 33 = .ok (.iload_n 3, 1) := by decide +kernel
theorem dX6_addUpRests_34 : decode cX6_addUpRests 34 = .ok (.aaload, 1) := by decide +kernel
theorem dX6_addUpRests_35 : decode cX6_addUpRests 35 = .ok (.ifnull 15, 3) := by decide +kernel
theorem dX6_addUpRests_38 : decode cX6_addUpRests 38 = .ok (.lload_n 1, 1) := by decide +kernel
theorem dX6_addUpRests_39 : decode cX6_addUpRests 39 = .ok (.aload_n 0, 1) := by decide +kernel
theorem dX6_addUpRests_40 : decode cX6_addUpRests 40 = .ok (.getfield 11, 3) := by decide +kernel
theorem dX6_addUpRests_43 : decode cX6_addUpRests 43 = .ok (.iload_n 3, 1) := by decide +kernel
theorem dX6_addUpRests_44 : decode cX6_addUpRests 44 = .ok (.aaload, 1) := by decide +kernel
theorem dX6_addUpRests_45 : decode cX6_addUpRests 45 = .ok (.getfield 48, 3) := by decide +kernel
theorem dX6_addUpRests_48 : decode cX6_addUpRests 48 = .ok (.ladd, 1) := by decide +kernel
theorem dX6_addUpRests_49 : decode cX6_addUpRests 49 = .ok (.lstore_n 1, 1) := by decide +kernel
theorem dX6_addUpRests_50 : decode cX6_addUpRests 50 = .ok (.iload_n 3, 1) := by decide +kernel
theorem dX6_addUpRests_51 : decode cX6_addUpRests 51 = .ok (.aload_n 0, 1) := by decide +kernel
theorem dX6_addUpRests_52 : decode cX6_addUpRests 52 = .ok (.getfield 17, 3) := by decide +kernel
theorem dX6_addUpRests_55 : decode cX6_addUpRests 55 = .ok (.arraylength, 1) := by decide +kernel
theorem dX6_addUpRests_56 : decode cX6_addUpRests 56 = .ok (.if_icmp .ge 10, 3) := by decide +kernel
theorem dX6_addUpRests_59 : decode cX6_addUpRests 59 = .ok (.aload_n 0, 1) := by decide +kernel
theorem dX6_addUpRests_60 : decode cX6_addUpRests 60 = .ok (.getfield 17, 3) := by decide +kernel
theorem dX6_addUpRests_63 : decode cX6_addUpRests 63 = .ok (.iload_n 3, 1) := by decide +kernel
theorem dX6_addUpRests_64 : decode cX6_addUpRests 64 = .ok (.lload_n 1, 1) := by decide +kernel
theorem dX6_addUpRests_65 : decode cX6_addUpRests 65 = .ok (.lastore, 1) := by decide +kernel
theorem dX6_addUpRests_66 : decode cX6_addUpRests 66 = .ok (.iinc 3 (-1), 3) := by decide +kernel
theorem dX6_addUpRests_69 : decode cX6_addUpRests 69 = .ok (.goto (-61), 3) := by decide +kernel
theorem dX6_addUpRests_72 : decode cX6_addUpRests 72 = .ok (.return_, 1) := by decide +kernel
theorem dX6_tryFrom_0 : decode cX6_tryFrom 0 = .ok (.aload_n 0, 1) := by decide +kernel
theorem dX6_tryFrom_1 : decode cX6_tryFrom 1 = .ok (.lload 5, 2) := by decide +kernel
theorem dX6_tryFrom_3 : decode cX6_tryFrom 3 = .ok (.iload_n 2, 1) := by decide +kernel
theorem dX6_tryFrom_4 : decode cX6_tryFrom 4 = .ok (.invokevirtual 51, 3) := by decide +kernel
theorem dX6_tryFrom_7 : decode cX6_tryFrom 7 = .ok (.ifCond .eq 14, 3) := by decide +kernel
theorem dX6_tryFrom_10 : decode cX6_tryFrom 10 = .ok (.aload_n 0, 1) := by decide +kernel
theorem dX6_tryFrom_11 : decode cX6_tryFrom 11 = .ok (.lload 5, 2) := by decide +kernel
theorem dX6_tryFrom_13 : decode cX6_tryFrom 13 = .ok (.putfield 31, 3) := by decide +kernel
theorem dX6_tryFrom_16 : decode cX6_tryFrom 16 = .ok (.aload_n 0, 1) := by decide +kernel
theorem dX6_tryFrom_17 : decode cX6_tryFrom 17 = .ok (.iload_n 2, 1) := by decide +kernel
theorem dX6_tryFrom_18 : decode cX6_tryFrom 18 = .ok (.putfield 28, 3) := by decide +kernel
theorem dX6_tryFrom_21 : decode cX6_tryFrom 21 = .ok (.aload_n 0, 1) := by decide +kernel
theorem dX6_tryFrom_22 : decode cX6_tryFrom 22 = .ok (.iload_n 1, 1) := by decide +kernel
theorem dX6_tryFrom_23 : decode cX6_tryFrom 23 = .ok (.invokevirtual 55, 3) := by decide +kernel
theorem dX6_tryFrom_26 : decode cX6_tryFrom 26 = .ok (.astore 7, 2) := by decide +kernel
theorem dX6_tryFrom_28 : decode cX6_tryFrom 28 = .ok (.aload 7, 2) := by decide +kernel
theorem dX6_tryFrom_30 : decode cX6_tryFrom 30 = .ok (.ifnull 19, 3) := by decide +kernel
theorem dX6_tryFrom_33 : decode cX6_tryFrom 33 = .ok (.aload_n 0, 1) := by decide +kernel
theorem dX6_tryFrom_34 : decode cX6_tryFrom 34 = .ok (.lload 5, 2) := by decide +kernel
theorem dX6_tryFrom_36 : decode cX6_tryFrom 36 = .ok (.aload_n 0, 1) := by decide +kernel
theorem dX6_tryFrom_37 : decode cX6_tryFrom 37 = .ok (.iload_n 1, 1) := by decide +kernel
theorem dX6_tryFrom_38 : decode cX6_tryFrom 38 = .ok (.invokevirtual 59, 3) := by decide +kernel
theorem dX6_tryFrom_41 : decode cX6_tryFrom 41 = .ok (.ladd, 1) := by decide +kernel
theorem dX6_tryFrom_42 : decode cX6_tryFrom 42 = .ok (.iload_n 2, 1) := by decide +kernel
theorem dX6_tryFrom_43 : decode cX6_tryFrom 43 = .ok (.invokevirtual 51, 3) := by decide +kernel
theorem dX6_tryFrom_46 : decode cX6_tryFrom 46 = .ok (.ifCond .ne 4, 3) := by decide +kernel
theorem dX6_tryFrom_49 : decode cX6_tryFrom 49 = .ok (.return_, 1) := by decide +kernel
theorem dX6_tryFrom_50 : decode cX6_tryFrom 50 = .ok (.aload 7, 2) := by decide +kernel
theorem dX6_tryFrom_52 : decode cX6_tryFrom 52 = .ok (.getfield 63, 3) := by decide +kernel
theorem dX6_tryFrom_55 : decode cX6_tryFrom 55 = .ok (.lload_n 3, 1) := by decide +kernel
theorem dX6_tryFrom_56 : decode cX6_tryFrom 56 = .ok (.land, 1) := by decide +kernel
theorem dX6_tryFrom_57 : decode cX6_tryFrom 57 = .ok (.lconst 0, 1) := by decide +kernel
theorem dX6_tryFrom_58 : decode cX6_tryFrom 58 = .ok (.lcmp, 1) := by decide +kernel
theorem dX6_tryFrom_59 : decode cX6_tryFrom 59 = .ok (.ifCond .ne 67, 3) := by decide +kernel
theorem dX6_tryFrom_62 : decode cX6_tryFrom 62 = .ok (.aload_n 0, 1) := by decide +kernel
theorem dX6_tryFrom_63 : decode cX6_tryFrom 63 = .ok (.aload 7, 2) := by decide +kernel
theorem dX6_tryFrom_65 : decode cX6_tryFrom 65 = .ok (.getfield 66, 3) := by decide +kernel
theorem dX6_tryFrom_68 : decode cX6_tryFrom 68 = .ok (.aload 7, 2) := by decide +kernel
theorem dX6_tryFrom_70 : decode cX6_tryFrom 70 = .ok (.getfield 48, 3) := by decide +kernel
theorem dX6_tryFrom_73 : decode cX6_tryFrom 73 = .ok (.invokevirtual 69, 3) := by decide +kernel
theorem dX6_tryFrom_76 : decode cX6_tryFrom 76 = .ok (.ifCond .eq 50, 3) := by decide +kernel
theorem dX6_tryFrom_79 : decode cX6_tryFrom 79 = .ok (.aload_n 0, 1) := by decide +kernel
theorem dX6_tryFrom_80 : decode cX6_tryFrom 80 = .ok (.iload_n 1, 1) := by decide +kernel
theorem dX6_tryFrom_81 : decode cX6_tryFrom 81 = .ok (.iconst 1, 1) := by decide +kernel
theorem dX6_tryFrom_82 : decode cX6_tryFrom 82 = .ok (.iadd, 1) := by decide +kernel
theorem dX6_tryFrom_83 : decode cX6_tryFrom 83 = .ok (.iload_n 2, 1) := by decide +kernel
theorem dX6_tryFrom_84 : decode cX6_tryFrom 84 = .ok (.iconst 1, 1) := by decide +kernel
theorem dX6_tryFrom_85 : decode cX6_tryFrom 85 = .ok (.aload 7, 2) := by decide +kernel
theorem dX6_tryFrom_87 : decode cX6_tryFrom 87 = .ok (.getfield 73, 3) := by decide +kernel
theorem dX6_tryFrom_90 : decode cX6_tryFrom 90 = .ok (.ishl, 1) := by decide +kernel
theorem dX6_tryFrom_91 : decode cX6_tryFrom 91 = .ok (.ior, 1) := by decide +kernel
theorem dX6_tryFrom_92 : decode cX6_tryFrom 92 = .ok (.lload_n 3, 1) := by decide +kernel
theorem dX6_tryFrom_93 : decode cX6_tryFrom 93 = .ok (.aload 7, 2) := by decide +kernel
theorem dX6_tryFrom_95 : decode cX6_tryFrom 95 = .ok (.getfield 63, 3) := by decide +kernel
theorem dX6_tryFrom_98 : decode cX6_tryFrom 98 = .ok (.lor, 1) := by decide +kernel
theorem dX6_tryFrom_99 : decode cX6_tryFrom 99 = .ok (.lload 5, 2) := by decide +kernel
theorem dX6_tryFrom_101 : decode cX6_tryFrom 101 = .ok (.aload 7, 2) := by decide +kernel
theorem dX6_tryFrom_103 : decode cX6_tryFrom 103 = .ok (.getfield 48, 3) := by decide +kernel
theorem dX6_tryFrom_106 : decode cX6_tryFrom 106 = .ok (.ladd, 1) := by decide +kernel
theorem dX6_tryFrom_107 : decode cX6_tryFrom 107 = .ok (.invokestatic 44, 3) := by decide +kernel
theorem dX6_tryFrom_110 : decode cX6_tryFrom 110 = .ok (.aload_n 0, 1) := by decide +kernel
theorem dX6_tryFrom_111 : decode cX6_tryFrom 111 = .ok (.aload 7, 2) := by decide +kernel
theorem dX6_tryFrom_113 : decode cX6_tryFrom 113 = .ok (.getfield 66, 3) := by decide +kernel
theorem dX6_tryFrom_116 : decode cX6_tryFrom 116 = .ok (.aload 7, 2) := by decide +kernel
theorem dX6_tryFrom_118 : decode cX6_tryFrom 118 = .ok (.getfield 48, 3) := by decide +kernel
theorem dX6_tryFrom_121 : decode cX6_tryFrom 121 = .ok (.lneg, 1) := by decide +kernel
theorem dX6_tryFrom_122 : decode cX6_tryFrom 122 = .ok (.invokevirtual 69, 3) := by decide +kernel
theorem dX6_tryFrom_125 : decode cX6_tryFrom 125 = .ok (.pop, 1) := by decide +kernel
theorem dX6_tryFrom_126 : decode cX6_tryFrom 126 = .ok (.aload_n 0, 1) := by decide +kernel
theorem dX6_tryFrom_127 : decode cX6_tryFrom 127 = .ok (.iload_n 1, 1) := by decide +kernel
theorem dX6_tryFrom_128 : decode cX6_tryFrom 128 = .ok (.iconst 1, 1) := by decide +kernel
theorem dX6_tryFrom_129 : decode cX6_tryFrom 129 = .ok (.iadd, 1) := by decide +kernel
theorem dX6_tryFrom_130 : decode cX6_tryFrom 130 = .ok (.iload_n 2, 1) := by decide +kernel
theorem dX6_tryFrom_131 : decode cX6_tryFrom 131 = .ok (.lload_n 3, 1) := by decide +kernel
theorem dX6_tryFrom_132 : decode cX6_tryFrom 132 = .ok (.lload 5, 2) := by decide +kernel
theorem dX6_tryFrom_134 : decode cX6_tryFrom 134 = .ok (.invokestatic 44, 3) := by decide +kernel
theorem dX6_tryFrom_137 : decode cX6_tryFrom 137 = .ok (.return_, 1) := by decide +kernel
theorem dX6_goodAt_0 : decode cX6_goodAt 0 = .ok (.iload_n 1, 1) := by decide +kernel
theorem dX6_goodAt_1 : decode cX6_goodAt 1 = .ok (.ifCond .lt 20, 3) := by decide +kernel
theorem dX6_goodAt_4 : decode cX6_goodAt 4 = .ok (.iload_n 1, 1) := by decide +kernel
theorem dX6_goodAt_5 : decode cX6_goodAt 5 = .ok (.aload_n 0, 1) := by decide +kernel
theorem dX6_goodAt_6 : decode cX6_goodAt 6 = .ok (.getfield 24, 3) := by decide +kernel
theorem dX6_goodAt_9 : decode cX6_goodAt 9 = .ok (.if_icmp .ge 12, 3) := by decide +kernel
theorem dX6_goodAt_12 : decode cX6_goodAt 12 = .ok (.iload_n 1, 1) := by decide +kernel
theorem dX6_goodAt_13 : decode cX6_goodAt 13 = .ok (.aload_n 0, 1) := by decide +kernel
theorem dX6_goodAt_14 : decode cX6_goodAt 14 = .ok (.getfield 11, 3) := by decide +kernel
theorem dX6_goodAt_17 : decode cX6_goodAt 17 = .ok (.arraylength, 1) := by decide +kernel
theorem dX6_goodAt_18 : decode cX6_goodAt 18 = .ok (.if_icmp .lt 7, 3) := by decide +kernel
theorem dX6_goodAt_21 : decode cX6_goodAt 21 = .ok (.aconst_null, 1) := by decide +kernel
theorem dX6_goodAt_22 : decode cX6_goodAt 22 = .ok (.goto 9, 3) := by decide +kernel
theorem dX6_goodAt_25 : decode cX6_goodAt 25 = .ok (.aload_n 0, 1) := by decide +kernel
theorem dX6_goodAt_26 : decode cX6_goodAt 26 = .ok (.getfield 11, 3) := by decide +kernel
theorem dX6_goodAt_29 : decode cX6_goodAt 29 = .ok (.iload_n 1, 1) := by decide +kernel
theorem dX6_goodAt_30 : decode cX6_goodAt 30 = .ok (.aaload, 1) := by decide +kernel
theorem dX6_goodAt_31 : decode cX6_goodAt 31 = .ok (.areturn, 1) := by decide +kernel
theorem dX6_restFrom_0 : decode cX6_restFrom 0 = .ok (.iload_n 1, 1) := by decide +kernel
theorem dX6_restFrom_1 : decode cX6_restFrom 1 = .ok (.ifCond .lt 12, 3) := by decide +kernel
theorem dX6_restFrom_4 : decode cX6_restFrom 4 = .ok (.iload_n 1, 1) := by decide +kernel
theorem dX6_restFrom_5 : decode cX6_restFrom 5 = .ok (.aload_n 0, 1) := by decide +kernel
theorem dX6_restFrom_6 : decode cX6_restFrom 6 = .ok (.getfield 17, 3) := by decide +kernel
theorem dX6_restFrom_9 : decode cX6_restFrom 9 = .ok (.arraylength, 1) := by decide +kernel
theorem dX6_restFrom_10 : decode cX6_restFrom 10 = .ok (.if_icmp .lt 7, 3) := by decide +kernel
theorem dX6_restFrom_13 : decode cX6_restFrom 13 = .ok (.lconst 0, 1) := by decide +kernel
theorem dX6_restFrom_14 : decode cX6_restFrom 14 = .ok (.goto 9, 3) := by decide +kernel
theorem dX6_restFrom_17 : decode cX6_restFrom 17 = .ok (.aload_n 0, 1) := by decide +kernel
theorem dX6_restFrom_18 : decode cX6_restFrom 18 = .ok (.getfield 17, 3) := by decide +kernel
theorem dX6_restFrom_21 : decode cX6_restFrom 21 = .ok (.iload_n 1, 1) := by decide +kernel
theorem dX6_restFrom_22 : decode cX6_restFrom 22 = .ok (.laload, 1) := by decide +kernel
theorem dX6_restFrom_23 : decode cX6_restFrom 23 = .ok (.lreturn, 1) := by decide +kernel
theorem dX6_isBetter_0 : decode cX6_isBetter 0 = .ok (.lload_n 1, 1) := by decide +kernel
theorem dX6_isBetter_1 : decode cX6_isBetter 1 = .ok (.aload_n 0, 1) := by decide +kernel
theorem dX6_isBetter_2 : decode cX6_isBetter 2 = .ok (.getfield 31, 3) := by decide +kernel
theorem dX6_isBetter_5 : decode cX6_isBetter 5 = .ok (.lcmp, 1) := by decide +kernel
theorem dX6_isBetter_6 : decode cX6_isBetter 6 = .ok (.ifCond .gt 23, 3) := by decide +kernel
theorem dX6_isBetter_9 : decode cX6_isBetter 9 = .ok (.lload_n 1, 1) := by decide +kernel
theorem dX6_isBetter_10 : decode cX6_isBetter 10 = .ok (.aload_n 0, 1) := by decide +kernel
theorem dX6_isBetter_11 : decode cX6_isBetter 11 = .ok (.getfield 31, 3) := by decide +kernel
theorem dX6_isBetter_14 : decode cX6_isBetter 14 = .ok (.lcmp, 1) := by decide +kernel
theorem dX6_isBetter_15 : decode cX6_isBetter 15 = .ok (.ifCond .ne 18, 3) := by decide +kernel
theorem dX6_isBetter_18 : decode cX6_isBetter 18 = .ok (.iload_n 3, 1) := by decide +kernel
theorem dX6_isBetter_19 : decode cX6_isBetter 19 = .ok (.invokestatic 35, 3) := by decide +kernel
theorem dX6_isBetter_22 : decode cX6_isBetter 22 = .ok (.aload_n 0, 1) := by decide +kernel
theorem dX6_isBetter_23 : decode cX6_isBetter 23 = .ok (.invokevirtual 76, 3) := by decide +kernel
theorem dX6_isBetter_26 : decode cX6_isBetter 26 = .ok (.if_icmp .ge 7, 3) := by decide +kernel
theorem dX6_isBetter_29 : decode cX6_isBetter 29 = .ok (.iconst 1, 1) := by decide +kernel
theorem dX6_isBetter_30 : decode cX6_isBetter 30 = .ok (.goto 4, 3) := by decide +kernel
theorem dX6_isBetter_33 : decode cX6_isBetter 33 = .ok (.iconst 0, 1) := by decide +kernel
theorem dX6_isBetter_34 : decode cX6_isBetter 34 = .ok (.ireturn, 1) := by decide +kernel
theorem dX6_spend_0 : decode cX6_spend 0 = .ok (.iload_n 1, 1) := by decide +kernel
theorem dX6_spend_1 : decode cX6_spend 1 = .ok (.ifCond .lt 23, 3) := by decide +kernel
theorem dX6_spend_4 : decode cX6_spend 4 = .ok (.iload_n 1, 1) := by decide +kernel
theorem dX6_spend_5 : decode cX6_spend 5 = .ok (.aload_n 0, 1) := by decide +kernel
theorem dX6_spend_6 : decode cX6_spend 6 = .ok (.getfield 21, 3) := by decide +kernel
theorem dX6_spend_9 : decode cX6_spend 9 = .ok (.arraylength, 1) := by decide +kernel
theorem dX6_spend_10 : decode cX6_spend 10 = .ok (.if_icmp .ge 14, 3) := by decide +kernel
theorem dX6_spend_13 : decode cX6_spend 13 = .ok (.aload_n 0, 1) := by decide +kernel
theorem dX6_spend_14 : decode cX6_spend 14 = .ok (.getfield 21, 3) := by decide +kernel
theorem dX6_spend_17 : decode cX6_spend 17 = .ok (.iload_n 1, 1) := by decide +kernel
theorem dX6_spend_18 : decode cX6_spend 18 = .ok (.laload, 1) := by decide +kernel
theorem dX6_spend_19 : decode cX6_spend 19 = .ok (.lload_n 2, 1) := by decide +kernel
theorem dX6_spend_20 : decode cX6_spend 20 = .ok (.lcmp, 1) := by decide +kernel
theorem dX6_spend_21 : decode cX6_spend 21 = .ok (.ifCond .ge 5, 3) := by decide +kernel
theorem dX6_spend_24 : decode cX6_spend 24 = .ok (.iconst 0, 1) := by decide +kernel
theorem dX6_spend_25 : decode cX6_spend 25 = .ok (.ireturn, 1) := by decide +kernel
theorem dX6_spend_26 : decode cX6_spend 26 = .ok (.aload_n 0, 1) := by decide +kernel
theorem dX6_spend_27 : decode cX6_spend 27 = .ok (.getfield 21, 3) := by decide +kernel
theorem dX6_spend_30 : decode cX6_spend 30 = .ok (.iload_n 1, 1) := by decide +kernel
theorem dX6_spend_31 : decode cX6_spend 31 = .ok (.dup2, 1) := by decide +kernel
theorem dX6_spend_32 : decode cX6_spend 32 = .ok (.laload, 1) := by decide +kernel
theorem dX6_spend_33 : decode cX6_spend 33 = .ok (.lload_n 2, 1) := by decide +kernel
theorem dX6_spend_34 : decode cX6_spend 34 = .ok (.lsub, 1) := by decide +kernel
theorem dX6_spend_35 : decode cX6_spend 35 = .ok (.lastore, 1) := by decide +kernel
theorem dX6_spend_36 : decode cX6_spend 36 = .ok (.iconst 1, 1) := by decide +kernel
theorem dX6_spend_37 : decode cX6_spend 37 = .ok (.ireturn, 1) := by decide +kernel
theorem dX8_init_0 : decode cX8_init 0 = .ok (.aload_n 0, 1) := by decide +kernel
theorem dX8_init_1 : decode cX8_init 1 = .ok (.invokespecial 1, 3) := by decide +kernel
theorem dX8_init_4 : decode cX8_init 4 = .ok (.aload_n 0, 1) := by decide +kernel
theorem dX8_init_5 : decode cX8_init 5 = .ok (.bipush 60, 2) := by decide +kernel
theorem dX8_init_7 : decode cX8_init 7 = .ok (.anewarray 9, 3) := by decide +kernel
theorem dX8_init_10 : decode cX8_init 10 = .ok (.putfield 11, 3) := by decide +kernel
theorem dX8_init_13 : decode cX8_init 13 = .ok (.aload_n 0, 1) := by decide +kernel
theorem dX8_init_14 : decode cX8_init 14 = .ok (.bipush 30, 2) := by decide +kernel
theorem dX8_init_16 : decode cX8_init 16 = .ok (.anewarray 15, 3) := by decide +kernel
theorem dX8_init_19 : decode cX8_init 19 = .ok (.putfield 17, 3) := by decide +kernel
theorem dX8_init_22 : decode cX8_init 22 = .ok (.aload_n 0, 1) := by decide +kernel
theorem dX8_init_23 : decode cX8_init 23 = .ok (.bipush 18, 2) := by decide +kernel
theorem dX8_init_25 : decode cX8_init 25 = .ok (.anewarray 21, 3) := by decide +kernel
theorem dX8_init_28 : decode cX8_init 28 = .ok (.putfield 23, 3) := by decide +kernel
theorem dX8_init_31 : decode cX8_init 31 = .ok (.aload_n 0, 1) := by decide +kernel
theorem dX8_init_32 : decode cX8_init 32 = .ok (.new 27, 3) := by decide +kernel
theorem dX8_init_35 : decode cX8_init 35 = .ok (.dup, 1) := by decide +kernel
theorem dX8_init_36 : decode cX8_init 36 = .ok (.invokespecial 29, 3) := by decide +kernel
theorem dX8_init_39 : decode cX8_init 39 = .ok (.putfield 30, 3) := by decide +kernel
theorem dX8_init_42 : decode cX8_init 42 = .ok (.aload_n 0, 1) := by decide +kernel
theorem dX8_init_43 : decode cX8_init 43 = .ok (.new 34, 3) := by decide +kernel
theorem dX8_init_46 : decode cX8_init 46 = .ok (.dup, 1) := by decide +kernel
theorem dX8_init_47 : decode cX8_init 47 = .ok (.invokespecial 36, 3) := by decide +kernel
theorem dX8_init_50 : decode cX8_init 50 = .ok (.putfield 37, 3) := by decide +kernel
theorem dX8_init_53 : decode cX8_init 53 = .ok (.aload_n 0, 1) := by decide +kernel
theorem dX8_init_54 : decode cX8_init 54 = .ok (.new 41, 3) := by decide +kernel
theorem dX8_init_57 : decode cX8_init 57 = .ok (.dup, 1) := by decide +kernel
theorem dX8_init_58 : decode cX8_init 58 = .ok (.invokespecial 43, 3) := by decide +kernel
theorem dX8_init_61 : decode cX8_init 61 = .ok (.putfield 44, 3) := by decide +kernel
theorem dX8_init_64 : decode cX8_init 64 = .ok (.return_, 1) := by decide +kernel
theorem dX8_lot_0 : decode cX8_lot 0 = .ok (.iload_n 1, 1) := by decide +kernel
theorem dX8_lot_1 : decode cX8_lot 1 = .ok (.i2l, 1) := by decide +kernel
theorem dX8_lot_2 : decode cX8_lot 2 = .ok (.lconst 0, 1) := by decide +kernel
theorem dX8_lot_3 : decode cX8_lot 3 = .ok (.ldc2_w 48, 3) := by decide +kernel
theorem dX8_lot_6 : decode cX8_lot 6 = .ok (.invokestatic 50, 3) := by decide +kernel
theorem dX8_lot_9 : decode cX8_lot 9 = .ok (.ifCond .eq 14, 3) := by decide +kernel
theorem dX8_lot_12 : decode cX8_lot 12 = .ok (.lload_n 2, 1) := by decide +kernel
theorem dX8_lot_13 : decode cX8_lot 13 = .ok (.lconst 1, 1) := by decide +kernel
theorem dX8_lot_14 : decode cX8_lot 14 = .ok (.ldc2_w 54, 3) := by decide +kernel
theorem dX8_lot_17 : decode cX8_lot 17 = .ok (.invokestatic 50, 3) := by decide +kernel
theorem dX8_lot_20 : decode cX8_lot 20 = .ok (.ifCond .ne 5, 3) := by decide +kernel
theorem dX8_lot_23 : decode cX8_lot 23 = .ok (.iconst (-1), 1) := by decide +kernel
theorem dX8_lot_24 : decode cX8_lot 24 = .ok (.ireturn, 1) := by decide +kernel
theorem dX8_lot_25 : decode cX8_lot 25 = .ok (.lload 4, 2) := by decide +kernel
theorem dX8_lot_27 : decode cX8_lot 27 = .ok (.lconst 0, 1) := by decide +kernel
theorem dX8_lot_28 : decode cX8_lot 28 = .ok (.ldc2_w 54, 3) := by decide +kernel
theorem dX8_lot_31 : decode cX8_lot 31 = .ok (.invokestatic 50, 3) := by decide +kernel
theorem dX8_lot_34 : decode cX8_lot 34 = .ok (.ifCond .ne 5, 3) := by decide +kernel
theorem dX8_lot_37 : decode cX8_lot 37 = .ok (.iconst (-1), 1) := by decide +kernel
theorem dX8_lot_38 : decode cX8_lot 38 = .ok (.ireturn, 1) := by decide +kernel
theorem dX8_lot_39 : decode cX8_lot 39 = .ok (.aload_n 0, 1) := by decide +kernel
theorem dX8_lot_40 : decode cX8_lot 40 = .ok (.iload_n 1, 1) := by decide +kernel
theorem dX8_lot_41 : decode cX8_lot 41 = .ok (.lload_n 2, 1) := by decide +kernel
theorem dX8_lot_42 : decode cX8_lot 42 = .ok (.lload 4, 2) := by decide +kernel
theorem dX8_lot_44 : decode cX8_lot 44 = .ok (.invokevirtual 56, 3) := by decide +kernel
theorem dX8_lot_47 : decode cX8_lot 47 = .ok (.ireturn, 1) := by decide +kernel
theorem dX8_buyer_0 : decode cX8_buyer 0 = .ok (.aload_n 0, 1) := by decide +kernel
theorem dX8_buyer_1 : decode cX8_buyer 1 = .ok (.getfield 60, 3) := by decide +kernel
theorem dX8_buyer_4 : decode cX8_buyer 4 = .ok (.istore_n 3, 1) := by decide +kernel
theorem dX8_buyer_5 : decode cX8_buyer 5 = .ok (.iload_n 3, 1) := by decide +kernel
theorem dX8_buyer_6 : decode cX8_buyer 6 = .ok (.ifCond .lt 23, 3) := by decide +kernel
theorem dX8_buyer_9 : decode cX8_buyer 9 = .ok (.iload_n 3, 1) := by decide +kernel
theorem dX8_buyer_10 : decode cX8_buyer 10 = .ok (.aload_n 0, 1) := by decide +kernel
theorem dX8_buyer_11 : decode cX8_buyer 11 = .ok (.getfield 17, 3) := by decide +kernel
theorem dX8_buyer_14 : decode cX8_buyer 14 = .ok (.arraylength, 1) := by decide +kernel
theorem dX8_buyer_15 : decode cX8_buyer 15 = .ok (.if_icmp .ge 14, 3) := by decide +kernel
theorem dX8_buyer_18 : decode cX8_buyer 18 = .ok (.lload_n 1, 1) := by decide +kernel
theorem dX8_buyer_19 : decode cX8_buyer 19 = .ok (.lconst 0, 1) := by decide +kernel
theorem dX8_buyer_20 : decode cX8_buyer 20 = .ok (.ldc2_w 64, 3) := by decide +kernel
theorem dX8_buyer_23 : decode cX8_buyer 23 = .ok (.invokestatic 50, 3) := by decide +kernel
theorem dX8_buyer_26 : decode cX8_buyer 26 = .ok (.ifCond .ne 5, 3) := by decide +kernel
theorem dX8_buyer_29 : decode cX8_buyer 29 = .ok (.iconst (-1), 1) := by decide +kernel
theorem dX8_buyer_30 : decode cX8_buyer 30 = .ok (.ireturn, 1) := by decide +kernel
theorem dX8_buyer_31 : decode cX8_buyer 31 = .ok (.aload_n 0, 1) := by decide +kernel
theorem dX8_buyer_32 : decode cX8_buyer 32 = .ok (.getfield 17, 3) := by decide +kernel
theorem dX8_buyer_35 : decode cX8_buyer 35 = .ok (.iload_n 3, 1) := by decide +kernel
theorem dX8_buyer_36 : decode cX8_buyer 36 = .ok (.new 15, 3) := by decide +kernel
theorem dX8_buyer_39 : decode cX8_buyer 39 = .ok (.dup, 1) := by decide +kernel
theorem dX8_buyer_40 : decode cX8_buyer 40 = .ok (.iload_n 3, 1) := by decide +kernel
theorem dX8_buyer_41 : decode cX8_buyer 41 = .ok (.lload_n 1, 1) := by decide +kernel
theorem dX8_buyer_42 : decode cX8_buyer 42 = .ok (.invokespecial 66, 3) := by decide +kernel
theorem dX8_buyer_45 : decode cX8_buyer 45 = .ok (.aastore, 1) := by decide +kernel
theorem dX8_buyer_46 : decode cX8_buyer 46 = .ok (.aload_n 0, 1) := by decide +kernel
theorem dX8_buyer_47 : decode cX8_buyer 47 = .ok (.iload_n 3, 1) := by decide +kernel
theorem dX8_buyer_48 : decode cX8_buyer 48 = .ok (.iconst 1, 1) := by decide +kernel
theorem dX8_buyer_49 : decode cX8_buyer 49 = .ok (.iadd, 1) := by decide +kernel
theorem dX8_buyer_50 : decode cX8_buyer 50 = .ok (.putfield 60, 3) := by decide +kernel
theorem dX8_buyer_53 : decode cX8_buyer 53 = .ok (.iload_n 3, 1) := by decide +kernel
theorem dX8_buyer_54 : decode cX8_buyer 54 = .ok (.ireturn, 1) := by decide +kernel
theorem dX8_winner_0 : decode cX8_winner 0 = .ok (.aload_n 0, 1) := by decide +kernel
theorem dX8_winner_1 : decode cX8_winner 1 = .ok (.iload_n 1, 1) := by decide +kernel
theorem dX8_winner_2 : decode cX8_winner 2 = .ok (.invokevirtual 69, 3) := by decide +kernel
theorem dX8_winner_5 : decode cX8_winner 5 = .ok (.astore_n 2, 1) := by decide +kernel
theorem dX8_winner_6 : decode cX8_winner 6 = .ok (.aload_n 2, 1) := by decide +kernel
theorem dX8_winner_7 : decode cX8_winner 7 = .ok (.ifnull 10, 3) := by decide +kernel
theorem dX8_winner_10 : decode cX8_winner 10 = .ok (.aload_n 2, 1) := by decide +kernel
theorem dX8_winner_11 : decode cX8_winner 11 = .ok (.invokevirtual 73, 3) := by decide +kernel
theorem dX8_winner_14 : decode cX8_winner 14 = .ok (.ifCond .ne 7, 3) := by decide +kernel
theorem dX8_winner_17 : decode cX8_winner 17 = .ok (.iconst (-1), 1) := by decide +kernel
theorem dX8_winner_18 : decode cX8_winner 18 = .ok (.goto 7, 3) := by decide +kernel
theorem dX8_winner_21 : decode cX8_winner 21 = .ok (.aload_n 2, 1) := by decide +kernel
theorem dX8_winner_22 : decode cX8_winner 22 = .ok (.getfield 77, 3) := by decide +kernel
theorem dX8_winner_25 : decode cX8_winner 25 = .ok (.ireturn, 1) := by decide +kernel
theorem dX8_price_0 : decode cX8_price 0 = .ok (.aload_n 0, 1) := by decide +kernel
theorem dX8_price_1 : decode cX8_price 1 = .ok (.iload_n 1, 1) := by decide +kernel
theorem dX8_price_2 : decode cX8_price 2 = .ok (.invokevirtual 69, 3) := by decide +kernel
theorem dX8_price_5 : decode cX8_price 5 = .ok (.astore_n 2, 1) := by decide +kernel
theorem dX8_price_6 : decode cX8_price 6 = .ok (.aload_n 2, 1) := by decide +kernel
theorem dX8_price_7 : decode cX8_price 7 = .ok (.ifnull 10, 3) := by decide +kernel
theorem dX8_price_10 : decode cX8_price 10 = .ok (.aload_n 2, 1) := by decide +kernel
theorem dX8_price_11 : decode cX8_price 11 = .ok (.invokevirtual 73, 3) := by decide +kernel
theorem dX8_price_14 : decode cX8_price 14 = .ok (.ifCond .ne 9, 3) := by decide +kernel
theorem dX8_price_17 : decode cX8_price 17 = .ok (.ldc2_w 80, 3) := by decide +kernel
theorem dX8_price_20 : decode cX8_price 20 = .ok (.goto 7, 3) := by decide +kernel
theorem dX8_price_23 : decode cX8_price 23 = .ok (.aload_n 2, 1) := by decide +kernel
theorem dX8_price_24 : decode cX8_price 24 = .ok (.getfield 82, 3) := by decide +kernel
theorem dX8_price_27 : decode cX8_price 27 = .ok (.lreturn, 1) := by decide +kernel
theorem dX8_left_0 : decode cX8_left 0 = .ok (.aload_n 0, 1) := by decide +kernel
theorem dX8_left_1 : decode cX8_left 1 = .ok (.iload_n 1, 1) := by decide +kernel
theorem dX8_left_2 : decode cX8_left 2 = .ok (.invokevirtual 69, 3) := by decide +kernel
theorem dX8_left_5 : decode cX8_left 5 = .ok (.astore_n 2, 1) := by decide +kernel
theorem dX8_left_6 : decode cX8_left 6 = .ok (.aload_n 2, 1) := by decide +kernel
theorem dX8_left_7 : decode cX8_left 7 = .ok (.ifnonnull 9, 3) := by decide +kernel
theorem dX8_left_10 : decode cX8_left 10 = .ok (.ldc2_w 80, 3) := by decide +kernel
theorem dX8_left_13 : decode cX8_left 13 = .ok (.goto 7, 3) := by decide +kernel
theorem dX8_left_16 : decode cX8_left 16 = .ok (.aload_n 2, 1) := by decide +kernel
theorem dX8_left_17 : decode cX8_left 17 = .ok (.getfield 86, 3) := by decide +kernel
theorem dX8_left_20 : decode cX8_left 20 = .ok (.lreturn, 1) := by decide +kernel
theorem dX8_held_0 : decode cX8_held 0 = .ok (.aload_n 0, 1) := by decide +kernel
theorem dX8_held_1 : decode cX8_held 1 = .ok (.iload_n 1, 1) := by decide +kernel
theorem dX8_held_2 : decode cX8_held 2 = .ok (.invokevirtual 89, 3) := by decide +kernel
theorem dX8_held_5 : decode cX8_held 5 = .ok (.astore_n 2, 1) := by decide +kernel
theorem dX8_held_6 : decode cX8_held 6 = .ok (.aload_n 2, 1) := by decide +kernel
theorem dX8_held_7 : decode cX8_held 7 = .ok (.ifnonnull 9, 3) := by decide +kernel
theorem dX8_held_10 : decode cX8_held 10 = .ok (.ldc2_w 80, 3) := by decide +kernel
theorem dX8_held_13 : decode cX8_held 13 = .ok (.goto 13, 3) := by decide +kernel
theorem dX8_held_16 : decode cX8_held 16 = .ok (.aload_n 2, 1) := by decide +kernel
theorem dX8_held_17 : decode cX8_held 17 = .ok (.getfield 93, 3) := by decide +kernel
theorem dX8_held_20 : decode cX8_held 20 = .ok (.aload_n 0, 1) := by decide +kernel
theorem dX8_held_21 : decode cX8_held 21 = .ok (.aload_n 2, 1) := by decide +kernel
theorem dX8_held_22 : decode cX8_held 22 = .ok (.invokevirtual 96, 3) := by decide +kernel
theorem dX8_held_25 : decode cX8_held 25 = .ok (.lsub, 1) := by decide +kernel
theorem dX8_held_26 : decode cX8_held 26 = .ok (.lreturn, 1) := by decide +kernel
theorem dX8_fee_0 : decode cX8_fee 0 = .ok (.aload_n 0, 1) := by decide +kernel
theorem dX8_fee_1 : decode cX8_fee 1 = .ok (.iload_n 1, 1) := by decide +kernel
theorem dX8_fee_2 : decode cX8_fee 2 = .ok (.invokevirtual 69, 3) := by decide +kernel
theorem dX8_fee_5 : decode cX8_fee 5 = .ok (.astore_n 2, 1) := by decide +kernel
theorem dX8_fee_6 : decode cX8_fee 6 = .ok (.aload_n 2, 1) := by decide +kernel
theorem dX8_fee_7 : decode cX8_fee 7 = .ok (.ifnull 13, 3) := by decide +kernel
theorem dX8_fee_10 : decode cX8_fee 10 = .ok (.aload_n 2, 1) := by decide +kernel
theorem dX8_fee_11 : decode cX8_fee 11 = .ok (.getfield 100, 3) := by decide +kernel
theorem dX8_fee_14 : decode cX8_fee 14 = .ok (.getstatic 104, 3) := by decide +kernel
theorem dX8_fee_17 : decode cX8_fee 17 = .ok (.if_acmp .eq 7, 3) := by decide +kernel
theorem dX8_fee_20 : decode cX8_fee 20 = .ok (.ldc2_w 80, 3) := by decide +kernel
theorem dX8_fee_23 : decode cX8_fee 23 = .ok (.lreturn, 1) := by decide +kernel
theorem dX8_fee_24 : decode cX8_fee 24 = .ok (.aload_n 2, 1) := by decide +kernel
theorem dX8_fee_25 : decode cX8_fee 25 = .ok (.getfield 82, 3) := by decide +kernel
theorem dX8_fee_28 : decode cX8_fee 28 = .ok (.ldc2_w 109, 3) := by decide +kernel
theorem dX8_fee_31 : decode cX8_fee 31 = .ok (.ladd, 1) := by decide +kernel
theorem dX8_fee_32 : decode cX8_fee 32 = .ok (.ldc2_w 111, 3) := by decide +kernel
theorem dX8_fee_35 : decode cX8_fee 35 = .ok (.ldiv, 1) := by decide +kernel
theorem dX8_fee_36 : decode cX8_fee 36 = .ok (.ldc2_w 113, 3) := by decide +kernel
theorem dX8_fee_39 : decode cX8_fee 39 = .ok (.ladd, 1) := by decide +kernel
theorem dX8_fee_40 : decode cX8_fee 40 = .ok (.lreturn, 1) := by decide +kernel
theorem dX8_order_0 : decode cX8_order 0 = .ok (.iload_n 2, 1) := by decide +kernel
theorem dX8_order_1 : decode cX8_order 1 = .ok (.ifCond .ge 5, 3) := by decide +kernel
theorem dX8_order_4 : decode cX8_order 4 = .ok (.iconst (-1), 1) := by decide +kernel
theorem dX8_order_5 : decode cX8_order 5 = .ok (.ireturn, 1) := by decide +kernel
theorem dX8_order_6 : decode cX8_order 6 = .ok (.iconst 0, 1) := by decide +kernel
theorem dX8_order_7 : decode cX8_order 7 = .ok (.istore_n 3, 1) := by decide +kernel
theorem dX8_order_8 : decode cX8_order 8 = .ok (.iload_n 3, 1) := by decide +kernel
theorem dX8_order_9 : decode cX8_order 9 = .ok (.aload_n 0, 1) := by decide +kernel
theorem dX8_order_10 : decode cX8_order 10 = .ok (.getfield 115, 3) := by decide +kernel
theorem dX8_order_13 : decode cX8_order 13 = .ok (.if_icmp .ge 42, 3) := by decide +kernel
theorem dX8_order_16 : decode cX8_order 16 = .ok (.aload_n 0, 1) := by decide +kernel
theorem dX8_order_17 : decode cX8_order 17 = .ok (.iload_n 3, 1) := by decide +kernel
theorem dX8_order_18 : decode cX8_order 18 = .ok (.invokevirtual 69, 3) := by decide +kernel
theorem dX8_order_21 : decode cX8_order 21 = .ok (.astore 4, 2) := by decide +kernel
theorem dX8_order_23 : decode cX8_order 23 = .ok (.aload 4, 2) := by decide +kernel
theorem dX8_order_25 : decode cX8_order 25 = .ok (.ifnull 24, 3) := by decide +kernel
theorem dX8_order_28 : decode cX8_order 28 = .ok (.aload 4, 2) := by decide +kernel
theorem dX8_order_30 : decode cX8_order 30 = .ok (.iload_n 1, 1) := by decide +kernel
theorem dX8_order_31 : decode cX8_order 31 = .ok (.invokevirtual 118, 3) := by decide +kernel
theorem dX8_order_34 : decode cX8_order 34 = .ok (.ifCond .eq 15, 3) := by decide +kernel
theorem dX8_order_37 : decode cX8_order 37 = .ok (.aload_n 0, 1) := by decide +kernel
theorem dX8_order_38 : decode cX8_order 38 = .ok (.aload 4, 2) := by decide +kernel
theorem dX8_order_40 : decode cX8_order 40 = .ok (.invokevirtual 122, 3) := by decide +kernel
theorem dX8_order_43 : decode cX8_order 43 = .ok (.iload_n 2, 1) := by decide +kernel
theorem dX8_order_44 : decode cX8_order 44 = .ok (.if_icmp .ne 5, 3) := by decide +kernel
theorem dX8_order_47 : decode cX8_order 47 = .ok (.iload_n 3, 1) := by decide +kernel
theorem dX8_order_48 : decode cX8_order 48 = .ok (.ireturn, 1) := by decide +kernel
theorem dX8_order_49 : decode cX8_order 49 = .ok (.iinc 3 1, 3) := by decide +kernel
theorem dX8_order_52 : decode cX8_order 52 = .ok (.goto (-44), 3) := by decide +kernel
theorem dX8_order_55 : decode cX8_order 55 = .ok (.iconst (-1), 1) := by decide +kernel
theorem dX8_order_56 : decode cX8_order 56 = .ok (.ireturn, 1) := by decide +kernel
theorem dX8_part_0 : decode cX8_part 0 = .ok (.aload_n 0, 1) := by decide +kernel
theorem dX8_part_1 : decode cX8_part 1 = .ok (.iload_n 1, 1) := by decide +kernel
theorem dX8_part_2 : decode cX8_part 2 = .ok (.invokevirtual 69, 3) := by decide +kernel
theorem dX8_part_5 : decode cX8_part 5 = .ok (.astore 4, 2) := by decide +kernel
theorem dX8_part_7 : decode cX8_part 7 = .ok (.aload 4, 2) := by decide +kernel
theorem dX8_part_9 : decode cX8_part 9 = .ok (.ifnull 28, 3) := by decide +kernel
theorem dX8_part_12 : decode cX8_part 12 = .ok (.aload 4, 2) := by decide +kernel
theorem dX8_part_14 : decode cX8_part 14 = .ok (.getfield 126, 3) := by decide +kernel
theorem dX8_part_17 : decode cX8_part 17 = .ok (.ifCond .eq 20, 3) := by decide +kernel
theorem dX8_part_20 : decode cX8_part 20 = .ok (.aload 4, 2) := by decide +kernel
theorem dX8_part_22 : decode cX8_part 22 = .ok (.getfield 130, 3) := by decide +kernel
theorem dX8_part_25 : decode cX8_part 25 = .ok (.ifCond .ne 12, 3) := by decide +kernel
theorem dX8_part_28 : decode cX8_part 28 = .ok (.aload_n 0, 1) := by decide +kernel
theorem dX8_part_29 : decode cX8_part 29 = .ok (.getfield 115, 3) := by decide +kernel
theorem dX8_part_32 : decode cX8_part 32 = .ok (.bipush 60, 2) := by decide +kernel
theorem dX8_part_34 : decode cX8_part 34 = .ok (.if_icmp .lt 5, 3) := by decide +kernel
theorem dX8_part_37 : decode cX8_part 37 = .ok (.iconst (-1), 1) := by decide +kernel
theorem dX8_part_38 : decode cX8_part 38 = .ok (.ireturn, 1) := by decide +kernel
theorem dX8_part_39 : decode cX8_part 39 = .ok (.aload 4, 2) := by decide +kernel
theorem dX8_part_41 : decode cX8_part 41 = .ok (.getfield 86, 3) := by decide +kernel
theorem dX8_part_44 : decode cX8_part 44 = .ok (.lstore 5, 2) := by decide +kernel
theorem dX8_part_46 : decode cX8_part 46 = .ok (.lload_n 2, 1) := by decide +kernel
theorem dX8_part_47 : decode cX8_part 47 = .ok (.lconst 0, 1) := by decide +kernel
theorem dX8_part_48 : decode cX8_part 48 = .ok (.lcmp, 1) := by decide +kernel
theorem dX8_part_49 : decode cX8_part 49 = .ok (.ifCond .le 10, 3) := by decide +kernel
theorem dX8_part_52 : decode cX8_part 52 = .ok (.lload_n 2, 1) := by decide +kernel
theorem dX8_part_53 : decode cX8_part 53 = .ok (.lload 5, 2) := by decide +kernel
theorem dX8_part_55 : decode cX8_part 55 = .ok (.lcmp, 1) := by decide +kernel
theorem dX8_part_56 : decode cX8_part 56 = .ok (.ifCond .lt 5, 3) := by decide +kernel
theorem dX8_part_59 : decode cX8_part 59 = .ok (.iconst (-1), 1) := by decide +kernel
theorem dX8_part_60 : decode cX8_part 60 = .ok (.ireturn, 1) := by decide +kernel
theorem dX8_part_61 : decode cX8_part 61 = .ok (.aload 4, 2) := by decide +kernel
theorem dX8_part_63 : decode cX8_part 63 = .ok (.iconst 1, 1) := by decide +kernel
theorem dX8_part_64 : decode cX8_part 64 = .ok (.putfield 130, 3) := by decide +kernel
theorem dX8_part_67 : decode cX8_part 67 = .ok (.aload 4, 2) := by decide +kernel
theorem dX8_part_69 : decode cX8_part 69 = .ok (.lload_n 2, 1) := by decide +kernel
theorem dX8_part_70 : decode cX8_part 70 = .ok (.putfield 86, 3) := by decide +kernel
theorem dX8_part_73 : decode cX8_part 73 = .ok (.aload 4, 2) := by decide +kernel
theorem dX8_part_75 : decode cX8_part 75 = .ok (.aload 4, 2) := by decide +kernel
theorem dX8_part_77 : decode cX8_part 77 = .ok (.getfield 82, 3) := by decide +kernel
theorem dX8_part_80 : decode cX8_part 80 = .ok (.lload_n 2, 1) := by decide +kernel
theorem dX8_part_81 : decode cX8_part 81 = .ok (.lload 5, 2) := by decide +kernel
theorem dX8_part_83 : decode cX8_part 83 = .ok (.invokestatic 133, 3) := by decide +kernel
theorem dX8_part_86 : decode cX8_part 86 = .ok (.putfield 82, 3) := by decide +kernel
theorem dX8_part_89 : decode cX8_part 89 = .ok (.aload_n 0, 1) := by decide +kernel
theorem dX8_part_90 : decode cX8_part 90 = .ok (.getfield 37, 3) := by decide +kernel
theorem dX8_part_93 : decode cX8_part 93 = .ok (.iconst 5, 1) := by decide +kernel
theorem dX8_part_94 : decode cX8_part 94 = .ok (.iload_n 1, 1) := by decide +kernel
theorem dX8_part_95 : decode cX8_part 95 = .ok (.aload 4, 2) := by decide +kernel
theorem dX8_part_97 : decode cX8_part 97 = .ok (.getfield 77, 3) := by decide +kernel
theorem dX8_part_100 : decode cX8_part 100 = .ok (.aload 4, 2) := by decide +kernel
theorem dX8_part_102 : decode cX8_part 102 = .ok (.getfield 82, 3) := by decide +kernel
theorem dX8_part_105 : decode cX8_part 105 = .ok (.invokevirtual 137, 3) := by decide +kernel
theorem dX8_part_108 : decode cX8_part 108 = .ok (.aload_n 0, 1) := by decide +kernel
theorem dX8_part_109 : decode cX8_part 109 = .ok (.aload 4, 2) := by decide +kernel
theorem dX8_part_111 : decode cX8_part 111 = .ok (.getfield 141, 3) := by decide +kernel
theorem dX8_part_114 : decode cX8_part 114 = .ok (.lload 5, 2) := by decide +kernel
theorem dX8_part_116 : decode cX8_part 116 = .ok (.lload_n 2, 1) := by decide +kernel
theorem dX8_part_117 : decode cX8_part 117 = .ok (.lsub, 1) := by decide +kernel
theorem dX8_part_118 : decode cX8_part 118 = .ok (.aload 4, 2) := by decide +kernel
theorem dX8_part_120 : decode cX8_part 120 = .ok (.getfield 144, 3) := by decide +kernel
theorem dX8_part_123 : decode cX8_part 123 = .ok (.lload 5, 2) := by decide +kernel
theorem dX8_part_125 : decode cX8_part 125 = .ok (.lload_n 2, 1) := by decide +kernel
theorem dX8_part_126 : decode cX8_part 126 = .ok (.lsub, 1) := by decide +kernel
theorem dX8_part_127 : decode cX8_part 127 = .ok (.lload 5, 2) := by decide +kernel
theorem dX8_part_129 : decode cX8_part 129 = .ok (.invokestatic 133, 3) := by decide +kernel
theorem dX8_part_132 : decode cX8_part 132 = .ok (.invokevirtual 56, 3) := by decide +kernel
theorem dX8_part_135 : decode cX8_part 135 = .ok (.ireturn, 1) := by decide +kernel
theorem dX8_again_0 : decode cX8_again 0 = .ok (.aload_n 0, 1) := by decide +kernel
theorem dX8_again_1 : decode cX8_again 1 = .ok (.iload_n 1, 1) := by decide +kernel
theorem dX8_again_2 : decode cX8_again 2 = .ok (.invokevirtual 69, 3) := by decide +kernel
theorem dX8_again_5 : decode cX8_again 5 = .ok (.astore_n 2, 1) := by decide +kernel
theorem dX8_again_6 : decode cX8_again 6 = .ok (.aload_n 2, 1) := by decide +kernel
theorem dX8_again_7 : decode cX8_again 7 = .ok (.ifnull 20, 3) := by decide +kernel
theorem dX8_again_10 : decode cX8_again 10 = .ok (.aload_n 2, 1) := by decide +kernel
theorem dX8_again_11 : decode cX8_again 11 = .ok (.getfield 100, 3) := by decide +kernel
theorem dX8_again_14 : decode cX8_again 14 = .ok (.getstatic 147, 3) := by decide +kernel
theorem dX8_again_17 : decode cX8_again 17 = .ok (.if_acmp .ne 10, 3) := by decide +kernel
theorem dX8_again_20 : decode cX8_again 20 = .ok (.aload_n 2, 1) := by decide +kernel
theorem dX8_again_21 : decode cX8_again 21 = .ok (.getfield 150, 3) := by decide +kernel
theorem dX8_again_24 : decode cX8_again 24 = .ok (.ifCond .eq 5, 3) := by decide +kernel
theorem dX8_again_27 : decode cX8_again 27 = .ok (.iconst (-1), 1) := by decide +kernel
theorem dX8_again_28 : decode cX8_again 28 = .ok (.ireturn, 1) := by decide +kernel
theorem dX8_again_29 : decode cX8_again 29 = .ok (.aload_n 2, 1) := by decide +kernel
theorem dX8_again_30 : decode cX8_again 30 = .ok (.iconst 1, 1) := by decide +kernel
theorem dX8_again_31 : decode cX8_again 31 = .ok (.putfield 150, 3) := by decide +kernel
theorem dX8_again_34 : decode cX8_again 34 = .ok (.aload_n 2, 1) := by decide +kernel
theorem dX8_again_35 : decode cX8_again 35 = .ok (.dup, 1) := by decide +kernel
theorem dX8_again_36 : decode cX8_again 36 = .ok (.getfield 144, 3) := by decide +kernel
theorem dX8_again_39 : decode cX8_again 39 = .ok (.aload_n 2, 1) := by decide +kernel
theorem dX8_again_40 : decode cX8_again 40 = .ok (.getfield 144, 3) := by decide +kernel
theorem dX8_again_43 : decode cX8_again 43 = .ok (.ldc2_w 153, 3) := by decide +kernel
theorem dX8_again_46 : decode cX8_again 46 = .ok (.ldiv, 1) := by decide +kernel
theorem dX8_again_47 : decode cX8_again 47 = .ok (.lsub, 1) := by decide +kernel
theorem dX8_again_48 : decode cX8_again 48 = .ok (.putfield 144, 3) := by decide +kernel
theorem dX8_again_51 : decode cX8_again 51 = .ok (.aload_n 2, 1) := by decide +kernel
theorem dX8_again_52 : decode cX8_again 52 = .ok (.getstatic 155, 3) := by decide +kernel
theorem dX8_again_55 : decode cX8_again 55 = .ok (.putfield 100, 3) := by decide +kernel
theorem dX8_again_58 : decode cX8_again 58 = .ok (.aload_n 0, 1) := by decide +kernel
theorem dX8_again_59 : decode cX8_again 59 = .ok (.getfield 37, 3) := by decide +kernel
theorem dX8_again_62 : decode cX8_again 62 = .ok (.bipush 6, 2) := by decide +kernel
theorem dX8_again_64 : decode cX8_again 64 = .ok (.iload_n 1, 1) := by decide +kernel
theorem dX8_again_65 : decode cX8_again 65 = .ok (.iconst (-1), 1) := by decide +kernel
theorem dX8_again_66 : decode cX8_again 66 = .ok (.aload_n 2, 1) := by decide +kernel
theorem dX8_again_67 : decode cX8_again 67 = .ok (.getfield 144, 3) := by decide +kernel
theorem dX8_again_70 : decode cX8_again 70 = .ok (.invokevirtual 137, 3) := by decide +kernel
theorem dX8_again_73 : decode cX8_again 73 = .ok (.iconst 1, 1) := by decide +kernel
theorem dX8_again_74 : decode cX8_again 74 = .ok (.ireturn, 1) := by decide +kernel
theorem dX8_back_0 : decode cX8_back 0 = .ok (.aload_n 0, 1) := by decide +kernel
theorem dX8_back_1 : decode cX8_back 1 = .ok (.iload_n 1, 1) := by decide +kernel
theorem dX8_back_2 : decode cX8_back 2 = .ok (.invokevirtual 69, 3) := by decide +kernel
theorem dX8_back_5 : decode cX8_back 5 = .ok (.astore_n 2, 1) := by decide +kernel
theorem dX8_back_6 : decode cX8_back 6 = .ok (.aload_n 2, 1) := by decide +kernel
theorem dX8_back_7 : decode cX8_back 7 = .ok (.ifnull 10, 3) := by decide +kernel
theorem dX8_back_10 : decode cX8_back 10 = .ok (.aload_n 2, 1) := by decide +kernel
theorem dX8_back_11 : decode cX8_back 11 = .ok (.invokevirtual 158, 3) := by decide +kernel
theorem dX8_back_14 : decode cX8_back 14 = .ok (.ifCond .ne 5, 3) := by decide +kernel
theorem dX8_back_17 : decode cX8_back 17 = .ok (.iconst (-1), 1) := by decide +kernel
theorem dX8_back_18 : decode cX8_back 18 = .ok (.ireturn, 1) := by decide +kernel
theorem dX8_back_19 : decode cX8_back 19 = .ok (.aload_n 2, 1) := by decide +kernel
theorem dX8_back_20 : decode cX8_back 20 = .ok (.getstatic 161, 3) := by decide +kernel
theorem dX8_back_23 : decode cX8_back 23 = .ok (.putfield 100, 3) := by decide +kernel
theorem dX8_back_26 : decode cX8_back 26 = .ok (.aload_n 0, 1) := by decide +kernel
theorem dX8_back_27 : decode cX8_back 27 = .ok (.getfield 37, 3) := by decide +kernel
theorem dX8_back_30 : decode cX8_back 30 = .ok (.bipush 7, 2) := by decide +kernel
theorem dX8_back_32 : decode cX8_back 32 = .ok (.iload_n 1, 1) := by decide +kernel
theorem dX8_back_33 : decode cX8_back 33 = .ok (.iconst (-1), 1) := by decide +kernel
theorem dX8_back_34 : decode cX8_back 34 = .ok (.lconst 0, 1) := by decide +kernel
theorem dX8_back_35 : decode cX8_back 35 = .ok (.invokevirtual 137, 3) := by decide +kernel
theorem dX8_back_38 : decode cX8_back 38 = .ok (.iconst 1, 1) := by decide +kernel
theorem dX8_back_39 : decode cX8_back 39 = .ok (.ireturn, 1) := by decide +kernel
theorem dX8_start_0 : decode cX8_start 0 = .ok (.aload_n 0, 1) := by decide +kernel
theorem dX8_start_1 : decode cX8_start 1 = .ok (.iload_n 1, 1) := by decide +kernel
theorem dX8_start_2 : decode cX8_start 2 = .ok (.invokevirtual 69, 3) := by decide +kernel
theorem dX8_start_5 : decode cX8_start 5 = .ok (.astore 6, 2) := by decide +kernel
theorem dX8_start_7 : decode cX8_start 7 = .ok (.aload 6, 2) := by decide +kernel
theorem dX8_start_9 : decode cX8_start 9 = .ok (.ifnull 24, 3) := by decide +kernel
theorem dX8_start_12 : decode cX8_start 12 = .ok (.aload 6, 2) := by decide +kernel
theorem dX8_start_14 : decode cX8_start 14 = .ok (.getfield 100, 3) := by decide +kernel
theorem dX8_start_17 : decode cX8_start 17 = .ok (.getstatic 155, 3) := by decide +kernel
theorem dX8_start_20 : decode cX8_start 20 = .ok (.if_acmp .ne 13, 3) := by decide +kernel
theorem dX8_start_23 : decode cX8_start 23 = .ok (.aload_n 0, 1) := by decide +kernel
theorem dX8_start_24 : decode cX8_start 24 = .ok (.getfield 30, 3) := by decide +kernel
theorem dX8_start_27 : decode cX8_start 27 = .ok (.getfield 164, 3) := by decide +kernel
theorem dX8_start_30 : decode cX8_start 30 = .ok (.ifnull 5, 3) := by decide +kernel
theorem dX8_start_33 : decode cX8_start 33 = .ok (.iconst (-1), 1) := by decide +kernel
theorem dX8_start_34 : decode cX8_start 34 = .ok (.ireturn, 1) := by decide +kernel
theorem dX8_start_35 : decode cX8_start 35 = .ok (.lload_n 2, 1) := by decide +kernel
theorem dX8_start_36 : decode cX8_start 36 = .ok (.aload 6, 2) := by decide +kernel
theorem dX8_start_38 : decode cX8_start 38 = .ok (.getfield 144, 3) := by decide +kernel
theorem dX8_start_41 : decode cX8_start 41 = .ok (.ldc2_w 54, 3) := by decide +kernel
theorem dX8_start_44 : decode cX8_start 44 = .ok (.invokestatic 50, 3) := by decide +kernel
theorem dX8_start_47 : decode cX8_start 47 = .ok (.ifCond .eq 15, 3) := by decide +kernel
theorem dX8_start_50 : decode cX8_start 50 = .ok (.lload 4, 2) := by decide +kernel
theorem dX8_start_52 : decode cX8_start 52 = .ok (.lconst 1, 1) := by decide +kernel
theorem dX8_start_53 : decode cX8_start 53 = .ok (.ldc2_w 168, 3) := by decide +kernel
theorem dX8_start_56 : decode cX8_start 56 = .ok (.invokestatic 50, 3) := by decide +kernel
theorem dX8_start_59 : decode cX8_start 59 = .ok (.ifCond .ne 5, 3) := by decide +kernel
theorem dX8_start_62 : decode cX8_start 62 = .ok (.iconst (-1), 1) := by decide +kernel
theorem dX8_start_63 : decode cX8_start 63 = .ok (.ireturn, 1) := by decide +kernel
theorem dX8_start_64 : decode cX8_start 64 = .ok (.lload_n 2, 1) := by decide +kernel
theorem dX8_start_65 : decode cX8_start 65 = .ok (.aload 6, 2) := by decide +kernel
theorem dX8_start_67 : decode cX8_start 67 = .ok (.getfield 144, 3) := by decide +kernel
theorem dX8_start_70 : decode cX8_start 70 = .ok (.lsub, 1) := by decide +kernel
theorem dX8_start_71 : decode cX8_start 71 = .ok (.lload 4, 2) := by decide +kernel
theorem dX8_start_73 : decode cX8_start 73 = .ok (.invokestatic 170, 3) := by decide +kernel
theorem dX8_start_76 : decode cX8_start 76 = .ok (.lstore 7, 2) := by decide +kernel
theorem dX8_start_78 : decode cX8_start 78 = .ok (.lload 7, 2) := by decide +kernel
theorem dX8_start_80 : decode cX8_start 80 = .ok (.ldc2_w 174, 3) := by decide +kernel
theorem dX8_start_83 : decode cX8_start 83 = .ok (.lcmp, 1) := by decide +kernel
theorem dX8_start_84 : decode cX8_start 84 = .ok (.ifCond .le 5, 3) := by decide +kernel
theorem dX8_start_87 : decode cX8_start 87 = .ok (.iconst (-1), 1) := by decide +kernel
theorem dX8_start_88 : decode cX8_start 88 = .ok (.ireturn, 1) := by decide +kernel
theorem dX8_start_89 : decode cX8_start 89 = .ok (.aload_n 0, 1) := by decide +kernel
theorem dX8_start_90 : decode cX8_start 90 = .ok (.getfield 30, 3) := by decide +kernel
theorem dX8_start_93 : decode cX8_start 93 = .ok (.aload 6, 2) := by decide +kernel
theorem dX8_start_95 : decode cX8_start 95 = .ok (.lload_n 2, 1) := by decide +kernel
theorem dX8_start_96 : decode cX8_start 96 = .ok (.lload 4, 2) := by decide +kernel
theorem dX8_start_98 : decode cX8_start 98 = .ok (.lload 7, 2) := by decide +kernel
theorem dX8_start_100 : decode cX8_start 100 = .ok (.invokevirtual 176, 3) := by decide +kernel
theorem dX8_start_103 : decode cX8_start 103 = .ok (.aload 6, 2) := by decide +kernel
theorem dX8_start_105 : decode cX8_start 105 = .ok (.getstatic 180, 3) := by decide +kernel
theorem dX8_start_108 : decode cX8_start 108 = .ok (.putfield 100, 3) := by decide +kernel
theorem dX8_start_111 : decode cX8_start 111 = .ok (.lload 7, 2) := by decide +kernel
theorem dX8_start_113 : decode cX8_start 113 = .ok (.l2i, 1) := by decide +kernel
theorem dX8_start_114 : decode cX8_start 114 = .ok (.ireturn, 1) := by decide +kernel
theorem dX8_delay_0 : decode cX8_delay 0 = .ok (.aload_n 0, 1) := by decide +kernel
theorem dX8_delay_1 : decode cX8_delay 1 = .ok (.iload_n 1, 1) := by decide +kernel
theorem dX8_delay_2 : decode cX8_delay 2 = .ok (.invokevirtual 89, 3) := by decide +kernel
theorem dX8_delay_5 : decode cX8_delay 5 = .ok (.astore 4, 2) := by decide +kernel
theorem dX8_delay_7 : decode cX8_delay 7 = .ok (.aload 4, 2) := by decide +kernel
theorem dX8_delay_9 : decode cX8_delay 9 = .ok (.ifnull 14, 3) := by decide +kernel
theorem dX8_delay_12 : decode cX8_delay 12 = .ok (.lload_n 2, 1) := by decide +kernel
theorem dX8_delay_13 : decode cX8_delay 13 = .ok (.lconst 0, 1) := by decide +kernel
theorem dX8_delay_14 : decode cX8_delay 14 = .ok (.ldc2_w 183, 3) := by decide +kernel
theorem dX8_delay_17 : decode cX8_delay 17 = .ok (.invokestatic 50, 3) := by decide +kernel
theorem dX8_delay_20 : decode cX8_delay 20 = .ok (.ifCond .ne 5, 3) := by decide +kernel
theorem dX8_delay_23 : decode cX8_delay 23 = .ok (.iconst 0, 1) := by decide +kernel
theorem dX8_delay_24 : decode cX8_delay 24 = .ok (.ireturn, 1) := by decide +kernel
theorem dX8_delay_25 : decode cX8_delay 25 = .ok (.aload 4, 2) := by decide +kernel
theorem dX8_delay_27 : decode cX8_delay 27 = .ok (.lload_n 2, 1) := by decide +kernel
theorem dX8_delay_28 : decode cX8_delay 28 = .ok (.putfield 185, 3) := by decide +kernel
theorem dX8_delay_31 : decode cX8_delay 31 = .ok (.iconst 1, 1) := by decide +kernel
theorem dX8_delay_32 : decode cX8_delay 32 = .ok (.ireturn, 1) := by decide +kernel
theorem dX8_press_0 : decode cX8_press 0 = .ok (.aload_n 0, 1) := by decide +kernel
theorem dX8_press_1 : decode cX8_press 1 = .ok (.iload_n 1, 1) := by decide +kernel
theorem dX8_press_2 : decode cX8_press 2 = .ok (.invokevirtual 89, 3) := by decide +kernel
theorem dX8_press_5 : decode cX8_press 5 = .ok (.astore 4, 2) := by decide +kernel
theorem dX8_press_7 : decode cX8_press 7 = .ok (.aload 4, 2) := by decide +kernel
theorem dX8_press_9 : decode cX8_press 9 = .ok (.ifnull 34, 3) := by decide +kernel
theorem dX8_press_12 : decode cX8_press 12 = .ok (.aload_n 0, 1) := by decide +kernel
theorem dX8_press_13 : decode cX8_press 13 = .ok (.getfield 30, 3) := by decide +kernel
theorem dX8_press_16 : decode cX8_press 16 = .ok (.getfield 164, 3) := by decide +kernel
theorem dX8_press_19 : decode cX8_press 19 = .ok (.ifnull 24, 3) := by decide +kernel
theorem dX8_press_22 : decode cX8_press 22 = .ok (.aload_n 0, 1) := by decide +kernel
theorem dX8_press_23 : decode cX8_press 23 = .ok (.getfield 30, 3) := by decide +kernel
theorem dX8_press_26 : decode cX8_press 26 = .ok (.getfield 188, 3) := by decide +kernel
theorem dX8_press_29 : decode cX8_press 29 = .ok (.ifCond .ne 14, 3) := by decide +kernel
theorem dX8_press_32 : decode cX8_press 32 = .ok (.lload_n 2, 1) := by decide +kernel
theorem dX8_press_33 : decode cX8_press 33 = .ok (.lconst 0, 1) := by decide +kernel
theorem dX8_press_34 : decode cX8_press 34 = .ok (.ldc2_w 191, 3) := by decide +kernel
theorem dX8_press_37 : decode cX8_press 37 = .ok (.invokestatic 50, 3) := by decide +kernel
theorem dX8_press_40 : decode cX8_press 40 = .ok (.ifCond .ne 5, 3) := by decide +kernel
theorem dX8_press_43 : decode cX8_press 43 = .ok (.iconst 0, 1) := by decide +kernel
theorem dX8_press_44 : decode cX8_press 44 = .ok (.ireturn, 1) := by decide +kernel
theorem dX8_press_45 : decode cX8_press 45 = .ok (.lconst 0, 1) := by decide +kernel
theorem dX8_press_46 : decode cX8_press 46 = .ok (.lload_n 2, 1) := by decide +kernel
theorem dX8_press_47 : decode cX8_press 47 = .ok (.aload 4, 2) := by decide +kernel
theorem dX8_press_49 : decode cX8_press 49 = .ok (.getfield 185, 3) := by decide +kernel
theorem dX8_press_52 : decode cX8_press 52 = .ok (.lsub, 1) := by decide +kernel
theorem dX8_press_53 : decode cX8_press 53 = .ok (.invokestatic 193, 3) := by decide +kernel
theorem dX8_press_56 : decode cX8_press 56 = .ok (.lstore 5, 2) := by decide +kernel
theorem dX8_press_58 : decode cX8_press 58 = .ok (.lload 5, 2) := by decide +kernel
theorem dX8_press_60 : decode cX8_press 60 = .ok (.aload_n 0, 1) := by decide +kernel
theorem dX8_press_61 : decode cX8_press 61 = .ok (.getfield 30, 3) := by decide +kernel
theorem dX8_press_64 : decode cX8_press 64 = .ok (.getfield 198, 3) := by decide +kernel
theorem dX8_press_67 : decode cX8_press 67 = .ok (.lcmp, 1) := by decide +kernel
theorem dX8_press_68 : decode cX8_press 68 = .ok (.ifCond .ge 13, 3) := by decide +kernel
theorem dX8_press_71 : decode cX8_press 71 = .ok (.aload 4, 2) := by decide +kernel
theorem dX8_press_73 : decode cX8_press 73 = .ok (.lload 5, 2) := by decide +kernel
theorem dX8_press_75 : decode cX8_press 75 = .ok (.invokevirtual 201, 3) := by decide +kernel
theorem dX8_press_78 : decode cX8_press 78 = .ok (.ifCond .eq 5, 3) := by decide +kernel
theorem dX8_press_81 : decode cX8_press 81 = .ok (.iconst 0, 1) := by decide +kernel
theorem dX8_press_82 : decode cX8_press 82 = .ok (.ireturn, 1) := by decide +kernel
theorem dX8_press_83 : decode cX8_press 83 = .ok (.aload 4, 2) := by decide +kernel
theorem dX8_press_85 : decode cX8_press 85 = .ok (.lload 5, 2) := by decide +kernel
theorem dX8_press_87 : decode cX8_press 87 = .ok (.putfield 205, 3) := by decide +kernel
theorem dX8_press_90 : decode cX8_press 90 = .ok (.iconst 1, 1) := by decide +kernel
theorem dX8_press_91 : decode cX8_press 91 = .ok (.ireturn, 1) := by decide +kernel
theorem dX8_tick_0 : decode cX8_tick 0 = .ok (.lload_n 1, 1) := by decide +kernel
theorem dX8_tick_1 : decode cX8_tick 1 = .ok (.lconst 1, 1) := by decide +kernel
theorem dX8_tick_2 : decode cX8_tick 2 = .ok (.ldc2_w 168, 3) := by decide +kernel
theorem dX8_tick_5 : decode cX8_tick 5 = .ok (.invokestatic 50, 3) := by decide +kernel
theorem dX8_tick_8 : decode cX8_tick 8 = .ok (.ifCond .ne 5, 3) := by decide +kernel
theorem dX8_tick_11 : decode cX8_tick 11 = .ok (.iconst (-1), 1) := by decide +kernel
theorem dX8_tick_12 : decode cX8_tick 12 = .ok (.ireturn, 1) := by decide +kernel
theorem dX8_tick_13 : decode cX8_tick 13 = .ok (.aload_n 0, 1) := by decide +kernel
theorem dX8_tick_14 : decode cX8_tick 14 = .ok (.dup, 1) := by decide +kernel
theorem dX8_tick_15 : decode cX8_tick 15 = .ok (.getfield 208, 3) := by decide +kernel
theorem dX8_tick_18 : decode cX8_tick 18 = .ok (.lload_n 1, 1) := by decide +kernel
theorem dX8_tick_19 : decode cX8_tick 19 = .ok (.ladd, 1) := by decide +kernel
theorem dX8_tick_20 : decode cX8_tick 20 = .ok (.putfield 208, 3) := by decide +kernel
theorem dX8_tick_23 : decode cX8_tick 23 = .ok (.aload_n 0, 1) := by decide +kernel
theorem dX8_tick_24 : decode cX8_tick 24 = .ok (.lload_n 1, 1) := by decide +kernel
theorem dX8_tick_25 : decode cX8_tick 25 = .ok (.invokevirtual 211, 3) := by decide +kernel
theorem dX8_tick_28 : decode cX8_tick 28 = .ok (.istore_n 3, 1) := by decide +kernel
theorem dX8_tick_29 : decode cX8_tick 29 = .ok (.aload_n 0, 1) := by decide +kernel
theorem dX8_tick_30 : decode cX8_tick 30 = .ok (.invokevirtual 215, 3) := by decide +kernel
theorem dX8_tick_33 : decode cX8_tick 33 = .ok (.iload_n 3, 1) := by decide +kernel
theorem dX8_tick_34 : decode cX8_tick 34 = .ok (.ireturn, 1) := by decide +kernel
theorem dX8_outage_0 : decode cX8_outage 0 = .ok (.aload_n 0, 1) := by decide +kernel
theorem dX8_outage_1 : decode cX8_outage 1 = .ok (.getfield 30, 3) := by decide +kernel
theorem dX8_outage_4 : decode cX8_outage 4 = .ok (.getfield 164, 3) := by decide +kernel
theorem dX8_outage_7 : decode cX8_outage 7 = .ok (.ifnull 14, 3) := by decide +kernel
theorem dX8_outage_10 : decode cX8_outage 10 = .ok (.aload_n 0, 1) := by decide +kernel
theorem dX8_outage_11 : decode cX8_outage 11 = .ok (.getfield 30, 3) := by decide +kernel
theorem dX8_outage_14 : decode cX8_outage 14 = .ok (.getfield 188, 3) := by decide +kernel
theorem dX8_outage_17 : decode cX8_outage 17 = .ok (.iload_n 3, 1) := by decide +kernel
theorem dX8_outage_18 : decode cX8_outage 18 = .ok (.if_icmp .ne 5, 3) := by decide +kernel
theorem dX8_outage_21 : decode cX8_outage 21 = .ok (.iconst 0, 1) := by decide +kernel
theorem dX8_outage_22 : decode cX8_outage 22 = .ok (.ireturn, 1) := by decide +kernel
theorem dX8_outage_23 : decode cX8_outage 23 = .ok (.lload_n 1, 1) := by decide +kernel
theorem dX8_outage_24 : decode cX8_outage 24 = .ok (.lconst 0, 1) := by decide +kernel
theorem dX8_outage_25 : decode cX8_outage 25 = .ok (.iload_n 3, 1) := by decide +kernel
theorem dX8_outage_26 : decode cX8_outage 26 = .ok (.ifCond .eq 13, 3) := by decide +kernel
theorem dX8_outage_29 : decode cX8_outage 29 = .ok (.aload_n 0, 1) := by decide +kernel
theorem dX8_outage_30 : decode cX8_outage 30 = .ok (.getfield 30, 3) := by decide +kernel
theorem dX8_outage_33 : decode cX8_outage 33 = .ok (.getfield 218, 3) := by decide +kernel
theorem dX8_outage_36 : decode cX8_outage 36 = .ok (.goto 4, 3) := by decide +kernel
theorem dX8_outage_39 : decode cX8_outage 39 = .ok (.lconst 0, 1) := by decide +kernel
theorem dX8_outage_40 : decode cX8_outage 40 = .ok (.invokestatic 50, 3) := by decide +kernel
theorem dX8_outage_43 : decode cX8_outage 43 = .ok (.ifCond .ne 5, 3) := by decide +kernel
theorem dX8_outage_46 : decode cX8_outage 46 = .ok (.iconst 0, 1) := by decide +kernel
theorem dX8_outage_47 : decode cX8_outage 47 = .ok (.ireturn, 1) := by decide +kernel
theorem dX8_outage_48 : decode cX8_outage 48 = .ok (.aload_n 0, 1) := by decide +kernel
theorem dX8_outage_49 : decode cX8_outage 49 = .ok (.getfield 30, 3) := by decide +kernel
theorem dX8_outage_52 : decode cX8_outage 52 = .ok (.iload_n 3, 1) := by decide +kernel
theorem dX8_outage_53 : decode cX8_outage 53 = .ok (.putfield 188, 3) := by decide +kernel
theorem dX8_outage_56 : decode cX8_outage 56 = .ok (.iload_n 3, 1) := by decide +kernel
theorem dX8_outage_57 : decode cX8_outage 57 = .ok (.ifCond .eq 30, 3) := by decide +kernel
theorem dX8_outage_60 : decode cX8_outage 60 = .ok (.aload_n 0, 1) := by decide +kernel
theorem dX8_outage_61 : decode cX8_outage 61 = .ok (.getfield 30, 3) := by decide +kernel
theorem dX8_outage_64 : decode cX8_outage 64 = .ok (.aload_n 0, 1) := by decide +kernel
theorem dX8_outage_65 : decode cX8_outage 65 = .ok (.getfield 30, 3) := by decide +kernel
theorem dX8_outage_68 : decode cX8_outage 68 = .ok (.getfield 218, 3) := by decide +kernel
theorem dX8_outage_71 : decode cX8_outage 71 = .ok (.lload_n 1, 1) := by decide +kernel
theorem dX8_outage_72 : decode cX8_outage 72 = .ok (.lsub, 1) := by decide +kernel
theorem dX8_outage_73 : decode cX8_outage 73 = .ok (.invokevirtual 221, 3) := by decide +kernel
theorem dX8_outage_76 : decode cX8_outage 76 = .ok (.aload_n 0, 1) := by decide +kernel
theorem dX8_outage_77 : decode cX8_outage 77 = .ok (.aload_n 0, 1) := by decide +kernel
theorem dX8_outage_78 : decode cX8_outage 78 = .ok (.getfield 30, 3) := by decide +kernel
theorem dX8_outage_81 : decode cX8_outage 81 = .ok (.getfield 218, 3) := by decide +kernel
theorem dX8_outage_84 : decode cX8_outage 84 = .ok (.invokevirtual 225, 3) := by decide +kernel
theorem dX8_outage_87 : decode cX8_outage 87 = .ok (.iconst 1, 1) := by decide +kernel
theorem dX8_outage_88 : decode cX8_outage 88 = .ok (.ireturn, 1) := by decide +kernel
theorem dX8_clock_0 : decode cX8_clock 0 = .ok (.aload_n 0, 1) := by decide +kernel
theorem dX8_clock_1 : decode cX8_clock 1 = .ok (.getfield 30, 3) := by decide +kernel
theorem dX8_clock_4 : decode cX8_clock 4 = .ok (.getfield 164, 3) := by decide +kernel
theorem dX8_clock_7 : decode cX8_clock 7 = .ok (.ifnonnull 9, 3) := by decide +kernel
theorem dX8_clock_10 : decode cX8_clock 10 = .ok (.ldc2_w 80, 3) := by decide +kernel
theorem dX8_clock_13 : decode cX8_clock 13 = .ok (.goto 17, 3) := by decide +kernel
theorem dX8_clock_16 : decode cX8_clock 16 = .ok (.aload_n 0, 1) := by decide +kernel
theorem dX8_clock_17 : decode cX8_clock 17 = .ok (.getfield 30, 3) := by decide +kernel
theorem dX8_clock_20 : decode cX8_clock 20 = .ok (.aload_n 0, 1) := by decide +kernel
theorem dX8_clock_21 : decode cX8_clock 21 = .ok (.getfield 30, 3) := by decide +kernel
theorem dX8_clock_24 : decode cX8_clock 24 = .ok (.getfield 218, 3) := by decide +kernel
theorem dX8_clock_27 : decode cX8_clock 27 = .ok (.invokevirtual 228, 3) := by decide +kernel
theorem dX8_clock_30 : decode cX8_clock 30 = .ok (.lreturn, 1) := by decide +kernel
theorem dX8_tie_0 : decode cX8_tie 0 = .ok (.aload_n 0, 1) := by decide +kernel
theorem dX8_tie_1 : decode cX8_tie 1 = .ok (.iload_n 1, 1) := by decide +kernel
theorem dX8_tie_2 : decode cX8_tie 2 = .ok (.invokevirtual 69, 3) := by decide +kernel
theorem dX8_tie_5 : decode cX8_tie 5 = .ok (.astore_n 3, 1) := by decide +kernel
theorem dX8_tie_6 : decode cX8_tie 6 = .ok (.aload_n 3, 1) := by decide +kernel
theorem dX8_tie_7 : decode cX8_tie 7 = .ok (.ifnull 7, 3) := by decide +kernel
theorem dX8_tie_10 : decode cX8_tie 10 = .ok (.iload_n 2, 1) := by decide +kernel
theorem dX8_tie_11 : decode cX8_tie 11 = .ok (.ifCond .ge 5, 3) := by decide +kernel
theorem dX8_tie_14 : decode cX8_tie 14 = .ok (.iconst (-1), 1) := by decide +kernel
theorem dX8_tie_15 : decode cX8_tie 15 = .ok (.ireturn, 1) := by decide +kernel
theorem dX8_tie_16 : decode cX8_tie 16 = .ok (.iconst 0, 1) := by decide +kernel
theorem dX8_tie_17 : decode cX8_tie 17 = .ok (.istore 4, 2) := by decide +kernel
theorem dX8_tie_19 : decode cX8_tie 19 = .ok (.iconst 0, 1) := by decide +kernel
theorem dX8_tie_20 : decode cX8_tie 20 = .ok (.istore 5, 2) := by decide +kernel
theorem dX8_tie_22 : decode cX8_tie 22 = .ok (.iload 5, 2) := by decide +kernel
theorem dX8_tie_24 : decode cX8_tie 24 = .ok (.aload_n 0, 1) := by decide +kernel
theorem dX8_tie_25 : decode cX8_tie 25 = .ok (.getfield 60, 3) := by decide +kernel
theorem dX8_tie_28 : decode cX8_tie 28 = .ok (.if_icmp .ge 30, 3) := by decide +kernel
theorem dX8_tie_31 : decode cX8_tie 31 = .ok (.aload_n 3, 1) := by decide +kernel
theorem dX8_tie_32 : decode cX8_tie 32 = .ok (.iload 5, 2) := by decide +kernel
theorem dX8_tie_34 : decode cX8_tie 34 = .ok (.invokevirtual 232, 3) := by decide +kernel
theorem dX8_tie_37 : decode cX8_tie 37 = .ok (.ifCond .eq 15, 3) := by decide +kernel
theorem dX8_tie_40 : decode cX8_tie 40 = .ok (.iload 4, 2) := by decide +kernel
theorem dX8_tie_42 : decode cX8_tie 42 = .ok (.iload_n 2, 1) := by decide +kernel
theorem dX8_tie_43 : decode cX8_tie 43 = .ok (.if_icmp .ne 6, 3) := by decide +kernel
theorem dX8_tie_46 : decode cX8_tie 46 = .ok (.iload 5, 2) := by decide +kernel
theorem dX8_tie_48 : decode cX8_tie 48 = .ok (.ireturn, 1) := by decide +kernel
theorem dX8_tie_49 : decode cX8_tie 49 = .ok (.iinc 4 1, 3) := by decide +kernel
theorem dX8_tie_52 : decode cX8_tie 52 = .ok (.iinc 5 1, 3) := by decide +kernel
theorem dX8_tie_55 : decode cX8_tie 55 = .ok (.goto (-33), 3) := by decide +kernel
theorem dX8_tie_58 : decode cX8_tie 58 = .ok (.iconst (-1), 1) := by decide +kernel
theorem dX8_tie_59 : decode cX8_tie 59 = .ok (.ireturn, 1) := by decide +kernel
theorem dX8_rise_0 : decode cX8_rise 0 = .ok (.aload_n 0, 1) := by decide +kernel
theorem dX8_rise_1 : decode cX8_rise 1 = .ok (.iload_n 1, 1) := by decide +kernel
theorem dX8_rise_2 : decode cX8_rise 2 = .ok (.invokevirtual 69, 3) := by decide +kernel
theorem dX8_rise_5 : decode cX8_rise 5 = .ok (.astore 5, 2) := by decide +kernel
theorem dX8_rise_7 : decode cX8_rise 7 = .ok (.aload_n 0, 1) := by decide +kernel
theorem dX8_rise_8 : decode cX8_rise 8 = .ok (.iload_n 2, 1) := by decide +kernel
theorem dX8_rise_9 : decode cX8_rise 9 = .ok (.invokevirtual 89, 3) := by decide +kernel
theorem dX8_rise_12 : decode cX8_rise 12 = .ok (.astore 6, 2) := by decide +kernel
theorem dX8_rise_14 : decode cX8_rise 14 = .ok (.aload 5, 2) := by decide +kernel
theorem dX8_rise_16 : decode cX8_rise 16 = .ok (.ifnull 8, 3) := by decide +kernel
theorem dX8_rise_19 : decode cX8_rise 19 = .ok (.aload 6, 2) := by decide +kernel
theorem dX8_rise_21 : decode cX8_rise 21 = .ok (.ifnonnull 5, 3) := by decide +kernel
theorem dX8_rise_24 : decode cX8_rise 24 = .ok (.iconst 1, 1) := by decide +kernel
theorem dX8_rise_25 : decode cX8_rise 25 = .ok (.ireturn, 1) := by decide +kernel
theorem dX8_rise_26 : decode cX8_rise 26 = .ok (.aload 5, 2) := by decide +kernel
theorem dX8_rise_28 : decode cX8_rise 28 = .ok (.getfield 100, 3) := by decide +kernel
theorem dX8_rise_31 : decode cX8_rise 31 = .ok (.getstatic 155, 3) := by decide +kernel
theorem dX8_rise_34 : decode cX8_rise 34 = .ok (.if_acmp .eq 16, 3) := by decide +kernel
theorem dX8_rise_37 : decode cX8_rise 37 = .ok (.aload 5, 2) := by decide +kernel
theorem dX8_rise_39 : decode cX8_rise 39 = .ok (.getfield 100, 3) := by decide +kernel
theorem dX8_rise_42 : decode cX8_rise 42 = .ok (.getstatic 235, 3) := by decide +kernel
theorem dX8_rise_45 : decode cX8_rise 45 = .ok (.if_acmp .eq 5, 3) := by decide +kernel
theorem dX8_rise_48 : decode cX8_rise 48 = .ok (.iconst 2, 1) := by decide +kernel
theorem dX8_rise_49 : decode cX8_rise 49 = .ok (.ireturn, 1) := by decide +kernel
theorem dX8_rise_50 : decode cX8_rise 50 = .ok (.lload_n 3, 1) := by decide +kernel
theorem dX8_rise_51 : decode cX8_rise 51 = .ok (.aload 5, 2) := by decide +kernel
theorem dX8_rise_53 : decode cX8_rise 53 = .ok (.invokevirtual 238, 3) := by decide +kernel
theorem dX8_rise_56 : decode cX8_rise 56 = .ok (.lcmp, 1) := by decide +kernel
theorem dX8_rise_57 : decode cX8_rise 57 = .ok (.ifCond .ge 5, 3) := by decide +kernel
theorem dX8_rise_60 : decode cX8_rise 60 = .ok (.iconst 3, 1) := by decide +kernel
theorem dX8_rise_61 : decode cX8_rise 61 = .ok (.ireturn, 1) := by decide +kernel
theorem dX8_rise_62 : decode cX8_rise 62 = .ok (.lload_n 3, 1) := by decide +kernel
theorem dX8_rise_63 : decode cX8_rise 63 = .ok (.aload_n 0, 1) := by decide +kernel
theorem dX8_rise_64 : decode cX8_rise 64 = .ok (.aload 6, 2) := by decide +kernel
theorem dX8_rise_66 : decode cX8_rise 66 = .ok (.invokevirtual 96, 3) := by decide +kernel
theorem dX8_rise_69 : decode cX8_rise 69 = .ok (.aload 5, 2) := by decide +kernel
theorem dX8_rise_71 : decode cX8_rise 71 = .ok (.iload_n 2, 1) := by decide +kernel
theorem dX8_rise_72 : decode cX8_rise 72 = .ok (.invokevirtual 242, 3) := by decide +kernel
theorem dX8_rise_75 : decode cX8_rise 75 = .ok (.ladd, 1) := by decide +kernel
theorem dX8_rise_76 : decode cX8_rise 76 = .ok (.lcmp, 1) := by decide +kernel
theorem dX8_rise_77 : decode cX8_rise 77 = .ok (.ifCond .le 5, 3) := by decide +kernel
theorem dX8_rise_80 : decode cX8_rise 80 = .ok (.iconst 4, 1) := by decide +kernel
theorem dX8_rise_81 : decode cX8_rise 81 = .ok (.ireturn, 1) := by decide +kernel
theorem dX8_rise_82 : decode cX8_rise 82 = .ok (.aload 5, 2) := by decide +kernel
theorem dX8_rise_84 : decode cX8_rise 84 = .ok (.getstatic 235, 3) := by decide +kernel
theorem dX8_rise_87 : decode cX8_rise 87 = .ok (.putfield 100, 3) := by decide +kernel
theorem dX8_rise_90 : decode cX8_rise 90 = .ok (.aload 5, 2) := by decide +kernel
theorem dX8_rise_92 : decode cX8_rise 92 = .ok (.iload_n 2, 1) := by decide +kernel
theorem dX8_rise_93 : decode cX8_rise 93 = .ok (.putfield 77, 3) := by decide +kernel
theorem dX8_rise_96 : decode cX8_rise 96 = .ok (.aload 5, 2) := by decide +kernel
theorem dX8_rise_98 : decode cX8_rise 98 = .ok (.lload_n 3, 1) := by decide +kernel
theorem dX8_rise_99 : decode cX8_rise 99 = .ok (.putfield 82, 3) := by decide +kernel
theorem dX8_rise_102 : decode cX8_rise 102 = .ok (.aload 5, 2) := by decide +kernel
theorem dX8_rise_104 : decode cX8_rise 104 = .ok (.aload_n 0, 1) := by decide +kernel
theorem dX8_rise_105 : decode cX8_rise 105 = .ok (.getfield 208, 3) := by decide +kernel
theorem dX8_rise_108 : decode cX8_rise 108 = .ok (.putfield 246, 3) := by decide +kernel
theorem dX8_rise_111 : decode cX8_rise 111 = .ok (.iconst 0, 1) := by decide +kernel
theorem dX8_rise_112 : decode cX8_rise 112 = .ok (.ireturn, 1) := by decide +kernel
theorem dX8_bid_0 : decode cX8_bid 0 = .ok (.aload_n 0, 1) := by decide +kernel
theorem dX8_bid_1 : decode cX8_bid 1 = .ok (.getfield 249, 3) := by decide +kernel
theorem dX8_bid_4 : decode cX8_bid 4 = .ok (.istore 4, 2) := by decide +kernel
theorem dX8_bid_6 : decode cX8_bid 6 = .ok (.aload_n 0, 1) := by decide +kernel
theorem dX8_bid_7 : decode cX8_bid 7 = .ok (.iload_n 1, 1) := by decide +kernel
theorem dX8_bid_8 : decode cX8_bid 8 = .ok (.invokevirtual 89, 3) := by decide +kernel
theorem dX8_bid_11 : decode cX8_bid 11 = .ok (.ifnull 18, 3) := by decide +kernel
theorem dX8_bid_14 : decode cX8_bid 14 = .ok (.iload 4, 2) := by decide +kernel
theorem dX8_bid_16 : decode cX8_bid 16 = .ok (.ifCond .lt 13, 3) := by decide +kernel
theorem dX8_bid_19 : decode cX8_bid 19 = .ok (.iload 4, 2) := by decide +kernel
theorem dX8_bid_21 : decode cX8_bid 21 = .ok (.aload_n 0, 1) := by decide +kernel
theorem dX8_bid_22 : decode cX8_bid 22 = .ok (.getfield 23, 3) := by decide +kernel
theorem dX8_bid_25 : decode cX8_bid 25 = .ok (.arraylength, 1) := by decide +kernel
theorem dX8_bid_26 : decode cX8_bid 26 = .ok (.if_icmp .lt 5, 3) := by decide +kernel
theorem dX8_bid_29 : decode cX8_bid 29 = .ok (.iconst (-1), 1) := by decide +kernel
theorem dX8_bid_30 : decode cX8_bid 30 = .ok (.ireturn, 1) := by decide +kernel
theorem dX8_bid_31 : decode cX8_bid 31 = .ok (.lload_n 2, 1) := by decide +kernel
theorem dX8_bid_32 : decode cX8_bid 32 = .ok (.lconst 0, 1) := by decide +kernel
theorem dX8_bid_33 : decode cX8_bid 33 = .ok (.ldc2_w 64, 3) := by decide +kernel
theorem dX8_bid_36 : decode cX8_bid 36 = .ok (.invokestatic 50, 3) := by decide +kernel
theorem dX8_bid_39 : decode cX8_bid 39 = .ok (.ifCond .ne 5, 3) := by decide +kernel
theorem dX8_bid_42 : decode cX8_bid 42 = .ok (.iconst (-1), 1) := by decide +kernel
theorem dX8_bid_43 : decode cX8_bid 43 = .ok (.ireturn, 1) := by decide +kernel
theorem dX8_bid_44 : decode cX8_bid 44 = .ok (.aload_n 0, 1) := by decide +kernel
theorem dX8_bid_45 : decode cX8_bid 45 = .ok (.getfield 23, 3) := by decide +kernel
theorem dX8_bid_48 : decode cX8_bid 48 = .ok (.iload 4, 2) := by decide +kernel
theorem dX8_bid_50 : decode cX8_bid 50 = .ok (.new 21, 3) := by decide +kernel
theorem dX8_bid_53 : decode cX8_bid 53 = .ok (.dup, 1) := by decide +kernel
theorem dX8_bid_54 : decode cX8_bid 54 = .ok (.iload 4, 2) := by decide +kernel
theorem dX8_bid_56 : decode cX8_bid 56 = .ok (.iload_n 1, 1) := by decide +kernel
theorem dX8_bid_57 : decode cX8_bid 57 = .ok (.lload_n 2, 1) := by decide +kernel
theorem dX8_bid_58 : decode cX8_bid 58 = .ok (.invokespecial 252, 3) := by decide +kernel
theorem dX8_bid_61 : decode cX8_bid 61 = .ok (.aastore, 1) := by decide +kernel
theorem dX8_bid_62 : decode cX8_bid 62 = .ok (.aload_n 0, 1) := by decide +kernel
theorem dX8_bid_63 : decode cX8_bid 63 = .ok (.iload 4, 2) := by decide +kernel
theorem dX8_bid_65 : decode cX8_bid 65 = .ok (.iconst 1, 1) := by decide +kernel
theorem dX8_bid_66 : decode cX8_bid 66 = .ok (.iadd, 1) := by decide +kernel
theorem dX8_bid_67 : decode cX8_bid 67 = .ok (.putfield 249, 3) := by decide +kernel
theorem dX8_bid_70 : decode cX8_bid 70 = .ok (.iload 4, 2) := by decide +kernel
theorem dX8_bid_72 : decode cX8_bid 72 = .ok (.ireturn, 1) := by decide +kernel
theorem dX8_on_0 : decode cX8_on 0 = .ok (.aload_n 0, 1) := by decide +kernel
theorem dX8_on_1 : decode cX8_on 1 = .ok (.iload_n 1, 1) := by decide +kernel
theorem dX8_on_2 : decode cX8_on 2 = .ok (.invokevirtual 255, 3) := by decide +kernel
theorem dX8_on_5 : decode cX8_on 5 = .ok (.astore_n 3, 1) := by decide +kernel
theorem dX8_on_6 : decode cX8_on 6 = .ok (.aload_n 0, 1) := by decide +kernel
theorem dX8_on_7 : decode cX8_on 7 = .ok (.iload_n 2, 1) := by decide +kernel
theorem dX8_on_8 : decode cX8_on 8 = .ok (.invokevirtual 69, 3) := by decide +kernel
theorem dX8_on_11 : decode cX8_on 11 = .ok (.astore 4, 2) := by decide +kernel
theorem dX8_on_13 : decode cX8_on 13 = .ok (.aload_n 3, 1) := by decide +kernel
theorem dX8_on_14 : decode cX8_on 14 = .ok (.ifnull 27, 3) := by decide +kernel
theorem dX8_on_17 : decode cX8_on 17 = .ok (.aload 4, 2) := by decide +kernel
theorem dX8_on_19 : decode cX8_on 19 = .ok (.ifnull 22, 3) := by decide +kernel
theorem dX8_on_22 : decode cX8_on 22 = .ok (.aload_n 3, 1) := by decide +kernel
theorem dX8_on_23 : decode cX8_on 23 = .ok (.iload_n 2, 1) := by decide +kernel
theorem dX8_on_24 : decode cX8_on 24 = .ok (.invokevirtual 259, 3) := by decide +kernel
theorem dX8_on_27 : decode cX8_on 27 = .ok (.ifCond .ne 14, 3) := by decide +kernel
theorem dX8_on_30 : decode cX8_on 30 = .ok (.aload 4, 2) := by decide +kernel
theorem dX8_on_32 : decode cX8_on 32 = .ok (.getfield 100, 3) := by decide +kernel
theorem dX8_on_35 : decode cX8_on 35 = .ok (.getstatic 155, 3) := by decide +kernel
theorem dX8_on_38 : decode cX8_on 38 = .ok (.if_acmp .eq 5, 3) := by decide +kernel
theorem dX8_on_41 : decode cX8_on 41 = .ok (.iconst 0, 1) := by decide +kernel
theorem dX8_on_42 : decode cX8_on 42 = .ok (.ireturn, 1) := by decide +kernel
theorem dX8_on_43 : decode cX8_on 43 = .ok (.aload_n 3, 1) := by decide +kernel
theorem dX8_on_44 : decode cX8_on 44 = .ok (.iload_n 2, 1) := by decide +kernel
theorem dX8_on_45 : decode cX8_on 45 = .ok (.invokevirtual 262, 3) := by decide +kernel
theorem dX8_on_48 : decode cX8_on 48 = .ok (.iconst 1, 1) := by decide +kernel
theorem dX8_on_49 : decode cX8_on 49 = .ok (.ireturn, 1) := by decide +kernel
theorem dX8_sets_0 : decode cX8_sets 0 = .ok (.aload_n 0, 1) := by decide +kernel
theorem dX8_sets_1 : decode cX8_sets 1 = .ok (.aload_n 0, 1) := by decide +kernel
theorem dX8_sets_2 : decode cX8_sets 2 = .ok (.getfield 249, 3) := by decide +kernel
theorem dX8_sets_5 : decode cX8_sets 5 = .ok (.ifCond .le 27, 3) := by decide +kernel
theorem dX8_sets_8 : decode cX8_sets 8 = .ok (.aload_n 0, 1) := by decide +kernel
theorem dX8_sets_9 : decode cX8_sets 9 = .ok (.getfield 249, 3) := by decide +kernel
theorem dX8_sets_12 : decode cX8_sets 12 = .ok (.bipush 18, 2) := by decide +kernel
theorem dX8_sets_14 : decode cX8_sets 14 = .ok (.if_icmp .gt 18, 3) := by decide +kernel
theorem dX8_sets_17 : decode cX8_sets 17 = .ok (.lconst 1, 1) := by decide +kernel
theorem dX8_sets_18 : decode cX8_sets 18 = .ok (.aload_n 0, 1) := by decide +kernel
theorem dX8_sets_19 : decode cX8_sets 19 = .ok (.getfield 249, 3) := by decide +kernel
theorem dX8_sets_22 : decode cX8_sets 22 = .ok (.lshl, 1) := by decide +kernel
theorem dX8_sets_23 : decode cX8_sets 23 = .ok (.lload_n 1, 1) := by decide +kernel
theorem dX8_sets_24 : decode cX8_sets 24 = .ok (.lcmp, 1) := by decide +kernel
theorem dX8_sets_25 : decode cX8_sets 25 = .ok (.ifCond .gt 7, 3) := by decide +kernel
theorem dX8_sets_28 : decode cX8_sets 28 = .ok (.iconst 1, 1) := by decide +kernel
theorem dX8_sets_29 : decode cX8_sets 29 = .ok (.goto 4, 3) := by decide +kernel
theorem dX8_sets_32 : decode cX8_sets 32 = .ok (.iconst 0, 1) := by decide +kernel
theorem dX8_sets_33 : decode cX8_sets 33 = .ok (.putfield 265, 3) := by decide +kernel
theorem dX8_sets_36 : decode cX8_sets 36 = .ok (.aload_n 0, 1) := by decide +kernel
theorem dX8_sets_37 : decode cX8_sets 37 = .ok (.getfield 265, 3) := by decide +kernel
theorem dX8_sets_40 : decode cX8_sets 40 = .ok (.ifCond .ne 5, 3) := by decide +kernel
theorem dX8_sets_43 : decode cX8_sets 43 = .ok (.iconst (-1), 1) := by decide +kernel
theorem dX8_sets_44 : decode cX8_sets 44 = .ok (.ireturn, 1) := by decide +kernel
theorem dX8_sets_45 : decode cX8_sets 45 = .ok (.aload_n 0, 1) := by decide +kernel
theorem dX8_sets_46 : decode cX8_sets 46 = .ok (.invokevirtual 268, 3) := by decide +kernel
theorem dX8_sets_49 : decode cX8_sets 49 = .ok (.iconst 0, 1) := by decide +kernel
theorem dX8_sets_50 : decode cX8_sets 50 = .ok (.istore_n 3, 1) := by decide +kernel
theorem dX8_sets_51 : decode cX8_sets 51 = .ok (.iload_n 3, 1) := by decide +kernel
theorem dX8_sets_52 : decode cX8_sets 52 = .ok (.aload_n 0, 1) := by decide +kernel
theorem dX8_sets_53 : decode cX8_sets 53 = .ok (.getfield 249, 3) := by decide +kernel
theorem dX8_sets_56 : decode cX8_sets 56 = .ok (.if_icmp .ge 38, 3) := by decide +kernel
theorem dX8_sets_59 : decode cX8_sets 59 = .ok (.aload_n 0, 1) := by decide +kernel
theorem dX8_sets_60 : decode cX8_sets 60 = .ok (.iload_n 3, 1) := by decide +kernel
theorem dX8_sets_61 : decode cX8_sets 61 = .ok (.invokevirtual 255, 3) := by decide +kernel
theorem dX8_sets_64 : decode cX8_sets 64 = .ok (.astore 4, 2) := by decide +kernel
theorem dX8_sets_66 : decode cX8_sets 66 = .ok (.aload 4, 2) := by decide +kernel
theorem dX8_sets_68 : decode cX8_sets 68 = .ok (.ifnull 20, 3) := by decide +kernel
theorem dX8_sets_71 : decode cX8_sets 71 = .ok (.aload_n 0, 1) := by decide +kernel
theorem dX8_sets_72 : decode cX8_sets 72 = .ok (.getfield 44, 3) := by decide +kernel
theorem dX8_sets_75 : decode cX8_sets 75 = .ok (.iload_n 3, 1) := by decide +kernel
theorem dX8_sets_76 : decode cX8_sets 76 = .ok (.invokevirtual 271, 3) := by decide +kernel
theorem dX8_sets_79 : decode cX8_sets 79 = .ok (.ifCond .eq 9, 3) := by decide +kernel
theorem dX8_sets_82 : decode cX8_sets 82 = .ok (.aload_n 0, 1) := by decide +kernel
theorem dX8_sets_83 : decode cX8_sets 83 = .ok (.aload 4, 2) := by decide +kernel
theorem dX8_sets_85 : decode cX8_sets 85 = .ok (.invokevirtual 274, 3) := by decide +kernel
theorem dX8_sets_88 : decode cX8_sets 88 = .ok (.iinc 3 1, 3) := by decide +kernel
theorem dX8_sets_91 : decode cX8_sets 91 = .ok (.goto (-40), 3) := by decide +kernel
theorem dX8_sets_94 : decode cX8_sets 94 = .ok (.aload_n 0, 1) := by decide +kernel
theorem dX8_sets_95 : decode cX8_sets 95 = .ok (.iconst 0, 1) := by decide +kernel
theorem dX8_sets_96 : decode cX8_sets 96 = .ok (.putfield 249, 3) := by decide +kernel
theorem dX8_sets_99 : decode cX8_sets 99 = .ok (.aload_n 0, 1) := by decide +kernel
theorem dX8_sets_100 : decode cX8_sets 100 = .ok (.getfield 44, 3) := by decide +kernel
theorem dX8_sets_103 : decode cX8_sets 103 = .ok (.invokevirtual 278, 3) := by decide +kernel
theorem dX8_sets_106 : decode cX8_sets 106 = .ok (.ireturn, 1) := by decide +kernel
theorem dX8_wins_0 : decode cX8_wins 0 = .ok (.aload_n 0, 1) := by decide +kernel
theorem dX8_wins_1 : decode cX8_wins 1 = .ok (.getfield 44, 3) := by decide +kernel
theorem dX8_wins_4 : decode cX8_wins 4 = .ok (.iload_n 1, 1) := by decide +kernel
theorem dX8_wins_5 : decode cX8_wins 5 = .ok (.invokevirtual 271, 3) := by decide +kernel
theorem dX8_wins_8 : decode cX8_wins 8 = .ok (.ireturn, 1) := by decide +kernel
theorem dX8_sum_0 : decode cX8_sum 0 = .ok (.aload_n 0, 1) := by decide +kernel
theorem dX8_sum_1 : decode cX8_sum 1 = .ok (.getfield 44, 3) := by decide +kernel
theorem dX8_sum_4 : decode cX8_sum 4 = .ok (.getfield 282, 3) := by decide +kernel
theorem dX8_sum_7 : decode cX8_sum 7 = .ok (.lreturn, 1) := by decide +kernel
theorem dX8_proved_0 : decode cX8_proved 0 = .ok (.aload_n 0, 1) := by decide +kernel
theorem dX8_proved_1 : decode cX8_proved 1 = .ok (.getfield 265, 3) := by decide +kernel
theorem dX8_proved_4 : decode cX8_proved 4 = .ok (.ireturn, 1) := by decide +kernel
theorem dX8_record_0 : decode cX8_record 0 = .ok (.aload_n 0, 1) := by decide +kernel
theorem dX8_record_1 : decode cX8_record 1 = .ok (.getfield 37, 3) := by decide +kernel
theorem dX8_record_4 : decode cX8_record 4 = .ok (.iload_n 1, 1) := by decide +kernel
theorem dX8_record_5 : decode cX8_record 5 = .ok (.invokevirtual 285, 3) := by decide +kernel
theorem dX8_record_8 : decode cX8_record 8 = .ok (.astore_n 3, 1) := by decide +kernel
theorem dX8_record_9 : decode cX8_record 9 = .ok (.aload_n 3, 1) := by decide +kernel
theorem dX8_record_10 : decode cX8_record 10 = .ok (.ifnonnull 5, 3) := by decide +kernel
theorem dX8_record_13 : decode cX8_record 13 = .ok (.iconst (-1), 1) := by decide +kernel
theorem dX8_record_14 : decode cX8_record 14 = .ok (.ireturn, 1) := by decide +kernel
theorem dX8_record_15 : decode cX8_record 15 = .ok (.iload_n 2, 1) := by decide +kernel
theorem dX8_record_16 : decode cX8_record 16 = .ok (.tableswitch 66 0 4 #[36, 41, 46, 51, 61], 36) := by decide +kernel
theorem dX8_record_52 : decode cX8_record 52 = .ok (.aload_n 3, 1) := by decide +kernel
theorem dX8_record_53 : decode cX8_record 53 = .ok (.getfield 289, 3) := by decide +kernel
theorem dX8_record_56 : decode cX8_record 56 = .ok (.ireturn, 1) := by decide +kernel
theorem dX8_record_57 : decode cX8_record 57 = .ok (.aload_n 3, 1) := by decide +kernel
theorem dX8_record_58 : decode cX8_record 58 = .ok (.getfield 294, 3) := by decide +kernel
theorem dX8_record_61 : decode cX8_record 61 = .ok (.ireturn, 1) := by decide +kernel
theorem dX8_record_62 : decode cX8_record 62 = .ok (.aload_n 3, 1) := by decide +kernel
theorem dX8_record_63 : decode cX8_record 63 = .ok (.getfield 296, 3) := by decide +kernel
theorem dX8_record_66 : decode cX8_record 66 = .ok (.ireturn, 1) := by decide +kernel
theorem dX8_record_67 : decode cX8_record 67 = .ok (.aload_n 3, 1) := by decide +kernel
theorem dX8_record_68 : decode cX8_record 68 = .ok (.getfield 299, 3) := by decide +kernel
theorem dX8_record_71 : decode cX8_record 71 = .ok (.ldc2_w 54, 3) := by decide +kernel
theorem dX8_record_74 : decode cX8_record 74 = .ok (.lrem, 1) := by decide +kernel
theorem dX8_record_75 : decode cX8_record 75 = .ok (.l2i, 1) := by decide +kernel
theorem dX8_record_76 : decode cX8_record 76 = .ok (.ireturn, 1) := by decide +kernel
theorem dX8_record_77 : decode cX8_record 77 = .ok (.aload_n 3, 1) := by decide +kernel
theorem dX8_record_78 : decode cX8_record 78 = .ok (.getfield 300, 3) := by decide +kernel
theorem dX8_record_81 : decode cX8_record 81 = .ok (.ireturn, 1) := by decide +kernel
theorem dX8_record_82 : decode cX8_record 82 = .ok (.iconst (-1), 1) := by decide +kernel
theorem dX8_record_83 : decode cX8_record 83 = .ok (.ireturn, 1) := by decide +kernel
theorem dX8_chained_0 : decode cX8_chained 0 = .ok (.aload_n 0, 1) := by decide +kernel
theorem dX8_chained_1 : decode cX8_chained 1 = .ok (.getfield 37, 3) := by decide +kernel
theorem dX8_chained_4 : decode cX8_chained 4 = .ok (.invokevirtual 303, 3) := by decide +kernel
theorem dX8_chained_7 : decode cX8_chained 7 = .ok (.ireturn, 1) := by decide +kernel
theorem dX8_play_0 : decode cX8_play 0 = .ok (.iload_n 3, 1) := by decide +kernel
theorem dX8_play_1 : decode cX8_play 1 = .ok (.i2l, 1) := by decide +kernel
theorem dX8_play_2 : decode cX8_play 2 = .ok (.lconst 1, 1) := by decide +kernel
theorem dX8_play_3 : decode cX8_play 3 = .ok (.ldc2_w 306, 3) := by decide +kernel
theorem dX8_play_6 : decode cX8_play 6 = .ok (.invokestatic 50, 3) := by decide +kernel
theorem dX8_play_9 : decode cX8_play 9 = .ok (.ifCond .ne 5, 3) := by decide +kernel
theorem dX8_play_12 : decode cX8_play 12 = .ok (.iconst (-1), 1) := by decide +kernel
theorem dX8_play_13 : decode cX8_play 13 = .ok (.ireturn, 1) := by decide +kernel
theorem dX8_play_14 : decode cX8_play 14 = .ok (.lload_n 1, 1) := by decide +kernel
theorem dX8_play_15 : decode cX8_play 15 = .ok (.lconst 0, 1) := by decide +kernel
theorem dX8_play_16 : decode cX8_play 16 = .ok (.lcmp, 1) := by decide +kernel
theorem dX8_play_17 : decode cX8_play 17 = .ok (.ifCond .ne 9, 3) := by decide +kernel
theorem dX8_play_20 : decode cX8_play 20 = .ok (.ldc2_w 308, 3) := by decide +kernel
theorem dX8_play_23 : decode cX8_play 23 = .ok (.goto 4, 3) := by decide +kernel
theorem dX8_play_26 : decode cX8_play 26 = .ok (.lload_n 1, 1) := by decide +kernel
theorem dX8_play_27 : decode cX8_play 27 = .ok (.lstore 4, 2) := by decide +kernel
theorem dX8_play_29 : decode cX8_play 29 = .ok (.iconst 0, 1) := by decide +kernel
theorem dX8_play_30 : decode cX8_play 30 = .ok (.istore 6, 2) := by decide +kernel
theorem dX8_play_32 : decode cX8_play 32 = .ok (.iload 6, 2) := by decide +kernel
theorem dX8_play_34 : decode cX8_play 34 = .ok (.iload_n 3, 1) := by decide +kernel
theorem dX8_play_35 : decode cX8_play 35 = .ok (.if_icmp .ge 47, 3) := by decide +kernel
theorem dX8_play_38 : decode cX8_play 38 = .ok (.lload 4, 2) := by decide +kernel
theorem dX8_play_40 : decode cX8_play 40 = .ok (.lload 4, 2) := by decide +kernel
theorem dX8_play_42 : decode cX8_play 42 = .ok (.bipush 13, 2) := by decide +kernel
theorem dX8_play_44 : decode cX8_play 44 = .ok (.lshl, 1) := by decide +kernel
theorem dX8_play_45 : decode cX8_play 45 = .ok (.lxor, 1) := by decide +kernel
theorem dX8_play_46 : decode cX8_play 46 = .ok (.lstore 4, 2) := by decide +kernel
theorem dX8_play_48 : decode cX8_play 48 = .ok (.lload 4, 2) := by decide +kernel
theorem dX8_play_50 : decode cX8_play 50 = .ok (.lload 4, 2) := by decide +kernel
theorem dX8_play_52 : decode cX8_play 52 = .ok (.bipush 7, 2) := by decide +kernel
theorem dX8_play_54 : decode cX8_play 54 = .ok (.lushr, 1) := by decide +kernel
theorem dX8_play_55 : decode cX8_play 55 = .ok (.lxor, 1) := by decide +kernel
theorem dX8_play_56 : decode cX8_play 56 = .ok (.lstore 4, 2) := by decide +kernel
theorem dX8_play_58 : decode cX8_play 58 = .ok (.lload 4, 2) := by decide +kernel
theorem dX8_play_60 : decode cX8_play 60 = .ok (.lload 4, 2) := by decide +kernel
theorem dX8_play_62 : decode cX8_play 62 = .ok (.bipush 17, 2) := by decide +kernel
theorem dX8_play_64 : decode cX8_play 64 = .ok (.lshl, 1) := by decide +kernel
theorem dX8_play_65 : decode cX8_play 65 = .ok (.lxor, 1) := by decide +kernel
theorem dX8_play_66 : decode cX8_play 66 = .ok (.lstore 4, 2) := by decide +kernel
theorem dX8_play_68 : decode cX8_play 68 = .ok (.aload_n 0, 1) := by decide +kernel
theorem dX8_play_69 : decode cX8_play 69 = .ok (.lload 4, 2) := by decide +kernel
theorem dX8_play_71 : decode cX8_play 71 = .ok (.iconst 1, 1) := by decide +kernel
theorem dX8_play_72 : decode cX8_play 72 = .ok (.lushr, 1) := by decide +kernel
theorem dX8_play_73 : decode cX8_play 73 = .ok (.invokevirtual 310, 3) := by decide +kernel
theorem dX8_play_76 : decode cX8_play 76 = .ok (.iinc 6 1, 3) := by decide +kernel
theorem dX8_play_79 : decode cX8_play 79 = .ok (.goto (-47), 3) := by decide +kernel
theorem dX8_play_82 : decode cX8_play 82 = .ok (.aload_n 0, 1) := by decide +kernel
theorem dX8_play_83 : decode cX8_play 83 = .ok (.invokevirtual 313, 3) := by decide +kernel
theorem dX8_play_86 : decode cX8_play 86 = .ok (.ireturn, 1) := by decide +kernel
theorem dX8_playTurn_0 : decode cX8_playTurn 0 = .ok (.lload_n 1, 1) := by decide +kernel
theorem dX8_playTurn_1 : decode cX8_playTurn 1 = .ok (.ldc2_w 316, 3) := by decide +kernel
theorem dX8_playTurn_4 : decode cX8_playTurn 4 = .ok (.ldiv, 1) := by decide +kernel
theorem dX8_playTurn_5 : decode cX8_playTurn 5 = .ok (.ldc2_w 318, 3) := by decide +kernel
theorem dX8_playTurn_8 : decode cX8_playTurn 8 = .ok (.lrem, 1) := by decide +kernel
theorem dX8_playTurn_9 : decode cX8_playTurn 9 = .ok (.l2i, 1) := by decide +kernel
theorem dX8_playTurn_10 : decode cX8_playTurn 10 = .ok (.istore_n 3, 1) := by decide +kernel
theorem dX8_playTurn_11 : decode cX8_playTurn 11 = .ok (.lload_n 1, 1) := by decide +kernel
theorem dX8_playTurn_12 : decode cX8_playTurn 12 = .ok (.ldc2_w 320, 3) := by decide +kernel
theorem dX8_playTurn_15 : decode cX8_playTurn 15 = .ok (.ldiv, 1) := by decide +kernel
theorem dX8_playTurn_16 : decode cX8_playTurn 16 = .ok (.ldc2_w 322, 3) := by decide +kernel
theorem dX8_playTurn_19 : decode cX8_playTurn 19 = .ok (.lrem, 1) := by decide +kernel
theorem dX8_playTurn_20 : decode cX8_playTurn 20 = .ok (.lstore 4, 2) := by decide +kernel
theorem dX8_playTurn_22 : decode cX8_playTurn 22 = .ok (.lload_n 1, 1) := by decide +kernel
theorem dX8_playTurn_23 : decode cX8_playTurn 23 = .ok (.ldc2_w 316, 3) := by decide +kernel
theorem dX8_playTurn_26 : decode cX8_playTurn 26 = .ok (.lrem, 1) := by decide +kernel
theorem dX8_playTurn_27 : decode cX8_playTurn 27 = .ok (.l2i, 1) := by decide +kernel
theorem dX8_playTurn_28 : decode cX8_playTurn 28 = .ok (.tableswitch 130 0 4 #[36, 54, 70, 93, 111], 36) := by decide +kernel
theorem dX8_playTurn_64 : decode cX8_playTurn 64 = .ok (.aload_n 0, 1) := by decide +kernel
theorem dX8_playTurn_65 : decode cX8_playTurn 65 = .ok (.iload_n 3, 1) := by decide +kernel
theorem dX8_playTurn_66 : decode cX8_playTurn 66 = .ok (.bipush 32, 2) := by decide +kernel
theorem dX8_playTurn_68 : decode cX8_playTurn 68 = .ok (.irem, 1) := by decide +kernel
theorem dX8_playTurn_69 : decode cX8_playTurn 69 = .ok (.lload 4, 2) := by decide +kernel
theorem dX8_playTurn_71 : decode cX8_playTurn 71 = .ok (.ldc2_w 324, 3) := by decide +kernel
theorem dX8_playTurn_74 : decode cX8_playTurn 74 = .ok (.lrem, 1) := by decide +kernel
theorem dX8_playTurn_75 : decode cX8_playTurn 75 = .ok (.invokevirtual 326, 3) := by decide +kernel
theorem dX8_playTurn_78 : decode cX8_playTurn 78 = .ok (.pop, 1) := by decide +kernel
theorem dX8_playTurn_79 : decode cX8_playTurn 79 = .ok (.goto 85, 3) := by decide +kernel
theorem dX8_playTurn_82 : decode cX8_playTurn 82 = .ok (.aload_n 0, 1) := by decide +kernel
theorem dX8_playTurn_83 : decode cX8_playTurn 83 = .ok (.lconst 1, 1) := by decide +kernel
theorem dX8_playTurn_84 : decode cX8_playTurn 84 = .ok (.lload 4, 2) := by decide +kernel
theorem dX8_playTurn_86 : decode cX8_playTurn 86 = .ok (.ldc2_w 330, 3) := by decide +kernel
theorem dX8_playTurn_89 : decode cX8_playTurn 89 = .ok (.lrem, 1) := by decide +kernel
theorem dX8_playTurn_90 : decode cX8_playTurn 90 = .ok (.ladd, 1) := by decide +kernel
theorem dX8_playTurn_91 : decode cX8_playTurn 91 = .ok (.invokevirtual 332, 3) := by decide +kernel
theorem dX8_playTurn_94 : decode cX8_playTurn 94 = .ok (.pop, 1) := by decide +kernel
theorem dX8_playTurn_95 : decode cX8_playTurn 95 = .ok (.goto 69, 3) := by decide +kernel
theorem dX8_playTurn_98 : decode cX8_playTurn 98 = .ok (.aload_n 0, 1) := by decide +kernel
theorem dX8_playTurn_99 : decode cX8_playTurn 99 = .ok (.iload_n 3, 1) := by decide +kernel
theorem dX8_playTurn_100 : decode cX8_playTurn 100 = .ok (.lload 4, 2) := by decide +kernel
theorem dX8_playTurn_102 : decode cX8_playTurn 102 = .ok (.lconst 1, 1) := by decide +kernel
theorem dX8_playTurn_103 : decode cX8_playTurn 103 = .ok (.lload 4, 2) := by decide +kernel
theorem dX8_playTurn_105 : decode cX8_playTurn 105 = .ok (.ldc2_w 335, 3) := by decide +kernel
theorem dX8_playTurn_108 : decode cX8_playTurn 108 = .ok (.lrem, 1) := by decide +kernel
theorem dX8_playTurn_109 : decode cX8_playTurn 109 = .ok (.ldc2_w 337, 3) := by decide +kernel
theorem dX8_playTurn_112 : decode cX8_playTurn 112 = .ok (.lmul, 1) := by decide +kernel
theorem dX8_playTurn_113 : decode cX8_playTurn 113 = .ok (.ladd, 1) := by decide +kernel
theorem dX8_playTurn_114 : decode cX8_playTurn 114 = .ok (.invokevirtual 339, 3) := by decide +kernel
theorem dX8_playTurn_117 : decode cX8_playTurn 117 = .ok (.pop, 1) := by decide +kernel
theorem dX8_playTurn_118 : decode cX8_playTurn 118 = .ok (.goto 46, 3) := by decide +kernel
theorem dX8_playTurn_121 : decode cX8_playTurn 121 = .ok (.aload_n 0, 1) := by decide +kernel
theorem dX8_playTurn_122 : decode cX8_playTurn 122 = .ok (.iload_n 3, 1) := by decide +kernel
theorem dX8_playTurn_123 : decode cX8_playTurn 123 = .ok (.lload 4, 2) := by decide +kernel
theorem dX8_playTurn_125 : decode cX8_playTurn 125 = .ok (.ldc2_w 342, 3) := by decide +kernel
theorem dX8_playTurn_128 : decode cX8_playTurn 128 = .ok (.lrem, 1) := by decide +kernel
theorem dX8_playTurn_129 : decode cX8_playTurn 129 = .ok (.l2i, 1) := by decide +kernel
theorem dX8_playTurn_130 : decode cX8_playTurn 130 = .ok (.lload 4, 2) := by decide +kernel
theorem dX8_playTurn_132 : decode cX8_playTurn 132 = .ok (.invokevirtual 344, 3) := by decide +kernel
theorem dX8_playTurn_135 : decode cX8_playTurn 135 = .ok (.pop, 1) := by decide +kernel
theorem dX8_playTurn_136 : decode cX8_playTurn 136 = .ok (.goto 28, 3) := by decide +kernel
theorem dX8_playTurn_139 : decode cX8_playTurn 139 = .ok (.aload_n 0, 1) := by decide +kernel
theorem dX8_playTurn_140 : decode cX8_playTurn 140 = .ok (.lconst 0, 1) := by decide +kernel
theorem dX8_playTurn_141 : decode cX8_playTurn 141 = .ok (.iconst 1, 1) := by decide +kernel
theorem dX8_playTurn_142 : decode cX8_playTurn 142 = .ok (.invokevirtual 348, 3) := by decide +kernel
theorem dX8_playTurn_145 : decode cX8_playTurn 145 = .ok (.ifCond .ne 19, 3) := by decide +kernel
theorem dX8_playTurn_148 : decode cX8_playTurn 148 = .ok (.aload_n 0, 1) := by decide +kernel
theorem dX8_playTurn_149 : decode cX8_playTurn 149 = .ok (.lconst 0, 1) := by decide +kernel
theorem dX8_playTurn_150 : decode cX8_playTurn 150 = .ok (.iconst 0, 1) := by decide +kernel
theorem dX8_playTurn_151 : decode cX8_playTurn 151 = .ok (.invokevirtual 348, 3) := by decide +kernel
theorem dX8_playTurn_154 : decode cX8_playTurn 154 = .ok (.pop, 1) := by decide +kernel
theorem dX8_playTurn_155 : decode cX8_playTurn 155 = .ok (.goto 9, 3) := by decide +kernel
theorem dX8_playTurn_158 : decode cX8_playTurn 158 = .ok (.aload_n 0, 1) := by decide +kernel
theorem dX8_playTurn_159 : decode cX8_playTurn 159 = .ok (.iload_n 3, 1) := by decide +kernel
theorem dX8_playTurn_160 : decode cX8_playTurn 160 = .ok (.invokevirtual 352, 3) := by decide +kernel
theorem dX8_playTurn_163 : decode cX8_playTurn 163 = .ok (.pop, 1) := by decide +kernel
theorem dX8_playTurn_164 : decode cX8_playTurn 164 = .ok (.return_, 1) := by decide +kernel
theorem dX8_soldCount_0 : decode cX8_soldCount 0 = .ok (.iconst 0, 1) := by decide +kernel
theorem dX8_soldCount_1 : decode cX8_soldCount 1 = .ok (.istore_n 1, 1) := by decide +kernel
theorem dX8_soldCount_2 : decode cX8_soldCount 2 = .ok (.iconst 0, 1) := by decide +kernel
theorem dX8_soldCount_3 : decode cX8_soldCount 3 = .ok (.istore_n 2, 1) := by decide +kernel
theorem dX8_soldCount_4 : decode cX8_soldCount 4 = .ok (.iload_n 2, 1) := by decide +kernel
theorem dX8_soldCount_5 : decode cX8_soldCount 5 = .ok (.aload_n 0, 1) := by decide +kernel
theorem dX8_soldCount_6 : decode cX8_soldCount 6 = .ok (.getfield 115, 3) := by decide +kernel
theorem dX8_soldCount_9 : decode cX8_soldCount 9 = .ok (.if_icmp .ge 32, 3) := by decide +kernel
theorem dX8_soldCount_12 : decode cX8_soldCount 12 = .ok (.aload_n 0, 1) := by decide +kernel
theorem dX8_soldCount_13 : decode cX8_soldCount 13 = .ok (.iload_n 2, 1) := by decide +kernel
theorem dX8_soldCount_14 : decode cX8_soldCount 14 = .ok (.invokevirtual 69, 3) := by decide +kernel
theorem dX8_soldCount_17 : decode cX8_soldCount 17 = .ok (.astore_n 3, 1) := by decide +kernel
theorem dX8_soldCount_18 : decode cX8_soldCount 18 = .ok (.aload_n 3, 1) := by decide +kernel
theorem dX8_soldCount_19 : decode cX8_soldCount 19 = .ok (.ifnull 16, 3) := by decide +kernel
theorem dX8_soldCount_22 : decode cX8_soldCount 22 = .ok (.aload_n 3, 1) := by decide +kernel
theorem dX8_soldCount_23 : decode cX8_soldCount 23 = .ok (.getfield 100, 3) := by decide +kernel
theorem dX8_soldCount_26 : decode cX8_soldCount 26 = .ok (.getstatic 104, 3) := by decide +kernel
theorem dX8_soldCount_29 : decode cX8_soldCount 29 = .ok (.if_acmp .ne 6, 3) := by decide +kernel
theorem dX8_soldCount_32 : decode cX8_soldCount 32 = .ok (.iinc 1 1, 3) := by decide +kernel
theorem dX8_soldCount_35 : decode cX8_soldCount 35 = .ok (.iinc 2 1, 3) := by decide +kernel
theorem dX8_soldCount_38 : decode cX8_soldCount 38 = .ok (.goto (-34), 3) := by decide +kernel
theorem dX8_soldCount_41 : decode cX8_soldCount 41 = .ok (.iload_n 1, 1) := by decide +kernel
theorem dX8_soldCount_42 : decode cX8_soldCount 42 = .ok (.ireturn, 1) := by decide +kernel
theorem dX8_isWithin_0 : decode cX8_isWithin 0 = .ok (.lload_n 0, 1) := by decide +kernel
theorem dX8_isWithin_1 : decode cX8_isWithin 1 = .ok (.lload_n 2, 1) := by decide +kernel
theorem dX8_isWithin_2 : decode cX8_isWithin 2 = .ok (.lcmp, 1) := by decide +kernel
theorem dX8_isWithin_3 : decode cX8_isWithin 3 = .ok (.ifCond .lt 14, 3) := by decide +kernel
theorem dX8_isWithin_6 : decode cX8_isWithin 6 = .ok (.lload_n 0, 1) := by decide +kernel
theorem dX8_isWithin_7 : decode cX8_isWithin 7 = .ok (.lload 4, 2) := by decide +kernel
theorem dX8_isWithin_9 : decode cX8_isWithin 9 = .ok (.lcmp, 1) := by decide +kernel
theorem dX8_isWithin_10 : decode cX8_isWithin 10 = .ok (.ifCond .gt 7, 3) := by decide +kernel
theorem dX8_isWithin_13 : decode cX8_isWithin 13 = .ok (.iconst 1, 1) := by decide +kernel
theorem dX8_isWithin_14 : decode cX8_isWithin 14 = .ok (.goto 4, 3) := by decide +kernel
theorem dX8_isWithin_17 : decode cX8_isWithin 17 = .ok (.iconst 0, 1) := by decide +kernel
theorem dX8_isWithin_18 : decode cX8_isWithin 18 = .ok (.ireturn, 1) := by decide +kernel
theorem dX8_shareOf_0 : decode cX8_shareOf 0 = .ok (.lload 4, 2) := by decide +kernel
theorem dX8_shareOf_2 : decode cX8_shareOf 2 = .ok (.lconst 0, 1) := by decide +kernel
theorem dX8_shareOf_3 : decode cX8_shareOf 3 = .ok (.lcmp, 1) := by decide +kernel
theorem dX8_shareOf_4 : decode cX8_shareOf 4 = .ok (.ifCond .gt 7, 3) := by decide +kernel
theorem dX8_shareOf_7 : decode cX8_shareOf 7 = .ok (.lconst 0, 1) := by decide +kernel
theorem dX8_shareOf_8 : decode cX8_shareOf 8 = .ok (.goto 14, 3) := by decide +kernel
theorem dX8_shareOf_11 : decode cX8_shareOf 11 = .ok (.lload_n 0, 1) := by decide +kernel
theorem dX8_shareOf_12 : decode cX8_shareOf 12 = .ok (.lload_n 2, 1) := by decide +kernel
theorem dX8_shareOf_13 : decode cX8_shareOf 13 = .ok (.lmul, 1) := by decide +kernel
theorem dX8_shareOf_14 : decode cX8_shareOf 14 = .ok (.lload 4, 2) := by decide +kernel
theorem dX8_shareOf_16 : decode cX8_shareOf 16 = .ok (.ladd, 1) := by decide +kernel
theorem dX8_shareOf_17 : decode cX8_shareOf 17 = .ok (.lconst 1, 1) := by decide +kernel
theorem dX8_shareOf_18 : decode cX8_shareOf 18 = .ok (.lsub, 1) := by decide +kernel
theorem dX8_shareOf_19 : decode cX8_shareOf 19 = .ok (.lload 4, 2) := by decide +kernel
theorem dX8_shareOf_21 : decode cX8_shareOf 21 = .ok (.ldiv, 1) := by decide +kernel
theorem dX8_shareOf_22 : decode cX8_shareOf 22 = .ok (.lreturn, 1) := by decide +kernel
theorem dX8_lotAt_0 : decode cX8_lotAt 0 = .ok (.iload_n 1, 1) := by decide +kernel
theorem dX8_lotAt_1 : decode cX8_lotAt 1 = .ok (.ifCond .lt 20, 3) := by decide +kernel
theorem dX8_lotAt_4 : decode cX8_lotAt 4 = .ok (.iload_n 1, 1) := by decide +kernel
theorem dX8_lotAt_5 : decode cX8_lotAt 5 = .ok (.aload_n 0, 1) := by decide +kernel
theorem dX8_lotAt_6 : decode cX8_lotAt 6 = .ok (.getfield 115, 3) := by decide +kernel
theorem dX8_lotAt_9 : decode cX8_lotAt 9 = .ok (.if_icmp .ge 12, 3) := by decide +kernel
theorem dX8_lotAt_12 : decode cX8_lotAt 12 = .ok (.iload_n 1, 1) := by decide +kernel
theorem dX8_lotAt_13 : decode cX8_lotAt 13 = .ok (.aload_n 0, 1) := by decide +kernel
theorem dX8_lotAt_14 : decode cX8_lotAt 14 = .ok (.getfield 11, 3) := by decide +kernel
theorem dX8_lotAt_17 : decode cX8_lotAt 17 = .ok (.arraylength, 1) := by decide +kernel
theorem dX8_lotAt_18 : decode cX8_lotAt 18 = .ok (.if_icmp .lt 7, 3) := by decide +kernel
theorem dX8_lotAt_21 : decode cX8_lotAt 21 = .ok (.aconst_null, 1) := by decide +kernel
theorem dX8_lotAt_22 : decode cX8_lotAt 22 = .ok (.goto 9, 3) := by decide +kernel
theorem dX8_lotAt_25 : decode cX8_lotAt 25 = .ok (.aload_n 0, 1) := by decide +kernel
theorem dX8_lotAt_26 : decode cX8_lotAt 26 = .ok (.getfield 11, 3) := by decide +kernel
theorem dX8_lotAt_29 : decode cX8_lotAt 29 = .ok (.iload_n 1, 1) := by decide +kernel
theorem dX8_lotAt_30 : decode cX8_lotAt 30 = .ok (.aaload, 1) := by decide +kernel
theorem dX8_lotAt_31 : decode cX8_lotAt 31 = .ok (.areturn, 1) := by decide +kernel
theorem dX8_buyerAt_0 : decode cX8_buyerAt 0 = .ok (.iload_n 1, 1) := by decide +kernel
theorem dX8_buyerAt_1 : decode cX8_buyerAt 1 = .ok (.ifCond .lt 20, 3) := by decide +kernel
theorem dX8_buyerAt_4 : decode cX8_buyerAt 4 = .ok (.iload_n 1, 1) := by decide +kernel
theorem dX8_buyerAt_5 : decode cX8_buyerAt 5 = .ok (.aload_n 0, 1) := by decide +kernel
theorem dX8_buyerAt_6 : decode cX8_buyerAt 6 = .ok (.getfield 60, 3) := by decide +kernel
theorem dX8_buyerAt_9 : decode cX8_buyerAt 9 = .ok (.if_icmp .ge 12, 3) := by decide +kernel
theorem dX8_buyerAt_12 : decode cX8_buyerAt 12 = .ok (.iload_n 1, 1) := by decide +kernel
theorem dX8_buyerAt_13 : decode cX8_buyerAt 13 = .ok (.aload_n 0, 1) := by decide +kernel
theorem dX8_buyerAt_14 : decode cX8_buyerAt 14 = .ok (.getfield 17, 3) := by decide +kernel
theorem dX8_buyerAt_17 : decode cX8_buyerAt 17 = .ok (.arraylength, 1) := by decide +kernel
theorem dX8_buyerAt_18 : decode cX8_buyerAt 18 = .ok (.if_icmp .lt 7, 3) := by decide +kernel
theorem dX8_buyerAt_21 : decode cX8_buyerAt 21 = .ok (.aconst_null, 1) := by decide +kernel
theorem dX8_buyerAt_22 : decode cX8_buyerAt 22 = .ok (.goto 9, 3) := by decide +kernel
theorem dX8_buyerAt_25 : decode cX8_buyerAt 25 = .ok (.aload_n 0, 1) := by decide +kernel
theorem dX8_buyerAt_26 : decode cX8_buyerAt 26 = .ok (.getfield 17, 3) := by decide +kernel
theorem dX8_buyerAt_29 : decode cX8_buyerAt 29 = .ok (.iload_n 1, 1) := by decide +kernel
theorem dX8_buyerAt_30 : decode cX8_buyerAt 30 = .ok (.aaload, 1) := by decide +kernel
theorem dX8_buyerAt_31 : decode cX8_buyerAt 31 = .ok (.areturn, 1) := by decide +kernel
theorem dX8_bidAt_0 : decode cX8_bidAt 0 = .ok (.iload_n 1, 1) := by decide +kernel
theorem dX8_bidAt_1 : decode cX8_bidAt 1 = .ok (.ifCond .lt 20, 3) := by decide +kernel
theorem dX8_bidAt_4 : decode cX8_bidAt 4 = .ok (.iload_n 1, 1) := by decide +kernel
theorem dX8_bidAt_5 : decode cX8_bidAt 5 = .ok (.aload_n 0, 1) := by decide +kernel
theorem dX8_bidAt_6 : decode cX8_bidAt 6 = .ok (.getfield 249, 3) := by decide +kernel
theorem dX8_bidAt_9 : decode cX8_bidAt 9 = .ok (.if_icmp .ge 12, 3) := by decide +kernel
theorem dX8_bidAt_12 : decode cX8_bidAt 12 = .ok (.iload_n 1, 1) := by decide +kernel
theorem dX8_bidAt_13 : decode cX8_bidAt 13 = .ok (.aload_n 0, 1) := by decide +kernel
theorem dX8_bidAt_14 : decode cX8_bidAt 14 = .ok (.getfield 23, 3) := by decide +kernel
theorem dX8_bidAt_17 : decode cX8_bidAt 17 = .ok (.arraylength, 1) := by decide +kernel
theorem dX8_bidAt_18 : decode cX8_bidAt 18 = .ok (.if_icmp .lt 7, 3) := by decide +kernel
theorem dX8_bidAt_21 : decode cX8_bidAt 21 = .ok (.aconst_null, 1) := by decide +kernel
theorem dX8_bidAt_22 : decode cX8_bidAt 22 = .ok (.goto 9, 3) := by decide +kernel
theorem dX8_bidAt_25 : decode cX8_bidAt 25 = .ok (.aload_n 0, 1) := by decide +kernel
theorem dX8_bidAt_26 : decode cX8_bidAt 26 = .ok (.getfield 23, 3) := by decide +kernel
theorem dX8_bidAt_29 : decode cX8_bidAt 29 = .ok (.iload_n 1, 1) := by decide +kernel
theorem dX8_bidAt_30 : decode cX8_bidAt 30 = .ok (.aaload, 1) := by decide +kernel
theorem dX8_bidAt_31 : decode cX8_bidAt 31 = .ok (.areturn, 1) := by decide +kernel
theorem dX8_addLot_0 : decode cX8_addLot 0 = .ok (.aload_n 0, 1) := by decide +kernel
theorem dX8_addLot_1 : decode cX8_addLot 1 = .ok (.getfield 115, 3) := by decide +kernel
theorem dX8_addLot_4 : decode cX8_addLot 4 = .ok (.istore 6, 2) := by decide +kernel
theorem dX8_addLot_6 : decode cX8_addLot 6 = .ok (.iload 6, 2) := by decide +kernel
theorem dX8_addLot_8 : decode cX8_addLot 8 = .ok (.ifCond .lt 13, 3) := by decide +kernel
theorem dX8_addLot_11 : decode cX8_addLot 11 = .ok (.iload 6, 2) := by decide +kernel
theorem dX8_addLot_13 : decode cX8_addLot 13 = .ok (.aload_n 0, 1) := by decide +kernel
theorem dX8_addLot_14 : decode cX8_addLot 14 = .ok (.getfield 11, 3) := by decide +kernel
theorem dX8_addLot_17 : decode cX8_addLot 17 = .ok (.arraylength, 1) := by decide +kernel
theorem dX8_addLot_18 : decode cX8_addLot 18 = .ok (.if_icmp .lt 5, 3) := by decide +kernel
theorem dX8_addLot_21 : decode cX8_addLot 21 = .ok (.iconst (-1), 1) := by decide +kernel
theorem dX8_addLot_22 : decode cX8_addLot 22 = .ok (.ireturn, 1) := by decide +kernel
theorem dX8_addLot_23 : decode cX8_addLot 23 = .ok (.aload_n 0, 1) := by decide +kernel
theorem dX8_addLot_24 : decode cX8_addLot 24 = .ok (.getfield 11, 3) := by decide +kernel
theorem dX8_addLot_27 : decode cX8_addLot 27 = .ok (.iload 6, 2) := by decide +kernel
theorem dX8_addLot_29 : decode cX8_addLot 29 = .ok (.new 9, 3) := by decide +kernel
theorem dX8_addLot_32 : decode cX8_addLot 32 = .ok (.dup, 1) := by decide +kernel
theorem dX8_addLot_33 : decode cX8_addLot 33 = .ok (.iload 6, 2) := by decide +kernel
theorem dX8_addLot_35 : decode cX8_addLot 35 = .ok (.iload_n 1, 1) := by decide +kernel
theorem dX8_addLot_36 : decode cX8_addLot 36 = .ok (.lload_n 2, 1) := by decide +kernel
theorem dX8_addLot_37 : decode cX8_addLot 37 = .ok (.lload 4, 2) := by decide +kernel
theorem dX8_addLot_39 : decode cX8_addLot 39 = .ok (.invokespecial 356, 3) := by decide +kernel
theorem dX8_addLot_42 : decode cX8_addLot 42 = .ok (.aastore, 1) := by decide +kernel
theorem dX8_addLot_43 : decode cX8_addLot 43 = .ok (.aload_n 0, 1) := by decide +kernel
theorem dX8_addLot_44 : decode cX8_addLot 44 = .ok (.iload 6, 2) := by decide +kernel
theorem dX8_addLot_46 : decode cX8_addLot 46 = .ok (.iconst 1, 1) := by decide +kernel
theorem dX8_addLot_47 : decode cX8_addLot 47 = .ok (.iadd, 1) := by decide +kernel
theorem dX8_addLot_48 : decode cX8_addLot 48 = .ok (.putfield 115, 3) := by decide +kernel
theorem dX8_addLot_51 : decode cX8_addLot 51 = .ok (.iload 6, 2) := by decide +kernel
theorem dX8_addLot_53 : decode cX8_addLot 53 = .ok (.ireturn, 1) := by decide +kernel
theorem dX8_freeOf_0 : decode cX8_freeOf 0 = .ok (.aload_n 1, 1) := by decide +kernel
theorem dX8_freeOf_1 : decode cX8_freeOf 1 = .ok (.getfield 93, 3) := by decide +kernel
theorem dX8_freeOf_4 : decode cX8_freeOf 4 = .ok (.lstore_n 2, 1) := by decide +kernel
theorem dX8_freeOf_5 : decode cX8_freeOf 5 = .ok (.iconst 0, 1) := by decide +kernel
theorem dX8_freeOf_6 : decode cX8_freeOf 6 = .ok (.istore 4, 2) := by decide +kernel
theorem dX8_freeOf_8 : decode cX8_freeOf 8 = .ok (.iload 4, 2) := by decide +kernel
theorem dX8_freeOf_10 : decode cX8_freeOf 10 = .ok (.aload_n 0, 1) := by decide +kernel
theorem dX8_freeOf_11 : decode cX8_freeOf 11 = .ok (.getfield 115, 3) := by decide +kernel
theorem dX8_freeOf_14 : decode cX8_freeOf 14 = .ok (.if_icmp .ge 50, 3) := by decide +kernel
theorem dX8_freeOf_17 : decode cX8_freeOf 17 = .ok (.aload_n 0, 1) := by decide +kernel
theorem dX8_freeOf_18 : decode cX8_freeOf 18 = .ok (.iload 4, 2) := by decide +kernel
theorem dX8_freeOf_20 : decode cX8_freeOf 20 = .ok (.invokevirtual 69, 3) := by decide +kernel
theorem dX8_freeOf_23 : decode cX8_freeOf 23 = .ok (.astore 5, 2) := by decide +kernel
theorem dX8_freeOf_25 : decode cX8_freeOf 25 = .ok (.aload 5, 2) := by decide +kernel
theorem dX8_freeOf_27 : decode cX8_freeOf 27 = .ok (.ifnull 31, 3) := by decide +kernel
theorem dX8_freeOf_30 : decode cX8_freeOf 30 = .ok (.aload 5, 2) := by decide +kernel
theorem dX8_freeOf_32 : decode cX8_freeOf 32 = .ok (.invokevirtual 73, 3) := by decide +kernel
theorem dX8_freeOf_35 : decode cX8_freeOf 35 = .ok (.ifCond .eq 23, 3) := by decide +kernel
theorem dX8_freeOf_38 : decode cX8_freeOf 38 = .ok (.aload 5, 2) := by decide +kernel
theorem dX8_freeOf_40 : decode cX8_freeOf 40 = .ok (.getfield 77, 3) := by decide +kernel
theorem dX8_freeOf_43 : decode cX8_freeOf 43 = .ok (.aload_n 1, 1) := by decide +kernel
theorem dX8_freeOf_44 : decode cX8_freeOf 44 = .ok (.getfield 359, 3) := by decide +kernel
theorem dX8_freeOf_47 : decode cX8_freeOf 47 = .ok (.if_icmp .ne 11, 3) := by decide +kernel
theorem dX8_freeOf_50 : decode cX8_freeOf 50 = .ok (.lload_n 2, 1) := by decide +kernel
theorem dX8_freeOf_51 : decode cX8_freeOf 51 = .ok (.aload 5, 2) := by decide +kernel
theorem dX8_freeOf_53 : decode cX8_freeOf 53 = .ok (.getfield 82, 3) := by decide +kernel
theorem dX8_freeOf_56 : decode cX8_freeOf 56 = .ok (.lsub, 1) := by decide +kernel
theorem dX8_freeOf_57 : decode cX8_freeOf 57 = .ok (.lstore_n 2, 1) := by decide +kernel
theorem dX8_freeOf_58 : decode cX8_freeOf 58 = .ok (.iinc 4 1, 3) := by decide +kernel
theorem dX8_freeOf_61 : decode cX8_freeOf 61 = .ok (.goto (-53), 3) := by decide +kernel
theorem dX8_freeOf_64 : decode cX8_freeOf 64 = .ok (.lload_n 2, 1) := by decide +kernel
theorem dX8_freeOf_65 : decode cX8_freeOf 65 = .ok (.lreturn, 1) := by decide +kernel
theorem dX8_lotsAhead_0 : decode cX8_lotsAhead 0 = .ok (.iconst 0, 1) := by decide +kernel
theorem dX8_lotsAhead_1 : decode cX8_lotsAhead 1 = .ok (.istore_n 2, 1) := by decide +kernel
theorem dX8_lotsAhead_2 : decode cX8_lotsAhead 2 = .ok (.iconst 0, 1) := by decide +kernel
theorem dX8_lotsAhead_3 : decode cX8_lotsAhead 3 = .ok (.istore_n 3, 1) := by decide +kernel
theorem dX8_lotsAhead_4 : decode cX8_lotsAhead 4 = .ok (.iload_n 3, 1) := by decide +kernel
theorem dX8_lotsAhead_5 : decode cX8_lotsAhead 5 = .ok (.aload_n 0, 1) := by decide +kernel
theorem dX8_lotsAhead_6 : decode cX8_lotsAhead 6 = .ok (.getfield 115, 3) := by decide +kernel
theorem dX8_lotsAhead_9 : decode cX8_lotsAhead 9 = .ok (.if_icmp .ge 45, 3) := by decide +kernel
theorem dX8_lotsAhead_12 : decode cX8_lotsAhead 12 = .ok (.aload_n 0, 1) := by decide +kernel
theorem dX8_lotsAhead_13 : decode cX8_lotsAhead 13 = .ok (.iload_n 3, 1) := by decide +kernel
theorem dX8_lotsAhead_14 : decode cX8_lotsAhead 14 = .ok (.invokevirtual 69, 3) := by decide +kernel
theorem dX8_lotsAhead_17 : decode cX8_lotsAhead 17 = .ok (.astore 4, 2) := by decide +kernel
theorem dX8_lotsAhead_19 : decode cX8_lotsAhead 19 = .ok (.aload 4, 2) := by decide +kernel
theorem dX8_lotsAhead_21 : decode cX8_lotsAhead 21 = .ok (.ifnull 27, 3) := by decide +kernel
theorem dX8_lotsAhead_24 : decode cX8_lotsAhead 24 = .ok (.aload 4, 2) := by decide +kernel
theorem dX8_lotsAhead_26 : decode cX8_lotsAhead 26 = .ok (.aload_n 1, 1) := by decide +kernel
theorem dX8_lotsAhead_27 : decode cX8_lotsAhead 27 = .ok (.getfield 141, 3) := by decide +kernel
theorem dX8_lotsAhead_30 : decode cX8_lotsAhead 30 = .ok (.invokevirtual 118, 3) := by decide +kernel
theorem dX8_lotsAhead_33 : decode cX8_lotsAhead 33 = .ok (.ifCond .eq 15, 3) := by decide +kernel
theorem dX8_lotsAhead_36 : decode cX8_lotsAhead 36 = .ok (.aload 4, 2) := by decide +kernel
theorem dX8_lotsAhead_38 : decode cX8_lotsAhead 38 = .ok (.aload_n 1, 1) := by decide +kernel
theorem dX8_lotsAhead_39 : decode cX8_lotsAhead 39 = .ok (.invokevirtual 362, 3) := by decide +kernel
theorem dX8_lotsAhead_42 : decode cX8_lotsAhead 42 = .ok (.ifCond .eq 6, 3) := by decide +kernel
theorem dX8_lotsAhead_45 : decode cX8_lotsAhead 45 = .ok (.iinc 2 1, 3) := by decide +kernel
theorem dX8_lotsAhead_48 : decode cX8_lotsAhead 48 = .ok (.iinc 3 1, 3) := by decide +kernel
theorem dX8_lotsAhead_51 : decode cX8_lotsAhead 51 = .ok (.goto (-47), 3) := by decide +kernel
theorem dX8_lotsAhead_54 : decode cX8_lotsAhead 54 = .ok (.iload_n 2, 1) := by decide +kernel
theorem dX8_lotsAhead_55 : decode cX8_lotsAhead 55 = .ok (.ireturn, 1) := by decide +kernel
theorem dX8_runClock_0 : decode cX8_runClock 0 = .ok (.aload_n 0, 1) := by decide +kernel
theorem dX8_runClock_1 : decode cX8_runClock 1 = .ok (.getfield 30, 3) := by decide +kernel
theorem dX8_runClock_4 : decode cX8_runClock 4 = .ok (.getfield 164, 3) := by decide +kernel
theorem dX8_runClock_7 : decode cX8_runClock 7 = .ok (.astore_n 3, 1) := by decide +kernel
theorem dX8_runClock_8 : decode cX8_runClock 8 = .ok (.aload_n 3, 1) := by decide +kernel
theorem dX8_runClock_9 : decode cX8_runClock 9 = .ok (.ifnonnull 5, 3) := by decide +kernel
theorem dX8_runClock_12 : decode cX8_runClock 12 = .ok (.iconst (-1), 1) := by decide +kernel
theorem dX8_runClock_13 : decode cX8_runClock 13 = .ok (.ireturn, 1) := by decide +kernel
theorem dX8_runClock_14 : decode cX8_runClock 14 = .ok (.aload_n 0, 1) := by decide +kernel
theorem dX8_runClock_15 : decode cX8_runClock 15 = .ok (.getfield 30, 3) := by decide +kernel
theorem dX8_runClock_18 : decode cX8_runClock 18 = .ok (.getfield 188, 3) := by decide +kernel
theorem dX8_runClock_21 : decode cX8_runClock 21 = .ok (.ifCond .eq 5, 3) := by decide +kernel
theorem dX8_runClock_24 : decode cX8_runClock 24 = .ok (.iconst 0, 1) := by decide +kernel
theorem dX8_runClock_25 : decode cX8_runClock 25 = .ok (.ireturn, 1) := by decide +kernel
theorem dX8_runClock_26 : decode cX8_runClock 26 = .ok (.aload_n 0, 1) := by decide +kernel
theorem dX8_runClock_27 : decode cX8_runClock 27 = .ok (.getfield 30, 3) := by decide +kernel
theorem dX8_runClock_30 : decode cX8_runClock 30 = .ok (.lload_n 1, 1) := by decide +kernel
theorem dX8_runClock_31 : decode cX8_runClock 31 = .ok (.invokevirtual 366, 3) := by decide +kernel
theorem dX8_runClock_34 : decode cX8_runClock 34 = .ok (.aload_n 0, 1) := by decide +kernel
theorem dX8_runClock_35 : decode cX8_runClock 35 = .ok (.invokevirtual 369, 3) := by decide +kernel
theorem dX8_runClock_38 : decode cX8_runClock 38 = .ok (.aload_n 0, 1) := by decide +kernel
theorem dX8_runClock_39 : decode cX8_runClock 39 = .ok (.invokevirtual 372, 3) := by decide +kernel
theorem dX8_runClock_42 : decode cX8_runClock 42 = .ok (.astore 4, 2) := by decide +kernel
theorem dX8_runClock_44 : decode cX8_runClock 44 = .ok (.aload 4, 2) := by decide +kernel
theorem dX8_runClock_46 : decode cX8_runClock 46 = .ok (.ifnull 12, 3) := by decide +kernel
theorem dX8_runClock_49 : decode cX8_runClock 49 = .ok (.aload_n 0, 1) := by decide +kernel
theorem dX8_runClock_50 : decode cX8_runClock 50 = .ok (.aload_n 3, 1) := by decide +kernel
theorem dX8_runClock_51 : decode cX8_runClock 51 = .ok (.aload 4, 2) := by decide +kernel
theorem dX8_runClock_53 : decode cX8_runClock 53 = .ok (.invokevirtual 376, 3) := by decide +kernel
theorem dX8_runClock_56 : decode cX8_runClock 56 = .ok (.iconst 1, 1) := by decide +kernel
theorem dX8_runClock_57 : decode cX8_runClock 57 = .ok (.ireturn, 1) := by decide +kernel
theorem dX8_runClock_58 : decode cX8_runClock 58 = .ok (.aload_n 0, 1) := by decide +kernel
theorem dX8_runClock_59 : decode cX8_runClock 59 = .ok (.getfield 30, 3) := by decide +kernel
theorem dX8_runClock_62 : decode cX8_runClock 62 = .ok (.getfield 218, 3) := by decide +kernel
theorem dX8_runClock_65 : decode cX8_runClock 65 = .ok (.aload_n 0, 1) := by decide +kernel
theorem dX8_runClock_66 : decode cX8_runClock 66 = .ok (.getfield 30, 3) := by decide +kernel
theorem dX8_runClock_69 : decode cX8_runClock 69 = .ok (.getfield 198, 3) := by decide +kernel
theorem dX8_runClock_72 : decode cX8_runClock 72 = .ok (.lcmp, 1) := by decide +kernel
theorem dX8_runClock_73 : decode cX8_runClock 73 = .ok (.ifCond .ge 5, 3) := by decide +kernel
theorem dX8_runClock_76 : decode cX8_runClock 76 = .ok (.iconst 0, 1) := by decide +kernel
theorem dX8_runClock_77 : decode cX8_runClock 77 = .ok (.ireturn, 1) := by decide +kernel
theorem dX8_runClock_78 : decode cX8_runClock 78 = .ok (.aload_n 3, 1) := by decide +kernel
theorem dX8_runClock_79 : decode cX8_runClock 79 = .ok (.getstatic 147, 3) := by decide +kernel
theorem dX8_runClock_82 : decode cX8_runClock 82 = .ok (.putfield 100, 3) := by decide +kernel
theorem dX8_runClock_85 : decode cX8_runClock 85 = .ok (.aload_n 0, 1) := by decide +kernel
theorem dX8_runClock_86 : decode cX8_runClock 86 = .ok (.invokevirtual 380, 3) := by decide +kernel
theorem dX8_runClock_89 : decode cX8_runClock 89 = .ok (.aload_n 0, 1) := by decide +kernel
theorem dX8_runClock_90 : decode cX8_runClock 90 = .ok (.getfield 37, 3) := by decide +kernel
theorem dX8_runClock_93 : decode cX8_runClock 93 = .ok (.iconst 2, 1) := by decide +kernel
theorem dX8_runClock_94 : decode cX8_runClock 94 = .ok (.aload_n 3, 1) := by decide +kernel
theorem dX8_runClock_95 : decode cX8_runClock 95 = .ok (.getfield 383, 3) := by decide +kernel
theorem dX8_runClock_98 : decode cX8_runClock 98 = .ok (.iconst (-1), 1) := by decide +kernel
theorem dX8_runClock_99 : decode cX8_runClock 99 = .ok (.lconst 0, 1) := by decide +kernel
theorem dX8_runClock_100 : decode cX8_runClock 100 = .ok (.invokevirtual 137, 3) := by decide +kernel
theorem dX8_runClock_103 : decode cX8_runClock 103 = .ok (.iconst 2, 1) := by decide +kernel
theorem dX8_runClock_104 : decode cX8_runClock 104 = .ok (.ireturn, 1) := by decide +kernel
theorem dX8_dropPressesThatCannotPay_0 : decode cX8_dropPressesThatCannotPay 0 = .ok (.iconst 0, 1) := by decide +kernel
theorem dX8_dropPressesThatCannotPay_1 : decode cX8_dropPressesThatCannotPay 1 = .ok (.istore_n 1, 1) := by decide +kernel
theorem dX8_dropPressesThatCannotPay_2 : decode cX8_dropPressesThatCannotPay 2 = .ok (.iload_n 1, 1) := by decide +kernel
theorem dX8_dropPressesThatCannotPay_3 : decode cX8_dropPressesThatCannotPay 3 = .ok (.aload_n 0, 1) := by decide +kernel
theorem dX8_dropPressesThatCannotPay_4 : decode cX8_dropPressesThatCannotPay 4 = .ok (.getfield 60, 3) := by decide +kernel
theorem dX8_dropPressesThatCannotPay_7 : decode cX8_dropPressesThatCannotPay 7 = .ok (.if_icmp .ge 57, 3) := by decide +kernel
theorem dX8_dropPressesThatCannotPay_10 : decode cX8_dropPressesThatCannotPay 10 = .ok (.aload_n 0, 1) := by decide +kernel
theorem dX8_dropPressesThatCannotPay_11 : decode cX8_dropPressesThatCannotPay 11 = .ok (.iload_n 1, 1) := by decide +kernel
theorem dX8_dropPressesThatCannotPay_12 : decode cX8_dropPressesThatCannotPay 12 = .ok (.invokevirtual 89, 3) := by decide +kernel
theorem dX8_dropPressesThatCannotPay_15 : decode cX8_dropPressesThatCannotPay 15 = .ok (.astore_n 2, 1) := by decide +kernel
theorem dX8_dropPressesThatCannotPay_16 : decode cX8_dropPressesThatCannotPay 16 = .ok (.aload_n 2, 1) := by decide +kernel
theorem dX8_dropPressesThatCannotPay_17 : decode cX8_dropPressesThatCannotPay 17 = .ok (.ifnull 41, 3) := by decide +kernel
theorem dX8_dropPressesThatCannotPay_20 : decode cX8_dropPressesThatCannotPay 20 = .ok (.aload_n 2, 1) := by decide +kernel
theorem dX8_dropPressesThatCannotPay_21 : decode cX8_dropPressesThatCannotPay 21 = .ok (.aload_n 0, 1) := by decide +kernel
theorem dX8_dropPressesThatCannotPay_22 : decode cX8_dropPressesThatCannotPay 22 = .ok (.getfield 30, 3) := by decide +kernel
theorem dX8_dropPressesThatCannotPay_25 : decode cX8_dropPressesThatCannotPay 25 = .ok (.getfield 218, 3) := by decide +kernel
theorem dX8_dropPressesThatCannotPay_28 : decode cX8_dropPressesThatCannotPay 28 = .ok (.invokevirtual 201, 3) := by decide +kernel
theorem dX8_dropPressesThatCannotPay_31 : decode cX8_dropPressesThatCannotPay 31 = .ok (.ifCond .eq 27, 3) := by decide +kernel
theorem dX8_dropPressesThatCannotPay_34 : decode cX8_dropPressesThatCannotPay 34 = .ok (.aload_n 0, 1) := by decide +kernel
theorem dX8_dropPressesThatCannotPay_35 : decode cX8_dropPressesThatCannotPay 35 = .ok (.getfield 30, 3) := by decide +kernel
theorem dX8_dropPressesThatCannotPay_38 : decode cX8_dropPressesThatCannotPay 38 = .ok (.aload_n 2, 1) := by decide +kernel
theorem dX8_dropPressesThatCannotPay_39 : decode cX8_dropPressesThatCannotPay 39 = .ok (.getfield 205, 3) := by decide +kernel
theorem dX8_dropPressesThatCannotPay_42 : decode cX8_dropPressesThatCannotPay 42 = .ok (.invokevirtual 228, 3) := by decide +kernel
theorem dX8_dropPressesThatCannotPay_45 : decode cX8_dropPressesThatCannotPay 45 = .ok (.aload_n 0, 1) := by decide +kernel
theorem dX8_dropPressesThatCannotPay_46 : decode cX8_dropPressesThatCannotPay 46 = .ok (.aload_n 2, 1) := by decide +kernel
theorem dX8_dropPressesThatCannotPay_47 : decode cX8_dropPressesThatCannotPay 47 = .ok (.invokevirtual 96, 3) := by decide +kernel
theorem dX8_dropPressesThatCannotPay_50 : decode cX8_dropPressesThatCannotPay 50 = .ok (.lcmp, 1) := by decide +kernel
theorem dX8_dropPressesThatCannotPay_51 : decode cX8_dropPressesThatCannotPay 51 = .ok (.ifCond .le 7, 3) := by decide +kernel
theorem dX8_dropPressesThatCannotPay_54 : decode cX8_dropPressesThatCannotPay 54 = .ok (.aload_n 2, 1) := by decide +kernel
theorem dX8_dropPressesThatCannotPay_55 : decode cX8_dropPressesThatCannotPay 55 = .ok (.invokevirtual 384, 3) := by decide +kernel
theorem dX8_dropPressesThatCannotPay_58 : decode cX8_dropPressesThatCannotPay 58 = .ok (.iinc 1 1, 3) := by decide +kernel
theorem dX8_dropPressesThatCannotPay_61 : decode cX8_dropPressesThatCannotPay 61 = .ok (.goto (-59), 3) := by decide +kernel
theorem dX8_dropPressesThatCannotPay_64 : decode cX8_dropPressesThatCannotPay 64 = .ok (.return_, 1) := by decide +kernel
theorem dX8_firstDuePress_0 : decode cX8_firstDuePress 0 = .ok (.aconst_null, 1) := by decide +kernel
theorem dX8_firstDuePress_1 : decode cX8_firstDuePress 1 = .ok (.astore_n 1, 1) := by decide +kernel
theorem dX8_firstDuePress_2 : decode cX8_firstDuePress 2 = .ok (.iconst 0, 1) := by decide +kernel
theorem dX8_firstDuePress_3 : decode cX8_firstDuePress 3 = .ok (.istore_n 2, 1) := by decide +kernel
theorem dX8_firstDuePress_4 : decode cX8_firstDuePress 4 = .ok (.iload_n 2, 1) := by decide +kernel
theorem dX8_firstDuePress_5 : decode cX8_firstDuePress 5 = .ok (.aload_n 0, 1) := by decide +kernel
theorem dX8_firstDuePress_6 : decode cX8_firstDuePress 6 = .ok (.getfield 60, 3) := by decide +kernel
theorem dX8_firstDuePress_9 : decode cX8_firstDuePress 9 = .ok (.if_icmp .ge 51, 3) := by decide +kernel
theorem dX8_firstDuePress_12 : decode cX8_firstDuePress 12 = .ok (.aload_n 0, 1) := by decide +kernel
theorem dX8_firstDuePress_13 : decode cX8_firstDuePress 13 = .ok (.iload_n 2, 1) := by decide +kernel
theorem dX8_firstDuePress_14 : decode cX8_firstDuePress 14 = .ok (.invokevirtual 89, 3) := by decide +kernel
theorem dX8_firstDuePress_17 : decode cX8_firstDuePress 17 = .ok (.astore_n 3, 1) := by decide +kernel
theorem dX8_firstDuePress_18 : decode cX8_firstDuePress 18 = .ok (.aload_n 3, 1) := by decide +kernel
theorem dX8_firstDuePress_19 : decode cX8_firstDuePress 19 = .ok (.ifnull 35, 3) := by decide +kernel
theorem dX8_firstDuePress_22 : decode cX8_firstDuePress 22 = .ok (.aload_n 3, 1) := by decide +kernel
theorem dX8_firstDuePress_23 : decode cX8_firstDuePress 23 = .ok (.aload_n 0, 1) := by decide +kernel
theorem dX8_firstDuePress_24 : decode cX8_firstDuePress 24 = .ok (.getfield 30, 3) := by decide +kernel
theorem dX8_firstDuePress_27 : decode cX8_firstDuePress 27 = .ok (.getfield 218, 3) := by decide +kernel
theorem dX8_firstDuePress_30 : decode cX8_firstDuePress 30 = .ok (.invokevirtual 201, 3) := by decide +kernel
theorem dX8_firstDuePress_33 : decode cX8_firstDuePress 33 = .ok (.ifCond .eq 21, 3) := by decide +kernel
theorem dX8_firstDuePress_36 : decode cX8_firstDuePress 36 = .ok (.aload_n 1, 1) := by decide +kernel
theorem dX8_firstDuePress_37 : decode cX8_firstDuePress 37 = .ok (.ifnull 15, 3) := by decide +kernel
theorem dX8_firstDuePress_40 : decode cX8_firstDuePress 40 = .ok (.aload_n 3, 1) := by decide +kernel
theorem dX8_firstDuePress_41 : decode cX8_firstDuePress 41 = .ok (.getfield 205, 3) := by decide +kernel
theorem dX8_firstDuePress_44 : decode cX8_firstDuePress 44 = .ok (.aload_n 1, 1) := by decide +kernel
theorem dX8_firstDuePress_45 : decode cX8_firstDuePress 45 = .ok (.getfield 205, 3) := by decide +kernel
theorem dX8_firstDuePress_48 : decode cX8_firstDuePress 48 = .ok (.lcmp, 1) := by decide +kernel
theorem dX8_firstDuePress_49 : decode cX8_firstDuePress 49 = .ok (.ifCond .ge 5, 3) := by decide +kernel
theorem dX8_firstDuePress_52 : decode cX8_firstDuePress 52 = .ok (.aload_n 3, 1) := by decide +kernel
theorem dX8_firstDuePress_53 : decode cX8_firstDuePress 53 = .ok (.astore_n 1, 1) := by decide +kernel
theorem dX8_firstDuePress_54 : decode cX8_firstDuePress 54 = .ok (.iinc 2 1, 3) := by decide +kernel
theorem dX8_firstDuePress_57 : decode cX8_firstDuePress 57 = .ok (.goto (-53), 3) := by decide +kernel
theorem dX8_firstDuePress_60 : decode cX8_firstDuePress 60 = .ok (.aload_n 1, 1) := by decide +kernel
theorem dX8_firstDuePress_61 : decode cX8_firstDuePress 61 = .ok (.areturn, 1) := by decide +kernel
theorem dX8_sellByClock_0 : decode cX8_sellByClock 0 = .ok (.aload_n 1, 1) := by decide +kernel
theorem dX8_sellByClock_1 : decode cX8_sellByClock 1 = .ok (.aload_n 0, 1) := by decide +kernel
theorem dX8_sellByClock_2 : decode cX8_sellByClock 2 = .ok (.aload_n 2, 1) := by decide +kernel
theorem dX8_sellByClock_3 : decode cX8_sellByClock 3 = .ok (.invokevirtual 387, 3) := by decide +kernel
theorem dX8_sellByClock_6 : decode cX8_sellByClock 6 = .ok (.putfield 391, 3) := by decide +kernel
theorem dX8_sellByClock_9 : decode cX8_sellByClock 9 = .ok (.aload_n 1, 1) := by decide +kernel
theorem dX8_sellByClock_10 : decode cX8_sellByClock 10 = .ok (.iconst 1, 1) := by decide +kernel
theorem dX8_sellByClock_11 : decode cX8_sellByClock 11 = .ok (.putfield 126, 3) := by decide +kernel
theorem dX8_sellByClock_14 : decode cX8_sellByClock 14 = .ok (.aload_n 1, 1) := by decide +kernel
theorem dX8_sellByClock_15 : decode cX8_sellByClock 15 = .ok (.aload_n 2, 1) := by decide +kernel
theorem dX8_sellByClock_16 : decode cX8_sellByClock 16 = .ok (.getfield 359, 3) := by decide +kernel
theorem dX8_sellByClock_19 : decode cX8_sellByClock 19 = .ok (.aload_n 0, 1) := by decide +kernel
theorem dX8_sellByClock_20 : decode cX8_sellByClock 20 = .ok (.getfield 30, 3) := by decide +kernel
theorem dX8_sellByClock_23 : decode cX8_sellByClock 23 = .ok (.aload_n 2, 1) := by decide +kernel
theorem dX8_sellByClock_24 : decode cX8_sellByClock 24 = .ok (.getfield 205, 3) := by decide +kernel
theorem dX8_sellByClock_27 : decode cX8_sellByClock 27 = .ok (.invokevirtual 228, 3) := by decide +kernel
theorem dX8_sellByClock_30 : decode cX8_sellByClock 30 = .ok (.invokevirtual 394, 3) := by decide +kernel
theorem dX8_sellByClock_33 : decode cX8_sellByClock 33 = .ok (.aload_n 0, 1) := by decide +kernel
theorem dX8_sellByClock_34 : decode cX8_sellByClock 34 = .ok (.invokevirtual 380, 3) := by decide +kernel
theorem dX8_sellByClock_37 : decode cX8_sellByClock 37 = .ok (.aload_n 0, 1) := by decide +kernel
theorem dX8_sellByClock_38 : decode cX8_sellByClock 38 = .ok (.getfield 37, 3) := by decide +kernel
theorem dX8_sellByClock_41 : decode cX8_sellByClock 41 = .ok (.iconst 1, 1) := by decide +kernel
theorem dX8_sellByClock_42 : decode cX8_sellByClock 42 = .ok (.aload_n 1, 1) := by decide +kernel
theorem dX8_sellByClock_43 : decode cX8_sellByClock 43 = .ok (.getfield 383, 3) := by decide +kernel
theorem dX8_sellByClock_46 : decode cX8_sellByClock 46 = .ok (.aload_n 1, 1) := by decide +kernel
theorem dX8_sellByClock_47 : decode cX8_sellByClock 47 = .ok (.getfield 77, 3) := by decide +kernel
theorem dX8_sellByClock_50 : decode cX8_sellByClock 50 = .ok (.aload_n 1, 1) := by decide +kernel
theorem dX8_sellByClock_51 : decode cX8_sellByClock 51 = .ok (.getfield 82, 3) := by decide +kernel
theorem dX8_sellByClock_54 : decode cX8_sellByClock 54 = .ok (.invokevirtual 137, 3) := by decide +kernel
theorem dX8_sellByClock_57 : decode cX8_sellByClock 57 = .ok (.return_, 1) := by decide +kernel
theorem dX8_pressesTiedWith_0 : decode cX8_pressesTiedWith 0 = .ok (.iconst 0, 1) := by decide +kernel
theorem dX8_pressesTiedWith_1 : decode cX8_pressesTiedWith 1 = .ok (.istore_n 2, 1) := by decide +kernel
theorem dX8_pressesTiedWith_2 : decode cX8_pressesTiedWith 2 = .ok (.iconst 0, 1) := by decide +kernel
theorem dX8_pressesTiedWith_3 : decode cX8_pressesTiedWith 3 = .ok (.istore_n 3, 1) := by decide +kernel
theorem dX8_pressesTiedWith_4 : decode cX8_pressesTiedWith 4 = .ok (.iload_n 3, 1) := by decide +kernel
theorem dX8_pressesTiedWith_5 : decode cX8_pressesTiedWith 5 = .ok (.aload_n 0, 1) := by decide +kernel
theorem dX8_pressesTiedWith_6 : decode cX8_pressesTiedWith 6 = .ok (.getfield 60, 3) := by decide +kernel
theorem dX8_pressesTiedWith_9 : decode cX8_pressesTiedWith 9 = .ok (.if_icmp .ge 48, 3) := by decide +kernel
theorem dX8_pressesTiedWith_12 : decode cX8_pressesTiedWith 12 = .ok (.aload_n 0, 1) := by decide +kernel
theorem dX8_pressesTiedWith_13 : decode cX8_pressesTiedWith 13 = .ok (.iload_n 3, 1) := by decide +kernel
theorem dX8_pressesTiedWith_14 : decode cX8_pressesTiedWith 14 = .ok (.invokevirtual 89, 3) := by decide +kernel
theorem dX8_pressesTiedWith_17 : decode cX8_pressesTiedWith 17 = .ok (.astore 4, 2) := by decide +kernel
theorem dX8_pressesTiedWith_19 : decode cX8_pressesTiedWith 19 = .ok (.aload 4, 2) := by decide +kernel
theorem dX8_pressesTiedWith_21 : decode cX8_pressesTiedWith 21 = .ok (.ifnull 30, 3) := by decide +kernel
theorem dX8_pressesTiedWith_24 : decode cX8_pressesTiedWith 24 = .ok (.iload_n 3, 1) := by decide +kernel
theorem dX8_pressesTiedWith_25 : decode cX8_pressesTiedWith 25 = .ok (.aload_n 1, 1) := by decide +kernel
theorem dX8_pressesTiedWith_26 : decode cX8_pressesTiedWith 26 = .ok (.getfield 359, 3) := by decide +kernel
theorem dX8_pressesTiedWith_29 : decode cX8_pressesTiedWith 29 = .ok (.if_icmp .eq 22, 3) := by decide +kernel
theorem dX8_pressesTiedWith_32 : decode cX8_pressesTiedWith 32 = .ok (.aload 4, 2) := by decide +kernel
theorem dX8_pressesTiedWith_34 : decode cX8_pressesTiedWith 34 = .ok (.getfield 205, 3) := by decide +kernel
theorem dX8_pressesTiedWith_37 : decode cX8_pressesTiedWith 37 = .ok (.aload_n 1, 1) := by decide +kernel
theorem dX8_pressesTiedWith_38 : decode cX8_pressesTiedWith 38 = .ok (.getfield 205, 3) := by decide +kernel
theorem dX8_pressesTiedWith_41 : decode cX8_pressesTiedWith 41 = .ok (.lcmp, 1) := by decide +kernel
theorem dX8_pressesTiedWith_42 : decode cX8_pressesTiedWith 42 = .ok (.ifCond .ne 9, 3) := by decide +kernel
theorem dX8_pressesTiedWith_45 : decode cX8_pressesTiedWith 45 = .ok (.iload_n 2, 1) := by decide +kernel
theorem dX8_pressesTiedWith_46 : decode cX8_pressesTiedWith 46 = .ok (.iconst 1, 1) := by decide +kernel
theorem dX8_pressesTiedWith_47 : decode cX8_pressesTiedWith 47 = .ok (.iload_n 3, 1) := by decide +kernel
theorem dX8_pressesTiedWith_48 : decode cX8_pressesTiedWith 48 = .ok (.ishl, 1) := by decide +kernel
theorem dX8_pressesTiedWith_49 : decode cX8_pressesTiedWith 49 = .ok (.ior, 1) := by decide +kernel
theorem dX8_pressesTiedWith_50 : decode cX8_pressesTiedWith 50 = .ok (.istore_n 2, 1) := by decide +kernel
theorem dX8_pressesTiedWith_51 : decode cX8_pressesTiedWith 51 = .ok (.iinc 3 1, 3) := by decide +kernel
theorem dX8_pressesTiedWith_54 : decode cX8_pressesTiedWith 54 = .ok (.goto (-50), 3) := by decide +kernel
theorem dX8_pressesTiedWith_57 : decode cX8_pressesTiedWith 57 = .ok (.iload_n 2, 1) := by decide +kernel
theorem dX8_pressesTiedWith_58 : decode cX8_pressesTiedWith 58 = .ok (.ireturn, 1) := by decide +kernel
theorem dX8_stopClock_0 : decode cX8_stopClock 0 = .ok (.aload_n 0, 1) := by decide +kernel
theorem dX8_stopClock_1 : decode cX8_stopClock 1 = .ok (.getfield 30, 3) := by decide +kernel
theorem dX8_stopClock_4 : decode cX8_stopClock 4 = .ok (.aconst_null, 1) := by decide +kernel
theorem dX8_stopClock_5 : decode cX8_stopClock 5 = .ok (.putfield 164, 3) := by decide +kernel
theorem dX8_stopClock_8 : decode cX8_stopClock 8 = .ok (.aload_n 0, 1) := by decide +kernel
theorem dX8_stopClock_9 : decode cX8_stopClock 9 = .ok (.lconst 0, 1) := by decide +kernel
theorem dX8_stopClock_10 : decode cX8_stopClock 10 = .ok (.invokevirtual 225, 3) := by decide +kernel
theorem dX8_stopClock_13 : decode cX8_stopClock 13 = .ok (.return_, 1) := by decide +kernel
theorem dX8_dropPressesFrom_0 : decode cX8_dropPressesFrom 0 = .ok (.iconst 0, 1) := by decide +kernel
theorem dX8_dropPressesFrom_1 : decode cX8_dropPressesFrom 1 = .ok (.istore_n 3, 1) := by decide +kernel
theorem dX8_dropPressesFrom_2 : decode cX8_dropPressesFrom 2 = .ok (.iload_n 3, 1) := by decide +kernel
theorem dX8_dropPressesFrom_3 : decode cX8_dropPressesFrom 3 = .ok (.aload_n 0, 1) := by decide +kernel
theorem dX8_dropPressesFrom_4 : decode cX8_dropPressesFrom 4 = .ok (.getfield 60, 3) := by decide +kernel
theorem dX8_dropPressesFrom_7 : decode cX8_dropPressesFrom 7 = .ok (.if_icmp .ge 36, 3) := by decide +kernel
theorem dX8_dropPressesFrom_10 : decode cX8_dropPressesFrom 10 = .ok (.aload_n 0, 1) := by decide +kernel
theorem dX8_dropPressesFrom_11 : decode cX8_dropPressesFrom 11 = .ok (.iload_n 3, 1) := by decide +kernel
theorem dX8_dropPressesFrom_12 : decode cX8_dropPressesFrom 12 = .ok (.invokevirtual 89, 3) := by decide +kernel
theorem dX8_dropPressesFrom_15 : decode cX8_dropPressesFrom 15 = .ok (.astore 4, 2) := by decide +kernel
theorem dX8_dropPressesFrom_17 : decode cX8_dropPressesFrom 17 = .ok (.aload 4, 2) := by decide +kernel
theorem dX8_dropPressesFrom_19 : decode cX8_dropPressesFrom 19 = .ok (.ifnull 18, 3) := by decide +kernel
theorem dX8_dropPressesFrom_22 : decode cX8_dropPressesFrom 22 = .ok (.aload 4, 2) := by decide +kernel
theorem dX8_dropPressesFrom_24 : decode cX8_dropPressesFrom 24 = .ok (.getfield 205, 3) := by decide +kernel
theorem dX8_dropPressesFrom_27 : decode cX8_dropPressesFrom 27 = .ok (.lload_n 1, 1) := by decide +kernel
theorem dX8_dropPressesFrom_28 : decode cX8_dropPressesFrom 28 = .ok (.lcmp, 1) := by decide +kernel
theorem dX8_dropPressesFrom_29 : decode cX8_dropPressesFrom 29 = .ok (.ifCond .lt 8, 3) := by decide +kernel
theorem dX8_dropPressesFrom_32 : decode cX8_dropPressesFrom 32 = .ok (.aload 4, 2) := by decide +kernel
theorem dX8_dropPressesFrom_34 : decode cX8_dropPressesFrom 34 = .ok (.invokevirtual 384, 3) := by decide +kernel
theorem dX8_dropPressesFrom_37 : decode cX8_dropPressesFrom 37 = .ok (.iinc 3 1, 3) := by decide +kernel
theorem dX8_dropPressesFrom_40 : decode cX8_dropPressesFrom 40 = .ok (.goto (-38), 3) := by decide +kernel
theorem dX8_dropPressesFrom_43 : decode cX8_dropPressesFrom 43 = .ok (.return_, 1) := by decide +kernel
theorem dX8_sellRipeOffers_0 : decode cX8_sellRipeOffers 0 = .ok (.iconst 0, 1) := by decide +kernel
theorem dX8_sellRipeOffers_1 : decode cX8_sellRipeOffers 1 = .ok (.istore_n 1, 1) := by decide +kernel
theorem dX8_sellRipeOffers_2 : decode cX8_sellRipeOffers 2 = .ok (.iload_n 1, 1) := by decide +kernel
theorem dX8_sellRipeOffers_3 : decode cX8_sellRipeOffers 3 = .ok (.aload_n 0, 1) := by decide +kernel
theorem dX8_sellRipeOffers_4 : decode cX8_sellRipeOffers 4 = .ok (.getfield 115, 3) := by decide +kernel
theorem dX8_sellRipeOffers_7 : decode cX8_sellRipeOffers 7 = .ok (.if_icmp .ge 74, 3) := by decide +kernel
theorem dX8_sellRipeOffers_10 : decode cX8_sellRipeOffers 10 = .ok (.aload_n 0, 1) := by decide +kernel
theorem dX8_sellRipeOffers_11 : decode cX8_sellRipeOffers 11 = .ok (.iload_n 1, 1) := by decide +kernel
theorem dX8_sellRipeOffers_12 : decode cX8_sellRipeOffers 12 = .ok (.invokevirtual 69, 3) := by decide +kernel
theorem dX8_sellRipeOffers_15 : decode cX8_sellRipeOffers 15 = .ok (.astore_n 2, 1) := by decide +kernel
theorem dX8_sellRipeOffers_16 : decode cX8_sellRipeOffers 16 = .ok (.aload_n 2, 1) := by decide +kernel
theorem dX8_sellRipeOffers_17 : decode cX8_sellRipeOffers 17 = .ok (.ifnull 58, 3) := by decide +kernel
theorem dX8_sellRipeOffers_20 : decode cX8_sellRipeOffers 20 = .ok (.aload_n 2, 1) := by decide +kernel
theorem dX8_sellRipeOffers_21 : decode cX8_sellRipeOffers 21 = .ok (.getfield 100, 3) := by decide +kernel
theorem dX8_sellRipeOffers_24 : decode cX8_sellRipeOffers 24 = .ok (.getstatic 235, 3) := by decide +kernel
theorem dX8_sellRipeOffers_27 : decode cX8_sellRipeOffers 27 = .ok (.if_acmp .ne 48, 3) := by decide +kernel
theorem dX8_sellRipeOffers_30 : decode cX8_sellRipeOffers 30 = .ok (.aload_n 0, 1) := by decide +kernel
theorem dX8_sellRipeOffers_31 : decode cX8_sellRipeOffers 31 = .ok (.getfield 208, 3) := by decide +kernel
theorem dX8_sellRipeOffers_34 : decode cX8_sellRipeOffers 34 = .ok (.aload_n 2, 1) := by decide +kernel
theorem dX8_sellRipeOffers_35 : decode cX8_sellRipeOffers 35 = .ok (.getfield 246, 3) := by decide +kernel
theorem dX8_sellRipeOffers_38 : decode cX8_sellRipeOffers 38 = .ok (.lsub, 1) := by decide +kernel
theorem dX8_sellRipeOffers_39 : decode cX8_sellRipeOffers 39 = .ok (.ldc2_w 397, 3) := by decide +kernel
theorem dX8_sellRipeOffers_42 : decode cX8_sellRipeOffers 42 = .ok (.lcmp, 1) := by decide +kernel
theorem dX8_sellRipeOffers_43 : decode cX8_sellRipeOffers 43 = .ok (.ifCond .lt 32, 3) := by decide +kernel
theorem dX8_sellRipeOffers_46 : decode cX8_sellRipeOffers 46 = .ok (.aload_n 2, 1) := by decide +kernel
theorem dX8_sellRipeOffers_47 : decode cX8_sellRipeOffers 47 = .ok (.aload_n 2, 1) := by decide +kernel
theorem dX8_sellRipeOffers_48 : decode cX8_sellRipeOffers 48 = .ok (.getfield 77, 3) := by decide +kernel
theorem dX8_sellRipeOffers_51 : decode cX8_sellRipeOffers 51 = .ok (.aload_n 2, 1) := by decide +kernel
theorem dX8_sellRipeOffers_52 : decode cX8_sellRipeOffers 52 = .ok (.getfield 82, 3) := by decide +kernel
theorem dX8_sellRipeOffers_55 : decode cX8_sellRipeOffers 55 = .ok (.invokevirtual 394, 3) := by decide +kernel
theorem dX8_sellRipeOffers_58 : decode cX8_sellRipeOffers 58 = .ok (.aload_n 0, 1) := by decide +kernel
theorem dX8_sellRipeOffers_59 : decode cX8_sellRipeOffers 59 = .ok (.getfield 37, 3) := by decide +kernel
theorem dX8_sellRipeOffers_62 : decode cX8_sellRipeOffers 62 = .ok (.iconst 3, 1) := by decide +kernel
theorem dX8_sellRipeOffers_63 : decode cX8_sellRipeOffers 63 = .ok (.iload_n 1, 1) := by decide +kernel
theorem dX8_sellRipeOffers_64 : decode cX8_sellRipeOffers 64 = .ok (.aload_n 2, 1) := by decide +kernel
theorem dX8_sellRipeOffers_65 : decode cX8_sellRipeOffers 65 = .ok (.getfield 77, 3) := by decide +kernel
theorem dX8_sellRipeOffers_68 : decode cX8_sellRipeOffers 68 = .ok (.aload_n 2, 1) := by decide +kernel
theorem dX8_sellRipeOffers_69 : decode cX8_sellRipeOffers 69 = .ok (.getfield 82, 3) := by decide +kernel
theorem dX8_sellRipeOffers_72 : decode cX8_sellRipeOffers 72 = .ok (.invokevirtual 137, 3) := by decide +kernel
theorem dX8_sellRipeOffers_75 : decode cX8_sellRipeOffers 75 = .ok (.iinc 1 1, 3) := by decide +kernel
theorem dX8_sellRipeOffers_78 : decode cX8_sellRipeOffers 78 = .ok (.goto (-76), 3) := by decide +kernel
theorem dX8_sellRipeOffers_81 : decode cX8_sellRipeOffers 81 = .ok (.return_, 1) := by decide +kernel
theorem dX8_findWinners_0 : decode cX8_findWinners 0 = .ok (.aload_n 0, 1) := by decide +kernel
theorem dX8_findWinners_1 : decode cX8_findWinners 1 = .ok (.getfield 44, 3) := by decide +kernel
theorem dX8_findWinners_4 : decode cX8_findWinners 4 = .ok (.invokevirtual 399, 3) := by decide +kernel
theorem dX8_findWinners_7 : decode cX8_findWinners 7 = .ok (.iconst 0, 1) := by decide +kernel
theorem dX8_findWinners_8 : decode cX8_findWinners 8 = .ok (.istore_n 1, 1) := by decide +kernel
theorem dX8_findWinners_9 : decode cX8_findWinners 9 = .ok (.iload_n 1, 1) := by decide +kernel
theorem dX8_findWinners_10 : decode cX8_findWinners 10 = .ok (.aload_n 0, 1) := by decide +kernel
theorem dX8_findWinners_11 : decode cX8_findWinners 11 = .ok (.getfield 60, 3) := by decide +kernel
theorem dX8_findWinners_14 : decode cX8_findWinners 14 = .ok (.if_icmp .ge 32, 3) := by decide +kernel
theorem dX8_findWinners_17 : decode cX8_findWinners 17 = .ok (.aload_n 0, 1) := by decide +kernel
theorem dX8_findWinners_18 : decode cX8_findWinners 18 = .ok (.iload_n 1, 1) := by decide +kernel
theorem dX8_findWinners_19 : decode cX8_findWinners 19 = .ok (.invokevirtual 89, 3) := by decide +kernel
theorem dX8_findWinners_22 : decode cX8_findWinners 22 = .ok (.astore_n 2, 1) := by decide +kernel
theorem dX8_findWinners_23 : decode cX8_findWinners 23 = .ok (.aload_n 2, 1) := by decide +kernel
theorem dX8_findWinners_24 : decode cX8_findWinners 24 = .ok (.ifnull 16, 3) := by decide +kernel
theorem dX8_findWinners_27 : decode cX8_findWinners 27 = .ok (.aload_n 0, 1) := by decide +kernel
theorem dX8_findWinners_28 : decode cX8_findWinners 28 = .ok (.getfield 44, 3) := by decide +kernel
theorem dX8_findWinners_31 : decode cX8_findWinners 31 = .ok (.iload_n 1, 1) := by decide +kernel
theorem dX8_findWinners_32 : decode cX8_findWinners 32 = .ok (.aload_n 0, 1) := by decide +kernel
theorem dX8_findWinners_33 : decode cX8_findWinners 33 = .ok (.aload_n 2, 1) := by decide +kernel
theorem dX8_findWinners_34 : decode cX8_findWinners 34 = .ok (.invokevirtual 96, 3) := by decide +kernel
theorem dX8_findWinners_37 : decode cX8_findWinners 37 = .ok (.invokevirtual 402, 3) := by decide +kernel
theorem dX8_findWinners_40 : decode cX8_findWinners 40 = .ok (.iinc 1 1, 3) := by decide +kernel
theorem dX8_findWinners_43 : decode cX8_findWinners 43 = .ok (.goto (-34), 3) := by decide +kernel
theorem dX8_findWinners_46 : decode cX8_findWinners 46 = .ok (.iconst 0, 1) := by decide +kernel
theorem dX8_findWinners_47 : decode cX8_findWinners 47 = .ok (.istore_n 1, 1) := by decide +kernel
theorem dX8_findWinners_48 : decode cX8_findWinners 48 = .ok (.iload_n 1, 1) := by decide +kernel
theorem dX8_findWinners_49 : decode cX8_findWinners 49 = .ok (.aload_n 0, 1) := by decide +kernel
theorem dX8_findWinners_50 : decode cX8_findWinners 50 = .ok (.getfield 249, 3) := by decide +kernel
theorem dX8_findWinners_53 : decode cX8_findWinners 53 = .ok (.if_icmp .ge 35, 3) := by decide +kernel
theorem dX8_findWinners_56 : decode cX8_findWinners 56 = .ok (.aload_n 0, 1) := by decide +kernel
theorem dX8_findWinners_57 : decode cX8_findWinners 57 = .ok (.iload_n 1, 1) := by decide +kernel
theorem dX8_findWinners_58 : decode cX8_findWinners 58 = .ok (.invokevirtual 255, 3) := by decide +kernel
theorem dX8_findWinners_61 : decode cX8_findWinners 61 = .ok (.astore_n 2, 1) := by decide +kernel
theorem dX8_findWinners_62 : decode cX8_findWinners 62 = .ok (.aload_n 2, 1) := by decide +kernel
theorem dX8_findWinners_63 : decode cX8_findWinners 63 = .ok (.ifnull 19, 3) := by decide +kernel
theorem dX8_findWinners_66 : decode cX8_findWinners 66 = .ok (.aload_n 0, 1) := by decide +kernel
theorem dX8_findWinners_67 : decode cX8_findWinners 67 = .ok (.aload_n 2, 1) := by decide +kernel
theorem dX8_findWinners_68 : decode cX8_findWinners 68 = .ok (.invokevirtual 405, 3) := by decide +kernel
theorem dX8_findWinners_71 : decode cX8_findWinners 71 = .ok (.ifCond .eq 11, 3) := by decide +kernel
theorem dX8_findWinners_74 : decode cX8_findWinners 74 = .ok (.aload_n 0, 1) := by decide +kernel
theorem dX8_findWinners_75 : decode cX8_findWinners 75 = .ok (.getfield 44, 3) := by decide +kernel
theorem dX8_findWinners_78 : decode cX8_findWinners 78 = .ok (.aload_n 2, 1) := by decide +kernel
theorem dX8_findWinners_79 : decode cX8_findWinners 79 = .ok (.invokevirtual 409, 3) := by decide +kernel
theorem dX8_findWinners_82 : decode cX8_findWinners 82 = .ok (.iinc 1 1, 3) := by decide +kernel
theorem dX8_findWinners_85 : decode cX8_findWinners 85 = .ok (.goto (-37), 3) := by decide +kernel
theorem dX8_findWinners_88 : decode cX8_findWinners 88 = .ok (.aload_n 0, 1) := by decide +kernel
theorem dX8_findWinners_89 : decode cX8_findWinners 89 = .ok (.getfield 44, 3) := by decide +kernel
theorem dX8_findWinners_92 : decode cX8_findWinners 92 = .ok (.invokevirtual 411, 3) := by decide +kernel
theorem dX8_findWinners_95 : decode cX8_findWinners 95 = .ok (.return_, 1) := by decide +kernel
theorem dX8_isGood_0 : decode cX8_isGood 0 = .ok (.lconst 0, 1) := by decide +kernel
theorem dX8_isGood_1 : decode cX8_isGood 1 = .ok (.lstore_n 2, 1) := by decide +kernel
theorem dX8_isGood_2 : decode cX8_isGood 2 = .ok (.iconst 0, 1) := by decide +kernel
theorem dX8_isGood_3 : decode cX8_isGood 3 = .ok (.istore 4, 2) := by decide +kernel
theorem dX8_isGood_5 : decode cX8_isGood 5 = .ok (.iload 4, 2) := by decide +kernel
theorem dX8_isGood_7 : decode cX8_isGood 7 = .ok (.aload_n 0, 1) := by decide +kernel
theorem dX8_isGood_8 : decode cX8_isGood 8 = .ok (.getfield 115, 3) := by decide +kernel
theorem dX8_isGood_11 : decode cX8_isGood 11 = .ok (.if_icmp .ge 52, 3) := by decide +kernel
theorem dX8_isGood_14 : decode cX8_isGood 14 = .ok (.aload_n 0, 1) := by decide +kernel
theorem dX8_isGood_15 : decode cX8_isGood 15 = .ok (.iload 4, 2) := by decide +kernel
theorem dX8_isGood_17 : decode cX8_isGood 17 = .ok (.invokevirtual 69, 3) := by decide +kernel
theorem dX8_isGood_20 : decode cX8_isGood 20 = .ok (.astore 5, 2) := by decide +kernel
theorem dX8_isGood_22 : decode cX8_isGood 22 = .ok (.aload 5, 2) := by decide +kernel
theorem dX8_isGood_24 : decode cX8_isGood 24 = .ok (.ifnull 33, 3) := by decide +kernel
theorem dX8_isGood_27 : decode cX8_isGood 27 = .ok (.aload_n 1, 1) := by decide +kernel
theorem dX8_isGood_28 : decode cX8_isGood 28 = .ok (.iload 4, 2) := by decide +kernel
theorem dX8_isGood_30 : decode cX8_isGood 30 = .ok (.invokevirtual 259, 3) := by decide +kernel
theorem dX8_isGood_33 : decode cX8_isGood 33 = .ok (.ifCond .eq 24, 3) := by decide +kernel
theorem dX8_isGood_36 : decode cX8_isGood 36 = .ok (.aload 5, 2) := by decide +kernel
theorem dX8_isGood_38 : decode cX8_isGood 38 = .ok (.getfield 100, 3) := by decide +kernel
theorem dX8_isGood_41 : decode cX8_isGood 41 = .ok (.getstatic 155, 3) := by decide +kernel
theorem dX8_isGood_44 : decode cX8_isGood 44 = .ok (.if_acmp .eq 5, 3) := by decide +kernel
theorem dX8_isGood_47 : decode cX8_isGood 47 = .ok (.iconst 0, 1) := by decide +kernel
theorem dX8_isGood_48 : decode cX8_isGood 48 = .ok (.ireturn, 1) := by decide +kernel
theorem dX8_isGood_49 : decode cX8_isGood 49 = .ok (.lload_n 2, 1) := by decide +kernel
theorem dX8_isGood_50 : decode cX8_isGood 50 = .ok (.aload 5, 2) := by decide +kernel
theorem dX8_isGood_52 : decode cX8_isGood 52 = .ok (.getfield 144, 3) := by decide +kernel
theorem dX8_isGood_55 : decode cX8_isGood 55 = .ok (.ladd, 1) := by decide +kernel
theorem dX8_isGood_56 : decode cX8_isGood 56 = .ok (.lstore_n 2, 1) := by decide +kernel
theorem dX8_isGood_57 : decode cX8_isGood 57 = .ok (.iinc 4 1, 3) := by decide +kernel
theorem dX8_isGood_60 : decode cX8_isGood 60 = .ok (.goto (-55), 3) := by decide +kernel
theorem dX8_isGood_63 : decode cX8_isGood 63 = .ok (.aload_n 1, 1) := by decide +kernel
theorem dX8_isGood_64 : decode cX8_isGood 64 = .ok (.getfield 414, 3) := by decide +kernel
theorem dX8_isGood_67 : decode cX8_isGood 67 = .ok (.lconst 0, 1) := by decide +kernel
theorem dX8_isGood_68 : decode cX8_isGood 68 = .ok (.lcmp, 1) := by decide +kernel
theorem dX8_isGood_69 : decode cX8_isGood 69 = .ok (.ifCond .eq 16, 3) := by decide +kernel
theorem dX8_isGood_72 : decode cX8_isGood 72 = .ok (.aload_n 1, 1) := by decide +kernel
theorem dX8_isGood_73 : decode cX8_isGood 73 = .ok (.getfield 417, 3) := by decide +kernel
theorem dX8_isGood_76 : decode cX8_isGood 76 = .ok (.lload_n 2, 1) := by decide +kernel
theorem dX8_isGood_77 : decode cX8_isGood 77 = .ok (.lcmp, 1) := by decide +kernel
theorem dX8_isGood_78 : decode cX8_isGood 78 = .ok (.ifCond .lt 7, 3) := by decide +kernel
theorem dX8_isGood_81 : decode cX8_isGood 81 = .ok (.iconst 1, 1) := by decide +kernel
theorem dX8_isGood_82 : decode cX8_isGood 82 = .ok (.goto 4, 3) := by decide +kernel
theorem dX8_isGood_85 : decode cX8_isGood 85 = .ok (.iconst 0, 1) := by decide +kernel
theorem dX8_isGood_86 : decode cX8_isGood 86 = .ok (.ireturn, 1) := by decide +kernel
theorem dX8_sellSet_0 : decode cX8_sellSet 0 = .ok (.aload_n 1, 1) := by decide +kernel
theorem dX8_sellSet_1 : decode cX8_sellSet 1 = .ok (.getfield 417, 3) := by decide +kernel
theorem dX8_sellSet_4 : decode cX8_sellSet 4 = .ok (.lstore_n 2, 1) := by decide +kernel
theorem dX8_sellSet_5 : decode cX8_sellSet 5 = .ok (.iconst 0, 1) := by decide +kernel
theorem dX8_sellSet_6 : decode cX8_sellSet 6 = .ok (.istore 4, 2) := by decide +kernel
theorem dX8_sellSet_8 : decode cX8_sellSet 8 = .ok (.iload 4, 2) := by decide +kernel
theorem dX8_sellSet_10 : decode cX8_sellSet 10 = .ok (.aload_n 0, 1) := by decide +kernel
theorem dX8_sellSet_11 : decode cX8_sellSet 11 = .ok (.getfield 115, 3) := by decide +kernel
theorem dX8_sellSet_14 : decode cX8_sellSet 14 = .ok (.if_icmp .ge 58, 3) := by decide +kernel
theorem dX8_sellSet_17 : decode cX8_sellSet 17 = .ok (.aload_n 0, 1) := by decide +kernel
theorem dX8_sellSet_18 : decode cX8_sellSet 18 = .ok (.iload 4, 2) := by decide +kernel
theorem dX8_sellSet_20 : decode cX8_sellSet 20 = .ok (.invokevirtual 69, 3) := by decide +kernel
theorem dX8_sellSet_23 : decode cX8_sellSet 23 = .ok (.astore 5, 2) := by decide +kernel
theorem dX8_sellSet_25 : decode cX8_sellSet 25 = .ok (.aload 5, 2) := by decide +kernel
theorem dX8_sellSet_27 : decode cX8_sellSet 27 = .ok (.ifnull 39, 3) := by decide +kernel
theorem dX8_sellSet_30 : decode cX8_sellSet 30 = .ok (.aload_n 1, 1) := by decide +kernel
theorem dX8_sellSet_31 : decode cX8_sellSet 31 = .ok (.iload 4, 2) := by decide +kernel
theorem dX8_sellSet_33 : decode cX8_sellSet 33 = .ok (.invokevirtual 259, 3) := by decide +kernel
theorem dX8_sellSet_36 : decode cX8_sellSet 36 = .ok (.ifCond .eq 30, 3) := by decide +kernel
theorem dX8_sellSet_39 : decode cX8_sellSet 39 = .ok (.aload 5, 2) := by decide +kernel
theorem dX8_sellSet_41 : decode cX8_sellSet 41 = .ok (.aload_n 1, 1) := by decide +kernel
theorem dX8_sellSet_42 : decode cX8_sellSet 42 = .ok (.getfield 418, 3) := by decide +kernel
theorem dX8_sellSet_45 : decode cX8_sellSet 45 = .ok (.lload_n 2, 1) := by decide +kernel
theorem dX8_sellSet_46 : decode cX8_sellSet 46 = .ok (.invokevirtual 394, 3) := by decide +kernel
theorem dX8_sellSet_49 : decode cX8_sellSet 49 = .ok (.aload_n 0, 1) := by decide +kernel
theorem dX8_sellSet_50 : decode cX8_sellSet 50 = .ok (.getfield 37, 3) := by decide +kernel
theorem dX8_sellSet_53 : decode cX8_sellSet 53 = .ok (.iconst 4, 1) := by decide +kernel
theorem dX8_sellSet_54 : decode cX8_sellSet 54 = .ok (.iload 4, 2) := by decide +kernel
theorem dX8_sellSet_56 : decode cX8_sellSet 56 = .ok (.aload_n 1, 1) := by decide +kernel
theorem dX8_sellSet_57 : decode cX8_sellSet 57 = .ok (.getfield 418, 3) := by decide +kernel
theorem dX8_sellSet_60 : decode cX8_sellSet 60 = .ok (.lload_n 2, 1) := by decide +kernel
theorem dX8_sellSet_61 : decode cX8_sellSet 61 = .ok (.invokevirtual 137, 3) := by decide +kernel
theorem dX8_sellSet_64 : decode cX8_sellSet 64 = .ok (.lconst 0, 1) := by decide +kernel
theorem dX8_sellSet_65 : decode cX8_sellSet 65 = .ok (.lstore_n 2, 1) := by decide +kernel
theorem dX8_sellSet_66 : decode cX8_sellSet 66 = .ok (.iinc 4 1, 3) := by decide +kernel
theorem dX8_sellSet_69 : decode cX8_sellSet 69 = .ok (.goto (-61), 3) := by decide +kernel
theorem dX8_sellSet_72 : decode cX8_sellSet 72 = .ok (.return_, 1) := by decide +kernel
theorem dJ6_bitCount_0f7a4_0 : decode cJ6_bitCount_0f7a4 0 = .ok (.iload_n 0, 1) := by decide +kernel
theorem dJ6_bitCount_0f7a4_1 : decode cJ6_bitCount_0f7a4 1 = .ok (.iload_n 0, 1) := by decide +kernel
theorem dJ6_bitCount_0f7a4_2 : decode cJ6_bitCount_0f7a4 2 = .ok (.iconst 1, 1) := by decide +kernel
theorem dJ6_bitCount_0f7a4_3 : decode cJ6_bitCount_0f7a4 3 = .ok (.iushr, 1) := by decide +kernel
theorem dJ6_bitCount_0f7a4_4 : decode cJ6_bitCount_0f7a4 4 = .ok (.ldc_w 265, 3) := by decide +kernel
theorem dJ6_bitCount_0f7a4_7 : decode cJ6_bitCount_0f7a4 7 = .ok (.iand, 1) := by decide +kernel
theorem dJ6_bitCount_0f7a4_8 : decode cJ6_bitCount_0f7a4 8 = .ok (.isub, 1) := by decide +kernel
theorem dJ6_bitCount_0f7a4_9 : decode cJ6_bitCount_0f7a4 9 = .ok (.istore_n 0, 1) := by decide +kernel
theorem dJ6_bitCount_0f7a4_10 : decode cJ6_bitCount_0f7a4 10 = .ok (.iload_n 0, 1) := by decide +kernel
theorem dJ6_bitCount_0f7a4_11 : decode cJ6_bitCount_0f7a4 11 = .ok (.ldc_w 266, 3) := by decide +kernel
theorem dJ6_bitCount_0f7a4_14 : decode cJ6_bitCount_0f7a4 14 = .ok (.iand, 1) := by decide +kernel
theorem dJ6_bitCount_0f7a4_15 : decode cJ6_bitCount_0f7a4 15 = .ok (.iload_n 0, 1) := by decide +kernel
theorem dJ6_bitCount_0f7a4_16 : decode cJ6_bitCount_0f7a4 16 = .ok (.iconst 2, 1) := by decide +kernel
theorem dJ6_bitCount_0f7a4_17 : decode cJ6_bitCount_0f7a4 17 = .ok (.iushr, 1) := by decide +kernel
theorem dJ6_bitCount_0f7a4_18 : decode cJ6_bitCount_0f7a4 18 = .ok (.ldc_w 266, 3) := by decide +kernel
theorem dJ6_bitCount_0f7a4_21 : decode cJ6_bitCount_0f7a4 21 = .ok (.iand, 1) := by decide +kernel
theorem dJ6_bitCount_0f7a4_22 : decode cJ6_bitCount_0f7a4 22 = .ok (.iadd, 1) := by decide +kernel
theorem dJ6_bitCount_0f7a4_23 : decode cJ6_bitCount_0f7a4 23 = .ok (.istore_n 0, 1) := by decide +kernel
theorem dJ6_bitCount_0f7a4_24 : decode cJ6_bitCount_0f7a4 24 = .ok (.iload_n 0, 1) := by decide +kernel
theorem dJ6_bitCount_0f7a4_25 : decode cJ6_bitCount_0f7a4 25 = .ok (.iload_n 0, 1) := by decide +kernel
theorem dJ6_bitCount_0f7a4_26 : decode cJ6_bitCount_0f7a4 26 = .ok (.iconst 4, 1) := by decide +kernel
theorem dJ6_bitCount_0f7a4_27 : decode cJ6_bitCount_0f7a4 27 = .ok (.iushr, 1) := by decide +kernel
theorem dJ6_bitCount_0f7a4_28 : decode cJ6_bitCount_0f7a4 28 = .ok (.iadd, 1) := by decide +kernel
theorem dJ6_bitCount_0f7a4_29 : decode cJ6_bitCount_0f7a4 29 = .ok (.ldc_w 267, 3) := by decide +kernel
theorem dJ6_bitCount_0f7a4_32 : decode cJ6_bitCount_0f7a4 32 = .ok (.iand, 1) := by decide +kernel
theorem dJ6_bitCount_0f7a4_33 : decode cJ6_bitCount_0f7a4 33 = .ok (.istore_n 0, 1) := by decide +kernel
theorem dJ6_bitCount_0f7a4_34 : decode cJ6_bitCount_0f7a4 34 = .ok (.iload_n 0, 1) := by decide +kernel
theorem dJ6_bitCount_0f7a4_35 : decode cJ6_bitCount_0f7a4 35 = .ok (.iload_n 0, 1) := by decide +kernel
theorem dJ6_bitCount_0f7a4_36 : decode cJ6_bitCount_0f7a4 36 = .ok (.bipush 8, 2) := by decide +kernel
theorem dJ6_bitCount_0f7a4_38 : decode cJ6_bitCount_0f7a4 38 = .ok (.iushr, 1) := by decide +kernel
theorem dJ6_bitCount_0f7a4_39 : decode cJ6_bitCount_0f7a4 39 = .ok (.iadd, 1) := by decide +kernel
theorem dJ6_bitCount_0f7a4_40 : decode cJ6_bitCount_0f7a4 40 = .ok (.istore_n 0, 1) := by decide +kernel
theorem dJ6_bitCount_0f7a4_41 : decode cJ6_bitCount_0f7a4 41 = .ok (.iload_n 0, 1) := by decide +kernel
theorem dJ6_bitCount_0f7a4_42 : decode cJ6_bitCount_0f7a4 42 = .ok (.iload_n 0, 1) := by decide +kernel
theorem dJ6_bitCount_0f7a4_43 : decode cJ6_bitCount_0f7a4 43 = .ok (.bipush 16, 2) := by decide +kernel
theorem dJ6_bitCount_0f7a4_45 : decode cJ6_bitCount_0f7a4 45 = .ok (.iushr, 1) := by decide +kernel
theorem dJ6_bitCount_0f7a4_46 : decode cJ6_bitCount_0f7a4 46 = .ok (.iadd, 1) := by decide +kernel
theorem dJ6_bitCount_0f7a4_47 : decode cJ6_bitCount_0f7a4 47 = .ok (.istore_n 0, 1) := by decide +kernel
theorem dJ6_bitCount_0f7a4_48 : decode cJ6_bitCount_0f7a4 48 = .ok (.iload_n 0, 1) := by decide +kernel
theorem dJ6_bitCount_0f7a4_49 : decode cJ6_bitCount_0f7a4 49 = .ok (.bipush 63, 2) := by decide +kernel
theorem dJ6_bitCount_0f7a4_51 : decode cJ6_bitCount_0f7a4 51 = .ok (.iand, 1) := by decide +kernel
theorem dJ6_bitCount_0f7a4_52 : decode cJ6_bitCount_0f7a4 52 = .ok (.ireturn, 1) := by decide +kernel
theorem dJ9_max_f86c9_0 : decode cJ9_max_f86c9 0 = .ok (.lload_n 0, 1) := by decide +kernel
theorem dJ9_max_f86c9_1 : decode cJ9_max_f86c9 1 = .ok (.lload_n 2, 1) := by decide +kernel
theorem dJ9_max_f86c9_2 : decode cJ9_max_f86c9 2 = .ok (.lcmp, 1) := by decide +kernel
theorem dJ9_max_f86c9_3 : decode cJ9_max_f86c9 3 = .ok (.ifCond .lt 7, 3) := by decide +kernel
theorem dJ9_max_f86c9_6 : decode cJ9_max_f86c9 6 = .ok (.lload_n 0, 1) := by decide +kernel
theorem dJ9_max_f86c9_7 : decode cJ9_max_f86c9 7 = .ok (.goto 4, 3) := by decide +kernel
theorem dJ9_max_f86c9_10 : decode cJ9_max_f86c9 10 = .ok (.lload_n 2, 1) := by decide +kernel
theorem dJ9_max_f86c9_11 : decode cJ9_max_f86c9 11 = .ok (.lreturn, 1) := by decide +kernel
theorem dJ9_min_f86c9_0 : decode cJ9_min_f86c9 0 = .ok (.lload_n 0, 1) := by decide +kernel
theorem dJ9_min_f86c9_1 : decode cJ9_min_f86c9 1 = .ok (.lload_n 2, 1) := by decide +kernel
theorem dJ9_min_f86c9_2 : decode cJ9_min_f86c9 2 = .ok (.lcmp, 1) := by decide +kernel
theorem dJ9_min_f86c9_3 : decode cJ9_min_f86c9 3 = .ok (.ifCond .gt 7, 3) := by decide +kernel
theorem dJ9_min_f86c9_6 : decode cJ9_min_f86c9 6 = .ok (.lload_n 0, 1) := by decide +kernel
theorem dJ9_min_f86c9_7 : decode cJ9_min_f86c9 7 = .ok (.goto 4, 3) := by decide +kernel
theorem dJ9_min_f86c9_10 : decode cJ9_min_f86c9 10 = .ok (.lload_n 2, 1) := by decide +kernel
theorem dJ9_min_f86c9_11 : decode cJ9_min_f86c9 11 = .ok (.lreturn, 1) := by decide +kernel

theorem dX0_init_0 : decode cX0_init 0 = .ok (.aload_n 0, 1) := by decide +kernel
theorem dX0_init_1 : decode cX0_init 1 = .ok (.invokespecial 3, 3) := by decide +kernel
theorem dX0_init_4 : decode cX0_init 4 = .ok (.aload_n 0, 1) := by decide +kernel
theorem dX0_init_5 : decode cX0_init 5 = .ok (.sipush 300, 3) := by decide +kernel
theorem dX0_init_8 : decode cX0_init 8 = .ok (.newarray .int, 2) := by decide +kernel
theorem dX0_init_10 : decode cX0_init 10 = .ok (.putfield 9, 3) := by decide +kernel
theorem dX0_init_13 : decode cX0_init 13 = .ok (.aload_n 0, 1) := by decide +kernel
theorem dX0_init_14 : decode cX0_init 14 = .ok (.sipush 300, 3) := by decide +kernel
theorem dX0_init_17 : decode cX0_init 17 = .ok (.newarray .int, 2) := by decide +kernel
theorem dX0_init_19 : decode cX0_init 19 = .ok (.putfield 15, 3) := by decide +kernel
theorem dX0_init_22 : decode cX0_init 22 = .ok (.aload_n 0, 1) := by decide +kernel
theorem dX0_init_23 : decode cX0_init 23 = .ok (.sipush 300, 3) := by decide +kernel
theorem dX0_init_26 : decode cX0_init 26 = .ok (.newarray .boolean, 2) := by decide +kernel
theorem dX0_init_28 : decode cX0_init 28 = .ok (.putfield 18, 3) := by decide +kernel
theorem dX0_init_31 : decode cX0_init 31 = .ok (.aload_n 0, 1) := by decide +kernel
theorem dX0_init_32 : decode cX0_init 32 = .ok (.aload_n 1, 1) := by decide +kernel
theorem dX0_init_33 : decode cX0_init 33 = .ok (.putfield 22, 3) := by decide +kernel
theorem dX0_init_36 : decode cX0_init 36 = .ok (.return_, 1) := by decide +kernel
theorem dX0_weightOf_0 : decode cX0_weightOf 0 = .ok (.aload_n 0, 1) := by decide +kernel
theorem dX0_weightOf_1 : decode cX0_weightOf 1 = .ok (.getfield 9, 3) := by decide +kernel
theorem dX0_weightOf_4 : decode cX0_weightOf 4 = .ok (.iload_n 1, 1) := by decide +kernel
theorem dX0_weightOf_5 : decode cX0_weightOf 5 = .ok (.iaload, 1) := by decide +kernel
theorem dX0_weightOf_6 : decode cX0_weightOf 6 = .ok (.ireturn, 1) := by decide +kernel
theorem dX0_has_0 : decode cX0_has 0 = .ok (.aload_n 0, 1) := by decide +kernel
theorem dX0_has_1 : decode cX0_has 1 = .ok (.getfield 18, 3) := by decide +kernel
theorem dX0_has_4 : decode cX0_has 4 = .ok (.iload_n 1, 1) := by decide +kernel
theorem dX0_has_5 : decode cX0_has 5 = .ok (.baload, 1) := by decide +kernel
theorem dX0_has_6 : decode cX0_has 6 = .ok (.ireturn, 1) := by decide +kernel
theorem dX0_size_0 : decode cX0_size 0 = .ok (.iconst 0, 1) := by decide +kernel
theorem dX0_size_1 : decode cX0_size 1 = .ok (.istore_n 1, 1) := by decide +kernel
theorem dX0_size_2 : decode cX0_size 2 = .ok (.iconst 0, 1) := by decide +kernel
theorem dX0_size_3 : decode cX0_size 3 = .ok (.istore_n 2, 1) := by decide +kernel
theorem dX0_size_4 : decode cX0_size 4 = .ok (.iload_n 2, 1) := by decide +kernel
theorem dX0_size_5 : decode cX0_size 5 = .ok (.aload_n 0, 1) := by decide +kernel
theorem dX0_size_6 : decode cX0_size 6 = .ok (.getfield 22, 3) := by decide +kernel
theorem dX0_size_9 : decode cX0_size 9 = .ok (.getfield 26, 3) := by decide +kernel
theorem dX0_size_12 : decode cX0_size 12 = .ok (.if_icmp .ge 21, 3) := by decide +kernel
theorem dX0_size_15 : decode cX0_size 15 = .ok (.aload_n 0, 1) := by decide +kernel
theorem dX0_size_16 : decode cX0_size 16 = .ok (.getfield 18, 3) := by decide +kernel
theorem dX0_size_19 : decode cX0_size 19 = .ok (.iload_n 2, 1) := by decide +kernel
theorem dX0_size_20 : decode cX0_size 20 = .ok (.baload, 1) := by decide +kernel
theorem dX0_size_21 : decode cX0_size 21 = .ok (.ifCond .eq 6, 3) := by decide +kernel
theorem dX0_size_24 : decode cX0_size 24 = .ok (.iinc 1 1, 3) := by decide +kernel
theorem dX0_size_27 : decode cX0_size 27 = .ok (.iinc 2 1, 3) := by decide +kernel
theorem dX0_size_30 : decode cX0_size 30 = .ok (.goto (-26), 3) := by decide +kernel
theorem dX0_size_33 : decode cX0_size 33 = .ok (.iload_n 1, 1) := by decide +kernel
theorem dX0_size_34 : decode cX0_size 34 = .ok (.ireturn, 1) := by decide +kernel
theorem dX0_nodeAdded_0 : decode cX0_nodeAdded 0 = .ok (.aload_n 0, 1) := by decide +kernel
theorem dX0_nodeAdded_1 : decode cX0_nodeAdded 1 = .ok (.getfield 9, 3) := by decide +kernel
theorem dX0_nodeAdded_4 : decode cX0_nodeAdded 4 = .ok (.iload_n 1, 1) := by decide +kernel
theorem dX0_nodeAdded_5 : decode cX0_nodeAdded 5 = .ok (.iload_n 2, 1) := by decide +kernel
theorem dX0_nodeAdded_6 : decode cX0_nodeAdded 6 = .ok (.iastore, 1) := by decide +kernel
theorem dX0_nodeAdded_7 : decode cX0_nodeAdded 7 = .ok (.aload_n 0, 1) := by decide +kernel
theorem dX0_nodeAdded_8 : decode cX0_nodeAdded 8 = .ok (.iload_n 1, 1) := by decide +kernel
theorem dX0_nodeAdded_9 : decode cX0_nodeAdded 9 = .ok (.iload_n 1, 1) := by decide +kernel
theorem dX0_nodeAdded_10 : decode cX0_nodeAdded 10 = .ok (.invokevirtual 32, 3) := by decide +kernel
theorem dX0_nodeAdded_13 : decode cX0_nodeAdded 13 = .ok (.aload_n 0, 1) := by decide +kernel
theorem dX0_nodeAdded_14 : decode cX0_nodeAdded 14 = .ok (.getfield 18, 3) := by decide +kernel
theorem dX0_nodeAdded_17 : decode cX0_nodeAdded 17 = .ok (.iload_n 1, 1) := by decide +kernel
theorem dX0_nodeAdded_18 : decode cX0_nodeAdded 18 = .ok (.iconst 1, 1) := by decide +kernel
theorem dX0_nodeAdded_19 : decode cX0_nodeAdded 19 = .ok (.bastore, 1) := by decide +kernel
theorem dX0_nodeAdded_20 : decode cX0_nodeAdded 20 = .ok (.return_, 1) := by decide +kernel
theorem dX0_reweigh_0 : decode cX0_reweigh 0 = .ok (.aload_n 0, 1) := by decide +kernel
theorem dX0_reweigh_1 : decode cX0_reweigh 1 = .ok (.getfield 15, 3) := by decide +kernel
theorem dX0_reweigh_4 : decode cX0_reweigh 4 = .ok (.aload_n 0, 1) := by decide +kernel
theorem dX0_reweigh_5 : decode cX0_reweigh 5 = .ok (.getfield 22, 3) := by decide +kernel
theorem dX0_reweigh_8 : decode cX0_reweigh 8 = .ok (.getfield 26, 3) := by decide +kernel
theorem dX0_reweigh_11 : decode cX0_reweigh 11 = .ok (.iload_n 1, 1) := by decide +kernel
theorem dX0_reweigh_12 : decode cX0_reweigh 12 = .ok (.invokestatic 36, 3) := by decide +kernel
theorem dX0_reweigh_15 : decode cX0_reweigh 15 = .ok (.istore_n 3, 1) := by decide +kernel
theorem dX0_reweigh_16 : decode cX0_reweigh 16 = .ok (.aload_n 0, 1) := by decide +kernel
theorem dX0_reweigh_17 : decode cX0_reweigh 17 = .ok (.getfield 9, 3) := by decide +kernel
theorem dX0_reweigh_20 : decode cX0_reweigh 20 = .ok (.iload_n 1, 1) := by decide +kernel
theorem dX0_reweigh_21 : decode cX0_reweigh 21 = .ok (.iload_n 2, 1) := by decide +kernel
theorem dX0_reweigh_22 : decode cX0_reweigh 22 = .ok (.iastore, 1) := by decide +kernel
theorem dX0_reweigh_23 : decode cX0_reweigh 23 = .ok (.aload_n 0, 1) := by decide +kernel
theorem dX0_reweigh_24 : decode cX0_reweigh 24 = .ok (.iload_n 1, 1) := by decide +kernel
theorem dX0_reweigh_25 : decode cX0_reweigh 25 = .ok (.iload_n 3, 1) := by decide +kernel
theorem dX0_reweigh_26 : decode cX0_reweigh 26 = .ok (.invokevirtual 32, 3) := by decide +kernel
theorem dX0_reweigh_29 : decode cX0_reweigh 29 = .ok (.aload_n 0, 1) := by decide +kernel
theorem dX0_reweigh_30 : decode cX0_reweigh 30 = .ok (.invokevirtual 40, 3) := by decide +kernel
theorem dX0_reweigh_33 : decode cX0_reweigh 33 = .ok (.ireturn, 1) := by decide +kernel
theorem dX0_arcChanged_0 : decode cX0_arcChanged 0 = .ok (.aload_n 0, 1) := by decide +kernel
theorem dX0_arcChanged_1 : decode cX0_arcChanged 1 = .ok (.iload_n 1, 1) := by decide +kernel
theorem dX0_arcChanged_2 : decode cX0_arcChanged 2 = .ok (.iload_n 2, 1) := by decide +kernel
theorem dX0_arcChanged_3 : decode cX0_arcChanged 3 = .ok (.invokevirtual 44, 3) := by decide +kernel
theorem dX0_arcChanged_6 : decode cX0_arcChanged 6 = .ok (.ifCond .eq 7, 3) := by decide +kernel
theorem dX0_arcChanged_9 : decode cX0_arcChanged 9 = .ok (.iload_n 2, 1) := by decide +kernel
theorem dX0_arcChanged_10 : decode cX0_arcChanged 10 = .ok (.goto 4, 3) := by decide +kernel
theorem dX0_arcChanged_13 : decode cX0_arcChanged 13 = .ok (.iload_n 1, 1) := by decide +kernel
theorem dX0_arcChanged_14 : decode cX0_arcChanged 14 = .ok (.istore_n 3, 1) := by decide +kernel
theorem dX0_arcChanged_15 : decode cX0_arcChanged 15 = .ok (.aload_n 0, 1) := by decide +kernel
theorem dX0_arcChanged_16 : decode cX0_arcChanged 16 = .ok (.getfield 18, 3) := by decide +kernel
theorem dX0_arcChanged_19 : decode cX0_arcChanged 19 = .ok (.iload_n 3, 1) := by decide +kernel
theorem dX0_arcChanged_20 : decode cX0_arcChanged 20 = .ok (.baload, 1) := by decide +kernel
theorem dX0_arcChanged_21 : decode cX0_arcChanged 21 = .ok (.aload_n 0, 1) := by decide +kernel
theorem dX0_arcChanged_22 : decode cX0_arcChanged 22 = .ok (.iload_n 3, 1) := by decide +kernel
theorem dX0_arcChanged_23 : decode cX0_arcChanged 23 = .ok (.invokevirtual 48, 3) := by decide +kernel
theorem dX0_arcChanged_26 : decode cX0_arcChanged 26 = .ok (.if_icmp .ne 7, 3) := by decide +kernel
theorem dX0_arcChanged_29 : decode cX0_arcChanged 29 = .ok (.iconst 0, 1) := by decide +kernel
theorem dX0_arcChanged_30 : decode cX0_arcChanged 30 = .ok (.goto 7, 3) := by decide +kernel
theorem dX0_arcChanged_33 : decode cX0_arcChanged 33 = .ok (.aload_n 0, 1) := by decide +kernel
theorem dX0_arcChanged_34 : decode cX0_arcChanged 34 = .ok (.invokevirtual 40, 3) := by decide +kernel
theorem dX0_arcChanged_37 : decode cX0_arcChanged 37 = .ok (.ireturn, 1) := by decide +kernel
theorem dX0_holds_0 : decode cX0_holds 0 = .ok (.iconst 0, 1) := by decide +kernel
theorem dX0_holds_1 : decode cX0_holds 1 = .ok (.istore_n 1, 1) := by decide +kernel
theorem dX0_holds_2 : decode cX0_holds 2 = .ok (.iload_n 1, 1) := by decide +kernel
theorem dX0_holds_3 : decode cX0_holds 3 = .ok (.aload_n 0, 1) := by decide +kernel
theorem dX0_holds_4 : decode cX0_holds 4 = .ok (.getfield 22, 3) := by decide +kernel
theorem dX0_holds_7 : decode cX0_holds 7 = .ok (.getfield 26, 3) := by decide +kernel
theorem dX0_holds_10 : decode cX0_holds 10 = .ok (.if_icmp .ge 25, 3) := by decide +kernel
theorem dX0_holds_13 : decode cX0_holds 13 = .ok (.aload_n 0, 1) := by decide +kernel
theorem dX0_holds_14 : decode cX0_holds 14 = .ok (.getfield 18, 3) := by decide +kernel
theorem dX0_holds_17 : decode cX0_holds 17 = .ok (.iload_n 1, 1) := by decide +kernel
theorem dX0_holds_18 : decode cX0_holds 18 = .ok (.baload, 1) := by decide +kernel
theorem dX0_holds_19 : decode cX0_holds 19 = .ok (.aload_n 0, 1) := by decide +kernel
theorem dX0_holds_20 : decode cX0_holds 20 = .ok (.iload_n 1, 1) := by decide +kernel
theorem dX0_holds_21 : decode cX0_holds 21 = .ok (.invokevirtual 48, 3) := by decide +kernel
theorem dX0_holds_24 : decode cX0_holds 24 = .ok (.if_icmp .eq 5, 3) := by decide +kernel
theorem dX0_holds_27 : decode cX0_holds 27 = .ok (.iconst 0, 1) := by decide +kernel
theorem dX0_holds_28 : decode cX0_holds 28 = .ok (.ireturn, 1) := by decide +kernel
theorem dX0_holds_29 : decode cX0_holds 29 = .ok (.iinc 1 1, 3) := by decide +kernel
theorem dX0_holds_32 : decode cX0_holds 32 = .ok (.goto (-30), 3) := by decide +kernel
theorem dX0_holds_35 : decode cX0_holds 35 = .ok (.iconst 1, 1) := by decide +kernel
theorem dX0_holds_36 : decode cX0_holds 36 = .ok (.ireturn, 1) := by decide +kernel
theorem dX0_renew_0 : decode cX0_renew 0 = .ok (.iconst 0, 1) := by decide +kernel
theorem dX0_renew_1 : decode cX0_renew 1 = .ok (.istore_n 1, 1) := by decide +kernel
theorem dX0_renew_2 : decode cX0_renew 2 = .ok (.iconst 0, 1) := by decide +kernel
theorem dX0_renew_3 : decode cX0_renew 3 = .ok (.istore_n 2, 1) := by decide +kernel
theorem dX0_renew_4 : decode cX0_renew 4 = .ok (.iload_n 2, 1) := by decide +kernel
theorem dX0_renew_5 : decode cX0_renew 5 = .ok (.aload_n 0, 1) := by decide +kernel
theorem dX0_renew_6 : decode cX0_renew 6 = .ok (.getfield 22, 3) := by decide +kernel
theorem dX0_renew_9 : decode cX0_renew 9 = .ok (.getfield 26, 3) := by decide +kernel
theorem dX0_renew_12 : decode cX0_renew 12 = .ok (.if_icmp .ge 45, 3) := by decide +kernel
theorem dX0_renew_15 : decode cX0_renew 15 = .ok (.aload_n 0, 1) := by decide +kernel
theorem dX0_renew_16 : decode cX0_renew 16 = .ok (.getfield 15, 3) := by decide +kernel
theorem dX0_renew_19 : decode cX0_renew 19 = .ok (.iload_n 2, 1) := by decide +kernel
theorem dX0_renew_20 : decode cX0_renew 20 = .ok (.iaload, 1) := by decide +kernel
theorem dX0_renew_21 : decode cX0_renew 21 = .ok (.istore_n 3, 1) := by decide +kernel
theorem dX0_renew_22 : decode cX0_renew 22 = .ok (.aload_n 0, 1) := by decide +kernel
theorem dX0_renew_23 : decode cX0_renew 23 = .ok (.iload_n 3, 1) := by decide +kernel
theorem dX0_renew_24 : decode cX0_renew 24 = .ok (.invokevirtual 48, 3) := by decide +kernel
theorem dX0_renew_27 : decode cX0_renew 27 = .ok (.istore 4, 2) := by decide +kernel
theorem dX0_renew_29 : decode cX0_renew 29 = .ok (.aload_n 0, 1) := by decide +kernel
theorem dX0_renew_30 : decode cX0_renew 30 = .ok (.getfield 18, 3) := by decide +kernel
theorem dX0_renew_33 : decode cX0_renew 33 = .ok (.iload_n 3, 1) := by decide +kernel
theorem dX0_renew_34 : decode cX0_renew 34 = .ok (.baload, 1) := by decide +kernel
theorem dX0_renew_35 : decode cX0_renew 35 = .ok (.iload 4, 2) := by decide +kernel
theorem dX0_renew_37 : decode cX0_renew 37 = .ok (.if_icmp .eq 14, 3) := by decide +kernel
theorem dX0_renew_40 : decode cX0_renew 40 = .ok (.aload_n 0, 1) := by decide +kernel
theorem dX0_renew_41 : decode cX0_renew 41 = .ok (.getfield 18, 3) := by decide +kernel
theorem dX0_renew_44 : decode cX0_renew 44 = .ok (.iload_n 3, 1) := by decide +kernel
theorem dX0_renew_45 : decode cX0_renew 45 = .ok (.iload 4, 2) := by decide +kernel
theorem dX0_renew_47 : decode cX0_renew 47 = .ok (.bastore, 1) := by decide +kernel
theorem dX0_renew_48 : decode cX0_renew 48 = .ok (.iinc 1 1, 3) := by decide +kernel
theorem dX0_renew_51 : decode cX0_renew 51 = .ok (.iinc 2 1, 3) := by decide +kernel
theorem dX0_renew_54 : decode cX0_renew 54 = .ok (.goto (-50), 3) := by decide +kernel
theorem dX0_renew_57 : decode cX0_renew 57 = .ok (.iload_n 1, 1) := by decide +kernel
theorem dX0_renew_58 : decode cX0_renew 58 = .ok (.ireturn, 1) := by decide +kernel
theorem dX0_isFree_0 : decode cX0_isFree 0 = .ok (.aload_n 0, 1) := by decide +kernel
theorem dX0_isFree_1 : decode cX0_isFree 1 = .ok (.getfield 22, 3) := by decide +kernel
theorem dX0_isFree_4 : decode cX0_isFree 4 = .ok (.iload_n 1, 1) := by decide +kernel
theorem dX0_isFree_5 : decode cX0_isFree 5 = .ok (.invokevirtual 52, 3) := by decide +kernel
theorem dX0_isFree_8 : decode cX0_isFree 8 = .ok (.istore_n 2, 1) := by decide +kernel
theorem dX0_isFree_9 : decode cX0_isFree 9 = .ok (.iconst 0, 1) := by decide +kernel
theorem dX0_isFree_10 : decode cX0_isFree 10 = .ok (.istore_n 3, 1) := by decide +kernel
theorem dX0_isFree_11 : decode cX0_isFree 11 = .ok (.iload_n 3, 1) := by decide +kernel
theorem dX0_isFree_12 : decode cX0_isFree 12 = .ok (.iload_n 2, 1) := by decide +kernel
theorem dX0_isFree_13 : decode cX0_isFree 13 = .ok (.if_icmp .ge 50, 3) := by decide +kernel
theorem dX0_isFree_16 : decode cX0_isFree 16 = .ok (.aload_n 0, 1) := by decide +kernel
theorem dX0_isFree_17 : decode cX0_isFree 17 = .ok (.getfield 22, 3) := by decide +kernel
theorem dX0_isFree_20 : decode cX0_isFree 20 = .ok (.aload_n 0, 1) := by decide +kernel
theorem dX0_isFree_21 : decode cX0_isFree 21 = .ok (.getfield 22, 3) := by decide +kernel
theorem dX0_isFree_24 : decode cX0_isFree 24 = .ok (.iload_n 1, 1) := by decide +kernel
theorem dX0_isFree_25 : decode cX0_isFree 25 = .ok (.iload_n 3, 1) := by decide +kernel
theorem dX0_isFree_26 : decode cX0_isFree 26 = .ok (.invokevirtual 56, 3) := by decide +kernel
theorem dX0_isFree_29 : decode cX0_isFree 29 = .ok (.iload_n 1, 1) := by decide +kernel
theorem dX0_isFree_30 : decode cX0_isFree 30 = .ok (.invokevirtual 60, 3) := by decide +kernel
theorem dX0_isFree_33 : decode cX0_isFree 33 = .ok (.istore 4, 2) := by decide +kernel
theorem dX0_isFree_35 : decode cX0_isFree 35 = .ok (.aload_n 0, 1) := by decide +kernel
theorem dX0_isFree_36 : decode cX0_isFree 36 = .ok (.getfield 18, 3) := by decide +kernel
theorem dX0_isFree_39 : decode cX0_isFree 39 = .ok (.iload 4, 2) := by decide +kernel
theorem dX0_isFree_41 : decode cX0_isFree 41 = .ok (.baload, 1) := by decide +kernel
theorem dX0_isFree_42 : decode cX0_isFree 42 = .ok (.ifCond .eq 15, 3) := by decide +kernel
theorem dX0_isFree_45 : decode cX0_isFree 45 = .ok (.aload_n 0, 1) := by decide +kernel
theorem dX0_isFree_46 : decode cX0_isFree 46 = .ok (.iload 4, 2) := by decide +kernel
theorem dX0_isFree_48 : decode cX0_isFree 48 = .ok (.iload_n 1, 1) := by decide +kernel
theorem dX0_isFree_49 : decode cX0_isFree 49 = .ok (.invokevirtual 44, 3) := by decide +kernel
theorem dX0_isFree_52 : decode cX0_isFree 52 = .ok (.ifCond .eq 5, 3) := by decide +kernel
theorem dX0_isFree_55 : decode cX0_isFree 55 = .ok (.iconst 0, 1) := by decide +kernel
theorem dX0_isFree_56 : decode cX0_isFree 56 = .ok (.ireturn, 1) := by decide +kernel
theorem dX0_isFree_57 : decode cX0_isFree 57 = .ok (.iinc 3 1, 3) := by decide +kernel
theorem dX0_isFree_60 : decode cX0_isFree 60 = .ok (.goto (-49), 3) := by decide +kernel
theorem dX0_isFree_63 : decode cX0_isFree 63 = .ok (.iconst 1, 1) := by decide +kernel
theorem dX0_isFree_64 : decode cX0_isFree 64 = .ok (.ireturn, 1) := by decide +kernel
theorem dX0_insert_0 : decode cX0_insert 0 = .ok (.iload_n 2, 1) := by decide +kernel
theorem dX0_insert_1 : decode cX0_insert 1 = .ok (.istore_n 3, 1) := by decide +kernel
theorem dX0_insert_2 : decode cX0_insert 2 = .ok (.iload_n 2, 1) := by decide +kernel
theorem dX0_insert_3 : decode cX0_insert 3 = .ok (.iconst 1, 1) := by decide +kernel
theorem dX0_insert_4 : decode cX0_insert 4 = .ok (.isub, 1) := by decide +kernel
theorem dX0_insert_5 : decode cX0_insert 5 = .ok (.istore 4, 2) := by decide +kernel
theorem dX0_insert_7 : decode cX0_insert 7 = .ok (.iload 4, 2) := by decide +kernel
theorem dX0_insert_9 : decode cX0_insert 9 = .ok (.ifCond .lt 43, 3) := by decide +kernel
theorem dX0_insert_12 : decode cX0_insert 12 = .ok (.aload_n 0, 1) := by decide +kernel
theorem dX0_insert_13 : decode cX0_insert 13 = .ok (.iload_n 1, 1) := by decide +kernel
theorem dX0_insert_14 : decode cX0_insert 14 = .ok (.aload_n 0, 1) := by decide +kernel
theorem dX0_insert_15 : decode cX0_insert 15 = .ok (.getfield 15, 3) := by decide +kernel
theorem dX0_insert_18 : decode cX0_insert 18 = .ok (.iload 4, 2) := by decide +kernel
theorem dX0_insert_20 : decode cX0_insert 20 = .ok (.iaload, 1) := by decide +kernel
theorem dX0_insert_21 : decode cX0_insert 21 = .ok (.invokevirtual 44, 3) := by decide +kernel
theorem dX0_insert_24 : decode cX0_insert 24 = .ok (.ifCond .eq 28, 3) := by decide +kernel
theorem dX0_insert_27 : decode cX0_insert 27 = .ok (.aload_n 0, 1) := by decide +kernel
theorem dX0_insert_28 : decode cX0_insert 28 = .ok (.getfield 15, 3) := by decide +kernel
theorem dX0_insert_31 : decode cX0_insert 31 = .ok (.iload 4, 2) := by decide +kernel
theorem dX0_insert_33 : decode cX0_insert 33 = .ok (.iconst 1, 1) := by decide +kernel
theorem dX0_insert_34 : decode cX0_insert 34 = .ok (.iadd, 1) := by decide +kernel
theorem dX0_insert_35 : decode cX0_insert 35 = .ok (.aload_n 0, 1) := by decide +kernel
theorem dX0_insert_36 : decode cX0_insert 36 = .ok (.getfield 15, 3) := by decide +kernel
theorem dX0_insert_39 : decode cX0_insert 39 = .ok (.iload 4, 2) := by decide +kernel
theorem dX0_insert_41 : decode cX0_insert 41 = .ok (.iaload, 1) := by decide +kernel
theorem dX0_insert_42 : decode cX0_insert 42 = .ok (.iastore, 1) := by decide +kernel
theorem dX0_insert_43 : decode cX0_insert 43 = .ok (.iload 4, 2) := by decide +kernel
theorem dX0_insert_45 : decode cX0_insert 45 = .ok (.istore_n 3, 1) := by decide +kernel
theorem dX0_insert_46 : decode cX0_insert 46 = .ok (.iinc 4 (-1), 3) := by decide +kernel
theorem dX0_insert_49 : decode cX0_insert 49 = .ok (.goto (-42), 3) := by decide +kernel
theorem dX0_insert_52 : decode cX0_insert 52 = .ok (.aload_n 0, 1) := by decide +kernel
theorem dX0_insert_53 : decode cX0_insert 53 = .ok (.getfield 15, 3) := by decide +kernel
theorem dX0_insert_56 : decode cX0_insert 56 = .ok (.iload_n 3, 1) := by decide +kernel
theorem dX0_insert_57 : decode cX0_insert 57 = .ok (.iload_n 1, 1) := by decide +kernel
theorem dX0_insert_58 : decode cX0_insert 58 = .ok (.iastore, 1) := by decide +kernel
theorem dX0_insert_59 : decode cX0_insert 59 = .ok (.return_, 1) := by decide +kernel
theorem dX0_isAhead_0 : decode cX0_isAhead 0 = .ok (.aload_n 0, 1) := by decide +kernel
theorem dX0_isAhead_1 : decode cX0_isAhead 1 = .ok (.getfield 9, 3) := by decide +kernel
theorem dX0_isAhead_4 : decode cX0_isAhead 4 = .ok (.iload_n 1, 1) := by decide +kernel
theorem dX0_isAhead_5 : decode cX0_isAhead 5 = .ok (.iaload, 1) := by decide +kernel
theorem dX0_isAhead_6 : decode cX0_isAhead 6 = .ok (.aload_n 0, 1) := by decide +kernel
theorem dX0_isAhead_7 : decode cX0_isAhead 7 = .ok (.getfield 9, 3) := by decide +kernel
theorem dX0_isAhead_10 : decode cX0_isAhead 10 = .ok (.iload_n 2, 1) := by decide +kernel
theorem dX0_isAhead_11 : decode cX0_isAhead 11 = .ok (.iaload, 1) := by decide +kernel
theorem dX0_isAhead_12 : decode cX0_isAhead 12 = .ok (.if_icmp .gt 23, 3) := by decide +kernel
theorem dX0_isAhead_15 : decode cX0_isAhead 15 = .ok (.aload_n 0, 1) := by decide +kernel
theorem dX0_isAhead_16 : decode cX0_isAhead 16 = .ok (.getfield 9, 3) := by decide +kernel
theorem dX0_isAhead_19 : decode cX0_isAhead 19 = .ok (.iload_n 1, 1) := by decide +kernel
theorem dX0_isAhead_20 : decode cX0_isAhead 20 = .ok (.iaload, 1) := by decide +kernel
theorem dX0_isAhead_21 : decode cX0_isAhead 21 = .ok (.aload_n 0, 1) := by decide +kernel
theorem dX0_isAhead_22 : decode cX0_isAhead 22 = .ok (.getfield 9, 3) := by decide +kernel
theorem dX0_isAhead_25 : decode cX0_isAhead 25 = .ok (.iload_n 2, 1) := by decide +kernel
theorem dX0_isAhead_26 : decode cX0_isAhead 26 = .ok (.iaload, 1) := by decide +kernel
theorem dX0_isAhead_27 : decode cX0_isAhead 27 = .ok (.if_icmp .ne 12, 3) := by decide +kernel
theorem dX0_isAhead_30 : decode cX0_isAhead 30 = .ok (.iload_n 1, 1) := by decide +kernel
theorem dX0_isAhead_31 : decode cX0_isAhead 31 = .ok (.iload_n 2, 1) := by decide +kernel
theorem dX0_isAhead_32 : decode cX0_isAhead 32 = .ok (.if_icmp .ge 7, 3) := by decide +kernel
theorem dX0_isAhead_35 : decode cX0_isAhead 35 = .ok (.iconst 1, 1) := by decide +kernel
theorem dX0_isAhead_36 : decode cX0_isAhead 36 = .ok (.goto 4, 3) := by decide +kernel
theorem dX0_isAhead_39 : decode cX0_isAhead 39 = .ok (.iconst 0, 1) := by decide +kernel
theorem dX0_isAhead_40 : decode cX0_isAhead 40 = .ok (.ireturn, 1) := by decide +kernel
theorem dX1_init_0 : decode cX1_init 0 = .ok (.aload_n 0, 1) := by decide +kernel
theorem dX1_init_1 : decode cX1_init 1 = .ok (.invokespecial 3, 3) := by decide +kernel
theorem dX1_init_4 : decode cX1_init 4 = .ok (.aload_n 0, 1) := by decide +kernel
theorem dX1_init_5 : decode cX1_init 5 = .ok (.sipush 900, 3) := by decide +kernel
theorem dX1_init_8 : decode cX1_init 8 = .ok (.newarray .int, 2) := by decide +kernel
theorem dX1_init_10 : decode cX1_init 10 = .ok (.putfield 9, 3) := by decide +kernel
theorem dX1_init_13 : decode cX1_init 13 = .ok (.aload_n 0, 1) := by decide +kernel
theorem dX1_init_14 : decode cX1_init 14 = .ok (.sipush 301, 3) := by decide +kernel
theorem dX1_init_17 : decode cX1_init 17 = .ok (.newarray .int, 2) := by decide +kernel
theorem dX1_init_19 : decode cX1_init 19 = .ok (.putfield 15, 3) := by decide +kernel
theorem dX1_init_22 : decode cX1_init 22 = .ok (.return_, 1) := by decide +kernel
theorem dX1_addNode_0 : decode cX1_addNode 0 = .ok (.aload_n 0, 1) := by decide +kernel
theorem dX1_addNode_1 : decode cX1_addNode 1 = .ok (.getfield 15, 3) := by decide +kernel
theorem dX1_addNode_4 : decode cX1_addNode 4 = .ok (.aload_n 0, 1) := by decide +kernel
theorem dX1_addNode_5 : decode cX1_addNode 5 = .ok (.getfield 18, 3) := by decide +kernel
theorem dX1_addNode_8 : decode cX1_addNode 8 = .ok (.iconst 1, 1) := by decide +kernel
theorem dX1_addNode_9 : decode cX1_addNode 9 = .ok (.iadd, 1) := by decide +kernel
theorem dX1_addNode_10 : decode cX1_addNode 10 = .ok (.aload_n 0, 1) := by decide +kernel
theorem dX1_addNode_11 : decode cX1_addNode 11 = .ok (.getfield 22, 3) := by decide +kernel
theorem dX1_addNode_14 : decode cX1_addNode 14 = .ok (.iastore, 1) := by decide +kernel
theorem dX1_addNode_15 : decode cX1_addNode 15 = .ok (.aload_n 0, 1) := by decide +kernel
theorem dX1_addNode_16 : decode cX1_addNode 16 = .ok (.dup, 1) := by decide +kernel
theorem dX1_addNode_17 : decode cX1_addNode 17 = .ok (.getfield 18, 3) := by decide +kernel
theorem dX1_addNode_20 : decode cX1_addNode 20 = .ok (.iconst 1, 1) := by decide +kernel
theorem dX1_addNode_21 : decode cX1_addNode 21 = .ok (.iadd, 1) := by decide +kernel
theorem dX1_addNode_22 : decode cX1_addNode 22 = .ok (.putfield 18, 3) := by decide +kernel
theorem dX1_addNode_25 : decode cX1_addNode 25 = .ok (.return_, 1) := by decide +kernel
theorem dX1_addArc_0 : decode cX1_addArc 0 = .ok (.aload_n 0, 1) := by decide +kernel
theorem dX1_addArc_1 : decode cX1_addArc 1 = .ok (.getfield 15, 3) := by decide +kernel
theorem dX1_addArc_4 : decode cX1_addArc 4 = .ok (.iload_n 1, 1) := by decide +kernel
theorem dX1_addArc_5 : decode cX1_addArc 5 = .ok (.iconst 1, 1) := by decide +kernel
theorem dX1_addArc_6 : decode cX1_addArc 6 = .ok (.iadd, 1) := by decide +kernel
theorem dX1_addArc_7 : decode cX1_addArc 7 = .ok (.iaload, 1) := by decide +kernel
theorem dX1_addArc_8 : decode cX1_addArc 8 = .ok (.istore_n 3, 1) := by decide +kernel
theorem dX1_addArc_9 : decode cX1_addArc 9 = .ok (.aload_n 0, 1) := by decide +kernel
theorem dX1_addArc_10 : decode cX1_addArc 10 = .ok (.getfield 22, 3) := by decide +kernel
theorem dX1_addArc_13 : decode cX1_addArc 13 = .ok (.istore 4, 2) := by decide +kernel
theorem dX1_addArc_15 : decode cX1_addArc 15 = .ok (.iload 4, 2) := by decide +kernel
theorem dX1_addArc_17 : decode cX1_addArc 17 = .ok (.iload_n 3, 1) := by decide +kernel
theorem dX1_addArc_18 : decode cX1_addArc 18 = .ok (.if_icmp .le 25, 3) := by decide +kernel
theorem dX1_addArc_21 : decode cX1_addArc 21 = .ok (.aload_n 0, 1) := by decide +kernel
theorem dX1_addArc_22 : decode cX1_addArc 22 = .ok (.getfield 9, 3) := by decide +kernel
theorem dX1_addArc_25 : decode cX1_addArc 25 = .ok (.iload 4, 2) := by decide +kernel
theorem dX1_addArc_27 : decode cX1_addArc 27 = .ok (.aload_n 0, 1) := by decide +kernel
theorem dX1_addArc_28 : decode cX1_addArc 28 = .ok (.getfield 9, 3) := by decide +kernel
theorem dX1_addArc_31 : decode cX1_addArc 31 = .ok (.iload 4, 2) := by decide +kernel
theorem dX1_addArc_33 : decode cX1_addArc 33 = .ok (.iconst 1, 1) := by decide +kernel
theorem dX1_addArc_34 : decode cX1_addArc 34 = .ok (.isub, 1) := by decide +kernel
theorem dX1_addArc_35 : decode cX1_addArc 35 = .ok (.iaload, 1) := by decide +kernel
theorem dX1_addArc_36 : decode cX1_addArc 36 = .ok (.iastore, 1) := by decide +kernel
theorem dX1_addArc_37 : decode cX1_addArc 37 = .ok (.iinc 4 (-1), 3) := by decide +kernel
theorem dX1_addArc_40 : decode cX1_addArc 40 = .ok (.goto (-25), 3) := by decide +kernel
theorem dX1_addArc_43 : decode cX1_addArc 43 = .ok (.aload_n 0, 1) := by decide +kernel
theorem dX1_addArc_44 : decode cX1_addArc 44 = .ok (.getfield 9, 3) := by decide +kernel
theorem dX1_addArc_47 : decode cX1_addArc 47 = .ok (.iload_n 3, 1) := by decide +kernel
theorem dX1_addArc_48 : decode cX1_addArc 48 = .ok (.iload_n 2, 1) := by decide +kernel
theorem dX1_addArc_49 : decode cX1_addArc 49 = .ok (.iastore, 1) := by decide +kernel
theorem dX1_addArc_50 : decode cX1_addArc 50 = .ok (.aload_n 0, 1) := by decide +kernel
theorem dX1_addArc_51 : decode cX1_addArc 51 = .ok (.dup, 1) := by decide +kernel
theorem dX1_addArc_52 : decode cX1_addArc 52 = .ok (.getfield 22, 3) := by decide +kernel
theorem dX1_addArc_55 : decode cX1_addArc 55 = .ok (.iconst 1, 1) := by decide +kernel
theorem dX1_addArc_56 : decode cX1_addArc 56 = .ok (.iadd, 1) := by decide +kernel
theorem dX1_addArc_57 : decode cX1_addArc 57 = .ok (.putfield 22, 3) := by decide +kernel
theorem dX1_addArc_60 : decode cX1_addArc 60 = .ok (.iload_n 1, 1) := by decide +kernel
theorem dX1_addArc_61 : decode cX1_addArc 61 = .ok (.iconst 1, 1) := by decide +kernel
theorem dX1_addArc_62 : decode cX1_addArc 62 = .ok (.iadd, 1) := by decide +kernel
theorem dX1_addArc_63 : decode cX1_addArc 63 = .ok (.istore 4, 2) := by decide +kernel
theorem dX1_addArc_65 : decode cX1_addArc 65 = .ok (.iload 4, 2) := by decide +kernel
theorem dX1_addArc_67 : decode cX1_addArc 67 = .ok (.aload_n 0, 1) := by decide +kernel
theorem dX1_addArc_68 : decode cX1_addArc 68 = .ok (.getfield 18, 3) := by decide +kernel
theorem dX1_addArc_71 : decode cX1_addArc 71 = .ok (.if_icmp .gt 20, 3) := by decide +kernel
theorem dX1_addArc_74 : decode cX1_addArc 74 = .ok (.aload_n 0, 1) := by decide +kernel
theorem dX1_addArc_75 : decode cX1_addArc 75 = .ok (.getfield 15, 3) := by decide +kernel
theorem dX1_addArc_78 : decode cX1_addArc 78 = .ok (.iload 4, 2) := by decide +kernel
theorem dX1_addArc_80 : decode cX1_addArc 80 = .ok (.dup2, 1) := by decide +kernel
theorem dX1_addArc_81 : decode cX1_addArc 81 = .ok (.iaload, 1) := by decide +kernel
theorem dX1_addArc_82 : decode cX1_addArc 82 = .ok (.iconst 1, 1) := by decide +kernel
theorem dX1_addArc_83 : decode cX1_addArc 83 = .ok (.iadd, 1) := by decide +kernel
theorem dX1_addArc_84 : decode cX1_addArc 84 = .ok (.iastore, 1) := by decide +kernel
theorem dX1_addArc_85 : decode cX1_addArc 85 = .ok (.iinc 4 1, 3) := by decide +kernel
theorem dX1_addArc_88 : decode cX1_addArc 88 = .ok (.goto (-23), 3) := by decide +kernel
theorem dX1_addArc_91 : decode cX1_addArc 91 = .ok (.return_, 1) := by decide +kernel
theorem dX1_removeArc_0 : decode cX1_removeArc 0 = .ok (.aload_n 0, 1) := by decide +kernel
theorem dX1_removeArc_1 : decode cX1_removeArc 1 = .ok (.aload_n 0, 1) := by decide +kernel
theorem dX1_removeArc_2 : decode cX1_removeArc 2 = .ok (.getfield 9, 3) := by decide +kernel
theorem dX1_removeArc_5 : decode cX1_removeArc 5 = .ok (.aload_n 0, 1) := by decide +kernel
theorem dX1_removeArc_6 : decode cX1_removeArc 6 = .ok (.getfield 22, 3) := by decide +kernel
theorem dX1_removeArc_9 : decode cX1_removeArc 9 = .ok (.iload_n 2, 1) := by decide +kernel
theorem dX1_removeArc_10 : decode cX1_removeArc 10 = .ok (.invokestatic 25, 3) := by decide +kernel
theorem dX1_removeArc_13 : decode cX1_removeArc 13 = .ok (.putfield 22, 3) := by decide +kernel
theorem dX1_removeArc_16 : decode cX1_removeArc 16 = .ok (.iload_n 1, 1) := by decide +kernel
theorem dX1_removeArc_17 : decode cX1_removeArc 17 = .ok (.iconst 1, 1) := by decide +kernel
theorem dX1_removeArc_18 : decode cX1_removeArc 18 = .ok (.iadd, 1) := by decide +kernel
theorem dX1_removeArc_19 : decode cX1_removeArc 19 = .ok (.istore_n 3, 1) := by decide +kernel
theorem dX1_removeArc_20 : decode cX1_removeArc 20 = .ok (.iload_n 3, 1) := by decide +kernel
theorem dX1_removeArc_21 : decode cX1_removeArc 21 = .ok (.aload_n 0, 1) := by decide +kernel
theorem dX1_removeArc_22 : decode cX1_removeArc 22 = .ok (.getfield 18, 3) := by decide +kernel
theorem dX1_removeArc_25 : decode cX1_removeArc 25 = .ok (.if_icmp .gt 19, 3) := by decide +kernel
theorem dX1_removeArc_28 : decode cX1_removeArc 28 = .ok (.aload_n 0, 1) := by decide +kernel
theorem dX1_removeArc_29 : decode cX1_removeArc 29 = .ok (.getfield 15, 3) := by decide +kernel
theorem dX1_removeArc_32 : decode cX1_removeArc 32 = .ok (.iload_n 3, 1) := by decide +kernel
theorem dX1_removeArc_33 : decode cX1_removeArc 33 = .ok (.dup2, 1) := by decide +kernel
theorem dX1_removeArc_34 : decode cX1_removeArc 34 = .ok (.iaload, 1) := by decide +kernel
theorem dX1_removeArc_35 : decode cX1_removeArc 35 = .ok (.iconst 1, 1) := by decide +kernel
theorem dX1_removeArc_36 : decode cX1_removeArc 36 = .ok (.isub, 1) := by decide +kernel
theorem dX1_removeArc_37 : decode cX1_removeArc 37 = .ok (.iastore, 1) := by decide +kernel
theorem dX1_removeArc_38 : decode cX1_removeArc 38 = .ok (.iinc 3 1, 3) := by decide +kernel
theorem dX1_removeArc_41 : decode cX1_removeArc 41 = .ok (.goto (-21), 3) := by decide +kernel
theorem dX1_removeArc_44 : decode cX1_removeArc 44 = .ok (.return_, 1) := by decide +kernel
theorem dX1_empty_0 : decode cX1_empty 0 = .ok (.aload_n 0, 1) := by decide +kernel
theorem dX1_empty_1 : decode cX1_empty 1 = .ok (.iconst 0, 1) := by decide +kernel
theorem dX1_empty_2 : decode cX1_empty 2 = .ok (.putfield 18, 3) := by decide +kernel
theorem dX1_empty_5 : decode cX1_empty 5 = .ok (.aload_n 0, 1) := by decide +kernel
theorem dX1_empty_6 : decode cX1_empty 6 = .ok (.iconst 0, 1) := by decide +kernel
theorem dX1_empty_7 : decode cX1_empty 7 = .ok (.putfield 22, 3) := by decide +kernel
theorem dX1_empty_10 : decode cX1_empty 10 = .ok (.return_, 1) := by decide +kernel
theorem dX2_init_0 : decode cX2_init 0 = .ok (.aload_n 0, 1) := by decide +kernel
theorem dX2_init_1 : decode cX2_init 1 = .ok (.invokespecial 3, 3) := by decide +kernel
theorem dX2_init_4 : decode cX2_init 4 = .ok (.aload_n 0, 1) := by decide +kernel
theorem dX2_init_5 : decode cX2_init 5 = .ok (.sipush 300, 3) := by decide +kernel
theorem dX2_init_8 : decode cX2_init 8 = .ok (.newarray .int, 2) := by decide +kernel
theorem dX2_init_10 : decode cX2_init 10 = .ok (.putfield 9, 3) := by decide +kernel
theorem dX2_init_13 : decode cX2_init 13 = .ok (.aload_n 0, 1) := by decide +kernel
theorem dX2_init_14 : decode cX2_init 14 = .ok (.sipush 300, 3) := by decide +kernel
theorem dX2_init_17 : decode cX2_init 17 = .ok (.newarray .int, 2) := by decide +kernel
theorem dX2_init_19 : decode cX2_init 19 = .ok (.putfield 15, 3) := by decide +kernel
theorem dX2_init_22 : decode cX2_init 22 = .ok (.aload_n 0, 1) := by decide +kernel
theorem dX2_init_23 : decode cX2_init 23 = .ok (.sipush 300, 3) := by decide +kernel
theorem dX2_init_26 : decode cX2_init 26 = .ok (.newarray .int, 2) := by decide +kernel
theorem dX2_init_28 : decode cX2_init 28 = .ok (.putfield 18, 3) := by decide +kernel
theorem dX2_init_31 : decode cX2_init 31 = .ok (.aload_n 0, 1) := by decide +kernel
theorem dX2_init_32 : decode cX2_init 32 = .ok (.sipush 300, 3) := by decide +kernel
theorem dX2_init_35 : decode cX2_init 35 = .ok (.newarray .boolean, 2) := by decide +kernel
theorem dX2_init_37 : decode cX2_init 37 = .ok (.putfield 21, 3) := by decide +kernel
theorem dX2_init_40 : decode cX2_init 40 = .ok (.return_, 1) := by decide +kernel
theorem dX2_begin_0 : decode cX2_begin 0 = .ok (.iconst 0, 1) := by decide +kernel
theorem dX2_begin_1 : decode cX2_begin 1 = .ok (.istore_n 2, 1) := by decide +kernel
theorem dX2_begin_2 : decode cX2_begin 2 = .ok (.iload_n 2, 1) := by decide +kernel
theorem dX2_begin_3 : decode cX2_begin 3 = .ok (.iload_n 1, 1) := by decide +kernel
theorem dX2_begin_4 : decode cX2_begin 4 = .ok (.if_icmp .ge 37, 3) := by decide +kernel
theorem dX2_begin_7 : decode cX2_begin 7 = .ok (.aload_n 0, 1) := by decide +kernel
theorem dX2_begin_8 : decode cX2_begin 8 = .ok (.getfield 9, 3) := by decide +kernel
theorem dX2_begin_11 : decode cX2_begin 11 = .ok (.iload_n 2, 1) := by decide +kernel
theorem dX2_begin_12 : decode cX2_begin 12 = .ok (.iload_n 2, 1) := by decide +kernel
theorem dX2_begin_13 : decode cX2_begin 13 = .ok (.iastore, 1) := by decide +kernel
theorem dX2_begin_14 : decode cX2_begin 14 = .ok (.aload_n 0, 1) := by decide +kernel
theorem dX2_begin_15 : decode cX2_begin 15 = .ok (.getfield 15, 3) := by decide +kernel
theorem dX2_begin_18 : decode cX2_begin 18 = .ok (.iload_n 2, 1) := by decide +kernel
theorem dX2_begin_19 : decode cX2_begin 19 = .ok (.iconst 0, 1) := by decide +kernel
theorem dX2_begin_20 : decode cX2_begin 20 = .ok (.iastore, 1) := by decide +kernel
theorem dX2_begin_21 : decode cX2_begin 21 = .ok (.aload_n 0, 1) := by decide +kernel
theorem dX2_begin_22 : decode cX2_begin 22 = .ok (.getfield 18, 3) := by decide +kernel
theorem dX2_begin_25 : decode cX2_begin 25 = .ok (.iload_n 2, 1) := by decide +kernel
theorem dX2_begin_26 : decode cX2_begin 26 = .ok (.iconst 1, 1) := by decide +kernel
theorem dX2_begin_27 : decode cX2_begin 27 = .ok (.iastore, 1) := by decide +kernel
theorem dX2_begin_28 : decode cX2_begin 28 = .ok (.aload_n 0, 1) := by decide +kernel
theorem dX2_begin_29 : decode cX2_begin 29 = .ok (.getfield 21, 3) := by decide +kernel
theorem dX2_begin_32 : decode cX2_begin 32 = .ok (.iload_n 2, 1) := by decide +kernel
theorem dX2_begin_33 : decode cX2_begin 33 = .ok (.iconst 0, 1) := by decide +kernel
theorem dX2_begin_34 : decode cX2_begin 34 = .ok (.bastore, 1) := by decide +kernel
theorem dX2_begin_35 : decode cX2_begin 35 = .ok (.iinc 2 1, 3) := by decide +kernel
theorem dX2_begin_38 : decode cX2_begin 38 = .ok (.goto (-36), 3) := by decide +kernel
theorem dX2_begin_41 : decode cX2_begin 41 = .ok (.aload_n 0, 1) := by decide +kernel
theorem dX2_begin_42 : decode cX2_begin 42 = .ok (.iload_n 1, 1) := by decide +kernel
theorem dX2_begin_43 : decode cX2_begin 43 = .ok (.putfield 25, 3) := by decide +kernel
theorem dX2_begin_46 : decode cX2_begin 46 = .ok (.aload_n 0, 1) := by decide +kernel
theorem dX2_begin_47 : decode cX2_begin 47 = .ok (.iload_n 1, 1) := by decide +kernel
theorem dX2_begin_48 : decode cX2_begin 48 = .ok (.putfield 29, 3) := by decide +kernel
theorem dX2_begin_51 : decode cX2_begin 51 = .ok (.aload_n 0, 1) := by decide +kernel
theorem dX2_begin_52 : decode cX2_begin 52 = .ok (.iload_n 1, 1) := by decide +kernel
theorem dX2_begin_53 : decode cX2_begin 53 = .ok (.iconst 1, 1) := by decide +kernel
theorem dX2_begin_54 : decode cX2_begin 54 = .ok (.invokestatic 32, 3) := by decide +kernel
theorem dX2_begin_57 : decode cX2_begin 57 = .ok (.putfield 38, 3) := by decide +kernel
theorem dX2_begin_60 : decode cX2_begin 60 = .ok (.return_, 1) := by decide +kernel
theorem dX2_together_0 : decode cX2_together 0 = .ok (.aload_n 0, 1) := by decide +kernel
theorem dX2_together_1 : decode cX2_together 1 = .ok (.iload_n 1, 1) := by decide +kernel
theorem dX2_together_2 : decode cX2_together 2 = .ok (.invokevirtual 41, 3) := by decide +kernel
theorem dX2_together_5 : decode cX2_together 5 = .ok (.aload_n 0, 1) := by decide +kernel
theorem dX2_together_6 : decode cX2_together 6 = .ok (.iload_n 2, 1) := by decide +kernel
theorem dX2_together_7 : decode cX2_together 7 = .ok (.invokevirtual 41, 3) := by decide +kernel
theorem dX2_together_10 : decode cX2_together 10 = .ok (.if_icmp .ne 7, 3) := by decide +kernel
theorem dX2_together_13 : decode cX2_together 13 = .ok (.iconst 1, 1) := by decide +kernel
theorem dX2_together_14 : decode cX2_together 14 = .ok (.goto 4, 3) := by decide +kernel
theorem dX2_together_17 : decode cX2_together 17 = .ok (.iconst 0, 1) := by decide +kernel
theorem dX2_together_18 : decode cX2_together 18 = .ok (.ireturn, 1) := by decide +kernel
theorem dX2_join_0 : decode cX2_join 0 = .ok (.aload_n 0, 1) := by decide +kernel
theorem dX2_join_1 : decode cX2_join 1 = .ok (.iload_n 1, 1) := by decide +kernel
theorem dX2_join_2 : decode cX2_join 2 = .ok (.invokevirtual 41, 3) := by decide +kernel
theorem dX2_join_5 : decode cX2_join 5 = .ok (.istore_n 3, 1) := by decide +kernel
theorem dX2_join_6 : decode cX2_join 6 = .ok (.aload_n 0, 1) := by decide +kernel
theorem dX2_join_7 : decode cX2_join 7 = .ok (.iload_n 2, 1) := by decide +kernel
theorem dX2_join_8 : decode cX2_join 8 = .ok (.invokevirtual 41, 3) := by decide +kernel
theorem dX2_join_11 : decode cX2_join 11 = .ok (.istore 4, 2) := by decide +kernel
theorem dX2_join_13 : decode cX2_join 13 = .ok (.aload_n 0, 1) := by decide +kernel
theorem dX2_join_14 : decode cX2_join 14 = .ok (.iload_n 1, 1) := by decide +kernel
theorem dX2_join_15 : decode cX2_join 15 = .ok (.invokevirtual 45, 3) := by decide +kernel
theorem dX2_join_18 : decode cX2_join 18 = .ok (.aload_n 0, 1) := by decide +kernel
theorem dX2_join_19 : decode cX2_join 19 = .ok (.iload_n 2, 1) := by decide +kernel
theorem dX2_join_20 : decode cX2_join 20 = .ok (.invokevirtual 45, 3) := by decide +kernel
theorem dX2_join_23 : decode cX2_join 23 = .ok (.ixor, 1) := by decide +kernel
theorem dX2_join_24 : decode cX2_join 24 = .ok (.iconst 1, 1) := by decide +kernel
theorem dX2_join_25 : decode cX2_join 25 = .ok (.ixor, 1) := by decide +kernel
theorem dX2_join_26 : decode cX2_join 26 = .ok (.istore 5, 2) := by decide +kernel
theorem dX2_join_28 : decode cX2_join 28 = .ok (.iload_n 3, 1) := by decide +kernel
theorem dX2_join_29 : decode cX2_join 29 = .ok (.iload 4, 2) := by decide +kernel
theorem dX2_join_31 : decode cX2_join 31 = .ok (.if_icmp .ne 37, 3) := by decide +kernel
theorem dX2_join_34 : decode cX2_join 34 = .ok (.iload 5, 2) := by decide +kernel
theorem dX2_join_36 : decode cX2_join 36 = .ok (.iconst 1, 1) := by decide +kernel
theorem dX2_join_37 : decode cX2_join 37 = .ok (.if_icmp .ne 29, 3) := by decide +kernel
theorem dX2_join_40 : decode cX2_join 40 = .ok (.aload_n 0, 1) := by decide +kernel
theorem dX2_join_41 : decode cX2_join 41 = .ok (.getfield 21, 3) := by decide +kernel
theorem dX2_join_44 : decode cX2_join 44 = .ok (.iload_n 3, 1) := by decide +kernel
theorem dX2_join_45 : decode cX2_join 45 = .ok (.baload, 1) := by decide +kernel
theorem dX2_join_46 : decode cX2_join 46 = .ok (.ifCond .ne 20, 3) := by decide +kernel
theorem dX2_join_49 : decode cX2_join 49 = .ok (.aload_n 0, 1) := by decide +kernel
theorem dX2_join_50 : decode cX2_join 50 = .ok (.getfield 21, 3) := by decide +kernel
theorem dX2_join_53 : decode cX2_join 53 = .ok (.iload_n 3, 1) := by decide +kernel
theorem dX2_join_54 : decode cX2_join 54 = .ok (.iconst 1, 1) := by decide +kernel
theorem dX2_join_55 : decode cX2_join 55 = .ok (.bastore, 1) := by decide +kernel
theorem dX2_join_56 : decode cX2_join 56 = .ok (.aload_n 0, 1) := by decide +kernel
theorem dX2_join_57 : decode cX2_join 57 = .ok (.dup, 1) := by decide +kernel
theorem dX2_join_58 : decode cX2_join 58 = .ok (.getfield 29, 3) := by decide +kernel
theorem dX2_join_61 : decode cX2_join 61 = .ok (.iconst 1, 1) := by decide +kernel
theorem dX2_join_62 : decode cX2_join 62 = .ok (.isub, 1) := by decide +kernel
theorem dX2_join_63 : decode cX2_join 63 = .ok (.putfield 29, 3) := by decide +kernel
theorem dX2_join_66 : decode cX2_join 66 = .ok (.iconst 0, 1) := by decide +kernel
theorem dX2_join_67 : decode cX2_join 67 = .ok (.ireturn, 1) := by decide +kernel
theorem dX2_join_68 : decode cX2_join 68 = .ok (.aload_n 0, 1) := by decide +kernel
theorem dX2_join_69 : decode cX2_join 69 = .ok (.getfield 18, 3) := by decide +kernel
theorem dX2_join_72 : decode cX2_join 72 = .ok (.iload_n 3, 1) := by decide +kernel
theorem dX2_join_73 : decode cX2_join 73 = .ok (.iaload, 1) := by decide +kernel
theorem dX2_join_74 : decode cX2_join 74 = .ok (.aload_n 0, 1) := by decide +kernel
theorem dX2_join_75 : decode cX2_join 75 = .ok (.getfield 18, 3) := by decide +kernel
theorem dX2_join_78 : decode cX2_join 78 = .ok (.iload 4, 2) := by decide +kernel
theorem dX2_join_80 : decode cX2_join 80 = .ok (.iaload, 1) := by decide +kernel
theorem dX2_join_81 : decode cX2_join 81 = .ok (.if_icmp .lt 7, 3) := by decide +kernel
theorem dX2_join_84 : decode cX2_join 84 = .ok (.iconst 1, 1) := by decide +kernel
theorem dX2_join_85 : decode cX2_join 85 = .ok (.goto 4, 3) := by decide +kernel
theorem dX2_join_88 : decode cX2_join 88 = .ok (.iconst 0, 1) := by decide +kernel
theorem dX2_join_89 : decode cX2_join 89 = .ok (.istore 6, 2) := by decide +kernel
theorem dX2_join_91 : decode cX2_join 91 = .ok (.aload_n 0, 1) := by decide +kernel
theorem dX2_join_92 : decode cX2_join 92 = .ok (.iload 6, 2) := by decide +kernel
theorem dX2_join_94 : decode cX2_join 94 = .ok (.ifCond .eq 8, 3) := by decide +kernel
theorem dX2_join_97 : decode cX2_join 97 = .ok (.iload 4, 2) := by decide +kernel
theorem dX2_join_99 : decode cX2_join 99 = .ok (.goto 4, 3) := by decide +kernel
theorem dX2_join_102 : decode cX2_join 102 = .ok (.iload_n 3, 1) := by decide +kernel
theorem dX2_join_103 : decode cX2_join 103 = .ok (.iload 6, 2) := by decide +kernel
theorem dX2_join_105 : decode cX2_join 105 = .ok (.ifCond .eq 7, 3) := by decide +kernel
theorem dX2_join_108 : decode cX2_join 108 = .ok (.iload_n 3, 1) := by decide +kernel
theorem dX2_join_109 : decode cX2_join 109 = .ok (.goto 5, 3) := by decide +kernel
theorem dX2_join_112 : decode cX2_join 112 = .ok (.iload 4, 2) := by decide +kernel
theorem dX2_join_114 : decode cX2_join 114 = .ok (.iload 5, 2) := by decide +kernel
theorem dX2_join_116 : decode cX2_join 116 = .ok (.invokevirtual 48, 3) := by decide +kernel
theorem dX2_join_119 : decode cX2_join 119 = .ok (.iconst 1, 1) := by decide +kernel
theorem dX2_join_120 : decode cX2_join 120 = .ok (.ireturn, 1) := by decide +kernel
theorem dX2_hang_0 : decode cX2_hang 0 = .ok (.aload_n 0, 1) := by decide +kernel
theorem dX2_hang_1 : decode cX2_hang 1 = .ok (.getfield 21, 3) := by decide +kernel
theorem dX2_hang_4 : decode cX2_hang 4 = .ok (.iload_n 1, 1) := by decide +kernel
theorem dX2_hang_5 : decode cX2_hang 5 = .ok (.baload, 1) := by decide +kernel
theorem dX2_hang_6 : decode cX2_hang 6 = .ok (.ifCond .eq 12, 3) := by decide +kernel
theorem dX2_hang_9 : decode cX2_hang 9 = .ok (.aload_n 0, 1) := by decide +kernel
theorem dX2_hang_10 : decode cX2_hang 10 = .ok (.getfield 21, 3) := by decide +kernel
theorem dX2_hang_13 : decode cX2_hang 13 = .ok (.iload_n 2, 1) := by decide +kernel
theorem dX2_hang_14 : decode cX2_hang 14 = .ok (.baload, 1) := by decide +kernel
theorem dX2_hang_15 : decode cX2_hang 15 = .ok (.ifCond .ne 13, 3) := by decide +kernel
theorem dX2_hang_18 : decode cX2_hang 18 = .ok (.aload_n 0, 1) := by decide +kernel
theorem dX2_hang_19 : decode cX2_hang 19 = .ok (.dup, 1) := by decide +kernel
theorem dX2_hang_20 : decode cX2_hang 20 = .ok (.getfield 29, 3) := by decide +kernel
theorem dX2_hang_23 : decode cX2_hang 23 = .ok (.iconst 1, 1) := by decide +kernel
theorem dX2_hang_24 : decode cX2_hang 24 = .ok (.isub, 1) := by decide +kernel
theorem dX2_hang_25 : decode cX2_hang 25 = .ok (.putfield 29, 3) := by decide +kernel
theorem dX2_hang_28 : decode cX2_hang 28 = .ok (.aload_n 0, 1) := by decide +kernel
theorem dX2_hang_29 : decode cX2_hang 29 = .ok (.dup, 1) := by decide +kernel
theorem dX2_hang_30 : decode cX2_hang 30 = .ok (.getfield 25, 3) := by decide +kernel
theorem dX2_hang_33 : decode cX2_hang 33 = .ok (.iconst 1, 1) := by decide +kernel
theorem dX2_hang_34 : decode cX2_hang 34 = .ok (.isub, 1) := by decide +kernel
theorem dX2_hang_35 : decode cX2_hang 35 = .ok (.putfield 25, 3) := by decide +kernel
theorem dX2_hang_38 : decode cX2_hang 38 = .ok (.aload_n 0, 1) := by decide +kernel
theorem dX2_hang_39 : decode cX2_hang 39 = .ok (.getfield 9, 3) := by decide +kernel
theorem dX2_hang_42 : decode cX2_hang 42 = .ok (.iload_n 1, 1) := by decide +kernel
theorem dX2_hang_43 : decode cX2_hang 43 = .ok (.iload_n 2, 1) := by decide +kernel
theorem dX2_hang_44 : decode cX2_hang 44 = .ok (.iastore, 1) := by decide +kernel
theorem dX2_hang_45 : decode cX2_hang 45 = .ok (.aload_n 0, 1) := by decide +kernel
theorem dX2_hang_46 : decode cX2_hang 46 = .ok (.getfield 15, 3) := by decide +kernel
theorem dX2_hang_49 : decode cX2_hang 49 = .ok (.iload_n 1, 1) := by decide +kernel
theorem dX2_hang_50 : decode cX2_hang 50 = .ok (.iload_n 3, 1) := by decide +kernel
theorem dX2_hang_51 : decode cX2_hang 51 = .ok (.iastore, 1) := by decide +kernel
theorem dX2_hang_52 : decode cX2_hang 52 = .ok (.aload_n 0, 1) := by decide +kernel
theorem dX2_hang_53 : decode cX2_hang 53 = .ok (.getfield 18, 3) := by decide +kernel
theorem dX2_hang_56 : decode cX2_hang 56 = .ok (.iload_n 2, 1) := by decide +kernel
theorem dX2_hang_57 : decode cX2_hang 57 = .ok (.dup2, 1) := by decide +kernel
theorem dX2_hang_58 : decode cX2_hang 58 = .ok (.iaload, 1) := by decide +kernel
theorem dX2_hang_59 : decode cX2_hang 59 = .ok (.aload_n 0, 1) := by decide +kernel
theorem dX2_hang_60 : decode cX2_hang 60 = .ok (.getfield 18, 3) := by decide +kernel
theorem dX2_hang_63 : decode cX2_hang 63 = .ok (.iload_n 1, 1) := by decide +kernel
theorem dX2_hang_64 : decode cX2_hang 64 = .ok (.iaload, 1) := by decide +kernel
theorem dX2_hang_65 : decode cX2_hang 65 = .ok (.iadd, 1) := by decide +kernel
theorem dX2_hang_66 : decode cX2_hang 66 = .ok (.iastore, 1) := by decide +kernel
theorem dX2_hang_67 : decode cX2_hang 67 = .ok (.aload_n 0, 1) := by decide +kernel
theorem dX2_hang_68 : decode cX2_hang 68 = .ok (.getfield 21, 3) := by decide +kernel
theorem dX2_hang_71 : decode cX2_hang 71 = .ok (.iload_n 2, 1) := by decide +kernel
theorem dX2_hang_72 : decode cX2_hang 72 = .ok (.aload_n 0, 1) := by decide +kernel
theorem dX2_hang_73 : decode cX2_hang 73 = .ok (.getfield 21, 3) := by decide +kernel
theorem dX2_hang_76 : decode cX2_hang 76 = .ok (.iload_n 2, 1) := by decide +kernel
theorem dX2_hang_77 : decode cX2_hang 77 = .ok (.baload, 1) := by decide +kernel
theorem dX2_hang_78 : decode cX2_hang 78 = .ok (.ifCond .ne 12, 3) := by decide +kernel
theorem dX2_hang_81 : decode cX2_hang 81 = .ok (.aload_n 0, 1) := by decide +kernel
theorem dX2_hang_82 : decode cX2_hang 82 = .ok (.getfield 21, 3) := by decide +kernel
theorem dX2_hang_85 : decode cX2_hang 85 = .ok (.iload_n 1, 1) := by decide +kernel
theorem dX2_hang_86 : decode cX2_hang 86 = .ok (.baload, 1) := by decide +kernel
theorem dX2_hang_87 : decode cX2_hang 87 = .ok (.ifCond .eq 7, 3) := by decide +kernel
theorem dX2_hang_90 : decode cX2_hang 90 = .ok (.iconst 1, 1) := by decide +kernel
theorem dX2_hang_91 : decode cX2_hang 91 = .ok (.goto 4, 3) := by decide +kernel
theorem dX2_hang_94 : decode cX2_hang 94 = .ok (.iconst 0, 1) := by decide +kernel
theorem dX2_hang_95 : decode cX2_hang 95 = .ok (.bastore, 1) := by decide +kernel
theorem dX2_hang_96 : decode cX2_hang 96 = .ok (.aload_n 0, 1) := by decide +kernel
theorem dX2_hang_97 : decode cX2_hang 97 = .ok (.aload_n 0, 1) := by decide +kernel
theorem dX2_hang_98 : decode cX2_hang 98 = .ok (.getfield 38, 3) := by decide +kernel
theorem dX2_hang_101 : decode cX2_hang 101 = .ok (.aload_n 0, 1) := by decide +kernel
theorem dX2_hang_102 : decode cX2_hang 102 = .ok (.getfield 18, 3) := by decide +kernel
theorem dX2_hang_105 : decode cX2_hang 105 = .ok (.iload_n 2, 1) := by decide +kernel
theorem dX2_hang_106 : decode cX2_hang 106 = .ok (.iaload, 1) := by decide +kernel
theorem dX2_hang_107 : decode cX2_hang 107 = .ok (.invokestatic 52, 3) := by decide +kernel
theorem dX2_hang_110 : decode cX2_hang 110 = .ok (.putfield 38, 3) := by decide +kernel
theorem dX2_hang_113 : decode cX2_hang 113 = .ok (.return_, 1) := by decide +kernel
theorem dX2_headOf_0 : decode cX2_headOf 0 = .ok (.iload_n 1, 1) := by decide +kernel
theorem dX2_headOf_1 : decode cX2_headOf 1 = .ok (.istore_n 2, 1) := by decide +kernel
theorem dX2_headOf_2 : decode cX2_headOf 2 = .ok (.iconst 0, 1) := by decide +kernel
theorem dX2_headOf_3 : decode cX2_headOf 3 = .ok (.istore_n 3, 1) := by decide +kernel
theorem dX2_headOf_4 : decode cX2_headOf 4 = .ok (.iload_n 3, 1) := by decide +kernel
theorem dX2_headOf_5 : decode cX2_headOf 5 = .ok (.sipush 300, 3) := by decide +kernel
theorem dX2_headOf_8 : decode cX2_headOf 8 = .ok (.if_icmp .ge 26, 3) := by decide +kernel
theorem dX2_headOf_11 : decode cX2_headOf 11 = .ok (.aload_n 0, 1) := by decide +kernel
theorem dX2_headOf_12 : decode cX2_headOf 12 = .ok (.getfield 9, 3) := by decide +kernel
theorem dX2_headOf_15 : decode cX2_headOf 15 = .ok (.iload_n 2, 1) := by decide +kernel
theorem dX2_headOf_16 : decode cX2_headOf 16 = .ok (.iaload, 1) := by decide +kernel
theorem dX2_headOf_17 : decode cX2_headOf 17 = .ok (.iload_n 2, 1) := by decide +kernel
theorem dX2_headOf_18 : decode cX2_headOf 18 = .ok (.if_icmp .eq 16, 3) := by decide +kernel
theorem dX2_headOf_21 : decode cX2_headOf 21 = .ok (.aload_n 0, 1) := by decide +kernel
theorem dX2_headOf_22 : decode cX2_headOf 22 = .ok (.getfield 9, 3) := by decide +kernel
theorem dX2_headOf_25 : decode cX2_headOf 25 = .ok (.iload_n 2, 1) := by decide +kernel
theorem dX2_headOf_26 : decode cX2_headOf 26 = .ok (.iaload, 1) := by decide +kernel
theorem dX2_headOf_27 : decode cX2_headOf 27 = .ok (.istore_n 2, 1) := by decide +kernel
theorem dX2_headOf_28 : decode cX2_headOf 28 = .ok (.iinc 3 1, 3) := by decide +kernel
theorem dX2_headOf_31 : decode cX2_headOf 31 = .ok (.goto (-27), 3) := by decide +kernel
theorem dX2_headOf_34 : decode cX2_headOf 34 = .ok (.iload_n 2, 1) := by decide +kernel
theorem dX2_headOf_35 : decode cX2_headOf 35 = .ok (.ireturn, 1) := by decide +kernel
theorem dX2_sideOf_0 : decode cX2_sideOf 0 = .ok (.iload_n 1, 1) := by decide +kernel
theorem dX2_sideOf_1 : decode cX2_sideOf 1 = .ok (.istore_n 2, 1) := by decide +kernel
theorem dX2_sideOf_2 : decode cX2_sideOf 2 = .ok (.iconst 0, 1) := by decide +kernel
theorem dX2_sideOf_3 : decode cX2_sideOf 3 = .ok (.istore_n 3, 1) := by decide +kernel
theorem dX2_sideOf_4 : decode cX2_sideOf 4 = .ok (.iconst 0, 1) := by decide +kernel
theorem dX2_sideOf_5 : decode cX2_sideOf 5 = .ok (.istore 4, 2) := by decide +kernel
theorem dX2_sideOf_7 : decode cX2_sideOf 7 = .ok (.iload 4, 2) := by decide +kernel
theorem dX2_sideOf_9 : decode cX2_sideOf 9 = .ok (.sipush 300, 3) := by decide +kernel
theorem dX2_sideOf_12 : decode cX2_sideOf 12 = .ok (.if_icmp .ge 35, 3) := by decide +kernel
theorem dX2_sideOf_15 : decode cX2_sideOf 15 = .ok (.aload_n 0, 1) := by decide +kernel
theorem dX2_sideOf_16 : decode cX2_sideOf 16 = .ok (.getfield 9, 3) := by decide +kernel
theorem dX2_sideOf_19 : decode cX2_sideOf 19 = .ok (.iload_n 2, 1) := by decide +kernel
theorem dX2_sideOf_20 : decode cX2_sideOf 20 = .ok (.iaload, 1) := by decide +kernel
theorem dX2_sideOf_21 : decode cX2_sideOf 21 = .ok (.iload_n 2, 1) := by decide +kernel
theorem dX2_sideOf_22 : decode cX2_sideOf 22 = .ok (.if_icmp .eq 25, 3) := by decide +kernel
theorem dX2_sideOf_25 : decode cX2_sideOf 25 = .ok (.iload_n 3, 1) := by decide +kernel
theorem dX2_sideOf_26 : decode cX2_sideOf 26 = .ok (.aload_n 0, 1) := by decide +kernel
theorem dX2_sideOf_27 : decode cX2_sideOf 27 = .ok (.getfield 15, 3) := by decide +kernel
theorem dX2_sideOf_30 : decode cX2_sideOf 30 = .ok (.iload_n 2, 1) := by decide +kernel
theorem dX2_sideOf_31 : decode cX2_sideOf 31 = .ok (.iaload, 1) := by decide +kernel
theorem dX2_sideOf_32 : decode cX2_sideOf 32 = .ok (.ixor, 1) := by decide +kernel
theorem dX2_sideOf_33 : decode cX2_sideOf 33 = .ok (.istore_n 3, 1) := by decide +kernel
theorem dX2_sideOf_34 : decode cX2_sideOf 34 = .ok (.aload_n 0, 1) := by decide +kernel
theorem dX2_sideOf_35 : decode cX2_sideOf 35 = .ok (.getfield 9, 3) := by decide +kernel
theorem dX2_sideOf_38 : decode cX2_sideOf 38 = .ok (.iload_n 2, 1) := by decide +kernel
theorem dX2_sideOf_39 : decode cX2_sideOf 39 = .ok (.iaload, 1) := by decide +kernel
theorem dX2_sideOf_40 : decode cX2_sideOf 40 = .ok (.istore_n 2, 1) := by decide +kernel
theorem dX2_sideOf_41 : decode cX2_sideOf 41 = .ok (.iinc 4 1, 3) := by decide +kernel
theorem dX2_sideOf_44 : decode cX2_sideOf 44 = .ok (.goto (-37), 3) := by decide +kernel
theorem dX2_sideOf_47 : decode cX2_sideOf 47 = .ok (.iload_n 3, 1) := by decide +kernel
theorem dX2_sideOf_48 : decode cX2_sideOf 48 = .ok (.ireturn, 1) := by decide +kernel
theorem dX3_init_0 : decode cX3_init 0 = .ok (.aload_n 0, 1) := by decide +kernel
theorem dX3_init_1 : decode cX3_init 1 = .ok (.invokespecial 3, 3) := by decide +kernel
theorem dX3_init_4 : decode cX3_init 4 = .ok (.aload_n 0, 1) := by decide +kernel
theorem dX3_init_5 : decode cX3_init 5 = .ok (.sipush 300, 3) := by decide +kernel
theorem dX3_init_8 : decode cX3_init 8 = .ok (.newarray .boolean, 2) := by decide +kernel
theorem dX3_init_10 : decode cX3_init 10 = .ok (.putfield 9, 3) := by decide +kernel
theorem dX3_init_13 : decode cX3_init 13 = .ok (.aload_n 0, 1) := by decide +kernel
theorem dX3_init_14 : decode cX3_init 14 = .ok (.aload_n 1, 1) := by decide +kernel
theorem dX3_init_15 : decode cX3_init 15 = .ok (.putfield 15, 3) := by decide +kernel
theorem dX3_init_18 : decode cX3_init 18 = .ok (.aload_n 0, 1) := by decide +kernel
theorem dX3_init_19 : decode cX3_init 19 = .ok (.aload_n 2, 1) := by decide +kernel
theorem dX3_init_20 : decode cX3_init 20 = .ok (.putfield 19, 3) := by decide +kernel
theorem dX3_init_23 : decode cX3_init 23 = .ok (.return_, 1) := by decide +kernel
theorem dX3_has_0 : decode cX3_has 0 = .ok (.aload_n 0, 1) := by decide +kernel
theorem dX3_has_1 : decode cX3_has 1 = .ok (.getfield 19, 3) := by decide +kernel
theorem dX3_has_4 : decode cX3_has 4 = .ok (.getfield 23, 3) := by decide +kernel
theorem dX3_has_7 : decode cX3_has 7 = .ok (.aload_n 0, 1) := by decide +kernel
theorem dX3_has_8 : decode cX3_has 8 = .ok (.getfield 15, 3) := by decide +kernel
theorem dX3_has_11 : decode cX3_has 11 = .ok (.getfield 29, 3) := by decide +kernel
theorem dX3_has_14 : decode cX3_has 14 = .ok (.iload_n 1, 1) := by decide +kernel
theorem dX3_has_15 : decode cX3_has 15 = .ok (.iaload, 1) := by decide +kernel
theorem dX3_has_16 : decode cX3_has 16 = .ok (.iaload, 1) := by decide +kernel
theorem dX3_has_17 : decode cX3_has 17 = .ok (.aload_n 0, 1) := by decide +kernel
theorem dX3_has_18 : decode cX3_has 18 = .ok (.getfield 19, 3) := by decide +kernel
theorem dX3_has_21 : decode cX3_has 21 = .ok (.getfield 23, 3) := by decide +kernel
theorem dX3_has_24 : decode cX3_has 24 = .ok (.aload_n 0, 1) := by decide +kernel
theorem dX3_has_25 : decode cX3_has 25 = .ok (.getfield 15, 3) := by decide +kernel
theorem dX3_has_28 : decode cX3_has 28 = .ok (.getfield 34, 3) := by decide +kernel
theorem dX3_has_31 : decode cX3_has 31 = .ok (.iload_n 1, 1) := by decide +kernel
theorem dX3_has_32 : decode cX3_has 32 = .ok (.iaload, 1) := by decide +kernel
theorem dX3_has_33 : decode cX3_has 33 = .ok (.iaload, 1) := by decide +kernel
theorem dX3_has_34 : decode cX3_has 34 = .ok (.iadd, 1) := by decide +kernel
theorem dX3_has_35 : decode cX3_has 35 = .ok (.istore_n 2, 1) := by decide +kernel
theorem dX3_has_36 : decode cX3_has 36 = .ok (.aload_n 0, 1) := by decide +kernel
theorem dX3_has_37 : decode cX3_has 37 = .ok (.getfield 19, 3) := by decide +kernel
theorem dX3_has_40 : decode cX3_has 40 = .ok (.getfield 37, 3) := by decide +kernel
theorem dX3_has_43 : decode cX3_has 43 = .ok (.iload_n 1, 1) := by decide +kernel
theorem dX3_has_44 : decode cX3_has 44 = .ok (.baload, 1) := by decide +kernel
theorem dX3_has_45 : decode cX3_has 45 = .ok (.ifCond .ne 13, 3) := by decide +kernel
theorem dX3_has_48 : decode cX3_has 48 = .ok (.iload_n 2, 1) := by decide +kernel
theorem dX3_has_49 : decode cX3_has 49 = .ok (.iconst 1, 1) := by decide +kernel
theorem dX3_has_50 : decode cX3_has 50 = .ok (.iand, 1) := by decide +kernel
theorem dX3_has_51 : decode cX3_has 51 = .ok (.ifCond .ne 7, 3) := by decide +kernel
theorem dX3_has_54 : decode cX3_has 54 = .ok (.iconst 1, 1) := by decide +kernel
theorem dX3_has_55 : decode cX3_has 55 = .ok (.goto 4, 3) := by decide +kernel
theorem dX3_has_58 : decode cX3_has 58 = .ok (.iconst 0, 1) := by decide +kernel
theorem dX3_has_59 : decode cX3_has 59 = .ok (.ireturn, 1) := by decide +kernel
theorem dX3_leastIn_0 : decode cX3_leastIn 0 = .ok (.iconst 0, 1) := by decide +kernel
theorem dX3_leastIn_1 : decode cX3_leastIn 1 = .ok (.istore_n 2, 1) := by decide +kernel
theorem dX3_leastIn_2 : decode cX3_leastIn 2 = .ok (.iload_n 2, 1) := by decide +kernel
theorem dX3_leastIn_3 : decode cX3_leastIn 3 = .ok (.aload_n 0, 1) := by decide +kernel
theorem dX3_leastIn_4 : decode cX3_leastIn 4 = .ok (.getfield 15, 3) := by decide +kernel
theorem dX3_leastIn_7 : decode cX3_leastIn 7 = .ok (.getfield 40, 3) := by decide +kernel
theorem dX3_leastIn_10 : decode cX3_leastIn 10 = .ok (.if_icmp .ge 49, 3) := by decide +kernel
theorem dX3_leastIn_13 : decode cX3_leastIn 13 = .ok (.aload_n 0, 1) := by decide +kernel
theorem dX3_leastIn_14 : decode cX3_leastIn 14 = .ok (.getfield 15, 3) := by decide +kernel
theorem dX3_leastIn_17 : decode cX3_leastIn 17 = .ok (.getfield 44, 3) := by decide +kernel
theorem dX3_leastIn_20 : decode cX3_leastIn 20 = .ok (.iload_n 2, 1) := by decide +kernel
theorem dX3_leastIn_21 : decode cX3_leastIn 21 = .ok (.iaload, 1) := by decide +kernel
theorem dX3_leastIn_22 : decode cX3_leastIn 22 = .ok (.istore_n 3, 1) := by decide +kernel
theorem dX3_leastIn_23 : decode cX3_leastIn 23 = .ok (.aload_n 0, 1) := by decide +kernel
theorem dX3_leastIn_24 : decode cX3_leastIn 24 = .ok (.iload_n 3, 1) := by decide +kernel
theorem dX3_leastIn_25 : decode cX3_leastIn 25 = .ok (.invokevirtual 47, 3) := by decide +kernel
theorem dX3_leastIn_28 : decode cX3_leastIn 28 = .ok (.ifCond .eq 25, 3) := by decide +kernel
theorem dX3_leastIn_31 : decode cX3_leastIn 31 = .ok (.aload_n 0, 1) := by decide +kernel
theorem dX3_leastIn_32 : decode cX3_leastIn 32 = .ok (.getfield 19, 3) := by decide +kernel
theorem dX3_leastIn_35 : decode cX3_leastIn 35 = .ok (.iload_n 1, 1) := by decide +kernel
theorem dX3_leastIn_36 : decode cX3_leastIn 36 = .ok (.aload_n 0, 1) := by decide +kernel
theorem dX3_leastIn_37 : decode cX3_leastIn 37 = .ok (.getfield 15, 3) := by decide +kernel
theorem dX3_leastIn_40 : decode cX3_leastIn 40 = .ok (.getfield 29, 3) := by decide +kernel
theorem dX3_leastIn_43 : decode cX3_leastIn 43 = .ok (.iload_n 3, 1) := by decide +kernel
theorem dX3_leastIn_44 : decode cX3_leastIn 44 = .ok (.iaload, 1) := by decide +kernel
theorem dX3_leastIn_45 : decode cX3_leastIn 45 = .ok (.invokevirtual 51, 3) := by decide +kernel
theorem dX3_leastIn_48 : decode cX3_leastIn 48 = .ok (.ifCond .eq 5, 3) := by decide +kernel
theorem dX3_leastIn_51 : decode cX3_leastIn 51 = .ok (.iload_n 3, 1) := by decide +kernel
theorem dX3_leastIn_52 : decode cX3_leastIn 52 = .ok (.ireturn, 1) := by decide +kernel
theorem dX3_leastIn_53 : decode cX3_leastIn 53 = .ok (.iinc 2 1, 3) := by decide +kernel
theorem dX3_leastIn_56 : decode cX3_leastIn 56 = .ok (.goto (-54), 3) := by decide +kernel
theorem dX3_leastIn_59 : decode cX3_leastIn 59 = .ok (.iconst (-1), 1) := by decide +kernel
theorem dX3_leastIn_60 : decode cX3_leastIn 60 = .ok (.ireturn, 1) := by decide +kernel
theorem dX3_evenParts_0 : decode cX3_evenParts 0 = .ok (.iconst 0, 1) := by decide +kernel
theorem dX3_evenParts_1 : decode cX3_evenParts 1 = .ok (.istore_n 1, 1) := by decide +kernel
theorem dX3_evenParts_2 : decode cX3_evenParts 2 = .ok (.iload_n 1, 1) := by decide +kernel
theorem dX3_evenParts_3 : decode cX3_evenParts 3 = .ok (.aload_n 0, 1) := by decide +kernel
theorem dX3_evenParts_4 : decode cX3_evenParts 4 = .ok (.getfield 15, 3) := by decide +kernel
theorem dX3_evenParts_7 : decode cX3_evenParts 7 = .ok (.getfield 55, 3) := by decide +kernel
theorem dX3_evenParts_10 : decode cX3_evenParts 10 = .ok (.if_icmp .ge 16, 3) := by decide +kernel
theorem dX3_evenParts_13 : decode cX3_evenParts 13 = .ok (.aload_n 0, 1) := by decide +kernel
theorem dX3_evenParts_14 : decode cX3_evenParts 14 = .ok (.getfield 9, 3) := by decide +kernel
theorem dX3_evenParts_17 : decode cX3_evenParts 17 = .ok (.iload_n 1, 1) := by decide +kernel
theorem dX3_evenParts_18 : decode cX3_evenParts 18 = .ok (.iconst 0, 1) := by decide +kernel
theorem dX3_evenParts_19 : decode cX3_evenParts 19 = .ok (.bastore, 1) := by decide +kernel
theorem dX3_evenParts_20 : decode cX3_evenParts 20 = .ok (.iinc 1 1, 3) := by decide +kernel
theorem dX3_evenParts_23 : decode cX3_evenParts 23 = .ok (.goto (-21), 3) := by decide +kernel
theorem dX3_evenParts_26 : decode cX3_evenParts 26 = .ok (.aload_n 0, 1) := by decide +kernel
theorem dX3_evenParts_27 : decode cX3_evenParts 27 = .ok (.getfield 19, 3) := by decide +kernel
theorem dX3_evenParts_30 : decode cX3_evenParts 30 = .ok (.invokevirtual 58, 3) := by decide +kernel
theorem dX3_evenParts_33 : decode cX3_evenParts 33 = .ok (.istore_n 1, 1) := by decide +kernel
theorem dX3_evenParts_34 : decode cX3_evenParts 34 = .ok (.iconst 0, 1) := by decide +kernel
theorem dX3_evenParts_35 : decode cX3_evenParts 35 = .ok (.istore_n 2, 1) := by decide +kernel
theorem dX3_evenParts_36 : decode cX3_evenParts 36 = .ok (.iload_n 2, 1) := by decide +kernel
theorem dX3_evenParts_37 : decode cX3_evenParts 37 = .ok (.aload_n 0, 1) := by decide +kernel
theorem dX3_evenParts_38 : decode cX3_evenParts 38 = .ok (.getfield 15, 3) := by decide +kernel
theorem dX3_evenParts_41 : decode cX3_evenParts 41 = .ok (.getfield 40, 3) := by decide +kernel
theorem dX3_evenParts_44 : decode cX3_evenParts 44 = .ok (.if_icmp .ge 67, 3) := by decide +kernel
theorem dX3_evenParts_47 : decode cX3_evenParts 47 = .ok (.aload_n 0, 1) := by decide +kernel
theorem dX3_evenParts_48 : decode cX3_evenParts 48 = .ok (.getfield 15, 3) := by decide +kernel
theorem dX3_evenParts_51 : decode cX3_evenParts 51 = .ok (.getfield 44, 3) := by decide +kernel
theorem dX3_evenParts_54 : decode cX3_evenParts 54 = .ok (.iload_n 2, 1) := by decide +kernel
theorem dX3_evenParts_55 : decode cX3_evenParts 55 = .ok (.iaload, 1) := by decide +kernel
theorem dX3_evenParts_56 : decode cX3_evenParts 56 = .ok (.istore_n 3, 1) := by decide +kernel
theorem dX3_evenParts_57 : decode cX3_evenParts 57 = .ok (.aload_n 0, 1) := by decide +kernel
theorem dX3_evenParts_58 : decode cX3_evenParts 58 = .ok (.getfield 19, 3) := by decide +kernel
theorem dX3_evenParts_61 : decode cX3_evenParts 61 = .ok (.getfield 62, 3) := by decide +kernel
theorem dX3_evenParts_64 : decode cX3_evenParts 64 = .ok (.aload_n 0, 1) := by decide +kernel
theorem dX3_evenParts_65 : decode cX3_evenParts 65 = .ok (.getfield 15, 3) := by decide +kernel
theorem dX3_evenParts_68 : decode cX3_evenParts 68 = .ok (.getfield 29, 3) := by decide +kernel
theorem dX3_evenParts_71 : decode cX3_evenParts 71 = .ok (.iload_n 3, 1) := by decide +kernel
theorem dX3_evenParts_72 : decode cX3_evenParts 72 = .ok (.iaload, 1) := by decide +kernel
theorem dX3_evenParts_73 : decode cX3_evenParts 73 = .ok (.iaload, 1) := by decide +kernel
theorem dX3_evenParts_74 : decode cX3_evenParts 74 = .ok (.istore 4, 2) := by decide +kernel
theorem dX3_evenParts_76 : decode cX3_evenParts 76 = .ok (.aload_n 0, 1) := by decide +kernel
theorem dX3_evenParts_77 : decode cX3_evenParts 77 = .ok (.iload_n 3, 1) := by decide +kernel
theorem dX3_evenParts_78 : decode cX3_evenParts 78 = .ok (.invokevirtual 47, 3) := by decide +kernel
theorem dX3_evenParts_81 : decode cX3_evenParts 81 = .ok (.ifCond .eq 24, 3) := by decide +kernel
theorem dX3_evenParts_84 : decode cX3_evenParts 84 = .ok (.aload_n 0, 1) := by decide +kernel
theorem dX3_evenParts_85 : decode cX3_evenParts 85 = .ok (.getfield 9, 3) := by decide +kernel
theorem dX3_evenParts_88 : decode cX3_evenParts 88 = .ok (.iload 4, 2) := by decide +kernel
theorem dX3_evenParts_90 : decode cX3_evenParts 90 = .ok (.baload, 1) := by decide +kernel
theorem dX3_evenParts_91 : decode cX3_evenParts 91 = .ok (.ifCond .ne 14, 3) := by decide +kernel
theorem dX3_evenParts_94 : decode cX3_evenParts 94 = .ok (.aload_n 0, 1) := by decide +kernel
theorem dX3_evenParts_95 : decode cX3_evenParts 95 = .ok (.getfield 9, 3) := by decide +kernel
theorem dX3_evenParts_98 : decode cX3_evenParts 98 = .ok (.iload 4, 2) := by decide +kernel
theorem dX3_evenParts_100 : decode cX3_evenParts 100 = .ok (.iconst 1, 1) := by decide +kernel
theorem dX3_evenParts_101 : decode cX3_evenParts 101 = .ok (.bastore, 1) := by decide +kernel
theorem dX3_evenParts_102 : decode cX3_evenParts 102 = .ok (.iinc 1 (-1), 3) := by decide +kernel
theorem dX3_evenParts_105 : decode cX3_evenParts 105 = .ok (.iinc 2 1, 3) := by decide +kernel
theorem dX3_evenParts_108 : decode cX3_evenParts 108 = .ok (.goto (-72), 3) := by decide +kernel
theorem dX3_evenParts_111 : decode cX3_evenParts 111 = .ok (.iload_n 1, 1) := by decide +kernel
theorem dX3_evenParts_112 : decode cX3_evenParts 112 = .ok (.ireturn, 1) := by decide +kernel
theorem dX3_ringArc_0 : decode cX3_ringArc 0 = .ok (.aload_n 0, 1) := by decide +kernel
theorem dX3_ringArc_1 : decode cX3_ringArc 1 = .ok (.iload_n 1, 1) := by decide +kernel
theorem dX3_ringArc_2 : decode cX3_ringArc 2 = .ok (.invokevirtual 65, 3) := by decide +kernel
theorem dX3_ringArc_5 : decode cX3_ringArc 5 = .ok (.istore_n 3, 1) := by decide +kernel
theorem dX3_ringArc_6 : decode cX3_ringArc 6 = .ok (.iload_n 3, 1) := by decide +kernel
theorem dX3_ringArc_7 : decode cX3_ringArc 7 = .ok (.iconst (-1), 1) := by decide +kernel
theorem dX3_ringArc_8 : decode cX3_ringArc 8 = .ok (.if_icmp .eq 7, 3) := by decide +kernel
theorem dX3_ringArc_11 : decode cX3_ringArc 11 = .ok (.iload_n 2, 1) := by decide +kernel
theorem dX3_ringArc_12 : decode cX3_ringArc 12 = .ok (.ifCond .ne 5, 3) := by decide +kernel
theorem dX3_ringArc_15 : decode cX3_ringArc 15 = .ok (.iload_n 3, 1) := by decide +kernel
theorem dX3_ringArc_16 : decode cX3_ringArc 16 = .ok (.ireturn, 1) := by decide +kernel
theorem dX3_ringArc_17 : decode cX3_ringArc 17 = .ok (.aload_n 0, 1) := by decide +kernel
theorem dX3_ringArc_18 : decode cX3_ringArc 18 = .ok (.getfield 15, 3) := by decide +kernel
theorem dX3_ringArc_21 : decode cX3_ringArc 21 = .ok (.getfield 34, 3) := by decide +kernel
theorem dX3_ringArc_24 : decode cX3_ringArc 24 = .ok (.iload_n 3, 1) := by decide +kernel
theorem dX3_ringArc_25 : decode cX3_ringArc 25 = .ok (.iaload, 1) := by decide +kernel
theorem dX3_ringArc_26 : decode cX3_ringArc 26 = .ok (.istore 4, 2) := by decide +kernel
theorem dX3_ringArc_28 : decode cX3_ringArc 28 = .ok (.aload_n 0, 1) := by decide +kernel
theorem dX3_ringArc_29 : decode cX3_ringArc 29 = .ok (.getfield 15, 3) := by decide +kernel
theorem dX3_ringArc_32 : decode cX3_ringArc 32 = .ok (.getfield 29, 3) := by decide +kernel
theorem dX3_ringArc_35 : decode cX3_ringArc 35 = .ok (.iload_n 3, 1) := by decide +kernel
theorem dX3_ringArc_36 : decode cX3_ringArc 36 = .ok (.iaload, 1) := by decide +kernel
theorem dX3_ringArc_37 : decode cX3_ringArc 37 = .ok (.istore 5, 2) := by decide +kernel
theorem dX3_ringArc_39 : decode cX3_ringArc 39 = .ok (.aload_n 0, 1) := by decide +kernel
theorem dX3_ringArc_40 : decode cX3_ringArc 40 = .ok (.getfield 19, 3) := by decide +kernel
theorem dX3_ringArc_43 : decode cX3_ringArc 43 = .ok (.getfield 23, 3) := by decide +kernel
theorem dX3_ringArc_46 : decode cX3_ringArc 46 = .ok (.aload_n 0, 1) := by decide +kernel
theorem dX3_ringArc_47 : decode cX3_ringArc 47 = .ok (.iload 4, 2) := by decide +kernel
theorem dX3_ringArc_49 : decode cX3_ringArc 49 = .ok (.iload 5, 2) := by decide +kernel
theorem dX3_ringArc_51 : decode cX3_ringArc 51 = .ok (.invokevirtual 69, 3) := by decide +kernel
theorem dX3_ringArc_54 : decode cX3_ringArc 54 = .ok (.iaload, 1) := by decide +kernel
theorem dX3_ringArc_55 : decode cX3_ringArc 55 = .ok (.istore 6, 2) := by decide +kernel
theorem dX3_ringArc_57 : decode cX3_ringArc 57 = .ok (.aload_n 0, 1) := by decide +kernel
theorem dX3_ringArc_58 : decode cX3_ringArc 58 = .ok (.getfield 19, 3) := by decide +kernel
theorem dX3_ringArc_61 : decode cX3_ringArc 61 = .ok (.getfield 23, 3) := by decide +kernel
theorem dX3_ringArc_64 : decode cX3_ringArc 64 = .ok (.iload 4, 2) := by decide +kernel
theorem dX3_ringArc_66 : decode cX3_ringArc 66 = .ok (.iaload, 1) := by decide +kernel
theorem dX3_ringArc_67 : decode cX3_ringArc 67 = .ok (.iload 6, 2) := by decide +kernel
theorem dX3_ringArc_69 : decode cX3_ringArc 69 = .ok (.isub, 1) := by decide +kernel
theorem dX3_ringArc_70 : decode cX3_ringArc 70 = .ok (.istore 7, 2) := by decide +kernel
theorem dX3_ringArc_72 : decode cX3_ringArc 72 = .ok (.iload 7, 2) := by decide +kernel
theorem dX3_ringArc_74 : decode cX3_ringArc 74 = .ok (.aload_n 0, 1) := by decide +kernel
theorem dX3_ringArc_75 : decode cX3_ringArc 75 = .ok (.getfield 19, 3) := by decide +kernel
theorem dX3_ringArc_78 : decode cX3_ringArc 78 = .ok (.getfield 23, 3) := by decide +kernel
theorem dX3_ringArc_81 : decode cX3_ringArc 81 = .ok (.iload 5, 2) := by decide +kernel
theorem dX3_ringArc_83 : decode cX3_ringArc 83 = .ok (.iaload, 1) := by decide +kernel
theorem dX3_ringArc_84 : decode cX3_ringArc 84 = .ok (.iadd, 1) := by decide +kernel
theorem dX3_ringArc_85 : decode cX3_ringArc 85 = .ok (.iload 6, 2) := by decide +kernel
theorem dX3_ringArc_87 : decode cX3_ringArc 87 = .ok (.isub, 1) := by decide +kernel
theorem dX3_ringArc_88 : decode cX3_ringArc 88 = .ok (.istore 8, 2) := by decide +kernel
theorem dX3_ringArc_90 : decode cX3_ringArc 90 = .ok (.iload_n 2, 1) := by decide +kernel
theorem dX3_ringArc_91 : decode cX3_ringArc 91 = .ok (.iload 8, 2) := by decide +kernel
theorem dX3_ringArc_93 : decode cX3_ringArc 93 = .ok (.if_icmp .le 5, 3) := by decide +kernel
theorem dX3_ringArc_96 : decode cX3_ringArc 96 = .ok (.iconst (-1), 1) := by decide +kernel
theorem dX3_ringArc_97 : decode cX3_ringArc 97 = .ok (.ireturn, 1) := by decide +kernel
theorem dX3_ringArc_98 : decode cX3_ringArc 98 = .ok (.aload_n 0, 1) := by decide +kernel
theorem dX3_ringArc_99 : decode cX3_ringArc 99 = .ok (.getfield 19, 3) := by decide +kernel
theorem dX3_ringArc_102 : decode cX3_ringArc 102 = .ok (.getfield 73, 3) := by decide +kernel
theorem dX3_ringArc_105 : decode cX3_ringArc 105 = .ok (.iload_n 2, 1) := by decide +kernel
theorem dX3_ringArc_106 : decode cX3_ringArc 106 = .ok (.iload 7, 2) := by decide +kernel
theorem dX3_ringArc_108 : decode cX3_ringArc 108 = .ok (.if_icmp .gt 15, 3) := by decide +kernel
theorem dX3_ringArc_111 : decode cX3_ringArc 111 = .ok (.aload_n 0, 1) := by decide +kernel
theorem dX3_ringArc_112 : decode cX3_ringArc 112 = .ok (.iload 4, 2) := by decide +kernel
theorem dX3_ringArc_114 : decode cX3_ringArc 114 = .ok (.iload_n 2, 1) := by decide +kernel
theorem dX3_ringArc_115 : decode cX3_ringArc 115 = .ok (.iconst 1, 1) := by decide +kernel
theorem dX3_ringArc_116 : decode cX3_ringArc 116 = .ok (.isub, 1) := by decide +kernel
theorem dX3_ringArc_117 : decode cX3_ringArc 117 = .ok (.invokevirtual 76, 3) := by decide +kernel
theorem dX3_ringArc_120 : decode cX3_ringArc 120 = .ok (.goto 13, 3) := by decide +kernel
theorem dX3_ringArc_123 : decode cX3_ringArc 123 = .ok (.aload_n 0, 1) := by decide +kernel
theorem dX3_ringArc_124 : decode cX3_ringArc 124 = .ok (.iload 5, 2) := by decide +kernel
theorem dX3_ringArc_126 : decode cX3_ringArc 126 = .ok (.iload 8, 2) := by decide +kernel
theorem dX3_ringArc_128 : decode cX3_ringArc 128 = .ok (.iload_n 2, 1) := by decide +kernel
theorem dX3_ringArc_129 : decode cX3_ringArc 129 = .ok (.isub, 1) := by decide +kernel
theorem dX3_ringArc_130 : decode cX3_ringArc 130 = .ok (.invokevirtual 76, 3) := by decide +kernel
theorem dX3_ringArc_133 : decode cX3_ringArc 133 = .ok (.iaload, 1) := by decide +kernel
theorem dX3_ringArc_134 : decode cX3_ringArc 134 = .ok (.ireturn, 1) := by decide +kernel
theorem dX3_meeting_0 : decode cX3_meeting 0 = .ok (.iload_n 1, 1) := by decide +kernel
theorem dX3_meeting_1 : decode cX3_meeting 1 = .ok (.istore_n 3, 1) := by decide +kernel
theorem dX3_meeting_2 : decode cX3_meeting 2 = .ok (.iload_n 2, 1) := by decide +kernel
theorem dX3_meeting_3 : decode cX3_meeting 3 = .ok (.istore 4, 2) := by decide +kernel
theorem dX3_meeting_5 : decode cX3_meeting 5 = .ok (.iconst 0, 1) := by decide +kernel
theorem dX3_meeting_6 : decode cX3_meeting 6 = .ok (.istore 5, 2) := by decide +kernel
theorem dX3_meeting_8 : decode cX3_meeting 8 = .ok (.iload 5, 2) := by decide +kernel
theorem dX3_meeting_10 : decode cX3_meeting 10 = .ok (.sipush 600, 3) := by decide +kernel
theorem dX3_meeting_13 : decode cX3_meeting 13 = .ok (.if_icmp .ge 56, 3) := by decide +kernel
theorem dX3_meeting_16 : decode cX3_meeting 16 = .ok (.iload_n 3, 1) := by decide +kernel
theorem dX3_meeting_17 : decode cX3_meeting 17 = .ok (.iload 4, 2) := by decide +kernel
theorem dX3_meeting_19 : decode cX3_meeting 19 = .ok (.if_icmp .eq 50, 3) := by decide +kernel
theorem dX3_meeting_22 : decode cX3_meeting 22 = .ok (.aload_n 0, 1) := by decide +kernel
theorem dX3_meeting_23 : decode cX3_meeting 23 = .ok (.getfield 19, 3) := by decide +kernel
theorem dX3_meeting_26 : decode cX3_meeting 26 = .ok (.getfield 23, 3) := by decide +kernel
theorem dX3_meeting_29 : decode cX3_meeting 29 = .ok (.iload_n 3, 1) := by decide +kernel
theorem dX3_meeting_30 : decode cX3_meeting 30 = .ok (.iaload, 1) := by decide +kernel
theorem dX3_meeting_31 : decode cX3_meeting 31 = .ok (.aload_n 0, 1) := by decide +kernel
theorem dX3_meeting_32 : decode cX3_meeting 32 = .ok (.getfield 19, 3) := by decide +kernel
theorem dX3_meeting_35 : decode cX3_meeting 35 = .ok (.getfield 23, 3) := by decide +kernel
theorem dX3_meeting_38 : decode cX3_meeting 38 = .ok (.iload 4, 2) := by decide +kernel
theorem dX3_meeting_40 : decode cX3_meeting 40 = .ok (.iaload, 1) := by decide +kernel
theorem dX3_meeting_41 : decode cX3_meeting 41 = .ok (.if_icmp .lt 13, 3) := by decide +kernel
theorem dX3_meeting_44 : decode cX3_meeting 44 = .ok (.aload_n 0, 1) := by decide +kernel
theorem dX3_meeting_45 : decode cX3_meeting 45 = .ok (.iload_n 3, 1) := by decide +kernel
theorem dX3_meeting_46 : decode cX3_meeting 46 = .ok (.iconst 1, 1) := by decide +kernel
theorem dX3_meeting_47 : decode cX3_meeting 47 = .ok (.invokevirtual 76, 3) := by decide +kernel
theorem dX3_meeting_50 : decode cX3_meeting 50 = .ok (.istore_n 3, 1) := by decide +kernel
theorem dX3_meeting_51 : decode cX3_meeting 51 = .ok (.goto 12, 3) := by decide +kernel
theorem dX3_meeting_54 : decode cX3_meeting 54 = .ok (.aload_n 0, 1) := by decide +kernel
theorem dX3_meeting_55 : decode cX3_meeting 55 = .ok (.iload 4, 2) := by decide +kernel
theorem dX3_meeting_57 : decode cX3_meeting 57 = .ok (.iconst 1, 1) := by decide +kernel
theorem dX3_meeting_58 : decode cX3_meeting 58 = .ok (.invokevirtual 76, 3) := by decide +kernel
theorem dX3_meeting_61 : decode cX3_meeting 61 = .ok (.istore 4, 2) := by decide +kernel
theorem dX3_meeting_63 : decode cX3_meeting 63 = .ok (.iinc 5 1, 3) := by decide +kernel
theorem dX3_meeting_66 : decode cX3_meeting 66 = .ok (.goto (-58), 3) := by decide +kernel
theorem dX3_meeting_69 : decode cX3_meeting 69 = .ok (.iload_n 3, 1) := by decide +kernel
theorem dX3_meeting_70 : decode cX3_meeting 70 = .ok (.ireturn, 1) := by decide +kernel
theorem dX3_climb_0 : decode cX3_climb 0 = .ok (.iload_n 1, 1) := by decide +kernel
theorem dX3_climb_1 : decode cX3_climb 1 = .ok (.istore_n 3, 1) := by decide +kernel
theorem dX3_climb_2 : decode cX3_climb 2 = .ok (.iconst 0, 1) := by decide +kernel
theorem dX3_climb_3 : decode cX3_climb 3 = .ok (.istore 4, 2) := by decide +kernel
theorem dX3_climb_5 : decode cX3_climb 5 = .ok (.iload 4, 2) := by decide +kernel
theorem dX3_climb_7 : decode cX3_climb 7 = .ok (.iload_n 2, 1) := by decide +kernel
theorem dX3_climb_8 : decode cX3_climb 8 = .ok (.if_icmp .ge 32, 3) := by decide +kernel
theorem dX3_climb_11 : decode cX3_climb 11 = .ok (.aload_n 0, 1) := by decide +kernel
theorem dX3_climb_12 : decode cX3_climb 12 = .ok (.getfield 19, 3) := by decide +kernel
theorem dX3_climb_15 : decode cX3_climb 15 = .ok (.getfield 79, 3) := by decide +kernel
theorem dX3_climb_18 : decode cX3_climb 18 = .ok (.iload_n 3, 1) := by decide +kernel
theorem dX3_climb_19 : decode cX3_climb 19 = .ok (.iaload, 1) := by decide +kernel
theorem dX3_climb_20 : decode cX3_climb 20 = .ok (.iconst (-1), 1) := by decide +kernel
theorem dX3_climb_21 : decode cX3_climb 21 = .ok (.if_icmp .eq 19, 3) := by decide +kernel
theorem dX3_climb_24 : decode cX3_climb 24 = .ok (.aload_n 0, 1) := by decide +kernel
theorem dX3_climb_25 : decode cX3_climb 25 = .ok (.getfield 19, 3) := by decide +kernel
theorem dX3_climb_28 : decode cX3_climb 28 = .ok (.getfield 79, 3) := by decide +kernel
theorem dX3_climb_31 : decode cX3_climb 31 = .ok (.iload_n 3, 1) := by decide +kernel
theorem dX3_climb_32 : decode cX3_climb 32 = .ok (.iaload, 1) := by decide +kernel
theorem dX3_climb_33 : decode cX3_climb 33 = .ok (.istore_n 3, 1) := by decide +kernel
theorem dX3_climb_34 : decode cX3_climb 34 = .ok (.iinc 4 1, 3) := by decide +kernel
theorem dX3_climb_37 : decode cX3_climb 37 = .ok (.goto (-32), 3) := by decide +kernel
theorem dX3_climb_40 : decode cX3_climb 40 = .ok (.iload_n 3, 1) := by decide +kernel
theorem dX3_climb_41 : decode cX3_climb 41 = .ok (.ireturn, 1) := by decide +kernel
theorem dX4_init_0 : decode cX4_init 0 = .ok (.aload_n 0, 1) := by decide +kernel
theorem dX4_init_1 : decode cX4_init 1 = .ok (.invokespecial 3, 3) := by decide +kernel
theorem dX4_init_4 : decode cX4_init 4 = .ok (.aload_n 0, 1) := by decide +kernel
theorem dX4_init_5 : decode cX4_init 5 = .ok (.bipush 60, 2) := by decide +kernel
theorem dX4_init_7 : decode cX4_init 7 = .ok (.newarray .int, 2) := by decide +kernel
theorem dX4_init_9 : decode cX4_init 9 = .ok (.putfield 9, 3) := by decide +kernel
theorem dX4_init_12 : decode cX4_init 12 = .ok (.aload_n 0, 1) := by decide +kernel
theorem dX4_init_13 : decode cX4_init 13 = .ok (.bipush 60, 2) := by decide +kernel
theorem dX4_init_15 : decode cX4_init 15 = .ok (.newarray .boolean, 2) := by decide +kernel
theorem dX4_init_17 : decode cX4_init 17 = .ok (.putfield 15, 3) := by decide +kernel
theorem dX4_init_20 : decode cX4_init 20 = .ok (.aload_n 0, 1) := by decide +kernel
theorem dX4_init_21 : decode cX4_init 21 = .ok (.bipush 60, 2) := by decide +kernel
theorem dX4_init_23 : decode cX4_init 23 = .ok (.newarray .int, 2) := by decide +kernel
theorem dX4_init_25 : decode cX4_init 25 = .ok (.putfield 19, 3) := by decide +kernel
theorem dX4_init_28 : decode cX4_init 28 = .ok (.aload_n 0, 1) := by decide +kernel
theorem dX4_init_29 : decode cX4_init 29 = .ok (.bipush 60, 2) := by decide +kernel
theorem dX4_init_31 : decode cX4_init 31 = .ok (.newarray .int, 2) := by decide +kernel
theorem dX4_init_33 : decode cX4_init 33 = .ok (.putfield 22, 3) := by decide +kernel
theorem dX4_init_36 : decode cX4_init 36 = .ok (.aload_n 0, 1) := by decide +kernel
theorem dX4_init_37 : decode cX4_init 37 = .ok (.sipush 5000, 3) := by decide +kernel
theorem dX4_init_40 : decode cX4_init 40 = .ok (.newarray .int, 2) := by decide +kernel
theorem dX4_init_42 : decode cX4_init 42 = .ok (.putfield 25, 3) := by decide +kernel
theorem dX4_init_45 : decode cX4_init 45 = .ok (.aload_n 0, 1) := by decide +kernel
theorem dX4_init_46 : decode cX4_init 46 = .ok (.bipush 60, 2) := by decide +kernel
theorem dX4_init_48 : decode cX4_init 48 = .ok (.newarray .int, 2) := by decide +kernel
theorem dX4_init_50 : decode cX4_init 50 = .ok (.putfield 28, 3) := by decide +kernel
theorem dX4_init_53 : decode cX4_init 53 = .ok (.aload_n 0, 1) := by decide +kernel
theorem dX4_init_54 : decode cX4_init 54 = .ok (.aload_n 1, 1) := by decide +kernel
theorem dX4_init_55 : decode cX4_init 55 = .ok (.putfield 31, 3) := by decide +kernel
theorem dX4_init_58 : decode cX4_init 58 = .ok (.aload_n 0, 1) := by decide +kernel
theorem dX4_init_59 : decode cX4_init 59 = .ok (.aload_n 2, 1) := by decide +kernel
theorem dX4_init_60 : decode cX4_init 60 = .ok (.putfield 35, 3) := by decide +kernel
theorem dX4_init_63 : decode cX4_init 63 = .ok (.aload_n 0, 1) := by decide +kernel
theorem dX4_init_64 : decode cX4_init 64 = .ok (.getfield 25, 3) := by decide +kernel
theorem dX4_init_67 : decode cX4_init 67 = .ok (.iconst (-1), 1) := by decide +kernel
theorem dX4_init_68 : decode cX4_init 68 = .ok (.invokestatic 39, 3) := by decide +kernel
theorem dX4_init_71 : decode cX4_init 71 = .ok (.aload_n 0, 1) := by decide +kernel
theorem dX4_init_72 : decode cX4_init 72 = .ok (.getfield 28, 3) := by decide +kernel
theorem dX4_init_75 : decode cX4_init 75 = .ok (.iconst (-1), 1) := by decide +kernel
theorem dX4_init_76 : decode cX4_init 76 = .ok (.invokestatic 39, 3) := by decide +kernel
theorem dX4_init_79 : decode cX4_init 79 = .ok (.return_, 1) := by decide +kernel
theorem dX4_isFull_0 : decode cX4_isFull 0 = .ok (.aload_n 0, 1) := by decide +kernel
theorem dX4_isFull_1 : decode cX4_isFull 1 = .ok (.getfield 45, 3) := by decide +kernel
theorem dX4_isFull_4 : decode cX4_isFull 4 = .ok (.bipush 60, 2) := by decide +kernel
theorem dX4_isFull_6 : decode cX4_isFull 6 = .ok (.if_icmp .lt 7, 3) := by decide +kernel
theorem dX4_isFull_9 : decode cX4_isFull 9 = .ok (.iconst 1, 1) := by decide +kernel
theorem dX4_isFull_10 : decode cX4_isFull 10 = .ok (.goto 4, 3) := by decide +kernel
theorem dX4_isFull_13 : decode cX4_isFull 13 = .ok (.iconst 0, 1) := by decide +kernel
theorem dX4_isFull_14 : decode cX4_isFull 14 = .ok (.ireturn, 1) := by decide +kernel
theorem dX4_puts_0 : decode cX4_puts 0 = .ok (.iload_n 1, 1) := by decide +kernel
theorem dX4_puts_1 : decode cX4_puts 1 = .ok (.ifCond .lt 24, 3) := by decide +kernel
theorem dX4_puts_4 : decode cX4_puts 4 = .ok (.iload_n 1, 1) := by decide +kernel
theorem dX4_puts_5 : decode cX4_puts 5 = .ok (.aload_n 0, 1) := by decide +kernel
theorem dX4_puts_6 : decode cX4_puts 6 = .ok (.getfield 45, 3) := by decide +kernel
theorem dX4_puts_9 : decode cX4_puts 9 = .ok (.if_icmp .ge 16, 3) := by decide +kernel
theorem dX4_puts_12 : decode cX4_puts 12 = .ok (.aload_n 0, 1) := by decide +kernel
theorem dX4_puts_13 : decode cX4_puts 13 = .ok (.getfield 15, 3) := by decide +kernel
theorem dX4_puts_16 : decode cX4_puts 16 = .ok (.iload_n 1, 1) := by decide +kernel
theorem dX4_puts_17 : decode cX4_puts 17 = .ok (.baload, 1) := by decide +kernel
theorem dX4_puts_18 : decode cX4_puts 18 = .ok (.ifCond .eq 7, 3) := by decide +kernel
theorem dX4_puts_21 : decode cX4_puts 21 = .ok (.iconst 1, 1) := by decide +kernel
theorem dX4_puts_22 : decode cX4_puts 22 = .ok (.goto 4, 3) := by decide +kernel
theorem dX4_puts_25 : decode cX4_puts 25 = .ok (.iconst 0, 1) := by decide +kernel
theorem dX4_puts_26 : decode cX4_puts 26 = .ok (.ireturn, 1) := by decide +kernel
theorem dX4_takes_0 : decode cX4_takes 0 = .ok (.iload_n 1, 1) := by decide +kernel
theorem dX4_takes_1 : decode cX4_takes 1 = .ok (.ifCond .lt 21, 3) := by decide +kernel
theorem dX4_takes_4 : decode cX4_takes 4 = .ok (.aload_n 0, 1) := by decide +kernel
theorem dX4_takes_5 : decode cX4_takes 5 = .ok (.getfield 25, 3) := by decide +kernel
theorem dX4_takes_8 : decode cX4_takes 8 = .ok (.iload_n 1, 1) := by decide +kernel
theorem dX4_takes_9 : decode cX4_takes 9 = .ok (.iaload, 1) := by decide +kernel
theorem dX4_takes_10 : decode cX4_takes 10 = .ok (.iconst (-1), 1) := by decide +kernel
theorem dX4_takes_11 : decode cX4_takes 11 = .ok (.if_icmp .eq 7, 3) := by decide +kernel
theorem dX4_takes_14 : decode cX4_takes 14 = .ok (.iconst 1, 1) := by decide +kernel
theorem dX4_takes_15 : decode cX4_takes 15 = .ok (.goto 24, 3) := by decide +kernel
theorem dX4_takes_18 : decode cX4_takes 18 = .ok (.iconst 0, 1) := by decide +kernel
theorem dX4_takes_19 : decode cX4_takes 19 = .ok (.goto 20, 3) := by decide +kernel
theorem dX4_takes_22 : decode cX4_takes 22 = .ok (.aload_n 0, 1) := by decide +kernel
theorem dX4_takes_23 : decode cX4_takes 23 = .ok (.getfield 28, 3) := by decide +kernel
theorem dX4_takes_26 : decode cX4_takes 26 = .ok (.iconst (-1), 1) := by decide +kernel
theorem dX4_takes_27 : decode cX4_takes 27 = .ok (.iload_n 1, 1) := by decide +kernel
theorem dX4_takes_28 : decode cX4_takes 28 = .ok (.isub, 1) := by decide +kernel
theorem dX4_takes_29 : decode cX4_takes 29 = .ok (.iaload, 1) := by decide +kernel
theorem dX4_takes_30 : decode cX4_takes 30 = .ok (.iconst (-1), 1) := by decide +kernel
theorem dX4_takes_31 : decode cX4_takes 31 = .ok (.if_icmp .eq 7, 3) := by decide +kernel
theorem dX4_takes_34 : decode cX4_takes 34 = .ok (.iconst 1, 1) := by decide +kernel
theorem dX4_takes_35 : decode cX4_takes 35 = .ok (.goto 4, 3) := by decide +kernel
theorem dX4_takes_38 : decode cX4_takes 38 = .ok (.iconst 0, 1) := by decide +kernel
theorem dX4_takes_39 : decode cX4_takes 39 = .ok (.ireturn, 1) := by decide +kernel
theorem dX4_addPut_0 : decode cX4_addPut 0 = .ok (.aload_n 0, 1) := by decide +kernel
theorem dX4_addPut_1 : decode cX4_addPut 1 = .ok (.getfield 45, 3) := by decide +kernel
theorem dX4_addPut_4 : decode cX4_addPut 4 = .ok (.istore_n 3, 1) := by decide +kernel
theorem dX4_addPut_5 : decode cX4_addPut 5 = .ok (.aload_n 0, 1) := by decide +kernel
theorem dX4_addPut_6 : decode cX4_addPut 6 = .ok (.getfield 15, 3) := by decide +kernel
theorem dX4_addPut_9 : decode cX4_addPut 9 = .ok (.iload_n 3, 1) := by decide +kernel
theorem dX4_addPut_10 : decode cX4_addPut 10 = .ok (.iconst 1, 1) := by decide +kernel
theorem dX4_addPut_11 : decode cX4_addPut 11 = .ok (.bastore, 1) := by decide +kernel
theorem dX4_addPut_12 : decode cX4_addPut 12 = .ok (.aload_n 0, 1) := by decide +kernel
theorem dX4_addPut_13 : decode cX4_addPut 13 = .ok (.getfield 19, 3) := by decide +kernel
theorem dX4_addPut_16 : decode cX4_addPut 16 = .ok (.iload_n 3, 1) := by decide +kernel
theorem dX4_addPut_17 : decode cX4_addPut 17 = .ok (.iload_n 1, 1) := by decide +kernel
theorem dX4_addPut_18 : decode cX4_addPut 18 = .ok (.iastore, 1) := by decide +kernel
theorem dX4_addPut_19 : decode cX4_addPut 19 = .ok (.aload_n 0, 1) := by decide +kernel
theorem dX4_addPut_20 : decode cX4_addPut 20 = .ok (.getfield 22, 3) := by decide +kernel
theorem dX4_addPut_23 : decode cX4_addPut 23 = .ok (.iload_n 3, 1) := by decide +kernel
theorem dX4_addPut_24 : decode cX4_addPut 24 = .ok (.iload_n 2, 1) := by decide +kernel
theorem dX4_addPut_25 : decode cX4_addPut 25 = .ok (.iastore, 1) := by decide +kernel
theorem dX4_addPut_26 : decode cX4_addPut 26 = .ok (.aload_n 0, 1) := by decide +kernel
theorem dX4_addPut_27 : decode cX4_addPut 27 = .ok (.dup, 1) := by decide +kernel
theorem dX4_addPut_28 : decode cX4_addPut 28 = .ok (.getfield 45, 3) := by decide +kernel
theorem dX4_addPut_31 : decode cX4_addPut 31 = .ok (.iconst 1, 1) := by decide +kernel
theorem dX4_addPut_32 : decode cX4_addPut 32 = .ok (.iadd, 1) := by decide +kernel
theorem dX4_addPut_33 : decode cX4_addPut 33 = .ok (.putfield 45, 3) := by decide +kernel
theorem dX4_addPut_36 : decode cX4_addPut 36 = .ok (.iload_n 3, 1) := by decide +kernel
theorem dX4_addPut_37 : decode cX4_addPut 37 = .ok (.ireturn, 1) := by decide +kernel
theorem dX4_addTake_0 : decode cX4_addTake 0 = .ok (.aload_n 0, 1) := by decide +kernel
theorem dX4_addTake_1 : decode cX4_addTake 1 = .ok (.getfield 45, 3) := by decide +kernel
theorem dX4_addTake_4 : decode cX4_addTake 4 = .ok (.istore_n 2, 1) := by decide +kernel
theorem dX4_addTake_5 : decode cX4_addTake 5 = .ok (.aload_n 0, 1) := by decide +kernel
theorem dX4_addTake_6 : decode cX4_addTake 6 = .ok (.getfield 15, 3) := by decide +kernel
theorem dX4_addTake_9 : decode cX4_addTake 9 = .ok (.iload_n 2, 1) := by decide +kernel
theorem dX4_addTake_10 : decode cX4_addTake 10 = .ok (.iconst 0, 1) := by decide +kernel
theorem dX4_addTake_11 : decode cX4_addTake 11 = .ok (.bastore, 1) := by decide +kernel
theorem dX4_addTake_12 : decode cX4_addTake 12 = .ok (.aload_n 0, 1) := by decide +kernel
theorem dX4_addTake_13 : decode cX4_addTake 13 = .ok (.getfield 9, 3) := by decide +kernel
theorem dX4_addTake_16 : decode cX4_addTake 16 = .ok (.iload_n 2, 1) := by decide +kernel
theorem dX4_addTake_17 : decode cX4_addTake 17 = .ok (.iload_n 1, 1) := by decide +kernel
theorem dX4_addTake_18 : decode cX4_addTake 18 = .ok (.iastore, 1) := by decide +kernel
theorem dX4_addTake_19 : decode cX4_addTake 19 = .ok (.aload_n 0, 1) := by decide +kernel
theorem dX4_addTake_20 : decode cX4_addTake 20 = .ok (.iload_n 1, 1) := by decide +kernel
theorem dX4_addTake_21 : decode cX4_addTake 21 = .ok (.iload_n 2, 1) := by decide +kernel
theorem dX4_addTake_22 : decode cX4_addTake 22 = .ok (.invokevirtual 49, 3) := by decide +kernel
theorem dX4_addTake_25 : decode cX4_addTake 25 = .ok (.aload_n 0, 1) := by decide +kernel
theorem dX4_addTake_26 : decode cX4_addTake 26 = .ok (.dup, 1) := by decide +kernel
theorem dX4_addTake_27 : decode cX4_addTake 27 = .ok (.getfield 45, 3) := by decide +kernel
theorem dX4_addTake_30 : decode cX4_addTake 30 = .ok (.iconst 1, 1) := by decide +kernel
theorem dX4_addTake_31 : decode cX4_addTake 31 = .ok (.iadd, 1) := by decide +kernel
theorem dX4_addTake_32 : decode cX4_addTake 32 = .ok (.putfield 45, 3) := by decide +kernel
theorem dX4_addTake_35 : decode cX4_addTake 35 = .ok (.iload_n 2, 1) := by decide +kernel
theorem dX4_addTake_36 : decode cX4_addTake 36 = .ok (.ireturn, 1) := by decide +kernel
theorem dX4_forget_0 : decode cX4_forget 0 = .ok (.aload_n 0, 1) := by decide +kernel
theorem dX4_forget_1 : decode cX4_forget 1 = .ok (.getfield 45, 3) := by decide +kernel
theorem dX4_forget_4 : decode cX4_forget 4 = .ok (.istore_n 1, 1) := by decide +kernel
theorem dX4_forget_5 : decode cX4_forget 5 = .ok (.iconst 0, 1) := by decide +kernel
theorem dX4_forget_6 : decode cX4_forget 6 = .ok (.istore_n 2, 1) := by decide +kernel
theorem dX4_forget_7 : decode cX4_forget 7 = .ok (.iload_n 2, 1) := by decide +kernel
theorem dX4_forget_8 : decode cX4_forget 8 = .ok (.iload_n 1, 1) := by decide +kernel
theorem dX4_forget_9 : decode cX4_forget 9 = .ok (.if_icmp .ge 29, 3) := by decide +kernel
theorem dX4_forget_12 : decode cX4_forget 12 = .ok (.aload_n 0, 1) := by decide +kernel
theorem dX4_forget_13 : decode cX4_forget 13 = .ok (.getfield 15, 3) := by decide +kernel
theorem dX4_forget_16 : decode cX4_forget 16 = .ok (.iload_n 2, 1) := by decide +kernel
theorem dX4_forget_17 : decode cX4_forget 17 = .ok (.baload, 1) := by decide +kernel
theorem dX4_forget_18 : decode cX4_forget 18 = .ok (.ifCond .ne 14, 3) := by decide +kernel
theorem dX4_forget_21 : decode cX4_forget 21 = .ok (.aload_n 0, 1) := by decide +kernel
theorem dX4_forget_22 : decode cX4_forget 22 = .ok (.aload_n 0, 1) := by decide +kernel
theorem dX4_forget_23 : decode cX4_forget 23 = .ok (.getfield 9, 3) := by decide +kernel
theorem dX4_forget_26 : decode cX4_forget 26 = .ok (.iload_n 2, 1) := by decide +kernel
theorem dX4_forget_27 : decode cX4_forget 27 = .ok (.iaload, 1) := by decide +kernel
theorem dX4_forget_28 : decode cX4_forget 28 = .ok (.iconst (-1), 1) := by decide +kernel
theorem dX4_forget_29 : decode cX4_forget 29 = .ok (.invokevirtual 49, 3) := by decide +kernel
theorem dX4_forget_32 : decode cX4_forget 32 = .ok (.iinc 2 1, 3) := by decide +kernel
theorem dX4_forget_35 : decode cX4_forget 35 = .ok (.goto (-28), 3) := by decide +kernel
theorem dX4_forget_38 : decode cX4_forget 38 = .ok (.aload_n 0, 1) := by decide +kernel
theorem dX4_forget_39 : decode cX4_forget 39 = .ok (.iconst 0, 1) := by decide +kernel
theorem dX4_forget_40 : decode cX4_forget 40 = .ok (.putfield 45, 3) := by decide +kernel
theorem dX4_forget_43 : decode cX4_forget 43 = .ok (.iload_n 1, 1) := by decide +kernel
theorem dX4_forget_44 : decode cX4_forget 44 = .ok (.ireturn, 1) := by decide +kernel
theorem dX4_arcsBehind_0 : decode cX4_arcsBehind 0 = .ok (.aload_n 0, 1) := by decide +kernel
theorem dX4_arcsBehind_1 : decode cX4_arcsBehind 1 = .ok (.getfield 31, 3) := by decide +kernel
theorem dX4_arcsBehind_4 : decode cX4_arcsBehind 4 = .ok (.getfield 53, 3) := by decide +kernel
theorem dX4_arcsBehind_7 : decode cX4_arcsBehind 7 = .ok (.istore_n 2, 1) := by decide +kernel
theorem dX4_arcsBehind_8 : decode cX4_arcsBehind 8 = .ok (.iconst 0, 1) := by decide +kernel
theorem dX4_arcsBehind_9 : decode cX4_arcsBehind 9 = .ok (.istore_n 3, 1) := by decide +kernel
theorem dX4_arcsBehind_10 : decode cX4_arcsBehind 10 = .ok (.iload_n 3, 1) := by decide +kernel
theorem dX4_arcsBehind_11 : decode cX4_arcsBehind 11 = .ok (.iload_n 1, 1) := by decide +kernel
theorem dX4_arcsBehind_12 : decode cX4_arcsBehind 12 = .ok (.if_icmp .ge 26, 3) := by decide +kernel
theorem dX4_arcsBehind_15 : decode cX4_arcsBehind 15 = .ok (.iload_n 2, 1) := by decide +kernel
theorem dX4_arcsBehind_16 : decode cX4_arcsBehind 16 = .ok (.aload_n 0, 1) := by decide +kernel
theorem dX4_arcsBehind_17 : decode cX4_arcsBehind 17 = .ok (.getfield 15, 3) := by decide +kernel
theorem dX4_arcsBehind_20 : decode cX4_arcsBehind 20 = .ok (.iload_n 3, 1) := by decide +kernel
theorem dX4_arcsBehind_21 : decode cX4_arcsBehind 21 = .ok (.baload, 1) := by decide +kernel
theorem dX4_arcsBehind_22 : decode cX4_arcsBehind 22 = .ok (.ifCond .eq 7, 3) := by decide +kernel
theorem dX4_arcsBehind_25 : decode cX4_arcsBehind 25 = .ok (.iconst 1, 1) := by decide +kernel
theorem dX4_arcsBehind_26 : decode cX4_arcsBehind 26 = .ok (.goto 4, 3) := by decide +kernel
theorem dX4_arcsBehind_29 : decode cX4_arcsBehind 29 = .ok (.iconst (-1), 1) := by decide +kernel
theorem dX4_arcsBehind_30 : decode cX4_arcsBehind 30 = .ok (.iadd, 1) := by decide +kernel
theorem dX4_arcsBehind_31 : decode cX4_arcsBehind 31 = .ok (.istore_n 2, 1) := by decide +kernel
theorem dX4_arcsBehind_32 : decode cX4_arcsBehind 32 = .ok (.iinc 3 1, 3) := by decide +kernel
theorem dX4_arcsBehind_35 : decode cX4_arcsBehind 35 = .ok (.goto (-25), 3) := by decide +kernel
theorem dX4_arcsBehind_38 : decode cX4_arcsBehind 38 = .ok (.iload_n 2, 1) := by decide +kernel
theorem dX4_arcsBehind_39 : decode cX4_arcsBehind 39 = .ok (.ireturn, 1) := by decide +kernel
theorem dX4_behind_0 : decode cX4_behind 0 = .ok (.aload_n 0, 1) := by decide +kernel
theorem dX4_behind_1 : decode cX4_behind 1 = .ok (.getfield 35, 3) := by decide +kernel
theorem dX4_behind_4 : decode cX4_behind 4 = .ok (.aload_n 0, 1) := by decide +kernel
theorem dX4_behind_5 : decode cX4_behind 5 = .ok (.getfield 31, 3) := by decide +kernel
theorem dX4_behind_8 : decode cX4_behind 8 = .ok (.getfield 58, 3) := by decide +kernel
theorem dX4_behind_11 : decode cX4_behind 11 = .ok (.invokevirtual 61, 3) := by decide +kernel
theorem dX4_behind_14 : decode cX4_behind 14 = .ok (.iconst 0, 1) := by decide +kernel
theorem dX4_behind_15 : decode cX4_behind 15 = .ok (.istore_n 2, 1) := by decide +kernel
theorem dX4_behind_16 : decode cX4_behind 16 = .ok (.iload_n 2, 1) := by decide +kernel
theorem dX4_behind_17 : decode cX4_behind 17 = .ok (.aload_n 0, 1) := by decide +kernel
theorem dX4_behind_18 : decode cX4_behind 18 = .ok (.getfield 31, 3) := by decide +kernel
theorem dX4_behind_21 : decode cX4_behind 21 = .ok (.getfield 53, 3) := by decide +kernel
theorem dX4_behind_24 : decode cX4_behind 24 = .ok (.if_icmp .ge 59, 3) := by decide +kernel
theorem dX4_behind_27 : decode cX4_behind 27 = .ok (.aload_n 0, 1) := by decide +kernel
theorem dX4_behind_28 : decode cX4_behind 28 = .ok (.getfield 31, 3) := by decide +kernel
theorem dX4_behind_31 : decode cX4_behind 31 = .ok (.getfield 67, 3) := by decide +kernel
theorem dX4_behind_34 : decode cX4_behind 34 = .ok (.iload_n 2, 1) := by decide +kernel
theorem dX4_behind_35 : decode cX4_behind 35 = .ok (.iaload, 1) := by decide +kernel
theorem dX4_behind_36 : decode cX4_behind 36 = .ok (.istore_n 3, 1) := by decide +kernel
theorem dX4_behind_37 : decode cX4_behind 37 = .ok (.aload_n 0, 1) := by decide +kernel
theorem dX4_behind_38 : decode cX4_behind 38 = .ok (.aload_n 0, 1) := by decide +kernel
theorem dX4_behind_39 : decode cX4_behind 39 = .ok (.getfield 25, 3) := by decide +kernel
theorem dX4_behind_42 : decode cX4_behind 42 = .ok (.iload_n 3, 1) := by decide +kernel
theorem dX4_behind_43 : decode cX4_behind 43 = .ok (.iaload, 1) := by decide +kernel
theorem dX4_behind_44 : decode cX4_behind 44 = .ok (.iload_n 1, 1) := by decide +kernel
theorem dX4_behind_45 : decode cX4_behind 45 = .ok (.invokevirtual 70, 3) := by decide +kernel
theorem dX4_behind_48 : decode cX4_behind 48 = .ok (.ifCond .eq 29, 3) := by decide +kernel
theorem dX4_behind_51 : decode cX4_behind 51 = .ok (.aload_n 0, 1) := by decide +kernel
theorem dX4_behind_52 : decode cX4_behind 52 = .ok (.getfield 35, 3) := by decide +kernel
theorem dX4_behind_55 : decode cX4_behind 55 = .ok (.aload_n 0, 1) := by decide +kernel
theorem dX4_behind_56 : decode cX4_behind 56 = .ok (.getfield 31, 3) := by decide +kernel
theorem dX4_behind_59 : decode cX4_behind 59 = .ok (.getfield 74, 3) := by decide +kernel
theorem dX4_behind_62 : decode cX4_behind 62 = .ok (.iload_n 3, 1) := by decide +kernel
theorem dX4_behind_63 : decode cX4_behind 63 = .ok (.iaload, 1) := by decide +kernel
theorem dX4_behind_64 : decode cX4_behind 64 = .ok (.aload_n 0, 1) := by decide +kernel
theorem dX4_behind_65 : decode cX4_behind 65 = .ok (.getfield 31, 3) := by decide +kernel
theorem dX4_behind_68 : decode cX4_behind 68 = .ok (.getfield 75, 3) := by decide +kernel
theorem dX4_behind_71 : decode cX4_behind 71 = .ok (.iload_n 3, 1) := by decide +kernel
theorem dX4_behind_72 : decode cX4_behind 72 = .ok (.iaload, 1) := by decide +kernel
theorem dX4_behind_73 : decode cX4_behind 73 = .ok (.invokevirtual 76, 3) := by decide +kernel
theorem dX4_behind_76 : decode cX4_behind 76 = .ok (.pop, 1) := by decide +kernel
theorem dX4_behind_77 : decode cX4_behind 77 = .ok (.iinc 2 1, 3) := by decide +kernel
theorem dX4_behind_80 : decode cX4_behind 80 = .ok (.goto (-64), 3) := by decide +kernel
theorem dX4_behind_83 : decode cX4_behind 83 = .ok (.iconst 0, 1) := by decide +kernel
theorem dX4_behind_84 : decode cX4_behind 84 = .ok (.istore_n 2, 1) := by decide +kernel
theorem dX4_behind_85 : decode cX4_behind 85 = .ok (.iload_n 2, 1) := by decide +kernel
theorem dX4_behind_86 : decode cX4_behind 86 = .ok (.iload_n 1, 1) := by decide +kernel
theorem dX4_behind_87 : decode cX4_behind 87 = .ok (.if_icmp .ge 52, 3) := by decide +kernel
theorem dX4_behind_90 : decode cX4_behind 90 = .ok (.aload_n 0, 1) := by decide +kernel
theorem dX4_behind_91 : decode cX4_behind 91 = .ok (.getfield 15, 3) := by decide +kernel
theorem dX4_behind_94 : decode cX4_behind 94 = .ok (.iload_n 2, 1) := by decide +kernel
theorem dX4_behind_95 : decode cX4_behind 95 = .ok (.baload, 1) := by decide +kernel
theorem dX4_behind_96 : decode cX4_behind 96 = .ok (.ifCond .eq 37, 3) := by decide +kernel
theorem dX4_behind_99 : decode cX4_behind 99 = .ok (.aload_n 0, 1) := by decide +kernel
theorem dX4_behind_100 : decode cX4_behind 100 = .ok (.aload_n 0, 1) := by decide +kernel
theorem dX4_behind_101 : decode cX4_behind 101 = .ok (.getfield 28, 3) := by decide +kernel
theorem dX4_behind_104 : decode cX4_behind 104 = .ok (.iload_n 2, 1) := by decide +kernel
theorem dX4_behind_105 : decode cX4_behind 105 = .ok (.iaload, 1) := by decide +kernel
theorem dX4_behind_106 : decode cX4_behind 106 = .ok (.iload_n 1, 1) := by decide +kernel
theorem dX4_behind_107 : decode cX4_behind 107 = .ok (.invokevirtual 70, 3) := by decide +kernel
theorem dX4_behind_110 : decode cX4_behind 110 = .ok (.ifCond .eq 23, 3) := by decide +kernel
theorem dX4_behind_113 : decode cX4_behind 113 = .ok (.aload_n 0, 1) := by decide +kernel
theorem dX4_behind_114 : decode cX4_behind 114 = .ok (.getfield 35, 3) := by decide +kernel
theorem dX4_behind_117 : decode cX4_behind 117 = .ok (.aload_n 0, 1) := by decide +kernel
theorem dX4_behind_118 : decode cX4_behind 118 = .ok (.getfield 19, 3) := by decide +kernel
theorem dX4_behind_121 : decode cX4_behind 121 = .ok (.iload_n 2, 1) := by decide +kernel
theorem dX4_behind_122 : decode cX4_behind 122 = .ok (.iaload, 1) := by decide +kernel
theorem dX4_behind_123 : decode cX4_behind 123 = .ok (.aload_n 0, 1) := by decide +kernel
theorem dX4_behind_124 : decode cX4_behind 124 = .ok (.getfield 22, 3) := by decide +kernel
theorem dX4_behind_127 : decode cX4_behind 127 = .ok (.iload_n 2, 1) := by decide +kernel
theorem dX4_behind_128 : decode cX4_behind 128 = .ok (.iaload, 1) := by decide +kernel
theorem dX4_behind_129 : decode cX4_behind 129 = .ok (.invokevirtual 76, 3) := by decide +kernel
theorem dX4_behind_132 : decode cX4_behind 132 = .ok (.pop, 1) := by decide +kernel
theorem dX4_behind_133 : decode cX4_behind 133 = .ok (.iinc 2 1, 3) := by decide +kernel
theorem dX4_behind_136 : decode cX4_behind 136 = .ok (.goto (-51), 3) := by decide +kernel
theorem dX4_behind_139 : decode cX4_behind 139 = .ok (.aload_n 0, 1) := by decide +kernel
theorem dX4_behind_140 : decode cX4_behind 140 = .ok (.getfield 35, 3) := by decide +kernel
theorem dX4_behind_143 : decode cX4_behind 143 = .ok (.areturn, 1) := by decide +kernel
theorem dX4_isLeft_0 : decode cX4_isLeft 0 = .ok (.iload_n 1, 1) := by decide +kernel
theorem dX4_isLeft_1 : decode cX4_isLeft 1 = .ok (.iconst (-1), 1) := by decide +kernel
theorem dX4_isLeft_2 : decode cX4_isLeft 2 = .ok (.if_icmp .eq 8, 3) := by decide +kernel
theorem dX4_isLeft_5 : decode cX4_isLeft 5 = .ok (.iload_n 1, 1) := by decide +kernel
theorem dX4_isLeft_6 : decode cX4_isLeft 6 = .ok (.iload_n 2, 1) := by decide +kernel
theorem dX4_isLeft_7 : decode cX4_isLeft 7 = .ok (.if_icmp .lt 7, 3) := by decide +kernel
theorem dX4_isLeft_10 : decode cX4_isLeft 10 = .ok (.iconst 1, 1) := by decide +kernel
theorem dX4_isLeft_11 : decode cX4_isLeft 11 = .ok (.goto 4, 3) := by decide +kernel
theorem dX4_isLeft_14 : decode cX4_isLeft 14 = .ok (.iconst 0, 1) := by decide +kernel
theorem dX4_isLeft_15 : decode cX4_isLeft 15 = .ok (.ireturn, 1) := by decide +kernel
theorem dX4_setTaker_0 : decode cX4_setTaker 0 = .ok (.iload_n 1, 1) := by decide +kernel
theorem dX4_setTaker_1 : decode cX4_setTaker 1 = .ok (.ifCond .lt 13, 3) := by decide +kernel
theorem dX4_setTaker_4 : decode cX4_setTaker 4 = .ok (.aload_n 0, 1) := by decide +kernel
theorem dX4_setTaker_5 : decode cX4_setTaker 5 = .ok (.getfield 25, 3) := by decide +kernel
theorem dX4_setTaker_8 : decode cX4_setTaker 8 = .ok (.iload_n 1, 1) := by decide +kernel
theorem dX4_setTaker_9 : decode cX4_setTaker 9 = .ok (.iload_n 2, 1) := by decide +kernel
theorem dX4_setTaker_10 : decode cX4_setTaker 10 = .ok (.iastore, 1) := by decide +kernel
theorem dX4_setTaker_11 : decode cX4_setTaker 11 = .ok (.goto 12, 3) := by decide +kernel
theorem dX4_setTaker_14 : decode cX4_setTaker 14 = .ok (.aload_n 0, 1) := by decide +kernel
theorem dX4_setTaker_15 : decode cX4_setTaker 15 = .ok (.getfield 28, 3) := by decide +kernel
theorem dX4_setTaker_18 : decode cX4_setTaker 18 = .ok (.iconst (-1), 1) := by decide +kernel
theorem dX4_setTaker_19 : decode cX4_setTaker 19 = .ok (.iload_n 1, 1) := by decide +kernel
theorem dX4_setTaker_20 : decode cX4_setTaker 20 = .ok (.isub, 1) := by decide +kernel
theorem dX4_setTaker_21 : decode cX4_setTaker 21 = .ok (.iload_n 2, 1) := by decide +kernel
theorem dX4_setTaker_22 : decode cX4_setTaker 22 = .ok (.iastore, 1) := by decide +kernel
theorem dX4_setTaker_23 : decode cX4_setTaker 23 = .ok (.return_, 1) := by decide +kernel
theorem dX5_init_0 : decode cX5_init 0 = .ok (.aload_n 0, 1) := by decide +kernel
theorem dX5_init_1 : decode cX5_init 1 = .ok (.invokespecial 3, 3) := by decide +kernel
theorem dX5_init_4 : decode cX5_init 4 = .ok (.aload_n 0, 1) := by decide +kernel
theorem dX5_init_5 : decode cX5_init 5 = .ok (.sipush 5000, 3) := by decide +kernel
theorem dX5_init_8 : decode cX5_init 8 = .ok (.newarray .boolean, 2) := by decide +kernel
theorem dX5_init_10 : decode cX5_init 10 = .ok (.putfield 9, 3) := by decide +kernel
theorem dX5_init_13 : decode cX5_init 13 = .ok (.aload_n 0, 1) := by decide +kernel
theorem dX5_init_14 : decode cX5_init 14 = .ok (.sipush 300, 3) := by decide +kernel
theorem dX5_init_17 : decode cX5_init 17 = .ok (.newarray .int, 2) := by decide +kernel
theorem dX5_init_19 : decode cX5_init 19 = .ok (.putfield 15, 3) := by decide +kernel
theorem dX5_init_22 : decode cX5_init 22 = .ok (.aload_n 0, 1) := by decide +kernel
theorem dX5_init_23 : decode cX5_init 23 = .ok (.sipush 300, 3) := by decide +kernel
theorem dX5_init_26 : decode cX5_init 26 = .ok (.newarray .int, 2) := by decide +kernel
theorem dX5_init_28 : decode cX5_init 28 = .ok (.putfield 19, 3) := by decide +kernel
theorem dX5_init_31 : decode cX5_init 31 = .ok (.aload_n 0, 1) := by decide +kernel
theorem dX5_init_32 : decode cX5_init 32 = .ok (.sipush 300, 3) := by decide +kernel
theorem dX5_init_35 : decode cX5_init 35 = .ok (.newarray .int, 2) := by decide +kernel
theorem dX5_init_37 : decode cX5_init 37 = .ok (.putfield 22, 3) := by decide +kernel
theorem dX5_init_40 : decode cX5_init 40 = .ok (.aload_n 0, 1) := by decide +kernel
theorem dX5_init_41 : decode cX5_init 41 = .ok (.sipush 300, 3) := by decide +kernel
theorem dX5_init_44 : decode cX5_init 44 = .ok (.newarray .int, 2) := by decide +kernel
theorem dX5_init_46 : decode cX5_init 46 = .ok (.putfield 25, 3) := by decide +kernel
theorem dX5_init_49 : decode cX5_init 49 = .ok (.aload_n 0, 1) := by decide +kernel
theorem dX5_init_50 : decode cX5_init 50 = .ok (.sipush 300, 3) := by decide +kernel
theorem dX5_init_53 : decode cX5_init 53 = .ok (.newarray .int, 2) := by decide +kernel
theorem dX5_init_55 : decode cX5_init 55 = .ok (.putfield 28, 3) := by decide +kernel
theorem dX5_init_58 : decode cX5_init 58 = .ok (.aload_n 0, 1) := by decide +kernel
theorem dX5_init_59 : decode cX5_init 59 = .ok (.sipush 300, 3) := by decide +kernel
theorem dX5_init_62 : decode cX5_init 62 = .ok (.newarray .int, 2) := by decide +kernel
theorem dX5_init_64 : decode cX5_init 64 = .ok (.putfield 31, 3) := by decide +kernel
theorem dX5_init_67 : decode cX5_init 67 = .ok (.aload_n 0, 1) := by decide +kernel
theorem dX5_init_68 : decode cX5_init 68 = .ok (.sipush 300, 3) := by decide +kernel
theorem dX5_init_71 : decode cX5_init 71 = .ok (.newarray .int, 2) := by decide +kernel
theorem dX5_init_73 : decode cX5_init 73 = .ok (.putfield 34, 3) := by decide +kernel
theorem dX5_init_76 : decode cX5_init 76 = .ok (.aload_n 0, 1) := by decide +kernel
theorem dX5_init_77 : decode cX5_init 77 = .ok (.aload_n 1, 1) := by decide +kernel
theorem dX5_init_78 : decode cX5_init 78 = .ok (.putfield 37, 3) := by decide +kernel
theorem dX5_init_81 : decode cX5_init 81 = .ok (.return_, 1) := by decide +kernel
theorem dX5_empty_0 : decode cX5_empty 0 = .ok (.aload_n 0, 1) := by decide +kernel
theorem dX5_empty_1 : decode cX5_empty 1 = .ok (.iconst 0, 1) := by decide +kernel
theorem dX5_empty_2 : decode cX5_empty 2 = .ok (.putfield 41, 3) := by decide +kernel
theorem dX5_empty_5 : decode cX5_empty 5 = .ok (.return_, 1) := by decide +kernel
theorem dX5_nodeAt_0 : decode cX5_nodeAt 0 = .ok (.aload_n 0, 1) := by decide +kernel
theorem dX5_nodeAt_1 : decode cX5_nodeAt 1 = .ok (.getfield 15, 3) := by decide +kernel
theorem dX5_nodeAt_4 : decode cX5_nodeAt 4 = .ok (.iload_n 1, 1) := by decide +kernel
theorem dX5_nodeAt_5 : decode cX5_nodeAt 5 = .ok (.iaload, 1) := by decide +kernel
theorem dX5_nodeAt_6 : decode cX5_nodeAt 6 = .ok (.ireturn, 1) := by decide +kernel
theorem dX5_placeOf_0 : decode cX5_placeOf 0 = .ok (.aload_n 0, 1) := by decide +kernel
theorem dX5_placeOf_1 : decode cX5_placeOf 1 = .ok (.getfield 19, 3) := by decide +kernel
theorem dX5_placeOf_4 : decode cX5_placeOf 4 = .ok (.iload_n 1, 1) := by decide +kernel
theorem dX5_placeOf_5 : decode cX5_placeOf 5 = .ok (.iaload, 1) := by decide +kernel
theorem dX5_placeOf_6 : decode cX5_placeOf 6 = .ok (.ireturn, 1) := by decide +kernel
theorem dX5_ringArc_0 : decode cX5_ringArc 0 = .ok (.iload_n 1, 1) := by decide +kernel
theorem dX5_ringArc_1 : decode cX5_ringArc 1 = .ok (.aload_n 0, 1) := by decide +kernel
theorem dX5_ringArc_2 : decode cX5_ringArc 2 = .ok (.getfield 41, 3) := by decide +kernel
theorem dX5_ringArc_5 : decode cX5_ringArc 5 = .ok (.if_icmp .ge 12, 3) := by decide +kernel
theorem dX5_ringArc_8 : decode cX5_ringArc 8 = .ok (.aload_n 0, 1) := by decide +kernel
theorem dX5_ringArc_9 : decode cX5_ringArc 9 = .ok (.getfield 34, 3) := by decide +kernel
theorem dX5_ringArc_12 : decode cX5_ringArc 12 = .ok (.iload_n 1, 1) := by decide +kernel
theorem dX5_ringArc_13 : decode cX5_ringArc 13 = .ok (.iaload, 1) := by decide +kernel
theorem dX5_ringArc_14 : decode cX5_ringArc 14 = .ok (.goto 4, 3) := by decide +kernel
theorem dX5_ringArc_17 : decode cX5_ringArc 17 = .ok (.iconst (-1), 1) := by decide +kernel
theorem dX5_ringArc_18 : decode cX5_ringArc 18 = .ok (.ireturn, 1) := by decide +kernel
theorem dX5_looseArcs_0 : decode cX5_looseArcs 0 = .ok (.iconst 0, 1) := by decide +kernel
theorem dX5_looseArcs_1 : decode cX5_looseArcs 1 = .ok (.istore_n 1, 1) := by decide +kernel
theorem dX5_looseArcs_2 : decode cX5_looseArcs 2 = .ok (.iconst 0, 1) := by decide +kernel
theorem dX5_looseArcs_3 : decode cX5_looseArcs 3 = .ok (.istore_n 2, 1) := by decide +kernel
theorem dX5_looseArcs_4 : decode cX5_looseArcs 4 = .ok (.iload_n 2, 1) := by decide +kernel
theorem dX5_looseArcs_5 : decode cX5_looseArcs 5 = .ok (.aload_n 0, 1) := by decide +kernel
theorem dX5_looseArcs_6 : decode cX5_looseArcs 6 = .ok (.getfield 37, 3) := by decide +kernel
theorem dX5_looseArcs_9 : decode cX5_looseArcs 9 = .ok (.getfield 45, 3) := by decide +kernel
theorem dX5_looseArcs_12 : decode cX5_looseArcs 12 = .ok (.if_icmp .ge 29, 3) := by decide +kernel
theorem dX5_looseArcs_15 : decode cX5_looseArcs 15 = .ok (.aload_n 0, 1) := by decide +kernel
theorem dX5_looseArcs_16 : decode cX5_looseArcs 16 = .ok (.getfield 9, 3) := by decide +kernel
theorem dX5_looseArcs_19 : decode cX5_looseArcs 19 = .ok (.aload_n 0, 1) := by decide +kernel
theorem dX5_looseArcs_20 : decode cX5_looseArcs 20 = .ok (.getfield 37, 3) := by decide +kernel
theorem dX5_looseArcs_23 : decode cX5_looseArcs 23 = .ok (.getfield 50, 3) := by decide +kernel
theorem dX5_looseArcs_26 : decode cX5_looseArcs 26 = .ok (.iload_n 2, 1) := by decide +kernel
theorem dX5_looseArcs_27 : decode cX5_looseArcs 27 = .ok (.iaload, 1) := by decide +kernel
theorem dX5_looseArcs_28 : decode cX5_looseArcs 28 = .ok (.baload, 1) := by decide +kernel
theorem dX5_looseArcs_29 : decode cX5_looseArcs 29 = .ok (.ifCond .eq 6, 3) := by decide +kernel
theorem dX5_looseArcs_32 : decode cX5_looseArcs 32 = .ok (.iinc 1 1, 3) := by decide +kernel
theorem dX5_looseArcs_35 : decode cX5_looseArcs 35 = .ok (.iinc 2 1, 3) := by decide +kernel
theorem dX5_looseArcs_38 : decode cX5_looseArcs 38 = .ok (.goto (-34), 3) := by decide +kernel
theorem dX5_looseArcs_41 : decode cX5_looseArcs 41 = .ok (.iload_n 1, 1) := by decide +kernel
theorem dX5_looseArcs_42 : decode cX5_looseArcs 42 = .ok (.ireturn, 1) := by decide +kernel
theorem dX5_holds_0 : decode cX5_holds 0 = .ok (.iconst 0, 1) := by decide +kernel
theorem dX5_holds_1 : decode cX5_holds 1 = .ok (.istore_n 1, 1) := by decide +kernel
theorem dX5_holds_2 : decode cX5_holds 2 = .ok (.iload_n 1, 1) := by decide +kernel
theorem dX5_holds_3 : decode cX5_holds 3 = .ok (.aload_n 0, 1) := by decide +kernel
theorem dX5_holds_4 : decode cX5_holds 4 = .ok (.getfield 37, 3) := by decide +kernel
theorem dX5_holds_7 : decode cX5_holds 7 = .ok (.getfield 53, 3) := by decide +kernel
theorem dX5_holds_10 : decode cX5_holds 10 = .ok (.if_icmp .ge 26, 3) := by decide +kernel
theorem dX5_holds_13 : decode cX5_holds 13 = .ok (.aload_n 0, 1) := by decide +kernel
theorem dX5_holds_14 : decode cX5_holds 14 = .ok (.getfield 19, 3) := by decide +kernel
theorem dX5_holds_17 : decode cX5_holds 17 = .ok (.aload_n 0, 1) := by decide +kernel
theorem dX5_holds_18 : decode cX5_holds 18 = .ok (.getfield 15, 3) := by decide +kernel
theorem dX5_holds_21 : decode cX5_holds 21 = .ok (.iload_n 1, 1) := by decide +kernel
theorem dX5_holds_22 : decode cX5_holds 22 = .ok (.iaload, 1) := by decide +kernel
theorem dX5_holds_23 : decode cX5_holds 23 = .ok (.iaload, 1) := by decide +kernel
theorem dX5_holds_24 : decode cX5_holds 24 = .ok (.iload_n 1, 1) := by decide +kernel
theorem dX5_holds_25 : decode cX5_holds 25 = .ok (.if_icmp .eq 5, 3) := by decide +kernel
theorem dX5_holds_28 : decode cX5_holds 28 = .ok (.iconst 0, 1) := by decide +kernel
theorem dX5_holds_29 : decode cX5_holds 29 = .ok (.ireturn, 1) := by decide +kernel
theorem dX5_holds_30 : decode cX5_holds 30 = .ok (.iinc 1 1, 3) := by decide +kernel
theorem dX5_holds_33 : decode cX5_holds 33 = .ok (.goto (-31), 3) := by decide +kernel
theorem dX5_holds_36 : decode cX5_holds 36 = .ok (.iconst 0, 1) := by decide +kernel
theorem dX5_holds_37 : decode cX5_holds 37 = .ok (.istore_n 1, 1) := by decide +kernel
theorem dX5_holds_38 : decode cX5_holds 38 = .ok (.iload_n 1, 1) := by decide +kernel
theorem dX5_holds_39 : decode cX5_holds 39 = .ok (.aload_n 0, 1) := by decide +kernel
theorem dX5_holds_40 : decode cX5_holds 40 = .ok (.getfield 37, 3) := by decide +kernel
theorem dX5_holds_43 : decode cX5_holds 43 = .ok (.getfield 45, 3) := by decide +kernel
theorem dX5_holds_46 : decode cX5_holds 46 = .ok (.if_icmp .ge 61, 3) := by decide +kernel
theorem dX5_holds_49 : decode cX5_holds 49 = .ok (.aload_n 0, 1) := by decide +kernel
theorem dX5_holds_50 : decode cX5_holds 50 = .ok (.getfield 37, 3) := by decide +kernel
theorem dX5_holds_53 : decode cX5_holds 53 = .ok (.getfield 50, 3) := by decide +kernel
theorem dX5_holds_56 : decode cX5_holds 56 = .ok (.iload_n 1, 1) := by decide +kernel
theorem dX5_holds_57 : decode cX5_holds 57 = .ok (.iaload, 1) := by decide +kernel
theorem dX5_holds_58 : decode cX5_holds 58 = .ok (.istore_n 2, 1) := by decide +kernel
theorem dX5_holds_59 : decode cX5_holds 59 = .ok (.aload_n 0, 1) := by decide +kernel
theorem dX5_holds_60 : decode cX5_holds 60 = .ok (.getfield 9, 3) := by decide +kernel
theorem dX5_holds_63 : decode cX5_holds 63 = .ok (.iload_n 2, 1) := by decide +kernel
theorem dX5_holds_64 : decode cX5_holds 64 = .ok (.baload, 1) := by decide +kernel
theorem dX5_holds_65 : decode cX5_holds 65 = .ok (.ifCond .ne 36, 3) := by decide +kernel
theorem dX5_holds_68 : decode cX5_holds 68 = .ok (.aload_n 0, 1) := by decide +kernel
theorem dX5_holds_69 : decode cX5_holds 69 = .ok (.getfield 19, 3) := by decide +kernel
theorem dX5_holds_72 : decode cX5_holds 72 = .ok (.aload_n 0, 1) := by decide +kernel
theorem dX5_holds_73 : decode cX5_holds 73 = .ok (.getfield 37, 3) := by decide +kernel
theorem dX5_holds_76 : decode cX5_holds 76 = .ok (.getfield 55, 3) := by decide +kernel
theorem dX5_holds_79 : decode cX5_holds 79 = .ok (.iload_n 2, 1) := by decide +kernel
theorem dX5_holds_80 : decode cX5_holds 80 = .ok (.iaload, 1) := by decide +kernel
theorem dX5_holds_81 : decode cX5_holds 81 = .ok (.iaload, 1) := by decide +kernel
theorem dX5_holds_82 : decode cX5_holds 82 = .ok (.aload_n 0, 1) := by decide +kernel
theorem dX5_holds_83 : decode cX5_holds 83 = .ok (.getfield 19, 3) := by decide +kernel
theorem dX5_holds_86 : decode cX5_holds 86 = .ok (.aload_n 0, 1) := by decide +kernel
theorem dX5_holds_87 : decode cX5_holds 87 = .ok (.getfield 37, 3) := by decide +kernel
theorem dX5_holds_90 : decode cX5_holds 90 = .ok (.getfield 58, 3) := by decide +kernel
theorem dX5_holds_93 : decode cX5_holds 93 = .ok (.iload_n 2, 1) := by decide +kernel
theorem dX5_holds_94 : decode cX5_holds 94 = .ok (.iaload, 1) := by decide +kernel
theorem dX5_holds_95 : decode cX5_holds 95 = .ok (.iaload, 1) := by decide +kernel
theorem dX5_holds_96 : decode cX5_holds 96 = .ok (.if_icmp .lt 5, 3) := by decide +kernel
theorem dX5_holds_99 : decode cX5_holds 99 = .ok (.iconst 0, 1) := by decide +kernel
theorem dX5_holds_100 : decode cX5_holds 100 = .ok (.ireturn, 1) := by decide +kernel
theorem dX5_holds_101 : decode cX5_holds 101 = .ok (.iinc 1 1, 3) := by decide +kernel
theorem dX5_holds_104 : decode cX5_holds 104 = .ok (.goto (-66), 3) := by decide +kernel
theorem dX5_holds_107 : decode cX5_holds 107 = .ok (.iconst 1, 1) := by decide +kernel
theorem dX5_holds_108 : decode cX5_holds 108 = .ok (.ireturn, 1) := by decide +kernel
theorem dX5_nodeAdded_0 : decode cX5_nodeAdded 0 = .ok (.aload_n 0, 1) := by decide +kernel
theorem dX5_nodeAdded_1 : decode cX5_nodeAdded 1 = .ok (.getfield 15, 3) := by decide +kernel
theorem dX5_nodeAdded_4 : decode cX5_nodeAdded 4 = .ok (.iload_n 1, 1) := by decide +kernel
theorem dX5_nodeAdded_5 : decode cX5_nodeAdded 5 = .ok (.iload_n 1, 1) := by decide +kernel
theorem dX5_nodeAdded_6 : decode cX5_nodeAdded 6 = .ok (.iastore, 1) := by decide +kernel
theorem dX5_nodeAdded_7 : decode cX5_nodeAdded 7 = .ok (.aload_n 0, 1) := by decide +kernel
theorem dX5_nodeAdded_8 : decode cX5_nodeAdded 8 = .ok (.getfield 19, 3) := by decide +kernel
theorem dX5_nodeAdded_11 : decode cX5_nodeAdded 11 = .ok (.iload_n 1, 1) := by decide +kernel
theorem dX5_nodeAdded_12 : decode cX5_nodeAdded 12 = .ok (.iload_n 1, 1) := by decide +kernel
theorem dX5_nodeAdded_13 : decode cX5_nodeAdded 13 = .ok (.iastore, 1) := by decide +kernel
theorem dX5_nodeAdded_14 : decode cX5_nodeAdded 14 = .ok (.return_, 1) := by decide +kernel
theorem dX5_tellRing_0 : decode cX5_tellRing 0 = .ok (.iload_n 1, 1) := by decide +kernel
theorem dX5_tellRing_1 : decode cX5_tellRing 1 = .ok (.iload_n 2, 1) := by decide +kernel
theorem dX5_tellRing_2 : decode cX5_tellRing 2 = .ok (.if_icmp .ne 10, 3) := by decide +kernel
theorem dX5_tellRing_5 : decode cX5_tellRing 5 = .ok (.aload_n 0, 1) := by decide +kernel
theorem dX5_tellRing_6 : decode cX5_tellRing 6 = .ok (.iconst 0, 1) := by decide +kernel
theorem dX5_tellRing_7 : decode cX5_tellRing 7 = .ok (.putfield 41, 3) := by decide +kernel
theorem dX5_tellRing_10 : decode cX5_tellRing 10 = .ok (.iconst 1, 1) := by decide +kernel
theorem dX5_tellRing_11 : decode cX5_tellRing 11 = .ok (.ireturn, 1) := by decide +kernel
theorem dX5_tellRing_12 : decode cX5_tellRing 12 = .ok (.aload_n 0, 1) := by decide +kernel
theorem dX5_tellRing_13 : decode cX5_tellRing 13 = .ok (.iload_n 2, 1) := by decide +kernel
theorem dX5_tellRing_14 : decode cX5_tellRing 14 = .ok (.iload_n 1, 1) := by decide +kernel
theorem dX5_tellRing_15 : decode cX5_tellRing 15 = .ok (.invokevirtual 61, 3) := by decide +kernel
theorem dX5_tellRing_18 : decode cX5_tellRing 18 = .ok (.ifCond .ne 5, 3) := by decide +kernel
theorem dX5_tellRing_21 : decode cX5_tellRing 21 = .ok (.iconst 0, 1) := by decide +kernel
theorem dX5_tellRing_22 : decode cX5_tellRing 22 = .ok (.ireturn, 1) := by decide +kernel
theorem dX5_tellRing_23 : decode cX5_tellRing 23 = .ok (.iload_n 2, 1) := by decide +kernel
theorem dX5_tellRing_24 : decode cX5_tellRing 24 = .ok (.istore_n 3, 1) := by decide +kernel
theorem dX5_tellRing_25 : decode cX5_tellRing 25 = .ok (.aload_n 0, 1) := by decide +kernel
theorem dX5_tellRing_26 : decode cX5_tellRing 26 = .ok (.iconst 0, 1) := by decide +kernel
theorem dX5_tellRing_27 : decode cX5_tellRing 27 = .ok (.putfield 41, 3) := by decide +kernel
theorem dX5_tellRing_30 : decode cX5_tellRing 30 = .ok (.aload_n 0, 1) := by decide +kernel
theorem dX5_tellRing_31 : decode cX5_tellRing 31 = .ok (.getfield 25, 3) := by decide +kernel
theorem dX5_tellRing_34 : decode cX5_tellRing 34 = .ok (.iload_n 2, 1) := by decide +kernel
theorem dX5_tellRing_35 : decode cX5_tellRing 35 = .ok (.iaload, 1) := by decide +kernel
theorem dX5_tellRing_36 : decode cX5_tellRing 36 = .ok (.istore 4, 2) := by decide +kernel
theorem dX5_tellRing_38 : decode cX5_tellRing 38 = .ok (.iload 4, 2) := by decide +kernel
theorem dX5_tellRing_40 : decode cX5_tellRing 40 = .ok (.ifCond .le 60, 3) := by decide +kernel
theorem dX5_tellRing_43 : decode cX5_tellRing 43 = .ok (.aload_n 0, 1) := by decide +kernel
theorem dX5_tellRing_44 : decode cX5_tellRing 44 = .ok (.iload_n 3, 1) := by decide +kernel
theorem dX5_tellRing_45 : decode cX5_tellRing 45 = .ok (.iload 4, 2) := by decide +kernel
theorem dX5_tellRing_47 : decode cX5_tellRing 47 = .ok (.iconst 1, 1) := by decide +kernel
theorem dX5_tellRing_48 : decode cX5_tellRing 48 = .ok (.isub, 1) := by decide +kernel
theorem dX5_tellRing_49 : decode cX5_tellRing 49 = .ok (.invokevirtual 65, 3) := by decide +kernel
theorem dX5_tellRing_52 : decode cX5_tellRing 52 = .ok (.istore 5, 2) := by decide +kernel
theorem dX5_tellRing_54 : decode cX5_tellRing 54 = .ok (.iload 5, 2) := by decide +kernel
theorem dX5_tellRing_56 : decode cX5_tellRing 56 = .ok (.iconst (-1), 1) := by decide +kernel
theorem dX5_tellRing_57 : decode cX5_tellRing 57 = .ok (.if_icmp .ne 5, 3) := by decide +kernel
theorem dX5_tellRing_60 : decode cX5_tellRing 60 = .ok (.iconst 1, 1) := by decide +kernel
theorem dX5_tellRing_61 : decode cX5_tellRing 61 = .ok (.ireturn, 1) := by decide +kernel
theorem dX5_tellRing_62 : decode cX5_tellRing 62 = .ok (.aload_n 0, 1) := by decide +kernel
theorem dX5_tellRing_63 : decode cX5_tellRing 63 = .ok (.getfield 34, 3) := by decide +kernel
theorem dX5_tellRing_66 : decode cX5_tellRing 66 = .ok (.aload_n 0, 1) := by decide +kernel
theorem dX5_tellRing_67 : decode cX5_tellRing 67 = .ok (.getfield 41, 3) := by decide +kernel
theorem dX5_tellRing_70 : decode cX5_tellRing 70 = .ok (.iload 5, 2) := by decide +kernel
theorem dX5_tellRing_72 : decode cX5_tellRing 72 = .ok (.iastore, 1) := by decide +kernel
theorem dX5_tellRing_73 : decode cX5_tellRing 73 = .ok (.aload_n 0, 1) := by decide +kernel
theorem dX5_tellRing_74 : decode cX5_tellRing 74 = .ok (.dup, 1) := by decide +kernel
theorem dX5_tellRing_75 : decode cX5_tellRing 75 = .ok (.getfield 41, 3) := by decide +kernel
theorem dX5_tellRing_78 : decode cX5_tellRing 78 = .ok (.iconst 1, 1) := by decide +kernel
theorem dX5_tellRing_79 : decode cX5_tellRing 79 = .ok (.iadd, 1) := by decide +kernel
theorem dX5_tellRing_80 : decode cX5_tellRing 80 = .ok (.putfield 41, 3) := by decide +kernel
theorem dX5_tellRing_83 : decode cX5_tellRing 83 = .ok (.aload_n 0, 1) := by decide +kernel
theorem dX5_tellRing_84 : decode cX5_tellRing 84 = .ok (.getfield 37, 3) := by decide +kernel
theorem dX5_tellRing_87 : decode cX5_tellRing 87 = .ok (.getfield 58, 3) := by decide +kernel
theorem dX5_tellRing_90 : decode cX5_tellRing 90 = .ok (.iload 5, 2) := by decide +kernel
theorem dX5_tellRing_92 : decode cX5_tellRing 92 = .ok (.iaload, 1) := by decide +kernel
theorem dX5_tellRing_93 : decode cX5_tellRing 93 = .ok (.istore_n 3, 1) := by decide +kernel
theorem dX5_tellRing_94 : decode cX5_tellRing 94 = .ok (.iinc 4 (-1), 3) := by decide +kernel
theorem dX5_tellRing_97 : decode cX5_tellRing 97 = .ok (.goto (-59), 3) := by decide +kernel
theorem dX5_tellRing_100 : decode cX5_tellRing 100 = .ok (.iconst 1, 1) := by decide +kernel
theorem dX5_tellRing_101 : decode cX5_tellRing 101 = .ok (.ireturn, 1) := by decide +kernel
theorem dX5_arcAdded_0 : decode cX5_arcAdded 0 = .ok (.aload_n 0, 1) := by decide +kernel
theorem dX5_arcAdded_1 : decode cX5_arcAdded 1 = .ok (.getfield 9, 3) := by decide +kernel
theorem dX5_arcAdded_4 : decode cX5_arcAdded 4 = .ok (.iload_n 1, 1) := by decide +kernel
theorem dX5_arcAdded_5 : decode cX5_arcAdded 5 = .ok (.iload_n 2, 1) := by decide +kernel
theorem dX5_arcAdded_6 : decode cX5_arcAdded 6 = .ok (.bastore, 1) := by decide +kernel
theorem dX5_arcAdded_7 : decode cX5_arcAdded 7 = .ok (.iload_n 2, 1) := by decide +kernel
theorem dX5_arcAdded_8 : decode cX5_arcAdded 8 = .ok (.ifCond .ne 25, 3) := by decide +kernel
theorem dX5_arcAdded_11 : decode cX5_arcAdded 11 = .ok (.aload_n 0, 1) := by decide +kernel
theorem dX5_arcAdded_12 : decode cX5_arcAdded 12 = .ok (.aload_n 0, 1) := by decide +kernel
theorem dX5_arcAdded_13 : decode cX5_arcAdded 13 = .ok (.getfield 37, 3) := by decide +kernel
theorem dX5_arcAdded_16 : decode cX5_arcAdded 16 = .ok (.getfield 55, 3) := by decide +kernel
theorem dX5_arcAdded_19 : decode cX5_arcAdded 19 = .ok (.iload_n 1, 1) := by decide +kernel
theorem dX5_arcAdded_20 : decode cX5_arcAdded 20 = .ok (.iaload, 1) := by decide +kernel
theorem dX5_arcAdded_21 : decode cX5_arcAdded 21 = .ok (.aload_n 0, 1) := by decide +kernel
theorem dX5_arcAdded_22 : decode cX5_arcAdded 22 = .ok (.getfield 37, 3) := by decide +kernel
theorem dX5_arcAdded_25 : decode cX5_arcAdded 25 = .ok (.getfield 58, 3) := by decide +kernel
theorem dX5_arcAdded_28 : decode cX5_arcAdded 28 = .ok (.iload_n 1, 1) := by decide +kernel
theorem dX5_arcAdded_29 : decode cX5_arcAdded 29 = .ok (.iaload, 1) := by decide +kernel
theorem dX5_arcAdded_30 : decode cX5_arcAdded 30 = .ok (.invokevirtual 69, 3) := by decide +kernel
theorem dX5_arcAdded_33 : decode cX5_arcAdded 33 = .ok (.return_, 1) := by decide +kernel
theorem dX5_arcRemoved_0 : decode cX5_arcRemoved 0 = .ok (.aload_n 0, 1) := by decide +kernel
theorem dX5_arcRemoved_1 : decode cX5_arcRemoved 1 = .ok (.getfield 9, 3) := by decide +kernel
theorem dX5_arcRemoved_4 : decode cX5_arcRemoved 4 = .ok (.iload_n 1, 1) := by decide +kernel
theorem dX5_arcRemoved_5 : decode cX5_arcRemoved 5 = .ok (.baload, 1) := by decide +kernel
theorem dX5_arcRemoved_6 : decode cX5_arcRemoved 6 = .ok (.ifCond .eq 4, 3) := by decide +kernel
theorem dX5_arcRemoved_9 : decode cX5_arcRemoved 9 = .ok (.return_, 1) := by decide +kernel
theorem dX5_arcRemoved_10 : decode cX5_arcRemoved 10 = .ok (.iconst 0, 1) := by decide +kernel
theorem dX5_arcRemoved_11 : decode cX5_arcRemoved 11 = .ok (.istore_n 2, 1) := by decide +kernel
theorem dX5_arcRemoved_12 : decode cX5_arcRemoved 12 = .ok (.iload_n 2, 1) := by decide +kernel
theorem dX5_arcRemoved_13 : decode cX5_arcRemoved 13 = .ok (.aload_n 0, 1) := by decide +kernel
theorem dX5_arcRemoved_14 : decode cX5_arcRemoved 14 = .ok (.getfield 37, 3) := by decide +kernel
theorem dX5_arcRemoved_17 : decode cX5_arcRemoved 17 = .ok (.getfield 45, 3) := by decide +kernel
theorem dX5_arcRemoved_20 : decode cX5_arcRemoved 20 = .ok (.if_icmp .ge 83, 3) := by decide +kernel
theorem dX5_arcRemoved_23 : decode cX5_arcRemoved 23 = .ok (.aload_n 0, 1) := by decide +kernel
theorem dX5_arcRemoved_24 : decode cX5_arcRemoved 24 = .ok (.getfield 37, 3) := by decide +kernel
theorem dX5_arcRemoved_27 : decode cX5_arcRemoved 27 = .ok (.getfield 50, 3) := by decide +kernel
theorem dX5_arcRemoved_30 : decode cX5_arcRemoved 30 = .ok (.iload_n 2, 1) := by decide +kernel
theorem dX5_arcRemoved_31 : decode cX5_arcRemoved 31 = .ok (.iaload, 1) := by decide +kernel
theorem dX5_arcRemoved_32 : decode cX5_arcRemoved 32 = .ok (.istore_n 3, 1) := by decide +kernel
theorem dX5_arcRemoved_33 : decode cX5_arcRemoved 33 = .ok (.aload_n 0, 1) := by decide +kernel
theorem dX5_arcRemoved_34 : decode cX5_arcRemoved 34 = .ok (.getfield 37, 3) := by decide +kernel
theorem dX5_arcRemoved_37 : decode cX5_arcRemoved 37 = .ok (.getfield 55, 3) := by decide +kernel
theorem dX5_arcRemoved_40 : decode cX5_arcRemoved 40 = .ok (.iload_n 3, 1) := by decide +kernel
theorem dX5_arcRemoved_41 : decode cX5_arcRemoved 41 = .ok (.iaload, 1) := by decide +kernel
theorem dX5_arcRemoved_42 : decode cX5_arcRemoved 42 = .ok (.istore 4, 2) := by decide +kernel
theorem dX5_arcRemoved_44 : decode cX5_arcRemoved 44 = .ok (.aload_n 0, 1) := by decide +kernel
theorem dX5_arcRemoved_45 : decode cX5_arcRemoved 45 = .ok (.getfield 37, 3) := by decide +kernel
theorem dX5_arcRemoved_48 : decode cX5_arcRemoved 48 = .ok (.getfield 58, 3) := by decide +kernel
theorem dX5_arcRemoved_51 : decode cX5_arcRemoved 51 = .ok (.iload_n 3, 1) := by decide +kernel
theorem dX5_arcRemoved_52 : decode cX5_arcRemoved 52 = .ok (.iaload, 1) := by decide +kernel
theorem dX5_arcRemoved_53 : decode cX5_arcRemoved 53 = .ok (.istore 5, 2) := by decide +kernel
theorem dX5_arcRemoved_55 : decode cX5_arcRemoved 55 = .ok (.aload_n 0, 1) := by decide +kernel
theorem dX5_arcRemoved_56 : decode cX5_arcRemoved 56 = .ok (.getfield 9, 3) := by decide +kernel
theorem dX5_arcRemoved_59 : decode cX5_arcRemoved 59 = .ok (.iload_n 3, 1) := by decide +kernel
theorem dX5_arcRemoved_60 : decode cX5_arcRemoved 60 = .ok (.baload, 1) := by decide +kernel
theorem dX5_arcRemoved_61 : decode cX5_arcRemoved 61 = .ok (.ifCond .eq 36, 3) := by decide +kernel
theorem dX5_arcRemoved_64 : decode cX5_arcRemoved 64 = .ok (.iload 4, 2) := by decide +kernel
theorem dX5_arcRemoved_66 : decode cX5_arcRemoved 66 = .ok (.iload 5, 2) := by decide +kernel
theorem dX5_arcRemoved_68 : decode cX5_arcRemoved 68 = .ok (.if_icmp .eq 29, 3) := by decide +kernel
theorem dX5_arcRemoved_71 : decode cX5_arcRemoved 71 = .ok (.aload_n 0, 1) := by decide +kernel
theorem dX5_arcRemoved_72 : decode cX5_arcRemoved 72 = .ok (.iload 5, 2) := by decide +kernel
theorem dX5_arcRemoved_74 : decode cX5_arcRemoved 74 = .ok (.iload 4, 2) := by decide +kernel
theorem dX5_arcRemoved_76 : decode cX5_arcRemoved 76 = .ok (.invokevirtual 61, 3) := by decide +kernel
theorem dX5_arcRemoved_79 : decode cX5_arcRemoved 79 = .ok (.ifCond .ne 18, 3) := by decide +kernel
theorem dX5_arcRemoved_82 : decode cX5_arcRemoved 82 = .ok (.aload_n 0, 1) := by decide +kernel
theorem dX5_arcRemoved_83 : decode cX5_arcRemoved 83 = .ok (.getfield 9, 3) := by decide +kernel
theorem dX5_arcRemoved_86 : decode cX5_arcRemoved 86 = .ok (.iload_n 3, 1) := by decide +kernel
theorem dX5_arcRemoved_87 : decode cX5_arcRemoved 87 = .ok (.iconst 0, 1) := by decide +kernel
theorem dX5_arcRemoved_88 : decode cX5_arcRemoved 88 = .ok (.bastore, 1) := by decide +kernel
theorem dX5_arcRemoved_89 : decode cX5_arcRemoved 89 = .ok (.aload_n 0, 1) := by decide +kernel
theorem dX5_arcRemoved_90 : decode cX5_arcRemoved 90 = .ok (.iload 4, 2) := by decide +kernel
theorem dX5_arcRemoved_92 : decode cX5_arcRemoved 92 = .ok (.iload 5, 2) := by decide +kernel
theorem dX5_arcRemoved_94 : decode cX5_arcRemoved 94 = .ok (.invokevirtual 69, 3) := by decide +kernel
theorem dX5_arcRemoved_97 : decode cX5_arcRemoved 97 = .ok (.iinc 2 1, 3) := by decide +kernel
theorem dX5_arcRemoved_100 : decode cX5_arcRemoved 100 = .ok (.goto (-88), 3) := by decide +kernel
theorem dX5_arcRemoved_103 : decode cX5_arcRemoved 103 = .ok (.return_, 1) := by decide +kernel
theorem dX5_nextOnRing_0 : decode cX5_nextOnRing 0 = .ok (.aload_n 0, 1) := by decide +kernel
theorem dX5_nextOnRing_1 : decode cX5_nextOnRing 1 = .ok (.getfield 37, 3) := by decide +kernel
theorem dX5_nextOnRing_4 : decode cX5_nextOnRing 4 = .ok (.getfield 73, 3) := by decide +kernel
theorem dX5_nextOnRing_7 : decode cX5_nextOnRing 7 = .ok (.astore_n 3, 1) := by decide +kernel
theorem dX5_nextOnRing_8 : decode cX5_nextOnRing 8 = .ok (.aload_n 3, 1) := by decide +kernel
theorem dX5_nextOnRing_9 : decode cX5_nextOnRing 9 = .ok (.getfield 77, 3) := by decide +kernel
theorem dX5_nextOnRing_12 : decode cX5_nextOnRing 12 = .ok (.iload_n 1, 1) := by decide +kernel
theorem dX5_nextOnRing_13 : decode cX5_nextOnRing 13 = .ok (.iaload, 1) := by decide +kernel
theorem dX5_nextOnRing_14 : decode cX5_nextOnRing 14 = .ok (.istore 4, 2) := by decide +kernel
theorem dX5_nextOnRing_16 : decode cX5_nextOnRing 16 = .ok (.iload 4, 2) := by decide +kernel
theorem dX5_nextOnRing_18 : decode cX5_nextOnRing 18 = .ok (.aload_n 3, 1) := by decide +kernel
theorem dX5_nextOnRing_19 : decode cX5_nextOnRing 19 = .ok (.getfield 77, 3) := by decide +kernel
theorem dX5_nextOnRing_22 : decode cX5_nextOnRing 22 = .ok (.iload_n 1, 1) := by decide +kernel
theorem dX5_nextOnRing_23 : decode cX5_nextOnRing 23 = .ok (.iconst 1, 1) := by decide +kernel
theorem dX5_nextOnRing_24 : decode cX5_nextOnRing 24 = .ok (.iadd, 1) := by decide +kernel
theorem dX5_nextOnRing_25 : decode cX5_nextOnRing 25 = .ok (.iaload, 1) := by decide +kernel
theorem dX5_nextOnRing_26 : decode cX5_nextOnRing 26 = .ok (.if_icmp .ge 50, 3) := by decide +kernel
theorem dX5_nextOnRing_29 : decode cX5_nextOnRing 29 = .ok (.aload_n 3, 1) := by decide +kernel
theorem dX5_nextOnRing_30 : decode cX5_nextOnRing 30 = .ok (.getfield 82, 3) := by decide +kernel
theorem dX5_nextOnRing_33 : decode cX5_nextOnRing 33 = .ok (.iload 4, 2) := by decide +kernel
theorem dX5_nextOnRing_35 : decode cX5_nextOnRing 35 = .ok (.iaload, 1) := by decide +kernel
theorem dX5_nextOnRing_36 : decode cX5_nextOnRing 36 = .ok (.istore 5, 2) := by decide +kernel
theorem dX5_nextOnRing_38 : decode cX5_nextOnRing 38 = .ok (.aload_n 0, 1) := by decide +kernel
theorem dX5_nextOnRing_39 : decode cX5_nextOnRing 39 = .ok (.getfield 9, 3) := by decide +kernel
theorem dX5_nextOnRing_42 : decode cX5_nextOnRing 42 = .ok (.iload 5, 2) := by decide +kernel
theorem dX5_nextOnRing_44 : decode cX5_nextOnRing 44 = .ok (.baload, 1) := by decide +kernel
theorem dX5_nextOnRing_45 : decode cX5_nextOnRing 45 = .ok (.ifCond .ne 25, 3) := by decide +kernel
theorem dX5_nextOnRing_48 : decode cX5_nextOnRing 48 = .ok (.aload_n 0, 1) := by decide +kernel
theorem dX5_nextOnRing_49 : decode cX5_nextOnRing 49 = .ok (.getfield 25, 3) := by decide +kernel
theorem dX5_nextOnRing_52 : decode cX5_nextOnRing 52 = .ok (.aload_n 0, 1) := by decide +kernel
theorem dX5_nextOnRing_53 : decode cX5_nextOnRing 53 = .ok (.getfield 37, 3) := by decide +kernel
theorem dX5_nextOnRing_56 : decode cX5_nextOnRing 56 = .ok (.getfield 58, 3) := by decide +kernel
theorem dX5_nextOnRing_59 : decode cX5_nextOnRing 59 = .ok (.iload 5, 2) := by decide +kernel
theorem dX5_nextOnRing_61 : decode cX5_nextOnRing 61 = .ok (.iaload, 1) := by decide +kernel
theorem dX5_nextOnRing_62 : decode cX5_nextOnRing 62 = .ok (.iaload, 1) := by decide +kernel
theorem dX5_nextOnRing_63 : decode cX5_nextOnRing 63 = .ok (.iload_n 2, 1) := by decide +kernel
theorem dX5_nextOnRing_64 : decode cX5_nextOnRing 64 = .ok (.if_icmp .ne 6, 3) := by decide +kernel
theorem dX5_nextOnRing_67 : decode cX5_nextOnRing 67 = .ok (.iload 5, 2) := by decide +kernel
theorem dX5_nextOnRing_69 : decode cX5_nextOnRing 69 = .ok (.ireturn, 1) := by decide +kernel
theorem dX5_nextOnRing_70 : decode cX5_nextOnRing 70 = .ok (.iinc 4 1, 3) := by decide +kernel
theorem dX5_nextOnRing_73 : decode cX5_nextOnRing 73 = .ok (.goto (-57), 3) := by decide +kernel
theorem dX5_nextOnRing_76 : decode cX5_nextOnRing 76 = .ok (.iconst (-1), 1) := by decide +kernel
theorem dX5_nextOnRing_77 : decode cX5_nextOnRing 77 = .ok (.ireturn, 1) := by decide +kernel
theorem dX5_reaches_0 : decode cX5_reaches 0 = .ok (.aload_n 0, 1) := by decide +kernel
theorem dX5_reaches_1 : decode cX5_reaches 1 = .ok (.getfield 19, 3) := by decide +kernel
theorem dX5_reaches_4 : decode cX5_reaches 4 = .ok (.iload_n 1, 1) := by decide +kernel
theorem dX5_reaches_5 : decode cX5_reaches 5 = .ok (.iaload, 1) := by decide +kernel
theorem dX5_reaches_6 : decode cX5_reaches 6 = .ok (.aload_n 0, 1) := by decide +kernel
theorem dX5_reaches_7 : decode cX5_reaches 7 = .ok (.getfield 19, 3) := by decide +kernel
theorem dX5_reaches_10 : decode cX5_reaches 10 = .ok (.iload_n 2, 1) := by decide +kernel
theorem dX5_reaches_11 : decode cX5_reaches 11 = .ok (.iaload, 1) := by decide +kernel
theorem dX5_reaches_12 : decode cX5_reaches 12 = .ok (.if_icmp .le 5, 3) := by decide +kernel
theorem dX5_reaches_15 : decode cX5_reaches 15 = .ok (.iconst 0, 1) := by decide +kernel
theorem dX5_reaches_16 : decode cX5_reaches 16 = .ok (.ireturn, 1) := by decide +kernel
theorem dX5_reaches_17 : decode cX5_reaches 17 = .ok (.aload_n 0, 1) := by decide +kernel
theorem dX5_reaches_18 : decode cX5_reaches 18 = .ok (.iload_n 2, 1) := by decide +kernel
theorem dX5_reaches_19 : decode cX5_reaches 19 = .ok (.aload_n 0, 1) := by decide +kernel
theorem dX5_reaches_20 : decode cX5_reaches 20 = .ok (.getfield 37, 3) := by decide +kernel
theorem dX5_reaches_23 : decode cX5_reaches 23 = .ok (.getfield 85, 3) := by decide +kernel
theorem dX5_reaches_26 : decode cX5_reaches 26 = .ok (.aload_n 0, 1) := by decide +kernel
theorem dX5_reaches_27 : decode cX5_reaches 27 = .ok (.getfield 37, 3) := by decide +kernel
theorem dX5_reaches_30 : decode cX5_reaches 30 = .ok (.getfield 55, 3) := by decide +kernel
theorem dX5_reaches_33 : decode cX5_reaches 33 = .ok (.aload_n 0, 1) := by decide +kernel
theorem dX5_reaches_34 : decode cX5_reaches 34 = .ok (.getfield 25, 3) := by decide +kernel
theorem dX5_reaches_37 : decode cX5_reaches 37 = .ok (.invokevirtual 88, 3) := by decide +kernel
theorem dX5_reaches_40 : decode cX5_reaches 40 = .ok (.aload_n 0, 1) := by decide +kernel
theorem dX5_reaches_41 : decode cX5_reaches 41 = .ok (.getfield 25, 3) := by decide +kernel
theorem dX5_reaches_44 : decode cX5_reaches 44 = .ok (.iload_n 1, 1) := by decide +kernel
theorem dX5_reaches_45 : decode cX5_reaches 45 = .ok (.iaload, 1) := by decide +kernel
theorem dX5_reaches_46 : decode cX5_reaches 46 = .ok (.iconst (-1), 1) := by decide +kernel
theorem dX5_reaches_47 : decode cX5_reaches 47 = .ok (.if_icmp .eq 7, 3) := by decide +kernel
theorem dX5_reaches_50 : decode cX5_reaches 50 = .ok (.iconst 1, 1) := by decide +kernel
theorem dX5_reaches_51 : decode cX5_reaches 51 = .ok (.goto 4, 3) := by decide +kernel
theorem dX5_reaches_54 : decode cX5_reaches 54 = .ok (.iconst 0, 1) := by decide +kernel
theorem dX5_reaches_55 : decode cX5_reaches 55 = .ok (.ireturn, 1) := by decide +kernel
theorem dX5_setRight_0 : decode cX5_setRight 0 = .ok (.aload_n 0, 1) := by decide +kernel
theorem dX5_setRight_1 : decode cX5_setRight 1 = .ok (.getfield 19, 3) := by decide +kernel
theorem dX5_setRight_4 : decode cX5_setRight 4 = .ok (.iload_n 2, 1) := by decide +kernel
theorem dX5_setRight_5 : decode cX5_setRight 5 = .ok (.iaload, 1) := by decide +kernel
theorem dX5_setRight_6 : decode cX5_setRight 6 = .ok (.istore_n 3, 1) := by decide +kernel
theorem dX5_setRight_7 : decode cX5_setRight 7 = .ok (.aload_n 0, 1) := by decide +kernel
theorem dX5_setRight_8 : decode cX5_setRight 8 = .ok (.getfield 19, 3) := by decide +kernel
theorem dX5_setRight_11 : decode cX5_setRight 11 = .ok (.iload_n 1, 1) := by decide +kernel
theorem dX5_setRight_12 : decode cX5_setRight 12 = .ok (.iaload, 1) := by decide +kernel
theorem dX5_setRight_13 : decode cX5_setRight 13 = .ok (.istore 4, 2) := by decide +kernel
theorem dX5_setRight_15 : decode cX5_setRight 15 = .ok (.iload 4, 2) := by decide +kernel
theorem dX5_setRight_17 : decode cX5_setRight 17 = .ok (.iload_n 3, 1) := by decide +kernel
theorem dX5_setRight_18 : decode cX5_setRight 18 = .ok (.if_icmp .ge 4, 3) := by decide +kernel
theorem dX5_setRight_21 : decode cX5_setRight 21 = .ok (.return_, 1) := by decide +kernel
theorem dX5_setRight_22 : decode cX5_setRight 22 = .ok (.aload_n 0, 1) := by decide +kernel
theorem dX5_setRight_23 : decode cX5_setRight 23 = .ok (.iload_n 2, 1) := by decide +kernel
theorem dX5_setRight_24 : decode cX5_setRight 24 = .ok (.aload_n 0, 1) := by decide +kernel
theorem dX5_setRight_25 : decode cX5_setRight 25 = .ok (.getfield 37, 3) := by decide +kernel
theorem dX5_setRight_28 : decode cX5_setRight 28 = .ok (.getfield 73, 3) := by decide +kernel
theorem dX5_setRight_31 : decode cX5_setRight 31 = .ok (.aload_n 0, 1) := by decide +kernel
theorem dX5_setRight_32 : decode cX5_setRight 32 = .ok (.getfield 37, 3) := by decide +kernel
theorem dX5_setRight_35 : decode cX5_setRight 35 = .ok (.getfield 58, 3) := by decide +kernel
theorem dX5_setRight_38 : decode cX5_setRight 38 = .ok (.aload_n 0, 1) := by decide +kernel
theorem dX5_setRight_39 : decode cX5_setRight 39 = .ok (.getfield 22, 3) := by decide +kernel
theorem dX5_setRight_42 : decode cX5_setRight 42 = .ok (.invokevirtual 88, 3) := by decide +kernel
theorem dX5_setRight_45 : decode cX5_setRight 45 = .ok (.aload_n 0, 1) := by decide +kernel
theorem dX5_setRight_46 : decode cX5_setRight 46 = .ok (.iload_n 1, 1) := by decide +kernel
theorem dX5_setRight_47 : decode cX5_setRight 47 = .ok (.aload_n 0, 1) := by decide +kernel
theorem dX5_setRight_48 : decode cX5_setRight 48 = .ok (.getfield 37, 3) := by decide +kernel
theorem dX5_setRight_51 : decode cX5_setRight 51 = .ok (.getfield 85, 3) := by decide +kernel
theorem dX5_setRight_54 : decode cX5_setRight 54 = .ok (.aload_n 0, 1) := by decide +kernel
theorem dX5_setRight_55 : decode cX5_setRight 55 = .ok (.getfield 37, 3) := by decide +kernel
theorem dX5_setRight_58 : decode cX5_setRight 58 = .ok (.getfield 55, 3) := by decide +kernel
theorem dX5_setRight_61 : decode cX5_setRight 61 = .ok (.aload_n 0, 1) := by decide +kernel
theorem dX5_setRight_62 : decode cX5_setRight 62 = .ok (.getfield 25, 3) := by decide +kernel
theorem dX5_setRight_65 : decode cX5_setRight 65 = .ok (.invokevirtual 88, 3) := by decide +kernel
theorem dX5_setRight_68 : decode cX5_setRight 68 = .ok (.aload_n 0, 1) := by decide +kernel
theorem dX5_setRight_69 : decode cX5_setRight 69 = .ok (.iload_n 3, 1) := by decide +kernel
theorem dX5_setRight_70 : decode cX5_setRight 70 = .ok (.iload 4, 2) := by decide +kernel
theorem dX5_setRight_72 : decode cX5_setRight 72 = .ok (.aload_n 0, 1) := by decide +kernel
theorem dX5_setRight_73 : decode cX5_setRight 73 = .ok (.getfield 25, 3) := by decide +kernel
theorem dX5_setRight_76 : decode cX5_setRight 76 = .ok (.iconst 0, 1) := by decide +kernel
theorem dX5_setRight_77 : decode cX5_setRight 77 = .ok (.invokevirtual 92, 3) := by decide +kernel
theorem dX5_setRight_80 : decode cX5_setRight 80 = .ok (.istore 5, 2) := by decide +kernel
theorem dX5_setRight_82 : decode cX5_setRight 82 = .ok (.aload_n 0, 1) := by decide +kernel
theorem dX5_setRight_83 : decode cX5_setRight 83 = .ok (.iload_n 3, 1) := by decide +kernel
theorem dX5_setRight_84 : decode cX5_setRight 84 = .ok (.iload 4, 2) := by decide +kernel
theorem dX5_setRight_86 : decode cX5_setRight 86 = .ok (.aload_n 0, 1) := by decide +kernel
theorem dX5_setRight_87 : decode cX5_setRight 87 = .ok (.getfield 22, 3) := by decide +kernel
theorem dX5_setRight_90 : decode cX5_setRight 90 = .ok (.iload 5, 2) := by decide +kernel
theorem dX5_setRight_92 : decode cX5_setRight 92 = .ok (.invokevirtual 92, 3) := by decide +kernel
theorem dX5_setRight_95 : decode cX5_setRight 95 = .ok (.istore 5, 2) := by decide +kernel
theorem dX5_setRight_97 : decode cX5_setRight 97 = .ok (.iconst 0, 1) := by decide +kernel
theorem dX5_setRight_98 : decode cX5_setRight 98 = .ok (.istore 6, 2) := by decide +kernel
theorem dX5_setRight_100 : decode cX5_setRight 100 = .ok (.iload_n 3, 1) := by decide +kernel
theorem dX5_setRight_101 : decode cX5_setRight 101 = .ok (.istore 7, 2) := by decide +kernel
theorem dX5_setRight_103 : decode cX5_setRight 103 = .ok (.iload 7, 2) := by decide +kernel
theorem dX5_setRight_105 : decode cX5_setRight 105 = .ok (.iload 4, 2) := by decide +kernel
theorem dX5_setRight_107 : decode cX5_setRight 107 = .ok (.if_icmp .gt 78, 3) := by decide +kernel
theorem dX5_setRight_110 : decode cX5_setRight 110 = .ok (.iload 6, 2) := by decide +kernel
theorem dX5_setRight_112 : decode cX5_setRight 112 = .ok (.iload 5, 2) := by decide +kernel
theorem dX5_setRight_114 : decode cX5_setRight 114 = .ok (.if_icmp .ge 71, 3) := by decide +kernel
theorem dX5_setRight_117 : decode cX5_setRight 117 = .ok (.aload_n 0, 1) := by decide +kernel
theorem dX5_setRight_118 : decode cX5_setRight 118 = .ok (.getfield 15, 3) := by decide +kernel
theorem dX5_setRight_121 : decode cX5_setRight 121 = .ok (.iload 7, 2) := by decide +kernel
theorem dX5_setRight_123 : decode cX5_setRight 123 = .ok (.iaload, 1) := by decide +kernel
theorem dX5_setRight_124 : decode cX5_setRight 124 = .ok (.istore 8, 2) := by decide +kernel
theorem dX5_setRight_126 : decode cX5_setRight 126 = .ok (.aload_n 0, 1) := by decide +kernel
theorem dX5_setRight_127 : decode cX5_setRight 127 = .ok (.getfield 25, 3) := by decide +kernel
theorem dX5_setRight_130 : decode cX5_setRight 130 = .ok (.iload 8, 2) := by decide +kernel
theorem dX5_setRight_132 : decode cX5_setRight 132 = .ok (.iaload, 1) := by decide +kernel
theorem dX5_setRight_133 : decode cX5_setRight 133 = .ok (.iconst (-1), 1) := by decide +kernel
theorem dX5_setRight_134 : decode cX5_setRight 134 = .ok (.if_icmp .ne 14, 3) := by decide +kernel
theorem dX5_setRight_137 : decode cX5_setRight 137 = .ok (.aload_n 0, 1) := by decide +kernel
theorem dX5_setRight_138 : decode cX5_setRight 138 = .ok (.getfield 22, 3) := by decide +kernel
theorem dX5_setRight_141 : decode cX5_setRight 141 = .ok (.iload 8, 2) := by decide +kernel
theorem dX5_setRight_143 : decode cX5_setRight 143 = .ok (.iaload, 1) := by decide +kernel
theorem dX5_setRight_144 : decode cX5_setRight 144 = .ok (.iconst (-1), 1) := by decide +kernel
theorem dX5_setRight_145 : decode cX5_setRight 145 = .ok (.if_icmp .eq 34, 3) := by decide +kernel
theorem dX5_setRight_148 : decode cX5_setRight 148 = .ok (.aload_n 0, 1) := by decide +kernel
theorem dX5_setRight_149 : decode cX5_setRight 149 = .ok (.getfield 15, 3) := by decide +kernel
theorem dX5_setRight_152 : decode cX5_setRight 152 = .ok (.iload 7, 2) := by decide +kernel
theorem dX5_setRight_154 : decode cX5_setRight 154 = .ok (.aload_n 0, 1) := by decide +kernel
theorem dX5_setRight_155 : decode cX5_setRight 155 = .ok (.getfield 28, 3) := by decide +kernel
theorem dX5_setRight_158 : decode cX5_setRight 158 = .ok (.iload 6, 2) := by decide +kernel
theorem dX5_setRight_160 : decode cX5_setRight 160 = .ok (.iaload, 1) := by decide +kernel
theorem dX5_setRight_161 : decode cX5_setRight 161 = .ok (.iastore, 1) := by decide +kernel
theorem dX5_setRight_162 : decode cX5_setRight 162 = .ok (.aload_n 0, 1) := by decide +kernel
theorem dX5_setRight_163 : decode cX5_setRight 163 = .ok (.getfield 19, 3) := by decide +kernel
theorem dX5_setRight_166 : decode cX5_setRight 166 = .ok (.aload_n 0, 1) := by decide +kernel
theorem dX5_setRight_167 : decode cX5_setRight 167 = .ok (.getfield 28, 3) := by decide +kernel
theorem dX5_setRight_170 : decode cX5_setRight 170 = .ok (.iload 6, 2) := by decide +kernel
theorem dX5_setRight_172 : decode cX5_setRight 172 = .ok (.iaload, 1) := by decide +kernel
theorem dX5_setRight_173 : decode cX5_setRight 173 = .ok (.iload 7, 2) := by decide +kernel
theorem dX5_setRight_175 : decode cX5_setRight 175 = .ok (.iastore, 1) := by decide +kernel
theorem dX5_setRight_176 : decode cX5_setRight 176 = .ok (.iinc 6 1, 3) := by decide +kernel
theorem dX5_setRight_179 : decode cX5_setRight 179 = .ok (.iinc 7 1, 3) := by decide +kernel
theorem dX5_setRight_182 : decode cX5_setRight 182 = .ok (.goto (-79), 3) := by decide +kernel
theorem dX5_setRight_185 : decode cX5_setRight 185 = .ok (.return_, 1) := by decide +kernel
theorem dX5_pick_0 : decode cX5_pick 0 = .ok (.iload 4, 2) := by decide +kernel
theorem dX5_pick_2 : decode cX5_pick 2 = .ok (.istore 5, 2) := by decide +kernel
theorem dX5_pick_4 : decode cX5_pick 4 = .ok (.iload_n 1, 1) := by decide +kernel
theorem dX5_pick_5 : decode cX5_pick 5 = .ok (.istore 6, 2) := by decide +kernel
theorem dX5_pick_7 : decode cX5_pick 7 = .ok (.iload 6, 2) := by decide +kernel
theorem dX5_pick_9 : decode cX5_pick 9 = .ok (.iload_n 2, 1) := by decide +kernel
theorem dX5_pick_10 : decode cX5_pick 10 = .ok (.if_icmp .gt 47, 3) := by decide +kernel
theorem dX5_pick_13 : decode cX5_pick 13 = .ok (.iload 5, 2) := by decide +kernel
theorem dX5_pick_15 : decode cX5_pick 15 = .ok (.sipush 300, 3) := by decide +kernel
theorem dX5_pick_18 : decode cX5_pick 18 = .ok (.if_icmp .ge 39, 3) := by decide +kernel
theorem dX5_pick_21 : decode cX5_pick 21 = .ok (.aload_n 3, 1) := by decide +kernel
theorem dX5_pick_22 : decode cX5_pick 22 = .ok (.aload_n 0, 1) := by decide +kernel
theorem dX5_pick_23 : decode cX5_pick 23 = .ok (.getfield 15, 3) := by decide +kernel
theorem dX5_pick_26 : decode cX5_pick 26 = .ok (.iload 6, 2) := by decide +kernel
theorem dX5_pick_28 : decode cX5_pick 28 = .ok (.iaload, 1) := by decide +kernel
theorem dX5_pick_29 : decode cX5_pick 29 = .ok (.iaload, 1) := by decide +kernel
theorem dX5_pick_30 : decode cX5_pick 30 = .ok (.iconst (-1), 1) := by decide +kernel
theorem dX5_pick_31 : decode cX5_pick 31 = .ok (.if_icmp .eq 20, 3) := by decide +kernel
theorem dX5_pick_34 : decode cX5_pick 34 = .ok (.aload_n 0, 1) := by decide +kernel
theorem dX5_pick_35 : decode cX5_pick 35 = .ok (.getfield 28, 3) := by decide +kernel
theorem dX5_pick_38 : decode cX5_pick 38 = .ok (.iload 5, 2) := by decide +kernel
theorem dX5_pick_40 : decode cX5_pick 40 = .ok (.aload_n 0, 1) := by decide +kernel
theorem dX5_pick_41 : decode cX5_pick 41 = .ok (.getfield 15, 3) := by decide +kernel
theorem dX5_pick_44 : decode cX5_pick 44 = .ok (.iload 6, 2) := by decide +kernel
theorem dX5_pick_46 : decode cX5_pick 46 = .ok (.iaload, 1) := by decide +kernel
theorem dX5_pick_47 : decode cX5_pick 47 = .ok (.iastore, 1) := by decide +kernel
theorem dX5_pick_48 : decode cX5_pick 48 = .ok (.iinc 5 1, 3) := by decide +kernel
theorem dX5_pick_51 : decode cX5_pick 51 = .ok (.iinc 6 1, 3) := by decide +kernel
theorem dX5_pick_54 : decode cX5_pick 54 = .ok (.goto (-47), 3) := by decide +kernel
theorem dX5_pick_57 : decode cX5_pick 57 = .ok (.iload 5, 2) := by decide +kernel
theorem dX5_pick_59 : decode cX5_pick 59 = .ok (.ireturn, 1) := by decide +kernel
theorem dX5_spread_0 : decode cX5_spread 0 = .ok (.aload 4, 2) := by decide +kernel
theorem dX5_spread_2 : decode cX5_spread 2 = .ok (.iconst (-1), 1) := by decide +kernel
theorem dX5_spread_3 : decode cX5_spread 3 = .ok (.invokestatic 96, 3) := by decide +kernel
theorem dX5_spread_6 : decode cX5_spread 6 = .ok (.aload 4, 2) := by decide +kernel
theorem dX5_spread_8 : decode cX5_spread 8 = .ok (.iload_n 1, 1) := by decide +kernel
theorem dX5_spread_9 : decode cX5_spread 9 = .ok (.iconst 0, 1) := by decide +kernel
theorem dX5_spread_10 : decode cX5_spread 10 = .ok (.iastore, 1) := by decide +kernel
theorem dX5_spread_11 : decode cX5_spread 11 = .ok (.aload_n 0, 1) := by decide +kernel
theorem dX5_spread_12 : decode cX5_spread 12 = .ok (.getfield 31, 3) := by decide +kernel
theorem dX5_spread_15 : decode cX5_spread 15 = .ok (.iconst 0, 1) := by decide +kernel
theorem dX5_spread_16 : decode cX5_spread 16 = .ok (.iload_n 1, 1) := by decide +kernel
theorem dX5_spread_17 : decode cX5_spread 17 = .ok (.iastore, 1) := by decide +kernel
theorem dX5_spread_18 : decode cX5_spread 18 = .ok (.iconst 1, 1) := by decide +kernel
theorem dX5_spread_19 : decode cX5_spread 19 = .ok (.istore 5, 2) := by decide +kernel
theorem dX5_spread_21 : decode cX5_spread 21 = .ok (.iconst 0, 1) := by decide +kernel
theorem dX5_spread_22 : decode cX5_spread 22 = .ok (.istore 6, 2) := by decide +kernel
theorem dX5_spread_24 : decode cX5_spread 24 = .ok (.iload 6, 2) := by decide +kernel
theorem dX5_spread_26 : decode cX5_spread 26 = .ok (.sipush 300, 3) := by decide +kernel
theorem dX5_spread_29 : decode cX5_spread 29 = .ok (.if_icmp .ge 112, 3) := by decide +kernel
theorem dX5_spread_32 : decode cX5_spread 32 = .ok (.iload 6, 2) := by decide +kernel
theorem dX5_spread_34 : decode cX5_spread 34 = .ok (.iload 5, 2) := by decide +kernel
theorem dX5_spread_36 : decode cX5_spread 36 = .ok (.if_icmp .ge 105, 3) := by decide +kernel
theorem dX5_spread_39 : decode cX5_spread 39 = .ok (.aload_n 0, 1) := by decide +kernel
theorem dX5_spread_40 : decode cX5_spread 40 = .ok (.getfield 31, 3) := by decide +kernel
theorem dX5_spread_43 : decode cX5_spread 43 = .ok (.iload 6, 2) := by decide +kernel
theorem dX5_spread_45 : decode cX5_spread 45 = .ok (.iaload, 1) := by decide +kernel
theorem dX5_spread_46 : decode cX5_spread 46 = .ok (.istore 7, 2) := by decide +kernel
theorem dX5_spread_48 : decode cX5_spread 48 = .ok (.aload_n 2, 1) := by decide +kernel
theorem dX5_spread_49 : decode cX5_spread 49 = .ok (.getfield 77, 3) := by decide +kernel
theorem dX5_spread_52 : decode cX5_spread 52 = .ok (.iload 7, 2) := by decide +kernel
theorem dX5_spread_54 : decode cX5_spread 54 = .ok (.iaload, 1) := by decide +kernel
theorem dX5_spread_55 : decode cX5_spread 55 = .ok (.istore 8, 2) := by decide +kernel
theorem dX5_spread_57 : decode cX5_spread 57 = .ok (.iload 8, 2) := by decide +kernel
theorem dX5_spread_59 : decode cX5_spread 59 = .ok (.aload_n 2, 1) := by decide +kernel
theorem dX5_spread_60 : decode cX5_spread 60 = .ok (.getfield 77, 3) := by decide +kernel
theorem dX5_spread_63 : decode cX5_spread 63 = .ok (.iload 7, 2) := by decide +kernel
theorem dX5_spread_65 : decode cX5_spread 65 = .ok (.iconst 1, 1) := by decide +kernel
theorem dX5_spread_66 : decode cX5_spread 66 = .ok (.iadd, 1) := by decide +kernel
theorem dX5_spread_67 : decode cX5_spread 67 = .ok (.iaload, 1) := by decide +kernel
theorem dX5_spread_68 : decode cX5_spread 68 = .ok (.if_icmp .ge 67, 3) := by decide +kernel
theorem dX5_spread_71 : decode cX5_spread 71 = .ok (.aload_n 2, 1) := by decide +kernel
theorem dX5_spread_72 : decode cX5_spread 72 = .ok (.getfield 82, 3) := by decide +kernel
theorem dX5_spread_75 : decode cX5_spread 75 = .ok (.iload 8, 2) := by decide +kernel
theorem dX5_spread_77 : decode cX5_spread 77 = .ok (.iaload, 1) := by decide +kernel
theorem dX5_spread_78 : decode cX5_spread 78 = .ok (.istore 9, 2) := by decide +kernel
theorem dX5_spread_80 : decode cX5_spread 80 = .ok (.aload_n 3, 1) := by decide +kernel
theorem dX5_spread_81 : decode cX5_spread 81 = .ok (.iload 9, 2) := by decide +kernel
theorem dX5_spread_83 : decode cX5_spread 83 = .ok (.iaload, 1) := by decide +kernel
theorem dX5_spread_84 : decode cX5_spread 84 = .ok (.istore 10, 2) := by decide +kernel
theorem dX5_spread_86 : decode cX5_spread 86 = .ok (.aload_n 0, 1) := by decide +kernel
theorem dX5_spread_87 : decode cX5_spread 87 = .ok (.getfield 9, 3) := by decide +kernel
theorem dX5_spread_90 : decode cX5_spread 90 = .ok (.iload 9, 2) := by decide +kernel
theorem dX5_spread_92 : decode cX5_spread 92 = .ok (.baload, 1) := by decide +kernel
theorem dX5_spread_93 : decode cX5_spread 93 = .ok (.ifCond .ne 36, 3) := by decide +kernel
theorem dX5_spread_96 : decode cX5_spread 96 = .ok (.aload 4, 2) := by decide +kernel
theorem dX5_spread_98 : decode cX5_spread 98 = .ok (.iload 10, 2) := by decide +kernel
theorem dX5_spread_100 : decode cX5_spread 100 = .ok (.iaload, 1) := by decide +kernel
theorem dX5_spread_101 : decode cX5_spread 101 = .ok (.iconst (-1), 1) := by decide +kernel
theorem dX5_spread_102 : decode cX5_spread 102 = .ok (.if_icmp .ne 27, 3) := by decide +kernel
theorem dX5_spread_105 : decode cX5_spread 105 = .ok (.aload 4, 2) := by decide +kernel
theorem dX5_spread_107 : decode cX5_spread 107 = .ok (.iload 10, 2) := by decide +kernel
theorem dX5_spread_109 : decode cX5_spread 109 = .ok (.aload 4, 2) := by decide +kernel
theorem dX5_spread_111 : decode cX5_spread 111 = .ok (.iload 7, 2) := by decide +kernel
theorem dX5_spread_113 : decode cX5_spread 113 = .ok (.iaload, 1) := by decide +kernel
theorem dX5_spread_114 : decode cX5_spread 114 = .ok (.iconst 1, 1) := by decide +kernel
theorem dX5_spread_115 : decode cX5_spread 115 = .ok (.iadd, 1) := by decide +kernel
theorem dX5_spread_116 : decode cX5_spread 116 = .ok (.iastore, 1) := by decide +kernel
theorem dX5_spread_117 : decode cX5_spread 117 = .ok (.aload_n 0, 1) := by decide +kernel
theorem dX5_spread_118 : decode cX5_spread 118 = .ok (.getfield 31, 3) := by decide +kernel
theorem dX5_spread_121 : decode cX5_spread 121 = .ok (.iload 5, 2) := by decide +kernel
theorem dX5_spread_123 : decode cX5_spread 123 = .ok (.iload 10, 2) := by decide +kernel
theorem dX5_spread_125 : decode cX5_spread 125 = .ok (.iastore, 1) := by decide +kernel
theorem dX5_spread_126 : decode cX5_spread 126 = .ok (.iinc 5 1, 3) := by decide +kernel
theorem dX5_spread_129 : decode cX5_spread 129 = .ok (.iinc 8 1, 3) := by decide +kernel
theorem dX5_spread_132 : decode cX5_spread 132 = .ok (.goto (-75), 3) := by decide +kernel
theorem dX5_spread_135 : decode cX5_spread 135 = .ok (.iinc 6 1, 3) := by decide +kernel
theorem dX5_spread_138 : decode cX5_spread 138 = .ok (.goto (-114), 3) := by decide +kernel
theorem dX5_spread_141 : decode cX5_spread 141 = .ok (.return_, 1) := by decide +kernel
theorem dX6_init_0 : decode cX6_init 0 = .ok (.aload_n 0, 1) := by decide +kernel
theorem dX6_init_1 : decode cX6_init 1 = .ok (.invokespecial 3, 3) := by decide +kernel
theorem dX6_init_4 : decode cX6_init 4 = .ok (.aload_n 0, 1) := by decide +kernel
theorem dX6_init_5 : decode cX6_init 5 = .ok (.sipush 301, 3) := by decide +kernel
theorem dX6_init_8 : decode cX6_init 8 = .ok (.newarray .int, 2) := by decide +kernel
theorem dX6_init_10 : decode cX6_init 10 = .ok (.putfield 9, 3) := by decide +kernel
theorem dX6_init_13 : decode cX6_init 13 = .ok (.aload_n 0, 1) := by decide +kernel
theorem dX6_init_14 : decode cX6_init 14 = .ok (.sipush 1800, 3) := by decide +kernel
theorem dX6_init_17 : decode cX6_init 17 = .ok (.newarray .int, 2) := by decide +kernel
theorem dX6_init_19 : decode cX6_init 19 = .ok (.putfield 15, 3) := by decide +kernel
theorem dX6_init_22 : decode cX6_init 22 = .ok (.aload_n 0, 1) := by decide +kernel
theorem dX6_init_23 : decode cX6_init 23 = .ok (.sipush 300, 3) := by decide +kernel
theorem dX6_init_26 : decode cX6_init 26 = .ok (.newarray .int, 2) := by decide +kernel
theorem dX6_init_28 : decode cX6_init 28 = .ok (.putfield 18, 3) := by decide +kernel
theorem dX6_init_31 : decode cX6_init 31 = .ok (.aload_n 0, 1) := by decide +kernel
theorem dX6_init_32 : decode cX6_init 32 = .ok (.sipush 300, 3) := by decide +kernel
theorem dX6_init_35 : decode cX6_init 35 = .ok (.newarray .int, 2) := by decide +kernel
theorem dX6_init_37 : decode cX6_init 37 = .ok (.putfield 21, 3) := by decide +kernel
theorem dX6_init_40 : decode cX6_init 40 = .ok (.aload_n 0, 1) := by decide +kernel
theorem dX6_init_41 : decode cX6_init 41 = .ok (.sipush 300, 3) := by decide +kernel
theorem dX6_init_44 : decode cX6_init 44 = .ok (.newarray .int, 2) := by decide +kernel
theorem dX6_init_46 : decode cX6_init 46 = .ok (.putfield 24, 3) := by decide +kernel
theorem dX6_init_49 : decode cX6_init 49 = .ok (.aload_n 0, 1) := by decide +kernel
theorem dX6_init_50 : decode cX6_init 50 = .ok (.sipush 300, 3) := by decide +kernel
theorem dX6_init_53 : decode cX6_init 53 = .ok (.newarray .int, 2) := by decide +kernel
theorem dX6_init_55 : decode cX6_init 55 = .ok (.putfield 27, 3) := by decide +kernel
theorem dX6_init_58 : decode cX6_init 58 = .ok (.aload_n 0, 1) := by decide +kernel
theorem dX6_init_59 : decode cX6_init 59 = .ok (.aload_n 1, 1) := by decide +kernel
theorem dX6_init_60 : decode cX6_init 60 = .ok (.putfield 30, 3) := by decide +kernel
theorem dX6_init_63 : decode cX6_init 63 = .ok (.return_, 1) := by decide +kernel
theorem dX6_countOf_0 : decode cX6_countOf 0 = .ok (.aload_n 0, 1) := by decide +kernel
theorem dX6_countOf_1 : decode cX6_countOf 1 = .ok (.invokevirtual 34, 3) := by decide +kernel
theorem dX6_countOf_4 : decode cX6_countOf 4 = .ok (.aload_n 0, 1) := by decide +kernel
theorem dX6_countOf_5 : decode cX6_countOf 5 = .ok (.getfield 9, 3) := by decide +kernel
theorem dX6_countOf_8 : decode cX6_countOf 8 = .ok (.iload_n 1, 1) := by decide +kernel
theorem dX6_countOf_9 : decode cX6_countOf 9 = .ok (.iconst 1, 1) := by decide +kernel
theorem dX6_countOf_10 : decode cX6_countOf 10 = .ok (.iadd, 1) := by decide +kernel
theorem dX6_countOf_11 : decode cX6_countOf 11 = .ok (.iaload, 1) := by decide +kernel
theorem dX6_countOf_12 : decode cX6_countOf 12 = .ok (.aload_n 0, 1) := by decide +kernel
theorem dX6_countOf_13 : decode cX6_countOf 13 = .ok (.getfield 9, 3) := by decide +kernel
theorem dX6_countOf_16 : decode cX6_countOf 16 = .ok (.iload_n 1, 1) := by decide +kernel
theorem dX6_countOf_17 : decode cX6_countOf 17 = .ok (.iaload, 1) := by decide +kernel
theorem dX6_countOf_18 : decode cX6_countOf 18 = .ok (.isub, 1) := by decide +kernel
theorem dX6_countOf_19 : decode cX6_countOf 19 = .ok (.ireturn, 1) := by decide +kernel
theorem dX6_coreOf_0 : decode cX6_coreOf 0 = .ok (.aload_n 0, 1) := by decide +kernel
theorem dX6_coreOf_1 : decode cX6_coreOf 1 = .ok (.invokevirtual 34, 3) := by decide +kernel
theorem dX6_coreOf_4 : decode cX6_coreOf 4 = .ok (.aload_n 0, 1) := by decide +kernel
theorem dX6_coreOf_5 : decode cX6_coreOf 5 = .ok (.getfield 18, 3) := by decide +kernel
theorem dX6_coreOf_8 : decode cX6_coreOf 8 = .ok (.iload_n 1, 1) := by decide +kernel
theorem dX6_coreOf_9 : decode cX6_coreOf 9 = .ok (.iaload, 1) := by decide +kernel
theorem dX6_coreOf_10 : decode cX6_coreOf 10 = .ok (.ireturn, 1) := by decide +kernel
theorem dX6_greatestCore_0 : decode cX6_greatestCore 0 = .ok (.aload_n 0, 1) := by decide +kernel
theorem dX6_greatestCore_1 : decode cX6_greatestCore 1 = .ok (.invokevirtual 34, 3) := by decide +kernel
theorem dX6_greatestCore_4 : decode cX6_greatestCore 4 = .ok (.iconst 0, 1) := by decide +kernel
theorem dX6_greatestCore_5 : decode cX6_greatestCore 5 = .ok (.istore_n 1, 1) := by decide +kernel
theorem dX6_greatestCore_6 : decode cX6_greatestCore 6 = .ok (.iconst 0, 1) := by decide +kernel
theorem dX6_greatestCore_7 : decode cX6_greatestCore 7 = .ok (.istore_n 2, 1) := by decide +kernel
theorem dX6_greatestCore_8 : decode cX6_greatestCore 8 = .ok (.iload_n 2, 1) := by decide +kernel
theorem dX6_greatestCore_9 : decode cX6_greatestCore 9 = .ok (.aload_n 0, 1) := by decide +kernel
theorem dX6_greatestCore_10 : decode cX6_greatestCore 10 = .ok (.getfield 30, 3) := by decide +kernel
theorem dX6_greatestCore_13 : decode cX6_greatestCore 13 = .ok (.getfield 37, 3) := by decide +kernel
theorem dX6_greatestCore_16 : decode cX6_greatestCore 16 = .ok (.if_icmp .ge 20, 3) := by decide +kernel
theorem dX6_greatestCore_19 : decode cX6_greatestCore 19 = .ok (.iload_n 1, 1) := by decide +kernel
theorem dX6_greatestCore_20 : decode cX6_greatestCore 20 = .ok (.aload_n 0, 1) := by decide +kernel
theorem dX6_greatestCore_21 : decode cX6_greatestCore 21 = .ok (.getfield 18, 3) := by decide +kernel
theorem dX6_greatestCore_24 : decode cX6_greatestCore 24 = .ok (.iload_n 2, 1) := by decide +kernel
theorem dX6_greatestCore_25 : decode cX6_greatestCore 25 = .ok (.iaload, 1) := by decide +kernel
theorem dX6_greatestCore_26 : decode cX6_greatestCore 26 = .ok (.invokestatic 43, 3) := by decide +kernel
theorem dX6_greatestCore_29 : decode cX6_greatestCore 29 = .ok (.istore_n 1, 1) := by decide +kernel
theorem dX6_greatestCore_30 : decode cX6_greatestCore 30 = .ok (.iinc 2 1, 3) := by decide +kernel
theorem dX6_greatestCore_33 : decode cX6_greatestCore 33 = .ok (.goto (-25), 3) := by decide +kernel
theorem dX6_greatestCore_36 : decode cX6_greatestCore 36 = .ok (.iload_n 1, 1) := by decide +kernel
theorem dX6_greatestCore_37 : decode cX6_greatestCore 37 = .ok (.ireturn, 1) := by decide +kernel
theorem dX6_countedThrees_0 : decode cX6_countedThrees 0 = .ok (.aload_n 0, 1) := by decide +kernel
theorem dX6_countedThrees_1 : decode cX6_countedThrees 1 = .ok (.invokevirtual 34, 3) := by decide +kernel
theorem dX6_countedThrees_4 : decode cX6_countedThrees 4 = .ok (.aload_n 0, 1) := by decide +kernel
theorem dX6_countedThrees_5 : decode cX6_countedThrees 5 = .ok (.getfield 49, 3) := by decide +kernel
theorem dX6_countedThrees_8 : decode cX6_countedThrees 8 = .ok (.lreturn, 1) := by decide +kernel
theorem dX6_holds_0 : decode cX6_holds 0 = .ok (.aload_n 0, 1) := by decide +kernel
theorem dX6_holds_1 : decode cX6_holds 1 = .ok (.invokevirtual 34, 3) := by decide +kernel
theorem dX6_holds_4 : decode cX6_holds 4 = .ok (.aload_n 1, 1) := by decide +kernel
theorem dX6_holds_5 : decode cX6_holds 5 = .ok (.invokevirtual 53, 3) := by decide +kernel
theorem dX6_holds_8 : decode cX6_holds 8 = .ok (.iconst 0, 1) := by decide +kernel
theorem dX6_holds_9 : decode cX6_holds 9 = .ok (.istore_n 2, 1) := by decide +kernel
theorem dX6_holds_10 : decode cX6_holds 10 = .ok (.iload_n 2, 1) := by decide +kernel
theorem dX6_holds_11 : decode cX6_holds 11 = .ok (.aload_n 0, 1) := by decide +kernel
theorem dX6_holds_12 : decode cX6_holds 12 = .ok (.getfield 30, 3) := by decide +kernel
theorem dX6_holds_15 : decode cX6_holds 15 = .ok (.getfield 37, 3) := by decide +kernel
theorem dX6_holds_18 : decode cX6_holds 18 = .ok (.if_icmp .ge 45, 3) := by decide +kernel
theorem dX6_holds_21 : decode cX6_holds 21 = .ok (.aload_n 0, 1) := by decide +kernel
theorem dX6_holds_22 : decode cX6_holds 22 = .ok (.getfield 9, 3) := by decide +kernel
theorem dX6_holds_25 : decode cX6_holds 25 = .ok (.iload_n 2, 1) := by decide +kernel
theorem dX6_holds_26 : decode cX6_holds 26 = .ok (.iconst 1, 1) := by decide +kernel
theorem dX6_holds_27 : decode cX6_holds 27 = .ok (.iadd, 1) := by decide +kernel
theorem dX6_holds_28 : decode cX6_holds 28 = .ok (.iaload, 1) := by decide +kernel
theorem dX6_holds_29 : decode cX6_holds 29 = .ok (.aload_n 1, 1) := by decide +kernel
theorem dX6_holds_30 : decode cX6_holds 30 = .ok (.getfield 9, 3) := by decide +kernel
theorem dX6_holds_33 : decode cX6_holds 33 = .ok (.iload_n 2, 1) := by decide +kernel
theorem dX6_holds_34 : decode cX6_holds 34 = .ok (.iconst 1, 1) := by decide +kernel
theorem dX6_holds_35 : decode cX6_holds 35 = .ok (.iadd, 1) := by decide +kernel
theorem dX6_holds_36 : decode cX6_holds 36 = .ok (.iaload, 1) := by decide +kernel
theorem dX6_holds_37 : decode cX6_holds 37 = .ok (.if_icmp .ne 18, 3) := by decide +kernel
theorem dX6_holds_40 : decode cX6_holds 40 = .ok (.aload_n 0, 1) := by decide +kernel
theorem dX6_holds_41 : decode cX6_holds 41 = .ok (.getfield 18, 3) := by decide +kernel
theorem dX6_holds_44 : decode cX6_holds 44 = .ok (.iload_n 2, 1) := by decide +kernel
theorem dX6_holds_45 : decode cX6_holds 45 = .ok (.iaload, 1) := by decide +kernel
theorem dX6_holds_46 : decode cX6_holds 46 = .ok (.aload_n 1, 1) := by decide +kernel
theorem dX6_holds_47 : decode cX6_holds 47 = .ok (.getfield 18, 3) := by decide +kernel
theorem dX6_holds_50 : decode cX6_holds 50 = .ok (.iload_n 2, 1) := by decide +kernel
theorem dX6_holds_51 : decode cX6_holds 51 = .ok (.iaload, 1) := by decide +kernel
theorem dX6_holds_52 : decode cX6_holds 52 = .ok (.if_icmp .eq 5, 3) := by decide +kernel
theorem dX6_holds_55 : decode cX6_holds 55 = .ok (.iconst 0, 1) := by decide +kernel
theorem dX6_holds_56 : decode cX6_holds 56 = .ok (.ireturn, 1) := by decide +kernel
theorem dX6_holds_57 : decode cX6_holds 57 = .ok (.iinc 2 1, 3) := by decide +kernel
theorem dX6_holds_60 : decode cX6_holds 60 = .ok (.goto (-50), 3) := by decide +kernel
theorem dX6_holds_63 : decode cX6_holds 63 = .ok (.aload_n 0, 1) := by decide +kernel
theorem dX6_holds_64 : decode cX6_holds 64 = .ok (.getfield 49, 3) := by decide +kernel
theorem dX6_holds_67 : decode cX6_holds 67 = .ok (.aload_n 1, 1) := by decide +kernel
theorem dX6_holds_68 : decode cX6_holds 68 = .ok (.getfield 49, 3) := by decide +kernel
theorem dX6_holds_71 : decode cX6_holds 71 = .ok (.lcmp, 1) := by decide +kernel
theorem dX6_holds_72 : decode cX6_holds 72 = .ok (.ifCond .ne 7, 3) := by decide +kernel
theorem dX6_holds_75 : decode cX6_holds 75 = .ok (.iconst 1, 1) := by decide +kernel
theorem dX6_holds_76 : decode cX6_holds 76 = .ok (.goto 4, 3) := by decide +kernel
theorem dX6_holds_79 : decode cX6_holds 79 = .ok (.iconst 0, 1) := by decide +kernel
theorem dX6_holds_80 : decode cX6_holds 80 = .ok (.ireturn, 1) := by decide +kernel
theorem dX6_look_0 : decode cX6_look 0 = .ok (.aload_n 0, 1) := by decide +kernel
theorem dX6_look_1 : decode cX6_look 1 = .ok (.getfield 56, 3) := by decide +kernel
theorem dX6_look_4 : decode cX6_look 4 = .ok (.aload_n 0, 1) := by decide +kernel
theorem dX6_look_5 : decode cX6_look 5 = .ok (.getfield 30, 3) := by decide +kernel
theorem dX6_look_8 : decode cX6_look 8 = .ok (.getfield 59, 3) := by decide +kernel
theorem dX6_look_11 : decode cX6_look 11 = .ok (.if_icmp .eq 7, 3) := by decide +kernel
theorem dX6_look_14 : decode cX6_look 14 = .ok (.aload_n 0, 1) := by decide +kernel
theorem dX6_look_15 : decode cX6_look 15 = .ok (.invokevirtual 53, 3) := by decide +kernel
theorem dX6_look_18 : decode cX6_look 18 = .ok (.return_, 1) := by decide +kernel
theorem dX6_renew_0 : decode cX6_renew 0 = .ok (.aload_n 0, 1) := by decide +kernel
theorem dX6_renew_1 : decode cX6_renew 1 = .ok (.invokevirtual 60, 3) := by decide +kernel
theorem dX6_renew_4 : decode cX6_renew 4 = .ok (.aload_n 0, 1) := by decide +kernel
theorem dX6_renew_5 : decode cX6_renew 5 = .ok (.invokevirtual 63, 3) := by decide +kernel
theorem dX6_renew_8 : decode cX6_renew 8 = .ok (.aload_n 0, 1) := by decide +kernel
theorem dX6_renew_9 : decode cX6_renew 9 = .ok (.aload_n 0, 1) := by decide +kernel
theorem dX6_renew_10 : decode cX6_renew 10 = .ok (.invokevirtual 66, 3) := by decide +kernel
theorem dX6_renew_13 : decode cX6_renew 13 = .ok (.putfield 49, 3) := by decide +kernel
theorem dX6_renew_16 : decode cX6_renew 16 = .ok (.aload_n 0, 1) := by decide +kernel
theorem dX6_renew_17 : decode cX6_renew 17 = .ok (.aload_n 0, 1) := by decide +kernel
theorem dX6_renew_18 : decode cX6_renew 18 = .ok (.getfield 30, 3) := by decide +kernel
theorem dX6_renew_21 : decode cX6_renew 21 = .ok (.getfield 59, 3) := by decide +kernel
theorem dX6_renew_24 : decode cX6_renew 24 = .ok (.putfield 56, 3) := by decide +kernel
theorem dX6_renew_27 : decode cX6_renew 27 = .ok (.return_, 1) := by decide +kernel
theorem dX6_findNear_0 : decode cX6_findNear 0 = .ok (.aload_n 0, 1) := by decide +kernel
theorem dX6_findNear_1 : decode cX6_findNear 1 = .ok (.getfield 21, 3) := by decide +kernel
theorem dX6_findNear_4 : decode cX6_findNear 4 = .ok (.iconst (-1), 1) := by decide +kernel
theorem dX6_findNear_5 : decode cX6_findNear 5 = .ok (.invokestatic 70, 3) := by decide +kernel
theorem dX6_findNear_8 : decode cX6_findNear 8 = .ok (.iconst 0, 1) := by decide +kernel
theorem dX6_findNear_9 : decode cX6_findNear 9 = .ok (.istore_n 1, 1) := by decide +kernel
theorem dX6_findNear_10 : decode cX6_findNear 10 = .ok (.iconst 0, 1) := by decide +kernel
theorem dX6_findNear_11 : decode cX6_findNear 11 = .ok (.istore_n 2, 1) := by decide +kernel
theorem dX6_findNear_12 : decode cX6_findNear 12 = .ok (.iload_n 2, 1) := by decide +kernel
theorem dX6_findNear_13 : decode cX6_findNear 13 = .ok (.aload_n 0, 1) := by decide +kernel
theorem dX6_findNear_14 : decode cX6_findNear 14 = .ok (.getfield 30, 3) := by decide +kernel
theorem dX6_findNear_17 : decode cX6_findNear 17 = .ok (.getfield 37, 3) := by decide +kernel
theorem dX6_findNear_20 : decode cX6_findNear 20 = .ok (.if_icmp .ge 97, 3) := by decide +kernel
theorem dX6_findNear_23 : decode cX6_findNear 23 = .ok (.aload_n 0, 1) := by decide +kernel
theorem dX6_findNear_24 : decode cX6_findNear 24 = .ok (.getfield 9, 3) := by decide +kernel
theorem dX6_findNear_27 : decode cX6_findNear 27 = .ok (.iload_n 2, 1) := by decide +kernel
theorem dX6_findNear_28 : decode cX6_findNear 28 = .ok (.iload_n 1, 1) := by decide +kernel
theorem dX6_findNear_29 : decode cX6_findNear 29 = .ok (.iastore, 1) := by decide +kernel
theorem dX6_findNear_30 : decode cX6_findNear 30 = .ok (.aload_n 0, 1) := by decide +kernel
theorem dX6_findNear_31 : decode cX6_findNear 31 = .ok (.getfield 21, 3) := by decide +kernel
theorem dX6_findNear_34 : decode cX6_findNear 34 = .ok (.iload_n 2, 1) := by decide +kernel
theorem dX6_findNear_35 : decode cX6_findNear 35 = .ok (.iload_n 2, 1) := by decide +kernel
theorem dX6_findNear_36 : decode cX6_findNear 36 = .ok (.iastore, 1) := by decide +kernel
theorem dX6_findNear_37 : decode cX6_findNear 37 = .ok (.aload_n 0, 1) := by decide +kernel
theorem dX6_findNear_38 : decode cX6_findNear 38 = .ok (.getfield 30, 3) := by decide +kernel
theorem dX6_findNear_41 : decode cX6_findNear 41 = .ok (.iload_n 2, 1) := by decide +kernel
theorem dX6_findNear_42 : decode cX6_findNear 42 = .ok (.invokevirtual 76, 3) := by decide +kernel
theorem dX6_findNear_45 : decode cX6_findNear 45 = .ok (.istore_n 3, 1) := by decide +kernel
theorem dX6_findNear_46 : decode cX6_findNear 46 = .ok (.iconst 0, 1) := by decide +kernel
theorem dX6_findNear_47 : decode cX6_findNear 47 = .ok (.istore 4, 2) := by decide +kernel
theorem dX6_findNear_49 : decode cX6_findNear 49 = .ok (.iload 4, 2) := by decide +kernel
theorem dX6_findNear_51 : decode cX6_findNear 51 = .ok (.iload_n 3, 1) := by decide +kernel
theorem dX6_findNear_52 : decode cX6_findNear 52 = .ok (.if_icmp .ge 59, 3) := by decide +kernel
theorem dX6_findNear_55 : decode cX6_findNear 55 = .ok (.aload_n 0, 1) := by decide +kernel
theorem dX6_findNear_56 : decode cX6_findNear 56 = .ok (.getfield 30, 3) := by decide +kernel
theorem dX6_findNear_59 : decode cX6_findNear 59 = .ok (.aload_n 0, 1) := by decide +kernel
theorem dX6_findNear_60 : decode cX6_findNear 60 = .ok (.getfield 30, 3) := by decide +kernel
theorem dX6_findNear_63 : decode cX6_findNear 63 = .ok (.iload_n 2, 1) := by decide +kernel
theorem dX6_findNear_64 : decode cX6_findNear 64 = .ok (.iload 4, 2) := by decide +kernel
theorem dX6_findNear_66 : decode cX6_findNear 66 = .ok (.invokevirtual 80, 3) := by decide +kernel
theorem dX6_findNear_69 : decode cX6_findNear 69 = .ok (.iload_n 2, 1) := by decide +kernel
theorem dX6_findNear_70 : decode cX6_findNear 70 = .ok (.invokevirtual 83, 3) := by decide +kernel
theorem dX6_findNear_73 : decode cX6_findNear 73 = .ok (.istore 5, 2) := by decide +kernel
theorem dX6_findNear_75 : decode cX6_findNear 75 = .ok (.aload_n 0, 1) := by decide +kernel
theorem dX6_findNear_76 : decode cX6_findNear 76 = .ok (.getfield 21, 3) := by decide +kernel
theorem dX6_findNear_79 : decode cX6_findNear 79 = .ok (.iload 5, 2) := by decide +kernel
theorem dX6_findNear_81 : decode cX6_findNear 81 = .ok (.iaload, 1) := by decide +kernel
theorem dX6_findNear_82 : decode cX6_findNear 82 = .ok (.iload_n 2, 1) := by decide +kernel
theorem dX6_findNear_83 : decode cX6_findNear 83 = .ok (.if_icmp .eq 22, 3) := by decide +kernel
theorem dX6_findNear_86 : decode cX6_findNear 86 = .ok (.aload_n 0, 1) := by decide +kernel
theorem dX6_findNear_87 : decode cX6_findNear 87 = .ok (.getfield 21, 3) := by decide +kernel
theorem dX6_findNear_90 : decode cX6_findNear 90 = .ok (.iload 5, 2) := by decide +kernel
theorem dX6_findNear_92 : decode cX6_findNear 92 = .ok (.iload_n 2, 1) := by decide +kernel
theorem dX6_findNear_93 : decode cX6_findNear 93 = .ok (.iastore, 1) := by decide +kernel
theorem dX6_findNear_94 : decode cX6_findNear 94 = .ok (.aload_n 0, 1) := by decide +kernel
theorem dX6_findNear_95 : decode cX6_findNear 95 = .ok (.getfield 15, 3) := by decide +kernel
theorem dX6_findNear_98 : decode cX6_findNear 98 = .ok (.iload_n 1, 1) := by decide +kernel
theorem dX6_findNear_99 : decode cX6_findNear 99 = .ok (.iload 5, 2) := by decide +kernel
theorem dX6_findNear_101 : decode cX6_findNear 101 = .ok (.iastore, 1) := by decide +kernel
theorem dX6_findNear_102 : decode cX6_findNear 102 = .ok (.iinc 1 1, 3) := by decide +kernel
theorem dX6_findNear_105 : decode cX6_findNear 105 = .ok (.iinc 4 1, 3) := by decide +kernel
theorem dX6_findNear_108 : decode cX6_findNear 108 = .ok (.goto (-59), 3) := by decide +kernel
theorem dX6_findNear_111 : decode cX6_findNear 111 = .ok (.iinc 2 1, 3) := by decide +kernel
theorem dX6_findNear_114 : decode cX6_findNear 114 = .ok (.goto (-102), 3) := by decide +kernel
theorem dX6_findNear_117 : decode cX6_findNear 117 = .ok (.aload_n 0, 1) := by decide +kernel
theorem dX6_findNear_118 : decode cX6_findNear 118 = .ok (.getfield 9, 3) := by decide +kernel
theorem dX6_findNear_121 : decode cX6_findNear 121 = .ok (.aload_n 0, 1) := by decide +kernel
theorem dX6_findNear_122 : decode cX6_findNear 122 = .ok (.getfield 30, 3) := by decide +kernel
theorem dX6_findNear_125 : decode cX6_findNear 125 = .ok (.getfield 37, 3) := by decide +kernel
theorem dX6_findNear_128 : decode cX6_findNear 128 = .ok (.iload_n 1, 1) := by decide +kernel
theorem dX6_findNear_129 : decode cX6_findNear 129 = .ok (.iastore, 1) := by decide +kernel
theorem dX6_findNear_130 : decode cX6_findNear 130 = .ok (.return_, 1) := by decide +kernel
theorem dX6_findCores_0 : decode cX6_findCores 0 = .ok (.iconst 0, 1) := by decide +kernel
theorem dX6_findCores_1 : decode cX6_findCores 1 = .ok (.istore_n 1, 1) := by decide +kernel
theorem dX6_findCores_2 : decode cX6_findCores 2 = .ok (.iload_n 1, 1) := by decide +kernel
theorem dX6_findCores_3 : decode cX6_findCores 3 = .ok (.aload_n 0, 1) := by decide +kernel
theorem dX6_findCores_4 : decode cX6_findCores 4 = .ok (.getfield 30, 3) := by decide +kernel
theorem dX6_findCores_7 : decode cX6_findCores 7 = .ok (.getfield 37, 3) := by decide +kernel
theorem dX6_findCores_10 : decode cX6_findCores 10 = .ok (.if_icmp .ge 37, 3) := by decide +kernel
theorem dX6_findCores_13 : decode cX6_findCores 13 = .ok (.aload_n 0, 1) := by decide +kernel
theorem dX6_findCores_14 : decode cX6_findCores 14 = .ok (.getfield 24, 3) := by decide +kernel
theorem dX6_findCores_17 : decode cX6_findCores 17 = .ok (.iload_n 1, 1) := by decide +kernel
theorem dX6_findCores_18 : decode cX6_findCores 18 = .ok (.aload_n 0, 1) := by decide +kernel
theorem dX6_findCores_19 : decode cX6_findCores 19 = .ok (.getfield 9, 3) := by decide +kernel
theorem dX6_findCores_22 : decode cX6_findCores 22 = .ok (.iload_n 1, 1) := by decide +kernel
theorem dX6_findCores_23 : decode cX6_findCores 23 = .ok (.iconst 1, 1) := by decide +kernel
theorem dX6_findCores_24 : decode cX6_findCores 24 = .ok (.iadd, 1) := by decide +kernel
theorem dX6_findCores_25 : decode cX6_findCores 25 = .ok (.iaload, 1) := by decide +kernel
theorem dX6_findCores_26 : decode cX6_findCores 26 = .ok (.aload_n 0, 1) := by decide +kernel
theorem dX6_findCores_27 : decode cX6_findCores 27 = .ok (.getfield 9, 3) := by decide +kernel
theorem dX6_findCores_30 : decode cX6_findCores 30 = .ok (.iload_n 1, 1) := by decide +kernel
theorem dX6_findCores_31 : decode cX6_findCores 31 = .ok (.iaload, 1) := by decide +kernel
theorem dX6_findCores_32 : decode cX6_findCores 32 = .ok (.isub, 1) := by decide +kernel
theorem dX6_findCores_33 : decode cX6_findCores 33 = .ok (.iastore, 1) := by decide +kernel
theorem dX6_findCores_34 : decode cX6_findCores 34 = .ok (.aload_n 0, 1) := by decide +kernel
theorem dX6_findCores_35 : decode cX6_findCores 35 = .ok (.getfield 18, 3) := by decide +kernel
theorem dX6_findCores_38 : decode cX6_findCores 38 = .ok (.iload_n 1, 1) := by decide +kernel
theorem dX6_findCores_39 : decode cX6_findCores 39 = .ok (.iconst (-1), 1) := by decide +kernel
theorem dX6_findCores_40 : decode cX6_findCores 40 = .ok (.iastore, 1) := by decide +kernel
theorem dX6_findCores_41 : decode cX6_findCores 41 = .ok (.iinc 1 1, 3) := by decide +kernel
theorem dX6_findCores_44 : decode cX6_findCores 44 = .ok (.goto (-42), 3) := by decide +kernel
theorem dX6_findCores_47 : decode cX6_findCores 47 = .ok (.iconst 0, 1) := by decide +kernel
theorem dX6_findCores_48 : decode cX6_findCores 48 = .ok (.istore_n 1, 1) := by decide +kernel
theorem dX6_findCores_49 : decode cX6_findCores 49 = .ok (.iconst 1, 1) := by decide +kernel
theorem dX6_findCores_50 : decode cX6_findCores 50 = .ok (.istore_n 2, 1) := by decide +kernel
theorem dX6_findCores_51 : decode cX6_findCores 51 = .ok (.iload_n 2, 1) := by decide +kernel
theorem dX6_findCores_52 : decode cX6_findCores 52 = .ok (.sipush 300, 3) := by decide +kernel
theorem dX6_findCores_55 : decode cX6_findCores 55 = .ok (.if_icmp .gt 28, 3) := by decide +kernel
theorem dX6_findCores_58 : decode cX6_findCores 58 = .ok (.iload_n 1, 1) := by decide +kernel
theorem dX6_findCores_59 : decode cX6_findCores 59 = .ok (.aload_n 0, 1) := by decide +kernel
theorem dX6_findCores_60 : decode cX6_findCores 60 = .ok (.getfield 30, 3) := by decide +kernel
theorem dX6_findCores_63 : decode cX6_findCores 63 = .ok (.getfield 37, 3) := by decide +kernel
theorem dX6_findCores_66 : decode cX6_findCores 66 = .ok (.if_icmp .ge 17, 3) := by decide +kernel
theorem dX6_findCores_69 : decode cX6_findCores 69 = .ok (.iload_n 1, 1) := by decide +kernel
theorem dX6_findCores_70 : decode cX6_findCores 70 = .ok (.aload_n 0, 1) := by decide +kernel
theorem dX6_findCores_71 : decode cX6_findCores 71 = .ok (.iload_n 2, 1) := by decide +kernel
theorem dX6_findCores_72 : decode cX6_findCores 72 = .ok (.invokevirtual 86, 3) := by decide +kernel
theorem dX6_findCores_75 : decode cX6_findCores 75 = .ok (.iadd, 1) := by decide +kernel
theorem dX6_findCores_76 : decode cX6_findCores 76 = .ok (.istore_n 1, 1) := by decide +kernel
theorem dX6_findCores_77 : decode cX6_findCores 77 = .ok (.iinc 2 1, 3) := by decide +kernel
theorem dX6_findCores_80 : decode cX6_findCores 80 = .ok (.goto (-29), 3) := by decide +kernel
theorem dX6_findCores_83 : decode cX6_findCores 83 = .ok (.return_, 1) := by decide +kernel
theorem dX6_peel_0 : decode cX6_peel 0 = .ok (.iconst 0, 1) := by decide +kernel
theorem dX6_peel_1 : decode cX6_peel 1 = .ok (.istore_n 2, 1) := by decide +kernel
theorem dX6_peel_2 : decode cX6_peel 2 = .ok (.iconst 0, 1) := by decide +kernel
theorem dX6_peel_3 : decode cX6_peel 3 = .ok (.istore_n 3, 1) := by decide +kernel
theorem dX6_peel_4 : decode cX6_peel 4 = .ok (.iload_n 3, 1) := by decide +kernel
theorem dX6_peel_5 : decode cX6_peel 5 = .ok (.aload_n 0, 1) := by decide +kernel
theorem dX6_peel_6 : decode cX6_peel 6 = .ok (.getfield 30, 3) := by decide +kernel
theorem dX6_peel_9 : decode cX6_peel 9 = .ok (.getfield 37, 3) := by decide +kernel
theorem dX6_peel_12 : decode cX6_peel 12 = .ok (.if_icmp .ge 48, 3) := by decide +kernel
theorem dX6_peel_15 : decode cX6_peel 15 = .ok (.aload_n 0, 1) := by decide +kernel
theorem dX6_peel_16 : decode cX6_peel 16 = .ok (.getfield 18, 3) := by decide +kernel
theorem dX6_peel_19 : decode cX6_peel 19 = .ok (.iload_n 3, 1) := by decide +kernel
theorem dX6_peel_20 : decode cX6_peel 20 = .ok (.iaload, 1) := by decide +kernel
theorem dX6_peel_21 : decode cX6_peel 21 = .ok (.iconst (-1), 1) := by decide +kernel
theorem dX6_peel_22 : decode cX6_peel 22 = .ok (.if_icmp .ne 32, 3) := by decide +kernel
theorem dX6_peel_25 : decode cX6_peel 25 = .ok (.aload_n 0, 1) := by decide +kernel
theorem dX6_peel_26 : decode cX6_peel 26 = .ok (.getfield 24, 3) := by decide +kernel
theorem dX6_peel_29 : decode cX6_peel 29 = .ok (.iload_n 3, 1) := by decide +kernel
theorem dX6_peel_30 : decode cX6_peel 30 = .ok (.iaload, 1) := by decide +kernel
theorem dX6_peel_31 : decode cX6_peel 31 = .ok (.iload_n 1, 1) := by decide +kernel
theorem dX6_peel_32 : decode cX6_peel 32 = .ok (.if_icmp .ge 22, 3) := by decide +kernel
theorem dX6_peel_35 : decode cX6_peel 35 = .ok (.aload_n 0, 1) := by decide +kernel
theorem dX6_peel_36 : decode cX6_peel 36 = .ok (.getfield 18, 3) := by decide +kernel
theorem dX6_peel_39 : decode cX6_peel 39 = .ok (.iload_n 3, 1) := by decide +kernel
theorem dX6_peel_40 : decode cX6_peel 40 = .ok (.iload_n 1, 1) := by decide +kernel
theorem dX6_peel_41 : decode cX6_peel 41 = .ok (.iconst 1, 1) := by decide +kernel
theorem dX6_peel_42 : decode cX6_peel 42 = .ok (.isub, 1) := by decide +kernel
theorem dX6_peel_43 : decode cX6_peel 43 = .ok (.iastore, 1) := by decide +kernel
theorem dX6_peel_44 : decode cX6_peel 44 = .ok (.aload_n 0, 1) := by decide +kernel
theorem dX6_peel_45 : decode cX6_peel 45 = .ok (.getfield 27, 3) := by decide +kernel
theorem dX6_peel_48 : decode cX6_peel 48 = .ok (.iload_n 2, 1) := by decide +kernel
theorem dX6_peel_49 : decode cX6_peel 49 = .ok (.iload_n 3, 1) := by decide +kernel
theorem dX6_peel_50 : decode cX6_peel 50 = .ok (.iastore, 1) := by decide +kernel
theorem dX6_peel_51 : decode cX6_peel 51 = .ok (.iinc 2 1, 3) := by decide +kernel
theorem dX6_peel_54 : decode cX6_peel 54 = .ok (.iinc 3 1, 3) := by decide +kernel
theorem dX6_peel_57 : decode cX6_peel 57 = .ok (.goto (-53), 3) := by decide +kernel
theorem dX6_peel_60 : decode cX6_peel 60 = .ok (.iconst 0, 1) := by decide +kernel
theorem dX6_peel_61 : decode cX6_peel 61 = .ok (.istore_n 3, 1) := by decide +kernel
theorem dX6_peel_62 : decode cX6_peel 62 = .ok (.iload_n 3, 1) := by decide +kernel
theorem dX6_peel_63 : decode cX6_peel 63 = .ok (.sipush 300, 3) := by decide +kernel
theorem dX6_peel_66 : decode cX6_peel 66 = .ok (.if_icmp .ge 114, 3) := by decide +kernel
theorem dX6_peel_69 : decode cX6_peel 69 = .ok (.iload_n 3, 1) := by decide +kernel
theorem dX6_peel_70 : decode cX6_peel 70 = .ok (.iload_n 2, 1) := by decide +kernel
theorem dX6_peel_71 : decode cX6_peel 71 = .ok (.if_icmp .ge 109, 3) := by decide +kernel
theorem dX6_peel_74 : decode cX6_peel 74 = .ok (.aload_n 0, 1) := by decide +kernel
theorem dX6_peel_75 : decode cX6_peel 75 = .ok (.getfield 27, 3) := by decide +kernel
theorem dX6_peel_78 : decode cX6_peel 78 = .ok (.iload_n 3, 1) := by decide +kernel
theorem dX6_peel_79 : decode cX6_peel 79 = .ok (.iaload, 1) := by decide +kernel
theorem dX6_peel_80 : decode cX6_peel 80 = .ok (.istore 4, 2) := by decide +kernel
theorem dX6_peel_82 : decode cX6_peel 82 = .ok (.aload_n 0, 1) := by decide +kernel
theorem dX6_peel_83 : decode cX6_peel 83 = .ok (.getfield 9, 3) := by decide +kernel
theorem dX6_peel_86 : decode cX6_peel 86 = .ok (.iload 4, 2) := by decide +kernel
theorem dX6_peel_88 : decode cX6_peel 88 = .ok (.iaload, 1) := by decide +kernel
theorem dX6_peel_89 : decode cX6_peel 89 = .ok (.istore 5, 2) := by decide +kernel
theorem dX6_peel_91 : decode cX6_peel 91 = .ok (.iload 5, 2) := by decide +kernel
theorem dX6_peel_93 : decode cX6_peel 93 = .ok (.aload_n 0, 1) := by decide +kernel
theorem dX6_peel_94 : decode cX6_peel 94 = .ok (.getfield 9, 3) := by decide +kernel
theorem dX6_peel_97 : decode cX6_peel 97 = .ok (.iload 4, 2) := by decide +kernel
theorem dX6_peel_99 : decode cX6_peel 99 = .ok (.iconst 1, 1) := by decide +kernel
theorem dX6_peel_100 : decode cX6_peel 100 = .ok (.iadd, 1) := by decide +kernel
theorem dX6_peel_101 : decode cX6_peel 101 = .ok (.iaload, 1) := by decide +kernel
theorem dX6_peel_102 : decode cX6_peel 102 = .ok (.if_icmp .ge 72, 3) := by decide +kernel
theorem dX6_peel_105 : decode cX6_peel 105 = .ok (.aload_n 0, 1) := by decide +kernel
theorem dX6_peel_106 : decode cX6_peel 106 = .ok (.getfield 15, 3) := by decide +kernel
theorem dX6_peel_109 : decode cX6_peel 109 = .ok (.iload 5, 2) := by decide +kernel
theorem dX6_peel_111 : decode cX6_peel 111 = .ok (.iaload, 1) := by decide +kernel
theorem dX6_peel_112 : decode cX6_peel 112 = .ok (.istore 6, 2) := by decide +kernel
theorem dX6_peel_114 : decode cX6_peel 114 = .ok (.aload_n 0, 1) := by decide +kernel
theorem dX6_peel_115 : decode cX6_peel 115 = .ok (.getfield 24, 3) := by decide +kernel
theorem dX6_peel_118 : decode cX6_peel 118 = .ok (.iload 6, 2) := by decide +kernel
theorem dX6_peel_120 : decode cX6_peel 120 = .ok (.dup2, 1) := by decide +kernel
theorem dX6_peel_121 : decode cX6_peel 121 = .ok (.iaload, 1) := by decide +kernel
theorem dX6_peel_122 : decode cX6_peel 122 = .ok (.iconst 1, 1) := by decide +kernel
theorem dX6_peel_123 : decode cX6_peel 123 = .ok (.isub, 1) := by decide +kernel
theorem dX6_peel_124 : decode cX6_peel 124 = .ok (.iastore, 1) := by decide +kernel
theorem dX6_peel_125 : decode cX6_peel 125 = .ok (.aload_n 0, 1) := by decide +kernel
theorem dX6_peel_126 : decode cX6_peel 126 = .ok (.getfield 18, 3) := by decide +kernel
theorem dX6_peel_129 : decode cX6_peel 129 = .ok (.iload 6, 2) := by decide +kernel
theorem dX6_peel_131 : decode cX6_peel 131 = .ok (.iaload, 1) := by decide +kernel
theorem dX6_peel_132 : decode cX6_peel 132 = .ok (.iconst (-1), 1) := by decide +kernel
theorem dX6_peel_133 : decode cX6_peel 133 = .ok (.if_icmp .ne 35, 3) := by decide +kernel
theorem dX6_peel_136 : decode cX6_peel 136 = .ok (.aload_n 0, 1) := by decide +kernel
theorem dX6_peel_137 : decode cX6_peel 137 = .ok (.getfield 24, 3) := by decide +kernel
theorem dX6_peel_140 : decode cX6_peel 140 = .ok (.iload 6, 2) := by decide +kernel
theorem dX6_peel_142 : decode cX6_peel 142 = .ok (.iaload, 1) := by decide +kernel
theorem dX6_peel_143 : decode cX6_peel 143 = .ok (.iload_n 1, 1) := by decide +kernel
theorem dX6_peel_144 : decode cX6_peel 144 = .ok (.if_icmp .ge 24, 3) := by decide +kernel
theorem dX6_peel_147 : decode cX6_peel 147 = .ok (.aload_n 0, 1) := by decide +kernel
theorem dX6_peel_148 : decode cX6_peel 148 = .ok (.getfield 18, 3) := by decide +kernel
theorem dX6_peel_151 : decode cX6_peel 151 = .ok (.iload 6, 2) := by decide +kernel
theorem dX6_peel_153 : decode cX6_peel 153 = .ok (.iload_n 1, 1) := by decide +kernel
theorem dX6_peel_154 : decode cX6_peel 154 = .ok (.iconst 1, 1) := by decide +kernel
theorem dX6_peel_155 : decode cX6_peel 155 = .ok (.isub, 1) := by decide +kernel
theorem dX6_peel_156 : decode cX6_peel 156 = .ok (.iastore, 1) := by decide +kernel
theorem dX6_peel_157 : decode cX6_peel 157 = .ok (.aload_n 0, 1) := by decide +kernel
theorem dX6_peel_158 : decode cX6_peel 158 = .ok (.getfield 27, 3) := by decide +kernel
theorem dX6_peel_161 : decode cX6_peel 161 = .ok (.iload_n 2, 1) := by decide +kernel
theorem dX6_peel_162 : decode cX6_peel 162 = .ok (.iload 6, 2) := by decide +kernel
theorem dX6_peel_164 : decode cX6_peel 164 = .ok (.iastore, 1) := by decide +kernel
theorem dX6_peel_165 : decode cX6_peel 165 = .ok (.iinc 2 1, 3) := by decide +kernel
theorem dX6_peel_168 : decode cX6_peel 168 = .ok (.iinc 5 1, 3) := by decide +kernel
theorem dX6_peel_171 : decode cX6_peel 171 = .ok (.goto (-80), 3) := by decide +kernel
theorem dX6_peel_174 : decode cX6_peel 174 = .ok (.iinc 3 1, 3) := by decide +kernel
theorem dX6_peel_177 : decode cX6_peel 177 = .ok (.goto (-115), 3) := by decide +kernel
theorem dX6_peel_180 : decode cX6_peel 180 = .ok (.iload_n 2, 1) := by decide +kernel
theorem dX6_peel_181 : decode cX6_peel 181 = .ok (.ireturn, 1) := by decide +kernel
theorem dX6_countThrees_0 : decode cX6_countThrees 0 = .ok (.aload_n 0, 1) := by decide +kernel
theorem dX6_countThrees_1 : decode cX6_countThrees 1 = .ok (.getfield 21, 3) := by decide +kernel
theorem dX6_countThrees_4 : decode cX6_countThrees 4 = .ok (.iconst (-1), 1) := by decide +kernel
theorem dX6_countThrees_5 : decode cX6_countThrees 5 = .ok (.invokestatic 70, 3) := by decide +kernel
theorem dX6_countThrees_8 : decode cX6_countThrees 8 = .ok (.lconst 0, 1) := by decide +kernel
theorem dX6_countThrees_9 : decode cX6_countThrees 9 = .ok (.lstore_n 1, 1) := by decide +kernel
theorem dX6_countThrees_10 : decode cX6_countThrees 10 = .ok (.iconst 0, 1) := by decide +kernel
theorem dX6_countThrees_11 : decode cX6_countThrees 11 = .ok (.istore_n 3, 1) := by decide +kernel
theorem dX6_countThrees_12 : decode cX6_countThrees 12 = .ok (.iload_n 3, 1) := by decide +kernel
theorem dX6_countThrees_13 : decode cX6_countThrees 13 = .ok (.aload_n 0, 1) := by decide +kernel
theorem dX6_countThrees_14 : decode cX6_countThrees 14 = .ok (.getfield 30, 3) := by decide +kernel
theorem dX6_countThrees_17 : decode cX6_countThrees 17 = .ok (.getfield 37, 3) := by decide +kernel
theorem dX6_countThrees_20 : decode cX6_countThrees 20 = .ok (.if_icmp .ge 103, 3) := by decide +kernel
theorem dX6_countThrees_23 : decode cX6_countThrees 23 = .ok (.aload_n 0, 1) := by decide +kernel
theorem dX6_countThrees_24 : decode cX6_countThrees 24 = .ok (.getfield 9, 3) := by decide +kernel
theorem dX6_countThrees_27 : decode cX6_countThrees 27 = .ok (.iload_n 3, 1) := by decide +kernel
theorem dX6_countThrees_28 : decode cX6_countThrees 28 = .ok (.iaload, 1) := by decide +kernel
theorem dX6_countThrees_29 : decode cX6_countThrees 29 = .ok (.istore 4, 2) := by decide +kernel
theorem dX6_countThrees_31 : decode cX6_countThrees 31 = .ok (.iload 4, 2) := by decide +kernel
theorem dX6_countThrees_33 : decode cX6_countThrees 33 = .ok (.aload_n 0, 1) := by decide +kernel
theorem dX6_countThrees_34 : decode cX6_countThrees 34 = .ok (.getfield 9, 3) := by decide +kernel
theorem dX6_countThrees_37 : decode cX6_countThrees 37 = .ok (.iload_n 3, 1) := by decide +kernel
theorem dX6_countThrees_38 : decode cX6_countThrees 38 = .ok (.iconst 1, 1) := by decide +kernel
theorem dX6_countThrees_39 : decode cX6_countThrees 39 = .ok (.iadd, 1) := by decide +kernel
theorem dX6_countThrees_40 : decode cX6_countThrees 40 = .ok (.iaload, 1) := by decide +kernel
theorem dX6_countThrees_41 : decode cX6_countThrees 41 = .ok (.if_icmp .ge 22, 3) := by decide +kernel
theorem dX6_countThrees_44 : decode cX6_countThrees 44 = .ok (.aload_n 0, 1) := by decide +kernel
theorem dX6_countThrees_45 : decode cX6_countThrees 45 = .ok (.getfield 21, 3) := by decide +kernel
theorem dX6_countThrees_48 : decode cX6_countThrees 48 = .ok (.aload_n 0, 1) := by decide +kernel
theorem dX6_countThrees_49 : decode cX6_countThrees 49 = .ok (.getfield 15, 3) := by decide +kernel
theorem dX6_countThrees_52 : decode cX6_countThrees 52 = .ok (.iload 4, 2) := by decide +kernel
theorem dX6_countThrees_54 : decode cX6_countThrees 54 = .ok (.iaload, 1) := by decide +kernel
theorem dX6_countThrees_55 : decode cX6_countThrees 55 = .ok (.iload_n 3, 1) := by decide +kernel
theorem dX6_countThrees_56 : decode cX6_countThrees 56 = .ok (.iastore, 1) := by decide +kernel
theorem dX6_countThrees_57 : decode cX6_countThrees 57 = .ok (.iinc 4 1, 3) := by decide +kernel
theorem dX6_countThrees_60 : decode cX6_countThrees 60 = .ok (.goto (-29), 3) := by decide +kernel
theorem dX6_countThrees_63 : decode cX6_countThrees 63 = .ok (.aload_n 0, 1) := by decide +kernel
theorem dX6_countThrees_64 : decode cX6_countThrees 64 = .ok (.getfield 9, 3) := by decide +kernel
theorem dX6_countThrees_67 : decode cX6_countThrees 67 = .ok (.iload_n 3, 1) := by decide +kernel
theorem dX6_countThrees_68 : decode cX6_countThrees 68 = .ok (.iaload, 1) := by decide +kernel
theorem dX6_countThrees_69 : decode cX6_countThrees 69 = .ok (.istore 4, 2) := by decide +kernel
theorem dX6_countThrees_71 : decode cX6_countThrees 71 = .ok (.iload 4, 2) := by decide +kernel
theorem dX6_countThrees_73 : decode cX6_countThrees 73 = .ok (.aload_n 0, 1) := by decide +kernel
theorem dX6_countThrees_74 : decode cX6_countThrees 74 = .ok (.getfield 9, 3) := by decide +kernel
theorem dX6_countThrees_77 : decode cX6_countThrees 77 = .ok (.iload_n 3, 1) := by decide +kernel
theorem dX6_countThrees_78 : decode cX6_countThrees 78 = .ok (.iconst 1, 1) := by decide +kernel
theorem dX6_countThrees_79 : decode cX6_countThrees 79 = .ok (.iadd, 1) := by decide +kernel
theorem dX6_countThrees_80 : decode cX6_countThrees 80 = .ok (.iaload, 1) := by decide +kernel
theorem dX6_countThrees_81 : decode cX6_countThrees 81 = .ok (.if_icmp .ge 36, 3) := by decide +kernel
theorem dX6_countThrees_84 : decode cX6_countThrees 84 = .ok (.aload_n 0, 1) := by decide +kernel
theorem dX6_countThrees_85 : decode cX6_countThrees 85 = .ok (.getfield 15, 3) := by decide +kernel
theorem dX6_countThrees_88 : decode cX6_countThrees 88 = .ok (.iload 4, 2) := by decide +kernel
theorem dX6_countThrees_90 : decode cX6_countThrees 90 = .ok (.iaload, 1) := by decide +kernel
theorem dX6_countThrees_91 : decode cX6_countThrees 91 = .ok (.iload_n 3, 1) := by decide +kernel
theorem dX6_countThrees_92 : decode cX6_countThrees 92 = .ok (.if_icmp .le 19, 3) := by decide +kernel
theorem dX6_countThrees_95 : decode cX6_countThrees 95 = .ok (.lload_n 1, 1) := by decide +kernel
theorem dX6_countThrees_96 : decode cX6_countThrees 96 = .ok (.aload_n 0, 1) := by decide +kernel
theorem dX6_countThrees_97 : decode cX6_countThrees 97 = .ok (.aload_n 0, 1) := by decide +kernel
theorem dX6_countThrees_98 : decode cX6_countThrees 98 = .ok (.getfield 15, 3) := by decide +kernel
theorem dX6_countThrees_101 : decode cX6_countThrees 101 = .ok (.iload 4, 2) := by decide +kernel
theorem dX6_countThrees_103 : decode cX6_countThrees 103 = .ok (.iaload, 1) := by decide +kernel
theorem dX6_countThrees_104 : decode cX6_countThrees 104 = .ok (.iload_n 3, 1) := by decide +kernel
theorem dX6_countThrees_105 : decode cX6_countThrees 105 = .ok (.invokevirtual 89, 3) := by decide +kernel
theorem dX6_countThrees_108 : decode cX6_countThrees 108 = .ok (.i2l, 1) := by decide +kernel
theorem dX6_countThrees_109 : decode cX6_countThrees 109 = .ok (.ladd, 1) := by decide +kernel
theorem dX6_countThrees_110 : decode cX6_countThrees 110 = .ok (.lstore_n 1, 1) := by decide +kernel
theorem dX6_countThrees_111 : decode cX6_countThrees 111 = .ok (.iinc 4 1, 3) := by decide +kernel
theorem dX6_countThrees_114 : decode cX6_countThrees 114 = .ok (.goto (-43), 3) := by decide +kernel
theorem dX6_countThrees_117 : decode cX6_countThrees 117 = .ok (.iinc 3 1, 3) := by decide +kernel
theorem dX6_countThrees_120 : decode cX6_countThrees 120 = .ok (.goto (-108), 3) := by decide +kernel
theorem dX6_countThrees_123 : decode cX6_countThrees 123 = .ok (.lload_n 1, 1) := by decide +kernel
theorem dX6_countThrees_124 : decode cX6_countThrees 124 = .ok (.lreturn, 1) := by decide +kernel
theorem dX6_markedBehind_0 : decode cX6_markedBehind 0 = .ok (.iconst 0, 1) := by decide +kernel
theorem dX6_markedBehind_1 : decode cX6_markedBehind 1 = .ok (.istore_n 3, 1) := by decide +kernel
theorem dX6_markedBehind_2 : decode cX6_markedBehind 2 = .ok (.aload_n 0, 1) := by decide +kernel
theorem dX6_markedBehind_3 : decode cX6_markedBehind 3 = .ok (.getfield 9, 3) := by decide +kernel
theorem dX6_markedBehind_6 : decode cX6_markedBehind 6 = .ok (.iload_n 1, 1) := by decide +kernel
theorem dX6_markedBehind_7 : decode cX6_markedBehind 7 = .ok (.iaload, 1) := by decide +kernel
theorem dX6_markedBehind_8 : decode cX6_markedBehind 8 = .ok (.istore 4, 2) := by decide +kernel
theorem dX6_markedBehind_10 : decode cX6_markedBehind 10 = .ok (.iload 4, 2) := by decide +kernel
theorem dX6_markedBehind_12 : decode cX6_markedBehind 12 = .ok (.aload_n 0, 1) := by decide +kernel
theorem dX6_markedBehind_13 : decode cX6_markedBehind 13 = .ok (.getfield 9, 3) := by decide +kernel
theorem dX6_markedBehind_16 : decode cX6_markedBehind 16 = .ok (.iload_n 1, 1) := by decide +kernel
theorem dX6_markedBehind_17 : decode cX6_markedBehind 17 = .ok (.iconst 1, 1) := by decide +kernel
theorem dX6_markedBehind_18 : decode cX6_markedBehind 18 = .ok (.iadd, 1) := by decide +kernel
theorem dX6_markedBehind_19 : decode cX6_markedBehind 19 = .ok (.iaload, 1) := by decide +kernel
theorem dX6_markedBehind_20 : decode cX6_markedBehind 20 = .ok (.if_icmp .ge 39, 3) := by decide +kernel
theorem dX6_markedBehind_23 : decode cX6_markedBehind 23 = .ok (.aload_n 0, 1) := by decide +kernel
theorem dX6_markedBehind_24 : decode cX6_markedBehind 24 = .ok (.getfield 15, 3) := by decide +kernel
theorem dX6_markedBehind_27 : decode cX6_markedBehind 27 = .ok (.iload 4, 2) := by decide +kernel
theorem dX6_markedBehind_29 : decode cX6_markedBehind 29 = .ok (.iaload, 1) := by decide +kernel
theorem dX6_markedBehind_30 : decode cX6_markedBehind 30 = .ok (.iload_n 1, 1) := by decide +kernel
theorem dX6_markedBehind_31 : decode cX6_markedBehind 31 = .ok (.if_icmp .le 22, 3) := by decide +kernel
theorem dX6_markedBehind_34 : decode cX6_markedBehind 34 = .ok (.aload_n 0, 1) := by decide +kernel
theorem dX6_markedBehind_35 : decode cX6_markedBehind 35 = .ok (.getfield 21, 3) := by decide +kernel
theorem dX6_markedBehind_38 : decode cX6_markedBehind 38 = .ok (.aload_n 0, 1) := by decide +kernel
theorem dX6_markedBehind_39 : decode cX6_markedBehind 39 = .ok (.getfield 15, 3) := by decide +kernel
theorem dX6_markedBehind_42 : decode cX6_markedBehind 42 = .ok (.iload 4, 2) := by decide +kernel
theorem dX6_markedBehind_44 : decode cX6_markedBehind 44 = .ok (.iaload, 1) := by decide +kernel
theorem dX6_markedBehind_45 : decode cX6_markedBehind 45 = .ok (.iaload, 1) := by decide +kernel
theorem dX6_markedBehind_46 : decode cX6_markedBehind 46 = .ok (.iload_n 2, 1) := by decide +kernel
theorem dX6_markedBehind_47 : decode cX6_markedBehind 47 = .ok (.if_icmp .ne 6, 3) := by decide +kernel
theorem dX6_markedBehind_50 : decode cX6_markedBehind 50 = .ok (.iinc 3 1, 3) := by decide +kernel
theorem dX6_markedBehind_53 : decode cX6_markedBehind 53 = .ok (.iinc 4 1, 3) := by decide +kernel
theorem dX6_markedBehind_56 : decode cX6_markedBehind 56 = .ok (.goto (-46), 3) := by decide +kernel
theorem dX6_markedBehind_59 : decode cX6_markedBehind 59 = .ok (.iload_n 3, 1) := by decide +kernel
theorem dX6_markedBehind_60 : decode cX6_markedBehind 60 = .ok (.ireturn, 1) := by decide +kernel
theorem dX7_init_0 : decode cX7_init 0 = .ok (.aload_n 0, 1) := by decide +kernel
theorem dX7_init_1 : decode cX7_init 1 = .ok (.invokespecial 3, 3) := by decide +kernel
theorem dX7_init_4 : decode cX7_init 4 = .ok (.aload_n 0, 1) := by decide +kernel
theorem dX7_init_5 : decode cX7_init 5 = .ok (.sipush 300, 3) := by decide +kernel
theorem dX7_init_8 : decode cX7_init 8 = .ok (.newarray .int, 2) := by decide +kernel
theorem dX7_init_10 : decode cX7_init 10 = .ok (.putfield 9, 3) := by decide +kernel
theorem dX7_init_13 : decode cX7_init 13 = .ok (.aload_n 0, 1) := by decide +kernel
theorem dX7_init_14 : decode cX7_init 14 = .ok (.sipush 300, 3) := by decide +kernel
theorem dX7_init_17 : decode cX7_init 17 = .ok (.newarray .int, 2) := by decide +kernel
theorem dX7_init_19 : decode cX7_init 19 = .ok (.putfield 15, 3) := by decide +kernel
theorem dX7_init_22 : decode cX7_init 22 = .ok (.aload_n 0, 1) := by decide +kernel
theorem dX7_init_23 : decode cX7_init 23 = .ok (.sipush 300, 3) := by decide +kernel
theorem dX7_init_26 : decode cX7_init 26 = .ok (.newarray .int, 2) := by decide +kernel
theorem dX7_init_28 : decode cX7_init 28 = .ok (.putfield 18, 3) := by decide +kernel
theorem dX7_init_31 : decode cX7_init 31 = .ok (.aload_n 0, 1) := by decide +kernel
theorem dX7_init_32 : decode cX7_init 32 = .ok (.sipush 300, 3) := by decide +kernel
theorem dX7_init_35 : decode cX7_init 35 = .ok (.newarray .int, 2) := by decide +kernel
theorem dX7_init_37 : decode cX7_init 37 = .ok (.putfield 21, 3) := by decide +kernel
theorem dX7_init_40 : decode cX7_init 40 = .ok (.aload_n 0, 1) := by decide +kernel
theorem dX7_init_41 : decode cX7_init 41 = .ok (.aload_n 1, 1) := by decide +kernel
theorem dX7_init_42 : decode cX7_init 42 = .ok (.putfield 24, 3) := by decide +kernel
theorem dX7_init_45 : decode cX7_init 45 = .ok (.return_, 1) := by decide +kernel
theorem dX7_leastOf_0 : decode cX7_leastOf 0 = .ok (.aload_n 0, 1) := by decide +kernel
theorem dX7_leastOf_1 : decode cX7_leastOf 1 = .ok (.invokevirtual 28, 3) := by decide +kernel
theorem dX7_leastOf_4 : decode cX7_leastOf 4 = .ok (.aload_n 0, 1) := by decide +kernel
theorem dX7_leastOf_5 : decode cX7_leastOf 5 = .ok (.getfield 9, 3) := by decide +kernel
theorem dX7_leastOf_8 : decode cX7_leastOf 8 = .ok (.iload_n 1, 1) := by decide +kernel
theorem dX7_leastOf_9 : decode cX7_leastOf 9 = .ok (.iaload, 1) := by decide +kernel
theorem dX7_leastOf_10 : decode cX7_leastOf 10 = .ok (.ireturn, 1) := by decide +kernel
theorem dX7_parts_0 : decode cX7_parts 0 = .ok (.aload_n 0, 1) := by decide +kernel
theorem dX7_parts_1 : decode cX7_parts 1 = .ok (.invokevirtual 28, 3) := by decide +kernel
theorem dX7_parts_4 : decode cX7_parts 4 = .ok (.iconst 0, 1) := by decide +kernel
theorem dX7_parts_5 : decode cX7_parts 5 = .ok (.istore_n 1, 1) := by decide +kernel
theorem dX7_parts_6 : decode cX7_parts 6 = .ok (.iconst 0, 1) := by decide +kernel
theorem dX7_parts_7 : decode cX7_parts 7 = .ok (.istore_n 2, 1) := by decide +kernel
theorem dX7_parts_8 : decode cX7_parts 8 = .ok (.iload_n 2, 1) := by decide +kernel
theorem dX7_parts_9 : decode cX7_parts 9 = .ok (.aload_n 0, 1) := by decide +kernel
theorem dX7_parts_10 : decode cX7_parts 10 = .ok (.getfield 24, 3) := by decide +kernel
theorem dX7_parts_13 : decode cX7_parts 13 = .ok (.getfield 31, 3) := by decide +kernel
theorem dX7_parts_16 : decode cX7_parts 16 = .ok (.if_icmp .ge 22, 3) := by decide +kernel
theorem dX7_parts_19 : decode cX7_parts 19 = .ok (.aload_n 0, 1) := by decide +kernel
theorem dX7_parts_20 : decode cX7_parts 20 = .ok (.getfield 9, 3) := by decide +kernel
theorem dX7_parts_23 : decode cX7_parts 23 = .ok (.iload_n 2, 1) := by decide +kernel
theorem dX7_parts_24 : decode cX7_parts 24 = .ok (.iaload, 1) := by decide +kernel
theorem dX7_parts_25 : decode cX7_parts 25 = .ok (.iload_n 2, 1) := by decide +kernel
theorem dX7_parts_26 : decode cX7_parts 26 = .ok (.if_icmp .ne 6, 3) := by decide +kernel
theorem dX7_parts_29 : decode cX7_parts 29 = .ok (.iinc 1 1, 3) := by decide +kernel
theorem dX7_parts_32 : decode cX7_parts 32 = .ok (.iinc 2 1, 3) := by decide +kernel
theorem dX7_parts_35 : decode cX7_parts 35 = .ok (.goto (-27), 3) := by decide +kernel
theorem dX7_parts_38 : decode cX7_parts 38 = .ok (.iload_n 1, 1) := by decide +kernel
theorem dX7_parts_39 : decode cX7_parts 39 = .ok (.ireturn, 1) := by decide +kernel
theorem dX7_look_0 : decode cX7_look 0 = .ok (.aload_n 0, 1) := by decide +kernel
theorem dX7_look_1 : decode cX7_look 1 = .ok (.getfield 37, 3) := by decide +kernel
theorem dX7_look_4 : decode cX7_look 4 = .ok (.aload_n 0, 1) := by decide +kernel
theorem dX7_look_5 : decode cX7_look 5 = .ok (.getfield 24, 3) := by decide +kernel
theorem dX7_look_8 : decode cX7_look 8 = .ok (.getfield 40, 3) := by decide +kernel
theorem dX7_look_11 : decode cX7_look 11 = .ok (.if_icmp .ne 4, 3) := by decide +kernel
theorem dX7_look_14 : decode cX7_look 14 = .ok (.return_, 1) := by decide +kernel
theorem dX7_look_15 : decode cX7_look 15 = .ok (.aload_n 0, 1) := by decide +kernel
theorem dX7_look_16 : decode cX7_look 16 = .ok (.getfield 21, 3) := by decide +kernel
theorem dX7_look_19 : decode cX7_look 19 = .ok (.iconst (-1), 1) := by decide +kernel
theorem dX7_look_20 : decode cX7_look 20 = .ok (.invokestatic 41, 3) := by decide +kernel
theorem dX7_look_23 : decode cX7_look 23 = .ok (.aload_n 0, 1) := by decide +kernel
theorem dX7_look_24 : decode cX7_look 24 = .ok (.iconst 0, 1) := by decide +kernel
theorem dX7_look_25 : decode cX7_look 25 = .ok (.putfield 47, 3) := by decide +kernel
theorem dX7_look_28 : decode cX7_look 28 = .ok (.iconst 0, 1) := by decide +kernel
theorem dX7_look_29 : decode cX7_look 29 = .ok (.istore_n 1, 1) := by decide +kernel
theorem dX7_look_30 : decode cX7_look 30 = .ok (.iload_n 1, 1) := by decide +kernel
theorem dX7_look_31 : decode cX7_look 31 = .ok (.aload_n 0, 1) := by decide +kernel
theorem dX7_look_32 : decode cX7_look 32 = .ok (.getfield 24, 3) := by decide +kernel
theorem dX7_look_35 : decode cX7_look 35 = .ok (.getfield 31, 3) := by decide +kernel
theorem dX7_look_38 : decode cX7_look 38 = .ok (.if_icmp .ge 24, 3) := by decide +kernel
theorem dX7_look_41 : decode cX7_look 41 = .ok (.aload_n 0, 1) := by decide +kernel
theorem dX7_look_42 : decode cX7_look 42 = .ok (.getfield 21, 3) := by decide +kernel
theorem dX7_look_45 : decode cX7_look 45 = .ok (.iload_n 1, 1) := by decide +kernel
theorem dX7_look_46 : decode cX7_look 46 = .ok (.iaload, 1) := by decide +kernel
theorem dX7_look_47 : decode cX7_look 47 = .ok (.iconst (-1), 1) := by decide +kernel
theorem dX7_look_48 : decode cX7_look 48 = .ok (.if_icmp .ne 8, 3) := by decide +kernel
theorem dX7_look_51 : decode cX7_look 51 = .ok (.aload_n 0, 1) := by decide +kernel
theorem dX7_look_52 : decode cX7_look 52 = .ok (.iload_n 1, 1) := by decide +kernel
theorem dX7_look_53 : decode cX7_look 53 = .ok (.invokevirtual 50, 3) := by decide +kernel
theorem dX7_look_56 : decode cX7_look 56 = .ok (.iinc 1 1, 3) := by decide +kernel
theorem dX7_look_59 : decode cX7_look 59 = .ok (.goto (-29), 3) := by decide +kernel
theorem dX7_look_62 : decode cX7_look 62 = .ok (.aload_n 0, 1) := by decide +kernel
theorem dX7_look_63 : decode cX7_look 63 = .ok (.getfield 9, 3) := by decide +kernel
theorem dX7_look_66 : decode cX7_look 66 = .ok (.iconst (-1), 1) := by decide +kernel
theorem dX7_look_67 : decode cX7_look 67 = .ok (.invokestatic 41, 3) := by decide +kernel
theorem dX7_look_70 : decode cX7_look 70 = .ok (.aload_n 0, 1) := by decide +kernel
theorem dX7_look_71 : decode cX7_look 71 = .ok (.getfield 47, 3) := by decide +kernel
theorem dX7_look_74 : decode cX7_look 74 = .ok (.iconst 1, 1) := by decide +kernel
theorem dX7_look_75 : decode cX7_look 75 = .ok (.isub, 1) := by decide +kernel
theorem dX7_look_76 : decode cX7_look 76 = .ok (.istore_n 1, 1) := by decide +kernel
theorem dX7_look_77 : decode cX7_look 77 = .ok (.iload_n 1, 1) := by decide +kernel
theorem dX7_look_78 : decode cX7_look 78 = .ok (.ifCond .lt 34, 3) := by decide +kernel
theorem dX7_look_81 : decode cX7_look 81 = .ok (.aload_n 0, 1) := by decide +kernel
theorem dX7_look_82 : decode cX7_look 82 = .ok (.getfield 9, 3) := by decide +kernel
theorem dX7_look_85 : decode cX7_look 85 = .ok (.aload_n 0, 1) := by decide +kernel
theorem dX7_look_86 : decode cX7_look 86 = .ok (.getfield 15, 3) := by decide +kernel
theorem dX7_look_89 : decode cX7_look 89 = .ok (.iload_n 1, 1) := by decide +kernel
theorem dX7_look_90 : decode cX7_look 90 = .ok (.iaload, 1) := by decide +kernel
theorem dX7_look_91 : decode cX7_look 91 = .ok (.iaload, 1) := by decide +kernel
theorem dX7_look_92 : decode cX7_look 92 = .ok (.iconst (-1), 1) := by decide +kernel
theorem dX7_look_93 : decode cX7_look 93 = .ok (.if_icmp .ne 13, 3) := by decide +kernel
theorem dX7_look_96 : decode cX7_look 96 = .ok (.aload_n 0, 1) := by decide +kernel
theorem dX7_look_97 : decode cX7_look 97 = .ok (.aload_n 0, 1) := by decide +kernel
theorem dX7_look_98 : decode cX7_look 98 = .ok (.getfield 15, 3) := by decide +kernel
theorem dX7_look_101 : decode cX7_look 101 = .ok (.iload_n 1, 1) := by decide +kernel
theorem dX7_look_102 : decode cX7_look 102 = .ok (.iaload, 1) := by decide +kernel
theorem dX7_look_103 : decode cX7_look 103 = .ok (.invokevirtual 54, 3) := by decide +kernel
theorem dX7_look_106 : decode cX7_look 106 = .ok (.iinc 1 (-1), 3) := by decide +kernel
theorem dX7_look_109 : decode cX7_look 109 = .ok (.goto (-32), 3) := by decide +kernel
theorem dX7_look_112 : decode cX7_look 112 = .ok (.aload_n 0, 1) := by decide +kernel
theorem dX7_look_113 : decode cX7_look 113 = .ok (.aload_n 0, 1) := by decide +kernel
theorem dX7_look_114 : decode cX7_look 114 = .ok (.getfield 24, 3) := by decide +kernel
theorem dX7_look_117 : decode cX7_look 117 = .ok (.getfield 40, 3) := by decide +kernel
theorem dX7_look_120 : decode cX7_look 120 = .ok (.putfield 37, 3) := by decide +kernel
theorem dX7_look_123 : decode cX7_look 123 = .ok (.return_, 1) := by decide +kernel
theorem dX7_leave_0 : decode cX7_leave 0 = .ok (.aload_n 0, 1) := by decide +kernel
theorem dX7_leave_1 : decode cX7_leave 1 = .ok (.getfield 24, 3) := by decide +kernel
theorem dX7_leave_4 : decode cX7_leave 4 = .ok (.getfield 57, 3) := by decide +kernel
theorem dX7_leave_7 : decode cX7_leave 7 = .ok (.astore_n 2, 1) := by decide +kernel
theorem dX7_leave_8 : decode cX7_leave 8 = .ok (.aload_n 0, 1) := by decide +kernel
theorem dX7_leave_9 : decode cX7_leave 9 = .ok (.getfield 21, 3) := by decide +kernel
theorem dX7_leave_12 : decode cX7_leave 12 = .ok (.iload_n 1, 1) := by decide +kernel
theorem dX7_leave_13 : decode cX7_leave 13 = .ok (.aload_n 2, 1) := by decide +kernel
theorem dX7_leave_14 : decode cX7_leave 14 = .ok (.getfield 61, 3) := by decide +kernel
theorem dX7_leave_17 : decode cX7_leave 17 = .ok (.iload_n 1, 1) := by decide +kernel
theorem dX7_leave_18 : decode cX7_leave 18 = .ok (.iaload, 1) := by decide +kernel
theorem dX7_leave_19 : decode cX7_leave 19 = .ok (.iastore, 1) := by decide +kernel
theorem dX7_leave_20 : decode cX7_leave 20 = .ok (.aload_n 0, 1) := by decide +kernel
theorem dX7_leave_21 : decode cX7_leave 21 = .ok (.getfield 18, 3) := by decide +kernel
theorem dX7_leave_24 : decode cX7_leave 24 = .ok (.iconst 0, 1) := by decide +kernel
theorem dX7_leave_25 : decode cX7_leave 25 = .ok (.iload_n 1, 1) := by decide +kernel

/-! decode rows -/
theorem dX0_init_0 : decode cX0_init 0 = .ok (.aload_n 0, 1) := by decide +kernel
theorem dX0_init_1 : decode cX0_init 1 = .ok (.invokespecial 3, 3) := by decide +kernel
theorem dX0_init_4 : decode cX0_init 4 = .ok (.aload_n 0, 1) := by decide +kernel
theorem dX0_init_5 : decode cX0_init 5 = .ok (.new 9, 3) := by decide +kernel
theorem dX0_init_8 : decode cX0_init 8 = .ok (.dup, 1) := by decide +kernel
theorem dX0_init_9 : decode cX0_init 9 = .ok (.invokespecial 11, 3) := by decide +kernel
theorem dX0_init_12 : decode cX0_init 12 = .ok (.putfield 12, 3) := by decide +kernel
theorem dX0_init_15 : decode cX0_init 15 = .ok (.return_, 1) := by decide +kernel
theorem dX0_size_0 : decode cX0_size 0 = .ok (.aload_n 0, 1) := by decide +kernel
theorem dX0_size_1 : decode cX0_size 1 = .ok (.getfield 12, 3) := by decide +kernel
theorem dX0_size_4 : decode cX0_size 4 = .ok (.invokevirtual 18, 3) := by decide +kernel
theorem dX0_size_7 : decode cX0_size 7 = .ok (.ireturn, 1) := by decide +kernel
theorem dX0_clear_0 : decode cX0_clear 0 = .ok (.aload_n 0, 1) := by decide +kernel
theorem dX0_clear_1 : decode cX0_clear 1 = .ok (.getfield 12, 3) := by decide +kernel
theorem dX0_clear_4 : decode cX0_clear 4 = .ok (.invokevirtual 22, 3) := by decide +kernel
theorem dX0_clear_7 : decode cX0_clear 7 = .ok (.return_, 1) := by decide +kernel
theorem dX0_addDeletion_0 : decode cX0_addDeletion 0 = .ok (.aload_n 0, 1) := by decide +kernel
theorem dX0_addDeletion_1 : decode cX0_addDeletion 1 = .ok (.iload_n 1, 1) := by decide +kernel
theorem dX0_addDeletion_2 : decode cX0_addDeletion 2 = .ok (.invokevirtual 25, 3) := by decide +kernel
theorem dX0_addDeletion_5 : decode cX0_addDeletion 5 = .ok (.pop, 1) := by decide +kernel
theorem dX0_addDeletion_6 : decode cX0_addDeletion 6 = .ok (.return_, 1) := by decide +kernel
theorem dX0_addSign_0 : decode cX0_addSign 0 = .ok (.aload_n 0, 1) := by decide +kernel
theorem dX0_addSign_1 : decode cX0_addSign 1 = .ok (.iload_n 1, 1) := by decide +kernel
theorem dX0_addSign_2 : decode cX0_addSign 2 = .ok (.invokevirtual 29, 3) := by decide +kernel
theorem dX0_addSign_5 : decode cX0_addSign 5 = .ok (.ifCond .ne 11, 3) := by decide +kernel
theorem dX0_addSign_8 : decode cX0_addSign 8 = .ok (.aload_n 0, 1) := by decide +kernel
theorem dX0_addSign_9 : decode cX0_addSign 9 = .ok (.iload_n 1, 1) := by decide +kernel
theorem dX0_addSign_10 : decode cX0_addSign 10 = .ok (.invokevirtual 25, 3) := by decide +kernel
theorem dX0_addSign_13 : decode cX0_addSign 13 = .ok (.ifCond .eq 20, 3) := by decide +kernel
theorem dX0_addSign_16 : decode cX0_addSign 16 = .ok (.aload_n 0, 1) := by decide +kernel
theorem dX0_addSign_17 : decode cX0_addSign 17 = .ok (.getfield 12, 3) := by decide +kernel
theorem dX0_addSign_20 : decode cX0_addSign 20 = .ok (.aload_n 0, 1) := by decide +kernel
theorem dX0_addSign_21 : decode cX0_addSign 21 = .ok (.getfield 12, 3) := by decide +kernel
theorem dX0_addSign_24 : decode cX0_addSign 24 = .ok (.invokevirtual 18, 3) := by decide +kernel
theorem dX0_addSign_27 : decode cX0_addSign 27 = .ok (.iconst 1, 1) := by decide +kernel
theorem dX0_addSign_28 : decode cX0_addSign 28 = .ok (.isub, 1) := by decide +kernel
theorem dX0_addSign_29 : decode cX0_addSign 29 = .ok (.iload_n 2, 1) := by decide +kernel
theorem dX0_addSign_30 : decode cX0_addSign 30 = .ok (.invokevirtual 32, 3) := by decide +kernel
theorem dX0_addSign_33 : decode cX0_addSign 33 = .ok (.return_, 1) := by decide +kernel
theorem dX0_refusingChange_0 : decode cX0_refusingChange 0 = .ok (.aload_n 1, 1) := by decide +kernel
theorem dX0_refusingChange_1 : decode cX0_refusingChange 1 = .ok (.invokevirtual 18, 3) := by decide +kernel
theorem dX0_refusingChange_4 : decode cX0_refusingChange 4 = .ok (.istore_n 2, 1) := by decide +kernel
theorem dX0_refusingChange_5 : decode cX0_refusingChange 5 = .ok (.iconst 0, 1) := by decide +kernel
theorem dX0_refusingChange_6 : decode cX0_refusingChange 6 = .ok (.istore_n 3, 1) := by decide +kernel
theorem dX0_refusingChange_7 : decode cX0_refusingChange 7 = .ok (.iconst 0, 1) := by decide +kernel
theorem dX0_refusingChange_8 : decode cX0_refusingChange 8 = .ok (.istore 4, 2) := by decide +kernel
theorem dX0_refusingChange_10 : decode cX0_refusingChange 10 = .ok (.iload 4, 2) := by decide +kernel
theorem dX0_refusingChange_12 : decode cX0_refusingChange 12 = .ok (.aload_n 0, 1) := by decide +kernel
theorem dX0_refusingChange_13 : decode cX0_refusingChange 13 = .ok (.getfield 12, 3) := by decide +kernel
theorem dX0_refusingChange_16 : decode cX0_refusingChange 16 = .ok (.invokevirtual 18, 3) := by decide +kernel
theorem dX0_refusingChange_19 : decode cX0_refusingChange 19 = .ok (.if_icmp .ge 85, 3) := by decide +kernel
theorem dX0_refusingChange_22 : decode cX0_refusingChange 22 = .ok (.aload_n 0, 1) := by decide +kernel
theorem dX0_refusingChange_23 : decode cX0_refusingChange 23 = .ok (.getfield 12, 3) := by decide +kernel
theorem dX0_refusingChange_26 : decode cX0_refusingChange 26 = .ok (.iload 4, 2) := by decide +kernel
theorem dX0_refusingChange_28 : decode cX0_refusingChange 28 = .ok (.invokevirtual 36, 3) := by decide +kernel
theorem dX0_refusingChange_31 : decode cX0_refusingChange 31 = .ok (.istore 5, 2) := by decide +kernel
theorem dX0_refusingChange_33 : decode cX0_refusingChange 33 = .ok (.aload_n 1, 1) := by decide +kernel
theorem dX0_refusingChange_34 : decode cX0_refusingChange 34 = .ok (.iload 5, 2) := by decide +kernel
theorem dX0_refusingChange_36 : decode cX0_refusingChange 36 = .ok (.invokevirtual 40, 3) := by decide +kernel
theorem dX0_refusingChange_39 : decode cX0_refusingChange 39 = .ok (.istore 6, 2) := by decide +kernel
theorem dX0_refusingChange_41 : decode cX0_refusingChange 41 = .ok (.aload_n 0, 1) := by decide +kernel
theorem dX0_refusingChange_42 : decode cX0_refusingChange 42 = .ok (.iload 4, 2) := by decide +kernel
theorem dX0_refusingChange_44 : decode cX0_refusingChange 44 = .ok (.invokevirtual 43, 3) := by decide +kernel
theorem dX0_refusingChange_47 : decode cX0_refusingChange 47 = .ok (.ifCond .eq 9, 3) := by decide +kernel
theorem dX0_refusingChange_50 : decode cX0_refusingChange 50 = .ok (.iinc 2 (-1), 3) := by decide +kernel
theorem dX0_refusingChange_53 : decode cX0_refusingChange 53 = .ok (.goto 11, 3) := by decide +kernel
theorem dX0_refusingChange_56 : decode cX0_refusingChange 56 = .ok (.iload 6, 2) := by decide +kernel
theorem dX0_refusingChange_58 : decode cX0_refusingChange 58 = .ok (.ifCond .ne 6, 3) := by decide +kernel
theorem dX0_refusingChange_61 : decode cX0_refusingChange 61 = .ok (.iinc 2 1, 3) := by decide +kernel
theorem dX0_refusingChange_64 : decode cX0_refusingChange 64 = .ok (.iload 5, 2) := by decide +kernel
theorem dX0_refusingChange_66 : decode cX0_refusingChange 66 = .ok (.iload_n 3, 1) := by decide +kernel
theorem dX0_refusingChange_67 : decode cX0_refusingChange 67 = .ok (.if_icmp .le 23, 3) := by decide +kernel
theorem dX0_refusingChange_70 : decode cX0_refusingChange 70 = .ok (.aload_n 0, 1) := by decide +kernel
theorem dX0_refusingChange_71 : decode cX0_refusingChange 71 = .ok (.iload 4, 2) := by decide +kernel
theorem dX0_refusingChange_73 : decode cX0_refusingChange 73 = .ok (.invokevirtual 43, 3) := by decide +kernel
theorem dX0_refusingChange_76 : decode cX0_refusingChange 76 = .ok (.ifCond .eq 8, 3) := by decide +kernel
theorem dX0_refusingChange_79 : decode cX0_refusingChange 79 = .ok (.iload 6, 2) := by decide +kernel
theorem dX0_refusingChange_81 : decode cX0_refusingChange 81 = .ok (.ifCond .eq 9, 3) := by decide +kernel
theorem dX0_refusingChange_84 : decode cX0_refusingChange 84 = .ok (.iload_n 2, 1) := by decide +kernel
theorem dX0_refusingChange_85 : decode cX0_refusingChange 85 = .ok (.bipush 30, 2) := by decide +kernel
theorem dX0_refusingChange_87 : decode cX0_refusingChange 87 = .ok (.if_icmp .le 8, 3) := by decide +kernel
theorem dX0_refusingChange_90 : decode cX0_refusingChange 90 = .ok (.iload 4, 2) := by decide +kernel
theorem dX0_refusingChange_92 : decode cX0_refusingChange 92 = .ok (.iconst 1, 1) := by decide +kernel
theorem dX0_refusingChange_93 : decode cX0_refusingChange 93 = .ok (.iadd, 1) := by decide +kernel
theorem dX0_refusingChange_94 : decode cX0_refusingChange 94 = .ok (.ireturn, 1) := by decide +kernel
theorem dX0_refusingChange_95 : decode cX0_refusingChange 95 = .ok (.iload 5, 2) := by decide +kernel
theorem dX0_refusingChange_97 : decode cX0_refusingChange 97 = .ok (.istore_n 3, 1) := by decide +kernel
theorem dX0_refusingChange_98 : decode cX0_refusingChange 98 = .ok (.iinc 4 1, 3) := by decide +kernel
theorem dX0_refusingChange_101 : decode cX0_refusingChange 101 = .ok (.goto (-91), 3) := by decide +kernel
theorem dX0_refusingChange_104 : decode cX0_refusingChange 104 = .ok (.iconst 0, 1) := by decide +kernel
theorem dX0_refusingChange_105 : decode cX0_refusingChange 105 = .ok (.ireturn, 1) := by decide +kernel
theorem dX0_applyTo_0 : decode cX0_applyTo 0 = .ok (.iconst 0, 1) := by decide +kernel
theorem dX0_applyTo_1 : decode cX0_applyTo 1 = .ok (.istore_n 2, 1) := by decide +kernel
theorem dX0_applyTo_2 : decode cX0_applyTo 2 = .ok (.iload_n 2, 1) := by decide +kernel
theorem dX0_applyTo_3 : decode cX0_applyTo 3 = .ok (.aload_n 0, 1) := by decide +kernel
theorem dX0_applyTo_4 : decode cX0_applyTo 4 = .ok (.getfield 12, 3) := by decide +kernel
theorem dX0_applyTo_7 : decode cX0_applyTo 7 = .ok (.invokevirtual 18, 3) := by decide +kernel
theorem dX0_applyTo_10 : decode cX0_applyTo 10 = .ok (.if_icmp .ge 41, 3) := by decide +kernel
theorem dX0_applyTo_13 : decode cX0_applyTo 13 = .ok (.aload_n 0, 1) := by decide +kernel
theorem dX0_applyTo_14 : decode cX0_applyTo 14 = .ok (.iload_n 2, 1) := by decide +kernel
theorem dX0_applyTo_15 : decode cX0_applyTo 15 = .ok (.invokevirtual 43, 3) := by decide +kernel
theorem dX0_applyTo_18 : decode cX0_applyTo 18 = .ok (.ifCond .eq 18, 3) := by decide +kernel
theorem dX0_applyTo_21 : decode cX0_applyTo 21 = .ok (.aload_n 1, 1) := by decide +kernel
theorem dX0_applyTo_22 : decode cX0_applyTo 22 = .ok (.aload_n 0, 1) := by decide +kernel
theorem dX0_applyTo_23 : decode cX0_applyTo 23 = .ok (.getfield 12, 3) := by decide +kernel
theorem dX0_applyTo_26 : decode cX0_applyTo 26 = .ok (.iload_n 2, 1) := by decide +kernel
theorem dX0_applyTo_27 : decode cX0_applyTo 27 = .ok (.invokevirtual 36, 3) := by decide +kernel
theorem dX0_applyTo_30 : decode cX0_applyTo 30 = .ok (.invokevirtual 46, 3) := by decide +kernel
theorem dX0_applyTo_33 : decode cX0_applyTo 33 = .ok (.goto 12, 3) := by decide +kernel
theorem dX0_applyTo_36 : decode cX0_applyTo 36 = .ok (.aload_n 1, 1) := by decide +kernel
theorem dX0_applyTo_37 : decode cX0_applyTo 37 = .ok (.aload_n 0, 1) := by decide +kernel
theorem dX0_applyTo_38 : decode cX0_applyTo 38 = .ok (.getfield 12, 3) := by decide +kernel
theorem dX0_applyTo_41 : decode cX0_applyTo 41 = .ok (.iload_n 2, 1) := by decide +kernel
theorem dX0_applyTo_42 : decode cX0_applyTo 42 = .ok (.invokevirtual 50, 3) := by decide +kernel
theorem dX0_applyTo_45 : decode cX0_applyTo 45 = .ok (.iinc 2 1, 3) := by decide +kernel
theorem dX0_applyTo_48 : decode cX0_applyTo 48 = .ok (.goto (-46), 3) := by decide +kernel
theorem dX0_applyTo_51 : decode cX0_applyTo 51 = .ok (.return_, 1) := by decide +kernel
theorem dX0_takesSignMore_0 : decode cX0_takesSignMore 0 = .ok (.aload_n 0, 1) := by decide +kernel
theorem dX0_takesSignMore_1 : decode cX0_takesSignMore 1 = .ok (.getfield 12, 3) := by decide +kernel
theorem dX0_takesSignMore_4 : decode cX0_takesSignMore 4 = .ok (.invokevirtual 18, 3) := by decide +kernel
theorem dX0_takesSignMore_7 : decode cX0_takesSignMore 7 = .ok (.iconst 1, 1) := by decide +kernel
theorem dX0_takesSignMore_8 : decode cX0_takesSignMore 8 = .ok (.isub, 1) := by decide +kernel
theorem dX0_takesSignMore_9 : decode cX0_takesSignMore 9 = .ok (.istore_n 2, 1) := by decide +kernel
theorem dX0_takesSignMore_10 : decode cX0_takesSignMore 10 = .ok (.aload_n 0, 1) := by decide +kernel
theorem dX0_takesSignMore_11 : decode cX0_takesSignMore 11 = .ok (.getfield 12, 3) := by decide +kernel
theorem dX0_takesSignMore_14 : decode cX0_takesSignMore 14 = .ok (.iload_n 2, 1) := by decide +kernel
theorem dX0_takesSignMore_15 : decode cX0_takesSignMore 15 = .ok (.invokevirtual 54, 3) := by decide +kernel
theorem dX0_takesSignMore_18 : decode cX0_takesSignMore 18 = .ok (.istore_n 3, 1) := by decide +kernel
theorem dX0_takesSignMore_19 : decode cX0_takesSignMore 19 = .ok (.aload_n 0, 1) := by decide +kernel
theorem dX0_takesSignMore_20 : decode cX0_takesSignMore 20 = .ok (.getfield 12, 3) := by decide +kernel
theorem dX0_takesSignMore_23 : decode cX0_takesSignMore 23 = .ok (.iload_n 2, 1) := by decide +kernel
theorem dX0_takesSignMore_24 : decode cX0_takesSignMore 24 = .ok (.invokevirtual 36, 3) := by decide +kernel
theorem dX0_takesSignMore_27 : decode cX0_takesSignMore 27 = .ok (.iload_n 1, 1) := by decide +kernel
theorem dX0_takesSignMore_28 : decode cX0_takesSignMore 28 = .ok (.if_icmp .ne 17, 3) := by decide +kernel
theorem dX0_takesSignMore_31 : decode cX0_takesSignMore 31 = .ok (.iload_n 3, 1) := by decide +kernel
theorem dX0_takesSignMore_32 : decode cX0_takesSignMore 32 = .ok (.ifCond .le 13, 3) := by decide +kernel
theorem dX0_takesSignMore_35 : decode cX0_takesSignMore 35 = .ok (.iload_n 3, 1) := by decide +kernel
theorem dX0_takesSignMore_36 : decode cX0_takesSignMore 36 = .ok (.bipush 10, 2) := by decide +kernel
theorem dX0_takesSignMore_38 : decode cX0_takesSignMore 38 = .ok (.if_icmp .ge 7, 3) := by decide +kernel
theorem dX0_takesSignMore_41 : decode cX0_takesSignMore 41 = .ok (.iconst 1, 1) := by decide +kernel
theorem dX0_takesSignMore_42 : decode cX0_takesSignMore 42 = .ok (.goto 4, 3) := by decide +kernel
theorem dX0_takesSignMore_45 : decode cX0_takesSignMore 45 = .ok (.iconst 0, 1) := by decide +kernel
theorem dX0_takesSignMore_46 : decode cX0_takesSignMore 46 = .ok (.ireturn, 1) := by decide +kernel
theorem dX0_begin_0 : decode cX0_begin 0 = .ok (.aload_n 0, 1) := by decide +kernel
theorem dX0_begin_1 : decode cX0_begin 1 = .ok (.getfield 12, 3) := by decide +kernel
theorem dX0_begin_4 : decode cX0_begin 4 = .ok (.invokevirtual 18, 3) := by decide +kernel
theorem dX0_begin_7 : decode cX0_begin 7 = .ok (.bipush 20, 2) := by decide +kernel
theorem dX0_begin_9 : decode cX0_begin 9 = .ok (.if_icmp .ge 18, 3) := by decide +kernel
theorem dX0_begin_12 : decode cX0_begin 12 = .ok (.aload_n 0, 1) := by decide +kernel
theorem dX0_begin_13 : decode cX0_begin 13 = .ok (.getfield 12, 3) := by decide +kernel
theorem dX0_begin_16 : decode cX0_begin 16 = .ok (.iload_n 1, 1) := by decide +kernel
theorem dX0_begin_17 : decode cX0_begin 17 = .ok (.invokevirtual 57, 3) := by decide +kernel
theorem dX0_begin_20 : decode cX0_begin 20 = .ok (.ifCond .eq 7, 3) := by decide +kernel
theorem dX0_begin_23 : decode cX0_begin 23 = .ok (.iconst 1, 1) := by decide +kernel
theorem dX0_begin_24 : decode cX0_begin 24 = .ok (.goto 4, 3) := by decide +kernel
theorem dX0_begin_27 : decode cX0_begin 27 = .ok (.iconst 0, 1) := by decide +kernel
theorem dX0_begin_28 : decode cX0_begin 28 = .ok (.ireturn, 1) := by decide +kernel
theorem dX0_isDeletion_0 : decode cX0_isDeletion 0 = .ok (.aload_n 0, 1) := by decide +kernel
theorem dX0_isDeletion_1 : decode cX0_isDeletion 1 = .ok (.getfield 12, 3) := by decide +kernel
theorem dX0_isDeletion_4 : decode cX0_isDeletion 4 = .ok (.iload_n 1, 1) := by decide +kernel
theorem dX0_isDeletion_5 : decode cX0_isDeletion 5 = .ok (.invokevirtual 54, 3) := by decide +kernel
theorem dX0_isDeletion_8 : decode cX0_isDeletion 8 = .ok (.ifCond .ne 7, 3) := by decide +kernel
theorem dX0_isDeletion_11 : decode cX0_isDeletion 11 = .ok (.iconst 1, 1) := by decide +kernel
theorem dX0_isDeletion_12 : decode cX0_isDeletion 12 = .ok (.goto 4, 3) := by decide +kernel
theorem dX0_isDeletion_15 : decode cX0_isDeletion 15 = .ok (.iconst 0, 1) := by decide +kernel
theorem dX0_isDeletion_16 : decode cX0_isDeletion 16 = .ok (.ireturn, 1) := by decide +kernel
theorem dX1_init_0 : decode cX1_init 0 = .ok (.aload_n 0, 1) := by decide +kernel
theorem dX1_init_1 : decode cX1_init 1 = .ok (.invokespecial 3, 3) := by decide +kernel
theorem dX1_init_4 : decode cX1_init 4 = .ok (.aload_n 0, 1) := by decide +kernel
theorem dX1_init_5 : decode cX1_init 5 = .ok (.bipush 60, 2) := by decide +kernel
theorem dX1_init_7 : decode cX1_init 7 = .ok (.newarray .int, 2) := by decide +kernel
theorem dX1_init_9 : decode cX1_init 9 = .ok (.putfield 9, 3) := by decide +kernel
theorem dX1_init_12 : decode cX1_init 12 = .ok (.aload_n 0, 1) := by decide +kernel
theorem dX1_init_13 : decode cX1_init 13 = .ok (.bipush 60, 2) := by decide +kernel
theorem dX1_init_15 : decode cX1_init 15 = .ok (.newarray .int, 2) := by decide +kernel
theorem dX1_init_17 : decode cX1_init 17 = .ok (.putfield 15, 3) := by decide +kernel
theorem dX1_init_20 : decode cX1_init 20 = .ok (.aload_n 0, 1) := by decide +kernel
theorem dX1_init_21 : decode cX1_init 21 = .ok (.bipush 60, 2) := by decide +kernel
theorem dX1_init_23 : decode cX1_init 23 = .ok (.newarray .int, 2) := by decide +kernel
theorem dX1_init_25 : decode cX1_init 25 = .ok (.putfield 18, 3) := by decide +kernel
theorem dX1_init_28 : decode cX1_init 28 = .ok (.aload_n 0, 1) := by decide +kernel
theorem dX1_init_29 : decode cX1_init 29 = .ok (.iconst 3, 1) := by decide +kernel
theorem dX1_init_30 : decode cX1_init 30 = .ok (.putfield 21, 3) := by decide +kernel
theorem dX1_init_33 : decode cX1_init 33 = .ok (.return_, 1) := by decide +kernel
theorem dX1_size_0 : decode cX1_size 0 = .ok (.aload_n 0, 1) := by decide +kernel
theorem dX1_size_1 : decode cX1_size 1 = .ok (.getfield 25, 3) := by decide +kernel
theorem dX1_size_4 : decode cX1_size 4 = .ok (.ireturn, 1) := by decide +kernel
theorem dX1_exchangeLookAhead_0 : decode cX1_exchangeLookAhead 0 = .ok (.aload_n 0, 1) := by decide +kernel
theorem dX1_exchangeLookAhead_1 : decode cX1_exchangeLookAhead 1 = .ok (.getfield 21, 3) := by decide +kernel
theorem dX1_exchangeLookAhead_4 : decode cX1_exchangeLookAhead 4 = .ok (.istore_n 2, 1) := by decide +kernel
theorem dX1_exchangeLookAhead_5 : decode cX1_exchangeLookAhead 5 = .ok (.aload_n 0, 1) := by decide +kernel
theorem dX1_exchangeLookAhead_6 : decode cX1_exchangeLookAhead 6 = .ok (.iload_n 1, 1) := by decide +kernel
theorem dX1_exchangeLookAhead_7 : decode cX1_exchangeLookAhead 7 = .ok (.putfield 21, 3) := by decide +kernel
theorem dX1_exchangeLookAhead_10 : decode cX1_exchangeLookAhead 10 = .ok (.iload_n 2, 1) := by decide +kernel
theorem dX1_exchangeLookAhead_11 : decode cX1_exchangeLookAhead 11 = .ok (.ireturn, 1) := by decide +kernel
theorem dX1_tell_0 : decode cX1_tell 0 = .ok (.iload_n 1, 1) := by decide +kernel
theorem dX1_tell_1 : decode cX1_tell 1 = .ok (.ifCond .lt 11, 3) := by decide +kernel
theorem dX1_tell_4 : decode cX1_tell 4 = .ok (.iload_n 1, 1) := by decide +kernel
theorem dX1_tell_5 : decode cX1_tell 5 = .ok (.aload_n 0, 1) := by decide +kernel
theorem dX1_tell_6 : decode cX1_tell 6 = .ok (.getfield 25, 3) := by decide +kernel
theorem dX1_tell_9 : decode cX1_tell 9 = .ok (.if_icmp .lt 5, 3) := by decide +kernel
theorem dX1_tell_12 : decode cX1_tell 12 = .ok (.iconst (-1), 1) := by decide +kernel
theorem dX1_tell_13 : decode cX1_tell 13 = .ok (.ireturn, 1) := by decide +kernel
theorem dX1_tell_14 : decode cX1_tell 14 = .ok (.iload_n 2, 1) := by decide +kernel
theorem dX1_tell_15 : decode cX1_tell 15 = .ok (.tableswitch 46 0 2 #[25, 32, 39], 25) := by decide +kernel
theorem dX1_tell_40 : decode cX1_tell 40 = .ok (.aload_n 0, 1) := by decide +kernel
theorem dX1_tell_41 : decode cX1_tell 41 = .ok (.getfield 9, 3) := by decide +kernel
theorem dX1_tell_44 : decode cX1_tell 44 = .ok (.iload_n 1, 1) := by decide +kernel
theorem dX1_tell_45 : decode cX1_tell 45 = .ok (.iaload, 1) := by decide +kernel
theorem dX1_tell_46 : decode cX1_tell 46 = .ok (.ireturn, 1) := by decide +kernel
theorem dX1_tell_47 : decode cX1_tell 47 = .ok (.aload_n 0, 1) := by decide +kernel
theorem dX1_tell_48 : decode cX1_tell 48 = .ok (.getfield 15, 3) := by decide +kernel
theorem dX1_tell_51 : decode cX1_tell 51 = .ok (.iload_n 1, 1) := by decide +kernel
theorem dX1_tell_52 : decode cX1_tell 52 = .ok (.iaload, 1) := by decide +kernel
theorem dX1_tell_53 : decode cX1_tell 53 = .ok (.ireturn, 1) := by decide +kernel
theorem dX1_tell_54 : decode cX1_tell 54 = .ok (.aload_n 0, 1) := by decide +kernel
theorem dX1_tell_55 : decode cX1_tell 55 = .ok (.getfield 18, 3) := by decide +kernel
theorem dX1_tell_58 : decode cX1_tell 58 = .ok (.iload_n 1, 1) := by decide +kernel
theorem dX1_tell_59 : decode cX1_tell 59 = .ok (.iaload, 1) := by decide +kernel
theorem dX1_tell_60 : decode cX1_tell 60 = .ok (.ireturn, 1) := by decide +kernel
theorem dX1_tell_61 : decode cX1_tell 61 = .ok (.iconst (-1), 1) := by decide +kernel
theorem dX1_tell_62 : decode cX1_tell 62 = .ok (.ireturn, 1) := by decide +kernel
theorem dX1_run_0 : decode cX1_run 0 = .ok (.aload_n 0, 1) := by decide +kernel
theorem dX1_run_1 : decode cX1_run 1 = .ok (.iconst 0, 1) := by decide +kernel
theorem dX1_run_2 : decode cX1_run 2 = .ok (.putfield 25, 3) := by decide +kernel
theorem dX1_run_5 : decode cX1_run 5 = .ok (.iconst 0, 1) := by decide +kernel
theorem dX1_run_6 : decode cX1_run 6 = .ok (.istore_n 3, 1) := by decide +kernel
theorem dX1_run_7 : decode cX1_run 7 = .ok (.iconst 0, 1) := by decide +kernel
theorem dX1_run_8 : decode cX1_run 8 = .ok (.istore 4, 2) := by decide +kernel
theorem dX1_run_10 : decode cX1_run 10 = .ok (.iconst 0, 1) := by decide +kernel
theorem dX1_run_11 : decode cX1_run 11 = .ok (.istore 5, 2) := by decide +kernel
theorem dX1_run_13 : decode cX1_run 13 = .ok (.iload 5, 2) := by decide +kernel
theorem dX1_run_15 : decode cX1_run 15 = .ok (.bipush 60, 2) := by decide +kernel
theorem dX1_run_17 : decode cX1_run 17 = .ok (.if_icmp .ge 127, 3) := by decide +kernel
theorem dX1_run_20 : decode cX1_run 20 = .ok (.aload_n 1, 1) := by decide +kernel
theorem dX1_run_21 : decode cX1_run 21 = .ok (.iload_n 3, 1) := by decide +kernel
theorem dX1_run_22 : decode cX1_run 22 = .ok (.invokevirtual 28, 3) := by decide +kernel
theorem dX1_run_25 : decode cX1_run 25 = .ok (.ifCond .eq 119, 3) := by decide +kernel
theorem dX1_run_28 : decode cX1_run 28 = .ok (.aload_n 2, 1) := by decide +kernel
theorem dX1_run_29 : decode cX1_run 29 = .ok (.iload 4, 2) := by decide +kernel
theorem dX1_run_31 : decode cX1_run 31 = .ok (.invokevirtual 28, 3) := by decide +kernel
theorem dX1_run_34 : decode cX1_run 34 = .ok (.ifCond .eq 110, 3) := by decide +kernel
theorem dX1_run_37 : decode cX1_run 37 = .ok (.aload_n 1, 1) := by decide +kernel
theorem dX1_run_38 : decode cX1_run 38 = .ok (.iload_n 3, 1) := by decide +kernel
theorem dX1_run_39 : decode cX1_run 39 = .ok (.aload_n 2, 1) := by decide +kernel
theorem dX1_run_40 : decode cX1_run 40 = .ok (.iload 4, 2) := by decide +kernel
theorem dX1_run_42 : decode cX1_run 42 = .ok (.invokevirtual 34, 3) := by decide +kernel
theorem dX1_run_45 : decode cX1_run 45 = .ok (.ifCond .eq 12, 3) := by decide +kernel
theorem dX1_run_48 : decode cX1_run 48 = .ok (.iinc 3 1, 3) := by decide +kernel
theorem dX1_run_51 : decode cX1_run 51 = .ok (.iinc 4 1, 3) := by decide +kernel
theorem dX1_run_54 : decode cX1_run 54 = .ok (.goto 84, 3) := by decide +kernel
theorem dX1_run_57 : decode cX1_run 57 = .ok (.aload_n 0, 1) := by decide +kernel
theorem dX1_run_58 : decode cX1_run 58 = .ok (.aload_n 1, 1) := by decide +kernel
theorem dX1_run_59 : decode cX1_run 59 = .ok (.iload_n 3, 1) := by decide +kernel
theorem dX1_run_60 : decode cX1_run 60 = .ok (.aload_n 2, 1) := by decide +kernel
theorem dX1_run_61 : decode cX1_run 61 = .ok (.iload 4, 2) := by decide +kernel
theorem dX1_run_63 : decode cX1_run 63 = .ok (.invokevirtual 38, 3) := by decide +kernel
theorem dX1_run_66 : decode cX1_run 66 = .ok (.ifCond .eq 50, 3) := by decide +kernel
theorem dX1_run_69 : decode cX1_run 69 = .ok (.aload_n 0, 1) := by decide +kernel
theorem dX1_run_70 : decode cX1_run 70 = .ok (.aload_n 1, 1) := by decide +kernel
theorem dX1_run_71 : decode cX1_run 71 = .ok (.iload_n 3, 1) := by decide +kernel
theorem dX1_run_72 : decode cX1_run 72 = .ok (.iload_n 3, 1) := by decide +kernel
theorem dX1_run_73 : decode cX1_run 73 = .ok (.aload_n 0, 1) := by decide +kernel
theorem dX1_run_74 : decode cX1_run 74 = .ok (.getfield 42, 3) := by decide +kernel
theorem dX1_run_77 : decode cX1_run 77 = .ok (.iadd, 1) := by decide +kernel
theorem dX1_run_78 : decode cX1_run 78 = .ok (.iconst 1, 1) := by decide +kernel
theorem dX1_run_79 : decode cX1_run 79 = .ok (.invokevirtual 45, 3) := by decide +kernel
theorem dX1_run_82 : decode cX1_run 82 = .ok (.aload_n 0, 1) := by decide +kernel
theorem dX1_run_83 : decode cX1_run 83 = .ok (.aload_n 2, 1) := by decide +kernel
theorem dX1_run_84 : decode cX1_run 84 = .ok (.iload 4, 2) := by decide +kernel
theorem dX1_run_86 : decode cX1_run 86 = .ok (.iload 4, 2) := by decide +kernel
theorem dX1_run_88 : decode cX1_run 88 = .ok (.aload_n 0, 1) := by decide +kernel
theorem dX1_run_89 : decode cX1_run 89 = .ok (.getfield 49, 3) := by decide +kernel
theorem dX1_run_92 : decode cX1_run 92 = .ok (.iadd, 1) := by decide +kernel
theorem dX1_run_93 : decode cX1_run 93 = .ok (.iconst 2, 1) := by decide +kernel
theorem dX1_run_94 : decode cX1_run 94 = .ok (.invokevirtual 45, 3) := by decide +kernel
theorem dX1_run_97 : decode cX1_run 97 = .ok (.iload_n 3, 1) := by decide +kernel
theorem dX1_run_98 : decode cX1_run 98 = .ok (.aload_n 0, 1) := by decide +kernel
theorem dX1_run_99 : decode cX1_run 99 = .ok (.getfield 42, 3) := by decide +kernel
theorem dX1_run_102 : decode cX1_run 102 = .ok (.iadd, 1) := by decide +kernel
theorem dX1_run_103 : decode cX1_run 103 = .ok (.istore_n 3, 1) := by decide +kernel
theorem dX1_run_104 : decode cX1_run 104 = .ok (.iload 4, 2) := by decide +kernel
theorem dX1_run_106 : decode cX1_run 106 = .ok (.aload_n 0, 1) := by decide +kernel
theorem dX1_run_107 : decode cX1_run 107 = .ok (.getfield 49, 3) := by decide +kernel
theorem dX1_run_110 : decode cX1_run 110 = .ok (.iadd, 1) := by decide +kernel
theorem dX1_run_111 : decode cX1_run 111 = .ok (.istore 4, 2) := by decide +kernel
theorem dX1_run_113 : decode cX1_run 113 = .ok (.goto 25, 3) := by decide +kernel
theorem dX1_run_116 : decode cX1_run 116 = .ok (.aload_n 0, 1) := by decide +kernel
theorem dX1_run_117 : decode cX1_run 117 = .ok (.iconst 3, 1) := by decide +kernel
theorem dX1_run_118 : decode cX1_run 118 = .ok (.aload_n 1, 1) := by decide +kernel
theorem dX1_run_119 : decode cX1_run 119 = .ok (.iload_n 3, 1) := by decide +kernel
theorem dX1_run_120 : decode cX1_run 120 = .ok (.invokevirtual 52, 3) := by decide +kernel
theorem dX1_run_123 : decode cX1_run 123 = .ok (.aload_n 2, 1) := by decide +kernel
theorem dX1_run_124 : decode cX1_run 124 = .ok (.iload 4, 2) := by decide +kernel
theorem dX1_run_126 : decode cX1_run 126 = .ok (.invokevirtual 52, 3) := by decide +kernel
theorem dX1_run_129 : decode cX1_run 129 = .ok (.invokevirtual 56, 3) := by decide +kernel
theorem dX1_run_132 : decode cX1_run 132 = .ok (.iinc 3 1, 3) := by decide +kernel
theorem dX1_run_135 : decode cX1_run 135 = .ok (.iinc 4 1, 3) := by decide +kernel
theorem dX1_run_138 : decode cX1_run 138 = .ok (.iinc 5 1, 3) := by decide +kernel
theorem dX1_run_141 : decode cX1_run 141 = .ok (.goto (-128), 3) := by decide +kernel
theorem dX1_run_144 : decode cX1_run 144 = .ok (.aload_n 0, 1) := by decide +kernel
theorem dX1_run_145 : decode cX1_run 145 = .ok (.aload_n 1, 1) := by decide +kernel
theorem dX1_run_146 : decode cX1_run 146 = .ok (.iload_n 3, 1) := by decide +kernel
theorem dX1_run_147 : decode cX1_run 147 = .ok (.aload_n 1, 1) := by decide +kernel
theorem dX1_run_148 : decode cX1_run 148 = .ok (.invokevirtual 60, 3) := by decide +kernel
theorem dX1_run_151 : decode cX1_run 151 = .ok (.iconst 1, 1) := by decide +kernel
theorem dX1_run_152 : decode cX1_run 152 = .ok (.invokevirtual 45, 3) := by decide +kernel
theorem dX1_run_155 : decode cX1_run 155 = .ok (.aload_n 0, 1) := by decide +kernel
theorem dX1_run_156 : decode cX1_run 156 = .ok (.aload_n 2, 1) := by decide +kernel
theorem dX1_run_157 : decode cX1_run 157 = .ok (.iload 4, 2) := by decide +kernel
theorem dX1_run_159 : decode cX1_run 159 = .ok (.aload_n 2, 1) := by decide +kernel
theorem dX1_run_160 : decode cX1_run 160 = .ok (.invokevirtual 60, 3) := by decide +kernel
theorem dX1_run_163 : decode cX1_run 163 = .ok (.iconst 2, 1) := by decide +kernel
theorem dX1_run_164 : decode cX1_run 164 = .ok (.invokevirtual 45, 3) := by decide +kernel
theorem dX1_run_167 : decode cX1_run 167 = .ok (.return_, 1) := by decide +kernel
theorem dX1_meetsAhead_0 : decode cX1_meetsAhead 0 = .ok (.iconst 1, 1) := by decide +kernel
theorem dX1_meetsAhead_1 : decode cX1_meetsAhead 1 = .ok (.istore 5, 2) := by decide +kernel
theorem dX1_meetsAhead_3 : decode cX1_meetsAhead 3 = .ok (.iload 5, 2) := by decide +kernel
theorem dX1_meetsAhead_5 : decode cX1_meetsAhead 5 = .ok (.aload_n 0, 1) := by decide +kernel
theorem dX1_meetsAhead_6 : decode cX1_meetsAhead 6 = .ok (.getfield 21, 3) := by decide +kernel
theorem dX1_meetsAhead_9 : decode cX1_meetsAhead 9 = .ok (.if_icmp .gt 62, 3) := by decide +kernel
theorem dX1_meetsAhead_12 : decode cX1_meetsAhead 12 = .ok (.iconst 0, 1) := by decide +kernel
theorem dX1_meetsAhead_13 : decode cX1_meetsAhead 13 = .ok (.istore 6, 2) := by decide +kernel
theorem dX1_meetsAhead_15 : decode cX1_meetsAhead 15 = .ok (.iload 6, 2) := by decide +kernel
theorem dX1_meetsAhead_17 : decode cX1_meetsAhead 17 = .ok (.iload 5, 2) := by decide +kernel
theorem dX1_meetsAhead_19 : decode cX1_meetsAhead 19 = .ok (.if_icmp .gt 46, 3) := by decide +kernel
theorem dX1_meetsAhead_22 : decode cX1_meetsAhead 22 = .ok (.aload_n 1, 1) := by decide +kernel
theorem dX1_meetsAhead_23 : decode cX1_meetsAhead 23 = .ok (.iload_n 2, 1) := by decide +kernel
theorem dX1_meetsAhead_24 : decode cX1_meetsAhead 24 = .ok (.iload 6, 2) := by decide +kernel
theorem dX1_meetsAhead_26 : decode cX1_meetsAhead 26 = .ok (.iadd, 1) := by decide +kernel
theorem dX1_meetsAhead_27 : decode cX1_meetsAhead 27 = .ok (.aload_n 3, 1) := by decide +kernel
theorem dX1_meetsAhead_28 : decode cX1_meetsAhead 28 = .ok (.iload 4, 2) := by decide +kernel
theorem dX1_meetsAhead_30 : decode cX1_meetsAhead 30 = .ok (.iload 5, 2) := by decide +kernel
theorem dX1_meetsAhead_32 : decode cX1_meetsAhead 32 = .ok (.iadd, 1) := by decide +kernel
theorem dX1_meetsAhead_33 : decode cX1_meetsAhead 33 = .ok (.iload 6, 2) := by decide +kernel
theorem dX1_meetsAhead_35 : decode cX1_meetsAhead 35 = .ok (.isub, 1) := by decide +kernel
theorem dX1_meetsAhead_36 : decode cX1_meetsAhead 36 = .ok (.invokevirtual 34, 3) := by decide +kernel
theorem dX1_meetsAhead_39 : decode cX1_meetsAhead 39 = .ok (.ifCond .eq 20, 3) := by decide +kernel
theorem dX1_meetsAhead_42 : decode cX1_meetsAhead 42 = .ok (.aload_n 0, 1) := by decide +kernel
theorem dX1_meetsAhead_43 : decode cX1_meetsAhead 43 = .ok (.iload 6, 2) := by decide +kernel
theorem dX1_meetsAhead_45 : decode cX1_meetsAhead 45 = .ok (.putfield 42, 3) := by decide +kernel
theorem dX1_meetsAhead_48 : decode cX1_meetsAhead 48 = .ok (.aload_n 0, 1) := by decide +kernel
theorem dX1_meetsAhead_49 : decode cX1_meetsAhead 49 = .ok (.iload 5, 2) := by decide +kernel
theorem dX1_meetsAhead_51 : decode cX1_meetsAhead 51 = .ok (.iload 6, 2) := by decide +kernel
theorem dX1_meetsAhead_53 : decode cX1_meetsAhead 53 = .ok (.isub, 1) := by decide +kernel
theorem dX1_meetsAhead_54 : decode cX1_meetsAhead 54 = .ok (.putfield 49, 3) := by decide +kernel
theorem dX1_meetsAhead_57 : decode cX1_meetsAhead 57 = .ok (.iconst 1, 1) := by decide +kernel
theorem dX1_meetsAhead_58 : decode cX1_meetsAhead 58 = .ok (.ireturn, 1) := by decide +kernel
theorem dX1_meetsAhead_59 : decode cX1_meetsAhead 59 = .ok (.iinc 6 1, 3) := by decide +kernel
theorem dX1_meetsAhead_62 : decode cX1_meetsAhead 62 = .ok (.goto (-47), 3) := by decide +kernel
theorem dX1_meetsAhead_65 : decode cX1_meetsAhead 65 = .ok (.iinc 5 1, 3) := by decide +kernel
theorem dX1_meetsAhead_68 : decode cX1_meetsAhead 68 = .ok (.goto (-65), 3) := by decide +kernel
theorem dX1_meetsAhead_71 : decode cX1_meetsAhead 71 = .ok (.iconst 0, 1) := by decide +kernel
theorem dX1_meetsAhead_72 : decode cX1_meetsAhead 72 = .ok (.ireturn, 1) := by decide +kernel
theorem dX1_keepLeft_0 : decode cX1_keepLeft 0 = .ok (.iload_n 2, 1) := by decide +kernel
theorem dX1_keepLeft_1 : decode cX1_keepLeft 1 = .ok (.istore 5, 2) := by decide +kernel
theorem dX1_keepLeft_3 : decode cX1_keepLeft 3 = .ok (.iload 5, 2) := by decide +kernel
theorem dX1_keepLeft_5 : decode cX1_keepLeft 5 = .ok (.iload_n 3, 1) := by decide +kernel
theorem dX1_keepLeft_6 : decode cX1_keepLeft 6 = .ok (.if_icmp .ge 47, 3) := by decide +kernel
theorem dX1_keepLeft_9 : decode cX1_keepLeft 9 = .ok (.aload_n 1, 1) := by decide +kernel
theorem dX1_keepLeft_10 : decode cX1_keepLeft 10 = .ok (.iload 5, 2) := by decide +kernel
theorem dX1_keepLeft_12 : decode cX1_keepLeft 12 = .ok (.invokevirtual 52, 3) := by decide +kernel
theorem dX1_keepLeft_15 : decode cX1_keepLeft 15 = .ok (.istore 6, 2) := by decide +kernel
theorem dX1_keepLeft_17 : decode cX1_keepLeft 17 = .ok (.aload_n 0, 1) := by decide +kernel
theorem dX1_keepLeft_18 : decode cX1_keepLeft 18 = .ok (.iload 4, 2) := by decide +kernel
theorem dX1_keepLeft_20 : decode cX1_keepLeft 20 = .ok (.iload 4, 2) := by decide +kernel
theorem dX1_keepLeft_22 : decode cX1_keepLeft 22 = .ok (.iconst 1, 1) := by decide +kernel
theorem dX1_keepLeft_23 : decode cX1_keepLeft 23 = .ok (.if_icmp .ne 8, 3) := by decide +kernel
theorem dX1_keepLeft_26 : decode cX1_keepLeft 26 = .ok (.iload 6, 2) := by decide +kernel
theorem dX1_keepLeft_28 : decode cX1_keepLeft 28 = .ok (.goto 4, 3) := by decide +kernel
theorem dX1_keepLeft_31 : decode cX1_keepLeft 31 = .ok (.iconst 0, 1) := by decide +kernel
theorem dX1_keepLeft_32 : decode cX1_keepLeft 32 = .ok (.iload 4, 2) := by decide +kernel
theorem dX1_keepLeft_34 : decode cX1_keepLeft 34 = .ok (.iconst 2, 1) := by decide +kernel
theorem dX1_keepLeft_35 : decode cX1_keepLeft 35 = .ok (.if_icmp .ne 8, 3) := by decide +kernel
theorem dX1_keepLeft_38 : decode cX1_keepLeft 38 = .ok (.iload 6, 2) := by decide +kernel
theorem dX1_keepLeft_40 : decode cX1_keepLeft 40 = .ok (.goto 4, 3) := by decide +kernel
theorem dX1_keepLeft_43 : decode cX1_keepLeft 43 = .ok (.iconst 0, 1) := by decide +kernel
theorem dX1_keepLeft_44 : decode cX1_keepLeft 44 = .ok (.invokevirtual 56, 3) := by decide +kernel
theorem dX1_keepLeft_47 : decode cX1_keepLeft 47 = .ok (.iinc 5 1, 3) := by decide +kernel
theorem dX1_keepLeft_50 : decode cX1_keepLeft 50 = .ok (.goto (-47), 3) := by decide +kernel
theorem dX1_keepLeft_53 : decode cX1_keepLeft 53 = .ok (.return_, 1) := by decide +kernel
theorem dX1_keep_0 : decode cX1_keep 0 = .ok (.aload_n 0, 1) := by decide +kernel
theorem dX1_keep_1 : decode cX1_keep 1 = .ok (.getfield 25, 3) := by decide +kernel
theorem dX1_keep_4 : decode cX1_keep 4 = .ok (.aload_n 0, 1) := by decide +kernel
theorem dX1_keep_5 : decode cX1_keep 5 = .ok (.getfield 9, 3) := by decide +kernel
theorem dX1_keep_8 : decode cX1_keep 8 = .ok (.arraylength, 1) := by decide +kernel
theorem dX1_keep_9 : decode cX1_keep 9 = .ok (.if_icmp .ge 43, 3) := by decide +kernel
theorem dX1_keep_12 : decode cX1_keep 12 = .ok (.aload_n 0, 1) := by decide +kernel
theorem dX1_keep_13 : decode cX1_keep 13 = .ok (.getfield 9, 3) := by decide +kernel
theorem dX1_keep_16 : decode cX1_keep 16 = .ok (.aload_n 0, 1) := by decide +kernel
theorem dX1_keep_17 : decode cX1_keep 17 = .ok (.getfield 25, 3) := by decide +kernel
theorem dX1_keep_20 : decode cX1_keep 20 = .ok (.iload_n 1, 1) := by decide +kernel
theorem dX1_keep_21 : decode cX1_keep 21 = .ok (.iastore, 1) := by decide +kernel
theorem dX1_keep_22 : decode cX1_keep 22 = .ok (.aload_n 0, 1) := by decide +kernel
theorem dX1_keep_23 : decode cX1_keep 23 = .ok (.getfield 15, 3) := by decide +kernel
theorem dX1_keep_26 : decode cX1_keep 26 = .ok (.aload_n 0, 1) := by decide +kernel
theorem dX1_keep_27 : decode cX1_keep 27 = .ok (.getfield 25, 3) := by decide +kernel
theorem dX1_keep_30 : decode cX1_keep 30 = .ok (.iload_n 2, 1) := by decide +kernel
theorem dX1_keep_31 : decode cX1_keep 31 = .ok (.iastore, 1) := by decide +kernel
theorem dX1_keep_32 : decode cX1_keep 32 = .ok (.aload_n 0, 1) := by decide +kernel
theorem dX1_keep_33 : decode cX1_keep 33 = .ok (.getfield 18, 3) := by decide +kernel
theorem dX1_keep_36 : decode cX1_keep 36 = .ok (.aload_n 0, 1) := by decide +kernel
theorem dX1_keep_37 : decode cX1_keep 37 = .ok (.getfield 25, 3) := by decide +kernel
theorem dX1_keep_40 : decode cX1_keep 40 = .ok (.iload_n 3, 1) := by decide +kernel
theorem dX1_keep_41 : decode cX1_keep 41 = .ok (.iastore, 1) := by decide +kernel
theorem dX1_keep_42 : decode cX1_keep 42 = .ok (.aload_n 0, 1) := by decide +kernel
theorem dX1_keep_43 : decode cX1_keep 43 = .ok (.dup, 1) := by decide +kernel
theorem dX1_keep_44 : decode cX1_keep 44 = .ok (.getfield 25, 3) := by decide +kernel
theorem dX1_keep_47 : decode cX1_keep 47 = .ok (.iconst 1, 1) := by decide +kernel
theorem dX1_keep_48 : decode cX1_keep 48 = .ok (.iadd, 1) := by decide +kernel
theorem dX1_keep_49 : decode cX1_keep 49 = .ok (.putfield 25, 3) := by decide +kernel
theorem dX1_keep_52 : decode cX1_keep 52 = .ok (.return_, 1) := by decide +kernel
theorem dX2_signAt_0 : decode cX2_signAt 0 = .ok (.iload_n 1, 1) := by decide +kernel
theorem dX2_signAt_1 : decode cX2_signAt 1 = .ok (.ifCond .lt 23, 3) := by decide +kernel
theorem dX2_signAt_4 : decode cX2_signAt 4 = .ok (.iload_n 1, 1) := by decide +kernel
theorem dX2_signAt_5 : decode cX2_signAt 5 = .ok (.aload_n 0, 1) := by decide +kernel
theorem dX2_signAt_6 : decode cX2_signAt 6 = .ok (.invokevirtual 9, 3) := by decide +kernel
theorem dX2_signAt_9 : decode cX2_signAt 9 = .ok (.iconst 4, 1) := by decide +kernel
theorem dX2_signAt_10 : decode cX2_signAt 10 = .ok (.idiv, 1) := by decide +kernel
theorem dX2_signAt_11 : decode cX2_signAt 11 = .ok (.if_icmp .ge 13, 3) := by decide +kernel
theorem dX2_signAt_14 : decode cX2_signAt 14 = .ok (.iload_n 2, 1) := by decide +kernel
theorem dX2_signAt_15 : decode cX2_signAt 15 = .ok (.ifCond .lt 9, 3) := by decide +kernel
theorem dX2_signAt_18 : decode cX2_signAt 18 = .ok (.iload_n 2, 1) := by decide +kernel
theorem dX2_signAt_19 : decode cX2_signAt 19 = .ok (.bipush 27, 2) := by decide +kernel
theorem dX2_signAt_21 : decode cX2_signAt 21 = .ok (.if_icmp .lt 5, 3) := by decide +kernel
theorem dX2_signAt_24 : decode cX2_signAt 24 = .ok (.iconst (-1), 1) := by decide +kernel
theorem dX2_signAt_25 : decode cX2_signAt 25 = .ok (.ireturn, 1) := by decide +kernel
theorem dX2_signAt_26 : decode cX2_signAt 26 = .ok (.iload_n 1, 1) := by decide +kernel
theorem dX2_signAt_27 : decode cX2_signAt 27 = .ok (.iconst 4, 1) := by decide +kernel
theorem dX2_signAt_28 : decode cX2_signAt 28 = .ok (.imul, 1) := by decide +kernel
theorem dX2_signAt_29 : decode cX2_signAt 29 = .ok (.istore_n 3, 1) := by decide +kernel
theorem dX2_signAt_30 : decode cX2_signAt 30 = .ok (.iload_n 2, 1) := by decide +kernel
theorem dX2_signAt_31 : decode cX2_signAt 31 = .ok (.iconst 4, 1) := by decide +kernel
theorem dX2_signAt_32 : decode cX2_signAt 32 = .ok (.if_icmp .ge 9, 3) := by decide +kernel
theorem dX2_signAt_35 : decode cX2_signAt 35 = .ok (.iload_n 3, 1) := by decide +kernel
theorem dX2_signAt_36 : decode cX2_signAt 36 = .ok (.iload_n 2, 1) := by decide +kernel
theorem dX2_signAt_37 : decode cX2_signAt 37 = .ok (.invokestatic 17, 3) := by decide +kernel
theorem dX2_signAt_40 : decode cX2_signAt 40 = .ok (.ireturn, 1) := by decide +kernel
theorem dX2_signAt_41 : decode cX2_signAt 41 = .ok (.iload_n 2, 1) := by decide +kernel
theorem dX2_signAt_42 : decode cX2_signAt 42 = .ok (.iconst 4, 1) := by decide +kernel
theorem dX2_signAt_43 : decode cX2_signAt 43 = .ok (.if_icmp .ne 6, 3) := by decide +kernel
theorem dX2_signAt_46 : decode cX2_signAt 46 = .ok (.bipush 58, 2) := by decide +kernel
theorem dX2_signAt_48 : decode cX2_signAt 48 = .ok (.ireturn, 1) := by decide +kernel
theorem dX2_signAt_49 : decode cX2_signAt 49 = .ok (.iload_n 2, 1) := by decide +kernel
theorem dX2_signAt_50 : decode cX2_signAt 50 = .ok (.bipush 17, 2) := by decide +kernel
theorem dX2_signAt_52 : decode cX2_signAt 52 = .ok (.if_icmp .ge 12, 3) := by decide +kernel
theorem dX2_signAt_55 : decode cX2_signAt 55 = .ok (.aload_n 0, 1) := by decide +kernel
theorem dX2_signAt_56 : decode cX2_signAt 56 = .ok (.iload_n 3, 1) := by decide +kernel
theorem dX2_signAt_57 : decode cX2_signAt 57 = .ok (.iload_n 2, 1) := by decide +kernel
theorem dX2_signAt_58 : decode cX2_signAt 58 = .ok (.iconst 5, 1) := by decide +kernel
theorem dX2_signAt_59 : decode cX2_signAt 59 = .ok (.isub, 1) := by decide +kernel
theorem dX2_signAt_60 : decode cX2_signAt 60 = .ok (.invokestatic 21, 3) := by decide +kernel
theorem dX2_signAt_63 : decode cX2_signAt 63 = .ok (.ireturn, 1) := by decide +kernel
theorem dX2_signAt_64 : decode cX2_signAt 64 = .ok (.iload_n 2, 1) := by decide +kernel
theorem dX2_signAt_65 : decode cX2_signAt 65 = .ok (.bipush 17, 2) := by decide +kernel
theorem dX2_signAt_67 : decode cX2_signAt 67 = .ok (.if_icmp .eq 9, 3) := by decide +kernel
theorem dX2_signAt_70 : decode cX2_signAt 70 = .ok (.iload_n 2, 1) := by decide +kernel
theorem dX2_signAt_71 : decode cX2_signAt 71 = .ok (.bipush 22, 2) := by decide +kernel
theorem dX2_signAt_73 : decode cX2_signAt 73 = .ok (.if_icmp .ne 6, 3) := by decide +kernel
theorem dX2_signAt_76 : decode cX2_signAt 76 = .ok (.bipush 32, 2) := by decide +kernel
theorem dX2_signAt_78 : decode cX2_signAt 78 = .ok (.ireturn, 1) := by decide +kernel
theorem dX2_signAt_79 : decode cX2_signAt 79 = .ok (.iload_n 2, 1) := by decide +kernel
theorem dX2_signAt_80 : decode cX2_signAt 80 = .ok (.bipush 23, 2) := by decide +kernel
theorem dX2_signAt_82 : decode cX2_signAt 82 = .ok (.if_icmp .ge 19, 3) := by decide +kernel
theorem dX2_signAt_85 : decode cX2_signAt 85 = .ok (.aload_n 0, 1) := by decide +kernel
theorem dX2_signAt_86 : decode cX2_signAt 86 = .ok (.iload_n 3, 1) := by decide +kernel
theorem dX2_signAt_87 : decode cX2_signAt 87 = .ok (.iload_n 2, 1) := by decide +kernel
theorem dX2_signAt_88 : decode cX2_signAt 88 = .ok (.iadd, 1) := by decide +kernel
theorem dX2_signAt_89 : decode cX2_signAt 89 = .ok (.bipush 18, 2) := by decide +kernel
theorem dX2_signAt_91 : decode cX2_signAt 91 = .ok (.isub, 1) := by decide +kernel
theorem dX2_signAt_92 : decode cX2_signAt 92 = .ok (.invokevirtual 25, 3) := by decide +kernel
theorem dX2_signAt_95 : decode cX2_signAt 95 = .ok (.invokestatic 29, 3) := by decide +kernel
theorem dX2_signAt_98 : decode cX2_signAt 98 = .ok (.goto 16, 3) := by decide +kernel
theorem dX2_signAt_101 : decode cX2_signAt 101 = .ok (.aload_n 0, 1) := by decide +kernel
theorem dX2_signAt_102 : decode cX2_signAt 102 = .ok (.iload_n 3, 1) := by decide +kernel
theorem dX2_signAt_103 : decode cX2_signAt 103 = .ok (.iload_n 2, 1) := by decide +kernel
theorem dX2_signAt_104 : decode cX2_signAt 104 = .ok (.iadd, 1) := by decide +kernel
theorem dX2_signAt_105 : decode cX2_signAt 105 = .ok (.bipush 23, 2) := by decide +kernel
theorem dX2_signAt_107 : decode cX2_signAt 107 = .ok (.isub, 1) := by decide +kernel
theorem dX2_signAt_108 : decode cX2_signAt 108 = .ok (.invokevirtual 25, 3) := by decide +kernel
theorem dX2_signAt_111 : decode cX2_signAt 111 = .ok (.invokestatic 32, 3) := by decide +kernel
theorem dX2_signAt_114 : decode cX2_signAt 114 = .ok (.ireturn, 1) := by decide +kernel
theorem dX2_decimalDigit_0 : decode cX2_decimalDigit 0 = .ok (.iload_n 0, 1) := by decide +kernel
theorem dX2_decimalDigit_1 : decode cX2_decimalDigit 1 = .ok (.istore_n 2, 1) := by decide +kernel
theorem dX2_decimalDigit_2 : decode cX2_decimalDigit 2 = .ok (.iload_n 1, 1) := by decide +kernel
theorem dX2_decimalDigit_3 : decode cX2_decimalDigit 3 = .ok (.istore_n 3, 1) := by decide +kernel
theorem dX2_decimalDigit_4 : decode cX2_decimalDigit 4 = .ok (.iload_n 3, 1) := by decide +kernel
theorem dX2_decimalDigit_5 : decode cX2_decimalDigit 5 = .ok (.iconst 3, 1) := by decide +kernel
theorem dX2_decimalDigit_6 : decode cX2_decimalDigit 6 = .ok (.if_icmp .ge 14, 3) := by decide +kernel
theorem dX2_decimalDigit_9 : decode cX2_decimalDigit 9 = .ok (.iload_n 2, 1) := by decide +kernel
theorem dX2_decimalDigit_10 : decode cX2_decimalDigit 10 = .ok (.bipush 10, 2) := by decide +kernel
theorem dX2_decimalDigit_12 : decode cX2_decimalDigit 12 = .ok (.idiv, 1) := by decide +kernel
theorem dX2_decimalDigit_13 : decode cX2_decimalDigit 13 = .ok (.istore_n 2, 1) := by decide +kernel
theorem dX2_decimalDigit_14 : decode cX2_decimalDigit 14 = .ok (.iinc 3 1, 3) := by decide +kernel
theorem dX2_decimalDigit_17 : decode cX2_decimalDigit 17 = .ok (.goto (-13), 3) := by decide +kernel
theorem dX2_decimalDigit_20 : decode cX2_decimalDigit 20 = .ok (.bipush 48, 2) := by decide +kernel
theorem dX2_decimalDigit_22 : decode cX2_decimalDigit 22 = .ok (.iload_n 2, 1) := by decide +kernel
theorem dX2_decimalDigit_23 : decode cX2_decimalDigit 23 = .ok (.bipush 10, 2) := by decide +kernel
theorem dX2_decimalDigit_25 : decode cX2_decimalDigit 25 = .ok (.irem, 1) := by decide +kernel
theorem dX2_decimalDigit_26 : decode cX2_decimalDigit 26 = .ok (.iadd, 1) := by decide +kernel
theorem dX2_decimalDigit_27 : decode cX2_decimalDigit 27 = .ok (.ireturn, 1) := by decide +kernel
theorem dX2_byteColumn_0 : decode cX2_byteColumn 0 = .ok (.aload_n 0, 1) := by decide +kernel
theorem dX2_byteColumn_1 : decode cX2_byteColumn 1 = .ok (.iload_n 1, 1) := by decide +kernel
theorem dX2_byteColumn_2 : decode cX2_byteColumn 2 = .ok (.iload_n 2, 1) := by decide +kernel
theorem dX2_byteColumn_3 : decode cX2_byteColumn 3 = .ok (.iconst 3, 1) := by decide +kernel
theorem dX2_byteColumn_4 : decode cX2_byteColumn 4 = .ok (.idiv, 1) := by decide +kernel
theorem dX2_byteColumn_5 : decode cX2_byteColumn 5 = .ok (.iadd, 1) := by decide +kernel
theorem dX2_byteColumn_6 : decode cX2_byteColumn 6 = .ok (.invokevirtual 25, 3) := by decide +kernel
theorem dX2_byteColumn_9 : decode cX2_byteColumn 9 = .ok (.istore_n 3, 1) := by decide +kernel
theorem dX2_byteColumn_10 : decode cX2_byteColumn 10 = .ok (.iload_n 2, 1) := by decide +kernel
theorem dX2_byteColumn_11 : decode cX2_byteColumn 11 = .ok (.iconst 3, 1) := by decide +kernel
theorem dX2_byteColumn_12 : decode cX2_byteColumn 12 = .ok (.irem, 1) := by decide +kernel
theorem dX2_byteColumn_13 : decode cX2_byteColumn 13 = .ok (.lookupswitch 37 #[(0, 27), (1, 30)], 27) := by decide +kernel
theorem dX2_byteColumn_40 : decode cX2_byteColumn 40 = .ok (.bipush 32, 2) := by decide +kernel
theorem dX2_byteColumn_42 : decode cX2_byteColumn 42 = .ok (.ireturn, 1) := by decide +kernel
theorem dX2_byteColumn_43 : decode cX2_byteColumn 43 = .ok (.iload_n 3, 1) := by decide +kernel
theorem dX2_byteColumn_44 : decode cX2_byteColumn 44 = .ok (.iconst 4, 1) := by decide +kernel
theorem dX2_byteColumn_45 : decode cX2_byteColumn 45 = .ok (.ishr, 1) := by decide +kernel
theorem dX2_byteColumn_46 : decode cX2_byteColumn 46 = .ok (.invokestatic 35, 3) := by decide +kernel
theorem dX2_byteColumn_49 : decode cX2_byteColumn 49 = .ok (.ireturn, 1) := by decide +kernel
theorem dX2_byteColumn_50 : decode cX2_byteColumn 50 = .ok (.iload_n 3, 1) := by decide +kernel
theorem dX2_byteColumn_51 : decode cX2_byteColumn 51 = .ok (.bipush 15, 2) := by decide +kernel
theorem dX2_byteColumn_53 : decode cX2_byteColumn 53 = .ok (.iand, 1) := by decide +kernel
theorem dX2_byteColumn_54 : decode cX2_byteColumn 54 = .ok (.invokestatic 35, 3) := by decide +kernel
theorem dX2_byteColumn_57 : decode cX2_byteColumn 57 = .ok (.ireturn, 1) := by decide +kernel
theorem dX2_hexDigit_0 : decode cX2_hexDigit 0 = .ok (.iload_n 0, 1) := by decide +kernel
theorem dX2_hexDigit_1 : decode cX2_hexDigit 1 = .ok (.bipush 10, 2) := by decide +kernel
theorem dX2_hexDigit_3 : decode cX2_hexDigit 3 = .ok (.if_icmp .ge 10, 3) := by decide +kernel
theorem dX2_hexDigit_6 : decode cX2_hexDigit 6 = .ok (.bipush 48, 2) := by decide +kernel
theorem dX2_hexDigit_8 : decode cX2_hexDigit 8 = .ok (.iload_n 0, 1) := by decide +kernel
theorem dX2_hexDigit_9 : decode cX2_hexDigit 9 = .ok (.iadd, 1) := by decide +kernel
theorem dX2_hexDigit_10 : decode cX2_hexDigit 10 = .ok (.goto 10, 3) := by decide +kernel
theorem dX2_hexDigit_13 : decode cX2_hexDigit 13 = .ok (.bipush 65, 2) := by decide +kernel
theorem dX2_hexDigit_15 : decode cX2_hexDigit 15 = .ok (.iload_n 0, 1) := by decide +kernel
theorem dX2_hexDigit_16 : decode cX2_hexDigit 16 = .ok (.iadd, 1) := by decide +kernel
theorem dX2_hexDigit_17 : decode cX2_hexDigit 17 = .ok (.bipush 10, 2) := by decide +kernel
theorem dX2_hexDigit_19 : decode cX2_hexDigit 19 = .ok (.isub, 1) := by decide +kernel
theorem dX2_hexDigit_20 : decode cX2_hexDigit 20 = .ok (.ireturn, 1) := by decide +kernel
theorem dX2_asSign_0 : decode cX2_asSign 0 = .ok (.iload_n 0, 1) := by decide +kernel
theorem dX2_asSign_1 : decode cX2_asSign 1 = .ok (.invokestatic 38, 3) := by decide +kernel
theorem dX2_asSign_4 : decode cX2_asSign 4 = .ok (.ifCond .eq 7, 3) := by decide +kernel
theorem dX2_asSign_7 : decode cX2_asSign 7 = .ok (.iload_n 0, 1) := by decide +kernel
theorem dX2_asSign_8 : decode cX2_asSign 8 = .ok (.goto 5, 3) := by decide +kernel
theorem dX2_asSign_11 : decode cX2_asSign 11 = .ok (.bipush 46, 2) := by decide +kernel
theorem dX2_asSign_13 : decode cX2_asSign 13 = .ok (.ireturn, 1) := by decide +kernel
theorem dX2_inOtherCode_0 : decode cX2_inOtherCode 0 = .ok (.iload_n 0, 1) := by decide +kernel
theorem dX2_inOtherCode_1 : decode cX2_inOtherCode 1 = .ok (.sipush 193, 3) := by decide +kernel
theorem dX2_inOtherCode_4 : decode cX2_inOtherCode 4 = .ok (.if_icmp .lt 19, 3) := by decide +kernel
theorem dX2_inOtherCode_7 : decode cX2_inOtherCode 7 = .ok (.iload_n 0, 1) := by decide +kernel
theorem dX2_inOtherCode_8 : decode cX2_inOtherCode 8 = .ok (.sipush 201, 3) := by decide +kernel
theorem dX2_inOtherCode_11 : decode cX2_inOtherCode 11 = .ok (.if_icmp .gt 12, 3) := by decide +kernel
theorem dX2_inOtherCode_14 : decode cX2_inOtherCode 14 = .ok (.bipush 65, 2) := by decide +kernel
theorem dX2_inOtherCode_16 : decode cX2_inOtherCode 16 = .ok (.iload_n 0, 1) := by decide +kernel
theorem dX2_inOtherCode_17 : decode cX2_inOtherCode 17 = .ok (.iadd, 1) := by decide +kernel
theorem dX2_inOtherCode_18 : decode cX2_inOtherCode 18 = .ok (.sipush 193, 3) := by decide +kernel
theorem dX2_inOtherCode_21 : decode cX2_inOtherCode 21 = .ok (.isub, 1) := by decide +kernel
theorem dX2_inOtherCode_22 : decode cX2_inOtherCode 22 = .ok (.ireturn, 1) := by decide +kernel
theorem dX2_inOtherCode_23 : decode cX2_inOtherCode 23 = .ok (.iload_n 0, 1) := by decide +kernel
theorem dX2_inOtherCode_24 : decode cX2_inOtherCode 24 = .ok (.sipush 209, 3) := by decide +kernel
theorem dX2_inOtherCode_27 : decode cX2_inOtherCode 27 = .ok (.if_icmp .lt 19, 3) := by decide +kernel
theorem dX2_inOtherCode_30 : decode cX2_inOtherCode 30 = .ok (.iload_n 0, 1) := by decide +kernel
theorem dX2_inOtherCode_31 : decode cX2_inOtherCode 31 = .ok (.sipush 217, 3) := by decide +kernel
theorem dX2_inOtherCode_34 : decode cX2_inOtherCode 34 = .ok (.if_icmp .gt 12, 3) := by decide +kernel
theorem dX2_inOtherCode_37 : decode cX2_inOtherCode 37 = .ok (.bipush 74, 2) := by decide +kernel
theorem dX2_inOtherCode_39 : decode cX2_inOtherCode 39 = .ok (.iload_n 0, 1) := by decide +kernel
theorem dX2_inOtherCode_40 : decode cX2_inOtherCode 40 = .ok (.iadd, 1) := by decide +kernel
theorem dX2_inOtherCode_41 : decode cX2_inOtherCode 41 = .ok (.sipush 209, 3) := by decide +kernel
theorem dX2_inOtherCode_44 : decode cX2_inOtherCode 44 = .ok (.isub, 1) := by decide +kernel
theorem dX2_inOtherCode_45 : decode cX2_inOtherCode 45 = .ok (.ireturn, 1) := by decide +kernel
theorem dX2_inOtherCode_46 : decode cX2_inOtherCode 46 = .ok (.iload_n 0, 1) := by decide +kernel
theorem dX2_inOtherCode_47 : decode cX2_inOtherCode 47 = .ok (.sipush 226, 3) := by decide +kernel
theorem dX2_inOtherCode_50 : decode cX2_inOtherCode 50 = .ok (.if_icmp .lt 19, 3) := by decide +kernel
theorem dX2_inOtherCode_53 : decode cX2_inOtherCode 53 = .ok (.iload_n 0, 1) := by decide +kernel
theorem dX2_inOtherCode_54 : decode cX2_inOtherCode 54 = .ok (.sipush 233, 3) := by decide +kernel
theorem dX2_inOtherCode_57 : decode cX2_inOtherCode 57 = .ok (.if_icmp .gt 12, 3) := by decide +kernel
theorem dX2_inOtherCode_60 : decode cX2_inOtherCode 60 = .ok (.bipush 83, 2) := by decide +kernel
theorem dX2_inOtherCode_62 : decode cX2_inOtherCode 62 = .ok (.iload_n 0, 1) := by decide +kernel
theorem dX2_inOtherCode_63 : decode cX2_inOtherCode 63 = .ok (.iadd, 1) := by decide +kernel
theorem dX2_inOtherCode_64 : decode cX2_inOtherCode 64 = .ok (.sipush 226, 3) := by decide +kernel
theorem dX2_inOtherCode_67 : decode cX2_inOtherCode 67 = .ok (.isub, 1) := by decide +kernel
theorem dX2_inOtherCode_68 : decode cX2_inOtherCode 68 = .ok (.ireturn, 1) := by decide +kernel
theorem dX2_inOtherCode_69 : decode cX2_inOtherCode 69 = .ok (.iload_n 0, 1) := by decide +kernel
theorem dX2_inOtherCode_70 : decode cX2_inOtherCode 70 = .ok (.sipush 240, 3) := by decide +kernel
theorem dX2_inOtherCode_73 : decode cX2_inOtherCode 73 = .ok (.if_icmp .lt 19, 3) := by decide +kernel
theorem dX2_inOtherCode_76 : decode cX2_inOtherCode 76 = .ok (.iload_n 0, 1) := by decide +kernel
theorem dX2_inOtherCode_77 : decode cX2_inOtherCode 77 = .ok (.sipush 249, 3) := by decide +kernel
theorem dX2_inOtherCode_80 : decode cX2_inOtherCode 80 = .ok (.if_icmp .gt 12, 3) := by decide +kernel
theorem dX2_inOtherCode_83 : decode cX2_inOtherCode 83 = .ok (.bipush 48, 2) := by decide +kernel
theorem dX2_inOtherCode_85 : decode cX2_inOtherCode 85 = .ok (.iload_n 0, 1) := by decide +kernel
theorem dX2_inOtherCode_86 : decode cX2_inOtherCode 86 = .ok (.iadd, 1) := by decide +kernel
theorem dX2_inOtherCode_87 : decode cX2_inOtherCode 87 = .ok (.sipush 240, 3) := by decide +kernel
theorem dX2_inOtherCode_90 : decode cX2_inOtherCode 90 = .ok (.isub, 1) := by decide +kernel
theorem dX2_inOtherCode_91 : decode cX2_inOtherCode 91 = .ok (.ireturn, 1) := by decide +kernel
theorem dX2_inOtherCode_92 : decode cX2_inOtherCode 92 = .ok (.iload_n 0, 1) := by decide +kernel
theorem dX2_inOtherCode_93 : decode cX2_inOtherCode 93 = .ok (.bipush 64, 2) := by decide +kernel
theorem dX2_inOtherCode_95 : decode cX2_inOtherCode 95 = .ok (.if_icmp .ne 8, 3) := by decide +kernel
theorem dX2_inOtherCode_98 : decode cX2_inOtherCode 98 = .ok (.bipush 32, 2) := by decide +kernel
theorem dX2_inOtherCode_100 : decode cX2_inOtherCode 100 = .ok (.goto 5, 3) := by decide +kernel
theorem dX2_inOtherCode_103 : decode cX2_inOtherCode 103 = .ok (.bipush 46, 2) := by decide +kernel
theorem dX2_inOtherCode_105 : decode cX2_inOtherCode 105 = .ok (.ireturn, 1) := by decide +kernel
theorem dX3_init_0 : decode cX3_init 0 = .ok (.aload_n 0, 1) := by decide +kernel
theorem dX3_init_1 : decode cX3_init 1 = .ok (.invokespecial 3, 3) := by decide +kernel
theorem dX3_init_4 : decode cX3_init 4 = .ok (.aload_n 0, 1) := by decide +kernel
theorem dX3_init_5 : decode cX3_init 5 = .ok (.bipush 6, 2) := by decide +kernel
theorem dX3_init_7 : decode cX3_init 7 = .ok (.newarray .boolean, 2) := by decide +kernel
theorem dX3_init_9 : decode cX3_init 9 = .ok (.putfield 9, 3) := by decide +kernel
theorem dX3_init_12 : decode cX3_init 12 = .ok (.aload_n 0, 1) := by decide +kernel
theorem dX3_init_13 : decode cX3_init 13 = .ok (.bipush 80, 2) := by decide +kernel
theorem dX3_init_15 : decode cX3_init 15 = .ok (.anewarray 15, 3) := by decide +kernel
theorem dX3_init_18 : decode cX3_init 18 = .ok (.putfield 17, 3) := by decide +kernel
theorem dX3_init_21 : decode cX3_init 21 = .ok (.aload_n 0, 1) := by decide +kernel
theorem dX3_init_22 : decode cX3_init 22 = .ok (.sipush 600, 3) := by decide +kernel
theorem dX3_init_25 : decode cX3_init 25 = .ok (.newarray .int, 2) := by decide +kernel
theorem dX3_init_27 : decode cX3_init 27 = .ok (.putfield 21, 3) := by decide +kernel
theorem dX3_init_30 : decode cX3_init 30 = .ok (.return_, 1) := by decide +kernel
theorem dX3_librariesMade_0 : decode cX3_librariesMade 0 = .ok (.aload_n 0, 1) := by decide +kernel
theorem dX3_librariesMade_1 : decode cX3_librariesMade 1 = .ok (.getfield 25, 3) := by decide +kernel
theorem dX3_librariesMade_4 : decode cX3_librariesMade 4 = .ok (.ireturn, 1) := by decide +kernel
theorem dX3_membersMade_0 : decode cX3_membersMade 0 = .ok (.aload_n 0, 1) := by decide +kernel
theorem dX3_membersMade_1 : decode cX3_membersMade 1 = .ok (.getfield 29, 3) := by decide +kernel
theorem dX3_membersMade_4 : decode cX3_membersMade 4 = .ok (.ireturn, 1) := by decide +kernel
theorem dX3_addLibrary_0 : decode cX3_addLibrary 0 = .ok (.aload_n 0, 1) := by decide +kernel
theorem dX3_addLibrary_1 : decode cX3_addLibrary 1 = .ok (.getfield 25, 3) := by decide +kernel
theorem dX3_addLibrary_4 : decode cX3_addLibrary 4 = .ok (.bipush 6, 2) := by decide +kernel
theorem dX3_addLibrary_6 : decode cX3_addLibrary 6 = .ok (.if_icmp .lt 5, 3) := by decide +kernel
theorem dX3_addLibrary_9 : decode cX3_addLibrary 9 = .ok (.iconst (-1), 1) := by decide +kernel
theorem dX3_addLibrary_10 : decode cX3_addLibrary 10 = .ok (.ireturn, 1) := by decide +kernel
theorem dX3_addLibrary_11 : decode cX3_addLibrary 11 = .ok (.aload_n 0, 1) := by decide +kernel
theorem dX3_addLibrary_12 : decode cX3_addLibrary 12 = .ok (.getfield 9, 3) := by decide +kernel
theorem dX3_addLibrary_15 : decode cX3_addLibrary 15 = .ok (.aload_n 0, 1) := by decide +kernel
theorem dX3_addLibrary_16 : decode cX3_addLibrary 16 = .ok (.getfield 25, 3) := by decide +kernel
theorem dX3_addLibrary_19 : decode cX3_addLibrary 19 = .ok (.iload_n 1, 1) := by decide +kernel
theorem dX3_addLibrary_20 : decode cX3_addLibrary 20 = .ok (.bastore, 1) := by decide +kernel
theorem dX3_addLibrary_21 : decode cX3_addLibrary 21 = .ok (.aload_n 0, 1) := by decide +kernel
theorem dX3_addLibrary_22 : decode cX3_addLibrary 22 = .ok (.dup, 1) := by decide +kernel
theorem dX3_addLibrary_23 : decode cX3_addLibrary 23 = .ok (.getfield 25, 3) := by decide +kernel
theorem dX3_addLibrary_26 : decode cX3_addLibrary 26 = .ok (.iconst 1, 1) := by decide +kernel
theorem dX3_addLibrary_27 : decode cX3_addLibrary 27 = .ok (.iadd, 1) := by decide +kernel
theorem dX3_addLibrary_28 : decode cX3_addLibrary 28 = .ok (.putfield 25, 3) := by decide +kernel
theorem dX3_addLibrary_31 : decode cX3_addLibrary 31 = .ok (.aload_n 0, 1) := by decide +kernel
theorem dX3_addLibrary_32 : decode cX3_addLibrary 32 = .ok (.getfield 25, 3) := by decide +kernel
theorem dX3_addLibrary_35 : decode cX3_addLibrary 35 = .ok (.ireturn, 1) := by decide +kernel
theorem dX3_hasLibrary_0 : decode cX3_hasLibrary 0 = .ok (.iload_n 1, 1) := by decide +kernel
theorem dX3_hasLibrary_1 : decode cX3_hasLibrary 1 = .ok (.iconst 1, 1) := by decide +kernel
theorem dX3_hasLibrary_2 : decode cX3_hasLibrary 2 = .ok (.if_icmp .lt 15, 3) := by decide +kernel
theorem dX3_hasLibrary_5 : decode cX3_hasLibrary 5 = .ok (.iload_n 1, 1) := by decide +kernel
theorem dX3_hasLibrary_6 : decode cX3_hasLibrary 6 = .ok (.aload_n 0, 1) := by decide +kernel
theorem dX3_hasLibrary_7 : decode cX3_hasLibrary 7 = .ok (.getfield 25, 3) := by decide +kernel
theorem dX3_hasLibrary_10 : decode cX3_hasLibrary 10 = .ok (.if_icmp .gt 7, 3) := by decide +kernel
theorem dX3_hasLibrary_13 : decode cX3_hasLibrary 13 = .ok (.iconst 1, 1) := by decide +kernel
theorem dX3_hasLibrary_14 : decode cX3_hasLibrary 14 = .ok (.goto 4, 3) := by decide +kernel
theorem dX3_hasLibrary_17 : decode cX3_hasLibrary 17 = .ok (.iconst 0, 1) := by decide +kernel
theorem dX3_hasLibrary_18 : decode cX3_hasLibrary 18 = .ok (.ireturn, 1) := by decide +kernel
theorem dX3_numberOf_0 : decode cX3_numberOf 0 = .ok (.aload_n 0, 1) := by decide +kernel
theorem dX3_numberOf_1 : decode cX3_numberOf 1 = .ok (.iload_n 1, 1) := by decide +kernel
theorem dX3_numberOf_2 : decode cX3_numberOf 2 = .ok (.invokevirtual 32, 3) := by decide +kernel
theorem dX3_numberOf_5 : decode cX3_numberOf 5 = .ok (.ifCond .eq 23, 3) := by decide +kernel
theorem dX3_numberOf_8 : decode cX3_numberOf 8 = .ok (.iload_n 2, 1) := by decide +kernel
theorem dX3_numberOf_9 : decode cX3_numberOf 9 = .ok (.invokestatic 36, 3) := by decide +kernel
theorem dX3_numberOf_12 : decode cX3_numberOf 12 = .ok (.ifCond .eq 16, 3) := by decide +kernel
theorem dX3_numberOf_15 : decode cX3_numberOf 15 = .ok (.aload_n 0, 1) := by decide +kernel
theorem dX3_numberOf_16 : decode cX3_numberOf 16 = .ok (.getfield 21, 3) := by decide +kernel
theorem dX3_numberOf_19 : decode cX3_numberOf 19 = .ok (.iload_n 1, 1) := by decide +kernel
theorem dX3_numberOf_20 : decode cX3_numberOf 20 = .ok (.iload_n 2, 1) := by decide +kernel
theorem dX3_numberOf_21 : decode cX3_numberOf 21 = .ok (.invokestatic 39, 3) := by decide +kernel
theorem dX3_numberOf_24 : decode cX3_numberOf 24 = .ok (.iaload, 1) := by decide +kernel
theorem dX3_numberOf_25 : decode cX3_numberOf 25 = .ok (.goto 4, 3) := by decide +kernel
theorem dX3_numberOf_28 : decode cX3_numberOf 28 = .ok (.iconst 0, 1) := by decide +kernel
theorem dX3_numberOf_29 : decode cX3_numberOf 29 = .ok (.ireturn, 1) := by decide +kernel
theorem dX3_addMember_0 : decode cX3_addMember 0 = .ok (.aload_n 0, 1) := by decide +kernel
theorem dX3_addMember_1 : decode cX3_addMember 1 = .ok (.getfield 29, 3) := by decide +kernel
theorem dX3_addMember_4 : decode cX3_addMember 4 = .ok (.bipush 80, 2) := by decide +kernel
theorem dX3_addMember_6 : decode cX3_addMember 6 = .ok (.if_icmp .ge 18, 3) := by decide +kernel
theorem dX3_addMember_9 : decode cX3_addMember 9 = .ok (.aload_n 0, 1) := by decide +kernel
theorem dX3_addMember_10 : decode cX3_addMember 10 = .ok (.iload_n 1, 1) := by decide +kernel
theorem dX3_addMember_11 : decode cX3_addMember 11 = .ok (.invokevirtual 32, 3) := by decide +kernel
theorem dX3_addMember_14 : decode cX3_addMember 14 = .ok (.ifCond .eq 10, 3) := by decide +kernel
theorem dX3_addMember_17 : decode cX3_addMember 17 = .ok (.iload_n 2, 1) := by decide +kernel
theorem dX3_addMember_18 : decode cX3_addMember 18 = .ok (.invokestatic 36, 3) := by decide +kernel
theorem dX3_addMember_21 : decode cX3_addMember 21 = .ok (.ifCond .ne 5, 3) := by decide +kernel
theorem dX3_addMember_24 : decode cX3_addMember 24 = .ok (.iconst (-1), 1) := by decide +kernel
theorem dX3_addMember_25 : decode cX3_addMember 25 = .ok (.ireturn, 1) := by decide +kernel
theorem dX3_addMember_26 : decode cX3_addMember 26 = .ok (.aload_n 0, 1) := by decide +kernel
theorem dX3_addMember_27 : decode cX3_addMember 27 = .ok (.getfield 17, 3) := by decide +kernel
theorem dX3_addMember_30 : decode cX3_addMember 30 = .ok (.aload_n 0, 1) := by decide +kernel
theorem dX3_addMember_31 : decode cX3_addMember 31 = .ok (.getfield 29, 3) := by decide +kernel
theorem dX3_addMember_34 : decode cX3_addMember 34 = .ok (.new 15, 3) := by decide +kernel
theorem dX3_addMember_37 : decode cX3_addMember 37 = .ok (.dup, 1) := by decide +kernel
theorem dX3_addMember_38 : decode cX3_addMember 38 = .ok (.invokespecial 43, 3) := by decide +kernel
theorem dX3_addMember_41 : decode cX3_addMember 41 = .ok (.aastore, 1) := by decide +kernel
theorem dX3_addMember_42 : decode cX3_addMember 42 = .ok (.aload_n 0, 1) := by decide +kernel
theorem dX3_addMember_43 : decode cX3_addMember 43 = .ok (.dup, 1) := by decide +kernel
theorem dX3_addMember_44 : decode cX3_addMember 44 = .ok (.getfield 29, 3) := by decide +kernel
theorem dX3_addMember_47 : decode cX3_addMember 47 = .ok (.iconst 1, 1) := by decide +kernel
theorem dX3_addMember_48 : decode cX3_addMember 48 = .ok (.iadd, 1) := by decide +kernel
theorem dX3_addMember_49 : decode cX3_addMember 49 = .ok (.putfield 29, 3) := by decide +kernel
theorem dX3_addMember_52 : decode cX3_addMember 52 = .ok (.aload_n 0, 1) := by decide +kernel
theorem dX3_addMember_53 : decode cX3_addMember 53 = .ok (.getfield 21, 3) := by decide +kernel
theorem dX3_addMember_56 : decode cX3_addMember 56 = .ok (.iload_n 1, 1) := by decide +kernel
theorem dX3_addMember_57 : decode cX3_addMember 57 = .ok (.iload_n 2, 1) := by decide +kernel
theorem dX3_addMember_58 : decode cX3_addMember 58 = .ok (.invokestatic 39, 3) := by decide +kernel
theorem dX3_addMember_61 : decode cX3_addMember 61 = .ok (.aload_n 0, 1) := by decide +kernel
theorem dX3_addMember_62 : decode cX3_addMember 62 = .ok (.getfield 29, 3) := by decide +kernel
theorem dX3_addMember_65 : decode cX3_addMember 65 = .ok (.iastore, 1) := by decide +kernel
theorem dX3_addMember_66 : decode cX3_addMember 66 = .ok (.aload_n 0, 1) := by decide +kernel
theorem dX3_addMember_67 : decode cX3_addMember 67 = .ok (.getfield 29, 3) := by decide +kernel
theorem dX3_addMember_70 : decode cX3_addMember 70 = .ok (.ireturn, 1) := by decide +kernel
theorem dX3_linesOf_0 : decode cX3_linesOf 0 = .ok (.iload_n 1, 1) := by decide +kernel
theorem dX3_linesOf_1 : decode cX3_linesOf 1 = .ok (.iconst 1, 1) := by decide +kernel
theorem dX3_linesOf_2 : decode cX3_linesOf 2 = .ok (.if_icmp .lt 22, 3) := by decide +kernel
theorem dX3_linesOf_5 : decode cX3_linesOf 5 = .ok (.iload_n 1, 1) := by decide +kernel
theorem dX3_linesOf_6 : decode cX3_linesOf 6 = .ok (.aload_n 0, 1) := by decide +kernel
theorem dX3_linesOf_7 : decode cX3_linesOf 7 = .ok (.getfield 29, 3) := by decide +kernel
theorem dX3_linesOf_10 : decode cX3_linesOf 10 = .ok (.if_icmp .gt 14, 3) := by decide +kernel
theorem dX3_linesOf_13 : decode cX3_linesOf 13 = .ok (.aload_n 0, 1) := by decide +kernel
theorem dX3_linesOf_14 : decode cX3_linesOf 14 = .ok (.getfield 17, 3) := by decide +kernel
theorem dX3_linesOf_17 : decode cX3_linesOf 17 = .ok (.iload_n 1, 1) := by decide +kernel
theorem dX3_linesOf_18 : decode cX3_linesOf 18 = .ok (.iconst 1, 1) := by decide +kernel
theorem dX3_linesOf_19 : decode cX3_linesOf 19 = .ok (.isub, 1) := by decide +kernel
theorem dX3_linesOf_20 : decode cX3_linesOf 20 = .ok (.aaload, 1) := by decide +kernel
theorem dX3_linesOf_21 : decode cX3_linesOf 21 = .ok (.goto 4, 3) := by decide +kernel
theorem dX3_linesOf_24 : decode cX3_linesOf 24 = .ok (.aconst_null, 1) := by decide +kernel
theorem dX3_linesOf_25 : decode cX3_linesOf 25 = .ok (.areturn, 1) := by decide +kernel
theorem dX3_copyCode_0 : decode cX3_copyCode 0 = .ok (.aload_n 0, 1) := by decide +kernel
theorem dX3_copyCode_1 : decode cX3_copyCode 1 = .ok (.iload_n 1, 1) := by decide +kernel
theorem dX3_copyCode_2 : decode cX3_copyCode 2 = .ok (.invokevirtual 32, 3) := by decide +kernel
theorem dX3_copyCode_5 : decode cX3_copyCode 5 = .ok (.ifCond .eq 11, 3) := by decide +kernel
theorem dX3_copyCode_8 : decode cX3_copyCode 8 = .ok (.aload_n 0, 1) := by decide +kernel
theorem dX3_copyCode_9 : decode cX3_copyCode 9 = .ok (.iload_n 2, 1) := by decide +kernel
theorem dX3_copyCode_10 : decode cX3_copyCode 10 = .ok (.invokevirtual 32, 3) := by decide +kernel
theorem dX3_copyCode_13 : decode cX3_copyCode 13 = .ok (.ifCond .ne 6, 3) := by decide +kernel
theorem dX3_copyCode_16 : decode cX3_copyCode 16 = .ok (.bipush (-2), 2) := by decide +kernel
theorem dX3_copyCode_18 : decode cX3_copyCode 18 = .ok (.ireturn, 1) := by decide +kernel
theorem dX3_copyCode_19 : decode cX3_copyCode 19 = .ok (.iload_n 3, 1) := by decide +kernel
theorem dX3_copyCode_20 : decode cX3_copyCode 20 = .ok (.invokestatic 44, 3) := by decide +kernel
theorem dX3_copyCode_23 : decode cX3_copyCode 23 = .ok (.ifCond .eq 11, 3) := by decide +kernel
theorem dX3_copyCode_26 : decode cX3_copyCode 26 = .ok (.iload 4, 2) := by decide +kernel
theorem dX3_copyCode_28 : decode cX3_copyCode 28 = .ok (.invokestatic 44, 3) := by decide +kernel
theorem dX3_copyCode_31 : decode cX3_copyCode 31 = .ok (.ifCond .ne 6, 3) := by decide +kernel
theorem dX3_copyCode_34 : decode cX3_copyCode 34 = .ok (.bipush (-4), 2) := by decide +kernel
theorem dX3_copyCode_36 : decode cX3_copyCode 36 = .ok (.ireturn, 1) := by decide +kernel
theorem dX3_copyCode_37 : decode cX3_copyCode 37 = .ok (.aload_n 0, 1) := by decide +kernel
theorem dX3_copyCode_38 : decode cX3_copyCode 38 = .ok (.iload_n 1, 1) := by decide +kernel
theorem dX3_copyCode_39 : decode cX3_copyCode 39 = .ok (.iload_n 2, 1) := by decide +kernel
theorem dX3_copyCode_40 : decode cX3_copyCode 40 = .ok (.iload_n 3, 1) := by decide +kernel
theorem dX3_copyCode_41 : decode cX3_copyCode 41 = .ok (.iload 4, 2) := by decide +kernel
theorem dX3_copyCode_43 : decode cX3_copyCode 43 = .ok (.invokevirtual 47, 3) := by decide +kernel
theorem dX3_copyCode_46 : decode cX3_copyCode 46 = .ok (.ireturn, 1) := by decide +kernel
theorem dX3_moveCode_0 : decode cX3_moveCode 0 = .ok (.aload_n 0, 1) := by decide +kernel
theorem dX3_moveCode_1 : decode cX3_moveCode 1 = .ok (.iload_n 1, 1) := by decide +kernel
theorem dX3_moveCode_2 : decode cX3_moveCode 2 = .ok (.invokevirtual 32, 3) := by decide +kernel
theorem dX3_moveCode_5 : decode cX3_moveCode 5 = .ok (.ifCond .eq 19, 3) := by decide +kernel
theorem dX3_moveCode_8 : decode cX3_moveCode 8 = .ok (.aload_n 0, 1) := by decide +kernel
theorem dX3_moveCode_9 : decode cX3_moveCode 9 = .ok (.iload_n 2, 1) := by decide +kernel
theorem dX3_moveCode_10 : decode cX3_moveCode 10 = .ok (.invokevirtual 32, 3) := by decide +kernel
theorem dX3_moveCode_13 : decode cX3_moveCode 13 = .ok (.ifCond .eq 11, 3) := by decide +kernel
theorem dX3_moveCode_16 : decode cX3_moveCode 16 = .ok (.iload_n 3, 1) := by decide +kernel
theorem dX3_moveCode_17 : decode cX3_moveCode 17 = .ok (.iconst (-1), 1) := by decide +kernel
theorem dX3_moveCode_18 : decode cX3_moveCode 18 = .ok (.if_icmp .ne 6, 3) := by decide +kernel
theorem dX3_moveCode_21 : decode cX3_moveCode 21 = .ok (.bipush (-4), 2) := by decide +kernel
theorem dX3_moveCode_23 : decode cX3_moveCode 23 = .ok (.ireturn, 1) := by decide +kernel
theorem dX3_moveCode_24 : decode cX3_moveCode 24 = .ok (.aload_n 0, 1) := by decide +kernel
theorem dX3_moveCode_25 : decode cX3_moveCode 25 = .ok (.iload_n 1, 1) := by decide +kernel
theorem dX3_moveCode_26 : decode cX3_moveCode 26 = .ok (.iload_n 2, 1) := by decide +kernel
theorem dX3_moveCode_27 : decode cX3_moveCode 27 = .ok (.iload_n 3, 1) := by decide +kernel
theorem dX3_moveCode_28 : decode cX3_moveCode 28 = .ok (.iload 4, 2) := by decide +kernel
theorem dX3_moveCode_30 : decode cX3_moveCode 30 = .ok (.invokevirtual 51, 3) := by decide +kernel
theorem dX3_moveCode_33 : decode cX3_moveCode 33 = .ok (.ireturn, 1) := by decide +kernel
theorem dX3_copyMembers_0 : decode cX3_copyMembers 0 = .ok (.iload_n 3, 1) := by decide +kernel
theorem dX3_copyMembers_1 : decode cX3_copyMembers 1 = .ok (.invokestatic 54, 3) := by decide +kernel
theorem dX3_copyMembers_4 : decode cX3_copyMembers 4 = .ok (.istore 5, 2) := by decide +kernel
theorem dX3_copyMembers_6 : decode cX3_copyMembers 6 = .ok (.iload_n 3, 1) := by decide +kernel
theorem dX3_copyMembers_7 : decode cX3_copyMembers 7 = .ok (.invokestatic 58, 3) := by decide +kernel
theorem dX3_copyMembers_10 : decode cX3_copyMembers 10 = .ok (.istore 6, 2) := by decide +kernel
theorem dX3_copyMembers_12 : decode cX3_copyMembers 12 = .ok (.iload 6, 2) := by decide +kernel
theorem dX3_copyMembers_14 : decode cX3_copyMembers 14 = .ok (.iload 5, 2) := by decide +kernel
theorem dX3_copyMembers_16 : decode cX3_copyMembers 16 = .ok (.if_icmp .gt 30, 3) := by decide +kernel
theorem dX3_copyMembers_19 : decode cX3_copyMembers 19 = .ok (.aload_n 0, 1) := by decide +kernel
theorem dX3_copyMembers_20 : decode cX3_copyMembers 20 = .ok (.iload_n 1, 1) := by decide +kernel
theorem dX3_copyMembers_21 : decode cX3_copyMembers 21 = .ok (.iload 6, 2) := by decide +kernel
theorem dX3_copyMembers_23 : decode cX3_copyMembers 23 = .ok (.iload_n 2, 1) := by decide +kernel
theorem dX3_copyMembers_24 : decode cX3_copyMembers 24 = .ok (.iload 4, 2) := by decide +kernel
theorem dX3_copyMembers_26 : decode cX3_copyMembers 26 = .ok (.iconst (-1), 1) := by decide +kernel
theorem dX3_copyMembers_27 : decode cX3_copyMembers 27 = .ok (.if_icmp .ne 8, 3) := by decide +kernel
theorem dX3_copyMembers_30 : decode cX3_copyMembers 30 = .ok (.iload 6, 2) := by decide +kernel
theorem dX3_copyMembers_32 : decode cX3_copyMembers 32 = .ok (.goto 5, 3) := by decide +kernel
theorem dX3_copyMembers_35 : decode cX3_copyMembers 35 = .ok (.iload 4, 2) := by decide +kernel
theorem dX3_copyMembers_37 : decode cX3_copyMembers 37 = .ok (.invokevirtual 61, 3) := by decide +kernel
theorem dX3_copyMembers_40 : decode cX3_copyMembers 40 = .ok (.iinc 6 1, 3) := by decide +kernel
theorem dX3_copyMembers_43 : decode cX3_copyMembers 43 = .ok (.goto (-31), 3) := by decide +kernel
theorem dX3_copyMembers_46 : decode cX3_copyMembers 46 = .ok (.return_, 1) := by decide +kernel
theorem dX3_moveMember_0 : decode cX3_moveMember 0 = .ok (.iload 4, 2) := by decide +kernel
theorem dX3_moveMember_2 : decode cX3_moveMember 2 = .ok (.iconst (-1), 1) := by decide +kernel
theorem dX3_moveMember_3 : decode cX3_moveMember 3 = .ok (.if_icmp .ne 7, 3) := by decide +kernel
theorem dX3_moveMember_6 : decode cX3_moveMember 6 = .ok (.iload_n 3, 1) := by decide +kernel
theorem dX3_moveMember_7 : decode cX3_moveMember 7 = .ok (.goto 5, 3) := by decide +kernel
theorem dX3_moveMember_10 : decode cX3_moveMember 10 = .ok (.iload 4, 2) := by decide +kernel
theorem dX3_moveMember_12 : decode cX3_moveMember 12 = .ok (.istore 5, 2) := by decide +kernel
theorem dX3_moveMember_14 : decode cX3_moveMember 14 = .ok (.iload_n 1, 1) := by decide +kernel
theorem dX3_moveMember_15 : decode cX3_moveMember 15 = .ok (.iload_n 2, 1) := by decide +kernel
theorem dX3_moveMember_16 : decode cX3_moveMember 16 = .ok (.if_icmp .ne 10, 3) := by decide +kernel
theorem dX3_moveMember_19 : decode cX3_moveMember 19 = .ok (.iload_n 3, 1) := by decide +kernel
theorem dX3_moveMember_20 : decode cX3_moveMember 20 = .ok (.iload 5, 2) := by decide +kernel
theorem dX3_moveMember_22 : decode cX3_moveMember 22 = .ok (.if_icmp .ne 4, 3) := by decide +kernel
theorem dX3_moveMember_25 : decode cX3_moveMember 25 = .ok (.return_, 1) := by decide +kernel
theorem dX3_moveMember_26 : decode cX3_moveMember 26 = .ok (.aload_n 0, 1) := by decide +kernel
theorem dX3_moveMember_27 : decode cX3_moveMember 27 = .ok (.iload_n 1, 1) := by decide +kernel
theorem dX3_moveMember_28 : decode cX3_moveMember 28 = .ok (.iload_n 3, 1) := by decide +kernel
theorem dX3_moveMember_29 : decode cX3_moveMember 29 = .ok (.iload_n 2, 1) := by decide +kernel
theorem dX3_moveMember_30 : decode cX3_moveMember 30 = .ok (.iload 5, 2) := by decide +kernel
theorem dX3_moveMember_32 : decode cX3_moveMember 32 = .ok (.invokevirtual 61, 3) := by decide +kernel
theorem dX3_moveMember_35 : decode cX3_moveMember 35 = .ok (.aload_n 0, 1) := by decide +kernel
theorem dX3_moveMember_36 : decode cX3_moveMember 36 = .ok (.iload_n 1, 1) := by decide +kernel
theorem dX3_moveMember_37 : decode cX3_moveMember 37 = .ok (.iload_n 3, 1) := by decide +kernel
theorem dX3_moveMember_38 : decode cX3_moveMember 38 = .ok (.invokevirtual 65, 3) := by decide +kernel
theorem dX3_moveMember_41 : decode cX3_moveMember 41 = .ok (.return_, 1) := by decide +kernel
theorem dX3_copyCodeOfNames_0 : decode cX3_copyCodeOfNames 0 = .ok (.iconst 0, 1) := by decide +kernel
theorem dX3_copyCodeOfNames_1 : decode cX3_copyCodeOfNames 1 = .ok (.istore 5, 2) := by decide +kernel
theorem dX3_copyCodeOfNames_3 : decode cX3_copyCodeOfNames 3 = .ok (.iconst 0, 1) := by decide +kernel
theorem dX3_copyCodeOfNames_4 : decode cX3_copyCodeOfNames 4 = .ok (.istore 6, 2) := by decide +kernel
theorem dX3_copyCodeOfNames_6 : decode cX3_copyCodeOfNames 6 = .ok (.iconst 0, 1) := by decide +kernel
theorem dX3_copyCodeOfNames_7 : decode cX3_copyCodeOfNames 7 = .ok (.istore 7, 2) := by decide +kernel
theorem dX3_copyCodeOfNames_9 : decode cX3_copyCodeOfNames 9 = .ok (.iload_n 3, 1) := by decide +kernel
theorem dX3_copyCodeOfNames_10 : decode cX3_copyCodeOfNames 10 = .ok (.invokestatic 54, 3) := by decide +kernel
theorem dX3_copyCodeOfNames_13 : decode cX3_copyCodeOfNames 13 = .ok (.istore 8, 2) := by decide +kernel
theorem dX3_copyCodeOfNames_15 : decode cX3_copyCodeOfNames 15 = .ok (.iload_n 3, 1) := by decide +kernel
theorem dX3_copyCodeOfNames_16 : decode cX3_copyCodeOfNames 16 = .ok (.invokestatic 58, 3) := by decide +kernel
theorem dX3_copyCodeOfNames_19 : decode cX3_copyCodeOfNames 19 = .ok (.istore 9, 2) := by decide +kernel
theorem dX3_copyCodeOfNames_21 : decode cX3_copyCodeOfNames 21 = .ok (.iload 9, 2) := by decide +kernel
theorem dX3_copyCodeOfNames_23 : decode cX3_copyCodeOfNames 23 = .ok (.iload 8, 2) := by decide +kernel
theorem dX3_copyCodeOfNames_25 : decode cX3_copyCodeOfNames 25 = .ok (.if_icmp .gt 78, 3) := by decide +kernel
theorem dX3_copyCodeOfNames_28 : decode cX3_copyCodeOfNames 28 = .ok (.aload_n 0, 1) := by decide +kernel
theorem dX3_copyCodeOfNames_29 : decode cX3_copyCodeOfNames 29 = .ok (.iload_n 1, 1) := by decide +kernel
theorem dX3_copyCodeOfNames_30 : decode cX3_copyCodeOfNames 30 = .ok (.iload 9, 2) := by decide +kernel
theorem dX3_copyCodeOfNames_32 : decode cX3_copyCodeOfNames 32 = .ok (.invokevirtual 69, 3) := by decide +kernel
theorem dX3_copyCodeOfNames_35 : decode cX3_copyCodeOfNames 35 = .ok (.istore 10, 2) := by decide +kernel
theorem dX3_copyCodeOfNames_37 : decode cX3_copyCodeOfNames 37 = .ok (.iload 10, 2) := by decide +kernel
theorem dX3_copyCodeOfNames_39 : decode cX3_copyCodeOfNames 39 = .ok (.ifCond .ne 6, 3) := by decide +kernel
theorem dX3_copyCodeOfNames_42 : decode cX3_copyCodeOfNames 42 = .ok (.goto 55, 3) := by decide +kernel
theorem dX3_copyCodeOfNames_45 : decode cX3_copyCodeOfNames 45 = .ok (.aload_n 0, 1) := by decide +kernel
theorem dX3_copyCodeOfNames_46 : decode cX3_copyCodeOfNames 46 = .ok (.iload_n 2, 1) := by decide +kernel
theorem dX3_copyCodeOfNames_47 : decode cX3_copyCodeOfNames 47 = .ok (.iload 4, 2) := by decide +kernel
theorem dX3_copyCodeOfNames_49 : decode cX3_copyCodeOfNames 49 = .ok (.iconst (-1), 1) := by decide +kernel
theorem dX3_copyCodeOfNames_50 : decode cX3_copyCodeOfNames 50 = .ok (.if_icmp .ne 8, 3) := by decide +kernel
theorem dX3_copyCodeOfNames_53 : decode cX3_copyCodeOfNames 53 = .ok (.iload 9, 2) := by decide +kernel
theorem dX3_copyCodeOfNames_55 : decode cX3_copyCodeOfNames 55 = .ok (.goto 5, 3) := by decide +kernel
theorem dX3_copyCodeOfNames_58 : decode cX3_copyCodeOfNames 58 = .ok (.iload 4, 2) := by decide +kernel
theorem dX3_copyCodeOfNames_60 : decode cX3_copyCodeOfNames 60 = .ok (.invokevirtual 69, 3) := by decide +kernel
theorem dX3_copyCodeOfNames_63 : decode cX3_copyCodeOfNames 63 = .ok (.istore 11, 2) := by decide +kernel
theorem dX3_copyCodeOfNames_65 : decode cX3_copyCodeOfNames 65 = .ok (.iinc 5 1, 3) := by decide +kernel
theorem dX3_copyCodeOfNames_68 : decode cX3_copyCodeOfNames 68 = .ok (.iload 11, 2) := by decide +kernel
theorem dX3_copyCodeOfNames_70 : decode cX3_copyCodeOfNames 70 = .ok (.ifCond .ne 9, 3) := by decide +kernel
theorem dX3_copyCodeOfNames_73 : decode cX3_copyCodeOfNames 73 = .ok (.iinc 6 1, 3) := by decide +kernel
theorem dX3_copyCodeOfNames_76 : decode cX3_copyCodeOfNames 76 = .ok (.goto 21, 3) := by decide +kernel
theorem dX3_copyCodeOfNames_79 : decode cX3_copyCodeOfNames 79 = .ok (.iload 11, 2) := by decide +kernel
theorem dX3_copyCodeOfNames_81 : decode cX3_copyCodeOfNames 81 = .ok (.iload 10, 2) := by decide +kernel
theorem dX3_copyCodeOfNames_83 : decode cX3_copyCodeOfNames 83 = .ok (.if_icmp .eq 14, 3) := by decide +kernel
theorem dX3_copyCodeOfNames_86 : decode cX3_copyCodeOfNames 86 = .ok (.aload_n 0, 1) := by decide +kernel
theorem dX3_copyCodeOfNames_87 : decode cX3_copyCodeOfNames 87 = .ok (.iload_n 2, 1) := by decide +kernel
theorem dX3_copyCodeOfNames_88 : decode cX3_copyCodeOfNames 88 = .ok (.invokevirtual 72, 3) := by decide +kernel
theorem dX3_copyCodeOfNames_91 : decode cX3_copyCodeOfNames 91 = .ok (.ifCond .ne 6, 3) := by decide +kernel
theorem dX3_copyCodeOfNames_94 : decode cX3_copyCodeOfNames 94 = .ok (.iinc 7 1, 3) := by decide +kernel
theorem dX3_copyCodeOfNames_97 : decode cX3_copyCodeOfNames 97 = .ok (.iinc 9 1, 3) := by decide +kernel
theorem dX3_copyCodeOfNames_100 : decode cX3_copyCodeOfNames 100 = .ok (.goto (-79), 3) := by decide +kernel
theorem dX3_copyCodeOfNames_103 : decode cX3_copyCodeOfNames 103 = .ok (.iload 5, 2) := by decide +kernel
theorem dX3_copyCodeOfNames_105 : decode cX3_copyCodeOfNames 105 = .ok (.ifCond .eq 15, 3) := by decide +kernel
theorem dX3_copyCodeOfNames_108 : decode cX3_copyCodeOfNames 108 = .ok (.iload 4, 2) := by decide +kernel
theorem dX3_copyCodeOfNames_110 : decode cX3_copyCodeOfNames 110 = .ok (.iconst (-1), 1) := by decide +kernel
theorem dX3_copyCodeOfNames_111 : decode cX3_copyCodeOfNames 111 = .ok (.if_icmp .eq 12, 3) := by decide +kernel
theorem dX3_copyCodeOfNames_114 : decode cX3_copyCodeOfNames 114 = .ok (.iload 5, 2) := by decide +kernel
theorem dX3_copyCodeOfNames_116 : decode cX3_copyCodeOfNames 116 = .ok (.iconst 1, 1) := by decide +kernel
theorem dX3_copyCodeOfNames_117 : decode cX3_copyCodeOfNames 117 = .ok (.if_icmp .le 6, 3) := by decide +kernel
theorem dX3_copyCodeOfNames_120 : decode cX3_copyCodeOfNames 120 = .ok (.bipush 8, 2) := by decide +kernel
theorem dX3_copyCodeOfNames_122 : decode cX3_copyCodeOfNames 122 = .ok (.ireturn, 1) := by decide +kernel
theorem dX3_copyCodeOfNames_123 : decode cX3_copyCodeOfNames 123 = .ok (.aload_n 0, 1) := by decide +kernel
theorem dX3_copyCodeOfNames_124 : decode cX3_copyCodeOfNames 124 = .ok (.getfield 29, 3) := by decide +kernel
theorem dX3_copyCodeOfNames_127 : decode cX3_copyCodeOfNames 127 = .ok (.iload 6, 2) := by decide +kernel
theorem dX3_copyCodeOfNames_129 : decode cX3_copyCodeOfNames 129 = .ok (.iadd, 1) := by decide +kernel
theorem dX3_copyCodeOfNames_130 : decode cX3_copyCodeOfNames 130 = .ok (.bipush 80, 2) := by decide +kernel
theorem dX3_copyCodeOfNames_132 : decode cX3_copyCodeOfNames 132 = .ok (.if_icmp .le 6, 3) := by decide +kernel
theorem dX3_copyCodeOfNames_135 : decode cX3_copyCodeOfNames 135 = .ok (.bipush 12, 2) := by decide +kernel
theorem dX3_copyCodeOfNames_137 : decode cX3_copyCodeOfNames 137 = .ok (.ireturn, 1) := by decide +kernel
theorem dX3_copyCodeOfNames_138 : decode cX3_copyCodeOfNames 138 = .ok (.iload 7, 2) := by decide +kernel
theorem dX3_copyCodeOfNames_140 : decode cX3_copyCodeOfNames 140 = .ok (.ifCond .le 7, 3) := by decide +kernel
theorem dX3_copyCodeOfNames_143 : decode cX3_copyCodeOfNames 143 = .ok (.iconst 4, 1) := by decide +kernel
theorem dX3_copyCodeOfNames_144 : decode cX3_copyCodeOfNames 144 = .ok (.goto 4, 3) := by decide +kernel
theorem dX3_copyCodeOfNames_147 : decode cX3_copyCodeOfNames 147 = .ok (.iconst 0, 1) := by decide +kernel
theorem dX3_copyCodeOfNames_148 : decode cX3_copyCodeOfNames 148 = .ok (.ireturn, 1) := by decide +kernel
theorem dX3_copyMember_0 : decode cX3_copyMember 0 = .ok (.aload_n 0, 1) := by decide +kernel
theorem dX3_copyMember_1 : decode cX3_copyMember 1 = .ok (.iload_n 1, 1) := by decide +kernel
theorem dX3_copyMember_2 : decode cX3_copyMember 2 = .ok (.iload_n 2, 1) := by decide +kernel
theorem dX3_copyMember_3 : decode cX3_copyMember 3 = .ok (.invokevirtual 69, 3) := by decide +kernel
theorem dX3_copyMember_6 : decode cX3_copyMember 6 = .ok (.istore 5, 2) := by decide +kernel
theorem dX3_copyMember_8 : decode cX3_copyMember 8 = .ok (.aload_n 0, 1) := by decide +kernel
theorem dX3_copyMember_9 : decode cX3_copyMember 9 = .ok (.iload_n 3, 1) := by decide +kernel
theorem dX3_copyMember_10 : decode cX3_copyMember 10 = .ok (.iload 4, 2) := by decide +kernel
theorem dX3_copyMember_12 : decode cX3_copyMember 12 = .ok (.invokevirtual 69, 3) := by decide +kernel
theorem dX3_copyMember_15 : decode cX3_copyMember 15 = .ok (.istore 6, 2) := by decide +kernel
theorem dX3_copyMember_17 : decode cX3_copyMember 17 = .ok (.iload 5, 2) := by decide +kernel
theorem dX3_copyMember_19 : decode cX3_copyMember 19 = .ok (.ifCond .eq 23, 3) := by decide +kernel
theorem dX3_copyMember_22 : decode cX3_copyMember 22 = .ok (.iload 5, 2) := by decide +kernel
theorem dX3_copyMember_24 : decode cX3_copyMember 24 = .ok (.iload 6, 2) := by decide +kernel
theorem dX3_copyMember_26 : decode cX3_copyMember 26 = .ok (.if_icmp .eq 16, 3) := by decide +kernel
theorem dX3_copyMember_29 : decode cX3_copyMember 29 = .ok (.iload 6, 2) := by decide +kernel
theorem dX3_copyMember_31 : decode cX3_copyMember 31 = .ok (.ifCond .eq 12, 3) := by decide +kernel
theorem dX3_copyMember_34 : decode cX3_copyMember 34 = .ok (.aload_n 0, 1) := by decide +kernel
theorem dX3_copyMember_35 : decode cX3_copyMember 35 = .ok (.iload_n 3, 1) := by decide +kernel
theorem dX3_copyMember_36 : decode cX3_copyMember 36 = .ok (.invokevirtual 72, 3) := by decide +kernel
theorem dX3_copyMember_39 : decode cX3_copyMember 39 = .ok (.ifCond .ne 4, 3) := by decide +kernel
theorem dX3_copyMember_42 : decode cX3_copyMember 42 = .ok (.return_, 1) := by decide +kernel
theorem dX3_copyMember_43 : decode cX3_copyMember 43 = .ok (.aload_n 0, 1) := by decide +kernel
theorem dX3_copyMember_44 : decode cX3_copyMember 44 = .ok (.iload 5, 2) := by decide +kernel
theorem dX3_copyMember_46 : decode cX3_copyMember 46 = .ok (.invokevirtual 75, 3) := by decide +kernel
theorem dX3_copyMember_49 : decode cX3_copyMember 49 = .ok (.astore 7, 2) := by decide +kernel
theorem dX3_copyMember_51 : decode cX3_copyMember 51 = .ok (.aload_n 0, 1) := by decide +kernel
theorem dX3_copyMember_52 : decode cX3_copyMember 52 = .ok (.iload 6, 2) := by decide +kernel
theorem dX3_copyMember_54 : decode cX3_copyMember 54 = .ok (.ifCond .ne 13, 3) := by decide +kernel
theorem dX3_copyMember_57 : decode cX3_copyMember 57 = .ok (.aload_n 0, 1) := by decide +kernel
theorem dX3_copyMember_58 : decode cX3_copyMember 58 = .ok (.iload_n 3, 1) := by decide +kernel
theorem dX3_copyMember_59 : decode cX3_copyMember 59 = .ok (.iload 4, 2) := by decide +kernel
theorem dX3_copyMember_61 : decode cX3_copyMember 61 = .ok (.invokevirtual 79, 3) := by decide +kernel
theorem dX3_copyMember_64 : decode cX3_copyMember 64 = .ok (.goto 5, 3) := by decide +kernel
theorem dX3_copyMember_67 : decode cX3_copyMember 67 = .ok (.iload 6, 2) := by decide +kernel
theorem dX3_copyMember_69 : decode cX3_copyMember 69 = .ok (.invokevirtual 75, 3) := by decide +kernel
theorem dX3_copyMember_72 : decode cX3_copyMember 72 = .ok (.astore 8, 2) := by decide +kernel
theorem dX3_copyMember_74 : decode cX3_copyMember 74 = .ok (.aload 7, 2) := by decide +kernel
theorem dX3_copyMember_76 : decode cX3_copyMember 76 = .ok (.ifnull 15, 3) := by decide +kernel
theorem dX3_copyMember_79 : decode cX3_copyMember 79 = .ok (.aload 8, 2) := by decide +kernel
theorem dX3_copyMember_81 : decode cX3_copyMember 81 = .ok (.ifnull 10, 3) := by decide +kernel
theorem dX3_copyMember_84 : decode cX3_copyMember 84 = .ok (.aload 8, 2) := by decide +kernel
theorem dX3_copyMember_86 : decode cX3_copyMember 86 = .ok (.aload 7, 2) := by decide +kernel
theorem dX3_copyMember_88 : decode cX3_copyMember 88 = .ok (.invokevirtual 82, 3) := by decide +kernel
theorem dX3_copyMember_91 : decode cX3_copyMember 91 = .ok (.return_, 1) := by decide +kernel
theorem dX3_dropMember_0 : decode cX3_dropMember 0 = .ok (.aload_n 0, 1) := by decide +kernel
theorem dX3_dropMember_1 : decode cX3_dropMember 1 = .ok (.iload_n 1, 1) := by decide +kernel
theorem dX3_dropMember_2 : decode cX3_dropMember 2 = .ok (.iload_n 2, 1) := by decide +kernel
theorem dX3_dropMember_3 : decode cX3_dropMember 3 = .ok (.invokevirtual 69, 3) := by decide +kernel
theorem dX3_dropMember_6 : decode cX3_dropMember 6 = .ok (.istore_n 3, 1) := by decide +kernel
theorem dX3_dropMember_7 : decode cX3_dropMember 7 = .ok (.iload_n 3, 1) := by decide +kernel
theorem dX3_dropMember_8 : decode cX3_dropMember 8 = .ok (.iconst 1, 1) := by decide +kernel
theorem dX3_dropMember_9 : decode cX3_dropMember 9 = .ok (.if_icmp .lt 31, 3) := by decide +kernel
theorem dX3_dropMember_12 : decode cX3_dropMember 12 = .ok (.iload_n 3, 1) := by decide +kernel
theorem dX3_dropMember_13 : decode cX3_dropMember 13 = .ok (.aload_n 0, 1) := by decide +kernel
theorem dX3_dropMember_14 : decode cX3_dropMember 14 = .ok (.getfield 29, 3) := by decide +kernel
theorem dX3_dropMember_17 : decode cX3_dropMember 17 = .ok (.if_icmp .gt 23, 3) := by decide +kernel
theorem dX3_dropMember_20 : decode cX3_dropMember 20 = .ok (.aload_n 0, 1) := by decide +kernel
theorem dX3_dropMember_21 : decode cX3_dropMember 21 = .ok (.getfield 17, 3) := by decide +kernel
theorem dX3_dropMember_24 : decode cX3_dropMember 24 = .ok (.iload_n 3, 1) := by decide +kernel
theorem dX3_dropMember_25 : decode cX3_dropMember 25 = .ok (.iconst 1, 1) := by decide +kernel
theorem dX3_dropMember_26 : decode cX3_dropMember 26 = .ok (.isub, 1) := by decide +kernel
theorem dX3_dropMember_27 : decode cX3_dropMember 27 = .ok (.aconst_null, 1) := by decide +kernel
theorem dX3_dropMember_28 : decode cX3_dropMember 28 = .ok (.aastore, 1) := by decide +kernel
theorem dX3_dropMember_29 : decode cX3_dropMember 29 = .ok (.aload_n 0, 1) := by decide +kernel
theorem dX3_dropMember_30 : decode cX3_dropMember 30 = .ok (.getfield 21, 3) := by decide +kernel
theorem dX3_dropMember_33 : decode cX3_dropMember 33 = .ok (.iload_n 1, 1) := by decide +kernel
theorem dX3_dropMember_34 : decode cX3_dropMember 34 = .ok (.iload_n 2, 1) := by decide +kernel
theorem dX3_dropMember_35 : decode cX3_dropMember 35 = .ok (.invokestatic 39, 3) := by decide +kernel
theorem dX3_dropMember_38 : decode cX3_dropMember 38 = .ok (.iconst 0, 1) := by decide +kernel
theorem dX3_dropMember_39 : decode cX3_dropMember 39 = .ok (.iastore, 1) := by decide +kernel
theorem dX3_dropMember_40 : decode cX3_dropMember 40 = .ok (.return_, 1) := by decide +kernel
theorem dX3_isReplacing_0 : decode cX3_isReplacing 0 = .ok (.aload_n 0, 1) := by decide +kernel
theorem dX3_isReplacing_1 : decode cX3_isReplacing 1 = .ok (.iload_n 1, 1) := by decide +kernel
theorem dX3_isReplacing_2 : decode cX3_isReplacing 2 = .ok (.invokevirtual 32, 3) := by decide +kernel
theorem dX3_isReplacing_5 : decode cX3_isReplacing 5 = .ok (.ifCond .eq 18, 3) := by decide +kernel
theorem dX3_isReplacing_8 : decode cX3_isReplacing 8 = .ok (.aload_n 0, 1) := by decide +kernel
theorem dX3_isReplacing_9 : decode cX3_isReplacing 9 = .ok (.getfield 9, 3) := by decide +kernel
theorem dX3_isReplacing_12 : decode cX3_isReplacing 12 = .ok (.iload_n 1, 1) := by decide +kernel
theorem dX3_isReplacing_13 : decode cX3_isReplacing 13 = .ok (.iconst 1, 1) := by decide +kernel
theorem dX3_isReplacing_14 : decode cX3_isReplacing 14 = .ok (.isub, 1) := by decide +kernel
theorem dX3_isReplacing_15 : decode cX3_isReplacing 15 = .ok (.baload, 1) := by decide +kernel
theorem dX3_isReplacing_16 : decode cX3_isReplacing 16 = .ok (.ifCond .eq 7, 3) := by decide +kernel
theorem dX3_isReplacing_19 : decode cX3_isReplacing 19 = .ok (.iconst 1, 1) := by decide +kernel
theorem dX3_isReplacing_20 : decode cX3_isReplacing 20 = .ok (.goto 4, 3) := by decide +kernel
theorem dX3_isReplacing_23 : decode cX3_isReplacing 23 = .ok (.iconst 0, 1) := by decide +kernel
theorem dX3_isReplacing_24 : decode cX3_isReplacing 24 = .ok (.ireturn, 1) := by decide +kernel
theorem dX3_placeOf_0 : decode cX3_placeOf 0 = .ok (.iload_n 0, 1) := by decide +kernel
theorem dX3_placeOf_1 : decode cX3_placeOf 1 = .ok (.iconst 1, 1) := by decide +kernel
theorem dX3_placeOf_2 : decode cX3_placeOf 2 = .ok (.isub, 1) := by decide +kernel
theorem dX3_placeOf_3 : decode cX3_placeOf 3 = .ok (.bipush 100, 2) := by decide +kernel
theorem dX3_placeOf_5 : decode cX3_placeOf 5 = .ok (.imul, 1) := by decide +kernel
theorem dX3_placeOf_6 : decode cX3_placeOf 6 = .ok (.iload_n 1, 1) := by decide +kernel
theorem dX3_placeOf_7 : decode cX3_placeOf 7 = .ok (.iadd, 1) := by decide +kernel
theorem dX3_placeOf_8 : decode cX3_placeOf 8 = .ok (.ireturn, 1) := by decide +kernel
theorem dX3_isNameOrNone_0 : decode cX3_isNameOrNone 0 = .ok (.iload_n 0, 1) := by decide +kernel
theorem dX3_isNameOrNone_1 : decode cX3_isNameOrNone 1 = .ok (.iconst (-1), 1) := by decide +kernel
theorem dX3_isNameOrNone_2 : decode cX3_isNameOrNone 2 = .ok (.if_icmp .eq 10, 3) := by decide +kernel
theorem dX3_isNameOrNone_5 : decode cX3_isNameOrNone 5 = .ok (.iload_n 0, 1) := by decide +kernel
theorem dX3_isNameOrNone_6 : decode cX3_isNameOrNone 6 = .ok (.invokestatic 36, 3) := by decide +kernel
theorem dX3_isNameOrNone_9 : decode cX3_isNameOrNone 9 = .ok (.ifCond .eq 7, 3) := by decide +kernel
theorem dX3_isNameOrNone_12 : decode cX3_isNameOrNone 12 = .ok (.iconst 1, 1) := by decide +kernel
theorem dX3_isNameOrNone_13 : decode cX3_isNameOrNone 13 = .ok (.goto 4, 3) := by decide +kernel
theorem dX3_isNameOrNone_16 : decode cX3_isNameOrNone 16 = .ok (.iconst 0, 1) := by decide +kernel
theorem dX3_isNameOrNone_17 : decode cX3_isNameOrNone 17 = .ok (.ireturn, 1) := by decide +kernel
theorem dX3_firstName_0 : decode cX3_firstName 0 = .ok (.iload_n 0, 1) := by decide +kernel
theorem dX3_firstName_1 : decode cX3_firstName 1 = .ok (.iconst (-1), 1) := by decide +kernel
theorem dX3_firstName_2 : decode cX3_firstName 2 = .ok (.if_icmp .ne 7, 3) := by decide +kernel
theorem dX3_firstName_5 : decode cX3_firstName 5 = .ok (.iconst 0, 1) := by decide +kernel
theorem dX3_firstName_6 : decode cX3_firstName 6 = .ok (.goto 4, 3) := by decide +kernel
theorem dX3_firstName_9 : decode cX3_firstName 9 = .ok (.iload_n 0, 1) := by decide +kernel
theorem dX3_firstName_10 : decode cX3_firstName 10 = .ok (.ireturn, 1) := by decide +kernel
theorem dX3_lastName_0 : decode cX3_lastName 0 = .ok (.iload_n 0, 1) := by decide +kernel
theorem dX3_lastName_1 : decode cX3_lastName 1 = .ok (.iconst (-1), 1) := by decide +kernel
theorem dX3_lastName_2 : decode cX3_lastName 2 = .ok (.if_icmp .ne 8, 3) := by decide +kernel
theorem dX3_lastName_5 : decode cX3_lastName 5 = .ok (.bipush 99, 2) := by decide +kernel
theorem dX3_lastName_7 : decode cX3_lastName 7 = .ok (.goto 4, 3) := by decide +kernel
theorem dX3_lastName_10 : decode cX3_lastName 10 = .ok (.iload_n 0, 1) := by decide +kernel
theorem dX3_lastName_11 : decode cX3_lastName 11 = .ok (.ireturn, 1) := by decide +kernel
theorem dX4_init_0 : decode cX4_init 0 = .ok (.aload_n 0, 1) := by decide +kernel
theorem dX4_init_1 : decode cX4_init 1 = .ok (.invokespecial 3, 3) := by decide +kernel
theorem dX4_init_4 : decode cX4_init 4 = .ok (.aload_n 0, 1) := by decide +kernel
theorem dX4_init_5 : decode cX4_init 5 = .ok (.bipush 30, 2) := by decide +kernel
theorem dX4_init_7 : decode cX4_init 7 = .ok (.newarray .int, 2) := by decide +kernel
theorem dX4_init_9 : decode cX4_init 9 = .ok (.putfield 9, 3) := by decide +kernel
theorem dX4_init_12 : decode cX4_init 12 = .ok (.aload_n 0, 1) := by decide +kernel
theorem dX4_init_13 : decode cX4_init 13 = .ok (.bipush 30, 2) := by decide +kernel
theorem dX4_init_15 : decode cX4_init 15 = .ok (.newarray .int, 2) := by decide +kernel
theorem dX4_init_17 : decode cX4_init 17 = .ok (.putfield 15, 3) := by decide +kernel
theorem dX4_init_20 : decode cX4_init 20 = .ok (.aload_n 0, 1) := by decide +kernel
theorem dX4_init_21 : decode cX4_init 21 = .ok (.sipush 300, 3) := by decide +kernel
theorem dX4_init_24 : decode cX4_init 24 = .ok (.newarray .byte, 2) := by decide +kernel
theorem dX4_init_26 : decode cX4_init 26 = .ok (.putfield 18, 3) := by decide +kernel
theorem dX4_init_29 : decode cX4_init 29 = .ok (.return_, 1) := by decide +kernel
theorem dX4_size_0 : decode cX4_size 0 = .ok (.aload_n 0, 1) := by decide +kernel
theorem dX4_size_1 : decode cX4_size 1 = .ok (.getfield 22, 3) := by decide +kernel
theorem dX4_size_4 : decode cX4_size 4 = .ok (.ireturn, 1) := by decide +kernel
theorem dX4_clear_0 : decode cX4_clear 0 = .ok (.aload_n 0, 1) := by decide +kernel
theorem dX4_clear_1 : decode cX4_clear 1 = .ok (.iconst 0, 1) := by decide +kernel
theorem dX4_clear_2 : decode cX4_clear 2 = .ok (.putfield 22, 3) := by decide +kernel
theorem dX4_clear_5 : decode cX4_clear 5 = .ok (.return_, 1) := by decide +kernel
theorem dX4_has_0 : decode cX4_has 0 = .ok (.iload_n 1, 1) := by decide +kernel
theorem dX4_has_1 : decode cX4_has 1 = .ok (.ifCond .lt 15, 3) := by decide +kernel
theorem dX4_has_4 : decode cX4_has 4 = .ok (.iload_n 1, 1) := by decide +kernel
theorem dX4_has_5 : decode cX4_has 5 = .ok (.aload_n 0, 1) := by decide +kernel
theorem dX4_has_6 : decode cX4_has 6 = .ok (.getfield 22, 3) := by decide +kernel
theorem dX4_has_9 : decode cX4_has 9 = .ok (.if_icmp .ge 7, 3) := by decide +kernel
theorem dX4_has_12 : decode cX4_has 12 = .ok (.iconst 1, 1) := by decide +kernel
theorem dX4_has_13 : decode cX4_has 13 = .ok (.goto 4, 3) := by decide +kernel
theorem dX4_has_16 : decode cX4_has 16 = .ok (.iconst 0, 1) := by decide +kernel
theorem dX4_has_17 : decode cX4_has 17 = .ok (.ireturn, 1) := by decide +kernel
theorem dX4_numberAt_0 : decode cX4_numberAt 0 = .ok (.aload_n 0, 1) := by decide +kernel
theorem dX4_numberAt_1 : decode cX4_numberAt 1 = .ok (.iload_n 1, 1) := by decide +kernel
theorem dX4_numberAt_2 : decode cX4_numberAt 2 = .ok (.invokevirtual 26, 3) := by decide +kernel
theorem dX4_numberAt_5 : decode cX4_numberAt 5 = .ok (.ifCond .eq 12, 3) := by decide +kernel
theorem dX4_numberAt_8 : decode cX4_numberAt 8 = .ok (.aload_n 0, 1) := by decide +kernel
theorem dX4_numberAt_9 : decode cX4_numberAt 9 = .ok (.getfield 9, 3) := by decide +kernel
theorem dX4_numberAt_12 : decode cX4_numberAt 12 = .ok (.iload_n 1, 1) := by decide +kernel
theorem dX4_numberAt_13 : decode cX4_numberAt 13 = .ok (.iaload, 1) := by decide +kernel
theorem dX4_numberAt_14 : decode cX4_numberAt 14 = .ok (.goto 4, 3) := by decide +kernel
theorem dX4_numberAt_17 : decode cX4_numberAt 17 = .ok (.iconst 0, 1) := by decide +kernel
theorem dX4_numberAt_18 : decode cX4_numberAt 18 = .ok (.ireturn, 1) := by decide +kernel
theorem dX4_lengthAt_0 : decode cX4_lengthAt 0 = .ok (.aload_n 0, 1) := by decide +kernel
theorem dX4_lengthAt_1 : decode cX4_lengthAt 1 = .ok (.iload_n 1, 1) := by decide +kernel
theorem dX4_lengthAt_2 : decode cX4_lengthAt 2 = .ok (.invokevirtual 26, 3) := by decide +kernel
theorem dX4_lengthAt_5 : decode cX4_lengthAt 5 = .ok (.ifCond .eq 12, 3) := by decide +kernel
theorem dX4_lengthAt_8 : decode cX4_lengthAt 8 = .ok (.aload_n 0, 1) := by decide +kernel
theorem dX4_lengthAt_9 : decode cX4_lengthAt 9 = .ok (.getfield 15, 3) := by decide +kernel
theorem dX4_lengthAt_12 : decode cX4_lengthAt 12 = .ok (.iload_n 1, 1) := by decide +kernel
theorem dX4_lengthAt_13 : decode cX4_lengthAt 13 = .ok (.iaload, 1) := by decide +kernel
theorem dX4_lengthAt_14 : decode cX4_lengthAt 14 = .ok (.goto 4, 3) := by decide +kernel
theorem dX4_lengthAt_17 : decode cX4_lengthAt 17 = .ok (.iconst 0, 1) := by decide +kernel
theorem dX4_lengthAt_18 : decode cX4_lengthAt 18 = .ok (.ireturn, 1) := by decide +kernel
theorem dX4_signAt_0 : decode cX4_signAt 0 = .ok (.iload_n 2, 1) := by decide +kernel
theorem dX4_signAt_1 : decode cX4_signAt 1 = .ok (.ifCond .lt 26, 3) := by decide +kernel
theorem dX4_signAt_4 : decode cX4_signAt 4 = .ok (.iload_n 2, 1) := by decide +kernel
theorem dX4_signAt_5 : decode cX4_signAt 5 = .ok (.aload_n 0, 1) := by decide +kernel
theorem dX4_signAt_6 : decode cX4_signAt 6 = .ok (.iload_n 1, 1) := by decide +kernel
theorem dX4_signAt_7 : decode cX4_signAt 7 = .ok (.invokevirtual 30, 3) := by decide +kernel
theorem dX4_signAt_10 : decode cX4_signAt 10 = .ok (.if_icmp .ge 17, 3) := by decide +kernel
theorem dX4_signAt_13 : decode cX4_signAt 13 = .ok (.aload_n 0, 1) := by decide +kernel
theorem dX4_signAt_14 : decode cX4_signAt 14 = .ok (.getfield 18, 3) := by decide +kernel
theorem dX4_signAt_17 : decode cX4_signAt 17 = .ok (.iload_n 1, 1) := by decide +kernel
theorem dX4_signAt_18 : decode cX4_signAt 18 = .ok (.bipush 10, 2) := by decide +kernel
theorem dX4_signAt_20 : decode cX4_signAt 20 = .ok (.imul, 1) := by decide +kernel
theorem dX4_signAt_21 : decode cX4_signAt 21 = .ok (.iload_n 2, 1) := by decide +kernel
theorem dX4_signAt_22 : decode cX4_signAt 22 = .ok (.iadd, 1) := by decide +kernel
theorem dX4_signAt_23 : decode cX4_signAt 23 = .ok (.baload, 1) := by decide +kernel
theorem dX4_signAt_24 : decode cX4_signAt 24 = .ok (.goto 4, 3) := by decide +kernel
theorem dX4_signAt_27 : decode cX4_signAt 27 = .ok (.iconst (-1), 1) := by decide +kernel
theorem dX4_signAt_28 : decode cX4_signAt 28 = .ok (.ireturn, 1) := by decide +kernel
theorem dX4_hasNumber_0 : decode cX4_hasNumber 0 = .ok (.aload_n 0, 1) := by decide +kernel
theorem dX4_hasNumber_1 : decode cX4_hasNumber 1 = .ok (.aload_n 0, 1) := by decide +kernel
theorem dX4_hasNumber_2 : decode cX4_hasNumber 2 = .ok (.iload_n 1, 1) := by decide +kernel
theorem dX4_hasNumber_3 : decode cX4_hasNumber 3 = .ok (.invokevirtual 34, 3) := by decide +kernel
theorem dX4_hasNumber_6 : decode cX4_hasNumber 6 = .ok (.invokevirtual 37, 3) := by decide +kernel
theorem dX4_hasNumber_9 : decode cX4_hasNumber 9 = .ok (.iload_n 1, 1) := by decide +kernel
theorem dX4_hasNumber_10 : decode cX4_hasNumber 10 = .ok (.if_icmp .ne 7, 3) := by decide +kernel
theorem dX4_hasNumber_13 : decode cX4_hasNumber 13 = .ok (.iconst 1, 1) := by decide +kernel
theorem dX4_hasNumber_14 : decode cX4_hasNumber 14 = .ok (.goto 4, 3) := by decide +kernel
theorem dX4_hasNumber_17 : decode cX4_hasNumber 17 = .ok (.iconst 0, 1) := by decide +kernel
theorem dX4_hasNumber_18 : decode cX4_hasNumber 18 = .ok (.ireturn, 1) := by decide +kernel
theorem dX4_isAlike_0 : decode cX4_isAlike 0 = .ok (.aload_n 0, 1) := by decide +kernel
theorem dX4_isAlike_1 : decode cX4_isAlike 1 = .ok (.iload_n 1, 1) := by decide +kernel
theorem dX4_isAlike_2 : decode cX4_isAlike 2 = .ok (.invokevirtual 26, 3) := by decide +kernel
theorem dX4_isAlike_5 : decode cX4_isAlike 5 = .ok (.ifCond .eq 26, 3) := by decide +kernel
theorem dX4_isAlike_8 : decode cX4_isAlike 8 = .ok (.aload_n 2, 1) := by decide +kernel
theorem dX4_isAlike_9 : decode cX4_isAlike 9 = .ok (.iload_n 3, 1) := by decide +kernel
theorem dX4_isAlike_10 : decode cX4_isAlike 10 = .ok (.invokevirtual 26, 3) := by decide +kernel
theorem dX4_isAlike_13 : decode cX4_isAlike 13 = .ok (.ifCond .eq 18, 3) := by decide +kernel
theorem dX4_isAlike_16 : decode cX4_isAlike 16 = .ok (.aload_n 0, 1) := by decide +kernel
theorem dX4_isAlike_17 : decode cX4_isAlike 17 = .ok (.getfield 15, 3) := by decide +kernel
theorem dX4_isAlike_20 : decode cX4_isAlike 20 = .ok (.iload_n 1, 1) := by decide +kernel
theorem dX4_isAlike_21 : decode cX4_isAlike 21 = .ok (.iaload, 1) := by decide +kernel
theorem dX4_isAlike_22 : decode cX4_isAlike 22 = .ok (.aload_n 2, 1) := by decide +kernel
theorem dX4_isAlike_23 : decode cX4_isAlike 23 = .ok (.getfield 15, 3) := by decide +kernel
theorem dX4_isAlike_26 : decode cX4_isAlike 26 = .ok (.iload_n 3, 1) := by decide +kernel
theorem dX4_isAlike_27 : decode cX4_isAlike 27 = .ok (.iaload, 1) := by decide +kernel
theorem dX4_isAlike_28 : decode cX4_isAlike 28 = .ok (.if_icmp .eq 5, 3) := by decide +kernel
theorem dX4_isAlike_31 : decode cX4_isAlike 31 = .ok (.iconst 0, 1) := by decide +kernel
theorem dX4_isAlike_32 : decode cX4_isAlike 32 = .ok (.ireturn, 1) := by decide +kernel
theorem dX4_isAlike_33 : decode cX4_isAlike 33 = .ok (.iload_n 1, 1) := by decide +kernel
theorem dX4_isAlike_34 : decode cX4_isAlike 34 = .ok (.bipush 10, 2) := by decide +kernel
theorem dX4_isAlike_36 : decode cX4_isAlike 36 = .ok (.imul, 1) := by decide +kernel
theorem dX4_isAlike_37 : decode cX4_isAlike 37 = .ok (.istore 4, 2) := by decide +kernel
theorem dX4_isAlike_39 : decode cX4_isAlike 39 = .ok (.iload_n 3, 1) := by decide +kernel
theorem dX4_isAlike_40 : decode cX4_isAlike 40 = .ok (.bipush 10, 2) := by decide +kernel
theorem dX4_isAlike_42 : decode cX4_isAlike 42 = .ok (.imul, 1) := by decide +kernel
theorem dX4_isAlike_43 : decode cX4_isAlike 43 = .ok (.istore 5, 2) := by decide +kernel
theorem dX4_isAlike_45 : decode cX4_isAlike 45 = .ok (.iconst 0, 1) := by decide +kernel
theorem dX4_isAlike_46 : decode cX4_isAlike 46 = .ok (.istore 6, 2) := by decide +kernel
theorem dX4_isAlike_48 : decode cX4_isAlike 48 = .ok (.iload 6, 2) := by decide +kernel
theorem dX4_isAlike_50 : decode cX4_isAlike 50 = .ok (.aload_n 0, 1) := by decide +kernel
theorem dX4_isAlike_51 : decode cX4_isAlike 51 = .ok (.getfield 15, 3) := by decide +kernel
theorem dX4_isAlike_54 : decode cX4_isAlike 54 = .ok (.iload_n 1, 1) := by decide +kernel
theorem dX4_isAlike_55 : decode cX4_isAlike 55 = .ok (.iaload, 1) := by decide +kernel
theorem dX4_isAlike_56 : decode cX4_isAlike 56 = .ok (.if_icmp .ge 34, 3) := by decide +kernel
theorem dX4_isAlike_59 : decode cX4_isAlike 59 = .ok (.aload_n 0, 1) := by decide +kernel
theorem dX4_isAlike_60 : decode cX4_isAlike 60 = .ok (.getfield 18, 3) := by decide +kernel
theorem dX4_isAlike_63 : decode cX4_isAlike 63 = .ok (.iload 4, 2) := by decide +kernel
theorem dX4_isAlike_65 : decode cX4_isAlike 65 = .ok (.iload 6, 2) := by decide +kernel
theorem dX4_isAlike_67 : decode cX4_isAlike 67 = .ok (.iadd, 1) := by decide +kernel
theorem dX4_isAlike_68 : decode cX4_isAlike 68 = .ok (.baload, 1) := by decide +kernel
theorem dX4_isAlike_69 : decode cX4_isAlike 69 = .ok (.aload_n 2, 1) := by decide +kernel
theorem dX4_isAlike_70 : decode cX4_isAlike 70 = .ok (.getfield 18, 3) := by decide +kernel
theorem dX4_isAlike_73 : decode cX4_isAlike 73 = .ok (.iload 5, 2) := by decide +kernel
theorem dX4_isAlike_75 : decode cX4_isAlike 75 = .ok (.iload 6, 2) := by decide +kernel
theorem dX4_isAlike_77 : decode cX4_isAlike 77 = .ok (.iadd, 1) := by decide +kernel
theorem dX4_isAlike_78 : decode cX4_isAlike 78 = .ok (.baload, 1) := by decide +kernel
theorem dX4_isAlike_79 : decode cX4_isAlike 79 = .ok (.if_icmp .eq 5, 3) := by decide +kernel
theorem dX4_isAlike_82 : decode cX4_isAlike 82 = .ok (.iconst 0, 1) := by decide +kernel
theorem dX4_isAlike_83 : decode cX4_isAlike 83 = .ok (.ireturn, 1) := by decide +kernel
theorem dX4_isAlike_84 : decode cX4_isAlike 84 = .ok (.iinc 6 1, 3) := by decide +kernel
theorem dX4_isAlike_87 : decode cX4_isAlike 87 = .ok (.goto (-39), 3) := by decide +kernel
theorem dX4_isAlike_90 : decode cX4_isAlike 90 = .ok (.iconst 1, 1) := by decide +kernel
theorem dX4_isAlike_91 : decode cX4_isAlike 91 = .ok (.ireturn, 1) := by decide +kernel
theorem dX4_addSignTo_0 : decode cX4_addSignTo 0 = .ok (.aload_n 0, 1) := by decide +kernel
theorem dX4_addSignTo_1 : decode cX4_addSignTo 1 = .ok (.iload_n 1, 1) := by decide +kernel
theorem dX4_addSignTo_2 : decode cX4_addSignTo 2 = .ok (.invokevirtual 34, 3) := by decide +kernel
theorem dX4_addSignTo_5 : decode cX4_addSignTo 5 = .ok (.istore_n 3, 1) := by decide +kernel
theorem dX4_addSignTo_6 : decode cX4_addSignTo 6 = .ok (.aload_n 0, 1) := by decide +kernel
theorem dX4_addSignTo_7 : decode cX4_addSignTo 7 = .ok (.iload_n 3, 1) := by decide +kernel
theorem dX4_addSignTo_8 : decode cX4_addSignTo 8 = .ok (.invokevirtual 37, 3) := by decide +kernel
theorem dX4_addSignTo_11 : decode cX4_addSignTo 11 = .ok (.iload_n 1, 1) := by decide +kernel
theorem dX4_addSignTo_12 : decode cX4_addSignTo 12 = .ok (.if_icmp .eq 13, 3) := by decide +kernel
theorem dX4_addSignTo_15 : decode cX4_addSignTo 15 = .ok (.aload_n 0, 1) := by decide +kernel
theorem dX4_addSignTo_16 : decode cX4_addSignTo 16 = .ok (.iload_n 3, 1) := by decide +kernel
theorem dX4_addSignTo_17 : decode cX4_addSignTo 17 = .ok (.iload_n 1, 1) := by decide +kernel
theorem dX4_addSignTo_18 : decode cX4_addSignTo 18 = .ok (.invokevirtual 40, 3) := by decide +kernel
theorem dX4_addSignTo_21 : decode cX4_addSignTo 21 = .ok (.ifCond .ne 4, 3) := by decide +kernel
theorem dX4_addSignTo_24 : decode cX4_addSignTo 24 = .ok (.return_, 1) := by decide +kernel
theorem dX4_addSignTo_25 : decode cX4_addSignTo 25 = .ok (.aload_n 0, 1) := by decide +kernel
theorem dX4_addSignTo_26 : decode cX4_addSignTo 26 = .ok (.iload_n 3, 1) := by decide +kernel
theorem dX4_addSignTo_27 : decode cX4_addSignTo 27 = .ok (.iload_n 2, 1) := by decide +kernel
theorem dX4_addSignTo_28 : decode cX4_addSignTo 28 = .ok (.invokevirtual 44, 3) := by decide +kernel
theorem dX4_addSignTo_31 : decode cX4_addSignTo 31 = .ok (.return_, 1) := by decide +kernel
theorem dX4_addSignAt_0 : decode cX4_addSignAt 0 = .ok (.aload_n 0, 1) := by decide +kernel
theorem dX4_addSignAt_1 : decode cX4_addSignAt 1 = .ok (.iload_n 1, 1) := by decide +kernel
theorem dX4_addSignAt_2 : decode cX4_addSignAt 2 = .ok (.invokevirtual 26, 3) := by decide +kernel
theorem dX4_addSignAt_5 : decode cX4_addSignAt 5 = .ok (.ifCond .eq 42, 3) := by decide +kernel
theorem dX4_addSignAt_8 : decode cX4_addSignAt 8 = .ok (.aload_n 0, 1) := by decide +kernel
theorem dX4_addSignAt_9 : decode cX4_addSignAt 9 = .ok (.getfield 15, 3) := by decide +kernel
theorem dX4_addSignAt_12 : decode cX4_addSignAt 12 = .ok (.iload_n 1, 1) := by decide +kernel
theorem dX4_addSignAt_13 : decode cX4_addSignAt 13 = .ok (.iaload, 1) := by decide +kernel
theorem dX4_addSignAt_14 : decode cX4_addSignAt 14 = .ok (.bipush 10, 2) := by decide +kernel
theorem dX4_addSignAt_16 : decode cX4_addSignAt 16 = .ok (.if_icmp .ge 31, 3) := by decide +kernel
theorem dX4_addSignAt_19 : decode cX4_addSignAt 19 = .ok (.aload_n 0, 1) := by decide +kernel
theorem dX4_addSignAt_20 : decode cX4_addSignAt 20 = .ok (.getfield 18, 3) := by decide +kernel
theorem dX4_addSignAt_23 : decode cX4_addSignAt 23 = .ok (.iload_n 1, 1) := by decide +kernel
theorem dX4_addSignAt_24 : decode cX4_addSignAt 24 = .ok (.bipush 10, 2) := by decide +kernel
theorem dX4_addSignAt_26 : decode cX4_addSignAt 26 = .ok (.imul, 1) := by decide +kernel
theorem dX4_addSignAt_27 : decode cX4_addSignAt 27 = .ok (.aload_n 0, 1) := by decide +kernel
theorem dX4_addSignAt_28 : decode cX4_addSignAt 28 = .ok (.getfield 15, 3) := by decide +kernel
theorem dX4_addSignAt_31 : decode cX4_addSignAt 31 = .ok (.iload_n 1, 1) := by decide +kernel
theorem dX4_addSignAt_32 : decode cX4_addSignAt 32 = .ok (.iaload, 1) := by decide +kernel
theorem dX4_addSignAt_33 : decode cX4_addSignAt 33 = .ok (.iadd, 1) := by decide +kernel
theorem dX4_addSignAt_34 : decode cX4_addSignAt 34 = .ok (.iload_n 2, 1) := by decide +kernel
theorem dX4_addSignAt_35 : decode cX4_addSignAt 35 = .ok (.i2b, 1) := by decide +kernel
theorem dX4_addSignAt_36 : decode cX4_addSignAt 36 = .ok (.bastore, 1) := by decide +kernel
theorem dX4_addSignAt_37 : decode cX4_addSignAt 37 = .ok (.aload_n 0, 1) := by decide +kernel
theorem dX4_addSignAt_38 : decode cX4_addSignAt 38 = .ok (.getfield 15, 3) := by decide +kernel
theorem dX4_addSignAt_41 : decode cX4_addSignAt 41 = .ok (.iload_n 1, 1) := by decide +kernel
theorem dX4_addSignAt_42 : decode cX4_addSignAt 42 = .ok (.dup2, 1) := by decide +kernel
theorem dX4_addSignAt_43 : decode cX4_addSignAt 43 = .ok (.iaload, 1) := by decide +kernel
theorem dX4_addSignAt_44 : decode cX4_addSignAt 44 = .ok (.iconst 1, 1) := by decide +kernel
theorem dX4_addSignAt_45 : decode cX4_addSignAt 45 = .ok (.iadd, 1) := by decide +kernel
theorem dX4_addSignAt_46 : decode cX4_addSignAt 46 = .ok (.iastore, 1) := by decide +kernel
theorem dX4_addSignAt_47 : decode cX4_addSignAt 47 = .ok (.return_, 1) := by decide +kernel
theorem dX4_openAtEnd_0 : decode cX4_openAtEnd 0 = .ok (.aload_n 0, 1) := by decide +kernel
theorem dX4_openAtEnd_1 : decode cX4_openAtEnd 1 = .ok (.aload_n 0, 1) := by decide +kernel
theorem dX4_openAtEnd_2 : decode cX4_openAtEnd 2 = .ok (.getfield 22, 3) := by decide +kernel
theorem dX4_openAtEnd_5 : decode cX4_openAtEnd 5 = .ok (.iload_n 1, 1) := by decide +kernel
theorem dX4_openAtEnd_6 : decode cX4_openAtEnd 6 = .ok (.invokevirtual 40, 3) := by decide +kernel
theorem dX4_openAtEnd_9 : decode cX4_openAtEnd 9 = .ok (.ireturn, 1) := by decide +kernel
theorem dX4_put_0 : decode cX4_put 0 = .ok (.aload_n 1, 1) := by decide +kernel
theorem dX4_put_1 : decode cX4_put 1 = .ok (.iload_n 2, 1) := by decide +kernel
theorem dX4_put_2 : decode cX4_put 2 = .ok (.invokevirtual 26, 3) := by decide +kernel
theorem dX4_put_5 : decode cX4_put 5 = .ok (.ifCond .ne 4, 3) := by decide +kernel
theorem dX4_put_8 : decode cX4_put 8 = .ok (.return_, 1) := by decide +kernel
theorem dX4_put_9 : decode cX4_put 9 = .ok (.aload_n 1, 1) := by decide +kernel
theorem dX4_put_10 : decode cX4_put 10 = .ok (.iload_n 2, 1) := by decide +kernel
theorem dX4_put_11 : decode cX4_put 11 = .ok (.invokevirtual 37, 3) := by decide +kernel
theorem dX4_put_14 : decode cX4_put 14 = .ok (.istore_n 3, 1) := by decide +kernel
theorem dX4_put_15 : decode cX4_put 15 = .ok (.aload_n 0, 1) := by decide +kernel
theorem dX4_put_16 : decode cX4_put 16 = .ok (.iload_n 3, 1) := by decide +kernel
theorem dX4_put_17 : decode cX4_put 17 = .ok (.invokevirtual 34, 3) := by decide +kernel
theorem dX4_put_20 : decode cX4_put 20 = .ok (.istore 4, 2) := by decide +kernel
theorem dX4_put_22 : decode cX4_put 22 = .ok (.aload_n 0, 1) := by decide +kernel
theorem dX4_put_23 : decode cX4_put 23 = .ok (.iload 4, 2) := by decide +kernel
theorem dX4_put_25 : decode cX4_put 25 = .ok (.invokevirtual 37, 3) := by decide +kernel
theorem dX4_put_28 : decode cX4_put 28 = .ok (.iload_n 3, 1) := by decide +kernel
theorem dX4_put_29 : decode cX4_put 29 = .ok (.if_icmp .eq 14, 3) := by decide +kernel
theorem dX4_put_32 : decode cX4_put 32 = .ok (.aload_n 0, 1) := by decide +kernel
theorem dX4_put_33 : decode cX4_put 33 = .ok (.iload 4, 2) := by decide +kernel
theorem dX4_put_35 : decode cX4_put 35 = .ok (.iload_n 3, 1) := by decide +kernel
theorem dX4_put_36 : decode cX4_put 36 = .ok (.invokevirtual 40, 3) := by decide +kernel
theorem dX4_put_39 : decode cX4_put 39 = .ok (.ifCond .ne 4, 3) := by decide +kernel
theorem dX4_put_42 : decode cX4_put 42 = .ok (.return_, 1) := by decide +kernel
theorem dX4_put_43 : decode cX4_put 43 = .ok (.aload_n 1, 1) := by decide +kernel
theorem dX4_put_44 : decode cX4_put 44 = .ok (.iload_n 2, 1) := by decide +kernel
theorem dX4_put_45 : decode cX4_put 45 = .ok (.invokevirtual 30, 3) := by decide +kernel
theorem dX4_put_48 : decode cX4_put 48 = .ok (.istore 5, 2) := by decide +kernel
theorem dX4_put_50 : decode cX4_put 50 = .ok (.aload_n 1, 1) := by decide +kernel
theorem dX4_put_51 : decode cX4_put 51 = .ok (.getfield 18, 3) := by decide +kernel
theorem dX4_put_54 : decode cX4_put 54 = .ok (.iload_n 2, 1) := by decide +kernel
theorem dX4_put_55 : decode cX4_put 55 = .ok (.bipush 10, 2) := by decide +kernel
theorem dX4_put_57 : decode cX4_put 57 = .ok (.imul, 1) := by decide +kernel
theorem dX4_put_58 : decode cX4_put 58 = .ok (.aload_n 0, 1) := by decide +kernel
theorem dX4_put_59 : decode cX4_put 59 = .ok (.getfield 18, 3) := by decide +kernel
theorem dX4_put_62 : decode cX4_put 62 = .ok (.iload 4, 2) := by decide +kernel
theorem dX4_put_64 : decode cX4_put 64 = .ok (.bipush 10, 2) := by decide +kernel
theorem dX4_put_66 : decode cX4_put 66 = .ok (.imul, 1) := by decide +kernel
theorem dX4_put_67 : decode cX4_put 67 = .ok (.iload 5, 2) := by decide +kernel
theorem dX4_put_69 : decode cX4_put 69 = .ok (.invokestatic 48, 3) := by decide +kernel
theorem dX4_put_72 : decode cX4_put 72 = .ok (.aload_n 0, 1) := by decide +kernel
theorem dX4_put_73 : decode cX4_put 73 = .ok (.getfield 15, 3) := by decide +kernel
theorem dX4_put_76 : decode cX4_put 76 = .ok (.iload 4, 2) := by decide +kernel
theorem dX4_put_78 : decode cX4_put 78 = .ok (.iload 5, 2) := by decide +kernel
theorem dX4_put_80 : decode cX4_put 80 = .ok (.iastore, 1) := by decide +kernel
theorem dX4_put_81 : decode cX4_put 81 = .ok (.return_, 1) := by decide +kernel
theorem dX4_removeNumber_0 : decode cX4_removeNumber 0 = .ok (.aload_n 0, 1) := by decide +kernel
theorem dX4_removeNumber_1 : decode cX4_removeNumber 1 = .ok (.iload_n 1, 1) := by decide +kernel
theorem dX4_removeNumber_2 : decode cX4_removeNumber 2 = .ok (.invokevirtual 34, 3) := by decide +kernel
theorem dX4_removeNumber_5 : decode cX4_removeNumber 5 = .ok (.istore_n 2, 1) := by decide +kernel
theorem dX4_removeNumber_6 : decode cX4_removeNumber 6 = .ok (.aload_n 0, 1) := by decide +kernel
theorem dX4_removeNumber_7 : decode cX4_removeNumber 7 = .ok (.iload_n 2, 1) := by decide +kernel
theorem dX4_removeNumber_8 : decode cX4_removeNumber 8 = .ok (.invokevirtual 37, 3) := by decide +kernel
theorem dX4_removeNumber_11 : decode cX4_removeNumber 11 = .ok (.iload_n 1, 1) := by decide +kernel
theorem dX4_removeNumber_12 : decode cX4_removeNumber 12 = .ok (.if_icmp .ne 21, 3) := by decide +kernel
theorem dX4_removeNumber_15 : decode cX4_removeNumber 15 = .ok (.aload_n 0, 1) := by decide +kernel
theorem dX4_removeNumber_16 : decode cX4_removeNumber 16 = .ok (.iload_n 2, 1) := by decide +kernel
theorem dX4_removeNumber_17 : decode cX4_removeNumber 17 = .ok (.iconst 1, 1) := by decide +kernel
theorem dX4_removeNumber_18 : decode cX4_removeNumber 18 = .ok (.iadd, 1) := by decide +kernel
theorem dX4_removeNumber_19 : decode cX4_removeNumber 19 = .ok (.iload_n 2, 1) := by decide +kernel
theorem dX4_removeNumber_20 : decode cX4_removeNumber 20 = .ok (.invokevirtual 54, 3) := by decide +kernel
theorem dX4_removeNumber_23 : decode cX4_removeNumber 23 = .ok (.aload_n 0, 1) := by decide +kernel
theorem dX4_removeNumber_24 : decode cX4_removeNumber 24 = .ok (.dup, 1) := by decide +kernel
theorem dX4_removeNumber_25 : decode cX4_removeNumber 25 = .ok (.getfield 22, 3) := by decide +kernel
theorem dX4_removeNumber_28 : decode cX4_removeNumber 28 = .ok (.iconst 1, 1) := by decide +kernel
theorem dX4_removeNumber_29 : decode cX4_removeNumber 29 = .ok (.isub, 1) := by decide +kernel
theorem dX4_removeNumber_30 : decode cX4_removeNumber 30 = .ok (.putfield 22, 3) := by decide +kernel
theorem dX4_removeNumber_33 : decode cX4_removeNumber 33 = .ok (.return_, 1) := by decide +kernel
theorem dX4_takeAll_0 : decode cX4_takeAll 0 = .ok (.aload_n 1, 1) := by decide +kernel
theorem dX4_takeAll_1 : decode cX4_takeAll 1 = .ok (.getfield 9, 3) := by decide +kernel
theorem dX4_takeAll_4 : decode cX4_takeAll 4 = .ok (.iconst 0, 1) := by decide +kernel
theorem dX4_takeAll_5 : decode cX4_takeAll 5 = .ok (.aload_n 0, 1) := by decide +kernel
theorem dX4_takeAll_6 : decode cX4_takeAll 6 = .ok (.getfield 9, 3) := by decide +kernel
theorem dX4_takeAll_9 : decode cX4_takeAll 9 = .ok (.iconst 0, 1) := by decide +kernel
theorem dX4_takeAll_10 : decode cX4_takeAll 10 = .ok (.aload_n 1, 1) := by decide +kernel
theorem dX4_takeAll_11 : decode cX4_takeAll 11 = .ok (.getfield 22, 3) := by decide +kernel
theorem dX4_takeAll_14 : decode cX4_takeAll 14 = .ok (.invokestatic 48, 3) := by decide +kernel
theorem dX4_takeAll_17 : decode cX4_takeAll 17 = .ok (.aload_n 1, 1) := by decide +kernel
theorem dX4_takeAll_18 : decode cX4_takeAll 18 = .ok (.getfield 15, 3) := by decide +kernel
theorem dX4_takeAll_21 : decode cX4_takeAll 21 = .ok (.iconst 0, 1) := by decide +kernel
theorem dX4_takeAll_22 : decode cX4_takeAll 22 = .ok (.aload_n 0, 1) := by decide +kernel
theorem dX4_takeAll_23 : decode cX4_takeAll 23 = .ok (.getfield 15, 3) := by decide +kernel
theorem dX4_takeAll_26 : decode cX4_takeAll 26 = .ok (.iconst 0, 1) := by decide +kernel
theorem dX4_takeAll_27 : decode cX4_takeAll 27 = .ok (.aload_n 1, 1) := by decide +kernel
theorem dX4_takeAll_28 : decode cX4_takeAll 28 = .ok (.getfield 22, 3) := by decide +kernel
theorem dX4_takeAll_31 : decode cX4_takeAll 31 = .ok (.invokestatic 48, 3) := by decide +kernel
theorem dX4_takeAll_34 : decode cX4_takeAll 34 = .ok (.aload_n 1, 1) := by decide +kernel
theorem dX4_takeAll_35 : decode cX4_takeAll 35 = .ok (.getfield 18, 3) := by decide +kernel
theorem dX4_takeAll_38 : decode cX4_takeAll 38 = .ok (.iconst 0, 1) := by decide +kernel
theorem dX4_takeAll_39 : decode cX4_takeAll 39 = .ok (.aload_n 0, 1) := by decide +kernel
theorem dX4_takeAll_40 : decode cX4_takeAll 40 = .ok (.getfield 18, 3) := by decide +kernel
theorem dX4_takeAll_43 : decode cX4_takeAll 43 = .ok (.iconst 0, 1) := by decide +kernel
theorem dX4_takeAll_44 : decode cX4_takeAll 44 = .ok (.aload_n 1, 1) := by decide +kernel
theorem dX4_takeAll_45 : decode cX4_takeAll 45 = .ok (.getfield 22, 3) := by decide +kernel
theorem dX4_takeAll_48 : decode cX4_takeAll 48 = .ok (.bipush 10, 2) := by decide +kernel
theorem dX4_takeAll_50 : decode cX4_takeAll 50 = .ok (.imul, 1) := by decide +kernel
theorem dX4_takeAll_51 : decode cX4_takeAll 51 = .ok (.invokestatic 48, 3) := by decide +kernel
theorem dX4_takeAll_54 : decode cX4_takeAll 54 = .ok (.aload_n 0, 1) := by decide +kernel
theorem dX4_takeAll_55 : decode cX4_takeAll 55 = .ok (.aload_n 1, 1) := by decide +kernel
theorem dX4_takeAll_56 : decode cX4_takeAll 56 = .ok (.getfield 22, 3) := by decide +kernel
theorem dX4_takeAll_59 : decode cX4_takeAll 59 = .ok (.putfield 22, 3) := by decide +kernel
theorem dX4_takeAll_62 : decode cX4_takeAll 62 = .ok (.return_, 1) := by decide +kernel
theorem dX4_placeFor_0 : decode cX4_placeFor 0 = .ok (.iconst 0, 1) := by decide +kernel
theorem dX4_placeFor_1 : decode cX4_placeFor 1 = .ok (.istore_n 2, 1) := by decide +kernel
theorem dX4_placeFor_2 : decode cX4_placeFor 2 = .ok (.iload_n 2, 1) := by decide +kernel
theorem dX4_placeFor_3 : decode cX4_placeFor 3 = .ok (.aload_n 0, 1) := by decide +kernel
theorem dX4_placeFor_4 : decode cX4_placeFor 4 = .ok (.getfield 22, 3) := by decide +kernel
theorem dX4_placeFor_7 : decode cX4_placeFor 7 = .ok (.if_icmp .ge 19, 3) := by decide +kernel
theorem dX4_placeFor_10 : decode cX4_placeFor 10 = .ok (.aload_n 0, 1) := by decide +kernel
theorem dX4_placeFor_11 : decode cX4_placeFor 11 = .ok (.getfield 9, 3) := by decide +kernel
theorem dX4_placeFor_14 : decode cX4_placeFor 14 = .ok (.iload_n 2, 1) := by decide +kernel
theorem dX4_placeFor_15 : decode cX4_placeFor 15 = .ok (.iaload, 1) := by decide +kernel
theorem dX4_placeFor_16 : decode cX4_placeFor 16 = .ok (.iload_n 1, 1) := by decide +kernel
theorem dX4_placeFor_17 : decode cX4_placeFor 17 = .ok (.if_icmp .ge 9, 3) := by decide +kernel
theorem dX4_placeFor_20 : decode cX4_placeFor 20 = .ok (.iinc 2 1, 3) := by decide +kernel
theorem dX4_placeFor_23 : decode cX4_placeFor 23 = .ok (.goto (-21), 3) := by decide +kernel
theorem dX4_placeFor_26 : decode cX4_placeFor 26 = .ok (.iload_n 2, 1) := by decide +kernel
theorem dX4_placeFor_27 : decode cX4_placeFor 27 = .ok (.ireturn, 1) := by decide +kernel
theorem dX4_openAt_0 : decode cX4_openAt 0 = .ok (.aload_n 0, 1) := by decide +kernel
theorem dX4_openAt_1 : decode cX4_openAt 1 = .ok (.getfield 22, 3) := by decide +kernel
theorem dX4_openAt_4 : decode cX4_openAt 4 = .ok (.bipush 30, 2) := by decide +kernel
theorem dX4_openAt_6 : decode cX4_openAt 6 = .ok (.if_icmp .ge 15, 3) := by decide +kernel
theorem dX4_openAt_9 : decode cX4_openAt 9 = .ok (.iload_n 1, 1) := by decide +kernel
theorem dX4_openAt_10 : decode cX4_openAt 10 = .ok (.ifCond .lt 11, 3) := by decide +kernel
theorem dX4_openAt_13 : decode cX4_openAt 13 = .ok (.iload_n 1, 1) := by decide +kernel
theorem dX4_openAt_14 : decode cX4_openAt 14 = .ok (.aload_n 0, 1) := by decide +kernel
theorem dX4_openAt_15 : decode cX4_openAt 15 = .ok (.getfield 22, 3) := by decide +kernel
theorem dX4_openAt_18 : decode cX4_openAt 18 = .ok (.if_icmp .le 5, 3) := by decide +kernel
theorem dX4_openAt_21 : decode cX4_openAt 21 = .ok (.iconst 0, 1) := by decide +kernel
theorem dX4_openAt_22 : decode cX4_openAt 22 = .ok (.ireturn, 1) := by decide +kernel
theorem dX4_openAt_23 : decode cX4_openAt 23 = .ok (.aload_n 0, 1) := by decide +kernel
theorem dX4_openAt_24 : decode cX4_openAt 24 = .ok (.iload_n 1, 1) := by decide +kernel
theorem dX4_openAt_25 : decode cX4_openAt 25 = .ok (.iload_n 1, 1) := by decide +kernel
theorem dX4_openAt_26 : decode cX4_openAt 26 = .ok (.iconst 1, 1) := by decide +kernel
theorem dX4_openAt_27 : decode cX4_openAt 27 = .ok (.iadd, 1) := by decide +kernel
theorem dX4_openAt_28 : decode cX4_openAt 28 = .ok (.invokevirtual 54, 3) := by decide +kernel
theorem dX4_openAt_31 : decode cX4_openAt 31 = .ok (.aload_n 0, 1) := by decide +kernel
theorem dX4_openAt_32 : decode cX4_openAt 32 = .ok (.getfield 9, 3) := by decide +kernel
theorem dX4_openAt_35 : decode cX4_openAt 35 = .ok (.iload_n 1, 1) := by decide +kernel
theorem dX4_openAt_36 : decode cX4_openAt 36 = .ok (.iload_n 2, 1) := by decide +kernel
theorem dX4_openAt_37 : decode cX4_openAt 37 = .ok (.iastore, 1) := by decide +kernel
theorem dX4_openAt_38 : decode cX4_openAt 38 = .ok (.aload_n 0, 1) := by decide +kernel
theorem dX4_openAt_39 : decode cX4_openAt 39 = .ok (.getfield 15, 3) := by decide +kernel
theorem dX4_openAt_42 : decode cX4_openAt 42 = .ok (.iload_n 1, 1) := by decide +kernel
theorem dX4_openAt_43 : decode cX4_openAt 43 = .ok (.iconst 0, 1) := by decide +kernel
theorem dX4_openAt_44 : decode cX4_openAt 44 = .ok (.iastore, 1) := by decide +kernel
theorem dX4_openAt_45 : decode cX4_openAt 45 = .ok (.aload_n 0, 1) := by decide +kernel
theorem dX4_openAt_46 : decode cX4_openAt 46 = .ok (.dup, 1) := by decide +kernel
theorem dX4_openAt_47 : decode cX4_openAt 47 = .ok (.getfield 22, 3) := by decide +kernel
theorem dX4_openAt_50 : decode cX4_openAt 50 = .ok (.iconst 1, 1) := by decide +kernel
theorem dX4_openAt_51 : decode cX4_openAt 51 = .ok (.iadd, 1) := by decide +kernel
theorem dX4_openAt_52 : decode cX4_openAt 52 = .ok (.putfield 22, 3) := by decide +kernel
theorem dX4_openAt_55 : decode cX4_openAt 55 = .ok (.iconst 1, 1) := by decide +kernel
theorem dX4_openAt_56 : decode cX4_openAt 56 = .ok (.ireturn, 1) := by decide +kernel
theorem dX4_shift_0 : decode cX4_shift 0 = .ok (.aload_n 0, 1) := by decide +kernel
theorem dX4_shift_1 : decode cX4_shift 1 = .ok (.getfield 22, 3) := by decide +kernel
theorem dX4_shift_4 : decode cX4_shift 4 = .ok (.iload_n 1, 1) := by decide +kernel
theorem dX4_shift_5 : decode cX4_shift 5 = .ok (.isub, 1) := by decide +kernel
theorem dX4_shift_6 : decode cX4_shift 6 = .ok (.istore_n 3, 1) := by decide +kernel
theorem dX4_shift_7 : decode cX4_shift 7 = .ok (.iload_n 3, 1) := by decide +kernel
theorem dX4_shift_8 : decode cX4_shift 8 = .ok (.ifCond .le 54, 3) := by decide +kernel
theorem dX4_shift_11 : decode cX4_shift 11 = .ok (.aload_n 0, 1) := by decide +kernel
theorem dX4_shift_12 : decode cX4_shift 12 = .ok (.getfield 9, 3) := by decide +kernel
theorem dX4_shift_15 : decode cX4_shift 15 = .ok (.iload_n 1, 1) := by decide +kernel
theorem dX4_shift_16 : decode cX4_shift 16 = .ok (.aload_n 0, 1) := by decide +kernel
theorem dX4_shift_17 : decode cX4_shift 17 = .ok (.getfield 9, 3) := by decide +kernel
theorem dX4_shift_20 : decode cX4_shift 20 = .ok (.iload_n 2, 1) := by decide +kernel
theorem dX4_shift_21 : decode cX4_shift 21 = .ok (.iload_n 3, 1) := by decide +kernel
theorem dX4_shift_22 : decode cX4_shift 22 = .ok (.invokestatic 48, 3) := by decide +kernel
theorem dX4_shift_25 : decode cX4_shift 25 = .ok (.aload_n 0, 1) := by decide +kernel
theorem dX4_shift_26 : decode cX4_shift 26 = .ok (.getfield 15, 3) := by decide +kernel
theorem dX4_shift_29 : decode cX4_shift 29 = .ok (.iload_n 1, 1) := by decide +kernel
theorem dX4_shift_30 : decode cX4_shift 30 = .ok (.aload_n 0, 1) := by decide +kernel
theorem dX4_shift_31 : decode cX4_shift 31 = .ok (.getfield 15, 3) := by decide +kernel
theorem dX4_shift_34 : decode cX4_shift 34 = .ok (.iload_n 2, 1) := by decide +kernel
theorem dX4_shift_35 : decode cX4_shift 35 = .ok (.iload_n 3, 1) := by decide +kernel
theorem dX4_shift_36 : decode cX4_shift 36 = .ok (.invokestatic 48, 3) := by decide +kernel
theorem dX4_shift_39 : decode cX4_shift 39 = .ok (.aload_n 0, 1) := by decide +kernel
theorem dX4_shift_40 : decode cX4_shift 40 = .ok (.getfield 18, 3) := by decide +kernel
theorem dX4_shift_43 : decode cX4_shift 43 = .ok (.iload_n 1, 1) := by decide +kernel
theorem dX4_shift_44 : decode cX4_shift 44 = .ok (.bipush 10, 2) := by decide +kernel
theorem dX4_shift_46 : decode cX4_shift 46 = .ok (.imul, 1) := by decide +kernel
theorem dX4_shift_47 : decode cX4_shift 47 = .ok (.aload_n 0, 1) := by decide +kernel
theorem dX4_shift_48 : decode cX4_shift 48 = .ok (.getfield 18, 3) := by decide +kernel
theorem dX4_shift_51 : decode cX4_shift 51 = .ok (.iload_n 2, 1) := by decide +kernel
theorem dX4_shift_52 : decode cX4_shift 52 = .ok (.bipush 10, 2) := by decide +kernel
theorem dX4_shift_54 : decode cX4_shift 54 = .ok (.imul, 1) := by decide +kernel
theorem dX4_shift_55 : decode cX4_shift 55 = .ok (.iload_n 3, 1) := by decide +kernel
theorem dX4_shift_56 : decode cX4_shift 56 = .ok (.bipush 10, 2) := by decide +kernel
theorem dX4_shift_58 : decode cX4_shift 58 = .ok (.imul, 1) := by decide +kernel
theorem dX4_shift_59 : decode cX4_shift 59 = .ok (.invokestatic 48, 3) := by decide +kernel
theorem dX4_shift_62 : decode cX4_shift 62 = .ok (.return_, 1) := by decide +kernel
theorem dX5_init_0 : decode cX5_init 0 = .ok (.aload_n 0, 1) := by decide +kernel
theorem dX5_init_1 : decode cX5_init 1 = .ok (.invokespecial 3, 3) := by decide +kernel
theorem dX5_init_4 : decode cX5_init 4 = .ok (.aload_n 0, 1) := by decide +kernel
theorem dX5_init_5 : decode cX5_init 5 = .ok (.sipush 244, 3) := by decide +kernel
theorem dX5_init_8 : decode cX5_init 8 = .ok (.newarray .byte, 2) := by decide +kernel
theorem dX5_init_10 : decode cX5_init 10 = .ok (.putfield 9, 3) := by decide +kernel
theorem dX5_init_13 : decode cX5_init 13 = .ok (.return_, 1) := by decide +kernel
theorem dX5_size_0 : decode cX5_size 0 = .ok (.aload_n 0, 1) := by decide +kernel
theorem dX5_size_1 : decode cX5_size 1 = .ok (.getfield 15, 3) := by decide +kernel
theorem dX5_size_4 : decode cX5_size 4 = .ok (.ireturn, 1) := by decide +kernel
theorem dX5_clear_0 : decode cX5_clear 0 = .ok (.aload_n 0, 1) := by decide +kernel
theorem dX5_clear_1 : decode cX5_clear 1 = .ok (.iconst 0, 1) := by decide +kernel
theorem dX5_clear_2 : decode cX5_clear 2 = .ok (.putfield 15, 3) := by decide +kernel
theorem dX5_clear_5 : decode cX5_clear 5 = .ok (.return_, 1) := by decide +kernel
theorem dX5_has_0 : decode cX5_has 0 = .ok (.iload_n 1, 1) := by decide +kernel
theorem dX5_has_1 : decode cX5_has 1 = .ok (.ifCond .lt 15, 3) := by decide +kernel
theorem dX5_has_4 : decode cX5_has 4 = .ok (.iload_n 1, 1) := by decide +kernel
theorem dX5_has_5 : decode cX5_has 5 = .ok (.aload_n 0, 1) := by decide +kernel
theorem dX5_has_6 : decode cX5_has 6 = .ok (.getfield 15, 3) := by decide +kernel
theorem dX5_has_9 : decode cX5_has 9 = .ok (.if_icmp .ge 7, 3) := by decide +kernel
theorem dX5_has_12 : decode cX5_has 12 = .ok (.iconst 1, 1) := by decide +kernel
theorem dX5_has_13 : decode cX5_has 13 = .ok (.goto 4, 3) := by decide +kernel
theorem dX5_has_16 : decode cX5_has 16 = .ok (.iconst 0, 1) := by decide +kernel
theorem dX5_has_17 : decode cX5_has 17 = .ok (.ireturn, 1) := by decide +kernel
theorem dX5_append_0 : decode cX5_append 0 = .ok (.aload_n 0, 1) := by decide +kernel
theorem dX5_append_1 : decode cX5_append 1 = .ok (.getfield 15, 3) := by decide +kernel
theorem dX5_append_4 : decode cX5_append 4 = .ok (.aload_n 0, 1) := by decide +kernel
theorem dX5_append_5 : decode cX5_append 5 = .ok (.getfield 9, 3) := by decide +kernel
theorem dX5_append_8 : decode cX5_append 8 = .ok (.arraylength, 1) := by decide +kernel
theorem dX5_append_9 : decode cX5_append 9 = .ok (.if_icmp .ge 24, 3) := by decide +kernel
theorem dX5_append_12 : decode cX5_append 12 = .ok (.aload_n 0, 1) := by decide +kernel
theorem dX5_append_13 : decode cX5_append 13 = .ok (.getfield 9, 3) := by decide +kernel
theorem dX5_append_16 : decode cX5_append 16 = .ok (.aload_n 0, 1) := by decide +kernel
theorem dX5_append_17 : decode cX5_append 17 = .ok (.getfield 15, 3) := by decide +kernel
theorem dX5_append_20 : decode cX5_append 20 = .ok (.iload_n 1, 1) := by decide +kernel
theorem dX5_append_21 : decode cX5_append 21 = .ok (.i2b, 1) := by decide +kernel
theorem dX5_append_22 : decode cX5_append 22 = .ok (.bastore, 1) := by decide +kernel
theorem dX5_append_23 : decode cX5_append 23 = .ok (.aload_n 0, 1) := by decide +kernel
theorem dX5_append_24 : decode cX5_append 24 = .ok (.dup, 1) := by decide +kernel
theorem dX5_append_25 : decode cX5_append 25 = .ok (.getfield 15, 3) := by decide +kernel
theorem dX5_append_28 : decode cX5_append 28 = .ok (.iconst 1, 1) := by decide +kernel
theorem dX5_append_29 : decode cX5_append 29 = .ok (.iadd, 1) := by decide +kernel
theorem dX5_append_30 : decode cX5_append 30 = .ok (.putfield 15, 3) := by decide +kernel
theorem dX5_append_33 : decode cX5_append 33 = .ok (.return_, 1) := by decide +kernel
theorem dX5_appendWord_0 : decode cX5_appendWord 0 = .ok (.aload_n 0, 1) := by decide +kernel
theorem dX5_appendWord_1 : decode cX5_appendWord 1 = .ok (.iload_n 1, 1) := by decide +kernel
theorem dX5_appendWord_2 : decode cX5_appendWord 2 = .ok (.bipush 24, 2) := by decide +kernel
theorem dX5_appendWord_4 : decode cX5_appendWord 4 = .ok (.iushr, 1) := by decide +kernel
theorem dX5_appendWord_5 : decode cX5_appendWord 5 = .ok (.invokevirtual 19, 3) := by decide +kernel
theorem dX5_appendWord_8 : decode cX5_appendWord 8 = .ok (.aload_n 0, 1) := by decide +kernel
theorem dX5_appendWord_9 : decode cX5_appendWord 9 = .ok (.iload_n 1, 1) := by decide +kernel
theorem dX5_appendWord_10 : decode cX5_appendWord 10 = .ok (.bipush 16, 2) := by decide +kernel
theorem dX5_appendWord_12 : decode cX5_appendWord 12 = .ok (.iushr, 1) := by decide +kernel
theorem dX5_appendWord_13 : decode cX5_appendWord 13 = .ok (.invokevirtual 19, 3) := by decide +kernel
theorem dX5_appendWord_16 : decode cX5_appendWord 16 = .ok (.aload_n 0, 1) := by decide +kernel
theorem dX5_appendWord_17 : decode cX5_appendWord 17 = .ok (.iload_n 1, 1) := by decide +kernel
theorem dX5_appendWord_18 : decode cX5_appendWord 18 = .ok (.bipush 8, 2) := by decide +kernel
theorem dX5_appendWord_20 : decode cX5_appendWord 20 = .ok (.iushr, 1) := by decide +kernel
theorem dX5_appendWord_21 : decode cX5_appendWord 21 = .ok (.invokevirtual 19, 3) := by decide +kernel
theorem dX5_appendWord_24 : decode cX5_appendWord 24 = .ok (.aload_n 0, 1) := by decide +kernel
theorem dX5_appendWord_25 : decode cX5_appendWord 25 = .ok (.iload_n 1, 1) := by decide +kernel
theorem dX5_appendWord_26 : decode cX5_appendWord 26 = .ok (.invokevirtual 19, 3) := by decide +kernel
theorem dX5_appendWord_29 : decode cX5_appendWord 29 = .ok (.return_, 1) := by decide +kernel
theorem dX5_signedAt_0 : decode cX5_signedAt 0 = .ok (.aload_n 0, 1) := by decide +kernel
theorem dX5_signedAt_1 : decode cX5_signedAt 1 = .ok (.iload_n 1, 1) := by decide +kernel
theorem dX5_signedAt_2 : decode cX5_signedAt 2 = .ok (.invokevirtual 23, 3) := by decide +kernel
theorem dX5_signedAt_5 : decode cX5_signedAt 5 = .ok (.ifCond .eq 12, 3) := by decide +kernel
theorem dX5_signedAt_8 : decode cX5_signedAt 8 = .ok (.aload_n 0, 1) := by decide +kernel
theorem dX5_signedAt_9 : decode cX5_signedAt 9 = .ok (.getfield 9, 3) := by decide +kernel
theorem dX5_signedAt_12 : decode cX5_signedAt 12 = .ok (.iload_n 1, 1) := by decide +kernel
theorem dX5_signedAt_13 : decode cX5_signedAt 13 = .ok (.baload, 1) := by decide +kernel
theorem dX5_signedAt_14 : decode cX5_signedAt 14 = .ok (.goto 4, 3) := by decide +kernel
theorem dX5_signedAt_17 : decode cX5_signedAt 17 = .ok (.iconst 0, 1) := by decide +kernel
theorem dX5_signedAt_18 : decode cX5_signedAt 18 = .ok (.ireturn, 1) := by decide +kernel
theorem dX5_valueAt_0 : decode cX5_valueAt 0 = .ok (.aload_n 0, 1) := by decide +kernel
theorem dX5_valueAt_1 : decode cX5_valueAt 1 = .ok (.iload_n 1, 1) := by decide +kernel
theorem dX5_valueAt_2 : decode cX5_valueAt 2 = .ok (.invokevirtual 27, 3) := by decide +kernel
theorem dX5_valueAt_5 : decode cX5_valueAt 5 = .ok (.sipush 255, 3) := by decide +kernel
theorem dX5_valueAt_8 : decode cX5_valueAt 8 = .ok (.iand, 1) := by decide +kernel
theorem dX5_valueAt_9 : decode cX5_valueAt 9 = .ok (.ireturn, 1) := by decide +kernel
theorem dX5_wordAt_0 : decode cX5_wordAt 0 = .ok (.aload_n 0, 1) := by decide +kernel
theorem dX5_wordAt_1 : decode cX5_wordAt 1 = .ok (.iload_n 1, 1) := by decide +kernel
theorem dX5_wordAt_2 : decode cX5_wordAt 2 = .ok (.invokevirtual 31, 3) := by decide +kernel
theorem dX5_wordAt_5 : decode cX5_wordAt 5 = .ok (.bipush 24, 2) := by decide +kernel
theorem dX5_wordAt_7 : decode cX5_wordAt 7 = .ok (.ishl, 1) := by decide +kernel
theorem dX5_wordAt_8 : decode cX5_wordAt 8 = .ok (.aload_n 0, 1) := by decide +kernel
theorem dX5_wordAt_9 : decode cX5_wordAt 9 = .ok (.iload_n 1, 1) := by decide +kernel
theorem dX5_wordAt_10 : decode cX5_wordAt 10 = .ok (.iconst 1, 1) := by decide +kernel
theorem dX5_wordAt_11 : decode cX5_wordAt 11 = .ok (.iadd, 1) := by decide +kernel
theorem dX5_wordAt_12 : decode cX5_wordAt 12 = .ok (.invokevirtual 31, 3) := by decide +kernel
theorem dX5_wordAt_15 : decode cX5_wordAt 15 = .ok (.bipush 16, 2) := by decide +kernel
theorem dX5_wordAt_17 : decode cX5_wordAt 17 = .ok (.ishl, 1) := by decide +kernel
theorem dX5_wordAt_18 : decode cX5_wordAt 18 = .ok (.ior, 1) := by decide +kernel
theorem dX5_wordAt_19 : decode cX5_wordAt 19 = .ok (.aload_n 0, 1) := by decide +kernel
theorem dX5_wordAt_20 : decode cX5_wordAt 20 = .ok (.iload_n 1, 1) := by decide +kernel
theorem dX5_wordAt_21 : decode cX5_wordAt 21 = .ok (.iconst 2, 1) := by decide +kernel
theorem dX5_wordAt_22 : decode cX5_wordAt 22 = .ok (.iadd, 1) := by decide +kernel
theorem dX5_wordAt_23 : decode cX5_wordAt 23 = .ok (.invokevirtual 31, 3) := by decide +kernel
theorem dX5_wordAt_26 : decode cX5_wordAt 26 = .ok (.bipush 8, 2) := by decide +kernel
theorem dX5_wordAt_28 : decode cX5_wordAt 28 = .ok (.ishl, 1) := by decide +kernel
theorem dX5_wordAt_29 : decode cX5_wordAt 29 = .ok (.ior, 1) := by decide +kernel
theorem dX5_wordAt_30 : decode cX5_wordAt 30 = .ok (.aload_n 0, 1) := by decide +kernel
theorem dX5_wordAt_31 : decode cX5_wordAt 31 = .ok (.iload_n 1, 1) := by decide +kernel
theorem dX5_wordAt_32 : decode cX5_wordAt 32 = .ok (.iconst 3, 1) := by decide +kernel
theorem dX5_wordAt_33 : decode cX5_wordAt 33 = .ok (.iadd, 1) := by decide +kernel
theorem dX5_wordAt_34 : decode cX5_wordAt 34 = .ok (.invokevirtual 31, 3) := by decide +kernel
theorem dX5_wordAt_37 : decode cX5_wordAt 37 = .ok (.ior, 1) := by decide +kernel
theorem dX5_wordAt_38 : decode cX5_wordAt 38 = .ok (.ireturn, 1) := by decide +kernel
theorem dX6_init_0 : decode cX6_init 0 = .ok (.aload_n 0, 1) := by decide +kernel
theorem dX6_init_1 : decode cX6_init 1 = .ok (.invokespecial 3, 3) := by decide +kernel
theorem dX6_init_4 : decode cX6_init 4 = .ok (.aload_n 0, 1) := by decide +kernel
theorem dX6_init_5 : decode cX6_init 5 = .ok (.bipush 60, 2) := by decide +kernel
theorem dX6_init_7 : decode cX6_init 7 = .ok (.newarray .int, 2) := by decide +kernel
theorem dX6_init_9 : decode cX6_init 9 = .ok (.putfield 9, 3) := by decide +kernel
theorem dX6_init_12 : decode cX6_init 12 = .ok (.aload_n 0, 1) := by decide +kernel
theorem dX6_init_13 : decode cX6_init 13 = .ok (.iload_n 1, 1) := by decide +kernel
theorem dX6_init_14 : decode cX6_init 14 = .ok (.putfield 15, 3) := by decide +kernel
theorem dX6_init_17 : decode cX6_init 17 = .ok (.aload_n 0, 1) := by decide +kernel
theorem dX6_init_18 : decode cX6_init 18 = .ok (.iload_n 2, 1) := by decide +kernel
theorem dX6_init_19 : decode cX6_init 19 = .ok (.putfield 19, 3) := by decide +kernel
theorem dX6_init_22 : decode cX6_init 22 = .ok (.return_, 1) := by decide +kernel
theorem dX6_hasName_0 : decode cX6_hasName 0 = .ok (.aload_n 0, 1) := by decide +kernel
theorem dX6_hasName_1 : decode cX6_hasName 1 = .ok (.getfield 15, 3) := by decide +kernel
theorem dX6_hasName_4 : decode cX6_hasName 4 = .ok (.iload_n 1, 1) := by decide +kernel
theorem dX6_hasName_5 : decode cX6_hasName 5 = .ok (.if_icmp .ne 7, 3) := by decide +kernel
theorem dX6_hasName_8 : decode cX6_hasName 8 = .ok (.iconst 1, 1) := by decide +kernel
theorem dX6_hasName_9 : decode cX6_hasName 9 = .ok (.goto 4, 3) := by decide +kernel
theorem dX6_hasName_12 : decode cX6_hasName 12 = .ok (.iconst 0, 1) := by decide +kernel
theorem dX6_hasName_13 : decode cX6_hasName 13 = .ok (.ireturn, 1) := by decide +kernel
theorem dX6_isGuarded_0 : decode cX6_isGuarded 0 = .ok (.aload_n 0, 1) := by decide +kernel
theorem dX6_isGuarded_1 : decode cX6_isGuarded 1 = .ok (.getfield 19, 3) := by decide +kernel
theorem dX6_isGuarded_4 : decode cX6_isGuarded 4 = .ok (.ireturn, 1) := by decide +kernel
theorem dX6_counting_0 : decode cX6_counting 0 = .ok (.aload_n 0, 1) := by decide +kernel
theorem dX6_counting_1 : decode cX6_counting 1 = .ok (.getfield 23, 3) := by decide +kernel
theorem dX6_counting_4 : decode cX6_counting 4 = .ok (.ireturn, 1) := by decide +kernel
theorem dX6_countsAll_0 : decode cX6_countsAll 0 = .ok (.aload_n 0, 1) := by decide +kernel
theorem dX6_countsAll_1 : decode cX6_countsAll 1 = .ok (.getfield 23, 3) := by decide +kernel
theorem dX6_countsAll_4 : decode cX6_countsAll 4 = .ok (.aload_n 0, 1) := by decide +kernel
theorem dX6_countsAll_5 : decode cX6_countsAll 5 = .ok (.getfield 26, 3) := by decide +kernel
theorem dX6_countsAll_8 : decode cX6_countsAll 8 = .ok (.if_icmp .ne 7, 3) := by decide +kernel
theorem dX6_countsAll_11 : decode cX6_countsAll 11 = .ok (.iconst 1, 1) := by decide +kernel
theorem dX6_countsAll_12 : decode cX6_countsAll 12 = .ok (.goto 4, 3) := by decide +kernel
theorem dX6_countsAll_15 : decode cX6_countsAll 15 = .ok (.iconst 0, 1) := by decide +kernel
theorem dX6_countsAll_16 : decode cX6_countsAll 16 = .ok (.ireturn, 1) := by decide +kernel
theorem dX6_hasRoomFor_0 : decode cX6_hasRoomFor 0 = .ok (.aload_n 0, 1) := by decide +kernel
theorem dX6_hasRoomFor_1 : decode cX6_hasRoomFor 1 = .ok (.getfield 23, 3) := by decide +kernel
theorem dX6_hasRoomFor_4 : decode cX6_hasRoomFor 4 = .ok (.iload_n 1, 1) := by decide +kernel
theorem dX6_hasRoomFor_5 : decode cX6_hasRoomFor 5 = .ok (.iadd, 1) := by decide +kernel
theorem dX6_hasRoomFor_6 : decode cX6_hasRoomFor 6 = .ok (.bipush 60, 2) := by decide +kernel
theorem dX6_hasRoomFor_8 : decode cX6_hasRoomFor 8 = .ok (.if_icmp .gt 7, 3) := by decide +kernel
theorem dX6_hasRoomFor_11 : decode cX6_hasRoomFor 11 = .ok (.iconst 1, 1) := by decide +kernel
theorem dX6_hasRoomFor_12 : decode cX6_hasRoomFor 12 = .ok (.goto 4, 3) := by decide +kernel
theorem dX6_hasRoomFor_15 : decode cX6_hasRoomFor 15 = .ok (.iconst 0, 1) := by decide +kernel
theorem dX6_hasRoomFor_16 : decode cX6_hasRoomFor 16 = .ok (.ireturn, 1) := by decide +kernel
theorem dX6_tell_0 : decode cX6_tell 0 = .ok (.iload_n 1, 1) := by decide +kernel
theorem dX6_tell_1 : decode cX6_tell 1 = .ok (.tableswitch 86 0 4 #[35, 40, 45, 50, 63], 35) := by decide +kernel
theorem dX6_tell_36 : decode cX6_tell 36 = .ok (.aload_n 0, 1) := by decide +kernel
theorem dX6_tell_37 : decode cX6_tell 37 = .ok (.getfield 15, 3) := by decide +kernel
theorem dX6_tell_40 : decode cX6_tell 40 = .ok (.ireturn, 1) := by decide +kernel
theorem dX6_tell_41 : decode cX6_tell 41 = .ok (.aload_n 0, 1) := by decide +kernel
theorem dX6_tell_42 : decode cX6_tell 42 = .ok (.getfield 26, 3) := by decide +kernel
theorem dX6_tell_45 : decode cX6_tell 45 = .ok (.ireturn, 1) := by decide +kernel
theorem dX6_tell_46 : decode cX6_tell 46 = .ok (.aload_n 0, 1) := by decide +kernel
theorem dX6_tell_47 : decode cX6_tell 47 = .ok (.getfield 23, 3) := by decide +kernel
theorem dX6_tell_50 : decode cX6_tell 50 = .ok (.ireturn, 1) := by decide +kernel
theorem dX6_tell_51 : decode cX6_tell 51 = .ok (.aload_n 0, 1) := by decide +kernel
theorem dX6_tell_52 : decode cX6_tell 52 = .ok (.getfield 19, 3) := by decide +kernel
theorem dX6_tell_55 : decode cX6_tell 55 = .ok (.ifCond .eq 7, 3) := by decide +kernel
theorem dX6_tell_58 : decode cX6_tell 58 = .ok (.iconst 1, 1) := by decide +kernel
theorem dX6_tell_59 : decode cX6_tell 59 = .ok (.goto 4, 3) := by decide +kernel
theorem dX6_tell_62 : decode cX6_tell 62 = .ok (.iconst 0, 1) := by decide +kernel
theorem dX6_tell_63 : decode cX6_tell 63 = .ok (.ireturn, 1) := by decide +kernel
theorem dX6_tell_64 : decode cX6_tell 64 = .ok (.aload_n 0, 1) := by decide +kernel
theorem dX6_tell_65 : decode cX6_tell 65 = .ok (.getfield 23, 3) := by decide +kernel
theorem dX6_tell_68 : decode cX6_tell 68 = .ok (.ifCond .le 17, 3) := by decide +kernel
theorem dX6_tell_71 : decode cX6_tell 71 = .ok (.aload_n 0, 1) := by decide +kernel
theorem dX6_tell_72 : decode cX6_tell 72 = .ok (.getfield 9, 3) := by decide +kernel
theorem dX6_tell_75 : decode cX6_tell 75 = .ok (.aload_n 0, 1) := by decide +kernel
theorem dX6_tell_76 : decode cX6_tell 76 = .ok (.getfield 23, 3) := by decide +kernel
theorem dX6_tell_79 : decode cX6_tell 79 = .ok (.iconst 1, 1) := by decide +kernel
theorem dX6_tell_80 : decode cX6_tell 80 = .ok (.isub, 1) := by decide +kernel
theorem dX6_tell_81 : decode cX6_tell 81 = .ok (.iaload, 1) := by decide +kernel
theorem dX6_tell_82 : decode cX6_tell 82 = .ok (.goto 4, 3) := by decide +kernel
theorem dX6_tell_85 : decode cX6_tell 85 = .ok (.iconst 0, 1) := by decide +kernel
theorem dX6_tell_86 : decode cX6_tell 86 = .ok (.ireturn, 1) := by decide +kernel
theorem dX6_tell_87 : decode cX6_tell 87 = .ok (.iconst (-1), 1) := by decide +kernel
theorem dX6_tell_88 : decode cX6_tell 88 = .ok (.ireturn, 1) := by decide +kernel
theorem dX6_add_0 : decode cX6_add 0 = .ok (.aload_n 0, 1) := by decide +kernel
theorem dX6_add_1 : decode cX6_add 1 = .ok (.getfield 26, 3) := by decide +kernel
theorem dX6_add_4 : decode cX6_add 4 = .ok (.bipush 60, 2) := by decide +kernel
theorem dX6_add_6 : decode cX6_add 6 = .ok (.if_icmp .lt 5, 3) := by decide +kernel
theorem dX6_add_9 : decode cX6_add 9 = .ok (.iconst (-1), 1) := by decide +kernel
theorem dX6_add_10 : decode cX6_add 10 = .ok (.ireturn, 1) := by decide +kernel
theorem dX6_add_11 : decode cX6_add 11 = .ok (.aload_n 0, 1) := by decide +kernel
theorem dX6_add_12 : decode cX6_add 12 = .ok (.getfield 9, 3) := by decide +kernel
theorem dX6_add_15 : decode cX6_add 15 = .ok (.aload_n 0, 1) := by decide +kernel
theorem dX6_add_16 : decode cX6_add 16 = .ok (.getfield 26, 3) := by decide +kernel
theorem dX6_add_19 : decode cX6_add 19 = .ok (.iload_n 1, 1) := by decide +kernel
theorem dX6_add_20 : decode cX6_add 20 = .ok (.iastore, 1) := by decide +kernel
theorem dX6_add_21 : decode cX6_add 21 = .ok (.aload_n 0, 1) := by decide +kernel
theorem dX6_add_22 : decode cX6_add 22 = .ok (.dup, 1) := by decide +kernel
theorem dX6_add_23 : decode cX6_add 23 = .ok (.getfield 26, 3) := by decide +kernel
theorem dX6_add_26 : decode cX6_add 26 = .ok (.iconst 1, 1) := by decide +kernel
theorem dX6_add_27 : decode cX6_add 27 = .ok (.iadd, 1) := by decide +kernel
theorem dX6_add_28 : decode cX6_add 28 = .ok (.putfield 26, 3) := by decide +kernel
theorem dX6_add_31 : decode cX6_add 31 = .ok (.aload_n 0, 1) := by decide +kernel
theorem dX6_add_32 : decode cX6_add 32 = .ok (.getfield 26, 3) := by decide +kernel
theorem dX6_add_35 : decode cX6_add 35 = .ok (.ireturn, 1) := by decide +kernel
theorem dX6_rename_0 : decode cX6_rename 0 = .ok (.aload_n 0, 1) := by decide +kernel
theorem dX6_rename_1 : decode cX6_rename 1 = .ok (.iload_n 1, 1) := by decide +kernel
theorem dX6_rename_2 : decode cX6_rename 2 = .ok (.putfield 15, 3) := by decide +kernel
theorem dX6_rename_5 : decode cX6_rename 5 = .ok (.return_, 1) := by decide +kernel
theorem dX6_countAll_0 : decode cX6_countAll 0 = .ok (.aload_n 0, 1) := by decide +kernel
theorem dX6_countAll_1 : decode cX6_countAll 1 = .ok (.aload_n 0, 1) := by decide +kernel
theorem dX6_countAll_2 : decode cX6_countAll 2 = .ok (.getfield 26, 3) := by decide +kernel
theorem dX6_countAll_5 : decode cX6_countAll 5 = .ok (.putfield 23, 3) := by decide +kernel
theorem dX6_countAll_8 : decode cX6_countAll 8 = .ok (.return_, 1) := by decide +kernel
theorem dX6_appendCounting_0 : decode cX6_appendCounting 0 = .ok (.aload_n 0, 1) := by decide +kernel
theorem dX6_appendCounting_1 : decode cX6_appendCounting 1 = .ok (.aload_n 1, 1) := by decide +kernel
theorem dX6_appendCounting_2 : decode cX6_appendCounting 2 = .ok (.getfield 23, 3) := by decide +kernel
theorem dX6_appendCounting_5 : decode cX6_appendCounting 5 = .ok (.invokevirtual 29, 3) := by decide +kernel
theorem dX6_appendCounting_8 : decode cX6_appendCounting 8 = .ok (.ifCond .eq 44, 3) := by decide +kernel
theorem dX6_appendCounting_11 : decode cX6_appendCounting 11 = .ok (.aload_n 1, 1) := by decide +kernel
theorem dX6_appendCounting_12 : decode cX6_appendCounting 12 = .ok (.getfield 9, 3) := by decide +kernel
theorem dX6_appendCounting_15 : decode cX6_appendCounting 15 = .ok (.iconst 0, 1) := by decide +kernel
theorem dX6_appendCounting_16 : decode cX6_appendCounting 16 = .ok (.aload_n 0, 1) := by decide +kernel
theorem dX6_appendCounting_17 : decode cX6_appendCounting 17 = .ok (.getfield 9, 3) := by decide +kernel
theorem dX6_appendCounting_20 : decode cX6_appendCounting 20 = .ok (.aload_n 0, 1) := by decide +kernel
theorem dX6_appendCounting_21 : decode cX6_appendCounting 21 = .ok (.getfield 23, 3) := by decide +kernel
theorem dX6_appendCounting_24 : decode cX6_appendCounting 24 = .ok (.aload_n 1, 1) := by decide +kernel
theorem dX6_appendCounting_25 : decode cX6_appendCounting 25 = .ok (.getfield 23, 3) := by decide +kernel
theorem dX6_appendCounting_28 : decode cX6_appendCounting 28 = .ok (.invokestatic 33, 3) := by decide +kernel
theorem dX6_appendCounting_31 : decode cX6_appendCounting 31 = .ok (.aload_n 0, 1) := by decide +kernel
theorem dX6_appendCounting_32 : decode cX6_appendCounting 32 = .ok (.dup, 1) := by decide +kernel
theorem dX6_appendCounting_33 : decode cX6_appendCounting 33 = .ok (.getfield 23, 3) := by decide +kernel
theorem dX6_appendCounting_36 : decode cX6_appendCounting 36 = .ok (.aload_n 1, 1) := by decide +kernel
theorem dX6_appendCounting_37 : decode cX6_appendCounting 37 = .ok (.getfield 23, 3) := by decide +kernel
theorem dX6_appendCounting_40 : decode cX6_appendCounting 40 = .ok (.iadd, 1) := by decide +kernel
theorem dX6_appendCounting_41 : decode cX6_appendCounting 41 = .ok (.putfield 23, 3) := by decide +kernel
theorem dX6_appendCounting_44 : decode cX6_appendCounting 44 = .ok (.aload_n 0, 1) := by decide +kernel
theorem dX6_appendCounting_45 : decode cX6_appendCounting 45 = .ok (.aload_n 0, 1) := by decide +kernel
theorem dX6_appendCounting_46 : decode cX6_appendCounting 46 = .ok (.getfield 23, 3) := by decide +kernel
theorem dX6_appendCounting_49 : decode cX6_appendCounting 49 = .ok (.putfield 26, 3) := by decide +kernel
theorem dX6_appendCounting_52 : decode cX6_appendCounting 52 = .ok (.return_, 1) := by decide +kernel
theorem dX6_appendSeries_0 : decode cX6_appendSeries 0 = .ok (.aload_n 0, 1) := by decide +kernel
theorem dX6_appendSeries_1 : decode cX6_appendSeries 1 = .ok (.aload_n 0, 1) := by decide +kernel
theorem dX6_appendSeries_2 : decode cX6_appendSeries 2 = .ok (.getfield 23, 3) := by decide +kernel
theorem dX6_appendSeries_5 : decode cX6_appendSeries 5 = .ok (.putfield 26, 3) := by decide +kernel
theorem dX6_appendSeries_8 : decode cX6_appendSeries 8 = .ok (.iload_n 2, 1) := by decide +kernel
theorem dX6_appendSeries_9 : decode cX6_appendSeries 9 = .ok (.istore 4, 2) := by decide +kernel
theorem dX6_appendSeries_11 : decode cX6_appendSeries 11 = .ok (.iconst 0, 1) := by decide +kernel
theorem dX6_appendSeries_12 : decode cX6_appendSeries 12 = .ok (.istore 5, 2) := by decide +kernel
theorem dX6_appendSeries_14 : decode cX6_appendSeries 14 = .ok (.iload 5, 2) := by decide +kernel
theorem dX6_appendSeries_16 : decode cX6_appendSeries 16 = .ok (.iload_n 1, 1) := by decide +kernel
theorem dX6_appendSeries_17 : decode cX6_appendSeries 17 = .ok (.if_icmp .ge 22, 3) := by decide +kernel
theorem dX6_appendSeries_20 : decode cX6_appendSeries 20 = .ok (.aload_n 0, 1) := by decide +kernel
theorem dX6_appendSeries_21 : decode cX6_appendSeries 21 = .ok (.iload 4, 2) := by decide +kernel
theorem dX6_appendSeries_23 : decode cX6_appendSeries 23 = .ok (.invokevirtual 39, 3) := by decide +kernel
theorem dX6_appendSeries_26 : decode cX6_appendSeries 26 = .ok (.pop, 1) := by decide +kernel
theorem dX6_appendSeries_27 : decode cX6_appendSeries 27 = .ok (.iload 4, 2) := by decide +kernel
theorem dX6_appendSeries_29 : decode cX6_appendSeries 29 = .ok (.iload_n 3, 1) := by decide +kernel
theorem dX6_appendSeries_30 : decode cX6_appendSeries 30 = .ok (.iadd, 1) := by decide +kernel
theorem dX6_appendSeries_31 : decode cX6_appendSeries 31 = .ok (.istore 4, 2) := by decide +kernel
theorem dX6_appendSeries_33 : decode cX6_appendSeries 33 = .ok (.iinc 5 1, 3) := by decide +kernel
theorem dX6_appendSeries_36 : decode cX6_appendSeries 36 = .ok (.goto (-22), 3) := by decide +kernel
theorem dX6_appendSeries_39 : decode cX6_appendSeries 39 = .ok (.aload_n 0, 1) := by decide +kernel
theorem dX6_appendSeries_40 : decode cX6_appendSeries 40 = .ok (.aload_n 0, 1) := by decide +kernel
theorem dX6_appendSeries_41 : decode cX6_appendSeries 41 = .ok (.getfield 26, 3) := by decide +kernel
theorem dX6_appendSeries_44 : decode cX6_appendSeries 44 = .ok (.putfield 23, 3) := by decide +kernel
theorem dX6_appendSeries_47 : decode cX6_appendSeries 47 = .ok (.return_, 1) := by decide +kernel
theorem dX6_writeTo_0 : decode cX6_writeTo 0 = .ok (.aload_n 1, 1) := by decide +kernel
theorem dX6_writeTo_1 : decode cX6_writeTo 1 = .ok (.invokevirtual 43, 3) := by decide +kernel
theorem dX6_writeTo_4 : decode cX6_writeTo 4 = .ok (.aload_n 1, 1) := by decide +kernel
theorem dX6_writeTo_5 : decode cX6_writeTo 5 = .ok (.bipush 69, 2) := by decide +kernel
theorem dX6_writeTo_7 : decode cX6_writeTo 7 = .ok (.invokevirtual 48, 3) := by decide +kernel
theorem dX6_writeTo_10 : decode cX6_writeTo 10 = .ok (.aload_n 1, 1) := by decide +kernel
theorem dX6_writeTo_11 : decode cX6_writeTo 11 = .ok (.aload_n 0, 1) := by decide +kernel
theorem dX6_writeTo_12 : decode cX6_writeTo 12 = .ok (.getfield 15, 3) := by decide +kernel
theorem dX6_writeTo_15 : decode cX6_writeTo 15 = .ok (.invokevirtual 48, 3) := by decide +kernel
theorem dX6_writeTo_18 : decode cX6_writeTo 18 = .ok (.aload_n 1, 1) := by decide +kernel
theorem dX6_writeTo_19 : decode cX6_writeTo 19 = .ok (.aload_n 0, 1) := by decide +kernel
theorem dX6_writeTo_20 : decode cX6_writeTo 20 = .ok (.getfield 19, 3) := by decide +kernel
theorem dX6_writeTo_23 : decode cX6_writeTo 23 = .ok (.ifCond .eq 7, 3) := by decide +kernel
theorem dX6_writeTo_26 : decode cX6_writeTo 26 = .ok (.iconst 1, 1) := by decide +kernel
theorem dX6_writeTo_27 : decode cX6_writeTo 27 = .ok (.goto 4, 3) := by decide +kernel
theorem dX6_writeTo_30 : decode cX6_writeTo 30 = .ok (.iconst 0, 1) := by decide +kernel
theorem dX6_writeTo_31 : decode cX6_writeTo 31 = .ok (.invokevirtual 48, 3) := by decide +kernel
theorem dX6_writeTo_34 : decode cX6_writeTo 34 = .ok (.aload_n 1, 1) := by decide +kernel
theorem dX6_writeTo_35 : decode cX6_writeTo 35 = .ok (.aload_n 0, 1) := by decide +kernel
theorem dX6_writeTo_36 : decode cX6_writeTo 36 = .ok (.getfield 23, 3) := by decide +kernel
theorem dX6_writeTo_39 : decode cX6_writeTo 39 = .ok (.invokevirtual 48, 3) := by decide +kernel
theorem dX6_writeTo_42 : decode cX6_writeTo 42 = .ok (.iconst 0, 1) := by decide +kernel
theorem dX6_writeTo_43 : decode cX6_writeTo 43 = .ok (.istore_n 2, 1) := by decide +kernel
theorem dX6_writeTo_44 : decode cX6_writeTo 44 = .ok (.iload_n 2, 1) := by decide +kernel
theorem dX6_writeTo_45 : decode cX6_writeTo 45 = .ok (.aload_n 0, 1) := by decide +kernel
theorem dX6_writeTo_46 : decode cX6_writeTo 46 = .ok (.getfield 23, 3) := by decide +kernel
theorem dX6_writeTo_49 : decode cX6_writeTo 49 = .ok (.if_icmp .ge 19, 3) := by decide +kernel
theorem dX6_writeTo_52 : decode cX6_writeTo 52 = .ok (.aload_n 1, 1) := by decide +kernel
theorem dX6_writeTo_53 : decode cX6_writeTo 53 = .ok (.aload_n 0, 1) := by decide +kernel
theorem dX6_writeTo_54 : decode cX6_writeTo 54 = .ok (.getfield 9, 3) := by decide +kernel
theorem dX6_writeTo_57 : decode cX6_writeTo 57 = .ok (.iload_n 2, 1) := by decide +kernel
theorem dX6_writeTo_58 : decode cX6_writeTo 58 = .ok (.iaload, 1) := by decide +kernel
theorem dX6_writeTo_59 : decode cX6_writeTo 59 = .ok (.invokevirtual 52, 3) := by decide +kernel
theorem dX6_writeTo_62 : decode cX6_writeTo 62 = .ok (.iinc 2 1, 3) := by decide +kernel
theorem dX6_writeTo_65 : decode cX6_writeTo 65 = .ok (.goto (-21), 3) := by decide +kernel
theorem dX6_writeTo_68 : decode cX6_writeTo 68 = .ok (.return_, 1) := by decide +kernel
theorem dX6_readFrom_0 : decode cX6_readFrom 0 = .ok (.aload_n 0, 1) := by decide +kernel
theorem dX6_readFrom_1 : decode cX6_readFrom 1 = .ok (.aload_n 1, 1) := by decide +kernel
theorem dX6_readFrom_2 : decode cX6_readFrom 2 = .ok (.iconst 2, 1) := by decide +kernel
theorem dX6_readFrom_3 : decode cX6_readFrom 3 = .ok (.invokevirtual 55, 3) := by decide +kernel
theorem dX6_readFrom_6 : decode cX6_readFrom 6 = .ok (.iconst 1, 1) := by decide +kernel
theorem dX6_readFrom_7 : decode cX6_readFrom 7 = .ok (.if_icmp .ne 7, 3) := by decide +kernel
theorem dX6_readFrom_10 : decode cX6_readFrom 10 = .ok (.iconst 1, 1) := by decide +kernel
theorem dX6_readFrom_11 : decode cX6_readFrom 11 = .ok (.goto 4, 3) := by decide +kernel
theorem dX6_readFrom_14 : decode cX6_readFrom 14 = .ok (.iconst 0, 1) := by decide +kernel
theorem dX6_readFrom_15 : decode cX6_readFrom 15 = .ok (.putfield 19, 3) := by decide +kernel
theorem dX6_readFrom_18 : decode cX6_readFrom 18 = .ok (.aload_n 0, 1) := by decide +kernel
theorem dX6_readFrom_19 : decode cX6_readFrom 19 = .ok (.iconst 0, 1) := by decide +kernel
theorem dX6_readFrom_20 : decode cX6_readFrom 20 = .ok (.putfield 26, 3) := by decide +kernel
theorem dX6_readFrom_23 : decode cX6_readFrom 23 = .ok (.aload_n 1, 1) := by decide +kernel
theorem dX6_readFrom_24 : decode cX6_readFrom 24 = .ok (.iconst 3, 1) := by decide +kernel
theorem dX6_readFrom_25 : decode cX6_readFrom 25 = .ok (.invokevirtual 55, 3) := by decide +kernel
theorem dX6_readFrom_28 : decode cX6_readFrom 28 = .ok (.istore_n 2, 1) := by decide +kernel
theorem dX6_readFrom_29 : decode cX6_readFrom 29 = .ok (.iconst 0, 1) := by decide +kernel
theorem dX6_readFrom_30 : decode cX6_readFrom 30 = .ok (.istore_n 3, 1) := by decide +kernel
theorem dX6_readFrom_31 : decode cX6_readFrom 31 = .ok (.iload_n 3, 1) := by decide +kernel
theorem dX6_readFrom_32 : decode cX6_readFrom 32 = .ok (.iload_n 2, 1) := by decide +kernel
theorem dX6_readFrom_33 : decode cX6_readFrom 33 = .ok (.if_icmp .ge 23, 3) := by decide +kernel
theorem dX6_readFrom_36 : decode cX6_readFrom 36 = .ok (.aload_n 0, 1) := by decide +kernel
theorem dX6_readFrom_37 : decode cX6_readFrom 37 = .ok (.aload_n 1, 1) := by decide +kernel
theorem dX6_readFrom_38 : decode cX6_readFrom 38 = .ok (.iconst 4, 1) := by decide +kernel
theorem dX6_readFrom_39 : decode cX6_readFrom 39 = .ok (.iconst 4, 1) := by decide +kernel
theorem dX6_readFrom_40 : decode cX6_readFrom 40 = .ok (.iload_n 3, 1) := by decide +kernel
theorem dX6_readFrom_41 : decode cX6_readFrom 41 = .ok (.imul, 1) := by decide +kernel
theorem dX6_readFrom_42 : decode cX6_readFrom 42 = .ok (.iadd, 1) := by decide +kernel
theorem dX6_readFrom_43 : decode cX6_readFrom 43 = .ok (.invokevirtual 58, 3) := by decide +kernel
theorem dX6_readFrom_46 : decode cX6_readFrom 46 = .ok (.invokevirtual 39, 3) := by decide +kernel
theorem dX6_readFrom_49 : decode cX6_readFrom 49 = .ok (.pop, 1) := by decide +kernel
theorem dX6_readFrom_50 : decode cX6_readFrom 50 = .ok (.iinc 3 1, 3) := by decide +kernel
theorem dX6_readFrom_53 : decode cX6_readFrom 53 = .ok (.goto (-22), 3) := by decide +kernel
theorem dX6_readFrom_56 : decode cX6_readFrom 56 = .ok (.aload_n 0, 1) := by decide +kernel
theorem dX6_readFrom_57 : decode cX6_readFrom 57 = .ok (.aload_n 0, 1) := by decide +kernel
theorem dX6_readFrom_58 : decode cX6_readFrom 58 = .ok (.getfield 26, 3) := by decide +kernel
theorem dX6_readFrom_61 : decode cX6_readFrom 61 = .ok (.putfield 23, 3) := by decide +kernel
theorem dX6_readFrom_64 : decode cX6_readFrom 64 = .ok (.return_, 1) := by decide +kernel
theorem dX7_init_0 : decode cX7_init 0 = .ok (.aload_n 0, 1) := by decide +kernel
theorem dX7_init_1 : decode cX7_init 1 = .ok (.invokespecial 3, 3) := by decide +kernel
theorem dX7_init_4 : decode cX7_init 4 = .ok (.aload_n 0, 1) := by decide +kernel
theorem dX7_init_5 : decode cX7_init 5 = .ok (.bipush 20, 2) := by decide +kernel
theorem dX7_init_7 : decode cX7_init 7 = .ok (.anewarray 9, 3) := by decide +kernel
theorem dX7_init_10 : decode cX7_init 10 = .ok (.putfield 11, 3) := by decide +kernel
theorem dX7_init_13 : decode cX7_init 13 = .ok (.return_, 1) := by decide +kernel
theorem dX7_setsMade_0 : decode cX7_setsMade 0 = .ok (.aload_n 0, 1) := by decide +kernel
theorem dX7_setsMade_1 : decode cX7_setsMade 1 = .ok (.getfield 17, 3) := by decide +kernel
theorem dX7_setsMade_4 : decode cX7_setsMade 4 = .ok (.ireturn, 1) := by decide +kernel
theorem dX7_at_0 : decode cX7_at 0 = .ok (.iload_n 1, 1) := by decide +kernel
theorem dX7_at_1 : decode cX7_at 1 = .ok (.iconst 1, 1) := by decide +kernel
theorem dX7_at_2 : decode cX7_at 2 = .ok (.if_icmp .lt 22, 3) := by decide +kernel
theorem dX7_at_5 : decode cX7_at 5 = .ok (.iload_n 1, 1) := by decide +kernel
theorem dX7_at_6 : decode cX7_at 6 = .ok (.aload_n 0, 1) := by decide +kernel
theorem dX7_at_7 : decode cX7_at 7 = .ok (.getfield 17, 3) := by decide +kernel
theorem dX7_at_10 : decode cX7_at 10 = .ok (.if_icmp .gt 14, 3) := by decide +kernel
theorem dX7_at_13 : decode cX7_at 13 = .ok (.aload_n 0, 1) := by decide +kernel
theorem dX7_at_14 : decode cX7_at 14 = .ok (.getfield 11, 3) := by decide +kernel
theorem dX7_at_17 : decode cX7_at 17 = .ok (.iload_n 1, 1) := by decide +kernel
theorem dX7_at_18 : decode cX7_at 18 = .ok (.iconst 1, 1) := by decide +kernel
theorem dX7_at_19 : decode cX7_at 19 = .ok (.isub, 1) := by decide +kernel
theorem dX7_at_20 : decode cX7_at 20 = .ok (.aaload, 1) := by decide +kernel
theorem dX7_at_21 : decode cX7_at 21 = .ok (.goto 4, 3) := by decide +kernel
theorem dX7_at_24 : decode cX7_at 24 = .ok (.aconst_null, 1) := by decide +kernel
theorem dX7_at_25 : decode cX7_at 25 = .ok (.areturn, 1) := by decide +kernel
theorem dX7_withName_0 : decode cX7_withName 0 = .ok (.aload_n 0, 1) := by decide +kernel
theorem dX7_withName_1 : decode cX7_withName 1 = .ok (.aload_n 0, 1) := by decide +kernel
theorem dX7_withName_2 : decode cX7_withName 2 = .ok (.iload_n 1, 1) := by decide +kernel
theorem dX7_withName_3 : decode cX7_withName 3 = .ok (.invokevirtual 21, 3) := by decide +kernel
theorem dX7_withName_6 : decode cX7_withName 6 = .ok (.invokevirtual 25, 3) := by decide +kernel
theorem dX7_withName_9 : decode cX7_withName 9 = .ok (.areturn, 1) := by decide +kernel
theorem dX7_add_0 : decode cX7_add 0 = .ok (.aload_n 0, 1) := by decide +kernel
theorem dX7_add_1 : decode cX7_add 1 = .ok (.invokevirtual 29, 3) := by decide +kernel
theorem dX7_add_4 : decode cX7_add 4 = .ok (.ifCond .ne 5, 3) := by decide +kernel
theorem dX7_add_7 : decode cX7_add 7 = .ok (.iconst (-1), 1) := by decide +kernel
theorem dX7_add_8 : decode cX7_add 8 = .ok (.ireturn, 1) := by decide +kernel
theorem dX7_add_9 : decode cX7_add 9 = .ok (.aload_n 0, 1) := by decide +kernel
theorem dX7_add_10 : decode cX7_add 10 = .ok (.getfield 11, 3) := by decide +kernel
theorem dX7_add_13 : decode cX7_add 13 = .ok (.aload_n 0, 1) := by decide +kernel
theorem dX7_add_14 : decode cX7_add 14 = .ok (.getfield 17, 3) := by decide +kernel
theorem dX7_add_17 : decode cX7_add 17 = .ok (.new 9, 3) := by decide +kernel
theorem dX7_add_20 : decode cX7_add 20 = .ok (.dup, 1) := by decide +kernel
theorem dX7_add_21 : decode cX7_add 21 = .ok (.iload_n 1, 1) := by decide +kernel
theorem dX7_add_22 : decode cX7_add 22 = .ok (.iload_n 2, 1) := by decide +kernel
theorem dX7_add_23 : decode cX7_add 23 = .ok (.invokespecial 33, 3) := by decide +kernel
theorem dX7_add_26 : decode cX7_add 26 = .ok (.aastore, 1) := by decide +kernel
theorem dX7_add_27 : decode cX7_add 27 = .ok (.aload_n 0, 1) := by decide +kernel
theorem dX7_add_28 : decode cX7_add 28 = .ok (.dup, 1) := by decide +kernel
theorem dX7_add_29 : decode cX7_add 29 = .ok (.getfield 17, 3) := by decide +kernel
theorem dX7_add_32 : decode cX7_add 32 = .ok (.iconst 1, 1) := by decide +kernel
theorem dX7_add_33 : decode cX7_add 33 = .ok (.iadd, 1) := by decide +kernel
theorem dX7_add_34 : decode cX7_add 34 = .ok (.putfield 17, 3) := by decide +kernel
theorem dX7_add_37 : decode cX7_add 37 = .ok (.aload_n 0, 1) := by decide +kernel
theorem dX7_add_38 : decode cX7_add 38 = .ok (.getfield 17, 3) := by decide +kernel
theorem dX7_add_41 : decode cX7_add 41 = .ok (.ireturn, 1) := by decide +kernel
theorem dX7_drop_0 : decode cX7_drop 0 = .ok (.iload_n 1, 1) := by decide +kernel
theorem dX7_drop_1 : decode cX7_drop 1 = .ok (.iconst 1, 1) := by decide +kernel
theorem dX7_drop_2 : decode cX7_drop 2 = .ok (.if_icmp .lt 20, 3) := by decide +kernel
theorem dX7_drop_5 : decode cX7_drop 5 = .ok (.iload_n 1, 1) := by decide +kernel
theorem dX7_drop_6 : decode cX7_drop 6 = .ok (.aload_n 0, 1) := by decide +kernel
theorem dX7_drop_7 : decode cX7_drop 7 = .ok (.getfield 17, 3) := by decide +kernel
theorem dX7_drop_10 : decode cX7_drop 10 = .ok (.if_icmp .gt 12, 3) := by decide +kernel
theorem dX7_drop_13 : decode cX7_drop 13 = .ok (.aload_n 0, 1) := by decide +kernel
theorem dX7_drop_14 : decode cX7_drop 14 = .ok (.getfield 11, 3) := by decide +kernel
theorem dX7_drop_17 : decode cX7_drop 17 = .ok (.iload_n 1, 1) := by decide +kernel
theorem dX7_drop_18 : decode cX7_drop 18 = .ok (.iconst 1, 1) := by decide +kernel
theorem dX7_drop_19 : decode cX7_drop 19 = .ok (.isub, 1) := by decide +kernel
theorem dX7_drop_20 : decode cX7_drop 20 = .ok (.aconst_null, 1) := by decide +kernel
theorem dX7_drop_21 : decode cX7_drop 21 = .ok (.aastore, 1) := by decide +kernel
theorem dX7_drop_22 : decode cX7_drop 22 = .ok (.return_, 1) := by decide +kernel
theorem dX7_deleteCode_0 : decode cX7_deleteCode 0 = .ok (.aload_n 0, 1) := by decide +kernel
theorem dX7_deleteCode_1 : decode cX7_deleteCode 1 = .ok (.iload_n 1, 1) := by decide +kernel
theorem dX7_deleteCode_2 : decode cX7_deleteCode 2 = .ok (.invokevirtual 25, 3) := by decide +kernel
theorem dX7_deleteCode_5 : decode cX7_deleteCode 5 = .ok (.astore_n 2, 1) := by decide +kernel
theorem dX7_deleteCode_6 : decode cX7_deleteCode 6 = .ok (.aload_n 2, 1) := by decide +kernel
theorem dX7_deleteCode_7 : decode cX7_deleteCode 7 = .ok (.ifnonnull 6, 3) := by decide +kernel
theorem dX7_deleteCode_10 : decode cX7_deleteCode 10 = .ok (.bipush (-2), 2) := by decide +kernel
theorem dX7_deleteCode_12 : decode cX7_deleteCode 12 = .ok (.ireturn, 1) := by decide +kernel
theorem dX7_deleteCode_13 : decode cX7_deleteCode 13 = .ok (.aload_n 2, 1) := by decide +kernel
theorem dX7_deleteCode_14 : decode cX7_deleteCode 14 = .ok (.invokevirtual 36, 3) := by decide +kernel
theorem dX7_deleteCode_17 : decode cX7_deleteCode 17 = .ok (.ifCond .eq 8, 3) := by decide +kernel
theorem dX7_deleteCode_20 : decode cX7_deleteCode 20 = .ok (.bipush 8, 2) := by decide +kernel
theorem dX7_deleteCode_22 : decode cX7_deleteCode 22 = .ok (.goto 4, 3) := by decide +kernel
theorem dX7_deleteCode_25 : decode cX7_deleteCode 25 = .ok (.iconst 0, 1) := by decide +kernel
theorem dX7_deleteCode_26 : decode cX7_deleteCode 26 = .ok (.ireturn, 1) := by decide +kernel
theorem dX7_alterCode_0 : decode cX7_alterCode 0 = .ok (.aload_n 0, 1) := by decide +kernel
theorem dX7_alterCode_1 : decode cX7_alterCode 1 = .ok (.iload_n 1, 1) := by decide +kernel
theorem dX7_alterCode_2 : decode cX7_alterCode 2 = .ok (.invokevirtual 25, 3) := by decide +kernel
theorem dX7_alterCode_5 : decode cX7_alterCode 5 = .ok (.astore_n 3, 1) := by decide +kernel
theorem dX7_alterCode_6 : decode cX7_alterCode 6 = .ok (.aload_n 3, 1) := by decide +kernel
theorem dX7_alterCode_7 : decode cX7_alterCode 7 = .ok (.ifnonnull 6, 3) := by decide +kernel
theorem dX7_alterCode_10 : decode cX7_alterCode 10 = .ok (.bipush (-2), 2) := by decide +kernel
theorem dX7_alterCode_12 : decode cX7_alterCode 12 = .ok (.ireturn, 1) := by decide +kernel
theorem dX7_alterCode_13 : decode cX7_alterCode 13 = .ok (.iload_n 2, 1) := by decide +kernel
theorem dX7_alterCode_14 : decode cX7_alterCode 14 = .ok (.invokestatic 39, 3) := by decide +kernel
theorem dX7_alterCode_17 : decode cX7_alterCode 17 = .ok (.ifCond .ne 6, 3) := by decide +kernel
theorem dX7_alterCode_20 : decode cX7_alterCode 20 = .ok (.bipush (-4), 2) := by decide +kernel
theorem dX7_alterCode_22 : decode cX7_alterCode 22 = .ok (.ireturn, 1) := by decide +kernel
theorem dX7_alterCode_23 : decode cX7_alterCode 23 = .ok (.aload_n 0, 1) := by decide +kernel
theorem dX7_alterCode_24 : decode cX7_alterCode 24 = .ok (.iload_n 2, 1) := by decide +kernel
theorem dX7_alterCode_25 : decode cX7_alterCode 25 = .ok (.invokevirtual 43, 3) := by decide +kernel
theorem dX7_alterCode_28 : decode cX7_alterCode 28 = .ok (.astore 4, 2) := by decide +kernel
theorem dX7_alterCode_30 : decode cX7_alterCode 30 = .ok (.aload 4, 2) := by decide +kernel
theorem dX7_alterCode_32 : decode cX7_alterCode 32 = .ok (.ifnonnull 5, 3) := by decide +kernel
theorem dX7_alterCode_35 : decode cX7_alterCode 35 = .ok (.iconst 0, 1) := by decide +kernel
theorem dX7_alterCode_36 : decode cX7_alterCode 36 = .ok (.ireturn, 1) := by decide +kernel
theorem dX7_alterCode_37 : decode cX7_alterCode 37 = .ok (.aload 4, 2) := by decide +kernel
theorem dX7_alterCode_39 : decode cX7_alterCode 39 = .ok (.aload_n 3, 1) := by decide +kernel
theorem dX7_alterCode_40 : decode cX7_alterCode 40 = .ok (.if_acmp .ne 7, 3) := by decide +kernel
theorem dX7_alterCode_43 : decode cX7_alterCode 43 = .ok (.iconst 4, 1) := by decide +kernel
theorem dX7_alterCode_44 : decode cX7_alterCode 44 = .ok (.goto 5, 3) := by decide +kernel
theorem dX7_alterCode_47 : decode cX7_alterCode 47 = .ok (.bipush 8, 2) := by decide +kernel
theorem dX7_alterCode_49 : decode cX7_alterCode 49 = .ok (.ireturn, 1) := by decide +kernel
theorem dX7_reproCode_0 : decode cX7_reproCode 0 = .ok (.aload_n 0, 1) := by decide +kernel
theorem dX7_reproCode_1 : decode cX7_reproCode 1 = .ok (.iload_n 1, 1) := by decide +kernel
theorem dX7_reproCode_2 : decode cX7_reproCode 2 = .ok (.invokevirtual 25, 3) := by decide +kernel
theorem dX7_reproCode_5 : decode cX7_reproCode 5 = .ok (.astore_n 3, 1) := by decide +kernel
theorem dX7_reproCode_6 : decode cX7_reproCode 6 = .ok (.aload_n 0, 1) := by decide +kernel
theorem dX7_reproCode_7 : decode cX7_reproCode 7 = .ok (.iload_n 2, 1) := by decide +kernel
theorem dX7_reproCode_8 : decode cX7_reproCode 8 = .ok (.invokevirtual 25, 3) := by decide +kernel
theorem dX7_reproCode_11 : decode cX7_reproCode 11 = .ok (.astore 4, 2) := by decide +kernel
theorem dX7_reproCode_13 : decode cX7_reproCode 13 = .ok (.aload_n 3, 1) := by decide +kernel
theorem dX7_reproCode_14 : decode cX7_reproCode 14 = .ok (.ifnull 8, 3) := by decide +kernel
theorem dX7_reproCode_17 : decode cX7_reproCode 17 = .ok (.aload 4, 2) := by decide +kernel
theorem dX7_reproCode_19 : decode cX7_reproCode 19 = .ok (.ifnonnull 6, 3) := by decide +kernel
theorem dX7_reproCode_22 : decode cX7_reproCode 22 = .ok (.bipush (-2), 2) := by decide +kernel
theorem dX7_reproCode_24 : decode cX7_reproCode 24 = .ok (.ireturn, 1) := by decide +kernel
theorem dX7_reproCode_25 : decode cX7_reproCode 25 = .ok (.iload_n 1, 1) := by decide +kernel
theorem dX7_reproCode_26 : decode cX7_reproCode 26 = .ok (.iload_n 2, 1) := by decide +kernel
theorem dX7_reproCode_27 : decode cX7_reproCode 27 = .ok (.if_icmp .ne 6, 3) := by decide +kernel
theorem dX7_reproCode_30 : decode cX7_reproCode 30 = .ok (.bipush 8, 2) := by decide +kernel
theorem dX7_reproCode_32 : decode cX7_reproCode 32 = .ok (.ireturn, 1) := by decide +kernel
theorem dX7_reproCode_33 : decode cX7_reproCode 33 = .ok (.aload 4, 2) := by decide +kernel
theorem dX7_reproCode_35 : decode cX7_reproCode 35 = .ok (.aload_n 3, 1) := by decide +kernel
theorem dX7_reproCode_36 : decode cX7_reproCode 36 = .ok (.invokevirtual 46, 3) := by decide +kernel
theorem dX7_reproCode_39 : decode cX7_reproCode 39 = .ok (.invokevirtual 50, 3) := by decide +kernel
theorem dX7_reproCode_42 : decode cX7_reproCode 42 = .ok (.ifCond .ne 6, 3) := by decide +kernel
theorem dX7_reproCode_45 : decode cX7_reproCode 45 = .ok (.bipush 12, 2) := by decide +kernel
theorem dX7_reproCode_47 : decode cX7_reproCode 47 = .ok (.ireturn, 1) := by decide +kernel
theorem dX7_reproCode_48 : decode cX7_reproCode 48 = .ok (.aload_n 3, 1) := by decide +kernel
theorem dX7_reproCode_49 : decode cX7_reproCode 49 = .ok (.invokevirtual 46, 3) := by decide +kernel
theorem dX7_reproCode_52 : decode cX7_reproCode 52 = .ok (.ifCond .ne 7, 3) := by decide +kernel
theorem dX7_reproCode_55 : decode cX7_reproCode 55 = .ok (.iconst 4, 1) := by decide +kernel
theorem dX7_reproCode_56 : decode cX7_reproCode 56 = .ok (.goto 4, 3) := by decide +kernel
theorem dX7_reproCode_59 : decode cX7_reproCode 59 = .ok (.iconst 0, 1) := by decide +kernel
theorem dX7_reproCode_60 : decode cX7_reproCode 60 = .ok (.ireturn, 1) := by decide +kernel
theorem dX7_generateCode_0 : decode cX7_generateCode 0 = .ok (.aload_n 0, 1) := by decide +kernel
theorem dX7_generateCode_1 : decode cX7_generateCode 1 = .ok (.iload_n 1, 1) := by decide +kernel
theorem dX7_generateCode_2 : decode cX7_generateCode 2 = .ok (.invokevirtual 25, 3) := by decide +kernel
theorem dX7_generateCode_5 : decode cX7_generateCode 5 = .ok (.astore_n 3, 1) := by decide +kernel
theorem dX7_generateCode_6 : decode cX7_generateCode 6 = .ok (.aload_n 3, 1) := by decide +kernel
theorem dX7_generateCode_7 : decode cX7_generateCode 7 = .ok (.ifnonnull 6, 3) := by decide +kernel
theorem dX7_generateCode_10 : decode cX7_generateCode 10 = .ok (.bipush (-2), 2) := by decide +kernel
theorem dX7_generateCode_12 : decode cX7_generateCode 12 = .ok (.ireturn, 1) := by decide +kernel
theorem dX7_generateCode_13 : decode cX7_generateCode 13 = .ok (.iload_n 2, 1) := by decide +kernel
theorem dX7_generateCode_14 : decode cX7_generateCode 14 = .ok (.iconst 1, 1) := by decide +kernel
theorem dX7_generateCode_15 : decode cX7_generateCode 15 = .ok (.if_icmp .lt 9, 3) := by decide +kernel
theorem dX7_generateCode_18 : decode cX7_generateCode 18 = .ok (.iload_n 2, 1) := by decide +kernel
theorem dX7_generateCode_19 : decode cX7_generateCode 19 = .ok (.bipush 60, 2) := by decide +kernel
theorem dX7_generateCode_21 : decode cX7_generateCode 21 = .ok (.if_icmp .le 6, 3) := by decide +kernel
theorem dX7_generateCode_24 : decode cX7_generateCode 24 = .ok (.bipush (-4), 2) := by decide +kernel
theorem dX7_generateCode_26 : decode cX7_generateCode 26 = .ok (.ireturn, 1) := by decide +kernel
theorem dX7_generateCode_27 : decode cX7_generateCode 27 = .ok (.aload_n 3, 1) := by decide +kernel
theorem dX7_generateCode_28 : decode cX7_generateCode 28 = .ok (.iload_n 2, 1) := by decide +kernel
theorem dX7_generateCode_29 : decode cX7_generateCode 29 = .ok (.invokevirtual 50, 3) := by decide +kernel
theorem dX7_generateCode_32 : decode cX7_generateCode 32 = .ok (.ifCond .eq 7, 3) := by decide +kernel
theorem dX7_generateCode_35 : decode cX7_generateCode 35 = .ok (.iconst 0, 1) := by decide +kernel
theorem dX7_generateCode_36 : decode cX7_generateCode 36 = .ok (.goto 5, 3) := by decide +kernel
theorem dX7_generateCode_39 : decode cX7_generateCode 39 = .ok (.bipush 12, 2) := by decide +kernel
theorem dX7_generateCode_41 : decode cX7_generateCode 41 = .ok (.ireturn, 1) := by decide +kernel
theorem dX7_verifyCode_0 : decode cX7_verifyCode 0 = .ok (.aload_n 0, 1) := by decide +kernel
theorem dX7_verifyCode_1 : decode cX7_verifyCode 1 = .ok (.iload_n 1, 1) := by decide +kernel
theorem dX7_verifyCode_2 : decode cX7_verifyCode 2 = .ok (.invokevirtual 25, 3) := by decide +kernel
theorem dX7_verifyCode_5 : decode cX7_verifyCode 5 = .ok (.astore_n 2, 1) := by decide +kernel
theorem dX7_verifyCode_6 : decode cX7_verifyCode 6 = .ok (.aload_n 2, 1) := by decide +kernel
theorem dX7_verifyCode_7 : decode cX7_verifyCode 7 = .ok (.ifnonnull 6, 3) := by decide +kernel
theorem dX7_verifyCode_10 : decode cX7_verifyCode 10 = .ok (.bipush (-2), 2) := by decide +kernel
theorem dX7_verifyCode_12 : decode cX7_verifyCode 12 = .ok (.ireturn, 1) := by decide +kernel
theorem dX7_verifyCode_13 : decode cX7_verifyCode 13 = .ok (.aload_n 2, 1) := by decide +kernel
theorem dX7_verifyCode_14 : decode cX7_verifyCode 14 = .ok (.invokevirtual 53, 3) := by decide +kernel
theorem dX7_verifyCode_17 : decode cX7_verifyCode 17 = .ok (.ifCond .eq 7, 3) := by decide +kernel
theorem dX7_verifyCode_20 : decode cX7_verifyCode 20 = .ok (.iconst 4, 1) := by decide +kernel
theorem dX7_verifyCode_21 : decode cX7_verifyCode 21 = .ok (.goto 4, 3) := by decide +kernel
theorem dX7_verifyCode_24 : decode cX7_verifyCode 24 = .ok (.iconst 0, 1) := by decide +kernel
theorem dX7_verifyCode_25 : decode cX7_verifyCode 25 = .ok (.ireturn, 1) := by decide +kernel
theorem dX7_canTakeOver_0 : decode cX7_canTakeOver 0 = .ok (.aload_n 0, 1) := by decide +kernel
theorem dX7_canTakeOver_1 : decode cX7_canTakeOver 1 = .ok (.iload_n 1, 1) := by decide +kernel
theorem dX7_canTakeOver_2 : decode cX7_canTakeOver 2 = .ok (.invokevirtual 43, 3) := by decide +kernel
theorem dX7_canTakeOver_5 : decode cX7_canTakeOver 5 = .ok (.astore_n 2, 1) := by decide +kernel
theorem dX7_canTakeOver_6 : decode cX7_canTakeOver 6 = .ok (.aload_n 2, 1) := by decide +kernel
theorem dX7_canTakeOver_7 : decode cX7_canTakeOver 7 = .ok (.ifnonnull 10, 3) := by decide +kernel
theorem dX7_canTakeOver_10 : decode cX7_canTakeOver 10 = .ok (.aload_n 0, 1) := by decide +kernel
theorem dX7_canTakeOver_11 : decode cX7_canTakeOver 11 = .ok (.invokevirtual 29, 3) := by decide +kernel
theorem dX7_canTakeOver_14 : decode cX7_canTakeOver 14 = .ok (.goto 15, 3) := by decide +kernel
theorem dX7_canTakeOver_17 : decode cX7_canTakeOver 17 = .ok (.aload_n 2, 1) := by decide +kernel
theorem dX7_canTakeOver_18 : decode cX7_canTakeOver 18 = .ok (.invokevirtual 36, 3) := by decide +kernel
theorem dX7_canTakeOver_21 : decode cX7_canTakeOver 21 = .ok (.ifCond .ne 7, 3) := by decide +kernel
theorem dX7_canTakeOver_24 : decode cX7_canTakeOver 24 = .ok (.iconst 1, 1) := by decide +kernel
theorem dX7_canTakeOver_25 : decode cX7_canTakeOver 25 = .ok (.goto 4, 3) := by decide +kernel
theorem dX7_canTakeOver_28 : decode cX7_canTakeOver 28 = .ok (.iconst 0, 1) := by decide +kernel
theorem dX7_canTakeOver_29 : decode cX7_canTakeOver 29 = .ok (.ireturn, 1) := by decide +kernel
theorem dX7_takeOver_0 : decode cX7_takeOver 0 = .ok (.aload_n 1, 1) := by decide +kernel
theorem dX7_takeOver_1 : decode cX7_takeOver 1 = .ok (.iconst 1, 1) := by decide +kernel
theorem dX7_takeOver_2 : decode cX7_takeOver 2 = .ok (.invokevirtual 56, 3) := by decide +kernel
theorem dX7_takeOver_5 : decode cX7_takeOver 5 = .ok (.istore_n 2, 1) := by decide +kernel
theorem dX7_takeOver_6 : decode cX7_takeOver 6 = .ok (.aload_n 0, 1) := by decide +kernel
theorem dX7_takeOver_7 : decode cX7_takeOver 7 = .ok (.iload_n 2, 1) := by decide +kernel
theorem dX7_takeOver_8 : decode cX7_takeOver 8 = .ok (.invokevirtual 61, 3) := by decide +kernel
theorem dX7_takeOver_11 : decode cX7_takeOver 11 = .ok (.ifCond .ne 5, 3) := by decide +kernel
theorem dX7_takeOver_14 : decode cX7_takeOver 14 = .ok (.iconst (-1), 1) := by decide +kernel
theorem dX7_takeOver_15 : decode cX7_takeOver 15 = .ok (.ireturn, 1) := by decide +kernel
theorem dX7_takeOver_16 : decode cX7_takeOver 16 = .ok (.aload_n 0, 1) := by decide +kernel
theorem dX7_takeOver_17 : decode cX7_takeOver 17 = .ok (.iload_n 2, 1) := by decide +kernel
theorem dX7_takeOver_18 : decode cX7_takeOver 18 = .ok (.invokevirtual 21, 3) := by decide +kernel
theorem dX7_takeOver_21 : decode cX7_takeOver 21 = .ok (.istore_n 3, 1) := by decide +kernel
theorem dX7_takeOver_22 : decode cX7_takeOver 22 = .ok (.iload_n 3, 1) := by decide +kernel
theorem dX7_takeOver_23 : decode cX7_takeOver 23 = .ok (.ifCond .ne 12, 3) := by decide +kernel
theorem dX7_takeOver_26 : decode cX7_takeOver 26 = .ok (.aload_n 0, 1) := by decide +kernel
theorem dX7_takeOver_27 : decode cX7_takeOver 27 = .ok (.iload_n 2, 1) := by decide +kernel
theorem dX7_takeOver_28 : decode cX7_takeOver 28 = .ok (.iconst 0, 1) := by decide +kernel
theorem dX7_takeOver_29 : decode cX7_takeOver 29 = .ok (.invokevirtual 64, 3) := by decide +kernel
theorem dX7_takeOver_32 : decode cX7_takeOver 32 = .ok (.goto 4, 3) := by decide +kernel
theorem dX7_takeOver_35 : decode cX7_takeOver 35 = .ok (.iload_n 3, 1) := by decide +kernel
theorem dX7_takeOver_36 : decode cX7_takeOver 36 = .ok (.istore 4, 2) := by decide +kernel
theorem dX7_takeOver_38 : decode cX7_takeOver 38 = .ok (.aload_n 0, 1) := by decide +kernel
theorem dX7_takeOver_39 : decode cX7_takeOver 39 = .ok (.iload 4, 2) := by decide +kernel
theorem dX7_takeOver_41 : decode cX7_takeOver 41 = .ok (.invokevirtual 25, 3) := by decide +kernel
theorem dX7_takeOver_44 : decode cX7_takeOver 44 = .ok (.astore 5, 2) := by decide +kernel
theorem dX7_takeOver_46 : decode cX7_takeOver 46 = .ok (.aload 5, 2) := by decide +kernel
theorem dX7_takeOver_48 : decode cX7_takeOver 48 = .ok (.ifnull 9, 3) := by decide +kernel
theorem dX7_takeOver_51 : decode cX7_takeOver 51 = .ok (.aload 5, 2) := by decide +kernel
theorem dX7_takeOver_53 : decode cX7_takeOver 53 = .ok (.aload_n 1, 1) := by decide +kernel
theorem dX7_takeOver_54 : decode cX7_takeOver 54 = .ok (.invokevirtual 68, 3) := by decide +kernel
theorem dX7_takeOver_57 : decode cX7_takeOver 57 = .ok (.iload 4, 2) := by decide +kernel
theorem dX7_takeOver_59 : decode cX7_takeOver 59 = .ok (.ireturn, 1) := by decide +kernel
theorem dX7_hasRoom_0 : decode cX7_hasRoom 0 = .ok (.aload_n 0, 1) := by decide +kernel
theorem dX7_hasRoom_1 : decode cX7_hasRoom 1 = .ok (.getfield 17, 3) := by decide +kernel
theorem dX7_hasRoom_4 : decode cX7_hasRoom 4 = .ok (.bipush 20, 2) := by decide +kernel
theorem dX7_hasRoom_6 : decode cX7_hasRoom 6 = .ok (.if_icmp .ge 7, 3) := by decide +kernel
theorem dX7_hasRoom_9 : decode cX7_hasRoom 9 = .ok (.iconst 1, 1) := by decide +kernel
theorem dX7_hasRoom_10 : decode cX7_hasRoom 10 = .ok (.goto 4, 3) := by decide +kernel
theorem dX7_hasRoom_13 : decode cX7_hasRoom 13 = .ok (.iconst 0, 1) := by decide +kernel
theorem dX7_hasRoom_14 : decode cX7_hasRoom 14 = .ok (.ireturn, 1) := by decide +kernel
theorem dX7_numberOf_0 : decode cX7_numberOf 0 = .ok (.iconst 0, 1) := by decide +kernel
theorem dX7_numberOf_1 : decode cX7_numberOf 1 = .ok (.istore_n 2, 1) := by decide +kernel
theorem dX7_numberOf_2 : decode cX7_numberOf 2 = .ok (.iload_n 2, 1) := by decide +kernel
theorem dX7_numberOf_3 : decode cX7_numberOf 3 = .ok (.aload_n 0, 1) := by decide +kernel
theorem dX7_numberOf_4 : decode cX7_numberOf 4 = .ok (.getfield 17, 3) := by decide +kernel
theorem dX7_numberOf_7 : decode cX7_numberOf 7 = .ok (.if_icmp .ge 32, 3) := by decide +kernel
theorem dX7_numberOf_10 : decode cX7_numberOf 10 = .ok (.aload_n 0, 1) := by decide +kernel
theorem dX7_numberOf_11 : decode cX7_numberOf 11 = .ok (.getfield 11, 3) := by decide +kernel
theorem dX7_numberOf_14 : decode cX7_numberOf 14 = .ok (.iload_n 2, 1) := by decide +kernel
theorem dX7_numberOf_15 : decode cX7_numberOf 15 = .ok (.aaload, 1) := by decide +kernel
theorem dX7_numberOf_16 : decode cX7_numberOf 16 = .ok (.astore_n 3, 1) := by decide +kernel
theorem dX7_numberOf_17 : decode cX7_numberOf 17 = .ok (.aload_n 3, 1) := by decide +kernel
theorem dX7_numberOf_18 : decode cX7_numberOf 18 = .ok (.ifnull 15, 3) := by decide +kernel
theorem dX7_numberOf_21 : decode cX7_numberOf 21 = .ok (.aload_n 3, 1) := by decide +kernel
theorem dX7_numberOf_22 : decode cX7_numberOf 22 = .ok (.iload_n 1, 1) := by decide +kernel
theorem dX7_numberOf_23 : decode cX7_numberOf 23 = .ok (.invokevirtual 72, 3) := by decide +kernel
theorem dX7_numberOf_26 : decode cX7_numberOf 26 = .ok (.ifCond .eq 7, 3) := by decide +kernel
theorem dX7_numberOf_29 : decode cX7_numberOf 29 = .ok (.iload_n 2, 1) := by decide +kernel
theorem dX7_numberOf_30 : decode cX7_numberOf 30 = .ok (.iconst 1, 1) := by decide +kernel
theorem dX7_numberOf_31 : decode cX7_numberOf 31 = .ok (.iadd, 1) := by decide +kernel
theorem dX7_numberOf_32 : decode cX7_numberOf 32 = .ok (.ireturn, 1) := by decide +kernel
theorem dX7_numberOf_33 : decode cX7_numberOf 33 = .ok (.iinc 2 1, 3) := by decide +kernel
theorem dX7_numberOf_36 : decode cX7_numberOf 36 = .ok (.goto (-34), 3) := by decide +kernel
theorem dX7_numberOf_39 : decode cX7_numberOf 39 = .ok (.iconst 0, 1) := by decide +kernel
theorem dX7_numberOf_40 : decode cX7_numberOf 40 = .ok (.ireturn, 1) := by decide +kernel
theorem dX8_init_0 : decode cX8_init 0 = .ok (.aload_n 0, 1) := by decide +kernel
theorem dX8_init_1 : decode cX8_init 1 = .ok (.invokespecial 3, 3) := by decide +kernel
theorem dX8_init_4 : decode cX8_init 4 = .ok (.return_, 1) := by decide +kernel
theorem dX8_greatestCode_0 : decode cX8_greatestCode 0 = .ok (.aload_n 0, 1) := by decide +kernel
theorem dX8_greatestCode_1 : decode cX8_greatestCode 1 = .ok (.getfield 9, 3) := by decide +kernel
theorem dX8_greatestCode_4 : decode cX8_greatestCode 4 = .ok (.ireturn, 1) := by decide +kernel
theorem dX8_beginAnew_0 : decode cX8_beginAnew 0 = .ok (.aload_n 0, 1) := by decide +kernel
theorem dX8_beginAnew_1 : decode cX8_beginAnew 1 = .ok (.getfield 9, 3) := by decide +kernel
theorem dX8_beginAnew_4 : decode cX8_beginAnew 4 = .ok (.istore_n 1, 1) := by decide +kernel
theorem dX8_beginAnew_5 : decode cX8_beginAnew 5 = .ok (.aload_n 0, 1) := by decide +kernel
theorem dX8_beginAnew_6 : decode cX8_beginAnew 6 = .ok (.iconst 0, 1) := by decide +kernel
theorem dX8_beginAnew_7 : decode cX8_beginAnew 7 = .ok (.putfield 9, 3) := by decide +kernel
theorem dX8_beginAnew_10 : decode cX8_beginAnew 10 = .ok (.iload_n 1, 1) := by decide +kernel
theorem dX8_beginAnew_11 : decode cX8_beginAnew 11 = .ok (.ireturn, 1) := by decide +kernel
theorem dX8_turnDry_0 : decode cX8_turnDry 0 = .ok (.aload_n 0, 1) := by decide +kernel
theorem dX8_turnDry_1 : decode cX8_turnDry 1 = .ok (.iload_n 1, 1) := by decide +kernel
theorem dX8_turnDry_2 : decode cX8_turnDry 2 = .ok (.putfield 15, 3) := by decide +kernel
theorem dX8_turnDry_5 : decode cX8_turnDry 5 = .ok (.aload_n 0, 1) := by decide +kernel
theorem dX8_turnDry_6 : decode cX8_turnDry 6 = .ok (.getfield 19, 3) := by decide +kernel
theorem dX8_turnDry_9 : decode cX8_turnDry 9 = .ok (.ireturn, 1) := by decide +kernel
theorem dX8_carriesOut_0 : decode cX8_carriesOut 0 = .ok (.iload_n 1, 1) := by decide +kernel
theorem dX8_carriesOut_1 : decode cX8_carriesOut 1 = .ok (.ifCond .ge 5, 3) := by decide +kernel
theorem dX8_carriesOut_4 : decode cX8_carriesOut 4 = .ok (.iconst 0, 1) := by decide +kernel
theorem dX8_carriesOut_5 : decode cX8_carriesOut 5 = .ok (.ireturn, 1) := by decide +kernel
theorem dX8_carriesOut_6 : decode cX8_carriesOut 6 = .ok (.aload_n 0, 1) := by decide +kernel
theorem dX8_carriesOut_7 : decode cX8_carriesOut 7 = .ok (.aload_n 0, 1) := by decide +kernel
theorem dX8_carriesOut_8 : decode cX8_carriesOut 8 = .ok (.getfield 9, 3) := by decide +kernel
theorem dX8_carriesOut_11 : decode cX8_carriesOut 11 = .ok (.iload_n 1, 1) := by decide +kernel
theorem dX8_carriesOut_12 : decode cX8_carriesOut 12 = .ok (.invokestatic 22, 3) := by decide +kernel
theorem dX8_carriesOut_15 : decode cX8_carriesOut 15 = .ok (.putfield 9, 3) := by decide +kernel
theorem dX8_carriesOut_18 : decode cX8_carriesOut 18 = .ok (.aload_n 0, 1) := by decide +kernel
theorem dX8_carriesOut_19 : decode cX8_carriesOut 19 = .ok (.getfield 15, 3) := by decide +kernel
theorem dX8_carriesOut_22 : decode cX8_carriesOut 22 = .ok (.ifCond .eq 15, 3) := by decide +kernel
theorem dX8_carriesOut_25 : decode cX8_carriesOut 25 = .ok (.aload_n 0, 1) := by decide +kernel
theorem dX8_carriesOut_26 : decode cX8_carriesOut 26 = .ok (.dup, 1) := by decide +kernel
theorem dX8_carriesOut_27 : decode cX8_carriesOut 27 = .ok (.getfield 19, 3) := by decide +kernel
theorem dX8_carriesOut_30 : decode cX8_carriesOut 30 = .ok (.iconst 1, 1) := by decide +kernel
theorem dX8_carriesOut_31 : decode cX8_carriesOut 31 = .ok (.iadd, 1) := by decide +kernel
theorem dX8_carriesOut_32 : decode cX8_carriesOut 32 = .ok (.putfield 19, 3) := by decide +kernel
theorem dX8_carriesOut_35 : decode cX8_carriesOut 35 = .ok (.iconst 0, 1) := by decide +kernel
theorem dX8_carriesOut_36 : decode cX8_carriesOut 36 = .ok (.ireturn, 1) := by decide +kernel
theorem dX8_carriesOut_37 : decode cX8_carriesOut 37 = .ok (.iload_n 1, 1) := by decide +kernel
theorem dX8_carriesOut_38 : decode cX8_carriesOut 38 = .ok (.ifCond .eq 8, 3) := by decide +kernel
theorem dX8_carriesOut_41 : decode cX8_carriesOut 41 = .ok (.iload_n 1, 1) := by decide +kernel
theorem dX8_carriesOut_42 : decode cX8_carriesOut 42 = .ok (.iconst 4, 1) := by decide +kernel
theorem dX8_carriesOut_43 : decode cX8_carriesOut 43 = .ok (.if_icmp .ne 7, 3) := by decide +kernel
theorem dX8_carriesOut_46 : decode cX8_carriesOut 46 = .ok (.iconst 1, 1) := by decide +kernel
theorem dX8_carriesOut_47 : decode cX8_carriesOut 47 = .ok (.goto 4, 3) := by decide +kernel
theorem dX8_carriesOut_50 : decode cX8_carriesOut 50 = .ok (.iconst 0, 1) := by decide +kernel
theorem dX8_carriesOut_51 : decode cX8_carriesOut 51 = .ok (.ireturn, 1) := by decide +kernel

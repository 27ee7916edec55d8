theorem at_0_0 : am_code 0 0 = some (ai_iload 0 1) := rfl
theorem at_0_1 : am_code 0 1 = some (ai_iload 1 2) := rfl
theorem at_0_2 : am_code 0 2 = some (ai_icmp (fun x y => x < y) 9 5) := rfl
theorem at_0_5 : am_code 0 5 = some (ai_iload 0 6) := rfl
theorem at_0_6 : am_code 0 6 = some (ai_goto 10) := rfl
theorem at_0_9 : am_code 0 9 = some (ai_iload 1 10) := rfl
theorem at_0_10 : am_code 0 10 = some (ai_iret) := rfl
theorem at_1_0 : am_code 1 0 = some (ai_aload 0 1) := rfl
theorem at_1_1 : am_code 1 1 = some (ai_oinit 4) := rfl
theorem at_1_4 : am_code 1 4 = some (ai_aload 0 5) := rfl
theorem at_1_5 : am_code 1 5 = some (ai_iload 1 6) := rfl
theorem at_1_6 : am_code 1 6 = some (ai_putI 22 0 9) := rfl
theorem at_1_9 : am_code 1 9 = some (ai_aload 0 10) := rfl
theorem at_1_10 : am_code 1 10 = some (ai_iload 2 11) := rfl
theorem at_1_11 : am_code 1 11 = some (ai_putI 22 1 14) := rfl
theorem at_1_14 : am_code 1 14 = some (ai_aload 0 15) := rfl
theorem at_1_15 : am_code 1 15 = some (ai_iload 3 16) := rfl
theorem at_1_16 : am_code 1 16 = some (ai_putI 22 2 19) := rfl
theorem at_1_19 : am_code 1 19 = some (ai_ret) := rfl
theorem at_2_0 : am_code 2 0 = some (ai_push 8 2) := rfl
theorem at_2_2 : am_code 2 2 = some (ai_aload 0 3) := rfl
theorem at_2_3 : am_code 2 3 = some (ai_getI 22 1 6) := rfl
theorem at_2_6 : am_code 2 6 = some (ai_bin (fun x y => x - y) 7) := rfl
theorem at_2_7 : am_code 2 7 = some (ai_istore 2 8) := rfl
theorem at_2_8 : am_code 2 8 = some (ai_iload 1 9) := rfl
theorem at_2_9 : am_code 2 9 = some (ai_iload 2 10) := rfl
theorem at_2_10 : am_code 2 10 = some (ai_bin (fun x y => x >>> (y &&& 31)) 11) := rfl
theorem at_2_11 : am_code 2 11 = some (ai_aload 0 12) := rfl
theorem at_2_12 : am_code 2 12 = some (ai_getI 22 0 15) := rfl
theorem at_2_15 : am_code 2 15 = some (ai_iload 2 16) := rfl
theorem at_2_16 : am_code 2 16 = some (ai_bin (fun x y => x >>> (y &&& 31)) 17) := rfl
theorem at_2_17 : am_code 2 17 = some (ai_icmp (fun x y => ¬ x = y) 24 20) := rfl
theorem at_2_20 : am_code 2 20 = some (ai_push 1 21) := rfl
theorem at_2_21 : am_code 2 21 = some (ai_goto 25) := rfl
theorem at_2_24 : am_code 2 24 = some (ai_push 0 25) := rfl
theorem at_2_25 : am_code 2 25 = some (ai_zret) := rfl
theorem at_3_0 : am_code 3 0 = some (ai_aload 0 1) := rfl
theorem at_3_1 : am_code 3 1 = some (ai_ifnull 8 4) := rfl
theorem at_3_4 : am_code 3 4 = some (ai_aload 1 5) := rfl
theorem at_3_5 : am_code 3 5 = some (ai_ifnonnull 22 8) := rfl
theorem at_3_8 : am_code 3 8 = some (ai_aload 0 9) := rfl
theorem at_3_9 : am_code 3 9 = some (ai_ifnonnull 20 12) := rfl
theorem at_3_12 : am_code 3 12 = some (ai_aload 1 13) := rfl
theorem at_3_13 : am_code 3 13 = some (ai_ifnonnull 20 16) := rfl
theorem at_3_16 : am_code 3 16 = some (ai_push 1 17) := rfl
theorem at_3_17 : am_code 3 17 = some (ai_goto 21) := rfl
theorem at_3_20 : am_code 3 20 = some (ai_push 0 21) := rfl
theorem at_3_21 : am_code 3 21 = some (ai_zret) := rfl
theorem at_3_22 : am_code 3 22 = some (ai_aload 0 23) := rfl
theorem at_3_23 : am_code 3 23 = some (ai_getI 22 0 26) := rfl
theorem at_3_26 : am_code 3 26 = some (ai_aload 1 27) := rfl
theorem at_3_27 : am_code 3 27 = some (ai_getI 22 0 30) := rfl
theorem at_3_30 : am_code 3 30 = some (ai_icmp (fun x y => ¬ x = y) 59 33) := rfl
theorem at_3_33 : am_code 3 33 = some (ai_aload 0 34) := rfl
theorem at_3_34 : am_code 3 34 = some (ai_getI 22 1 37) := rfl
theorem at_3_37 : am_code 3 37 = some (ai_aload 1 38) := rfl
theorem at_3_38 : am_code 3 38 = some (ai_getI 22 1 41) := rfl
theorem at_3_41 : am_code 3 41 = some (ai_icmp (fun x y => ¬ x = y) 59 44) := rfl
theorem at_3_44 : am_code 3 44 = some (ai_aload 0 45) := rfl
theorem at_3_45 : am_code 3 45 = some (ai_getI 22 2 48) := rfl
theorem at_3_48 : am_code 3 48 = some (ai_aload 1 49) := rfl
theorem at_3_49 : am_code 3 49 = some (ai_getI 22 2 52) := rfl
theorem at_3_52 : am_code 3 52 = some (ai_icmp (fun x y => ¬ x = y) 59 55) := rfl
theorem at_3_55 : am_code 3 55 = some (ai_push 1 56) := rfl
theorem at_3_56 : am_code 3 56 = some (ai_goto 60) := rfl
theorem at_3_59 : am_code 3 59 = some (ai_push 0 60) := rfl
theorem at_3_60 : am_code 3 60 = some (ai_zret) := rfl
theorem at_4_0 : am_code 4 0 = some (ai_aload 0 1) := rfl
theorem at_4_1 : am_code 4 1 = some (ai_oinit 4) := rfl
theorem at_4_4 : am_code 4 4 = some (ai_aload 0 5) := rfl
theorem at_4_5 : am_code 4 5 = some (ai_iload 1 6) := rfl
theorem at_4_6 : am_code 4 6 = some (ai_putI 19 0 9) := rfl
theorem at_4_9 : am_code 4 9 = some (ai_aload 0 10) := rfl
theorem at_4_10 : am_code 4 10 = some (ai_iload 2 11) := rfl
theorem at_4_11 : am_code 4 11 = some (ai_putI 19 1 14) := rfl
theorem at_4_14 : am_code 4 14 = some (ai_aload 0 15) := rfl
theorem at_4_15 : am_code 4 15 = some (ai_iload 3 16) := rfl
theorem at_4_16 : am_code 4 16 = some (ai_putI 19 2 19) := rfl
theorem at_4_19 : am_code 4 19 = some (ai_aload 0 20) := rfl
theorem at_4_20 : am_code 4 20 = some (ai_push 5 21) := rfl
theorem at_4_21 : am_code 4 21 = some (ai_newa 20 5 23) := rfl
theorem at_4_23 : am_code 4 23 = some (ai_putP 19 3 26) := rfl
theorem at_4_26 : am_code 4 26 = some (ai_push 0 27) := rfl
theorem at_4_27 : am_code 4 27 = some (ai_istore 6 29) := rfl
theorem at_4_29 : am_code 4 29 = some (ai_iload 6 31) := rfl
theorem at_4_31 : am_code 4 31 = some (ai_push 5 32) := rfl
theorem at_4_32 : am_code 4 32 = some (ai_icmp (fun x y => y ≤ x) 56 35) := rfl
theorem at_4_35 : am_code 4 35 = some (ai_aload 0 36) := rfl
theorem at_4_36 : am_code 4 36 = some (ai_getP 19 3 39) := rfl
theorem at_4_39 : am_code 4 39 = some (ai_iload 6 41) := rfl
theorem at_4_41 : am_code 4 41 = some (ai_aload 4 43) := rfl
theorem at_4_43 : am_code 4 43 = some (ai_iload 6 45) := rfl
theorem at_4_45 : am_code 4 45 = some (ai_aald 6 5 46) := rfl
theorem at_4_46 : am_code 4 46 = some (ai_callV 13 7 0 49) := rfl
theorem at_4_49 : am_code 4 49 = some (ai_ast 20 5 50) := rfl
theorem at_4_50 : am_code 4 50 = some (ai_iinc 6 1 53) := rfl
theorem at_4_53 : am_code 4 53 = some (ai_goto 29) := rfl
theorem at_4_56 : am_code 4 56 = some (ai_aload 0 57) := rfl
theorem at_4_57 : am_code 4 57 = some (ai_push 2 58) := rfl
theorem at_4_58 : am_code 4 58 = some (ai_newa 21 2 61) := rfl
theorem at_4_61 : am_code 4 61 = some (ai_putP 19 4 64) := rfl
theorem at_4_64 : am_code 4 64 = some (ai_push 0 65) := rfl
theorem at_4_65 : am_code 4 65 = some (ai_istore 6 67) := rfl
theorem at_4_67 : am_code 4 67 = some (ai_iload 6 69) := rfl
theorem at_4_69 : am_code 4 69 = some (ai_push 2 70) := rfl
theorem at_4_70 : am_code 4 70 = some (ai_icmp (fun x y => y ≤ x) 91 73) := rfl
theorem at_4_73 : am_code 4 73 = some (ai_aload 0 74) := rfl
theorem at_4_74 : am_code 4 74 = some (ai_getP 19 4 77) := rfl
theorem at_4_77 : am_code 4 77 = some (ai_iload 6 79) := rfl
theorem at_4_79 : am_code 4 79 = some (ai_aload 5 81) := rfl
theorem at_4_81 : am_code 4 81 = some (ai_iload 6 83) := rfl
theorem at_4_83 : am_code 4 83 = some (ai_aald 4 2 84) := rfl
theorem at_4_84 : am_code 4 84 = some (ai_aast 21 2 22 85) := rfl
theorem at_4_85 : am_code 4 85 = some (ai_iinc 6 1 88) := rfl
theorem at_4_88 : am_code 4 88 = some (ai_goto 67) := rfl
theorem at_4_91 : am_code 4 91 = some (ai_ret) := rfl
theorem at_5_0 : am_code 5 0 = some (ai_aload 0 1) := rfl
theorem at_5_1 : am_code 5 1 = some (ai_getI 19 1 4) := rfl
theorem at_5_4 : am_code 5 4 = some (ai_aload 1 5) := rfl
theorem at_5_5 : am_code 5 5 = some (ai_getI 19 1 8) := rfl
theorem at_5_8 : am_code 5 8 = some (ai_icmp (fun x y => y < x) 33 11) := rfl
theorem at_5_11 : am_code 5 11 = some (ai_aload 0 12) := rfl
theorem at_5_12 : am_code 5 12 = some (ai_getI 19 1 15) := rfl
theorem at_5_15 : am_code 5 15 = some (ai_aload 1 16) := rfl
theorem at_5_16 : am_code 5 16 = some (ai_getI 19 1 19) := rfl
theorem at_5_19 : am_code 5 19 = some (ai_icmp (fun x y => ¬ x = y) 37 22) := rfl
theorem at_5_22 : am_code 5 22 = some (ai_aload 0 23) := rfl
theorem at_5_23 : am_code 5 23 = some (ai_getI 19 2 26) := rfl
theorem at_5_26 : am_code 5 26 = some (ai_aload 1 27) := rfl
theorem at_5_27 : am_code 5 27 = some (ai_getI 19 2 30) := rfl
theorem at_5_30 : am_code 5 30 = some (ai_icmp (fun x y => x ≤ y) 37 33) := rfl
theorem at_5_33 : am_code 5 33 = some (ai_push 1 34) := rfl
theorem at_5_34 : am_code 5 34 = some (ai_goto 38) := rfl
theorem at_5_37 : am_code 5 37 = some (ai_push 0 38) := rfl
theorem at_5_38 : am_code 5 38 = some (ai_zret) := rfl
theorem at_6_0 : am_code 6 0 = some (ai_aload 0 1) := rfl
theorem at_6_1 : am_code 6 1 = some (ai_getI 19 1 4) := rfl
theorem at_6_4 : am_code 6 4 = some (ai_aload 1 5) := rfl
theorem at_6_5 : am_code 6 5 = some (ai_getI 19 1 8) := rfl
theorem at_6_8 : am_code 6 8 = some (ai_icmp (fun x y => ¬ x = y) 26 11) := rfl
theorem at_6_11 : am_code 6 11 = some (ai_aload 0 12) := rfl
theorem at_6_12 : am_code 6 12 = some (ai_getI 19 2 15) := rfl
theorem at_6_15 : am_code 6 15 = some (ai_aload 1 16) := rfl
theorem at_6_16 : am_code 6 16 = some (ai_getI 19 2 19) := rfl
theorem at_6_19 : am_code 6 19 = some (ai_icmp (fun x y => ¬ x = y) 26 22) := rfl
theorem at_6_22 : am_code 6 22 = some (ai_push 1 23) := rfl
theorem at_6_23 : am_code 6 23 = some (ai_goto 27) := rfl
theorem at_6_26 : am_code 6 26 = some (ai_push 0 27) := rfl
theorem at_6_27 : am_code 6 27 = some (ai_zret) := rfl
theorem at_7_0 : am_code 7 0 = some (ai_aload 0 1) := rfl
theorem at_7_1 : am_code 7 1 = some (ai_oinit 4) := rfl
theorem at_7_4 : am_code 7 4 = some (ai_aload 0 5) := rfl
theorem at_7_5 : am_code 7 5 = some (ai_push 5 6) := rfl
theorem at_7_6 : am_code 7 6 = some (ai_newa 8 5 8) := rfl
theorem at_7_8 : am_code 7 8 = some (ai_putP 7 8 11) := rfl
theorem at_7_11 : am_code 7 11 = some (ai_aload 0 12) := rfl
theorem at_7_12 : am_code 7 12 = some (ai_callV 10 7 0 15) := rfl
theorem at_7_15 : am_code 7 15 = some (ai_ret) := rfl
theorem at_8_0 : am_code 8 0 = some (ai_aload 0 1) := rfl
theorem at_8_1 : am_code 8 1 = some (ai_iload 1 2) := rfl
theorem at_8_2 : am_code 8 2 = some (ai_putI 7 0 5) := rfl
theorem at_8_5 : am_code 8 5 = some (ai_iload 1 6) := rfl
theorem at_8_6 : am_code 8 6 = some (ai_if (fun x => ¬ x = 0) 18 9) := rfl
theorem at_8_9 : am_code 8 9 = some (ai_aload 0 10) := rfl
theorem at_8_10 : am_code 8 10 = some (ai_push 0 11) := rfl
theorem at_8_11 : am_code 8 11 = some (ai_putI 7 1 14) := rfl
theorem at_8_14 : am_code 8 14 = some (ai_aload 0 15) := rfl
theorem at_8_15 : am_code 8 15 = some (ai_callV 9 7 0 18) := rfl
theorem at_8_18 : am_code 8 18 = some (ai_ret) := rfl
theorem at_9_0 : am_code 9 0 = some (ai_aload 0 1) := rfl
theorem at_9_1 : am_code 9 1 = some (ai_push 0 2) := rfl
theorem at_9_2 : am_code 9 2 = some (ai_putZ 7 2 5) := rfl
theorem at_9_5 : am_code 9 5 = some (ai_aload 0 6) := rfl
theorem at_9_6 : am_code 9 6 = some (ai_push 0 7) := rfl
theorem at_9_7 : am_code 9 7 = some (ai_putI 7 4 10) := rfl
theorem at_9_10 : am_code 9 10 = some (ai_aload 0 11) := rfl
theorem at_9_11 : am_code 9 11 = some (ai_push 0 12) := rfl
theorem at_9_12 : am_code 9 12 = some (ai_putZ 7 5 15) := rfl
theorem at_9_15 : am_code 9 15 = some (ai_aload 0 16) := rfl
theorem at_9_16 : am_code 9 16 = some (ai_push 0 17) := rfl
theorem at_9_17 : am_code 9 17 = some (ai_putZ 7 6 20) := rfl
theorem at_9_20 : am_code 9 20 = some (ai_aload 0 21) := rfl
theorem at_9_21 : am_code 9 21 = some (ai_callV 10 7 0 24) := rfl
theorem at_9_24 : am_code 9 24 = some (ai_ret) := rfl
theorem at_10_0 : am_code 10 0 = some (ai_push 0 1) := rfl
theorem at_10_1 : am_code 10 1 = some (ai_istore 1 2) := rfl
theorem at_10_2 : am_code 10 2 = some (ai_iload 1 3) := rfl
theorem at_10_3 : am_code 10 3 = some (ai_push 5 4) := rfl
theorem at_10_4 : am_code 10 4 = some (ai_icmp (fun x y => y ≤ x) 21 7) := rfl
theorem at_10_7 : am_code 10 7 = some (ai_aload 0 8) := rfl
theorem at_10_8 : am_code 10 8 = some (ai_getP 7 8 11) := rfl
theorem at_10_11 : am_code 10 11 = some (ai_iload 1 12) := rfl
theorem at_10_12 : am_code 10 12 = some (ai_push (-2) 14) := rfl
theorem at_10_14 : am_code 10 14 = some (ai_ast 8 5 15) := rfl
theorem at_10_15 : am_code 10 15 = some (ai_iinc 1 1 18) := rfl
theorem at_10_18 : am_code 10 18 = some (ai_goto 2) := rfl
theorem at_10_21 : am_code 10 21 = some (ai_ret) := rfl
theorem at_11_0 : am_code 11 0 = some (ai_aload 0 1) := rfl
theorem at_11_1 : am_code 11 1 = some (ai_getP 7 8 4) := rfl
theorem at_11_4 : am_code 11 4 = some (ai_iload 1 5) := rfl
theorem at_11_5 : am_code 11 5 = some (ai_ald 8 5 6) := rfl
theorem at_11_6 : am_code 11 6 = some (ai_push (-2) 8) := rfl
theorem at_11_8 : am_code 11 8 = some (ai_icmp (fun x y => ¬ x = y) 18 11) := rfl
theorem at_11_11 : am_code 11 11 = some (ai_aload 0 12) := rfl
theorem at_11_12 : am_code 11 12 = some (ai_getP 7 8 15) := rfl
theorem at_11_15 : am_code 11 15 = some (ai_iload 1 16) := rfl
theorem at_11_16 : am_code 11 16 = some (ai_push (-1) 17) := rfl
theorem at_11_17 : am_code 11 17 = some (ai_ast 8 5 18) := rfl
theorem at_11_18 : am_code 11 18 = some (ai_ret) := rfl
theorem at_12_0 : am_code 12 0 = some (ai_aload 0 1) := rfl
theorem at_12_1 : am_code 12 1 = some (ai_getI 7 4 4) := rfl
theorem at_12_4 : am_code 12 4 = some (ai_iload 1 5) := rfl
theorem at_12_5 : am_code 12 5 = some (ai_push 5 6) := rfl
theorem at_12_6 : am_code 12 6 = some (ai_bin (fun x y => x - y) 7) := rfl
theorem at_12_7 : am_code 12 7 = some (ai_icmp (fun x y => y < x) 20 10) := rfl
theorem at_12_10 : am_code 12 10 = some (ai_aload 0 11) := rfl
theorem at_12_11 : am_code 12 11 = some (ai_push 0 12) := rfl
theorem at_12_12 : am_code 12 12 = some (ai_putZ 7 2 15) := rfl
theorem at_12_15 : am_code 12 15 = some (ai_aload 0 16) := rfl
theorem at_12_16 : am_code 12 16 = some (ai_push 0 17) := rfl
theorem at_12_17 : am_code 12 17 = some (ai_putZ 7 5 20) := rfl
theorem at_12_20 : am_code 12 20 = some (ai_aload 0 21) := rfl
theorem at_12_21 : am_code 12 21 = some (ai_getI 7 6 24) := rfl
theorem at_12_24 : am_code 12 24 = some (ai_istore 2 25) := rfl
theorem at_12_25 : am_code 12 25 = some (ai_aload 0 26) := rfl
theorem at_12_26 : am_code 12 26 = some (ai_aload 0 27) := rfl
theorem at_12_27 : am_code 12 27 = some (ai_getI 7 2 30) := rfl
theorem at_12_30 : am_code 12 30 = some (ai_if (fun x => x = 0) 44 33) := rfl
theorem at_12_33 : am_code 12 33 = some (ai_aload 0 34) := rfl
theorem at_12_34 : am_code 12 34 = some (ai_getI 7 5 37) := rfl
theorem at_12_37 : am_code 12 37 = some (ai_if (fun x => x = 0) 44 40) := rfl
theorem at_12_40 : am_code 12 40 = some (ai_push 1 41) := rfl
theorem at_12_41 : am_code 12 41 = some (ai_goto 45) := rfl
theorem at_12_44 : am_code 12 44 = some (ai_push 0 45) := rfl
theorem at_12_45 : am_code 12 45 = some (ai_putZ 7 6 48) := rfl
theorem at_12_48 : am_code 12 48 = some (ai_aload 0 49) := rfl
theorem at_12_49 : am_code 12 49 = some (ai_aload 0 50) := rfl
theorem at_12_50 : am_code 12 50 = some (ai_getI 7 6 53) := rfl
theorem at_12_53 : am_code 12 53 = some (ai_if (fun x => x = 0) 64 56) := rfl
theorem at_12_56 : am_code 12 56 = some (ai_iload 2 57) := rfl
theorem at_12_57 : am_code 12 57 = some (ai_if (fun x => ¬ x = 0) 64 60) := rfl
theorem at_12_60 : am_code 12 60 = some (ai_push 1 61) := rfl
theorem at_12_61 : am_code 12 61 = some (ai_goto 65) := rfl
theorem at_12_64 : am_code 12 64 = some (ai_push 0 65) := rfl
theorem at_12_65 : am_code 12 65 = some (ai_putZ 7 7 68) := rfl
theorem at_12_68 : am_code 12 68 = some (ai_aload 0 69) := rfl
theorem at_12_69 : am_code 12 69 = some (ai_getI 7 6 72) := rfl
theorem at_12_72 : am_code 12 72 = some (ai_if (fun x => ¬ x = 0) 79 75) := rfl
theorem at_12_75 : am_code 12 75 = some (ai_aload 0 76) := rfl
theorem at_12_76 : am_code 12 76 = some (ai_callV 10 7 0 79) := rfl
theorem at_12_79 : am_code 12 79 = some (ai_ret) := rfl
theorem at_13_0 : am_code 13 0 = some (ai_aload 0 1) := rfl
theorem at_13_1 : am_code 13 1 = some (ai_getI 7 6 4) := rfl
theorem at_13_4 : am_code 13 4 = some (ai_if (fun x => x = 0) 14 7) := rfl
theorem at_13_7 : am_code 13 7 = some (ai_aload 0 8) := rfl
theorem at_13_8 : am_code 13 8 = some (ai_getI 7 0 11) := rfl
theorem at_13_11 : am_code 13 11 = some (ai_goto 15) := rfl
theorem at_13_14 : am_code 13 14 = some (ai_push 0 15) := rfl
theorem at_13_15 : am_code 13 15 = some (ai_iret) := rfl
theorem at_14_0 : am_code 14 0 = some (ai_aload 0 1) := rfl
theorem at_14_1 : am_code 14 1 = some (ai_oinit 4) := rfl
theorem at_14_4 : am_code 14 4 = some (ai_aload 0 5) := rfl
theorem at_14_5 : am_code 14 5 = some (ai_iload 1 6) := rfl
theorem at_14_6 : am_code 14 6 = some (ai_putI 3 0 9) := rfl
theorem at_14_9 : am_code 14 9 = some (ai_aload 0 10) := rfl
theorem at_14_10 : am_code 14 10 = some (ai_push 1 11) := rfl
theorem at_14_11 : am_code 14 11 = some (ai_putZ 3 1 14) := rfl
theorem at_14_14 : am_code 14 14 = some (ai_aload 0 15) := rfl
theorem at_14_15 : am_code 14 15 = some (ai_push 2 16) := rfl
theorem at_14_16 : am_code 14 16 = some (ai_newa 4 2 19) := rfl
theorem at_14_19 : am_code 14 19 = some (ai_putP 3 5 22) := rfl
theorem at_14_22 : am_code 14 22 = some (ai_aload 0 23) := rfl
theorem at_14_23 : am_code 14 23 = some (ai_push 5 24) := rfl
theorem at_14_24 : am_code 14 24 = some (ai_newa 5 5 27) := rfl
theorem at_14_27 : am_code 14 27 = some (ai_putP 3 6 30) := rfl
theorem at_14_30 : am_code 14 30 = some (ai_aload 0 31) := rfl
theorem at_14_31 : am_code 14 31 = some (ai_push 5 32) := rfl
theorem at_14_32 : am_code 14 32 = some (ai_newa 6 5 35) := rfl
theorem at_14_35 : am_code 14 35 = some (ai_putP 3 7 38) := rfl
theorem at_14_38 : am_code 14 38 = some (ai_push 0 39) := rfl
theorem at_14_39 : am_code 14 39 = some (ai_istore 2 40) := rfl
theorem at_14_40 : am_code 14 40 = some (ai_iload 2 41) := rfl
theorem at_14_41 : am_code 14 41 = some (ai_push 5 42) := rfl
theorem at_14_42 : am_code 14 42 = some (ai_icmp (fun x y => y ≤ x) 64 45) := rfl
theorem at_14_45 : am_code 14 45 = some (ai_aload 0 46) := rfl
theorem at_14_46 : am_code 14 46 = some (ai_getP 3 7 49) := rfl
theorem at_14_49 : am_code 14 49 = some (ai_iload 2 50) := rfl
theorem at_14_50 : am_code 14 50 = some (ai_new 7 9 53) := rfl
theorem at_14_53 : am_code 14 53 = some (ai_dup 54) := rfl
theorem at_14_54 : am_code 14 54 = some (ai_callV 7 7 0 57) := rfl
theorem at_14_57 : am_code 14 57 = some (ai_aast 6 5 7 58) := rfl
theorem at_14_58 : am_code 14 58 = some (ai_iinc 2 1 61) := rfl
theorem at_14_61 : am_code 14 61 = some (ai_goto 40) := rfl
theorem at_14_64 : am_code 14 64 = some (ai_ret) := rfl
theorem at_15_0 : am_code 15 0 = some (ai_aload 0 1) := rfl
theorem at_15_1 : am_code 15 1 = some (ai_push 0 2) := rfl
theorem at_15_2 : am_code 15 2 = some (ai_putI 3 2 5) := rfl
theorem at_15_5 : am_code 15 5 = some (ai_aload 0 6) := rfl
theorem at_15_6 : am_code 15 6 = some (ai_push 0 7) := rfl
theorem at_15_7 : am_code 15 7 = some (ai_putZ 3 3 10) := rfl
theorem at_15_10 : am_code 15 10 = some (ai_aload 0 11) := rfl
theorem at_15_11 : am_code 15 11 = some (ai_null 12) := rfl
theorem at_15_12 : am_code 15 12 = some (ai_putP 3 4 15) := rfl
theorem at_15_15 : am_code 15 15 = some (ai_push 0 16) := rfl
theorem at_15_16 : am_code 15 16 = some (ai_istore 1 17) := rfl
theorem at_15_17 : am_code 15 17 = some (ai_iload 1 18) := rfl
theorem at_15_18 : am_code 15 18 = some (ai_push 5 19) := rfl
theorem at_15_19 : am_code 15 19 = some (ai_icmp (fun x y => y ≤ x) 44 22) := rfl
theorem at_15_22 : am_code 15 22 = some (ai_aload 0 23) := rfl
theorem at_15_23 : am_code 15 23 = some (ai_getP 3 6 26) := rfl
theorem at_15_26 : am_code 15 26 = some (ai_iload 1 27) := rfl
theorem at_15_27 : am_code 15 27 = some (ai_null 28) := rfl
theorem at_15_28 : am_code 15 28 = some (ai_aast 5 5 19 29) := rfl
theorem at_15_29 : am_code 15 29 = some (ai_aload 0 30) := rfl
theorem at_15_30 : am_code 15 30 = some (ai_getP 3 7 33) := rfl
theorem at_15_33 : am_code 15 33 = some (ai_iload 1 34) := rfl
theorem at_15_34 : am_code 15 34 = some (ai_aald 6 5 35) := rfl
theorem at_15_35 : am_code 15 35 = some (ai_callV 9 7 0 38) := rfl
theorem at_15_38 : am_code 15 38 = some (ai_iinc 1 1 41) := rfl
theorem at_15_41 : am_code 15 41 = some (ai_goto 17) := rfl
theorem at_15_44 : am_code 15 44 = some (ai_ret) := rfl
theorem at_16_0 : am_code 16 0 = some (ai_aload 0 1) := rfl
theorem at_16_1 : am_code 16 1 = some (ai_getP 3 6 4) := rfl
theorem at_16_4 : am_code 16 4 = some (ai_iload 1 5) := rfl
theorem at_16_5 : am_code 16 5 = some (ai_null 6) := rfl
theorem at_16_6 : am_code 16 6 = some (ai_aast 5 5 19 7) := rfl
theorem at_16_7 : am_code 16 7 = some (ai_push 0 8) := rfl
theorem at_16_8 : am_code 16 8 = some (ai_istore 2 9) := rfl
theorem at_16_9 : am_code 16 9 = some (ai_iload 2 10) := rfl
theorem at_16_10 : am_code 16 10 = some (ai_push 5 11) := rfl
theorem at_16_11 : am_code 16 11 = some (ai_icmp (fun x y => y ≤ x) 33 14) := rfl
theorem at_16_14 : am_code 16 14 = some (ai_aload 0 15) := rfl
theorem at_16_15 : am_code 16 15 = some (ai_getP 3 7 18) := rfl
theorem at_16_18 : am_code 16 18 = some (ai_iload 2 19) := rfl
theorem at_16_19 : am_code 16 19 = some (ai_aald 6 5 20) := rfl
theorem at_16_20 : am_code 16 20 = some (ai_getP 7 8 23) := rfl
theorem at_16_23 : am_code 16 23 = some (ai_iload 1 24) := rfl
theorem at_16_24 : am_code 16 24 = some (ai_push (-2) 26) := rfl
theorem at_16_26 : am_code 16 26 = some (ai_ast 8 5 27) := rfl
theorem at_16_27 : am_code 16 27 = some (ai_iinc 2 1 30) := rfl
theorem at_16_30 : am_code 16 30 = some (ai_goto 9) := rfl
theorem at_16_33 : am_code 16 33 = some (ai_ret) := rfl
theorem at_17_0 : am_code 17 0 = some (ai_push 0 1) := rfl
theorem at_17_1 : am_code 17 1 = some (ai_istore 1 2) := rfl
theorem at_17_2 : am_code 17 2 = some (ai_iload 1 3) := rfl
theorem at_17_3 : am_code 17 3 = some (ai_push 5 4) := rfl
theorem at_17_4 : am_code 17 4 = some (ai_icmp (fun x y => y ≤ x) 31 7) := rfl
theorem at_17_7 : am_code 17 7 = some (ai_aload 0 8) := rfl
theorem at_17_8 : am_code 17 8 = some (ai_getP 3 7 11) := rfl
theorem at_17_11 : am_code 17 11 = some (ai_iload 1 12) := rfl
theorem at_17_12 : am_code 17 12 = some (ai_aald 6 5 13) := rfl
theorem at_17_13 : am_code 17 13 = some (ai_aload 0 14) := rfl
theorem at_17_14 : am_code 17 14 = some (ai_getP 3 7 17) := rfl
theorem at_17_17 : am_code 17 17 = some (ai_iload 1 18) := rfl
theorem at_17_18 : am_code 17 18 = some (ai_aald 6 5 19) := rfl
theorem at_17_19 : am_code 17 19 = some (ai_getI 7 2 22) := rfl
theorem at_17_22 : am_code 17 22 = some (ai_putZ 7 3 25) := rfl
theorem at_17_25 : am_code 17 25 = some (ai_iinc 1 1 28) := rfl
theorem at_17_28 : am_code 17 28 = some (ai_goto 2) := rfl
theorem at_17_31 : am_code 17 31 = some (ai_ret) := rfl
theorem at_18_0 : am_code 18 0 = some (ai_aload 0 1) := rfl
theorem at_18_1 : am_code 18 1 = some (ai_getP 3 4 4) := rfl
theorem at_18_4 : am_code 18 4 = some (ai_ifnonnull 9 7) := rfl
theorem at_18_7 : am_code 18 7 = some (ai_push 1 8) := rfl
theorem at_18_8 : am_code 18 8 = some (ai_zret) := rfl
theorem at_18_9 : am_code 18 9 = some (ai_aload 0 10) := rfl
theorem at_18_10 : am_code 18 10 = some (ai_getP 3 4 13) := rfl
theorem at_18_13 : am_code 18 13 = some (ai_getI 19 2 16) := rfl
theorem at_18_16 : am_code 18 16 = some (ai_iload 1 17) := rfl
theorem at_18_17 : am_code 18 17 = some (ai_push 2 18) := rfl
theorem at_18_18 : am_code 18 18 = some (ai_bin (fun x y => x - y) 19) := rfl
theorem at_18_19 : am_code 18 19 = some (ai_icmp (fun x y => x ≤ y) 24 22) := rfl
theorem at_18_22 : am_code 18 22 = some (ai_push 0 23) := rfl
theorem at_18_23 : am_code 18 23 = some (ai_zret) := rfl
theorem at_18_24 : am_code 18 24 = some (ai_aload 0 25) := rfl
theorem at_18_25 : am_code 18 25 = some (ai_getI 3 3 28) := rfl
theorem at_18_28 : am_code 18 28 = some (ai_if (fun x => ¬ x = 0) 56 31) := rfl
theorem at_18_31 : am_code 18 31 = some (ai_aload 0 32) := rfl
theorem at_18_32 : am_code 18 32 = some (ai_getP 3 4 35) := rfl
theorem at_18_35 : am_code 18 35 = some (ai_getI 19 2 38) := rfl
theorem at_18_38 : am_code 18 38 = some (ai_iload 1 39) := rfl
theorem at_18_39 : am_code 18 39 = some (ai_push 20 41) := rfl
theorem at_18_41 : am_code 18 41 = some (ai_bin (fun x y => x - y) 42) := rfl
theorem at_18_42 : am_code 18 42 = some (ai_icmp (fun x y => x ≤ y) 56 45) := rfl
theorem at_18_45 : am_code 18 45 = some (ai_aload 0 46) := rfl
theorem at_18_46 : am_code 18 46 = some (ai_aload 0 47) := rfl
theorem at_18_47 : am_code 18 47 = some (ai_getP 3 4 50) := rfl
theorem at_18_50 : am_code 18 50 = some (ai_callV 19 3 1 53) := rfl
theorem at_18_53 : am_code 18 53 = some (ai_if (fun x => ¬ x = 0) 60 56) := rfl
theorem at_18_56 : am_code 18 56 = some (ai_push 1 57) := rfl
theorem at_18_57 : am_code 18 57 = some (ai_goto 61) := rfl
theorem at_18_60 : am_code 18 60 = some (ai_push 0 61) := rfl
theorem at_18_61 : am_code 18 61 = some (ai_zret) := rfl
theorem at_19_0 : am_code 19 0 = some (ai_push 0 1) := rfl
theorem at_19_1 : am_code 19 1 = some (ai_istore 2 2) := rfl
theorem at_19_2 : am_code 19 2 = some (ai_iload 2 3) := rfl
theorem at_19_3 : am_code 19 3 = some (ai_push 5 4) := rfl
theorem at_19_4 : am_code 19 4 = some (ai_icmp (fun x y => y ≤ x) 33 7) := rfl
theorem at_19_7 : am_code 19 7 = some (ai_aload 1 8) := rfl
theorem at_19_8 : am_code 19 8 = some (ai_getP 19 3 11) := rfl
theorem at_19_11 : am_code 19 11 = some (ai_iload 2 12) := rfl
theorem at_19_12 : am_code 19 12 = some (ai_ald 20 5 13) := rfl
theorem at_19_13 : am_code 19 13 = some (ai_aload 0 14) := rfl
theorem at_19_14 : am_code 19 14 = some (ai_getP 3 7 17) := rfl
theorem at_19_17 : am_code 19 17 = some (ai_iload 2 18) := rfl
theorem at_19_18 : am_code 19 18 = some (ai_aald 6 5 19) := rfl
theorem at_19_19 : am_code 19 19 = some (ai_callV 13 7 0 22) := rfl
theorem at_19_22 : am_code 19 22 = some (ai_icmp (fun x y => x = y) 27 25) := rfl
theorem at_19_25 : am_code 19 25 = some (ai_push 0 26) := rfl
theorem at_19_26 : am_code 19 26 = some (ai_zret) := rfl
theorem at_19_27 : am_code 19 27 = some (ai_iinc 2 1 30) := rfl
theorem at_19_30 : am_code 19 30 = some (ai_goto 2) := rfl
theorem at_19_33 : am_code 19 33 = some (ai_push 0 34) := rfl
theorem at_19_34 : am_code 19 34 = some (ai_istore 2 35) := rfl
theorem at_19_35 : am_code 19 35 = some (ai_iload 2 36) := rfl
theorem at_19_36 : am_code 19 36 = some (ai_push 2 37) := rfl
theorem at_19_37 : am_code 19 37 = some (ai_icmp (fun x y => y ≤ x) 66 40) := rfl
theorem at_19_40 : am_code 19 40 = some (ai_aload 1 41) := rfl
theorem at_19_41 : am_code 19 41 = some (ai_getP 19 4 44) := rfl
theorem at_19_44 : am_code 19 44 = some (ai_iload 2 45) := rfl
theorem at_19_45 : am_code 19 45 = some (ai_aald 21 2 46) := rfl
theorem at_19_46 : am_code 19 46 = some (ai_aload 0 47) := rfl
theorem at_19_47 : am_code 19 47 = some (ai_getP 3 5 50) := rfl
theorem at_19_50 : am_code 19 50 = some (ai_iload 2 51) := rfl
theorem at_19_51 : am_code 19 51 = some (ai_aald 4 2 52) := rfl
theorem at_19_52 : am_code 19 52 = some (ai_callS 3 2 55) := rfl
theorem at_19_55 : am_code 19 55 = some (ai_if (fun x => ¬ x = 0) 60 58) := rfl
theorem at_19_58 : am_code 19 58 = some (ai_push 0 59) := rfl
theorem at_19_59 : am_code 19 59 = some (ai_zret) := rfl
theorem at_19_60 : am_code 19 60 = some (ai_iinc 2 1 63) := rfl
theorem at_19_63 : am_code 19 63 = some (ai_goto 35) := rfl
theorem at_19_66 : am_code 19 66 = some (ai_push 1 67) := rfl
theorem at_19_67 : am_code 19 67 = some (ai_zret) := rfl
theorem at_20_0 : am_code 20 0 = some (ai_aload 0 1) := rfl
theorem at_20_1 : am_code 20 1 = some (ai_dup 2) := rfl
theorem at_20_2 : am_code 20 2 = some (ai_getI 3 2 5) := rfl
theorem at_20_5 : am_code 20 5 = some (ai_push 1 6) := rfl
theorem at_20_6 : am_code 20 6 = some (ai_bin (fun x y => x + y) 7) := rfl
theorem at_20_7 : am_code 20 7 = some (ai_putI 3 2 10) := rfl
theorem at_20_10 : am_code 20 10 = some (ai_aload 0 11) := rfl
theorem at_20_11 : am_code 20 11 = some (ai_new 19 5 14) := rfl
theorem at_20_14 : am_code 20 14 = some (ai_dup 15) := rfl
theorem at_20_15 : am_code 20 15 = some (ai_aload 0 16) := rfl
theorem at_20_16 : am_code 20 16 = some (ai_getI 3 0 19) := rfl
theorem at_20_19 : am_code 20 19 = some (ai_aload 0 20) := rfl
theorem at_20_20 : am_code 20 20 = some (ai_getI 3 2 23) := rfl
theorem at_20_23 : am_code 20 23 = some (ai_iload 1 24) := rfl
theorem at_20_24 : am_code 20 24 = some (ai_aload 0 25) := rfl
theorem at_20_25 : am_code 20 25 = some (ai_getP 3 7 28) := rfl
theorem at_20_28 : am_code 20 28 = some (ai_aload 0 29) := rfl
theorem at_20_29 : am_code 20 29 = some (ai_getP 3 5 32) := rfl
theorem at_20_32 : am_code 20 32 = some (ai_callV 4 19 5 35) := rfl
theorem at_20_35 : am_code 20 35 = some (ai_putP 3 4 38) := rfl
theorem at_20_38 : am_code 20 38 = some (ai_aload 0 39) := rfl
theorem at_20_39 : am_code 20 39 = some (ai_push 0 40) := rfl
theorem at_20_40 : am_code 20 40 = some (ai_putZ 3 3 43) := rfl
theorem at_20_43 : am_code 20 43 = some (ai_aload 0 44) := rfl
theorem at_20_44 : am_code 20 44 = some (ai_aload 0 45) := rfl
theorem at_20_45 : am_code 20 45 = some (ai_getP 3 4 48) := rfl
theorem at_20_48 : am_code 20 48 = some (ai_aload 0 49) := rfl
theorem at_20_49 : am_code 20 49 = some (ai_getI 3 0 52) := rfl
theorem at_20_52 : am_code 20 52 = some (ai_callV 21 3 2 55) := rfl
theorem at_20_55 : am_code 20 55 = some (ai_ret) := rfl
theorem at_21_0 : am_code 21 0 = some (ai_aload 1 1) := rfl
theorem at_21_1 : am_code 21 1 = some (ai_getI 19 0 4) := rfl
theorem at_21_4 : am_code 21 4 = some (ai_istore 3 5) := rfl
theorem at_21_5 : am_code 21 5 = some (ai_aload 0 6) := rfl
theorem at_21_6 : am_code 21 6 = some (ai_getP 3 6 9) := rfl
theorem at_21_9 : am_code 21 9 = some (ai_iload 3 10) := rfl
theorem at_21_10 : am_code 21 10 = some (ai_aload 1 11) := rfl
theorem at_21_11 : am_code 21 11 = some (ai_aast 5 5 19 12) := rfl
theorem at_21_12 : am_code 21 12 = some (ai_push 0 13) := rfl
theorem at_21_13 : am_code 21 13 = some (ai_istore 4 15) := rfl
theorem at_21_15 : am_code 21 15 = some (ai_iload 4 17) := rfl
theorem at_21_17 : am_code 21 17 = some (ai_push 5 18) := rfl
theorem at_21_18 : am_code 21 18 = some (ai_icmp (fun x y => y ≤ x) 64 21) := rfl
theorem at_21_21 : am_code 21 21 = some (ai_aload 0 22) := rfl
theorem at_21_22 : am_code 21 22 = some (ai_getP 3 7 25) := rfl
theorem at_21_25 : am_code 21 25 = some (ai_iload 4 27) := rfl
theorem at_21_27 : am_code 21 27 = some (ai_aald 6 5 28) := rfl
theorem at_21_28 : am_code 21 28 = some (ai_getP 7 8 31) := rfl
theorem at_21_31 : am_code 21 31 = some (ai_iload 3 32) := rfl
theorem at_21_32 : am_code 21 32 = some (ai_aload 0 33) := rfl
theorem at_21_33 : am_code 21 33 = some (ai_getP 3 7 36) := rfl
theorem at_21_36 : am_code 21 36 = some (ai_iload 4 38) := rfl
theorem at_21_38 : am_code 21 38 = some (ai_aald 6 5 39) := rfl
theorem at_21_39 : am_code 21 39 = some (ai_getI 7 6 42) := rfl
theorem at_21_42 : am_code 21 42 = some (ai_if (fun x => x = 0) 55 45) := rfl
theorem at_21_45 : am_code 21 45 = some (ai_iload 4 47) := rfl
theorem at_21_47 : am_code 21 47 = some (ai_iload 2 48) := rfl
theorem at_21_48 : am_code 21 48 = some (ai_icmp (fun x y => x = y) 55 51) := rfl
theorem at_21_51 : am_code 21 51 = some (ai_push (-1) 52) := rfl
theorem at_21_52 : am_code 21 52 = some (ai_goto 57) := rfl
theorem at_21_55 : am_code 21 55 = some (ai_push (-2) 57) := rfl
theorem at_21_57 : am_code 21 57 = some (ai_ast 8 5 58) := rfl
theorem at_21_58 : am_code 21 58 = some (ai_iinc 4 1 61) := rfl
theorem at_21_61 : am_code 21 61 = some (ai_goto 15) := rfl
theorem at_21_64 : am_code 21 64 = some (ai_ret) := rfl
theorem at_22_0 : am_code 22 0 = some (ai_aload 0 1) := rfl
theorem at_22_1 : am_code 22 1 = some (ai_aload 0 2) := rfl
theorem at_22_2 : am_code 22 2 = some (ai_getI 3 2 5) := rfl
theorem at_22_5 : am_code 22 5 = some (ai_iload 1 6) := rfl
theorem at_22_6 : am_code 22 6 = some (ai_max 9) := rfl
theorem at_22_9 : am_code 22 9 = some (ai_putI 3 2 12) := rfl
theorem at_22_12 : am_code 22 12 = some (ai_aload 0 13) := rfl
theorem at_22_13 : am_code 22 13 = some (ai_push 1 14) := rfl
theorem at_22_14 : am_code 22 14 = some (ai_putZ 3 3 17) := rfl
theorem at_22_17 : am_code 22 17 = some (ai_ret) := rfl
theorem at_23_0 : am_code 23 0 = some (ai_aload 0 1) := rfl
theorem at_23_1 : am_code 23 1 = some (ai_oinit 4) := rfl
theorem at_23_4 : am_code 23 4 = some (ai_aload 0 5) := rfl
theorem at_23_5 : am_code 23 5 = some (ai_push 5 6) := rfl
theorem at_23_6 : am_code 23 6 = some (ai_newa 11 5 9) := rfl
theorem at_23_9 : am_code 23 9 = some (ai_putP 10 1 12) := rfl
theorem at_23_12 : am_code 23 12 = some (ai_aload 0 13) := rfl
theorem at_23_13 : am_code 23 13 = some (ai_push 5 14) := rfl
theorem at_23_14 : am_code 23 14 = some (ai_newa 12 5 16) := rfl
theorem at_23_16 : am_code 23 16 = some (ai_putP 10 2 19) := rfl
theorem at_23_19 : am_code 23 19 = some (ai_ret) := rfl
theorem at_24_0 : am_code 24 0 = some (ai_push 0 1) := rfl
theorem at_24_1 : am_code 24 1 = some (ai_istore 4 3) := rfl
theorem at_24_3 : am_code 24 3 = some (ai_push 0 4) := rfl
theorem at_24_4 : am_code 24 4 = some (ai_istore 5 6) := rfl
theorem at_24_6 : am_code 24 6 = some (ai_iload 5 8) := rfl
theorem at_24_8 : am_code 24 8 = some (ai_push 5 9) := rfl
theorem at_24_9 : am_code 24 9 = some (ai_icmp (fun x y => y ≤ x) 71 12) := rfl
theorem at_24_12 : am_code 24 12 = some (ai_aload 0 13) := rfl
theorem at_24_13 : am_code 24 13 = some (ai_getP 10 1 16) := rfl
theorem at_24_16 : am_code 24 16 = some (ai_iload 5 18) := rfl
theorem at_24_18 : am_code 24 18 = some (ai_null 19) := rfl
theorem at_24_19 : am_code 24 19 = some (ai_aast 11 5 19 20) := rfl
theorem at_24_20 : am_code 24 20 = some (ai_aload 0 21) := rfl
theorem at_24_21 : am_code 24 21 = some (ai_getP 10 2 24) := rfl
theorem at_24_24 : am_code 24 24 = some (ai_iload 5 26) := rfl
theorem at_24_26 : am_code 24 26 = some (ai_push 0 27) := rfl
theorem at_24_27 : am_code 24 27 = some (ai_zast 12 5 28) := rfl
theorem at_24_28 : am_code 24 28 = some (ai_aload 1 29) := rfl
theorem at_24_29 : am_code 24 29 = some (ai_iload 5 31) := rfl
theorem at_24_31 : am_code 24 31 = some (ai_aald 5 5 32) := rfl
theorem at_24_32 : am_code 24 32 = some (ai_ifnull 65 35) := rfl
theorem at_24_35 : am_code 24 35 = some (ai_aload 2 36) := rfl
theorem at_24_36 : am_code 24 36 = some (ai_iload 5 38) := rfl
theorem at_24_38 : am_code 24 38 = some (ai_ald 8 5 39) := rfl
theorem at_24_39 : am_code 24 39 = some (ai_iload 3 40) := rfl
theorem at_24_40 : am_code 24 40 = some (ai_callS 25 2 43) := rfl
theorem at_24_43 : am_code 24 43 = some (ai_if (fun x => x = 0) 65 46) := rfl
theorem at_24_46 : am_code 24 46 = some (ai_aload 0 47) := rfl
theorem at_24_47 : am_code 24 47 = some (ai_getP 10 1 50) := rfl
theorem at_24_50 : am_code 24 50 = some (ai_iload 5 52) := rfl
theorem at_24_52 : am_code 24 52 = some (ai_aload 1 53) := rfl
theorem at_24_53 : am_code 24 53 = some (ai_iload 5 55) := rfl
theorem at_24_55 : am_code 24 55 = some (ai_aald 5 5 56) := rfl
theorem at_24_56 : am_code 24 56 = some (ai_aast 11 5 19 57) := rfl
theorem at_24_57 : am_code 24 57 = some (ai_aload 2 58) := rfl
theorem at_24_58 : am_code 24 58 = some (ai_iload 5 60) := rfl
theorem at_24_60 : am_code 24 60 = some (ai_iload 3 61) := rfl
theorem at_24_61 : am_code 24 61 = some (ai_ast 8 5 62) := rfl
theorem at_24_62 : am_code 24 62 = some (ai_iinc 4 1 65) := rfl
theorem at_24_65 : am_code 24 65 = some (ai_iinc 5 1 68) := rfl
theorem at_24_68 : am_code 24 68 = some (ai_goto 6) := rfl
theorem at_24_71 : am_code 24 71 = some (ai_iload 4 73) := rfl
theorem at_24_73 : am_code 24 73 = some (ai_iret) := rfl
theorem at_25_0 : am_code 25 0 = some (ai_iload 0 1) := rfl
theorem at_25_1 : am_code 25 1 = some (ai_push (-2) 3) := rfl
theorem at_25_3 : am_code 25 3 = some (ai_icmp (fun x y => ¬ x = y) 8 6) := rfl
theorem at_25_6 : am_code 25 6 = some (ai_push 0 7) := rfl
theorem at_25_7 : am_code 25 7 = some (ai_zret) := rfl
theorem at_25_8 : am_code 25 8 = some (ai_iload 0 9) := rfl
theorem at_25_9 : am_code 25 9 = some (ai_push (-1) 10) := rfl
theorem at_25_10 : am_code 25 10 = some (ai_icmp (fun x y => x = y) 20 13) := rfl
theorem at_25_13 : am_code 25 13 = some (ai_iload 0 14) := rfl
theorem at_25_14 : am_code 25 14 = some (ai_iload 1 15) := rfl
theorem at_25_15 : am_code 25 15 = some (ai_push 3 16) := rfl
theorem at_25_16 : am_code 25 16 = some (ai_bin (fun x y => x - y) 17) := rfl
theorem at_25_17 : am_code 25 17 = some (ai_icmp (fun x y => y < x) 24 20) := rfl
theorem at_25_20 : am_code 25 20 = some (ai_push 1 21) := rfl
theorem at_25_21 : am_code 25 21 = some (ai_goto 25) := rfl
theorem at_25_24 : am_code 25 24 = some (ai_push 0 25) := rfl
theorem at_25_25 : am_code 25 25 = some (ai_zret) := rfl
theorem at_26_0 : am_code 26 0 = some (ai_aload 0 1) := rfl
theorem at_26_1 : am_code 26 1 = some (ai_oinit 4) := rfl
theorem at_26_4 : am_code 26 4 = some (ai_aload 0 5) := rfl
theorem at_26_5 : am_code 26 5 = some (ai_push 5 6) := rfl
theorem at_26_6 : am_code 26 6 = some (ai_push 5 7) := rfl
theorem at_26_7 : am_code 26 7 = some (ai_multi 14 15 11) := rfl
theorem at_26_11 : am_code 26 11 = some (ai_putP 13 0 14) := rfl
theorem at_26_14 : am_code 26 14 = some (ai_aload 0 15) := rfl
theorem at_26_15 : am_code 26 15 = some (ai_push 5 16) := rfl
theorem at_26_16 : am_code 26 16 = some (ai_push 5 17) := rfl
theorem at_26_17 : am_code 26 17 = some (ai_multi 16 17 21) := rfl
theorem at_26_21 : am_code 26 21 = some (ai_putP 13 1 24) := rfl
theorem at_26_24 : am_code 26 24 = some (ai_ret) := rfl
theorem at_27_0 : am_code 27 0 = some (ai_push 0 1) := rfl
theorem at_27_1 : am_code 27 1 = some (ai_istore 2 2) := rfl
theorem at_27_2 : am_code 27 2 = some (ai_iload 2 3) := rfl
theorem at_27_3 : am_code 27 3 = some (ai_push 5 4) := rfl
theorem at_27_4 : am_code 27 4 = some (ai_icmp (fun x y => y ≤ x) 70 7) := rfl
theorem at_27_7 : am_code 27 7 = some (ai_push 0 8) := rfl
theorem at_27_8 : am_code 27 8 = some (ai_istore 3 9) := rfl
theorem at_27_9 : am_code 27 9 = some (ai_iload 3 10) := rfl
theorem at_27_10 : am_code 27 10 = some (ai_push 5 11) := rfl
theorem at_27_11 : am_code 27 11 = some (ai_icmp (fun x y => y ≤ x) 64 14) := rfl
theorem at_27_14 : am_code 27 14 = some (ai_aload 0 15) := rfl
theorem at_27_15 : am_code 27 15 = some (ai_getP 13 0 18) := rfl
theorem at_27_18 : am_code 27 18 = some (ai_iload 2 19) := rfl
theorem at_27_19 : am_code 27 19 = some (ai_aald 14 5 20) := rfl
theorem at_27_20 : am_code 27 20 = some (ai_iload 3 21) := rfl
theorem at_27_21 : am_code 27 21 = some (ai_aload 1 22) := rfl
theorem at_27_22 : am_code 27 22 = some (ai_iload 2 23) := rfl
theorem at_27_23 : am_code 27 23 = some (ai_aald 5 5 24) := rfl
theorem at_27_24 : am_code 27 24 = some (ai_aload 1 25) := rfl
theorem at_27_25 : am_code 27 25 = some (ai_iload 3 26) := rfl
theorem at_27_26 : am_code 27 26 = some (ai_aald 5 5 27) := rfl
theorem at_27_27 : am_code 27 27 = some (ai_iload 2 28) := rfl
theorem at_27_28 : am_code 27 28 = some (ai_iload 3 29) := rfl
theorem at_27_29 : am_code 27 29 = some (ai_callS 28 4 32) := rfl
theorem at_27_32 : am_code 27 32 = some (ai_ast 15 5 33) := rfl
theorem at_27_33 : am_code 27 33 = some (ai_aload 0 34) := rfl
theorem at_27_34 : am_code 27 34 = some (ai_getP 13 1 37) := rfl
theorem at_27_37 : am_code 27 37 = some (ai_iload 2 38) := rfl
theorem at_27_38 : am_code 27 38 = some (ai_aald 16 5 39) := rfl
theorem at_27_39 : am_code 27 39 = some (ai_iload 3 40) := rfl
theorem at_27_40 : am_code 27 40 = some (ai_iload 2 41) := rfl
theorem at_27_41 : am_code 27 41 = some (ai_iload 3 42) := rfl
theorem at_27_42 : am_code 27 42 = some (ai_icmp (fun x y => ¬ x = y) 49 45) := rfl
theorem at_27_45 : am_code 27 45 = some (ai_push 0 46) := rfl
theorem at_27_46 : am_code 27 46 = some (ai_goto 57) := rfl
theorem at_27_49 : am_code 27 49 = some (ai_aload 0 50) := rfl
theorem at_27_50 : am_code 27 50 = some (ai_getP 13 0 53) := rfl
theorem at_27_53 : am_code 27 53 = some (ai_iload 2 54) := rfl
theorem at_27_54 : am_code 27 54 = some (ai_aald 14 5 55) := rfl
theorem at_27_55 : am_code 27 55 = some (ai_iload 3 56) := rfl
theorem at_27_56 : am_code 27 56 = some (ai_ald 15 5 57) := rfl
theorem at_27_57 : am_code 27 57 = some (ai_ast 17 5 58) := rfl
theorem at_27_58 : am_code 27 58 = some (ai_iinc 3 1 61) := rfl
theorem at_27_61 : am_code 27 61 = some (ai_goto 9) := rfl
theorem at_27_64 : am_code 27 64 = some (ai_iinc 2 1 67) := rfl
theorem at_27_67 : am_code 27 67 = some (ai_goto 2) := rfl
theorem at_27_70 : am_code 27 70 = some (ai_push 0 71) := rfl
theorem at_27_71 : am_code 27 71 = some (ai_istore 2 72) := rfl
theorem at_27_72 : am_code 27 72 = some (ai_iload 2 73) := rfl
theorem at_27_73 : am_code 27 73 = some (ai_push 5 74) := rfl
theorem at_27_74 : am_code 27 74 = some (ai_icmp (fun x y => y ≤ x) 88 77) := rfl
theorem at_27_77 : am_code 27 77 = some (ai_aload 0 78) := rfl
theorem at_27_78 : am_code 27 78 = some (ai_iload 2 79) := rfl
theorem at_27_79 : am_code 27 79 = some (ai_callV 29 13 1 82) := rfl
theorem at_27_82 : am_code 27 82 = some (ai_iinc 2 1 85) := rfl
theorem at_27_85 : am_code 27 85 = some (ai_goto 72) := rfl
theorem at_27_88 : am_code 27 88 = some (ai_ret) := rfl
theorem at_28_0 : am_code 28 0 = some (ai_aload 0 1) := rfl
theorem at_28_1 : am_code 28 1 = some (ai_ifnull 26 4) := rfl
theorem at_28_4 : am_code 28 4 = some (ai_aload 1 5) := rfl
theorem at_28_5 : am_code 28 5 = some (ai_ifnull 26 8) := rfl
theorem at_28_8 : am_code 28 8 = some (ai_aload 0 9) := rfl
theorem at_28_9 : am_code 28 9 = some (ai_getP 19 3 12) := rfl
theorem at_28_12 : am_code 28 12 = some (ai_iload 3 13) := rfl
theorem at_28_13 : am_code 28 13 = some (ai_ald 20 5 14) := rfl
theorem at_28_14 : am_code 28 14 = some (ai_if (fun x => x = 0) 26 17) := rfl
theorem at_28_17 : am_code 28 17 = some (ai_aload 1 18) := rfl
theorem at_28_18 : am_code 28 18 = some (ai_getP 19 3 21) := rfl
theorem at_28_21 : am_code 28 21 = some (ai_iload 2 22) := rfl
theorem at_28_22 : am_code 28 22 = some (ai_ald 20 5 23) := rfl
theorem at_28_23 : am_code 28 23 = some (ai_if (fun x => ¬ x = 0) 30 26) := rfl
theorem at_28_26 : am_code 28 26 = some (ai_push 1000 29) := rfl
theorem at_28_29 : am_code 28 29 = some (ai_iret) := rfl
theorem at_28_30 : am_code 28 30 = some (ai_aload 0 31) := rfl
theorem at_28_31 : am_code 28 31 = some (ai_getP 19 3 34) := rfl
theorem at_28_34 : am_code 28 34 = some (ai_iload 3 35) := rfl
theorem at_28_35 : am_code 28 35 = some (ai_ald 20 5 36) := rfl
theorem at_28_36 : am_code 28 36 = some (ai_iret) := rfl
theorem at_29_0 : am_code 29 0 = some (ai_push 0 1) := rfl
theorem at_29_1 : am_code 29 1 = some (ai_istore 2 2) := rfl
theorem at_29_2 : am_code 29 2 = some (ai_iload 2 3) := rfl
theorem at_29_3 : am_code 29 3 = some (ai_push 5 4) := rfl
theorem at_29_4 : am_code 29 4 = some (ai_icmp (fun x y => y ≤ x) 68 7) := rfl
theorem at_29_7 : am_code 29 7 = some (ai_push 0 8) := rfl
theorem at_29_8 : am_code 29 8 = some (ai_istore 3 9) := rfl
theorem at_29_9 : am_code 29 9 = some (ai_iload 3 10) := rfl
theorem at_29_10 : am_code 29 10 = some (ai_push 5 11) := rfl
theorem at_29_11 : am_code 29 11 = some (ai_icmp (fun x y => y ≤ x) 62 14) := rfl
theorem at_29_14 : am_code 29 14 = some (ai_aload 0 15) := rfl
theorem at_29_15 : am_code 29 15 = some (ai_getP 13 1 18) := rfl
theorem at_29_18 : am_code 29 18 = some (ai_iload 2 19) := rfl
theorem at_29_19 : am_code 29 19 = some (ai_aald 16 5 20) := rfl
theorem at_29_20 : am_code 29 20 = some (ai_iload 1 21) := rfl
theorem at_29_21 : am_code 29 21 = some (ai_ald 17 5 22) := rfl
theorem at_29_22 : am_code 29 22 = some (ai_aload 0 23) := rfl
theorem at_29_23 : am_code 29 23 = some (ai_getP 13 1 26) := rfl
theorem at_29_26 : am_code 29 26 = some (ai_iload 1 27) := rfl
theorem at_29_27 : am_code 29 27 = some (ai_aald 16 5 28) := rfl
theorem at_29_28 : am_code 29 28 = some (ai_iload 3 29) := rfl
theorem at_29_29 : am_code 29 29 = some (ai_ald 17 5 30) := rfl
theorem at_29_30 : am_code 29 30 = some (ai_bin (fun x y => x + y) 31) := rfl
theorem at_29_31 : am_code 29 31 = some (ai_istore 4 33) := rfl
theorem at_29_33 : am_code 29 33 = some (ai_iload 4 35) := rfl
theorem at_29_35 : am_code 29 35 = some (ai_aload 0 36) := rfl
theorem at_29_36 : am_code 29 36 = some (ai_getP 13 1 39) := rfl
theorem at_29_39 : am_code 29 39 = some (ai_iload 2 40) := rfl
theorem at_29_40 : am_code 29 40 = some (ai_aald 16 5 41) := rfl
theorem at_29_41 : am_code 29 41 = some (ai_iload 3 42) := rfl
theorem at_29_42 : am_code 29 42 = some (ai_ald 17 5 43) := rfl
theorem at_29_43 : am_code 29 43 = some (ai_icmp (fun x y => y ≤ x) 56 46) := rfl
theorem at_29_46 : am_code 29 46 = some (ai_aload 0 47) := rfl
theorem at_29_47 : am_code 29 47 = some (ai_getP 13 1 50) := rfl
theorem at_29_50 : am_code 29 50 = some (ai_iload 2 51) := rfl
theorem at_29_51 : am_code 29 51 = some (ai_aald 16 5 52) := rfl
theorem at_29_52 : am_code 29 52 = some (ai_iload 3 53) := rfl
theorem at_29_53 : am_code 29 53 = some (ai_iload 4 55) := rfl
theorem at_29_55 : am_code 29 55 = some (ai_ast 17 5 56) := rfl
theorem at_29_56 : am_code 29 56 = some (ai_iinc 3 1 59) := rfl
theorem at_29_59 : am_code 29 59 = some (ai_goto 9) := rfl
theorem at_29_62 : am_code 29 62 = some (ai_iinc 2 1 65) := rfl
theorem at_29_65 : am_code 29 65 = some (ai_goto 2) := rfl
theorem at_29_68 : am_code 29 68 = some (ai_ret) := rfl
theorem at_30_0 : am_code 30 0 = some (ai_iload 1 1) := rfl
theorem at_30_1 : am_code 30 1 = some (ai_iload 2 2) := rfl
theorem at_30_2 : am_code 30 2 = some (ai_icmp (fun x y => x = y) 19 5) := rfl
theorem at_30_5 : am_code 30 5 = some (ai_aload 0 6) := rfl
theorem at_30_6 : am_code 30 6 = some (ai_getP 13 1 9) := rfl
theorem at_30_9 : am_code 30 9 = some (ai_iload 1 10) := rfl
theorem at_30_10 : am_code 30 10 = some (ai_aald 16 5 11) := rfl
theorem at_30_11 : am_code 30 11 = some (ai_iload 2 12) := rfl
theorem at_30_12 : am_code 30 12 = some (ai_ald 17 5 13) := rfl
theorem at_30_13 : am_code 30 13 = some (ai_push 1000 16) := rfl
theorem at_30_16 : am_code 30 16 = some (ai_icmp (fun x y => ¬ x = y) 21 19) := rfl
theorem at_30_19 : am_code 30 19 = some (ai_push (-1) 20) := rfl
theorem at_30_20 : am_code 30 20 = some (ai_iret) := rfl
theorem at_30_21 : am_code 30 21 = some (ai_push 0 22) := rfl
theorem at_30_22 : am_code 30 22 = some (ai_istore 3 23) := rfl
theorem at_30_23 : am_code 30 23 = some (ai_iload 3 24) := rfl
theorem at_30_24 : am_code 30 24 = some (ai_push 5 25) := rfl
theorem at_30_25 : am_code 30 25 = some (ai_icmp (fun x y => y ≤ x) 64 28) := rfl
theorem at_30_28 : am_code 30 28 = some (ai_aload 0 29) := rfl
theorem at_30_29 : am_code 30 29 = some (ai_getP 13 0 32) := rfl
theorem at_30_32 : am_code 30 32 = some (ai_iload 1 33) := rfl
theorem at_30_33 : am_code 30 33 = some (ai_aald 14 5 34) := rfl
theorem at_30_34 : am_code 30 34 = some (ai_iload 3 35) := rfl
theorem at_30_35 : am_code 30 35 = some (ai_ald 15 5 36) := rfl
theorem at_30_36 : am_code 30 36 = some (ai_aload 0 37) := rfl
theorem at_30_37 : am_code 30 37 = some (ai_getP 13 1 40) := rfl
theorem at_30_40 : am_code 30 40 = some (ai_iload 3 41) := rfl
theorem at_30_41 : am_code 30 41 = some (ai_aald 16 5 42) := rfl
theorem at_30_42 : am_code 30 42 = some (ai_iload 2 43) := rfl
theorem at_30_43 : am_code 30 43 = some (ai_ald 17 5 44) := rfl
theorem at_30_44 : am_code 30 44 = some (ai_bin (fun x y => x + y) 45) := rfl
theorem at_30_45 : am_code 30 45 = some (ai_aload 0 46) := rfl
theorem at_30_46 : am_code 30 46 = some (ai_getP 13 1 49) := rfl
theorem at_30_49 : am_code 30 49 = some (ai_iload 1 50) := rfl
theorem at_30_50 : am_code 30 50 = some (ai_aald 16 5 51) := rfl
theorem at_30_51 : am_code 30 51 = some (ai_iload 2 52) := rfl
theorem at_30_52 : am_code 30 52 = some (ai_ald 17 5 53) := rfl
theorem at_30_53 : am_code 30 53 = some (ai_icmp (fun x y => ¬ x = y) 58 56) := rfl
theorem at_30_56 : am_code 30 56 = some (ai_iload 3 57) := rfl
theorem at_30_57 : am_code 30 57 = some (ai_iret) := rfl
theorem at_30_58 : am_code 30 58 = some (ai_iinc 3 1 61) := rfl
theorem at_30_61 : am_code 30 61 = some (ai_goto 23) := rfl
theorem at_30_64 : am_code 30 64 = some (ai_push (-1) 65) := rfl
theorem at_30_65 : am_code 30 65 = some (ai_iret) := rfl
theorem at_31_0 : am_code 31 0 = some (ai_push (-1) 1) := rfl
theorem at_31_1 : am_code 31 1 = some (ai_istore 4 3) := rfl
theorem at_31_3 : am_code 31 3 = some (ai_push (-1) 4) := rfl
theorem at_31_4 : am_code 31 4 = some (ai_istore 5 6) := rfl
theorem at_31_6 : am_code 31 6 = some (ai_push 0 7) := rfl
theorem at_31_7 : am_code 31 7 = some (ai_istore 6 9) := rfl
theorem at_31_9 : am_code 31 9 = some (ai_push 0 10) := rfl
theorem at_31_10 : am_code 31 10 = some (ai_istore 7 12) := rfl
theorem at_31_12 : am_code 31 12 = some (ai_iload 7 14) := rfl
theorem at_31_14 : am_code 31 14 = some (ai_push 5 15) := rfl
theorem at_31_15 : am_code 31 15 = some (ai_icmp (fun x y => y ≤ x) 153 18) := rfl
theorem at_31_18 : am_code 31 18 = some (ai_push 0 19) := rfl
theorem at_31_19 : am_code 31 19 = some (ai_istore 8 21) := rfl
theorem at_31_21 : am_code 31 21 = some (ai_iload 8 23) := rfl
theorem at_31_23 : am_code 31 23 = some (ai_push 2 24) := rfl
theorem at_31_24 : am_code 31 24 = some (ai_icmp (fun x y => y ≤ x) 147 27) := rfl
theorem at_31_27 : am_code 31 27 = some (ai_aload 3 28) := rfl
theorem at_31_28 : am_code 31 28 = some (ai_iload 7 30) := rfl
theorem at_31_30 : am_code 31 30 = some (ai_aald 5 5 31) := rfl
theorem at_31_31 : am_code 31 31 = some (ai_ifnonnull 38 34) := rfl
theorem at_31_34 : am_code 31 34 = some (ai_null 35) := rfl
theorem at_31_35 : am_code 31 35 = some (ai_goto 48) := rfl
theorem at_31_38 : am_code 31 38 = some (ai_aload 3 39) := rfl
theorem at_31_39 : am_code 31 39 = some (ai_iload 7 41) := rfl
theorem at_31_41 : am_code 31 41 = some (ai_aald 5 5 42) := rfl
theorem at_31_42 : am_code 31 42 = some (ai_getP 19 4 45) := rfl
theorem at_31_45 : am_code 31 45 = some (ai_iload 8 47) := rfl
theorem at_31_47 : am_code 31 47 = some (ai_aald 21 2 48) := rfl
theorem at_31_48 : am_code 31 48 = some (ai_astore 9 50) := rfl
theorem at_31_50 : am_code 31 50 = some (ai_aload 9 52) := rfl
theorem at_31_52 : am_code 31 52 = some (ai_ifnull 141 55) := rfl
theorem at_31_55 : am_code 31 55 = some (ai_aload 0 56) := rfl
theorem at_31_56 : am_code 31 56 = some (ai_getP 13 1 59) := rfl
theorem at_31_59 : am_code 31 59 = some (ai_iload 1 60) := rfl
theorem at_31_60 : am_code 31 60 = some (ai_aald 16 5 61) := rfl
theorem at_31_61 : am_code 31 61 = some (ai_iload 7 63) := rfl
theorem at_31_63 : am_code 31 63 = some (ai_ald 17 5 64) := rfl
theorem at_31_64 : am_code 31 64 = some (ai_push 1000 67) := rfl
theorem at_31_67 : am_code 31 67 = some (ai_icmp (fun x y => x = y) 141 70) := rfl
theorem at_31_70 : am_code 31 70 = some (ai_aload 9 72) := rfl
theorem at_31_72 : am_code 31 72 = some (ai_iload 2 73) := rfl
theorem at_31_73 : am_code 31 73 = some (ai_callV 2 22 1 76) := rfl
theorem at_31_76 : am_code 31 76 = some (ai_if (fun x => ¬ x = 0) 82 79) := rfl
theorem at_31_79 : am_code 31 79 = some (ai_goto 141) := rfl
theorem at_31_82 : am_code 31 82 = some (ai_aload 0 83) := rfl
theorem at_31_83 : am_code 31 83 = some (ai_getP 13 1 86) := rfl
theorem at_31_86 : am_code 31 86 = some (ai_iload 1 87) := rfl
theorem at_31_87 : am_code 31 87 = some (ai_aald 16 5 88) := rfl
theorem at_31_88 : am_code 31 88 = some (ai_iload 7 90) := rfl
theorem at_31_90 : am_code 31 90 = some (ai_ald 17 5 91) := rfl
theorem at_31_91 : am_code 31 91 = some (ai_aload 9 93) := rfl
theorem at_31_93 : am_code 31 93 = some (ai_getI 22 2 96) := rfl
theorem at_31_96 : am_code 31 96 = some (ai_bin (fun x y => x + y) 97) := rfl
theorem at_31_97 : am_code 31 97 = some (ai_istore 10 99) := rfl
theorem at_31_99 : am_code 31 99 = some (ai_aload 9 101) := rfl
theorem at_31_101 : am_code 31 101 = some (ai_getI 22 1 104) := rfl
theorem at_31_104 : am_code 31 104 = some (ai_iload 5 106) := rfl
theorem at_31_106 : am_code 31 106 = some (ai_icmp (fun x y => y < x) 126 109) := rfl
theorem at_31_109 : am_code 31 109 = some (ai_aload 9 111) := rfl
theorem at_31_111 : am_code 31 111 = some (ai_getI 22 1 114) := rfl
theorem at_31_114 : am_code 31 114 = some (ai_iload 5 116) := rfl
theorem at_31_116 : am_code 31 116 = some (ai_icmp (fun x y => ¬ x = y) 141 119) := rfl
theorem at_31_119 : am_code 31 119 = some (ai_iload 10 121) := rfl
theorem at_31_121 : am_code 31 121 = some (ai_iload 6 123) := rfl
theorem at_31_123 : am_code 31 123 = some (ai_icmp (fun x y => y ≤ x) 141 126) := rfl
theorem at_31_126 : am_code 31 126 = some (ai_iload 7 128) := rfl
theorem at_31_128 : am_code 31 128 = some (ai_istore 4 130) := rfl
theorem at_31_130 : am_code 31 130 = some (ai_aload 9 132) := rfl
theorem at_31_132 : am_code 31 132 = some (ai_getI 22 1 135) := rfl
theorem at_31_135 : am_code 31 135 = some (ai_istore 5 137) := rfl
theorem at_31_137 : am_code 31 137 = some (ai_iload 10 139) := rfl
theorem at_31_139 : am_code 31 139 = some (ai_istore 6 141) := rfl
theorem at_31_141 : am_code 31 141 = some (ai_iinc 8 1 144) := rfl
theorem at_31_144 : am_code 31 144 = some (ai_goto 21) := rfl
theorem at_31_147 : am_code 31 147 = some (ai_iinc 7 1 150) := rfl
theorem at_31_150 : am_code 31 150 = some (ai_goto 12) := rfl
theorem at_31_153 : am_code 31 153 = some (ai_iload 4 155) := rfl
theorem at_31_155 : am_code 31 155 = some (ai_iret) := rfl
theorem at_32_0 : am_code 32 0 = some (ai_aload 0 1) := rfl
theorem at_32_1 : am_code 32 1 = some (ai_oinit 4) := rfl
theorem at_32_4 : am_code 32 4 = some (ai_aload 0 5) := rfl
theorem at_32_5 : am_code 32 5 = some (ai_push 5 6) := rfl
theorem at_32_6 : am_code 32 6 = some (ai_newa 2 5 9) := rfl
theorem at_32_9 : am_code 32 9 = some (ai_putP 1 0 12) := rfl
theorem at_32_12 : am_code 32 12 = some (ai_push 0 13) := rfl
theorem at_32_13 : am_code 32 13 = some (ai_istore 1 14) := rfl
theorem at_32_14 : am_code 32 14 = some (ai_iload 1 15) := rfl
theorem at_32_15 : am_code 32 15 = some (ai_push 5 16) := rfl
theorem at_32_16 : am_code 32 16 = some (ai_icmp (fun x y => y ≤ x) 39 19) := rfl
theorem at_32_19 : am_code 32 19 = some (ai_aload 0 20) := rfl
theorem at_32_20 : am_code 32 20 = some (ai_getP 1 0 23) := rfl
theorem at_32_23 : am_code 32 23 = some (ai_iload 1 24) := rfl
theorem at_32_24 : am_code 32 24 = some (ai_new 3 8 27) := rfl
theorem at_32_27 : am_code 32 27 = some (ai_dup 28) := rfl
theorem at_32_28 : am_code 32 28 = some (ai_iload 1 29) := rfl
theorem at_32_29 : am_code 32 29 = some (ai_callV 14 3 1 32) := rfl
theorem at_32_32 : am_code 32 32 = some (ai_aast 2 5 3 33) := rfl
theorem at_32_33 : am_code 32 33 = some (ai_iinc 1 1 36) := rfl
theorem at_32_36 : am_code 32 36 = some (ai_goto 14) := rfl
theorem at_32_39 : am_code 32 39 = some (ai_aload 0 40) := rfl
theorem at_32_40 : am_code 32 40 = some (ai_push 25 42) := rfl
theorem at_32_42 : am_code 32 42 = some (ai_newa 9 25 45) := rfl
theorem at_32_45 : am_code 32 45 = some (ai_putP 1 1 48) := rfl
theorem at_32_48 : am_code 32 48 = some (ai_push 0 49) := rfl
theorem at_32_49 : am_code 32 49 = some (ai_istore 1 50) := rfl
theorem at_32_50 : am_code 32 50 = some (ai_iload 1 51) := rfl
theorem at_32_51 : am_code 32 51 = some (ai_push 25 53) := rfl
theorem at_32_53 : am_code 32 53 = some (ai_icmp (fun x y => y ≤ x) 75 56) := rfl
theorem at_32_56 : am_code 32 56 = some (ai_aload 0 57) := rfl
theorem at_32_57 : am_code 32 57 = some (ai_getP 1 1 60) := rfl
theorem at_32_60 : am_code 32 60 = some (ai_iload 1 61) := rfl
theorem at_32_61 : am_code 32 61 = some (ai_new 10 3 64) := rfl
theorem at_32_64 : am_code 32 64 = some (ai_dup 65) := rfl
theorem at_32_65 : am_code 32 65 = some (ai_callV 23 10 0 68) := rfl
theorem at_32_68 : am_code 32 68 = some (ai_aast 9 25 10 69) := rfl
theorem at_32_69 : am_code 32 69 = some (ai_iinc 1 1 72) := rfl
theorem at_32_72 : am_code 32 72 = some (ai_goto 50) := rfl
theorem at_32_75 : am_code 32 75 = some (ai_aload 0 76) := rfl
theorem at_32_76 : am_code 32 76 = some (ai_new 13 2 79) := rfl
theorem at_32_79 : am_code 32 79 = some (ai_dup 80) := rfl
theorem at_32_80 : am_code 32 80 = some (ai_callV 26 13 0 83) := rfl
theorem at_32_83 : am_code 32 83 = some (ai_putP 1 2 86) := rfl
theorem at_32_86 : am_code 32 86 = some (ai_aload 0 87) := rfl
theorem at_32_87 : am_code 32 87 = some (ai_push 7 89) := rfl
theorem at_32_89 : am_code 32 89 = some (ai_newa 18 7 91) := rfl
theorem at_32_91 : am_code 32 91 = some (ai_putP 1 3 94) := rfl
theorem at_32_94 : am_code 32 94 = some (ai_aload 0 95) := rfl
theorem at_32_95 : am_code 32 95 = some (ai_push 0 96) := rfl
theorem at_32_96 : am_code 32 96 = some (ai_putI 1 4 99) := rfl
theorem at_32_99 : am_code 32 99 = some (ai_ret) := rfl
theorem at_33_0 : am_code 33 0 = some (ai_iload 1 1) := rfl
theorem at_33_1 : am_code 33 1 = some (ai_callS 48 1 4) := rfl
theorem at_33_4 : am_code 33 4 = some (ai_if (fun x => x = 0) 29 7) := rfl
theorem at_33_7 : am_code 33 7 = some (ai_iload 2 8) := rfl
theorem at_33_8 : am_code 33 8 = some (ai_callS 48 1 11) := rfl
theorem at_33_11 : am_code 33 11 = some (ai_if (fun x => x = 0) 29 14) := rfl
theorem at_33_14 : am_code 33 14 = some (ai_iload 1 15) := rfl
theorem at_33_15 : am_code 33 15 = some (ai_iload 2 16) := rfl
theorem at_33_16 : am_code 33 16 = some (ai_icmp (fun x y => x = y) 29 19) := rfl
theorem at_33_19 : am_code 33 19 = some (ai_iload 3 20) := rfl
theorem at_33_20 : am_code 33 20 = some (ai_if (fun x => x < 0) 29 23) := rfl
theorem at_33_23 : am_code 33 23 = some (ai_iload 3 24) := rfl
theorem at_33_24 : am_code 33 24 = some (ai_push 9 26) := rfl
theorem at_33_26 : am_code 33 26 = some (ai_icmp (fun x y => x ≤ y) 31 29) := rfl
theorem at_33_29 : am_code 33 29 = some (ai_push 0 30) := rfl
theorem at_33_30 : am_code 33 30 = some (ai_zret) := rfl
theorem at_33_31 : am_code 33 31 = some (ai_aload 0 32) := rfl
theorem at_33_32 : am_code 33 32 = some (ai_getP 1 0 35) := rfl
theorem at_33_35 : am_code 33 35 = some (ai_iload 1 36) := rfl
theorem at_33_36 : am_code 33 36 = some (ai_aald 2 5 37) := rfl
theorem at_33_37 : am_code 33 37 = some (ai_getP 3 7 40) := rfl
theorem at_33_40 : am_code 33 40 = some (ai_iload 2 41) := rfl
theorem at_33_41 : am_code 33 41 = some (ai_aald 6 5 42) := rfl
theorem at_33_42 : am_code 33 42 = some (ai_getI 7 0 45) := rfl
theorem at_33_45 : am_code 33 45 = some (ai_iload 3 46) := rfl
theorem at_33_46 : am_code 33 46 = some (ai_icmp (fun x y => ¬ x = y) 51 49) := rfl
theorem at_33_49 : am_code 33 49 = some (ai_push 0 50) := rfl
theorem at_33_50 : am_code 33 50 = some (ai_zret) := rfl
theorem at_33_51 : am_code 33 51 = some (ai_aload 0 52) := rfl
theorem at_33_52 : am_code 33 52 = some (ai_getP 1 0 55) := rfl
theorem at_33_55 : am_code 33 55 = some (ai_iload 1 56) := rfl
theorem at_33_56 : am_code 33 56 = some (ai_aald 2 5 57) := rfl
theorem at_33_57 : am_code 33 57 = some (ai_getP 3 7 60) := rfl
theorem at_33_60 : am_code 33 60 = some (ai_iload 2 61) := rfl
theorem at_33_61 : am_code 33 61 = some (ai_aald 6 5 62) := rfl
theorem at_33_62 : am_code 33 62 = some (ai_iload 3 63) := rfl
theorem at_33_63 : am_code 33 63 = some (ai_callV 8 7 1 66) := rfl
theorem at_33_66 : am_code 33 66 = some (ai_aload 0 67) := rfl
theorem at_33_67 : am_code 33 67 = some (ai_getP 1 0 70) := rfl
theorem at_33_70 : am_code 33 70 = some (ai_iload 2 71) := rfl
theorem at_33_71 : am_code 33 71 = some (ai_aald 2 5 72) := rfl
theorem at_33_72 : am_code 33 72 = some (ai_getP 3 7 75) := rfl
theorem at_33_75 : am_code 33 75 = some (ai_iload 1 76) := rfl
theorem at_33_76 : am_code 33 76 = some (ai_aald 6 5 77) := rfl
theorem at_33_77 : am_code 33 77 = some (ai_iload 3 78) := rfl
theorem at_33_78 : am_code 33 78 = some (ai_callV 8 7 1 81) := rfl
theorem at_33_81 : am_code 33 81 = some (ai_push 1 82) := rfl
theorem at_33_82 : am_code 33 82 = some (ai_zret) := rfl
theorem at_34_0 : am_code 34 0 = some (ai_iload 1 1) := rfl
theorem at_34_1 : am_code 34 1 = some (ai_callS 48 1 4) := rfl
theorem at_34_4 : am_code 34 4 = some (ai_if (fun x => x = 0) 25 7) := rfl
theorem at_34_7 : am_code 34 7 = some (ai_iload 2 8) := rfl
theorem at_34_8 : am_code 34 8 = some (ai_if (fun x => x < 0) 25 11) := rfl
theorem at_34_11 : am_code 34 11 = some (ai_iload 2 12) := rfl
theorem at_34_12 : am_code 34 12 = some (ai_push 2 13) := rfl
theorem at_34_13 : am_code 34 13 = some (ai_icmp (fun x y => y ≤ x) 25 16) := rfl
theorem at_34_16 : am_code 34 16 = some (ai_iload 3 17) := rfl
theorem at_34_17 : am_code 34 17 = some (ai_iload 4 19) := rfl
theorem at_34_19 : am_code 34 19 = some (ai_callS 50 2 22) := rfl
theorem at_34_22 : am_code 34 22 = some (ai_if (fun x => ¬ x = 0) 27 25) := rfl
theorem at_34_25 : am_code 34 25 = some (ai_push 0 26) := rfl
theorem at_34_26 : am_code 34 26 = some (ai_zret) := rfl
theorem at_34_27 : am_code 34 27 = some (ai_iload 5 29) := rfl
theorem at_34_29 : am_code 34 29 = some (ai_if (fun x => x < 0) 39 32) := rfl
theorem at_34_32 : am_code 34 32 = some (ai_iload 5 34) := rfl
theorem at_34_34 : am_code 34 34 = some (ai_push 9 36) := rfl
theorem at_34_36 : am_code 34 36 = some (ai_icmp (fun x y => x ≤ y) 41 39) := rfl
theorem at_34_39 : am_code 34 39 = some (ai_push 0 40) := rfl
theorem at_34_40 : am_code 34 40 = some (ai_zret) := rfl
theorem at_34_41 : am_code 34 41 = some (ai_aload 0 42) := rfl
theorem at_34_42 : am_code 34 42 = some (ai_getP 1 0 45) := rfl
theorem at_34_45 : am_code 34 45 = some (ai_iload 1 46) := rfl
theorem at_34_46 : am_code 34 46 = some (ai_aald 2 5 47) := rfl
theorem at_34_47 : am_code 34 47 = some (ai_getP 3 5 50) := rfl
theorem at_34_50 : am_code 34 50 = some (ai_iload 2 51) := rfl
theorem at_34_51 : am_code 34 51 = some (ai_iload 5 53) := rfl
theorem at_34_53 : am_code 34 53 = some (ai_if (fun x => ¬ x = 0) 60 56) := rfl
theorem at_34_56 : am_code 34 56 = some (ai_null 57) := rfl
theorem at_34_57 : am_code 34 57 = some (ai_goto 72) := rfl
theorem at_34_60 : am_code 34 60 = some (ai_new 22 3 63) := rfl
theorem at_34_63 : am_code 34 63 = some (ai_dup 64) := rfl
theorem at_34_64 : am_code 34 64 = some (ai_iload 3 65) := rfl
theorem at_34_65 : am_code 34 65 = some (ai_iload 4 67) := rfl
theorem at_34_67 : am_code 34 67 = some (ai_iload 5 69) := rfl
theorem at_34_69 : am_code 34 69 = some (ai_callV 1 22 3 72) := rfl
theorem at_34_72 : am_code 34 72 = some (ai_aast 4 2 22 73) := rfl
theorem at_34_73 : am_code 34 73 = some (ai_push 1 74) := rfl
theorem at_34_74 : am_code 34 74 = some (ai_zret) := rfl
theorem at_35_0 : am_code 35 0 = some (ai_iload 1 1) := rfl
theorem at_35_1 : am_code 35 1 = some (ai_callS 48 1 4) := rfl
theorem at_35_4 : am_code 35 4 = some (ai_if (fun x => x = 0) 20 7) := rfl
theorem at_35_7 : am_code 35 7 = some (ai_aload 0 8) := rfl
theorem at_35_8 : am_code 35 8 = some (ai_getP 1 0 11) := rfl
theorem at_35_11 : am_code 35 11 = some (ai_iload 1 12) := rfl
theorem at_35_12 : am_code 35 12 = some (ai_aald 2 5 13) := rfl
theorem at_35_13 : am_code 35 13 = some (ai_getI 3 1 16) := rfl
theorem at_35_16 : am_code 35 16 = some (ai_iload 2 17) := rfl
theorem at_35_17 : am_code 35 17 = some (ai_icmp (fun x y => ¬ x = y) 22 20) := rfl
theorem at_35_20 : am_code 35 20 = some (ai_push 0 21) := rfl
theorem at_35_21 : am_code 35 21 = some (ai_zret) := rfl
theorem at_35_22 : am_code 35 22 = some (ai_aload 0 23) := rfl
theorem at_35_23 : am_code 35 23 = some (ai_getP 1 0 26) := rfl
theorem at_35_26 : am_code 35 26 = some (ai_iload 1 27) := rfl
theorem at_35_27 : am_code 35 27 = some (ai_aald 2 5 28) := rfl
theorem at_35_28 : am_code 35 28 = some (ai_iload 2 29) := rfl
theorem at_35_29 : am_code 35 29 = some (ai_putZ 3 1 32) := rfl
theorem at_35_32 : am_code 35 32 = some (ai_iload 2 33) := rfl
theorem at_35_33 : am_code 35 33 = some (ai_if (fun x => ¬ x = 0) 45 36) := rfl
theorem at_35_36 : am_code 35 36 = some (ai_aload 0 37) := rfl
theorem at_35_37 : am_code 35 37 = some (ai_getP 1 0 40) := rfl
theorem at_35_40 : am_code 35 40 = some (ai_iload 1 41) := rfl
theorem at_35_41 : am_code 35 41 = some (ai_aald 2 5 42) := rfl
theorem at_35_42 : am_code 35 42 = some (ai_callV 15 3 0 45) := rfl
theorem at_35_45 : am_code 35 45 = some (ai_push 1 46) := rfl
theorem at_35_46 : am_code 35 46 = some (ai_zret) := rfl
theorem at_36_0 : am_code 36 0 = some (ai_aload 0 1) := rfl
theorem at_36_1 : am_code 36 1 = some (ai_iload 1 2) := rfl
theorem at_36_2 : am_code 36 2 = some (ai_iload 2 3) := rfl
theorem at_36_3 : am_code 36 3 = some (ai_callV 52 1 2 6) := rfl
theorem at_36_6 : am_code 36 6 = some (ai_if (fun x => x = 0) 19 9) := rfl
theorem at_36_9 : am_code 36 9 = some (ai_iload 3 10) := rfl
theorem at_36_10 : am_code 36 10 = some (ai_if (fun x => x < 0) 19 13) := rfl
theorem at_36_13 : am_code 36 13 = some (ai_iload 3 14) := rfl
theorem at_36_14 : am_code 36 14 = some (ai_push 9 16) := rfl
theorem at_36_16 : am_code 36 16 = some (ai_icmp (fun x y => x ≤ y) 21 19) := rfl
theorem at_36_19 : am_code 36 19 = some (ai_push 0 20) := rfl
theorem at_36_20 : am_code 36 20 = some (ai_zret) := rfl
theorem at_36_21 : am_code 36 21 = some (ai_aload 0 22) := rfl
theorem at_36_22 : am_code 36 22 = some (ai_getP 1 0 25) := rfl
theorem at_36_25 : am_code 36 25 = some (ai_iload 1 26) := rfl
theorem at_36_26 : am_code 36 26 = some (ai_aald 2 5 27) := rfl
theorem at_36_27 : am_code 36 27 = some (ai_getP 3 7 30) := rfl
theorem at_36_30 : am_code 36 30 = some (ai_iload 2 31) := rfl
theorem at_36_31 : am_code 36 31 = some (ai_aald 6 5 32) := rfl
theorem at_36_32 : am_code 36 32 = some (ai_iload 3 33) := rfl
theorem at_36_33 : am_code 36 33 = some (ai_putI 7 1 36) := rfl
theorem at_36_36 : am_code 36 36 = some (ai_push 1 37) := rfl
theorem at_36_37 : am_code 36 37 = some (ai_zret) := rfl
theorem at_37_0 : am_code 37 0 = some (ai_iload 1 1) := rfl
theorem at_37_1 : am_code 37 1 = some (ai_push 1 2) := rfl
theorem at_37_2 : am_code 37 2 = some (ai_icmp (fun x y => x < y) 10 5) := rfl
theorem at_37_5 : am_code 37 5 = some (ai_iload 1 6) := rfl
theorem at_37_6 : am_code 37 6 = some (ai_push 4 7) := rfl
theorem at_37_7 : am_code 37 7 = some (ai_icmp (fun x y => x ≤ y) 12 10) := rfl
theorem at_37_10 : am_code 37 10 = some (ai_push 0 11) := rfl
theorem at_37_11 : am_code 37 11 = some (ai_zret) := rfl
theorem at_37_12 : am_code 37 12 = some (ai_push 0 13) := rfl
theorem at_37_13 : am_code 37 13 = some (ai_istore 2 14) := rfl
theorem at_37_14 : am_code 37 14 = some (ai_iload 2 15) := rfl
theorem at_37_15 : am_code 37 15 = some (ai_iload 1 16) := rfl
theorem at_37_16 : am_code 37 16 = some (ai_icmp (fun x y => y ≤ x) 29 19) := rfl
theorem at_37_19 : am_code 37 19 = some (ai_aload 0 20) := rfl
theorem at_37_20 : am_code 37 20 = some (ai_callV 53 1 0 23) := rfl
theorem at_37_23 : am_code 37 23 = some (ai_iinc 2 1 26) := rfl
theorem at_37_26 : am_code 37 26 = some (ai_goto 14) := rfl
theorem at_37_29 : am_code 37 29 = some (ai_push 1 30) := rfl
theorem at_37_30 : am_code 37 30 = some (ai_zret) := rfl
theorem at_38_0 : am_code 38 0 = some (ai_aload 0 1) := rfl
theorem at_38_1 : am_code 38 1 = some (ai_iload 1 2) := rfl
theorem at_38_2 : am_code 38 2 = some (ai_iload 2 3) := rfl
theorem at_38_3 : am_code 38 3 = some (ai_callV 52 1 2 6) := rfl
theorem at_38_6 : am_code 38 6 = some (ai_if (fun x => ¬ x = 0) 11 9) := rfl
theorem at_38_9 : am_code 38 9 = some (ai_push (-1) 10) := rfl
theorem at_38_10 : am_code 38 10 = some (ai_iret) := rfl
theorem at_38_11 : am_code 38 11 = some (ai_aload 0 12) := rfl
theorem at_38_12 : am_code 38 12 = some (ai_getP 1 0 15) := rfl
theorem at_38_15 : am_code 38 15 = some (ai_iload 1 16) := rfl
theorem at_38_16 : am_code 38 16 = some (ai_aald 2 5 17) := rfl
theorem at_38_17 : am_code 38 17 = some (ai_getP 3 7 20) := rfl
theorem at_38_20 : am_code 38 20 = some (ai_iload 2 21) := rfl
theorem at_38_21 : am_code 38 21 = some (ai_aald 6 5 22) := rfl
theorem at_38_22 : am_code 38 22 = some (ai_astore 3 23) := rfl
theorem at_38_23 : am_code 38 23 = some (ai_aload 3 24) := rfl
theorem at_38_24 : am_code 38 24 = some (ai_getI 7 6 27) := rfl
theorem at_38_27 : am_code 38 27 = some (ai_if (fun x => x = 0) 32 30) := rfl
theorem at_38_30 : am_code 38 30 = some (ai_push 2 31) := rfl
theorem at_38_31 : am_code 38 31 = some (ai_iret) := rfl
theorem at_38_32 : am_code 38 32 = some (ai_aload 3 33) := rfl
theorem at_38_33 : am_code 38 33 = some (ai_getI 7 2 36) := rfl
theorem at_38_36 : am_code 38 36 = some (ai_if (fun x => x = 0) 43 39) := rfl
theorem at_38_39 : am_code 38 39 = some (ai_push 1 40) := rfl
theorem at_38_40 : am_code 38 40 = some (ai_goto 44) := rfl
theorem at_38_43 : am_code 38 43 = some (ai_push 0 44) := rfl
theorem at_38_44 : am_code 38 44 = some (ai_iret) := rfl
theorem at_39_0 : am_code 39 0 = some (ai_iload 1 1) := rfl
theorem at_39_1 : am_code 39 1 = some (ai_callS 48 1 4) := rfl
theorem at_39_4 : am_code 39 4 = some (ai_if (fun x => x = 0) 14 7) := rfl
theorem at_39_7 : am_code 39 7 = some (ai_iload 2 8) := rfl
theorem at_39_8 : am_code 39 8 = some (ai_callS 48 1 11) := rfl
theorem at_39_11 : am_code 39 11 = some (ai_if (fun x => ¬ x = 0) 16 14) := rfl
theorem at_39_14 : am_code 39 14 = some (ai_push (-1) 15) := rfl
theorem at_39_15 : am_code 39 15 = some (ai_iret) := rfl
theorem at_39_16 : am_code 39 16 = some (ai_aload 0 17) := rfl
theorem at_39_17 : am_code 39 17 = some (ai_getP 1 0 20) := rfl
theorem at_39_20 : am_code 39 20 = some (ai_iload 1 21) := rfl
theorem at_39_21 : am_code 39 21 = some (ai_aald 2 5 22) := rfl
theorem at_39_22 : am_code 39 22 = some (ai_getP 3 6 25) := rfl
theorem at_39_25 : am_code 39 25 = some (ai_iload 2 26) := rfl
theorem at_39_26 : am_code 39 26 = some (ai_aald 5 5 27) := rfl
theorem at_39_27 : am_code 39 27 = some (ai_astore 3 28) := rfl
theorem at_39_28 : am_code 39 28 = some (ai_aload 3 29) := rfl
theorem at_39_29 : am_code 39 29 = some (ai_ifnonnull 36 32) := rfl
theorem at_39_32 : am_code 39 32 = some (ai_push 0 33) := rfl
theorem at_39_33 : am_code 39 33 = some (ai_goto 40) := rfl
theorem at_39_36 : am_code 39 36 = some (ai_aload 3 37) := rfl
theorem at_39_37 : am_code 39 37 = some (ai_getI 19 1 40) := rfl
theorem at_39_40 : am_code 39 40 = some (ai_iret) := rfl
theorem at_40_0 : am_code 40 0 = some (ai_iload 1 1) := rfl
theorem at_40_1 : am_code 40 1 = some (ai_callS 48 1 4) := rfl
theorem at_40_4 : am_code 40 4 = some (ai_if (fun x => x = 0) 14 7) := rfl
theorem at_40_7 : am_code 40 7 = some (ai_iload 2 8) := rfl
theorem at_40_8 : am_code 40 8 = some (ai_callS 48 1 11) := rfl
theorem at_40_11 : am_code 40 11 = some (ai_if (fun x => ¬ x = 0) 16 14) := rfl
theorem at_40_14 : am_code 40 14 = some (ai_push (-1) 15) := rfl
theorem at_40_15 : am_code 40 15 = some (ai_iret) := rfl
theorem at_40_16 : am_code 40 16 = some (ai_aload 0 17) := rfl
theorem at_40_17 : am_code 40 17 = some (ai_getP 1 0 20) := rfl
theorem at_40_20 : am_code 40 20 = some (ai_iload 1 21) := rfl
theorem at_40_21 : am_code 40 21 = some (ai_aald 2 5 22) := rfl
theorem at_40_22 : am_code 40 22 = some (ai_getP 3 6 25) := rfl
theorem at_40_25 : am_code 40 25 = some (ai_iload 2 26) := rfl
theorem at_40_26 : am_code 40 26 = some (ai_aald 5 5 27) := rfl
theorem at_40_27 : am_code 40 27 = some (ai_astore 3 28) := rfl
theorem at_40_28 : am_code 40 28 = some (ai_aload 3 29) := rfl
theorem at_40_29 : am_code 40 29 = some (ai_ifnonnull 36 32) := rfl
theorem at_40_32 : am_code 40 32 = some (ai_push (-1) 33) := rfl
theorem at_40_33 : am_code 40 33 = some (ai_goto 45) := rfl
theorem at_40_36 : am_code 40 36 = some (ai_aload 0 37) := rfl
theorem at_40_37 : am_code 40 37 = some (ai_getI 1 4 40) := rfl
theorem at_40_40 : am_code 40 40 = some (ai_aload 3 41) := rfl
theorem at_40_41 : am_code 40 41 = some (ai_getI 19 2 44) := rfl
theorem at_40_44 : am_code 40 44 = some (ai_bin (fun x y => x - y) 45) := rfl
theorem at_40_45 : am_code 40 45 = some (ai_iret) := rfl
theorem at_41_0 : am_code 41 0 = some (ai_iload 1 1) := rfl
theorem at_41_1 : am_code 41 1 = some (ai_callS 48 1 4) := rfl
theorem at_41_4 : am_code 41 4 = some (ai_if (fun x => x = 0) 21 7) := rfl
theorem at_41_7 : am_code 41 7 = some (ai_iload 2 8) := rfl
theorem at_41_8 : am_code 41 8 = some (ai_callS 48 1 11) := rfl
theorem at_41_11 : am_code 41 11 = some (ai_if (fun x => x = 0) 21 14) := rfl
theorem at_41_14 : am_code 41 14 = some (ai_iload 3 15) := rfl
theorem at_41_15 : am_code 41 15 = some (ai_callS 48 1 18) := rfl
theorem at_41_18 : am_code 41 18 = some (ai_if (fun x => ¬ x = 0) 23 21) := rfl
theorem at_41_21 : am_code 41 21 = some (ai_push (-1) 22) := rfl
theorem at_41_22 : am_code 41 22 = some (ai_iret) := rfl
theorem at_41_23 : am_code 41 23 = some (ai_aload 0 24) := rfl
theorem at_41_24 : am_code 41 24 = some (ai_getP 1 0 27) := rfl
theorem at_41_27 : am_code 41 27 = some (ai_iload 1 28) := rfl
theorem at_41_28 : am_code 41 28 = some (ai_aald 2 5 29) := rfl
theorem at_41_29 : am_code 41 29 = some (ai_getP 3 6 32) := rfl
theorem at_41_32 : am_code 41 32 = some (ai_iload 2 33) := rfl
theorem at_41_33 : am_code 41 33 = some (ai_aald 5 5 34) := rfl
theorem at_41_34 : am_code 41 34 = some (ai_astore 4 36) := rfl
theorem at_41_36 : am_code 41 36 = some (ai_aload 4 38) := rfl
theorem at_41_38 : am_code 41 38 = some (ai_ifnonnull 45 41) := rfl
theorem at_41_41 : am_code 41 41 = some (ai_push (-1) 42) := rfl
theorem at_41_42 : am_code 41 42 = some (ai_goto 52) := rfl
theorem at_41_45 : am_code 41 45 = some (ai_aload 4 47) := rfl
theorem at_41_47 : am_code 41 47 = some (ai_getP 19 3 50) := rfl
theorem at_41_50 : am_code 41 50 = some (ai_iload 3 51) := rfl
theorem at_41_51 : am_code 41 51 = some (ai_ald 20 5 52) := rfl
theorem at_41_52 : am_code 41 52 = some (ai_iret) := rfl
theorem at_42_0 : am_code 42 0 = some (ai_aload 0 1) := rfl
theorem at_42_1 : am_code 42 1 = some (ai_iload 1 2) := rfl
theorem at_42_2 : am_code 42 2 = some (ai_iload 2 3) := rfl
theorem at_42_3 : am_code 42 3 = some (ai_callV 52 1 2 6) := rfl
theorem at_42_6 : am_code 42 6 = some (ai_if (fun x => ¬ x = 0) 11 9) := rfl
theorem at_42_9 : am_code 42 9 = some (ai_push (-1) 10) := rfl
theorem at_42_10 : am_code 42 10 = some (ai_iret) := rfl
theorem at_42_11 : am_code 42 11 = some (ai_aload 0 12) := rfl
theorem at_42_12 : am_code 42 12 = some (ai_getP 1 0 15) := rfl
theorem at_42_15 : am_code 42 15 = some (ai_iload 1 16) := rfl
theorem at_42_16 : am_code 42 16 = some (ai_aald 2 5 17) := rfl
theorem at_42_17 : am_code 42 17 = some (ai_getP 3 7 20) := rfl
theorem at_42_20 : am_code 42 20 = some (ai_iload 2 21) := rfl
theorem at_42_21 : am_code 42 21 = some (ai_aald 6 5 22) := rfl
theorem at_42_22 : am_code 42 22 = some (ai_astore 3 23) := rfl
theorem at_42_23 : am_code 42 23 = some (ai_push 0 24) := rfl
theorem at_42_24 : am_code 42 24 = some (ai_istore 4 26) := rfl
theorem at_42_26 : am_code 42 26 = some (ai_push 0 27) := rfl
theorem at_42_27 : am_code 42 27 = some (ai_istore 5 29) := rfl
theorem at_42_29 : am_code 42 29 = some (ai_iload 5 31) := rfl
theorem at_42_31 : am_code 42 31 = some (ai_push 5 32) := rfl
theorem at_42_32 : am_code 42 32 = some (ai_icmp (fun x y => y ≤ x) 56 35) := rfl
theorem at_42_35 : am_code 42 35 = some (ai_aload 3 36) := rfl
theorem at_42_36 : am_code 42 36 = some (ai_getP 7 8 39) := rfl
theorem at_42_39 : am_code 42 39 = some (ai_iload 5 41) := rfl
theorem at_42_41 : am_code 42 41 = some (ai_ald 8 5 42) := rfl
theorem at_42_42 : am_code 42 42 = some (ai_push (-2) 44) := rfl
theorem at_42_44 : am_code 42 44 = some (ai_icmp (fun x y => x = y) 50 47) := rfl
theorem at_42_47 : am_code 42 47 = some (ai_iinc 4 1 50) := rfl
theorem at_42_50 : am_code 42 50 = some (ai_iinc 5 1 53) := rfl
theorem at_42_53 : am_code 42 53 = some (ai_goto 29) := rfl
theorem at_42_56 : am_code 42 56 = some (ai_iload 4 58) := rfl
theorem at_42_58 : am_code 42 58 = some (ai_iret) := rfl
theorem at_43_0 : am_code 43 0 = some (ai_aload 0 1) := rfl
theorem at_43_1 : am_code 43 1 = some (ai_iload 1 2) := rfl
theorem at_43_2 : am_code 43 2 = some (ai_callV 51 1 1 5) := rfl
theorem at_43_5 : am_code 43 5 = some (ai_if (fun x => x = 0) 15 8) := rfl
theorem at_43_8 : am_code 43 8 = some (ai_iload 2 9) := rfl
theorem at_43_9 : am_code 43 9 = some (ai_callS 48 1 12) := rfl
theorem at_43_12 : am_code 43 12 = some (ai_if (fun x => ¬ x = 0) 17 15) := rfl
theorem at_43_15 : am_code 43 15 = some (ai_push (-1) 16) := rfl
theorem at_43_16 : am_code 43 16 = some (ai_iret) := rfl
theorem at_43_17 : am_code 43 17 = some (ai_aload 0 18) := rfl
theorem at_43_18 : am_code 43 18 = some (ai_getP 1 2 21) := rfl
theorem at_43_21 : am_code 43 21 = some (ai_aload 0 22) := rfl
theorem at_43_22 : am_code 43 22 = some (ai_getP 1 0 25) := rfl
theorem at_43_25 : am_code 43 25 = some (ai_iload 1 26) := rfl
theorem at_43_26 : am_code 43 26 = some (ai_aald 2 5 27) := rfl
theorem at_43_27 : am_code 43 27 = some (ai_getP 3 6 30) := rfl
theorem at_43_30 : am_code 43 30 = some (ai_callV 27 13 1 33) := rfl
theorem at_43_33 : am_code 43 33 = some (ai_aload 0 34) := rfl
theorem at_43_34 : am_code 43 34 = some (ai_getP 1 2 37) := rfl
theorem at_43_37 : am_code 43 37 = some (ai_getP 13 1 40) := rfl
theorem at_43_40 : am_code 43 40 = some (ai_iload 1 41) := rfl
theorem at_43_41 : am_code 43 41 = some (ai_aald 16 5 42) := rfl
theorem at_43_42 : am_code 43 42 = some (ai_iload 2 43) := rfl
theorem at_43_43 : am_code 43 43 = some (ai_ald 17 5 44) := rfl
theorem at_43_44 : am_code 43 44 = some (ai_push 1000 47) := rfl
theorem at_43_47 : am_code 43 47 = some (ai_icmp (fun x y => ¬ x = y) 54 50) := rfl
theorem at_43_50 : am_code 43 50 = some (ai_push (-1) 51) := rfl
theorem at_43_51 : am_code 43 51 = some (ai_goto 65) := rfl
theorem at_43_54 : am_code 43 54 = some (ai_aload 0 55) := rfl
theorem at_43_55 : am_code 43 55 = some (ai_getP 1 2 58) := rfl
theorem at_43_58 : am_code 43 58 = some (ai_getP 13 1 61) := rfl
theorem at_43_61 : am_code 43 61 = some (ai_iload 1 62) := rfl
theorem at_43_62 : am_code 43 62 = some (ai_aald 16 5 63) := rfl
theorem at_43_63 : am_code 43 63 = some (ai_iload 2 64) := rfl
theorem at_43_64 : am_code 43 64 = some (ai_ald 17 5 65) := rfl
theorem at_43_65 : am_code 43 65 = some (ai_iret) := rfl
theorem at_44_0 : am_code 44 0 = some (ai_aload 0 1) := rfl
theorem at_44_1 : am_code 44 1 = some (ai_iload 1 2) := rfl
theorem at_44_2 : am_code 44 2 = some (ai_callV 51 1 1 5) := rfl
theorem at_44_5 : am_code 44 5 = some (ai_if (fun x => x = 0) 15 8) := rfl
theorem at_44_8 : am_code 44 8 = some (ai_iload 2 9) := rfl
theorem at_44_9 : am_code 44 9 = some (ai_callS 48 1 12) := rfl
theorem at_44_12 : am_code 44 12 = some (ai_if (fun x => ¬ x = 0) 17 15) := rfl
theorem at_44_15 : am_code 44 15 = some (ai_push (-1) 16) := rfl
theorem at_44_16 : am_code 44 16 = some (ai_iret) := rfl
theorem at_44_17 : am_code 44 17 = some (ai_aload 0 18) := rfl
theorem at_44_18 : am_code 44 18 = some (ai_getP 1 2 21) := rfl
theorem at_44_21 : am_code 44 21 = some (ai_aload 0 22) := rfl
theorem at_44_22 : am_code 44 22 = some (ai_getP 1 0 25) := rfl
theorem at_44_25 : am_code 44 25 = some (ai_iload 1 26) := rfl
theorem at_44_26 : am_code 44 26 = some (ai_aald 2 5 27) := rfl
theorem at_44_27 : am_code 44 27 = some (ai_getP 3 6 30) := rfl
theorem at_44_30 : am_code 44 30 = some (ai_callV 27 13 1 33) := rfl
theorem at_44_33 : am_code 44 33 = some (ai_aload 0 34) := rfl
theorem at_44_34 : am_code 44 34 = some (ai_getP 1 2 37) := rfl
theorem at_44_37 : am_code 44 37 = some (ai_iload 1 38) := rfl
theorem at_44_38 : am_code 44 38 = some (ai_iload 2 39) := rfl
theorem at_44_39 : am_code 44 39 = some (ai_callV 30 13 2 42) := rfl
theorem at_44_42 : am_code 44 42 = some (ai_iret) := rfl
theorem at_45_0 : am_code 45 0 = some (ai_aload 0 1) := rfl
theorem at_45_1 : am_code 45 1 = some (ai_iload 1 2) := rfl
theorem at_45_2 : am_code 45 2 = some (ai_callV 51 1 1 5) := rfl
theorem at_45_5 : am_code 45 5 = some (ai_if (fun x => x = 0) 15 8) := rfl
theorem at_45_8 : am_code 45 8 = some (ai_iload 2 9) := rfl
theorem at_45_9 : am_code 45 9 = some (ai_callS 49 1 12) := rfl
theorem at_45_12 : am_code 45 12 = some (ai_if (fun x => ¬ x = 0) 17 15) := rfl
theorem at_45_15 : am_code 45 15 = some (ai_push (-1) 16) := rfl
theorem at_45_16 : am_code 45 16 = some (ai_iret) := rfl
theorem at_45_17 : am_code 45 17 = some (ai_aload 0 18) := rfl
theorem at_45_18 : am_code 45 18 = some (ai_getP 1 2 21) := rfl
theorem at_45_21 : am_code 45 21 = some (ai_aload 0 22) := rfl
theorem at_45_22 : am_code 45 22 = some (ai_getP 1 0 25) := rfl
theorem at_45_25 : am_code 45 25 = some (ai_iload 1 26) := rfl
theorem at_45_26 : am_code 45 26 = some (ai_aald 2 5 27) := rfl
theorem at_45_27 : am_code 45 27 = some (ai_getP 3 6 30) := rfl
theorem at_45_30 : am_code 45 30 = some (ai_callV 27 13 1 33) := rfl
theorem at_45_33 : am_code 45 33 = some (ai_aload 0 34) := rfl
theorem at_45_34 : am_code 45 34 = some (ai_getP 1 2 37) := rfl
theorem at_45_37 : am_code 45 37 = some (ai_iload 1 38) := rfl
theorem at_45_38 : am_code 45 38 = some (ai_iload 2 39) := rfl
theorem at_45_39 : am_code 45 39 = some (ai_aload 0 40) := rfl
theorem at_45_40 : am_code 45 40 = some (ai_getP 1 0 43) := rfl
theorem at_45_43 : am_code 45 43 = some (ai_iload 1 44) := rfl
theorem at_45_44 : am_code 45 44 = some (ai_aald 2 5 45) := rfl
theorem at_45_45 : am_code 45 45 = some (ai_getP 3 6 48) := rfl
theorem at_45_48 : am_code 45 48 = some (ai_callV 31 13 3 51) := rfl
theorem at_45_51 : am_code 45 51 = some (ai_iret) := rfl
theorem at_46_0 : am_code 46 0 = some (ai_aload 0 1) := rfl
theorem at_46_1 : am_code 46 1 = some (ai_iload 1 2) := rfl
theorem at_46_2 : am_code 46 2 = some (ai_callV 51 1 1 5) := rfl
theorem at_46_5 : am_code 46 5 = some (ai_if (fun x => x = 0) 26 8) := rfl
theorem at_46_8 : am_code 46 8 = some (ai_iload 2 9) := rfl
theorem at_46_9 : am_code 46 9 = some (ai_callS 49 1 12) := rfl
theorem at_46_12 : am_code 46 12 = some (ai_if (fun x => x = 0) 26 15) := rfl
theorem at_46_15 : am_code 46 15 = some (ai_iload 3 16) := rfl
theorem at_46_16 : am_code 46 16 = some (ai_push 1 17) := rfl
theorem at_46_17 : am_code 46 17 = some (ai_icmp (fun x y => x < y) 26 20) := rfl
theorem at_46_20 : am_code 46 20 = some (ai_iload 3 21) := rfl
theorem at_46_21 : am_code 46 21 = some (ai_push 15 23) := rfl
theorem at_46_23 : am_code 46 23 = some (ai_icmp (fun x y => x ≤ y) 28 26) := rfl
theorem at_46_26 : am_code 46 26 = some (ai_push (-1) 27) := rfl
theorem at_46_27 : am_code 46 27 = some (ai_iret) := rfl
theorem at_46_28 : am_code 46 28 = some (ai_iload 1 29) := rfl
theorem at_46_29 : am_code 46 29 = some (ai_istore 4 31) := rfl
theorem at_46_31 : am_code 46 31 = some (ai_iload 3 32) := rfl
theorem at_46_32 : am_code 46 32 = some (ai_istore 5 34) := rfl
theorem at_46_34 : am_code 46 34 = some (ai_iload 5 36) := rfl
theorem at_46_36 : am_code 46 36 = some (ai_push 1 37) := rfl
theorem at_46_37 : am_code 46 37 = some (ai_icmp (fun x y => x < y) 161 40) := rfl
theorem at_46_40 : am_code 46 40 = some (ai_aload 0 41) := rfl
theorem at_46_41 : am_code 46 41 = some (ai_getP 1 2 44) := rfl
theorem at_46_44 : am_code 46 44 = some (ai_aload 0 45) := rfl
theorem at_46_45 : am_code 46 45 = some (ai_getP 1 0 48) := rfl
theorem at_46_48 : am_code 46 48 = some (ai_iload 4 50) := rfl
theorem at_46_50 : am_code 46 50 = some (ai_aald 2 5 51) := rfl
theorem at_46_51 : am_code 46 51 = some (ai_getP 3 6 54) := rfl
theorem at_46_54 : am_code 46 54 = some (ai_callV 27 13 1 57) := rfl
theorem at_46_57 : am_code 46 57 = some (ai_aload 0 58) := rfl
theorem at_46_58 : am_code 46 58 = some (ai_getP 1 2 61) := rfl
theorem at_46_61 : am_code 46 61 = some (ai_iload 4 63) := rfl
theorem at_46_63 : am_code 46 63 = some (ai_iload 2 64) := rfl
theorem at_46_64 : am_code 46 64 = some (ai_aload 0 65) := rfl
theorem at_46_65 : am_code 46 65 = some (ai_getP 1 0 68) := rfl
theorem at_46_68 : am_code 46 68 = some (ai_iload 4 70) := rfl
theorem at_46_70 : am_code 46 70 = some (ai_aald 2 5 71) := rfl
theorem at_46_71 : am_code 46 71 = some (ai_getP 3 6 74) := rfl
theorem at_46_74 : am_code 46 74 = some (ai_callV 31 13 3 77) := rfl
theorem at_46_77 : am_code 46 77 = some (ai_istore 6 79) := rfl
theorem at_46_79 : am_code 46 79 = some (ai_iload 6 81) := rfl
theorem at_46_81 : am_code 46 81 = some (ai_push (-1) 82) := rfl
theorem at_46_82 : am_code 46 82 = some (ai_icmp (fun x y => ¬ x = y) 92 85) := rfl
theorem at_46_85 : am_code 46 85 = some (ai_push 300 88) := rfl
theorem at_46_88 : am_code 46 88 = some (ai_iload 4 90) := rfl
theorem at_46_90 : am_code 46 90 = some (ai_bin (fun x y => x + y) 91) := rfl
theorem at_46_91 : am_code 46 91 = some (ai_iret) := rfl
theorem at_46_92 : am_code 46 92 = some (ai_iload 6 94) := rfl
theorem at_46_94 : am_code 46 94 = some (ai_iload 4 96) := rfl
theorem at_46_96 : am_code 46 96 = some (ai_icmp (fun x y => ¬ x = y) 105 99) := rfl
theorem at_46_99 : am_code 46 99 = some (ai_push 100 101) := rfl
theorem at_46_101 : am_code 46 101 = some (ai_iload 4 103) := rfl
theorem at_46_103 : am_code 46 103 = some (ai_bin (fun x y => x + y) 104) := rfl
theorem at_46_104 : am_code 46 104 = some (ai_iret) := rfl
theorem at_46_105 : am_code 46 105 = some (ai_iload 5 107) := rfl
theorem at_46_107 : am_code 46 107 = some (ai_push 1 108) := rfl
theorem at_46_108 : am_code 46 108 = some (ai_icmp (fun x y => x ≤ y) 155 111) := rfl
theorem at_46_111 : am_code 46 111 = some (ai_aload 0 112) := rfl
theorem at_46_112 : am_code 46 112 = some (ai_getP 1 2 115) := rfl
theorem at_46_115 : am_code 46 115 = some (ai_iload 4 117) := rfl
theorem at_46_117 : am_code 46 117 = some (ai_iload 6 119) := rfl
theorem at_46_119 : am_code 46 119 = some (ai_callV 30 13 2 122) := rfl
theorem at_46_122 : am_code 46 122 = some (ai_istore 7 124) := rfl
theorem at_46_124 : am_code 46 124 = some (ai_aload 0 125) := rfl
theorem at_46_125 : am_code 46 125 = some (ai_iload 4 127) := rfl
theorem at_46_127 : am_code 46 127 = some (ai_iload 7 129) := rfl
theorem at_46_129 : am_code 46 129 = some (ai_callV 52 1 2 132) := rfl
theorem at_46_132 : am_code 46 132 = some (ai_if (fun x => x = 0) 144 135) := rfl
theorem at_46_135 : am_code 46 135 = some (ai_aload 0 136) := rfl
theorem at_46_136 : am_code 46 136 = some (ai_iload 7 138) := rfl
theorem at_46_138 : am_code 46 138 = some (ai_callV 51 1 1 141) := rfl
theorem at_46_141 : am_code 46 141 = some (ai_if (fun x => ¬ x = 0) 151 144) := rfl
theorem at_46_144 : am_code 46 144 = some (ai_push 400 147) := rfl
theorem at_46_147 : am_code 46 147 = some (ai_iload 4 149) := rfl
theorem at_46_149 : am_code 46 149 = some (ai_bin (fun x y => x + y) 150) := rfl
theorem at_46_150 : am_code 46 150 = some (ai_iret) := rfl
theorem at_46_151 : am_code 46 151 = some (ai_iload 7 153) := rfl
theorem at_46_153 : am_code 46 153 = some (ai_istore 4 155) := rfl
theorem at_46_155 : am_code 46 155 = some (ai_iinc 5 (-1) 158) := rfl
theorem at_46_158 : am_code 46 158 = some (ai_goto 34) := rfl
theorem at_46_161 : am_code 46 161 = some (ai_push 200 164) := rfl
theorem at_46_164 : am_code 46 164 = some (ai_iload 4 166) := rfl
theorem at_46_166 : am_code 46 166 = some (ai_bin (fun x y => x + y) 167) := rfl
theorem at_46_167 : am_code 46 167 = some (ai_iret) := rfl
theorem at_47_0 : am_code 47 0 = some (ai_iload 1 1) := rfl
theorem at_47_1 : am_code 47 1 = some (ai_if (fun x => x < 0) 10 4) := rfl
theorem at_47_4 : am_code 47 4 = some (ai_iload 1 5) := rfl
theorem at_47_5 : am_code 47 5 = some (ai_push 7 7) := rfl
theorem at_47_7 : am_code 47 7 = some (ai_icmp (fun x y => x < y) 14 10) := rfl
theorem at_47_10 : am_code 47 10 = some (ai_push (-1) 11) := rfl
theorem at_47_11 : am_code 47 11 = some (ai_goto 20) := rfl
theorem at_47_14 : am_code 47 14 = some (ai_aload 0 15) := rfl
theorem at_47_15 : am_code 47 15 = some (ai_getP 1 3 18) := rfl
theorem at_47_18 : am_code 47 18 = some (ai_iload 1 19) := rfl
theorem at_47_19 : am_code 47 19 = some (ai_ald 18 7 20) := rfl
theorem at_47_20 : am_code 47 20 = some (ai_iret) := rfl
theorem at_48_0 : am_code 48 0 = some (ai_iload 0 1) := rfl
theorem at_48_1 : am_code 48 1 = some (ai_if (fun x => x < 0) 13 4) := rfl
theorem at_48_4 : am_code 48 4 = some (ai_iload 0 5) := rfl
theorem at_48_5 : am_code 48 5 = some (ai_push 5 6) := rfl
theorem at_48_6 : am_code 48 6 = some (ai_icmp (fun x y => y ≤ x) 13 9) := rfl
theorem at_48_9 : am_code 48 9 = some (ai_push 1 10) := rfl
theorem at_48_10 : am_code 48 10 = some (ai_goto 14) := rfl
theorem at_48_13 : am_code 48 13 = some (ai_push 0 14) := rfl
theorem at_48_14 : am_code 48 14 = some (ai_zret) := rfl
theorem at_49_0 : am_code 49 0 = some (ai_iload 0 1) := rfl
theorem at_49_1 : am_code 49 1 = some (ai_if (fun x => x < 0) 15 4) := rfl
theorem at_49_4 : am_code 49 4 = some (ai_iload 0 5) := rfl
theorem at_49_5 : am_code 49 5 = some (ai_push 255 8) := rfl
theorem at_49_8 : am_code 49 8 = some (ai_icmp (fun x y => y < x) 15 11) := rfl
theorem at_49_11 : am_code 49 11 = some (ai_push 1 12) := rfl
theorem at_49_12 : am_code 49 12 = some (ai_goto 16) := rfl
theorem at_49_15 : am_code 49 15 = some (ai_push 0 16) := rfl
theorem at_49_16 : am_code 49 16 = some (ai_zret) := rfl
theorem at_50_0 : am_code 50 0 = some (ai_iload 0 1) := rfl
theorem at_50_1 : am_code 50 1 = some (ai_callS 49 1 4) := rfl
theorem at_50_4 : am_code 50 4 = some (ai_if (fun x => x = 0) 17 7) := rfl
theorem at_50_7 : am_code 50 7 = some (ai_iload 1 8) := rfl
theorem at_50_8 : am_code 50 8 = some (ai_if (fun x => x < 0) 17 11) := rfl
theorem at_50_11 : am_code 50 11 = some (ai_iload 1 12) := rfl
theorem at_50_12 : am_code 50 12 = some (ai_push 8 14) := rfl
theorem at_50_14 : am_code 50 14 = some (ai_icmp (fun x y => x ≤ y) 19 17) := rfl
theorem at_50_17 : am_code 50 17 = some (ai_push 0 18) := rfl
theorem at_50_18 : am_code 50 18 = some (ai_zret) := rfl
theorem at_50_19 : am_code 50 19 = some (ai_push 1 20) := rfl
theorem at_50_20 : am_code 50 20 = some (ai_push 8 22) := rfl
theorem at_50_22 : am_code 50 22 = some (ai_iload 1 23) := rfl
theorem at_50_23 : am_code 50 23 = some (ai_bin (fun x y => x - y) 24) := rfl
theorem at_50_24 : am_code 50 24 = some (ai_bin (fun x y => x <<< (y &&& 31)) 25) := rfl
theorem at_50_25 : am_code 50 25 = some (ai_push 1 26) := rfl
theorem at_50_26 : am_code 50 26 = some (ai_bin (fun x y => x - y) 27) := rfl
theorem at_50_27 : am_code 50 27 = some (ai_istore 2 28) := rfl
theorem at_50_28 : am_code 50 28 = some (ai_iload 0 29) := rfl
theorem at_50_29 : am_code 50 29 = some (ai_iload 2 30) := rfl
theorem at_50_30 : am_code 50 30 = some (ai_bin (fun x y => x &&& y) 31) := rfl
theorem at_50_31 : am_code 50 31 = some (ai_if (fun x => ¬ x = 0) 38 34) := rfl
theorem at_50_34 : am_code 50 34 = some (ai_push 1 35) := rfl
theorem at_50_35 : am_code 50 35 = some (ai_goto 39) := rfl
theorem at_50_38 : am_code 50 38 = some (ai_push 0 39) := rfl
theorem at_50_39 : am_code 50 39 = some (ai_zret) := rfl
theorem at_51_0 : am_code 51 0 = some (ai_iload 1 1) := rfl
theorem at_51_1 : am_code 51 1 = some (ai_callS 48 1 4) := rfl
theorem at_51_4 : am_code 51 4 = some (ai_if (fun x => x = 0) 23 7) := rfl
theorem at_51_7 : am_code 51 7 = some (ai_aload 0 8) := rfl
theorem at_51_8 : am_code 51 8 = some (ai_getP 1 0 11) := rfl
theorem at_51_11 : am_code 51 11 = some (ai_iload 1 12) := rfl
theorem at_51_12 : am_code 51 12 = some (ai_aald 2 5 13) := rfl
theorem at_51_13 : am_code 51 13 = some (ai_getI 3 1 16) := rfl
theorem at_51_16 : am_code 51 16 = some (ai_if (fun x => x = 0) 23 19) := rfl
theorem at_51_19 : am_code 51 19 = some (ai_push 1 20) := rfl
theorem at_51_20 : am_code 51 20 = some (ai_goto 24) := rfl
theorem at_51_23 : am_code 51 23 = some (ai_push 0 24) := rfl
theorem at_51_24 : am_code 51 24 = some (ai_zret) := rfl
theorem at_52_0 : am_code 52 0 = some (ai_iload 1 1) := rfl
theorem at_52_1 : am_code 52 1 = some (ai_callS 48 1 4) := rfl
theorem at_52_4 : am_code 52 4 = some (ai_if (fun x => x = 0) 35 7) := rfl
theorem at_52_7 : am_code 52 7 = some (ai_iload 2 8) := rfl
theorem at_52_8 : am_code 52 8 = some (ai_callS 48 1 11) := rfl
theorem at_52_11 : am_code 52 11 = some (ai_if (fun x => x = 0) 35 14) := rfl
theorem at_52_14 : am_code 52 14 = some (ai_aload 0 15) := rfl
theorem at_52_15 : am_code 52 15 = some (ai_getP 1 0 18) := rfl
theorem at_52_18 : am_code 52 18 = some (ai_iload 1 19) := rfl
theorem at_52_19 : am_code 52 19 = some (ai_aald 2 5 20) := rfl
theorem at_52_20 : am_code 52 20 = some (ai_getP 3 7 23) := rfl
theorem at_52_23 : am_code 52 23 = some (ai_iload 2 24) := rfl
theorem at_52_24 : am_code 52 24 = some (ai_aald 6 5 25) := rfl
theorem at_52_25 : am_code 52 25 = some (ai_getI 7 0 28) := rfl
theorem at_52_28 : am_code 52 28 = some (ai_if (fun x => x = 0) 35 31) := rfl
theorem at_52_31 : am_code 52 31 = some (ai_push 1 32) := rfl
theorem at_52_32 : am_code 52 32 = some (ai_goto 36) := rfl
theorem at_52_35 : am_code 52 35 = some (ai_push 0 36) := rfl
theorem at_52_36 : am_code 52 36 = some (ai_zret) := rfl
theorem at_53_0 : am_code 53 0 = some (ai_aload 0 1) := rfl
theorem at_53_1 : am_code 53 1 = some (ai_dup 2) := rfl
theorem at_53_2 : am_code 53 2 = some (ai_getI 1 4 5) := rfl
theorem at_53_5 : am_code 53 5 = some (ai_push 1 6) := rfl
theorem at_53_6 : am_code 53 6 = some (ai_bin (fun x y => x + y) 7) := rfl
theorem at_53_7 : am_code 53 7 = some (ai_putI 1 4 10) := rfl
theorem at_53_10 : am_code 53 10 = some (ai_aload 0 11) := rfl
theorem at_53_11 : am_code 53 11 = some (ai_callV 55 1 0 14) := rfl
theorem at_53_14 : am_code 53 14 = some (ai_aload 0 15) := rfl
theorem at_53_15 : am_code 53 15 = some (ai_getI 1 4 18) := rfl
theorem at_53_18 : am_code 53 18 = some (ai_push 2 19) := rfl
theorem at_53_19 : am_code 53 19 = some (ai_div (fun x y => x - x / y * y) 20) := rfl
theorem at_53_20 : am_code 53 20 = some (ai_if (fun x => ¬ x = 0) 27 23) := rfl
theorem at_53_23 : am_code 53 23 = some (ai_aload 0 24) := rfl
theorem at_53_24 : am_code 53 24 = some (ai_callV 56 1 0 27) := rfl
theorem at_53_27 : am_code 53 27 = some (ai_aload 0 28) := rfl
theorem at_53_28 : am_code 53 28 = some (ai_callV 58 1 0 31) := rfl
theorem at_53_31 : am_code 53 31 = some (ai_aload 0 32) := rfl
theorem at_53_32 : am_code 53 32 = some (ai_callV 60 1 0 35) := rfl
theorem at_53_35 : am_code 53 35 = some (ai_aload 0 36) := rfl
theorem at_53_36 : am_code 53 36 = some (ai_callV 61 1 0 39) := rfl
theorem at_53_39 : am_code 53 39 = some (ai_aload 0 40) := rfl
theorem at_53_40 : am_code 53 40 = some (ai_callV 62 1 0 43) := rfl
theorem at_53_43 : am_code 53 43 = some (ai_ret) := rfl
theorem at_54_0 : am_code 54 0 = some (ai_aload 0 1) := rfl
theorem at_54_1 : am_code 54 1 = some (ai_getP 1 0 4) := rfl
theorem at_54_4 : am_code 54 4 = some (ai_iload 1 5) := rfl
theorem at_54_5 : am_code 54 5 = some (ai_aald 2 5 6) := rfl
theorem at_54_6 : am_code 54 6 = some (ai_getP 3 7 9) := rfl
theorem at_54_9 : am_code 54 9 = some (ai_iload 2 10) := rfl
theorem at_54_10 : am_code 54 10 = some (ai_aald 6 5 11) := rfl
theorem at_54_11 : am_code 54 11 = some (ai_astore 3 12) := rfl
theorem at_54_12 : am_code 54 12 = some (ai_aload 3 13) := rfl
theorem at_54_13 : am_code 54 13 = some (ai_getI 7 1 16) := rfl
theorem at_54_16 : am_code 54 16 = some (ai_if (fun x => x ≤ 0) 41 19) := rfl
theorem at_54_19 : am_code 54 19 = some (ai_aload 3 20) := rfl
theorem at_54_20 : am_code 54 20 = some (ai_dup 21) := rfl
theorem at_54_21 : am_code 54 21 = some (ai_getI 7 1 24) := rfl
theorem at_54_24 : am_code 54 24 = some (ai_push 1 25) := rfl
theorem at_54_25 : am_code 54 25 = some (ai_bin (fun x y => x - y) 26) := rfl
theorem at_54_26 : am_code 54 26 = some (ai_putI 7 1 29) := rfl
theorem at_54_29 : am_code 54 29 = some (ai_aload 0 30) := rfl
theorem at_54_30 : am_code 54 30 = some (ai_getP 1 3 33) := rfl
theorem at_54_33 : am_code 54 33 = some (ai_push 4 34) := rfl
theorem at_54_34 : am_code 54 34 = some (ai_dup2 35) := rfl
theorem at_54_35 : am_code 54 35 = some (ai_ald 18 7 36) := rfl
theorem at_54_36 : am_code 54 36 = some (ai_push 1 37) := rfl
theorem at_54_37 : am_code 54 37 = some (ai_bin (fun x y => x + y) 38) := rfl
theorem at_54_38 : am_code 54 38 = some (ai_ast 18 7 39) := rfl
theorem at_54_39 : am_code 54 39 = some (ai_push 0 40) := rfl
theorem at_54_40 : am_code 54 40 = some (ai_zret) := rfl
theorem at_54_41 : am_code 54 41 = some (ai_aload 0 42) := rfl
theorem at_54_42 : am_code 54 42 = some (ai_getP 1 0 45) := rfl
theorem at_54_45 : am_code 54 45 = some (ai_iload 2 46) := rfl
theorem at_54_46 : am_code 54 46 = some (ai_aald 2 5 47) := rfl
theorem at_54_47 : am_code 54 47 = some (ai_getI 3 1 50) := rfl
theorem at_54_50 : am_code 54 50 = some (ai_if (fun x => ¬ x = 0) 65 53) := rfl
theorem at_54_53 : am_code 54 53 = some (ai_aload 0 54) := rfl
theorem at_54_54 : am_code 54 54 = some (ai_getP 1 3 57) := rfl
theorem at_54_57 : am_code 54 57 = some (ai_push 4 58) := rfl
theorem at_54_58 : am_code 54 58 = some (ai_dup2 59) := rfl
theorem at_54_59 : am_code 54 59 = some (ai_ald 18 7 60) := rfl
theorem at_54_60 : am_code 54 60 = some (ai_push 1 61) := rfl
theorem at_54_61 : am_code 54 61 = some (ai_bin (fun x y => x + y) 62) := rfl
theorem at_54_62 : am_code 54 62 = some (ai_ast 18 7 63) := rfl
theorem at_54_63 : am_code 54 63 = some (ai_push 0 64) := rfl
theorem at_54_64 : am_code 54 64 = some (ai_zret) := rfl
theorem at_54_65 : am_code 54 65 = some (ai_push 1 66) := rfl
theorem at_54_66 : am_code 54 66 = some (ai_zret) := rfl
theorem at_55_0 : am_code 55 0 = some (ai_push 0 1) := rfl
theorem at_55_1 : am_code 55 1 = some (ai_istore 1 2) := rfl
theorem at_55_2 : am_code 55 2 = some (ai_iload 1 3) := rfl
theorem at_55_3 : am_code 55 3 = some (ai_push 5 4) := rfl
theorem at_55_4 : am_code 55 4 = some (ai_icmp (fun x y => y ≤ x) 66 7) := rfl
theorem at_55_7 : am_code 55 7 = some (ai_push 0 8) := rfl
theorem at_55_8 : am_code 55 8 = some (ai_istore 2 9) := rfl
theorem at_55_9 : am_code 55 9 = some (ai_iload 2 10) := rfl
theorem at_55_10 : am_code 55 10 = some (ai_push 5 11) := rfl
theorem at_55_11 : am_code 55 11 = some (ai_icmp (fun x y => y ≤ x) 60 14) := rfl
theorem at_55_14 : am_code 55 14 = some (ai_aload 0 15) := rfl
theorem at_55_15 : am_code 55 15 = some (ai_getP 1 0 18) := rfl
theorem at_55_18 : am_code 55 18 = some (ai_iload 1 19) := rfl
theorem at_55_19 : am_code 55 19 = some (ai_aald 2 5 20) := rfl
theorem at_55_20 : am_code 55 20 = some (ai_getP 3 6 23) := rfl
theorem at_55_23 : am_code 55 23 = some (ai_iload 2 24) := rfl
theorem at_55_24 : am_code 55 24 = some (ai_aald 5 5 25) := rfl
theorem at_55_25 : am_code 55 25 = some (ai_astore 3 26) := rfl
theorem at_55_26 : am_code 55 26 = some (ai_aload 3 27) := rfl
theorem at_55_27 : am_code 55 27 = some (ai_ifnull 54 30) := rfl
theorem at_55_30 : am_code 55 30 = some (ai_aload 3 31) := rfl
theorem at_55_31 : am_code 55 31 = some (ai_getI 19 2 34) := rfl
theorem at_55_34 : am_code 55 34 = some (ai_aload 0 35) := rfl
theorem at_55_35 : am_code 55 35 = some (ai_getI 1 4 38) := rfl
theorem at_55_38 : am_code 55 38 = some (ai_push 40 40) := rfl
theorem at_55_40 : am_code 55 40 = some (ai_bin (fun x y => x - y) 41) := rfl
theorem at_55_41 : am_code 55 41 = some (ai_icmp (fun x y => y < x) 54 44) := rfl
theorem at_55_44 : am_code 55 44 = some (ai_aload 0 45) := rfl
theorem at_55_45 : am_code 55 45 = some (ai_getP 1 0 48) := rfl
theorem at_55_48 : am_code 55 48 = some (ai_iload 1 49) := rfl
theorem at_55_49 : am_code 55 49 = some (ai_aald 2 5 50) := rfl
theorem at_55_50 : am_code 55 50 = some (ai_iload 2 51) := rfl
theorem at_55_51 : am_code 55 51 = some (ai_callV 16 3 1 54) := rfl
theorem at_55_54 : am_code 55 54 = some (ai_iinc 2 1 57) := rfl
theorem at_55_57 : am_code 55 57 = some (ai_goto 9) := rfl
theorem at_55_60 : am_code 55 60 = some (ai_iinc 1 1 63) := rfl
theorem at_55_63 : am_code 55 63 = some (ai_goto 2) := rfl
theorem at_55_66 : am_code 55 66 = some (ai_ret) := rfl
theorem at_56_0 : am_code 56 0 = some (ai_push 0 1) := rfl
theorem at_56_1 : am_code 56 1 = some (ai_istore 1 2) := rfl
theorem at_56_2 : am_code 56 2 = some (ai_iload 1 3) := rfl
theorem at_56_3 : am_code 56 3 = some (ai_push 5 4) := rfl
theorem at_56_4 : am_code 56 4 = some (ai_icmp (fun x y => y ≤ x) 22 7) := rfl
theorem at_56_7 : am_code 56 7 = some (ai_aload 0 8) := rfl
theorem at_56_8 : am_code 56 8 = some (ai_getP 1 0 11) := rfl
theorem at_56_11 : am_code 56 11 = some (ai_iload 1 12) := rfl
theorem at_56_12 : am_code 56 12 = some (ai_aald 2 5 13) := rfl
theorem at_56_13 : am_code 56 13 = some (ai_callV 17 3 0 16) := rfl
theorem at_56_16 : am_code 56 16 = some (ai_iinc 1 1 19) := rfl
theorem at_56_19 : am_code 56 19 = some (ai_goto 2) := rfl
theorem at_56_22 : am_code 56 22 = some (ai_push 0 23) := rfl
theorem at_56_23 : am_code 56 23 = some (ai_istore 1 24) := rfl
theorem at_56_24 : am_code 56 24 = some (ai_iload 1 25) := rfl
theorem at_56_25 : am_code 56 25 = some (ai_push 5 26) := rfl
theorem at_56_26 : am_code 56 26 = some (ai_icmp (fun x y => y ≤ x) 75 29) := rfl
theorem at_56_29 : am_code 56 29 = some (ai_push 0 30) := rfl
theorem at_56_30 : am_code 56 30 = some (ai_istore 2 31) := rfl
theorem at_56_31 : am_code 56 31 = some (ai_iload 2 32) := rfl
theorem at_56_32 : am_code 56 32 = some (ai_push 5 33) := rfl
theorem at_56_33 : am_code 56 33 = some (ai_icmp (fun x y => y ≤ x) 69 36) := rfl
theorem at_56_36 : am_code 56 36 = some (ai_aload 0 37) := rfl
theorem at_56_37 : am_code 56 37 = some (ai_getP 1 0 40) := rfl
theorem at_56_40 : am_code 56 40 = some (ai_iload 1 41) := rfl
theorem at_56_41 : am_code 56 41 = some (ai_aald 2 5 42) := rfl
theorem at_56_42 : am_code 56 42 = some (ai_getI 3 1 45) := rfl
theorem at_56_45 : am_code 56 45 = some (ai_if (fun x => x = 0) 63 48) := rfl
theorem at_56_48 : am_code 56 48 = some (ai_aload 0 49) := rfl
theorem at_56_49 : am_code 56 49 = some (ai_iload 1 50) := rfl
theorem at_56_50 : am_code 56 50 = some (ai_iload 2 51) := rfl
theorem at_56_51 : am_code 56 51 = some (ai_callV 52 1 2 54) := rfl
theorem at_56_54 : am_code 56 54 = some (ai_if (fun x => x = 0) 63 57) := rfl
theorem at_56_57 : am_code 56 57 = some (ai_aload 0 58) := rfl
theorem at_56_58 : am_code 56 58 = some (ai_iload 1 59) := rfl
theorem at_56_59 : am_code 56 59 = some (ai_iload 2 60) := rfl
theorem at_56_60 : am_code 56 60 = some (ai_callV 57 1 2 63) := rfl
theorem at_56_63 : am_code 56 63 = some (ai_iinc 2 1 66) := rfl
theorem at_56_66 : am_code 56 66 = some (ai_goto 31) := rfl
theorem at_56_69 : am_code 56 69 = some (ai_iinc 1 1 72) := rfl
theorem at_56_72 : am_code 56 72 = some (ai_goto 24) := rfl
theorem at_56_75 : am_code 56 75 = some (ai_ret) := rfl
theorem at_57_0 : am_code 57 0 = some (ai_aload 0 1) := rfl
theorem at_57_1 : am_code 57 1 = some (ai_getP 1 3 4) := rfl
theorem at_57_4 : am_code 57 4 = some (ai_push 0 5) := rfl
theorem at_57_5 : am_code 57 5 = some (ai_dup2 6) := rfl
theorem at_57_6 : am_code 57 6 = some (ai_ald 18 7 7) := rfl
theorem at_57_7 : am_code 57 7 = some (ai_push 1 8) := rfl
theorem at_57_8 : am_code 57 8 = some (ai_bin (fun x y => x + y) 9) := rfl
theorem at_57_9 : am_code 57 9 = some (ai_ast 18 7 10) := rfl
theorem at_57_10 : am_code 57 10 = some (ai_aload 0 11) := rfl
theorem at_57_11 : am_code 57 11 = some (ai_iload 1 12) := rfl
theorem at_57_12 : am_code 57 12 = some (ai_iload 2 13) := rfl
theorem at_57_13 : am_code 57 13 = some (ai_callV 54 1 2 16) := rfl
theorem at_57_16 : am_code 57 16 = some (ai_if (fun x => x = 0) 62 19) := rfl
theorem at_57_19 : am_code 57 19 = some (ai_aload 0 20) := rfl
theorem at_57_20 : am_code 57 20 = some (ai_getP 1 0 23) := rfl
theorem at_57_23 : am_code 57 23 = some (ai_iload 2 24) := rfl
theorem at_57_24 : am_code 57 24 = some (ai_aald 2 5 25) := rfl
theorem at_57_25 : am_code 57 25 = some (ai_getP 3 7 28) := rfl
theorem at_57_28 : am_code 57 28 = some (ai_iload 1 29) := rfl
theorem at_57_29 : am_code 57 29 = some (ai_aald 6 5 30) := rfl
theorem at_57_30 : am_code 57 30 = some (ai_astore 3 31) := rfl
theorem at_57_31 : am_code 57 31 = some (ai_aload 3 32) := rfl
theorem at_57_32 : am_code 57 32 = some (ai_push 1 33) := rfl
theorem at_57_33 : am_code 57 33 = some (ai_putZ 7 2 36) := rfl
theorem at_57_36 : am_code 57 36 = some (ai_aload 3 37) := rfl
theorem at_57_37 : am_code 57 37 = some (ai_aload 0 38) := rfl
theorem at_57_38 : am_code 57 38 = some (ai_getI 1 4 41) := rfl
theorem at_57_41 : am_code 57 41 = some (ai_putI 7 4 44) := rfl
theorem at_57_44 : am_code 57 44 = some (ai_aload 3 45) := rfl
theorem at_57_45 : am_code 57 45 = some (ai_aload 0 46) := rfl
theorem at_57_46 : am_code 57 46 = some (ai_getP 1 0 49) := rfl
theorem at_57_49 : am_code 57 49 = some (ai_iload 1 50) := rfl
theorem at_57_50 : am_code 57 50 = some (ai_aald 2 5 51) := rfl
theorem at_57_51 : am_code 57 51 = some (ai_getP 3 7 54) := rfl
theorem at_57_54 : am_code 57 54 = some (ai_iload 2 55) := rfl
theorem at_57_55 : am_code 57 55 = some (ai_aald 6 5 56) := rfl
theorem at_57_56 : am_code 57 56 = some (ai_getI 7 3 59) := rfl
theorem at_57_59 : am_code 57 59 = some (ai_putZ 7 5 62) := rfl
theorem at_57_62 : am_code 57 62 = some (ai_ret) := rfl
theorem at_58_0 : am_code 58 0 = some (ai_push 0 1) := rfl
theorem at_58_1 : am_code 58 1 = some (ai_istore 1 2) := rfl
theorem at_58_2 : am_code 58 2 = some (ai_iload 1 3) := rfl
theorem at_58_3 : am_code 58 3 = some (ai_push 5 4) := rfl
theorem at_58_4 : am_code 58 4 = some (ai_icmp (fun x y => y ≤ x) 44 7) := rfl
theorem at_58_7 : am_code 58 7 = some (ai_push 0 8) := rfl
theorem at_58_8 : am_code 58 8 = some (ai_istore 2 9) := rfl
theorem at_58_9 : am_code 58 9 = some (ai_iload 2 10) := rfl
theorem at_58_10 : am_code 58 10 = some (ai_push 5 11) := rfl
theorem at_58_11 : am_code 58 11 = some (ai_icmp (fun x y => y ≤ x) 38 14) := rfl
theorem at_58_14 : am_code 58 14 = some (ai_aload 0 15) := rfl
theorem at_58_15 : am_code 58 15 = some (ai_getP 1 0 18) := rfl
theorem at_58_18 : am_code 58 18 = some (ai_iload 1 19) := rfl
theorem at_58_19 : am_code 58 19 = some (ai_aald 2 5 20) := rfl
theorem at_58_20 : am_code 58 20 = some (ai_getP 3 7 23) := rfl
theorem at_58_23 : am_code 58 23 = some (ai_iload 2 24) := rfl
theorem at_58_24 : am_code 58 24 = some (ai_aald 6 5 25) := rfl
theorem at_58_25 : am_code 58 25 = some (ai_aload 0 26) := rfl
theorem at_58_26 : am_code 58 26 = some (ai_getI 1 4 29) := rfl
theorem at_58_29 : am_code 58 29 = some (ai_callV 12 7 1 32) := rfl
theorem at_58_32 : am_code 58 32 = some (ai_iinc 2 1 35) := rfl
theorem at_58_35 : am_code 58 35 = some (ai_goto 9) := rfl
theorem at_58_38 : am_code 58 38 = some (ai_iinc 1 1 41) := rfl
theorem at_58_41 : am_code 58 41 = some (ai_goto 2) := rfl
theorem at_58_44 : am_code 58 44 = some (ai_push 0 45) := rfl
theorem at_58_45 : am_code 58 45 = some (ai_istore 1 46) := rfl
theorem at_58_46 : am_code 58 46 = some (ai_iload 1 47) := rfl
theorem at_58_47 : am_code 58 47 = some (ai_push 5 48) := rfl
theorem at_58_48 : am_code 58 48 = some (ai_icmp (fun x y => y ≤ x) 116 51) := rfl
theorem at_58_51 : am_code 58 51 = some (ai_push 0 52) := rfl
theorem at_58_52 : am_code 58 52 = some (ai_istore 2 53) := rfl
theorem at_58_53 : am_code 58 53 = some (ai_iload 2 54) := rfl
theorem at_58_54 : am_code 58 54 = some (ai_push 5 55) := rfl
theorem at_58_55 : am_code 58 55 = some (ai_icmp (fun x y => y ≤ x) 110 58) := rfl
theorem at_58_58 : am_code 58 58 = some (ai_aload 0 59) := rfl
theorem at_58_59 : am_code 58 59 = some (ai_getP 1 0 62) := rfl
theorem at_58_62 : am_code 58 62 = some (ai_iload 1 63) := rfl
theorem at_58_63 : am_code 58 63 = some (ai_aald 2 5 64) := rfl
theorem at_58_64 : am_code 58 64 = some (ai_getP 3 7 67) := rfl
theorem at_58_67 : am_code 58 67 = some (ai_iload 2 68) := rfl
theorem at_58_68 : am_code 58 68 = some (ai_aald 6 5 69) := rfl
theorem at_58_69 : am_code 58 69 = some (ai_getI 7 7 72) := rfl
theorem at_58_72 : am_code 58 72 = some (ai_if (fun x => x = 0) 104 75) := rfl
theorem at_58_75 : am_code 58 75 = some (ai_aload 0 76) := rfl
theorem at_58_76 : am_code 58 76 = some (ai_iload 1 77) := rfl
theorem at_58_77 : am_code 58 77 = some (ai_iload 2 78) := rfl
theorem at_58_78 : am_code 58 78 = some (ai_callV 59 1 2 81) := rfl
theorem at_58_81 : am_code 58 81 = some (ai_aload 0 82) := rfl
theorem at_58_82 : am_code 58 82 = some (ai_getP 1 0 85) := rfl
theorem at_58_85 : am_code 58 85 = some (ai_iload 2 86) := rfl
theorem at_58_86 : am_code 58 86 = some (ai_aald 2 5 87) := rfl
theorem at_58_87 : am_code 58 87 = some (ai_getP 3 7 90) := rfl
theorem at_58_90 : am_code 58 90 = some (ai_iload 1 91) := rfl
theorem at_58_91 : am_code 58 91 = some (ai_aald 6 5 92) := rfl
theorem at_58_92 : am_code 58 92 = some (ai_getI 7 6 95) := rfl
theorem at_58_95 : am_code 58 95 = some (ai_if (fun x => x = 0) 104 98) := rfl
theorem at_58_98 : am_code 58 98 = some (ai_aload 0 99) := rfl
theorem at_58_99 : am_code 58 99 = some (ai_iload 2 100) := rfl
theorem at_58_100 : am_code 58 100 = some (ai_iload 1 101) := rfl
theorem at_58_101 : am_code 58 101 = some (ai_callV 59 1 2 104) := rfl
theorem at_58_104 : am_code 58 104 = some (ai_iinc 2 1 107) := rfl
theorem at_58_107 : am_code 58 107 = some (ai_goto 53) := rfl
theorem at_58_110 : am_code 58 110 = some (ai_iinc 1 1 113) := rfl
theorem at_58_113 : am_code 58 113 = some (ai_goto 46) := rfl
theorem at_58_116 : am_code 58 116 = some (ai_ret) := rfl
theorem at_59_0 : am_code 59 0 = some (ai_push 0 1) := rfl
theorem at_59_1 : am_code 59 1 = some (ai_istore 3 2) := rfl
theorem at_59_2 : am_code 59 2 = some (ai_iload 3 3) := rfl
theorem at_59_3 : am_code 59 3 = some (ai_push 5 4) := rfl
theorem at_59_4 : am_code 59 4 = some (ai_icmp (fun x y => y ≤ x) 74 7) := rfl
theorem at_59_7 : am_code 59 7 = some (ai_aload 0 8) := rfl
theorem at_59_8 : am_code 59 8 = some (ai_getP 1 0 11) := rfl
theorem at_59_11 : am_code 59 11 = some (ai_iload 1 12) := rfl
theorem at_59_12 : am_code 59 12 = some (ai_aald 2 5 13) := rfl
theorem at_59_13 : am_code 59 13 = some (ai_getP 3 6 16) := rfl
theorem at_59_16 : am_code 59 16 = some (ai_iload 3 17) := rfl
theorem at_59_17 : am_code 59 17 = some (ai_aald 5 5 18) := rfl
theorem at_59_18 : am_code 59 18 = some (ai_astore 4 20) := rfl
theorem at_59_20 : am_code 59 20 = some (ai_aload 0 21) := rfl
theorem at_59_21 : am_code 59 21 = some (ai_getP 1 0 24) := rfl
theorem at_59_24 : am_code 59 24 = some (ai_iload 2 25) := rfl
theorem at_59_25 : am_code 59 25 = some (ai_aald 2 5 26) := rfl
theorem at_59_26 : am_code 59 26 = some (ai_getP 3 6 29) := rfl
theorem at_59_29 : am_code 59 29 = some (ai_iload 3 30) := rfl
theorem at_59_30 : am_code 59 30 = some (ai_aald 5 5 31) := rfl
theorem at_59_31 : am_code 59 31 = some (ai_astore 5 33) := rfl
theorem at_59_33 : am_code 59 33 = some (ai_aload 4 35) := rfl
theorem at_59_35 : am_code 59 35 = some (ai_ifnull 68 38) := rfl
theorem at_59_38 : am_code 59 38 = some (ai_aload 5 40) := rfl
theorem at_59_40 : am_code 59 40 = some (ai_ifnull 53 43) := rfl
theorem at_59_43 : am_code 59 43 = some (ai_aload 4 45) := rfl
theorem at_59_45 : am_code 59 45 = some (ai_aload 5 47) := rfl
theorem at_59_47 : am_code 59 47 = some (ai_callV 5 19 1 50) := rfl
theorem at_59_50 : am_code 59 50 = some (ai_if (fun x => x = 0) 68 53) := rfl
theorem at_59_53 : am_code 59 53 = some (ai_aload 0 54) := rfl
theorem at_59_54 : am_code 59 54 = some (ai_getP 1 0 57) := rfl
theorem at_59_57 : am_code 59 57 = some (ai_iload 1 58) := rfl
theorem at_59_58 : am_code 59 58 = some (ai_aald 2 5 59) := rfl
theorem at_59_59 : am_code 59 59 = some (ai_getP 3 7 62) := rfl
theorem at_59_62 : am_code 59 62 = some (ai_iload 2 63) := rfl
theorem at_59_63 : am_code 59 63 = some (ai_aald 6 5 64) := rfl
theorem at_59_64 : am_code 59 64 = some (ai_iload 3 65) := rfl
theorem at_59_65 : am_code 59 65 = some (ai_callV 11 7 1 68) := rfl
theorem at_59_68 : am_code 59 68 = some (ai_iinc 3 1 71) := rfl
theorem at_59_71 : am_code 59 71 = some (ai_goto 2) := rfl
theorem at_59_74 : am_code 59 74 = some (ai_ret) := rfl
theorem at_60_0 : am_code 60 0 = some (ai_push 0 1) := rfl
theorem at_60_1 : am_code 60 1 = some (ai_istore 1 2) := rfl
theorem at_60_2 : am_code 60 2 = some (ai_iload 1 3) := rfl
theorem at_60_3 : am_code 60 3 = some (ai_push 5 4) := rfl
theorem at_60_4 : am_code 60 4 = some (ai_icmp (fun x y => y ≤ x) 64 7) := rfl
theorem at_60_7 : am_code 60 7 = some (ai_aload 0 8) := rfl
theorem at_60_8 : am_code 60 8 = some (ai_getP 1 0 11) := rfl
theorem at_60_11 : am_code 60 11 = some (ai_iload 1 12) := rfl
theorem at_60_12 : am_code 60 12 = some (ai_aald 2 5 13) := rfl
theorem at_60_13 : am_code 60 13 = some (ai_getI 3 1 16) := rfl
theorem at_60_16 : am_code 60 16 = some (ai_if (fun x => x = 0) 58 19) := rfl
theorem at_60_19 : am_code 60 19 = some (ai_aload 0 20) := rfl
theorem at_60_20 : am_code 60 20 = some (ai_getP 1 0 23) := rfl
theorem at_60_23 : am_code 60 23 = some (ai_iload 1 24) := rfl
theorem at_60_24 : am_code 60 24 = some (ai_aald 2 5 25) := rfl
theorem at_60_25 : am_code 60 25 = some (ai_aload 0 26) := rfl
theorem at_60_26 : am_code 60 26 = some (ai_getI 1 4 29) := rfl
theorem at_60_29 : am_code 60 29 = some (ai_callV 18 3 1 32) := rfl
theorem at_60_32 : am_code 60 32 = some (ai_if (fun x => x = 0) 58 35) := rfl
theorem at_60_35 : am_code 60 35 = some (ai_aload 0 36) := rfl
theorem at_60_36 : am_code 60 36 = some (ai_getP 1 0 39) := rfl
theorem at_60_39 : am_code 60 39 = some (ai_iload 1 40) := rfl
theorem at_60_40 : am_code 60 40 = some (ai_aald 2 5 41) := rfl
theorem at_60_41 : am_code 60 41 = some (ai_aload 0 42) := rfl
theorem at_60_42 : am_code 60 42 = some (ai_getI 1 4 45) := rfl
theorem at_60_45 : am_code 60 45 = some (ai_callV 20 3 1 48) := rfl
theorem at_60_48 : am_code 60 48 = some (ai_aload 0 49) := rfl
theorem at_60_49 : am_code 60 49 = some (ai_getP 1 3 52) := rfl
theorem at_60_52 : am_code 60 52 = some (ai_push 5 53) := rfl
theorem at_60_53 : am_code 60 53 = some (ai_dup2 54) := rfl
theorem at_60_54 : am_code 60 54 = some (ai_ald 18 7 55) := rfl
theorem at_60_55 : am_code 60 55 = some (ai_push 1 56) := rfl
theorem at_60_56 : am_code 60 56 = some (ai_bin (fun x y => x + y) 57) := rfl
theorem at_60_57 : am_code 60 57 = some (ai_ast 18 7 58) := rfl
theorem at_60_58 : am_code 60 58 = some (ai_iinc 1 1 61) := rfl
theorem at_60_61 : am_code 60 61 = some (ai_goto 2) := rfl
theorem at_60_64 : am_code 60 64 = some (ai_ret) := rfl
theorem at_61_0 : am_code 61 0 = some (ai_push 0 1) := rfl
theorem at_61_1 : am_code 61 1 = some (ai_istore 1 2) := rfl
theorem at_61_2 : am_code 61 2 = some (ai_iload 1 3) := rfl
theorem at_61_3 : am_code 61 3 = some (ai_push 5 4) := rfl
theorem at_61_4 : am_code 61 4 = some (ai_icmp (fun x y => y ≤ x) 111 7) := rfl
theorem at_61_7 : am_code 61 7 = some (ai_push 0 8) := rfl
theorem at_61_8 : am_code 61 8 = some (ai_istore 2 9) := rfl
theorem at_61_9 : am_code 61 9 = some (ai_iload 2 10) := rfl
theorem at_61_10 : am_code 61 10 = some (ai_push 5 11) := rfl
theorem at_61_11 : am_code 61 11 = some (ai_icmp (fun x y => y ≤ x) 105 14) := rfl
theorem at_61_14 : am_code 61 14 = some (ai_aload 0 15) := rfl
theorem at_61_15 : am_code 61 15 = some (ai_getP 1 1 18) := rfl
theorem at_61_18 : am_code 61 18 = some (ai_iload 1 19) := rfl
theorem at_61_19 : am_code 61 19 = some (ai_push 5 20) := rfl
theorem at_61_20 : am_code 61 20 = some (ai_bin (fun x y => x * y) 21) := rfl
theorem at_61_21 : am_code 61 21 = some (ai_iload 2 22) := rfl
theorem at_61_22 : am_code 61 22 = some (ai_bin (fun x y => x + y) 23) := rfl
theorem at_61_23 : am_code 61 23 = some (ai_aald 9 25 24) := rfl
theorem at_61_24 : am_code 61 24 = some (ai_astore 3 25) := rfl
theorem at_61_25 : am_code 61 25 = some (ai_aload 3 26) := rfl
theorem at_61_26 : am_code 61 26 = some (ai_aload 0 27) := rfl
theorem at_61_27 : am_code 61 27 = some (ai_getP 1 0 30) := rfl
theorem at_61_30 : am_code 61 30 = some (ai_iload 1 31) := rfl
theorem at_61_31 : am_code 61 31 = some (ai_aald 2 5 32) := rfl
theorem at_61_32 : am_code 61 32 = some (ai_getP 3 6 35) := rfl
theorem at_61_35 : am_code 61 35 = some (ai_aload 0 36) := rfl
theorem at_61_36 : am_code 61 36 = some (ai_getP 1 0 39) := rfl
theorem at_61_39 : am_code 61 39 = some (ai_iload 1 40) := rfl
theorem at_61_40 : am_code 61 40 = some (ai_aald 2 5 41) := rfl
theorem at_61_41 : am_code 61 41 = some (ai_getP 3 7 44) := rfl
theorem at_61_44 : am_code 61 44 = some (ai_iload 2 45) := rfl
theorem at_61_45 : am_code 61 45 = some (ai_aald 6 5 46) := rfl
theorem at_61_46 : am_code 61 46 = some (ai_getP 7 8 49) := rfl
theorem at_61_49 : am_code 61 49 = some (ai_aload 0 50) := rfl
theorem at_61_50 : am_code 61 50 = some (ai_getI 1 4 53) := rfl
theorem at_61_53 : am_code 61 53 = some (ai_callV 24 10 3 56) := rfl
theorem at_61_56 : am_code 61 56 = some (ai_istore 4 58) := rfl
theorem at_61_58 : am_code 61 58 = some (ai_aload 3 59) := rfl
theorem at_61_59 : am_code 61 59 = some (ai_push 0 60) := rfl
theorem at_61_60 : am_code 61 60 = some (ai_putZ 10 0 63) := rfl
theorem at_61_63 : am_code 61 63 = some (ai_iload 4 65) := rfl
theorem at_61_65 : am_code 61 65 = some (ai_if (fun x => x ≤ 0) 99 68) := rfl
theorem at_61_68 : am_code 61 68 = some (ai_aload 0 69) := rfl
theorem at_61_69 : am_code 61 69 = some (ai_getP 1 3 72) := rfl
theorem at_61_72 : am_code 61 72 = some (ai_push 1 73) := rfl
theorem at_61_73 : am_code 61 73 = some (ai_dup2 74) := rfl
theorem at_61_74 : am_code 61 74 = some (ai_ald 18 7 75) := rfl
theorem at_61_75 : am_code 61 75 = some (ai_push 1 76) := rfl
theorem at_61_76 : am_code 61 76 = some (ai_bin (fun x y => x + y) 77) := rfl
theorem at_61_77 : am_code 61 77 = some (ai_ast 18 7 78) := rfl
theorem at_61_78 : am_code 61 78 = some (ai_aload 0 79) := rfl
theorem at_61_79 : am_code 61 79 = some (ai_getP 1 3 82) := rfl
theorem at_61_82 : am_code 61 82 = some (ai_push 2 83) := rfl
theorem at_61_83 : am_code 61 83 = some (ai_dup2 84) := rfl
theorem at_61_84 : am_code 61 84 = some (ai_ald 18 7 85) := rfl
theorem at_61_85 : am_code 61 85 = some (ai_iload 4 87) := rfl
theorem at_61_87 : am_code 61 87 = some (ai_bin (fun x y => x + y) 88) := rfl
theorem at_61_88 : am_code 61 88 = some (ai_ast 18 7 89) := rfl
theorem at_61_89 : am_code 61 89 = some (ai_aload 3 90) := rfl
theorem at_61_90 : am_code 61 90 = some (ai_aload 0 91) := rfl
theorem at_61_91 : am_code 61 91 = some (ai_iload 1 92) := rfl
theorem at_61_92 : am_code 61 92 = some (ai_iload 2 93) := rfl
theorem at_61_93 : am_code 61 93 = some (ai_callV 54 1 2 96) := rfl
theorem at_61_96 : am_code 61 96 = some (ai_putZ 10 0 99) := rfl
theorem at_61_99 : am_code 61 99 = some (ai_iinc 2 1 102) := rfl
theorem at_61_102 : am_code 61 102 = some (ai_goto 9) := rfl
theorem at_61_105 : am_code 61 105 = some (ai_iinc 1 1 108) := rfl
theorem at_61_108 : am_code 61 108 = some (ai_goto 2) := rfl
theorem at_61_111 : am_code 61 111 = some (ai_ret) := rfl
theorem at_62_0 : am_code 62 0 = some (ai_push 0 1) := rfl
theorem at_62_1 : am_code 62 1 = some (ai_istore 1 2) := rfl
theorem at_62_2 : am_code 62 2 = some (ai_iload 1 3) := rfl
theorem at_62_3 : am_code 62 3 = some (ai_push 5 4) := rfl
theorem at_62_4 : am_code 62 4 = some (ai_icmp (fun x y => y ≤ x) 68 7) := rfl
theorem at_62_7 : am_code 62 7 = some (ai_push 0 8) := rfl
theorem at_62_8 : am_code 62 8 = some (ai_istore 2 9) := rfl
theorem at_62_9 : am_code 62 9 = some (ai_iload 2 10) := rfl
theorem at_62_10 : am_code 62 10 = some (ai_push 5 11) := rfl
theorem at_62_11 : am_code 62 11 = some (ai_icmp (fun x y => y ≤ x) 62 14) := rfl
theorem at_62_14 : am_code 62 14 = some (ai_aload 0 15) := rfl
theorem at_62_15 : am_code 62 15 = some (ai_getP 1 1 18) := rfl
theorem at_62_18 : am_code 62 18 = some (ai_iload 1 19) := rfl
theorem at_62_19 : am_code 62 19 = some (ai_push 5 20) := rfl
theorem at_62_20 : am_code 62 20 = some (ai_bin (fun x y => x * y) 21) := rfl
theorem at_62_21 : am_code 62 21 = some (ai_iload 2 22) := rfl
theorem at_62_22 : am_code 62 22 = some (ai_bin (fun x y => x + y) 23) := rfl
theorem at_62_23 : am_code 62 23 = some (ai_aald 9 25 24) := rfl
theorem at_62_24 : am_code 62 24 = some (ai_astore 3 25) := rfl
theorem at_62_25 : am_code 62 25 = some (ai_aload 3 26) := rfl
theorem at_62_26 : am_code 62 26 = some (ai_getI 10 0 29) := rfl
theorem at_62_29 : am_code 62 29 = some (ai_if (fun x => x = 0) 56 32) := rfl
theorem at_62_32 : am_code 62 32 = some (ai_aload 0 33) := rfl
theorem at_62_33 : am_code 62 33 = some (ai_getP 1 0 36) := rfl
theorem at_62_36 : am_code 62 36 = some (ai_iload 2 37) := rfl
theorem at_62_37 : am_code 62 37 = some (ai_aald 2 5 38) := rfl
theorem at_62_38 : am_code 62 38 = some (ai_getP 3 7 41) := rfl
theorem at_62_41 : am_code 62 41 = some (ai_iload 1 42) := rfl
theorem at_62_42 : am_code 62 42 = some (ai_aald 6 5 43) := rfl
theorem at_62_43 : am_code 62 43 = some (ai_getI 7 6 46) := rfl
theorem at_62_46 : am_code 62 46 = some (ai_if (fun x => x = 0) 56 49) := rfl
theorem at_62_49 : am_code 62 49 = some (ai_aload 0 50) := rfl
theorem at_62_50 : am_code 62 50 = some (ai_aload 3 51) := rfl
theorem at_62_51 : am_code 62 51 = some (ai_iload 1 52) := rfl
theorem at_62_52 : am_code 62 52 = some (ai_iload 2 53) := rfl
theorem at_62_53 : am_code 62 53 = some (ai_callV 63 1 3 56) := rfl
theorem at_62_56 : am_code 62 56 = some (ai_iinc 2 1 59) := rfl
theorem at_62_59 : am_code 62 59 = some (ai_goto 9) := rfl
theorem at_62_62 : am_code 62 62 = some (ai_iinc 1 1 65) := rfl
theorem at_62_65 : am_code 62 65 = some (ai_goto 2) := rfl
theorem at_62_68 : am_code 62 68 = some (ai_ret) := rfl
theorem at_63_0 : am_code 63 0 = some (ai_push 0 1) := rfl
theorem at_63_1 : am_code 63 1 = some (ai_istore 4 3) := rfl
theorem at_63_3 : am_code 63 3 = some (ai_push 0 4) := rfl
theorem at_63_4 : am_code 63 4 = some (ai_istore 5 6) := rfl
theorem at_63_6 : am_code 63 6 = some (ai_iload 5 8) := rfl
theorem at_63_8 : am_code 63 8 = some (ai_push 5 9) := rfl
theorem at_63_9 : am_code 63 9 = some (ai_icmp (fun x y => y ≤ x) 54 12) := rfl
theorem at_63_12 : am_code 63 12 = some (ai_aload 1 13) := rfl
theorem at_63_13 : am_code 63 13 = some (ai_getP 10 1 16) := rfl
theorem at_63_16 : am_code 63 16 = some (ai_iload 5 18) := rfl
theorem at_63_18 : am_code 63 18 = some (ai_aald 11 5 19) := rfl
theorem at_63_19 : am_code 63 19 = some (ai_astore 6 21) := rfl
theorem at_63_21 : am_code 63 21 = some (ai_aload 6 23) := rfl
theorem at_63_23 : am_code 63 23 = some (ai_ifnull 48 26) := rfl
theorem at_63_26 : am_code 63 26 = some (ai_aload 0 27) := rfl
theorem at_63_27 : am_code 63 27 = some (ai_aload 6 29) := rfl
theorem at_63_29 : am_code 63 29 = some (ai_iload 2 30) := rfl
theorem at_63_30 : am_code 63 30 = some (ai_iload 3 31) := rfl
theorem at_63_31 : am_code 63 31 = some (ai_callV 64 1 3 34) := rfl
theorem at_63_34 : am_code 63 34 = some (ai_if (fun x => x = 0) 48 37) := rfl
theorem at_63_37 : am_code 63 37 = some (ai_aload 1 38) := rfl
theorem at_63_38 : am_code 63 38 = some (ai_getP 10 2 41) := rfl
theorem at_63_41 : am_code 63 41 = some (ai_iload 5 43) := rfl
theorem at_63_43 : am_code 63 43 = some (ai_push 1 44) := rfl
theorem at_63_44 : am_code 63 44 = some (ai_zast 12 5 45) := rfl
theorem at_63_45 : am_code 63 45 = some (ai_push 1 46) := rfl
theorem at_63_46 : am_code 63 46 = some (ai_istore 4 48) := rfl
theorem at_63_48 : am_code 63 48 = some (ai_iinc 5 1 51) := rfl
theorem at_63_51 : am_code 63 51 = some (ai_goto 6) := rfl
theorem at_63_54 : am_code 63 54 = some (ai_iload 4 56) := rfl
theorem at_63_56 : am_code 63 56 = some (ai_if (fun x => x = 0) 66 59) := rfl
theorem at_63_59 : am_code 63 59 = some (ai_aload 0 60) := rfl
theorem at_63_60 : am_code 63 60 = some (ai_aload 1 61) := rfl
theorem at_63_61 : am_code 63 61 = some (ai_iload 2 62) := rfl
theorem at_63_62 : am_code 63 62 = some (ai_iload 3 63) := rfl
theorem at_63_63 : am_code 63 63 = some (ai_callV 65 1 3 66) := rfl
theorem at_63_66 : am_code 63 66 = some (ai_ret) := rfl
theorem at_64_0 : am_code 64 0 = some (ai_aload 0 1) := rfl
theorem at_64_1 : am_code 64 1 = some (ai_getP 1 0 4) := rfl
theorem at_64_4 : am_code 64 4 = some (ai_iload 3 5) := rfl
theorem at_64_5 : am_code 64 5 = some (ai_aald 2 5 6) := rfl
theorem at_64_6 : am_code 64 6 = some (ai_astore 4 8) := rfl
theorem at_64_8 : am_code 64 8 = some (ai_aload 1 9) := rfl
theorem at_64_9 : am_code 64 9 = some (ai_getI 19 0 12) := rfl
theorem at_64_12 : am_code 64 12 = some (ai_istore 5 14) := rfl
theorem at_64_14 : am_code 64 14 = some (ai_aload 4 16) := rfl
theorem at_64_16 : am_code 64 16 = some (ai_getP 3 6 19) := rfl
theorem at_64_19 : am_code 64 19 = some (ai_iload 5 21) := rfl
theorem at_64_21 : am_code 64 21 = some (ai_aald 5 5 22) := rfl
theorem at_64_22 : am_code 64 22 = some (ai_astore 6 24) := rfl
theorem at_64_24 : am_code 64 24 = some (ai_aload 6 26) := rfl
theorem at_64_26 : am_code 64 26 = some (ai_ifnull 38 29) := rfl
theorem at_64_29 : am_code 64 29 = some (ai_aload 1 30) := rfl
theorem at_64_30 : am_code 64 30 = some (ai_aload 6 32) := rfl
theorem at_64_32 : am_code 64 32 = some (ai_callV 5 19 1 35) := rfl
theorem at_64_35 : am_code 64 35 = some (ai_if (fun x => x = 0) 76 38) := rfl
theorem at_64_38 : am_code 64 38 = some (ai_iload 5 40) := rfl
theorem at_64_40 : am_code 64 40 = some (ai_iload 3 41) := rfl
theorem at_64_41 : am_code 64 41 = some (ai_icmp (fun x y => ¬ x = y) 56 44) := rfl
theorem at_64_44 : am_code 64 44 = some (ai_aload 4 46) := rfl
theorem at_64_46 : am_code 64 46 = some (ai_aload 1 47) := rfl
theorem at_64_47 : am_code 64 47 = some (ai_getI 19 1 50) := rfl
theorem at_64_50 : am_code 64 50 = some (ai_callV 22 3 1 53) := rfl
theorem at_64_53 : am_code 64 53 = some (ai_goto 74) := rfl
theorem at_64_56 : am_code 64 56 = some (ai_aload 4 58) := rfl
theorem at_64_58 : am_code 64 58 = some (ai_aload 1 59) := rfl
theorem at_64_59 : am_code 64 59 = some (ai_iload 2 60) := rfl
theorem at_64_60 : am_code 64 60 = some (ai_callV 21 3 2 63) := rfl
theorem at_64_63 : am_code 64 63 = some (ai_aload 0 64) := rfl
theorem at_64_64 : am_code 64 64 = some (ai_getP 1 3 67) := rfl
theorem at_64_67 : am_code 64 67 = some (ai_push 6 69) := rfl
theorem at_64_69 : am_code 64 69 = some (ai_dup2 70) := rfl
theorem at_64_70 : am_code 64 70 = some (ai_ald 18 7 71) := rfl
theorem at_64_71 : am_code 64 71 = some (ai_push 1 72) := rfl
theorem at_64_72 : am_code 64 72 = some (ai_bin (fun x y => x + y) 73) := rfl
theorem at_64_73 : am_code 64 73 = some (ai_ast 18 7 74) := rfl
theorem at_64_74 : am_code 64 74 = some (ai_push 1 75) := rfl
theorem at_64_75 : am_code 64 75 = some (ai_zret) := rfl
theorem at_64_76 : am_code 64 76 = some (ai_aload 6 78) := rfl
theorem at_64_78 : am_code 64 78 = some (ai_aload 1 79) := rfl
theorem at_64_79 : am_code 64 79 = some (ai_callV 5 19 1 82) := rfl
theorem at_64_82 : am_code 64 82 = some (ai_if (fun x => x = 0) 99 85) := rfl
theorem at_64_85 : am_code 64 85 = some (ai_aload 4 87) := rfl
theorem at_64_87 : am_code 64 87 = some (ai_getP 3 7 90) := rfl
theorem at_64_90 : am_code 64 90 = some (ai_iload 2 91) := rfl
theorem at_64_91 : am_code 64 91 = some (ai_aald 6 5 92) := rfl
theorem at_64_92 : am_code 64 92 = some (ai_iload 5 94) := rfl
theorem at_64_94 : am_code 64 94 = some (ai_callV 11 7 1 97) := rfl
theorem at_64_97 : am_code 64 97 = some (ai_push 0 98) := rfl
theorem at_64_98 : am_code 64 98 = some (ai_zret) := rfl
theorem at_64_99 : am_code 64 99 = some (ai_aload 4 101) := rfl
theorem at_64_101 : am_code 64 101 = some (ai_getP 3 7 104) := rfl
theorem at_64_104 : am_code 64 104 = some (ai_iload 2 105) := rfl
theorem at_64_105 : am_code 64 105 = some (ai_aald 6 5 106) := rfl
theorem at_64_106 : am_code 64 106 = some (ai_getP 7 8 109) := rfl
theorem at_64_109 : am_code 64 109 = some (ai_iload 5 111) := rfl
theorem at_64_111 : am_code 64 111 = some (ai_push (-2) 113) := rfl
theorem at_64_113 : am_code 64 113 = some (ai_ast 8 5 114) := rfl
theorem at_64_114 : am_code 64 114 = some (ai_push 1 115) := rfl
theorem at_64_115 : am_code 64 115 = some (ai_zret) := rfl
theorem at_65_0 : am_code 65 0 = some (ai_aload 0 1) := rfl
theorem at_65_1 : am_code 65 1 = some (ai_getP 1 3 4) := rfl
theorem at_65_4 : am_code 65 4 = some (ai_push 3 5) := rfl
theorem at_65_5 : am_code 65 5 = some (ai_dup2 6) := rfl
theorem at_65_6 : am_code 65 6 = some (ai_ald 18 7 7) := rfl
theorem at_65_7 : am_code 65 7 = some (ai_push 1 8) := rfl
theorem at_65_8 : am_code 65 8 = some (ai_bin (fun x y => x + y) 9) := rfl
theorem at_65_9 : am_code 65 9 = some (ai_ast 18 7 10) := rfl
theorem at_65_10 : am_code 65 10 = some (ai_aload 0 11) := rfl
theorem at_65_11 : am_code 65 11 = some (ai_iload 3 12) := rfl
theorem at_65_12 : am_code 65 12 = some (ai_iload 2 13) := rfl
theorem at_65_13 : am_code 65 13 = some (ai_callV 54 1 2 16) := rfl
theorem at_65_16 : am_code 65 16 = some (ai_if (fun x => ¬ x = 0) 20 19) := rfl
theorem at_65_19 : am_code 65 19 = some (ai_ret) := rfl
theorem at_65_20 : am_code 65 20 = some (ai_push 0 21) := rfl
theorem at_65_21 : am_code 65 21 = some (ai_istore 4 23) := rfl
theorem at_65_23 : am_code 65 23 = some (ai_iload 4 25) := rfl
theorem at_65_25 : am_code 65 25 = some (ai_push 5 26) := rfl
theorem at_65_26 : am_code 65 26 = some (ai_icmp (fun x y => y ≤ x) 107 29) := rfl
theorem at_65_29 : am_code 65 29 = some (ai_aload 0 30) := rfl
theorem at_65_30 : am_code 65 30 = some (ai_getP 1 0 33) := rfl
theorem at_65_33 : am_code 65 33 = some (ai_iload 2 34) := rfl
theorem at_65_34 : am_code 65 34 = some (ai_aald 2 5 35) := rfl
theorem at_65_35 : am_code 65 35 = some (ai_getP 3 6 38) := rfl
theorem at_65_38 : am_code 65 38 = some (ai_iload 4 40) := rfl
theorem at_65_40 : am_code 65 40 = some (ai_aald 5 5 41) := rfl
theorem at_65_41 : am_code 65 41 = some (ai_astore 5 43) := rfl
theorem at_65_43 : am_code 65 43 = some (ai_aload 1 44) := rfl
theorem at_65_44 : am_code 65 44 = some (ai_getP 10 1 47) := rfl
theorem at_65_47 : am_code 65 47 = some (ai_iload 4 49) := rfl
theorem at_65_49 : am_code 65 49 = some (ai_aald 11 5 50) := rfl
theorem at_65_50 : am_code 65 50 = some (ai_astore 6 52) := rfl
theorem at_65_52 : am_code 65 52 = some (ai_aload 1 53) := rfl
theorem at_65_53 : am_code 65 53 = some (ai_getP 10 2 56) := rfl
theorem at_65_56 : am_code 65 56 = some (ai_iload 4 58) := rfl
theorem at_65_58 : am_code 65 58 = some (ai_ald 12 5 59) := rfl
theorem at_65_59 : am_code 65 59 = some (ai_if (fun x => x = 0) 101 62) := rfl
theorem at_65_62 : am_code 65 62 = some (ai_aload 5 64) := rfl
theorem at_65_64 : am_code 65 64 = some (ai_ifnull 101 67) := rfl
theorem at_65_67 : am_code 65 67 = some (ai_aload 6 69) := rfl
theorem at_65_69 : am_code 65 69 = some (ai_ifnull 101 72) := rfl
theorem at_65_72 : am_code 65 72 = some (ai_aload 5 74) := rfl
theorem at_65_74 : am_code 65 74 = some (ai_aload 6 76) := rfl
theorem at_65_76 : am_code 65 76 = some (ai_callV 6 19 1 79) := rfl
theorem at_65_79 : am_code 65 79 = some (ai_if (fun x => x = 0) 101 82) := rfl
theorem at_65_82 : am_code 65 82 = some (ai_aload 0 83) := rfl
theorem at_65_83 : am_code 65 83 = some (ai_getP 1 0 86) := rfl
theorem at_65_86 : am_code 65 86 = some (ai_iload 2 87) := rfl
theorem at_65_87 : am_code 65 87 = some (ai_aald 2 5 88) := rfl
theorem at_65_88 : am_code 65 88 = some (ai_getP 3 7 91) := rfl
theorem at_65_91 : am_code 65 91 = some (ai_iload 3 92) := rfl
theorem at_65_92 : am_code 65 92 = some (ai_aald 6 5 93) := rfl
theorem at_65_93 : am_code 65 93 = some (ai_getP 7 8 96) := rfl
theorem at_65_96 : am_code 65 96 = some (ai_iload 4 98) := rfl
theorem at_65_98 : am_code 65 98 = some (ai_push (-2) 100) := rfl
theorem at_65_100 : am_code 65 100 = some (ai_ast 8 5 101) := rfl
theorem at_65_101 : am_code 65 101 = some (ai_iinc 4 1 104) := rfl
theorem at_65_104 : am_code 65 104 = some (ai_goto 23) := rfl
theorem at_65_107 : am_code 65 107 = some (ai_ret) := rfl
theorem at_66_0 : am_code 66 0 = some (ai_aload 0 1) := rfl
theorem at_66_1 : am_code 66 1 = some (ai_oinit 4) := rfl
theorem at_66_4 : am_code 66 4 = some (ai_aload 0 5) := rfl
theorem at_66_5 : am_code 66 5 = some (ai_push 5 6) := rfl
theorem at_66_6 : am_code 66 6 = some (ai_newa 51 5 8) := rfl
theorem at_66_8 : am_code 66 8 = some (ai_putP 50 1 11) := rfl
theorem at_66_11 : am_code 66 11 = some (ai_aload 0 12) := rfl
theorem at_66_12 : am_code 66 12 = some (ai_push 25 14) := rfl
theorem at_66_14 : am_code 66 14 = some (ai_newa 52 25 16) := rfl
theorem at_66_16 : am_code 66 16 = some (ai_putP 50 2 19) := rfl
theorem at_66_19 : am_code 66 19 = some (ai_aload 0 20) := rfl
theorem at_66_20 : am_code 66 20 = some (ai_push 25 22) := rfl
theorem at_66_22 : am_code 66 22 = some (ai_newa 53 25 24) := rfl
theorem at_66_24 : am_code 66 24 = some (ai_putP 50 3 27) := rfl
theorem at_66_27 : am_code 66 27 = some (ai_aload 0 28) := rfl
theorem at_66_28 : am_code 66 28 = some (ai_push 25 30) := rfl
theorem at_66_30 : am_code 66 30 = some (ai_newa 54 25 32) := rfl
theorem at_66_32 : am_code 66 32 = some (ai_putP 50 4 35) := rfl
theorem at_66_35 : am_code 66 35 = some (ai_aload 0 36) := rfl
theorem at_66_36 : am_code 66 36 = some (ai_push 25 38) := rfl
theorem at_66_38 : am_code 66 38 = some (ai_newa 55 25 40) := rfl
theorem at_66_40 : am_code 66 40 = some (ai_putP 50 5 43) := rfl
theorem at_66_43 : am_code 66 43 = some (ai_aload 0 44) := rfl
theorem at_66_44 : am_code 66 44 = some (ai_push 25 46) := rfl
theorem at_66_46 : am_code 66 46 = some (ai_newa 56 25 48) := rfl
theorem at_66_48 : am_code 66 48 = some (ai_putP 50 6 51) := rfl
theorem at_66_51 : am_code 66 51 = some (ai_aload 0 52) := rfl
theorem at_66_52 : am_code 66 52 = some (ai_push 25 54) := rfl
theorem at_66_54 : am_code 66 54 = some (ai_newa 57 25 56) := rfl
theorem at_66_56 : am_code 66 56 = some (ai_putP 50 7 59) := rfl
theorem at_66_59 : am_code 66 59 = some (ai_aload 0 60) := rfl
theorem at_66_60 : am_code 66 60 = some (ai_push 25 62) := rfl
theorem at_66_62 : am_code 66 62 = some (ai_newa 58 25 64) := rfl
theorem at_66_64 : am_code 66 64 = some (ai_putP 50 8 67) := rfl
theorem at_66_67 : am_code 66 67 = some (ai_aload 0 68) := rfl
theorem at_66_68 : am_code 66 68 = some (ai_push 25 70) := rfl
theorem at_66_70 : am_code 66 70 = some (ai_newa 59 25 72) := rfl
theorem at_66_72 : am_code 66 72 = some (ai_putP 50 9 75) := rfl
theorem at_66_75 : am_code 66 75 = some (ai_aload 0 76) := rfl
theorem at_66_76 : am_code 66 76 = some (ai_push 7 78) := rfl
theorem at_66_78 : am_code 66 78 = some (ai_newa 60 7 80) := rfl
theorem at_66_80 : am_code 66 80 = some (ai_putP 50 10 83) := rfl
theorem at_66_83 : am_code 66 83 = some (ai_aload 0 84) := rfl
theorem at_66_84 : am_code 66 84 = some (ai_push 60 86) := rfl
theorem at_66_86 : am_code 66 86 = some (ai_newa 61 60 88) := rfl
theorem at_66_88 : am_code 66 88 = some (ai_putP 50 11 91) := rfl
theorem at_66_91 : am_code 66 91 = some (ai_aload 0 92) := rfl
theorem at_66_92 : am_code 66 92 = some (ai_push 60 94) := rfl
theorem at_66_94 : am_code 66 94 = some (ai_newa 62 60 96) := rfl
theorem at_66_96 : am_code 66 96 = some (ai_putP 50 12 99) := rfl
theorem at_66_99 : am_code 66 99 = some (ai_aload 0 100) := rfl
theorem at_66_100 : am_code 66 100 = some (ai_push 300 103) := rfl
theorem at_66_103 : am_code 66 103 = some (ai_newa 63 300 105) := rfl
theorem at_66_105 : am_code 66 105 = some (ai_putP 50 13 108) := rfl
theorem at_66_108 : am_code 66 108 = some (ai_aload 0 109) := rfl
theorem at_66_109 : am_code 66 109 = some (ai_push 120 111) := rfl
theorem at_66_111 : am_code 66 111 = some (ai_newa 64 120 113) := rfl
theorem at_66_113 : am_code 66 113 = some (ai_putP 50 14 116) := rfl
theorem at_66_116 : am_code 66 116 = some (ai_aload 0 117) := rfl
theorem at_66_117 : am_code 66 117 = some (ai_push 120 119) := rfl
theorem at_66_119 : am_code 66 119 = some (ai_newa 65 120 121) := rfl
theorem at_66_121 : am_code 66 121 = some (ai_putP 50 15 124) := rfl
theorem at_66_124 : am_code 66 124 = some (ai_aload 0 125) := rfl
theorem at_66_125 : am_code 66 125 = some (ai_push 120 127) := rfl
theorem at_66_127 : am_code 66 127 = some (ai_newa 66 120 129) := rfl
theorem at_66_129 : am_code 66 129 = some (ai_putP 50 16 132) := rfl
theorem at_66_132 : am_code 66 132 = some (ai_aload 0 133) := rfl
theorem at_66_133 : am_code 66 133 = some (ai_push 5 134) := rfl
theorem at_66_134 : am_code 66 134 = some (ai_newa 67 5 136) := rfl
theorem at_66_136 : am_code 66 136 = some (ai_putP 50 17 139) := rfl
theorem at_66_139 : am_code 66 139 = some (ai_aload 0 140) := rfl
theorem at_66_140 : am_code 66 140 = some (ai_push 5 141) := rfl
theorem at_66_141 : am_code 66 141 = some (ai_newa 68 5 143) := rfl
theorem at_66_143 : am_code 66 143 = some (ai_putP 50 18 146) := rfl
theorem at_66_146 : am_code 66 146 = some (ai_aload 0 147) := rfl
theorem at_66_147 : am_code 66 147 = some (ai_push 125 149) := rfl
theorem at_66_149 : am_code 66 149 = some (ai_newa 69 125 151) := rfl
theorem at_66_151 : am_code 66 151 = some (ai_putP 50 19 154) := rfl
theorem at_66_154 : am_code 66 154 = some (ai_aload 0 155) := rfl
theorem at_66_155 : am_code 66 155 = some (ai_push 125 157) := rfl
theorem at_66_157 : am_code 66 157 = some (ai_newa 70 125 159) := rfl
theorem at_66_159 : am_code 66 159 = some (ai_putP 50 20 162) := rfl
theorem at_66_162 : am_code 66 162 = some (ai_aload 0 163) := rfl
theorem at_66_163 : am_code 66 163 = some (ai_push 125 165) := rfl
theorem at_66_165 : am_code 66 165 = some (ai_newa 71 125 167) := rfl
theorem at_66_167 : am_code 66 167 = some (ai_putP 50 21 170) := rfl
theorem at_66_170 : am_code 66 170 = some (ai_aload 0 171) := rfl
theorem at_66_171 : am_code 66 171 = some (ai_push 25 173) := rfl
theorem at_66_173 : am_code 66 173 = some (ai_newa 72 25 175) := rfl
theorem at_66_175 : am_code 66 175 = some (ai_putP 50 22 178) := rfl
theorem at_66_178 : am_code 66 178 = some (ai_aload 0 179) := rfl
theorem at_66_179 : am_code 66 179 = some (ai_push 5 180) := rfl
theorem at_66_180 : am_code 66 180 = some (ai_newa 73 5 182) := rfl
theorem at_66_182 : am_code 66 182 = some (ai_putP 50 23 185) := rfl
theorem at_66_185 : am_code 66 185 = some (ai_aload 0 186) := rfl
theorem at_66_186 : am_code 66 186 = some (ai_push 25 188) := rfl
theorem at_66_188 : am_code 66 188 = some (ai_newa 74 25 190) := rfl
theorem at_66_190 : am_code 66 190 = some (ai_putP 50 24 193) := rfl
theorem at_66_193 : am_code 66 193 = some (ai_ret) := rfl
theorem at_67_0 : am_code 67 0 = some (ai_iload 0 1) := rfl
theorem at_67_1 : am_code 67 1 = some (ai_if (fun x => x < 0) 13 4) := rfl
theorem at_67_4 : am_code 67 4 = some (ai_iload 0 5) := rfl
theorem at_67_5 : am_code 67 5 = some (ai_push 4 6) := rfl
theorem at_67_6 : am_code 67 6 = some (ai_icmp (fun x y => y < x) 13 9) := rfl
theorem at_67_9 : am_code 67 9 = some (ai_push 1 10) := rfl
theorem at_67_10 : am_code 67 10 = some (ai_goto 14) := rfl
theorem at_67_13 : am_code 67 13 = some (ai_push 0 14) := rfl
theorem at_67_14 : am_code 67 14 = some (ai_zret) := rfl
theorem at_68_0 : am_code 68 0 = some (ai_iload 1 1) := rfl
theorem at_68_1 : am_code 68 1 = some (ai_callS 67 1 4) := rfl
theorem at_68_4 : am_code 68 4 = some (ai_if (fun x => x = 0) 31 7) := rfl
theorem at_68_7 : am_code 68 7 = some (ai_iload 2 8) := rfl
theorem at_68_8 : am_code 68 8 = some (ai_callS 67 1 11) := rfl
theorem at_68_11 : am_code 68 11 = some (ai_if (fun x => x = 0) 31 14) := rfl
theorem at_68_14 : am_code 68 14 = some (ai_aload 0 15) := rfl
theorem at_68_15 : am_code 68 15 = some (ai_getP 50 2 18) := rfl
theorem at_68_18 : am_code 68 18 = some (ai_push 5 19) := rfl
theorem at_68_19 : am_code 68 19 = some (ai_iload 1 20) := rfl
theorem at_68_20 : am_code 68 20 = some (ai_bin (fun x y => x * y) 21) := rfl
theorem at_68_21 : am_code 68 21 = some (ai_iload 2 22) := rfl
theorem at_68_22 : am_code 68 22 = some (ai_bin (fun x y => x + y) 23) := rfl
theorem at_68_23 : am_code 68 23 = some (ai_ald 52 25 24) := rfl
theorem at_68_24 : am_code 68 24 = some (ai_if (fun x => x ≤ 0) 31 27) := rfl
theorem at_68_27 : am_code 68 27 = some (ai_push 1 28) := rfl
theorem at_68_28 : am_code 68 28 = some (ai_goto 32) := rfl
theorem at_68_31 : am_code 68 31 = some (ai_push 0 32) := rfl
theorem at_68_32 : am_code 68 32 = some (ai_zret) := rfl
theorem at_69_0 : am_code 69 0 = some (ai_aload 0 1) := rfl
theorem at_69_1 : am_code 69 1 = some (ai_getP 50 4 4) := rfl
theorem at_69_4 : am_code 69 4 = some (ai_push 5 5) := rfl
theorem at_69_5 : am_code 69 5 = some (ai_iload 1 6) := rfl
theorem at_69_6 : am_code 69 6 = some (ai_bin (fun x y => x * y) 7) := rfl
theorem at_69_7 : am_code 69 7 = some (ai_iload 2 8) := rfl
theorem at_69_8 : am_code 69 8 = some (ai_bin (fun x y => x + y) 9) := rfl
theorem at_69_9 : am_code 69 9 = some (ai_push 0 10) := rfl
theorem at_69_10 : am_code 69 10 = some (ai_zast 54 25 11) := rfl
theorem at_69_11 : am_code 69 11 = some (ai_aload 0 12) := rfl
theorem at_69_12 : am_code 69 12 = some (ai_getP 50 6 15) := rfl
theorem at_69_15 : am_code 69 15 = some (ai_push 5 16) := rfl
theorem at_69_16 : am_code 69 16 = some (ai_iload 1 17) := rfl
theorem at_69_17 : am_code 69 17 = some (ai_bin (fun x y => x * y) 18) := rfl
theorem at_69_18 : am_code 69 18 = some (ai_iload 2 19) := rfl
theorem at_69_19 : am_code 69 19 = some (ai_bin (fun x y => x + y) 20) := rfl
theorem at_69_20 : am_code 69 20 = some (ai_push 0 21) := rfl
theorem at_69_21 : am_code 69 21 = some (ai_zast 56 25 22) := rfl
theorem at_69_22 : am_code 69 22 = some (ai_aload 0 23) := rfl
theorem at_69_23 : am_code 69 23 = some (ai_getP 50 7 26) := rfl
theorem at_69_26 : am_code 69 26 = some (ai_push 5 27) := rfl
theorem at_69_27 : am_code 69 27 = some (ai_iload 1 28) := rfl
theorem at_69_28 : am_code 69 28 = some (ai_bin (fun x y => x * y) 29) := rfl
theorem at_69_29 : am_code 69 29 = some (ai_iload 2 30) := rfl
theorem at_69_30 : am_code 69 30 = some (ai_bin (fun x y => x + y) 31) := rfl
theorem at_69_31 : am_code 69 31 = some (ai_push 0 32) := rfl
theorem at_69_32 : am_code 69 32 = some (ai_zast 57 25 33) := rfl
theorem at_69_33 : am_code 69 33 = some (ai_push 0 34) := rfl
theorem at_69_34 : am_code 69 34 = some (ai_istore 3 35) := rfl
theorem at_69_35 : am_code 69 35 = some (ai_iload 3 36) := rfl
theorem at_69_36 : am_code 69 36 = some (ai_push 5 37) := rfl
theorem at_69_37 : am_code 69 37 = some (ai_icmp (fun x y => y ≤ x) 61 40) := rfl
theorem at_69_40 : am_code 69 40 = some (ai_aload 0 41) := rfl
theorem at_69_41 : am_code 69 41 = some (ai_getP 50 19 44) := rfl
theorem at_69_44 : am_code 69 44 = some (ai_push 5 45) := rfl
theorem at_69_45 : am_code 69 45 = some (ai_push 5 46) := rfl
theorem at_69_46 : am_code 69 46 = some (ai_iload 1 47) := rfl
theorem at_69_47 : am_code 69 47 = some (ai_bin (fun x y => x * y) 48) := rfl
theorem at_69_48 : am_code 69 48 = some (ai_iload 2 49) := rfl
theorem at_69_49 : am_code 69 49 = some (ai_bin (fun x y => x + y) 50) := rfl
theorem at_69_50 : am_code 69 50 = some (ai_bin (fun x y => x * y) 51) := rfl
theorem at_69_51 : am_code 69 51 = some (ai_iload 3 52) := rfl
theorem at_69_52 : am_code 69 52 = some (ai_bin (fun x y => x + y) 53) := rfl
theorem at_69_53 : am_code 69 53 = some (ai_push 0 54) := rfl
theorem at_69_54 : am_code 69 54 = some (ai_zast 69 125 55) := rfl
theorem at_69_55 : am_code 69 55 = some (ai_iinc 3 1 58) := rfl
theorem at_69_58 : am_code 69 58 = some (ai_goto 35) := rfl
theorem at_69_61 : am_code 69 61 = some (ai_ret) := rfl
theorem at_70_0 : am_code 70 0 = some (ai_iload 1 1) := rfl
theorem at_70_1 : am_code 70 1 = some (ai_callS 67 1 4) := rfl
theorem at_70_4 : am_code 70 4 = some (ai_if (fun x => x = 0) 43 7) := rfl
theorem at_70_7 : am_code 70 7 = some (ai_iload 2 8) := rfl
theorem at_70_8 : am_code 70 8 = some (ai_callS 67 1 11) := rfl
theorem at_70_11 : am_code 70 11 = some (ai_if (fun x => x = 0) 43 14) := rfl
theorem at_70_14 : am_code 70 14 = some (ai_iload 1 15) := rfl
theorem at_70_15 : am_code 70 15 = some (ai_iload 2 16) := rfl
theorem at_70_16 : am_code 70 16 = some (ai_icmp (fun x y => x = y) 43 19) := rfl
theorem at_70_19 : am_code 70 19 = some (ai_iload 3 20) := rfl
theorem at_70_20 : am_code 70 20 = some (ai_if (fun x => x < 0) 43 23) := rfl
theorem at_70_23 : am_code 70 23 = some (ai_iload 3 24) := rfl
theorem at_70_24 : am_code 70 24 = some (ai_push 9 26) := rfl
theorem at_70_26 : am_code 70 26 = some (ai_icmp (fun x y => y < x) 43 29) := rfl
theorem at_70_29 : am_code 70 29 = some (ai_aload 0 30) := rfl
theorem at_70_30 : am_code 70 30 = some (ai_getP 50 2 33) := rfl
theorem at_70_33 : am_code 70 33 = some (ai_push 5 34) := rfl
theorem at_70_34 : am_code 70 34 = some (ai_iload 1 35) := rfl
theorem at_70_35 : am_code 70 35 = some (ai_bin (fun x y => x * y) 36) := rfl
theorem at_70_36 : am_code 70 36 = some (ai_iload 2 37) := rfl
theorem at_70_37 : am_code 70 37 = some (ai_bin (fun x y => x + y) 38) := rfl
theorem at_70_38 : am_code 70 38 = some (ai_ald 52 25 39) := rfl
theorem at_70_39 : am_code 70 39 = some (ai_iload 3 40) := rfl
theorem at_70_40 : am_code 70 40 = some (ai_icmp (fun x y => ¬ x = y) 45 43) := rfl
theorem at_70_43 : am_code 70 43 = some (ai_push 0 44) := rfl
theorem at_70_44 : am_code 70 44 = some (ai_zret) := rfl
theorem at_70_45 : am_code 70 45 = some (ai_iload 3 46) := rfl
theorem at_70_46 : am_code 70 46 = some (ai_if (fun x => ¬ x = 0) 61 49) := rfl
theorem at_70_49 : am_code 70 49 = some (ai_aload 0 50) := rfl
theorem at_70_50 : am_code 70 50 = some (ai_iload 1 51) := rfl
theorem at_70_51 : am_code 70 51 = some (ai_iload 2 52) := rfl
theorem at_70_52 : am_code 70 52 = some (ai_callV 69 50 2 55) := rfl
theorem at_70_55 : am_code 70 55 = some (ai_aload 0 56) := rfl
theorem at_70_56 : am_code 70 56 = some (ai_iload 2 57) := rfl
theorem at_70_57 : am_code 70 57 = some (ai_iload 1 58) := rfl
theorem at_70_58 : am_code 70 58 = some (ai_callV 69 50 2 61) := rfl
theorem at_70_61 : am_code 70 61 = some (ai_aload 0 62) := rfl
theorem at_70_62 : am_code 70 62 = some (ai_getP 50 2 65) := rfl
theorem at_70_65 : am_code 70 65 = some (ai_push 5 66) := rfl
theorem at_70_66 : am_code 70 66 = some (ai_iload 1 67) := rfl
theorem at_70_67 : am_code 70 67 = some (ai_bin (fun x y => x * y) 68) := rfl
theorem at_70_68 : am_code 70 68 = some (ai_iload 2 69) := rfl
theorem at_70_69 : am_code 70 69 = some (ai_bin (fun x y => x + y) 70) := rfl
theorem at_70_70 : am_code 70 70 = some (ai_ald 52 25 71) := rfl
theorem at_70_71 : am_code 70 71 = some (ai_if (fun x => ¬ x = 0) 96 74) := rfl
theorem at_70_74 : am_code 70 74 = some (ai_aload 0 75) := rfl
theorem at_70_75 : am_code 70 75 = some (ai_getP 50 3 78) := rfl
theorem at_70_78 : am_code 70 78 = some (ai_push 5 79) := rfl
theorem at_70_79 : am_code 70 79 = some (ai_iload 1 80) := rfl
theorem at_70_80 : am_code 70 80 = some (ai_bin (fun x y => x * y) 81) := rfl
theorem at_70_81 : am_code 70 81 = some (ai_iload 2 82) := rfl
theorem at_70_82 : am_code 70 82 = some (ai_bin (fun x y => x + y) 83) := rfl
theorem at_70_83 : am_code 70 83 = some (ai_push 0 84) := rfl
theorem at_70_84 : am_code 70 84 = some (ai_ast 53 25 85) := rfl
theorem at_70_85 : am_code 70 85 = some (ai_aload 0 86) := rfl
theorem at_70_86 : am_code 70 86 = some (ai_getP 50 3 89) := rfl
theorem at_70_89 : am_code 70 89 = some (ai_push 5 90) := rfl
theorem at_70_90 : am_code 70 90 = some (ai_iload 2 91) := rfl
theorem at_70_91 : am_code 70 91 = some (ai_bin (fun x y => x * y) 92) := rfl
theorem at_70_92 : am_code 70 92 = some (ai_iload 1 93) := rfl
theorem at_70_93 : am_code 70 93 = some (ai_bin (fun x y => x + y) 94) := rfl
theorem at_70_94 : am_code 70 94 = some (ai_push 0 95) := rfl
theorem at_70_95 : am_code 70 95 = some (ai_ast 53 25 96) := rfl
theorem at_70_96 : am_code 70 96 = some (ai_aload 0 97) := rfl
theorem at_70_97 : am_code 70 97 = some (ai_getP 50 2 100) := rfl
theorem at_70_100 : am_code 70 100 = some (ai_push 5 101) := rfl
theorem at_70_101 : am_code 70 101 = some (ai_iload 1 102) := rfl
theorem at_70_102 : am_code 70 102 = some (ai_bin (fun x y => x * y) 103) := rfl
theorem at_70_103 : am_code 70 103 = some (ai_iload 2 104) := rfl
theorem at_70_104 : am_code 70 104 = some (ai_bin (fun x y => x + y) 105) := rfl
theorem at_70_105 : am_code 70 105 = some (ai_iload 3 106) := rfl
theorem at_70_106 : am_code 70 106 = some (ai_ast 52 25 107) := rfl
theorem at_70_107 : am_code 70 107 = some (ai_aload 0 108) := rfl
theorem at_70_108 : am_code 70 108 = some (ai_getP 50 2 111) := rfl
theorem at_70_111 : am_code 70 111 = some (ai_push 5 112) := rfl
theorem at_70_112 : am_code 70 112 = some (ai_iload 2 113) := rfl
theorem at_70_113 : am_code 70 113 = some (ai_bin (fun x y => x * y) 114) := rfl
theorem at_70_114 : am_code 70 114 = some (ai_iload 1 115) := rfl
theorem at_70_115 : am_code 70 115 = some (ai_bin (fun x y => x + y) 116) := rfl
theorem at_70_116 : am_code 70 116 = some (ai_iload 3 117) := rfl
theorem at_70_117 : am_code 70 117 = some (ai_ast 52 25 118) := rfl
theorem at_70_118 : am_code 70 118 = some (ai_push 1 119) := rfl
theorem at_70_119 : am_code 70 119 = some (ai_zret) := rfl
theorem at_71_0 : am_code 71 0 = some (ai_iload 1 1) := rfl
theorem at_71_1 : am_code 71 1 = some (ai_callS 67 1 4) := rfl
theorem at_71_4 : am_code 71 4 = some (ai_if (fun x => x = 0) 51 7) := rfl
theorem at_71_7 : am_code 71 7 = some (ai_iload 2 8) := rfl
theorem at_71_8 : am_code 71 8 = some (ai_if (fun x => x < 0) 51 11) := rfl
theorem at_71_11 : am_code 71 11 = some (ai_iload 2 12) := rfl
theorem at_71_12 : am_code 71 12 = some (ai_push 1 13) := rfl
theorem at_71_13 : am_code 71 13 = some (ai_icmp (fun x y => y < x) 51 16) := rfl
theorem at_71_16 : am_code 71 16 = some (ai_iload 4 18) := rfl
theorem at_71_18 : am_code 71 18 = some (ai_if (fun x => x < 0) 51 21) := rfl
theorem at_71_21 : am_code 71 21 = some (ai_iload 4 23) := rfl
theorem at_71_23 : am_code 71 23 = some (ai_push 8 25) := rfl
theorem at_71_25 : am_code 71 25 = some (ai_icmp (fun x y => y < x) 51 28) := rfl
theorem at_71_28 : am_code 71 28 = some (ai_iload 3 29) := rfl
theorem at_71_29 : am_code 71 29 = some (ai_if (fun x => x < 0) 51 32) := rfl
theorem at_71_32 : am_code 71 32 = some (ai_iload 3 33) := rfl
theorem at_71_33 : am_code 71 33 = some (ai_push 255 36) := rfl
theorem at_71_36 : am_code 71 36 = some (ai_icmp (fun x y => y < x) 51 39) := rfl
theorem at_71_39 : am_code 71 39 = some (ai_iload 5 41) := rfl
theorem at_71_41 : am_code 71 41 = some (ai_if (fun x => x < 0) 51 44) := rfl
theorem at_71_44 : am_code 71 44 = some (ai_iload 5 46) := rfl
theorem at_71_46 : am_code 71 46 = some (ai_push 9 48) := rfl
theorem at_71_48 : am_code 71 48 = some (ai_icmp (fun x y => x ≤ y) 53 51) := rfl
theorem at_71_51 : am_code 71 51 = some (ai_push 0 52) := rfl
theorem at_71_52 : am_code 71 52 = some (ai_zret) := rfl
theorem at_71_53 : am_code 71 53 = some (ai_iload 3 54) := rfl
theorem at_71_54 : am_code 71 54 = some (ai_push 1 55) := rfl
theorem at_71_55 : am_code 71 55 = some (ai_push 8 57) := rfl
theorem at_71_57 : am_code 71 57 = some (ai_iload 4 59) := rfl
theorem at_71_59 : am_code 71 59 = some (ai_bin (fun x y => x - y) 60) := rfl
theorem at_71_60 : am_code 71 60 = some (ai_bin (fun x y => x <<< (y &&& 31)) 61) := rfl
theorem at_71_61 : am_code 71 61 = some (ai_push 1 62) := rfl
theorem at_71_62 : am_code 71 62 = some (ai_bin (fun x y => x - y) 63) := rfl
theorem at_71_63 : am_code 71 63 = some (ai_bin (fun x y => x &&& y) 64) := rfl
theorem at_71_64 : am_code 71 64 = some (ai_if (fun x => x = 0) 69 67) := rfl
theorem at_71_67 : am_code 71 67 = some (ai_push 0 68) := rfl
theorem at_71_68 : am_code 71 68 = some (ai_zret) := rfl
theorem at_71_69 : am_code 71 69 = some (ai_push 2 70) := rfl
theorem at_71_70 : am_code 71 70 = some (ai_push 55 72) := rfl
theorem at_71_72 : am_code 71 72 = some (ai_iload 1 73) := rfl
theorem at_71_73 : am_code 71 73 = some (ai_bin (fun x y => x + y) 74) := rfl
theorem at_71_74 : am_code 71 74 = some (ai_bin (fun x y => x * y) 75) := rfl
theorem at_71_75 : am_code 71 75 = some (ai_iload 2 76) := rfl
theorem at_71_76 : am_code 71 76 = some (ai_bin (fun x y => x + y) 77) := rfl
theorem at_71_77 : am_code 71 77 = some (ai_istore 6 79) := rfl
theorem at_71_79 : am_code 71 79 = some (ai_aload 0 80) := rfl
theorem at_71_80 : am_code 71 80 = some (ai_getP 50 14 83) := rfl
theorem at_71_83 : am_code 71 83 = some (ai_iload 6 85) := rfl
theorem at_71_85 : am_code 71 85 = some (ai_iload 5 87) := rfl
theorem at_71_87 : am_code 71 87 = some (ai_if (fun x => x ≤ 0) 94 90) := rfl
theorem at_71_90 : am_code 71 90 = some (ai_iload 3 91) := rfl
theorem at_71_91 : am_code 71 91 = some (ai_goto 95) := rfl
theorem at_71_94 : am_code 71 94 = some (ai_push 0 95) := rfl
theorem at_71_95 : am_code 71 95 = some (ai_ast 64 120 96) := rfl
theorem at_71_96 : am_code 71 96 = some (ai_aload 0 97) := rfl
theorem at_71_97 : am_code 71 97 = some (ai_getP 50 15 100) := rfl
theorem at_71_100 : am_code 71 100 = some (ai_iload 6 102) := rfl
theorem at_71_102 : am_code 71 102 = some (ai_iload 5 104) := rfl
theorem at_71_104 : am_code 71 104 = some (ai_if (fun x => x ≤ 0) 112 107) := rfl
theorem at_71_107 : am_code 71 107 = some (ai_iload 4 109) := rfl
theorem at_71_109 : am_code 71 109 = some (ai_goto 113) := rfl
theorem at_71_112 : am_code 71 112 = some (ai_push 0 113) := rfl
theorem at_71_113 : am_code 71 113 = some (ai_ast 65 120 114) := rfl
theorem at_71_114 : am_code 71 114 = some (ai_aload 0 115) := rfl
theorem at_71_115 : am_code 71 115 = some (ai_getP 50 16 118) := rfl
theorem at_71_118 : am_code 71 118 = some (ai_iload 6 120) := rfl
theorem at_71_120 : am_code 71 120 = some (ai_iload 5 122) := rfl
theorem at_71_122 : am_code 71 122 = some (ai_ast 66 120 123) := rfl
theorem at_71_123 : am_code 71 123 = some (ai_push 1 124) := rfl
theorem at_71_124 : am_code 71 124 = some (ai_zret) := rfl
theorem at_72_0 : am_code 72 0 = some (ai_iload 1 1) := rfl
theorem at_72_1 : am_code 72 1 = some (ai_callS 67 1 4) := rfl
theorem at_72_4 : am_code 72 4 = some (ai_if (fun x => x = 0) 17 7) := rfl
theorem at_72_7 : am_code 72 7 = some (ai_aload 0 8) := rfl
theorem at_72_8 : am_code 72 8 = some (ai_getP 50 1 11) := rfl
theorem at_72_11 : am_code 72 11 = some (ai_iload 1 12) := rfl
theorem at_72_12 : am_code 72 12 = some (ai_ald 51 5 13) := rfl
theorem at_72_13 : am_code 72 13 = some (ai_iload 2 14) := rfl
theorem at_72_14 : am_code 72 14 = some (ai_icmp (fun x y => x = y) 19 17) := rfl
theorem at_72_17 : am_code 72 17 = some (ai_push 0 18) := rfl
theorem at_72_18 : am_code 72 18 = some (ai_zret) := rfl
theorem at_72_19 : am_code 72 19 = some (ai_aload 0 20) := rfl
theorem at_72_20 : am_code 72 20 = some (ai_getP 50 1 23) := rfl
theorem at_72_23 : am_code 72 23 = some (ai_iload 1 24) := rfl
theorem at_72_24 : am_code 72 24 = some (ai_iload 2 25) := rfl
theorem at_72_25 : am_code 72 25 = some (ai_if (fun x => ¬ x = 0) 32 28) := rfl
theorem at_72_28 : am_code 72 28 = some (ai_push 1 29) := rfl
theorem at_72_29 : am_code 72 29 = some (ai_goto 33) := rfl
theorem at_72_32 : am_code 72 32 = some (ai_push 0 33) := rfl
theorem at_72_33 : am_code 72 33 = some (ai_zast 51 5 34) := rfl
theorem at_72_34 : am_code 72 34 = some (ai_push 0 35) := rfl
theorem at_72_35 : am_code 72 35 = some (ai_istore 3 36) := rfl
theorem at_72_36 : am_code 72 36 = some (ai_iload 3 37) := rfl
theorem at_72_37 : am_code 72 37 = some (ai_push 5 38) := rfl
theorem at_72_38 : am_code 72 38 = some (ai_icmp (fun x y => y ≤ x) 68 41) := rfl
theorem at_72_41 : am_code 72 41 = some (ai_iload 2 42) := rfl
theorem at_72_42 : am_code 72 42 = some (ai_if (fun x => ¬ x = 0) 68 45) := rfl
theorem at_72_45 : am_code 72 45 = some (ai_aload 0 46) := rfl
theorem at_72_46 : am_code 72 46 = some (ai_iload 1 47) := rfl
theorem at_72_47 : am_code 72 47 = some (ai_iload 3 48) := rfl
theorem at_72_48 : am_code 72 48 = some (ai_callV 69 50 2 51) := rfl
theorem at_72_51 : am_code 72 51 = some (ai_aload 0 52) := rfl
theorem at_72_52 : am_code 72 52 = some (ai_getP 50 11 55) := rfl
theorem at_72_55 : am_code 72 55 = some (ai_push 5 56) := rfl
theorem at_72_56 : am_code 72 56 = some (ai_iload 1 57) := rfl
theorem at_72_57 : am_code 72 57 = some (ai_bin (fun x y => x * y) 58) := rfl
theorem at_72_58 : am_code 72 58 = some (ai_iload 3 59) := rfl
theorem at_72_59 : am_code 72 59 = some (ai_bin (fun x y => x + y) 60) := rfl
theorem at_72_60 : am_code 72 60 = some (ai_push 0 61) := rfl
theorem at_72_61 : am_code 72 61 = some (ai_ast 61 60 62) := rfl
theorem at_72_62 : am_code 72 62 = some (ai_iinc 3 1 65) := rfl
theorem at_72_65 : am_code 72 65 = some (ai_goto 36) := rfl
theorem at_72_68 : am_code 72 68 = some (ai_iload 2 69) := rfl
theorem at_72_69 : am_code 72 69 = some (ai_if (fun x => ¬ x = 0) 96 72) := rfl
theorem at_72_72 : am_code 72 72 = some (ai_aload 0 73) := rfl
theorem at_72_73 : am_code 72 73 = some (ai_getP 50 11 76) := rfl
theorem at_72_76 : am_code 72 76 = some (ai_push 50 78) := rfl
theorem at_72_78 : am_code 72 78 = some (ai_iload 1 79) := rfl
theorem at_72_79 : am_code 72 79 = some (ai_bin (fun x y => x + y) 80) := rfl
theorem at_72_80 : am_code 72 80 = some (ai_push 0 81) := rfl
theorem at_72_81 : am_code 72 81 = some (ai_ast 61 60 82) := rfl
theorem at_72_82 : am_code 72 82 = some (ai_aload 0 83) := rfl
theorem at_72_83 : am_code 72 83 = some (ai_getP 50 17 86) := rfl
theorem at_72_86 : am_code 72 86 = some (ai_iload 1 87) := rfl
theorem at_72_87 : am_code 72 87 = some (ai_push 0 88) := rfl
theorem at_72_88 : am_code 72 88 = some (ai_ast 67 5 89) := rfl
theorem at_72_89 : am_code 72 89 = some (ai_aload 0 90) := rfl
theorem at_72_90 : am_code 72 90 = some (ai_getP 50 18 93) := rfl
theorem at_72_93 : am_code 72 93 = some (ai_iload 1 94) := rfl
theorem at_72_94 : am_code 72 94 = some (ai_push 0 95) := rfl
theorem at_72_95 : am_code 72 95 = some (ai_zast 68 5 96) := rfl
theorem at_72_96 : am_code 72 96 = some (ai_push 1 97) := rfl
theorem at_72_97 : am_code 72 97 = some (ai_zret) := rfl
theorem at_73_0 : am_code 73 0 = some (ai_aload 0 1) := rfl
theorem at_73_1 : am_code 73 1 = some (ai_iload 1 2) := rfl
theorem at_73_2 : am_code 73 2 = some (ai_iload 2 3) := rfl
theorem at_73_3 : am_code 73 3 = some (ai_callV 68 50 2 6) := rfl
theorem at_73_6 : am_code 73 6 = some (ai_if (fun x => x = 0) 19 9) := rfl
theorem at_73_9 : am_code 73 9 = some (ai_iload 3 10) := rfl
theorem at_73_10 : am_code 73 10 = some (ai_if (fun x => x < 0) 19 13) := rfl
theorem at_73_13 : am_code 73 13 = some (ai_iload 3 14) := rfl
theorem at_73_14 : am_code 73 14 = some (ai_push 9 16) := rfl
theorem at_73_16 : am_code 73 16 = some (ai_icmp (fun x y => x ≤ y) 21 19) := rfl
theorem at_73_19 : am_code 73 19 = some (ai_push 0 20) := rfl
theorem at_73_20 : am_code 73 20 = some (ai_zret) := rfl
theorem at_73_21 : am_code 73 21 = some (ai_aload 0 22) := rfl
theorem at_73_22 : am_code 73 22 = some (ai_getP 50 3 25) := rfl
theorem at_73_25 : am_code 73 25 = some (ai_push 5 26) := rfl
theorem at_73_26 : am_code 73 26 = some (ai_iload 1 27) := rfl
theorem at_73_27 : am_code 73 27 = some (ai_bin (fun x y => x * y) 28) := rfl
theorem at_73_28 : am_code 73 28 = some (ai_iload 2 29) := rfl
theorem at_73_29 : am_code 73 29 = some (ai_bin (fun x y => x + y) 30) := rfl
theorem at_73_30 : am_code 73 30 = some (ai_iload 3 31) := rfl
theorem at_73_31 : am_code 73 31 = some (ai_ast 53 25 32) := rfl
theorem at_73_32 : am_code 73 32 = some (ai_push 1 33) := rfl
theorem at_73_33 : am_code 73 33 = some (ai_zret) := rfl
theorem at_74_0 : am_code 74 0 = some (ai_aload 0 1) := rfl
theorem at_74_1 : am_code 74 1 = some (ai_getP 50 11 4) := rfl
theorem at_74_4 : am_code 74 4 = some (ai_iload 2 5) := rfl
theorem at_74_5 : am_code 74 5 = some (ai_aload 0 6) := rfl
theorem at_74_6 : am_code 74 6 = some (ai_getP 50 11 9) := rfl
theorem at_74_9 : am_code 74 9 = some (ai_iload 1 10) := rfl
theorem at_74_10 : am_code 74 10 = some (ai_ald 61 60 11) := rfl
theorem at_74_11 : am_code 74 11 = some (ai_ast 61 60 12) := rfl
theorem at_74_12 : am_code 74 12 = some (ai_aload 0 13) := rfl
theorem at_74_13 : am_code 74 13 = some (ai_getP 50 12 16) := rfl
theorem at_74_16 : am_code 74 16 = some (ai_iload 2 17) := rfl
theorem at_74_17 : am_code 74 17 = some (ai_aload 0 18) := rfl
theorem at_74_18 : am_code 74 18 = some (ai_getP 50 12 21) := rfl
theorem at_74_21 : am_code 74 21 = some (ai_iload 1 22) := rfl
theorem at_74_22 : am_code 74 22 = some (ai_ald 62 60 23) := rfl
theorem at_74_23 : am_code 74 23 = some (ai_ast 62 60 24) := rfl
theorem at_74_24 : am_code 74 24 = some (ai_push 0 25) := rfl
theorem at_74_25 : am_code 74 25 = some (ai_istore 3 26) := rfl
theorem at_74_26 : am_code 74 26 = some (ai_iload 3 27) := rfl
theorem at_74_27 : am_code 74 27 = some (ai_push 5 28) := rfl
theorem at_74_28 : am_code 74 28 = some (ai_icmp (fun x y => y ≤ x) 57 31) := rfl
theorem at_74_31 : am_code 74 31 = some (ai_aload 0 32) := rfl
theorem at_74_32 : am_code 74 32 = some (ai_getP 50 13 35) := rfl
theorem at_74_35 : am_code 74 35 = some (ai_push 5 36) := rfl
theorem at_74_36 : am_code 74 36 = some (ai_iload 2 37) := rfl
theorem at_74_37 : am_code 74 37 = some (ai_bin (fun x y => x * y) 38) := rfl
theorem at_74_38 : am_code 74 38 = some (ai_iload 3 39) := rfl
theorem at_74_39 : am_code 74 39 = some (ai_bin (fun x y => x + y) 40) := rfl
theorem at_74_40 : am_code 74 40 = some (ai_aload 0 41) := rfl
theorem at_74_41 : am_code 74 41 = some (ai_getP 50 13 44) := rfl
theorem at_74_44 : am_code 74 44 = some (ai_push 5 45) := rfl
theorem at_74_45 : am_code 74 45 = some (ai_iload 1 46) := rfl
theorem at_74_46 : am_code 74 46 = some (ai_bin (fun x y => x * y) 47) := rfl
theorem at_74_47 : am_code 74 47 = some (ai_iload 3 48) := rfl
theorem at_74_48 : am_code 74 48 = some (ai_bin (fun x y => x + y) 49) := rfl
theorem at_74_49 : am_code 74 49 = some (ai_ald 63 300 50) := rfl
theorem at_74_50 : am_code 74 50 = some (ai_ast 63 300 51) := rfl
theorem at_74_51 : am_code 74 51 = some (ai_iinc 3 1 54) := rfl
theorem at_74_54 : am_code 74 54 = some (ai_goto 26) := rfl
theorem at_74_57 : am_code 74 57 = some (ai_push 0 58) := rfl
theorem at_74_58 : am_code 74 58 = some (ai_istore 3 59) := rfl
theorem at_74_59 : am_code 74 59 = some (ai_iload 3 60) := rfl
theorem at_74_60 : am_code 74 60 = some (ai_push 2 61) := rfl
theorem at_74_61 : am_code 74 61 = some (ai_icmp (fun x y => y ≤ x) 130 64) := rfl
theorem at_74_64 : am_code 74 64 = some (ai_aload 0 65) := rfl
theorem at_74_65 : am_code 74 65 = some (ai_getP 50 14 68) := rfl
theorem at_74_68 : am_code 74 68 = some (ai_push 2 69) := rfl
theorem at_74_69 : am_code 74 69 = some (ai_iload 2 70) := rfl
theorem at_74_70 : am_code 74 70 = some (ai_bin (fun x y => x * y) 71) := rfl
theorem at_74_71 : am_code 74 71 = some (ai_iload 3 72) := rfl
theorem at_74_72 : am_code 74 72 = some (ai_bin (fun x y => x + y) 73) := rfl
theorem at_74_73 : am_code 74 73 = some (ai_aload 0 74) := rfl
theorem at_74_74 : am_code 74 74 = some (ai_getP 50 14 77) := rfl
theorem at_74_77 : am_code 74 77 = some (ai_push 2 78) := rfl
theorem at_74_78 : am_code 74 78 = some (ai_iload 1 79) := rfl
theorem at_74_79 : am_code 74 79 = some (ai_bin (fun x y => x * y) 80) := rfl
theorem at_74_80 : am_code 74 80 = some (ai_iload 3 81) := rfl
theorem at_74_81 : am_code 74 81 = some (ai_bin (fun x y => x + y) 82) := rfl
theorem at_74_82 : am_code 74 82 = some (ai_ald 64 120 83) := rfl
theorem at_74_83 : am_code 74 83 = some (ai_ast 64 120 84) := rfl
theorem at_74_84 : am_code 74 84 = some (ai_aload 0 85) := rfl
theorem at_74_85 : am_code 74 85 = some (ai_getP 50 15 88) := rfl
theorem at_74_88 : am_code 74 88 = some (ai_push 2 89) := rfl
theorem at_74_89 : am_code 74 89 = some (ai_iload 2 90) := rfl
theorem at_74_90 : am_code 74 90 = some (ai_bin (fun x y => x * y) 91) := rfl
theorem at_74_91 : am_code 74 91 = some (ai_iload 3 92) := rfl
theorem at_74_92 : am_code 74 92 = some (ai_bin (fun x y => x + y) 93) := rfl
theorem at_74_93 : am_code 74 93 = some (ai_aload 0 94) := rfl
theorem at_74_94 : am_code 74 94 = some (ai_getP 50 15 97) := rfl
theorem at_74_97 : am_code 74 97 = some (ai_push 2 98) := rfl
theorem at_74_98 : am_code 74 98 = some (ai_iload 1 99) := rfl
theorem at_74_99 : am_code 74 99 = some (ai_bin (fun x y => x * y) 100) := rfl
theorem at_74_100 : am_code 74 100 = some (ai_iload 3 101) := rfl
theorem at_74_101 : am_code 74 101 = some (ai_bin (fun x y => x + y) 102) := rfl
theorem at_74_102 : am_code 74 102 = some (ai_ald 65 120 103) := rfl
theorem at_74_103 : am_code 74 103 = some (ai_ast 65 120 104) := rfl
theorem at_74_104 : am_code 74 104 = some (ai_aload 0 105) := rfl
theorem at_74_105 : am_code 74 105 = some (ai_getP 50 16 108) := rfl
theorem at_74_108 : am_code 74 108 = some (ai_push 2 109) := rfl
theorem at_74_109 : am_code 74 109 = some (ai_iload 2 110) := rfl
theorem at_74_110 : am_code 74 110 = some (ai_bin (fun x y => x * y) 111) := rfl
theorem at_74_111 : am_code 74 111 = some (ai_iload 3 112) := rfl
theorem at_74_112 : am_code 74 112 = some (ai_bin (fun x y => x + y) 113) := rfl
theorem at_74_113 : am_code 74 113 = some (ai_aload 0 114) := rfl
theorem at_74_114 : am_code 74 114 = some (ai_getP 50 16 117) := rfl
theorem at_74_117 : am_code 74 117 = some (ai_push 2 118) := rfl
theorem at_74_118 : am_code 74 118 = some (ai_iload 1 119) := rfl
theorem at_74_119 : am_code 74 119 = some (ai_bin (fun x y => x * y) 120) := rfl
theorem at_74_120 : am_code 74 120 = some (ai_iload 3 121) := rfl
theorem at_74_121 : am_code 74 121 = some (ai_bin (fun x y => x + y) 122) := rfl
theorem at_74_122 : am_code 74 122 = some (ai_ald 66 120 123) := rfl
theorem at_74_123 : am_code 74 123 = some (ai_ast 66 120 124) := rfl
theorem at_74_124 : am_code 74 124 = some (ai_iinc 3 1 127) := rfl
theorem at_74_127 : am_code 74 127 = some (ai_goto 59) := rfl
theorem at_74_130 : am_code 74 130 = some (ai_ret) := rfl
theorem at_75_0 : am_code 75 0 = some (ai_push 1 1) := rfl
theorem at_75_1 : am_code 75 1 = some (ai_istore 3 2) := rfl
theorem at_75_2 : am_code 75 2 = some (ai_push 0 3) := rfl
theorem at_75_3 : am_code 75 3 = some (ai_istore 4 5) := rfl
theorem at_75_5 : am_code 75 5 = some (ai_iload 4 7) := rfl
theorem at_75_7 : am_code 75 7 = some (ai_push 5 8) := rfl
theorem at_75_8 : am_code 75 8 = some (ai_icmp (fun x y => y ≤ x) 52 11) := rfl
theorem at_75_11 : am_code 75 11 = some (ai_iload 3 12) := rfl
theorem at_75_12 : am_code 75 12 = some (ai_if (fun x => x = 0) 44 15) := rfl
theorem at_75_15 : am_code 75 15 = some (ai_aload 0 16) := rfl
theorem at_75_16 : am_code 75 16 = some (ai_getP 50 13 19) := rfl
theorem at_75_19 : am_code 75 19 = some (ai_push 5 20) := rfl
theorem at_75_20 : am_code 75 20 = some (ai_iload 1 21) := rfl
theorem at_75_21 : am_code 75 21 = some (ai_bin (fun x y => x * y) 22) := rfl
theorem at_75_22 : am_code 75 22 = some (ai_iload 4 24) := rfl
theorem at_75_24 : am_code 75 24 = some (ai_bin (fun x y => x + y) 25) := rfl
theorem at_75_25 : am_code 75 25 = some (ai_ald 63 300 26) := rfl
theorem at_75_26 : am_code 75 26 = some (ai_aload 0 27) := rfl
theorem at_75_27 : am_code 75 27 = some (ai_getP 50 13 30) := rfl
theorem at_75_30 : am_code 75 30 = some (ai_push 5 31) := rfl
theorem at_75_31 : am_code 75 31 = some (ai_iload 2 32) := rfl
theorem at_75_32 : am_code 75 32 = some (ai_bin (fun x y => x * y) 33) := rfl
theorem at_75_33 : am_code 75 33 = some (ai_iload 4 35) := rfl
theorem at_75_35 : am_code 75 35 = some (ai_bin (fun x y => x + y) 36) := rfl
theorem at_75_36 : am_code 75 36 = some (ai_ald 63 300 37) := rfl
theorem at_75_37 : am_code 75 37 = some (ai_icmp (fun x y => ¬ x = y) 44 40) := rfl
theorem at_75_40 : am_code 75 40 = some (ai_push 1 41) := rfl
theorem at_75_41 : am_code 75 41 = some (ai_goto 45) := rfl
theorem at_75_44 : am_code 75 44 = some (ai_push 0 45) := rfl
theorem at_75_45 : am_code 75 45 = some (ai_istore 3 46) := rfl
theorem at_75_46 : am_code 75 46 = some (ai_iinc 4 1 49) := rfl
theorem at_75_49 : am_code 75 49 = some (ai_goto 5) := rfl
theorem at_75_52 : am_code 75 52 = some (ai_push 0 53) := rfl
theorem at_75_53 : am_code 75 53 = some (ai_istore 4 55) := rfl
theorem at_75_55 : am_code 75 55 = some (ai_iload 4 57) := rfl
theorem at_75_57 : am_code 75 57 = some (ai_push 2 58) := rfl
theorem at_75_58 : am_code 75 58 = some (ai_icmp (fun x y => y ≤ x) 152 61) := rfl
theorem at_75_61 : am_code 75 61 = some (ai_iload 3 62) := rfl
theorem at_75_62 : am_code 75 62 = some (ai_if (fun x => x = 0) 144 65) := rfl
theorem at_75_65 : am_code 75 65 = some (ai_aload 0 66) := rfl
theorem at_75_66 : am_code 75 66 = some (ai_getP 50 14 69) := rfl
theorem at_75_69 : am_code 75 69 = some (ai_push 2 70) := rfl
theorem at_75_70 : am_code 75 70 = some (ai_iload 1 71) := rfl
theorem at_75_71 : am_code 75 71 = some (ai_bin (fun x y => x * y) 72) := rfl
theorem at_75_72 : am_code 75 72 = some (ai_iload 4 74) := rfl
theorem at_75_74 : am_code 75 74 = some (ai_bin (fun x y => x + y) 75) := rfl
theorem at_75_75 : am_code 75 75 = some (ai_ald 64 120 76) := rfl
theorem at_75_76 : am_code 75 76 = some (ai_aload 0 77) := rfl
theorem at_75_77 : am_code 75 77 = some (ai_getP 50 14 80) := rfl
theorem at_75_80 : am_code 75 80 = some (ai_push 2 81) := rfl
theorem at_75_81 : am_code 75 81 = some (ai_iload 2 82) := rfl
theorem at_75_82 : am_code 75 82 = some (ai_bin (fun x y => x * y) 83) := rfl
theorem at_75_83 : am_code 75 83 = some (ai_iload 4 85) := rfl
theorem at_75_85 : am_code 75 85 = some (ai_bin (fun x y => x + y) 86) := rfl
theorem at_75_86 : am_code 75 86 = some (ai_ald 64 120 87) := rfl
theorem at_75_87 : am_code 75 87 = some (ai_icmp (fun x y => ¬ x = y) 144 90) := rfl
theorem at_75_90 : am_code 75 90 = some (ai_aload 0 91) := rfl
theorem at_75_91 : am_code 75 91 = some (ai_getP 50 15 94) := rfl
theorem at_75_94 : am_code 75 94 = some (ai_push 2 95) := rfl
theorem at_75_95 : am_code 75 95 = some (ai_iload 1 96) := rfl
theorem at_75_96 : am_code 75 96 = some (ai_bin (fun x y => x * y) 97) := rfl
theorem at_75_97 : am_code 75 97 = some (ai_iload 4 99) := rfl
theorem at_75_99 : am_code 75 99 = some (ai_bin (fun x y => x + y) 100) := rfl
theorem at_75_100 : am_code 75 100 = some (ai_ald 65 120 101) := rfl
theorem at_75_101 : am_code 75 101 = some (ai_aload 0 102) := rfl
theorem at_75_102 : am_code 75 102 = some (ai_getP 50 15 105) := rfl
theorem at_75_105 : am_code 75 105 = some (ai_push 2 106) := rfl
theorem at_75_106 : am_code 75 106 = some (ai_iload 2 107) := rfl
theorem at_75_107 : am_code 75 107 = some (ai_bin (fun x y => x * y) 108) := rfl
theorem at_75_108 : am_code 75 108 = some (ai_iload 4 110) := rfl
theorem at_75_110 : am_code 75 110 = some (ai_bin (fun x y => x + y) 111) := rfl
theorem at_75_111 : am_code 75 111 = some (ai_ald 65 120 112) := rfl
theorem at_75_112 : am_code 75 112 = some (ai_icmp (fun x y => ¬ x = y) 144 115) := rfl
theorem at_75_115 : am_code 75 115 = some (ai_aload 0 116) := rfl
theorem at_75_116 : am_code 75 116 = some (ai_getP 50 16 119) := rfl
theorem at_75_119 : am_code 75 119 = some (ai_push 2 120) := rfl
theorem at_75_120 : am_code 75 120 = some (ai_iload 1 121) := rfl
theorem at_75_121 : am_code 75 121 = some (ai_bin (fun x y => x * y) 122) := rfl
theorem at_75_122 : am_code 75 122 = some (ai_iload 4 124) := rfl
theorem at_75_124 : am_code 75 124 = some (ai_bin (fun x y => x + y) 125) := rfl
theorem at_75_125 : am_code 75 125 = some (ai_ald 66 120 126) := rfl
theorem at_75_126 : am_code 75 126 = some (ai_aload 0 127) := rfl
theorem at_75_127 : am_code 75 127 = some (ai_getP 50 16 130) := rfl
theorem at_75_130 : am_code 75 130 = some (ai_push 2 131) := rfl
theorem at_75_131 : am_code 75 131 = some (ai_iload 2 132) := rfl
theorem at_75_132 : am_code 75 132 = some (ai_bin (fun x y => x * y) 133) := rfl
theorem at_75_133 : am_code 75 133 = some (ai_iload 4 135) := rfl
theorem at_75_135 : am_code 75 135 = some (ai_bin (fun x y => x + y) 136) := rfl
theorem at_75_136 : am_code 75 136 = some (ai_ald 66 120 137) := rfl
theorem at_75_137 : am_code 75 137 = some (ai_icmp (fun x y => ¬ x = y) 144 140) := rfl
theorem at_75_140 : am_code 75 140 = some (ai_push 1 141) := rfl
theorem at_75_141 : am_code 75 141 = some (ai_goto 145) := rfl
theorem at_75_144 : am_code 75 144 = some (ai_push 0 145) := rfl
theorem at_75_145 : am_code 75 145 = some (ai_istore 3 146) := rfl
theorem at_75_146 : am_code 75 146 = some (ai_iinc 4 1 149) := rfl
theorem at_75_149 : am_code 75 149 = some (ai_goto 55) := rfl
theorem at_75_152 : am_code 75 152 = some (ai_iload 3 153) := rfl
theorem at_75_153 : am_code 75 153 = some (ai_zret) := rfl
theorem at_76_0 : am_code 76 0 = some (ai_aload 0 1) := rfl
theorem at_76_1 : am_code 76 1 = some (ai_getP 50 11 4) := rfl
theorem at_76_4 : am_code 76 4 = some (ai_iload 1 5) := rfl
theorem at_76_5 : am_code 76 5 = some (ai_ald 61 60 6) := rfl
theorem at_76_6 : am_code 76 6 = some (ai_aload 0 7) := rfl
theorem at_76_7 : am_code 76 7 = some (ai_getP 50 11 10) := rfl
theorem at_76_10 : am_code 76 10 = some (ai_iload 2 11) := rfl
theorem at_76_11 : am_code 76 11 = some (ai_ald 61 60 12) := rfl
theorem at_76_12 : am_code 76 12 = some (ai_icmp (fun x y => x < y) 45 15) := rfl
theorem at_76_15 : am_code 76 15 = some (ai_aload 0 16) := rfl
theorem at_76_16 : am_code 76 16 = some (ai_getP 50 11 19) := rfl
theorem at_76_19 : am_code 76 19 = some (ai_iload 1 20) := rfl
theorem at_76_20 : am_code 76 20 = some (ai_ald 61 60 21) := rfl
theorem at_76_21 : am_code 76 21 = some (ai_aload 0 22) := rfl
theorem at_76_22 : am_code 76 22 = some (ai_getP 50 11 25) := rfl
theorem at_76_25 : am_code 76 25 = some (ai_iload 2 26) := rfl
theorem at_76_26 : am_code 76 26 = some (ai_ald 61 60 27) := rfl
theorem at_76_27 : am_code 76 27 = some (ai_icmp (fun x y => ¬ x = y) 49 30) := rfl
theorem at_76_30 : am_code 76 30 = some (ai_aload 0 31) := rfl
theorem at_76_31 : am_code 76 31 = some (ai_getP 50 12 34) := rfl
theorem at_76_34 : am_code 76 34 = some (ai_iload 1 35) := rfl
theorem at_76_35 : am_code 76 35 = some (ai_ald 62 60 36) := rfl
theorem at_76_36 : am_code 76 36 = some (ai_aload 0 37) := rfl
theorem at_76_37 : am_code 76 37 = some (ai_getP 50 12 40) := rfl
theorem at_76_40 : am_code 76 40 = some (ai_iload 2 41) := rfl
theorem at_76_41 : am_code 76 41 = some (ai_ald 62 60 42) := rfl
theorem at_76_42 : am_code 76 42 = some (ai_icmp (fun x y => y ≤ x) 49 45) := rfl
theorem at_76_45 : am_code 76 45 = some (ai_push 1 46) := rfl
theorem at_76_46 : am_code 76 46 = some (ai_goto 50) := rfl
theorem at_76_49 : am_code 76 49 = some (ai_push 0 50) := rfl
theorem at_76_50 : am_code 76 50 = some (ai_zret) := rfl
theorem at_77_0 : am_code 77 0 = some (ai_aload 0 1) := rfl
theorem at_77_1 : am_code 77 1 = some (ai_getP 50 11 4) := rfl
theorem at_77_4 : am_code 77 4 = some (ai_iload 1 5) := rfl
theorem at_77_5 : am_code 77 5 = some (ai_ald 61 60 6) := rfl
theorem at_77_6 : am_code 77 6 = some (ai_aload 0 7) := rfl
theorem at_77_7 : am_code 77 7 = some (ai_getP 50 11 10) := rfl
theorem at_77_10 : am_code 77 10 = some (ai_iload 2 11) := rfl
theorem at_77_11 : am_code 77 11 = some (ai_ald 61 60 12) := rfl
theorem at_77_12 : am_code 77 12 = some (ai_icmp (fun x y => ¬ x = y) 34 15) := rfl
theorem at_77_15 : am_code 77 15 = some (ai_aload 0 16) := rfl
theorem at_77_16 : am_code 77 16 = some (ai_getP 50 12 19) := rfl
theorem at_77_19 : am_code 77 19 = some (ai_iload 1 20) := rfl
theorem at_77_20 : am_code 77 20 = some (ai_ald 62 60 21) := rfl
theorem at_77_21 : am_code 77 21 = some (ai_aload 0 22) := rfl
theorem at_77_22 : am_code 77 22 = some (ai_getP 50 12 25) := rfl
theorem at_77_25 : am_code 77 25 = some (ai_iload 2 26) := rfl
theorem at_77_26 : am_code 77 26 = some (ai_ald 62 60 27) := rfl
theorem at_77_27 : am_code 77 27 = some (ai_icmp (fun x y => ¬ x = y) 34 30) := rfl
theorem at_77_30 : am_code 77 30 = some (ai_push 1 31) := rfl
theorem at_77_31 : am_code 77 31 = some (ai_goto 35) := rfl
theorem at_77_34 : am_code 77 34 = some (ai_push 0 35) := rfl
theorem at_77_35 : am_code 77 35 = some (ai_zret) := rfl
theorem at_78_0 : am_code 78 0 = some (ai_push 5 1) := rfl
theorem at_78_1 : am_code 78 1 = some (ai_push 5 2) := rfl
theorem at_78_2 : am_code 78 2 = some (ai_iload 1 3) := rfl
theorem at_78_3 : am_code 78 3 = some (ai_bin (fun x y => x * y) 4) := rfl
theorem at_78_4 : am_code 78 4 = some (ai_iload 2 5) := rfl
theorem at_78_5 : am_code 78 5 = some (ai_bin (fun x y => x + y) 6) := rfl
theorem at_78_6 : am_code 78 6 = some (ai_bin (fun x y => x * y) 7) := rfl
theorem at_78_7 : am_code 78 7 = some (ai_iload 3 8) := rfl
theorem at_78_8 : am_code 78 8 = some (ai_bin (fun x y => x + y) 9) := rfl
theorem at_78_9 : am_code 78 9 = some (ai_istore 5 11) := rfl
theorem at_78_11 : am_code 78 11 = some (ai_aload 0 12) := rfl
theorem at_78_12 : am_code 78 12 = some (ai_getP 50 20 15) := rfl
theorem at_78_15 : am_code 78 15 = some (ai_iload 5 17) := rfl
theorem at_78_17 : am_code 78 17 = some (ai_iload 4 19) := rfl
theorem at_78_19 : am_code 78 19 = some (ai_if (fun x => ¬ x = 0) 32 22) := rfl
theorem at_78_22 : am_code 78 22 = some (ai_aload 0 23) := rfl
theorem at_78_23 : am_code 78 23 = some (ai_getP 50 19 26) := rfl
theorem at_78_26 : am_code 78 26 = some (ai_iload 5 28) := rfl
theorem at_78_28 : am_code 78 28 = some (ai_ald 69 125 29) := rfl
theorem at_78_29 : am_code 78 29 = some (ai_if (fun x => ¬ x = 0) 38 32) := rfl
theorem at_78_32 : am_code 78 32 = some (ai_push (-1000) 35) := rfl
theorem at_78_35 : am_code 78 35 = some (ai_goto 45) := rfl
theorem at_78_38 : am_code 78 38 = some (ai_aload 0 39) := rfl
theorem at_78_39 : am_code 78 39 = some (ai_getP 50 20 42) := rfl
theorem at_78_42 : am_code 78 42 = some (ai_iload 5 44) := rfl
theorem at_78_44 : am_code 78 44 = some (ai_ald 70 125 45) := rfl
theorem at_78_45 : am_code 78 45 = some (ai_ast 70 125 46) := rfl
theorem at_78_46 : am_code 78 46 = some (ai_aload 0 47) := rfl
theorem at_78_47 : am_code 78 47 = some (ai_getP 50 19 50) := rfl
theorem at_78_50 : am_code 78 50 = some (ai_iload 5 52) := rfl
theorem at_78_52 : am_code 78 52 = some (ai_push 1 53) := rfl
theorem at_78_53 : am_code 78 53 = some (ai_zast 69 125 54) := rfl
theorem at_78_54 : am_code 78 54 = some (ai_ret) := rfl
theorem at_79_0 : am_code 79 0 = some (ai_aload 0 1) := rfl
theorem at_79_1 : am_code 79 1 = some (ai_iload 3 2) := rfl
theorem at_79_2 : am_code 79 2 = some (ai_push 5 3) := rfl
theorem at_79_3 : am_code 79 3 = some (ai_iload 1 4) := rfl
theorem at_79_4 : am_code 79 4 = some (ai_bin (fun x y => x * y) 5) := rfl
theorem at_79_5 : am_code 79 5 = some (ai_iload 2 6) := rfl
theorem at_79_6 : am_code 79 6 = some (ai_bin (fun x y => x + y) 7) := rfl
theorem at_79_7 : am_code 79 7 = some (ai_callV 74 50 2 10) := rfl
theorem at_79_10 : am_code 79 10 = some (ai_push 0 11) := rfl
theorem at_79_11 : am_code 79 11 = some (ai_istore 5 13) := rfl
theorem at_79_13 : am_code 79 13 = some (ai_iload 5 15) := rfl
theorem at_79_15 : am_code 79 15 = some (ai_push 5 16) := rfl
theorem at_79_16 : am_code 79 16 = some (ai_icmp (fun x y => y ≤ x) 71 19) := rfl
theorem at_79_19 : am_code 79 19 = some (ai_aload 0 20) := rfl
theorem at_79_20 : am_code 79 20 = some (ai_getP 50 19 23) := rfl
theorem at_79_23 : am_code 79 23 = some (ai_push 5 24) := rfl
theorem at_79_24 : am_code 79 24 = some (ai_push 5 25) := rfl
theorem at_79_25 : am_code 79 25 = some (ai_iload 1 26) := rfl
theorem at_79_26 : am_code 79 26 = some (ai_bin (fun x y => x * y) 27) := rfl
theorem at_79_27 : am_code 79 27 = some (ai_iload 5 29) := rfl
theorem at_79_29 : am_code 79 29 = some (ai_bin (fun x y => x + y) 30) := rfl
theorem at_79_30 : am_code 79 30 = some (ai_bin (fun x y => x * y) 31) := rfl
theorem at_79_31 : am_code 79 31 = some (ai_iload 2 32) := rfl
theorem at_79_32 : am_code 79 32 = some (ai_bin (fun x y => x + y) 33) := rfl
theorem at_79_33 : am_code 79 33 = some (ai_push 0 34) := rfl
theorem at_79_34 : am_code 79 34 = some (ai_zast 69 125 35) := rfl
theorem at_79_35 : am_code 79 35 = some (ai_aload 0 36) := rfl
theorem at_79_36 : am_code 79 36 = some (ai_getP 50 7 39) := rfl
theorem at_79_39 : am_code 79 39 = some (ai_push 5 40) := rfl
theorem at_79_40 : am_code 79 40 = some (ai_iload 1 41) := rfl
theorem at_79_41 : am_code 79 41 = some (ai_bin (fun x y => x * y) 42) := rfl
theorem at_79_42 : am_code 79 42 = some (ai_iload 5 44) := rfl
theorem at_79_44 : am_code 79 44 = some (ai_bin (fun x y => x + y) 45) := rfl
theorem at_79_45 : am_code 79 45 = some (ai_ald 57 25 46) := rfl
theorem at_79_46 : am_code 79 46 = some (ai_if (fun x => x = 0) 65 49) := rfl
theorem at_79_49 : am_code 79 49 = some (ai_iload 5 51) := rfl
theorem at_79_51 : am_code 79 51 = some (ai_iload 4 53) := rfl
theorem at_79_53 : am_code 79 53 = some (ai_icmp (fun x y => x = y) 65 56) := rfl
theorem at_79_56 : am_code 79 56 = some (ai_aload 0 57) := rfl
theorem at_79_57 : am_code 79 57 = some (ai_iload 1 58) := rfl
theorem at_79_58 : am_code 79 58 = some (ai_iload 5 60) := rfl
theorem at_79_60 : am_code 79 60 = some (ai_iload 2 61) := rfl
theorem at_79_61 : am_code 79 61 = some (ai_push 1 62) := rfl
theorem at_79_62 : am_code 79 62 = some (ai_callV 78 50 4 65) := rfl
theorem at_79_65 : am_code 79 65 = some (ai_iinc 5 1 68) := rfl
theorem at_79_68 : am_code 79 68 = some (ai_goto 13) := rfl
theorem at_79_71 : am_code 79 71 = some (ai_ret) := rfl
theorem at_80_0 : am_code 80 0 = some (ai_aload 0 1) := rfl
theorem at_80_1 : am_code 80 1 = some (ai_getP 50 10 4) := rfl
theorem at_80_4 : am_code 80 4 = some (ai_iload 3 5) := rfl
theorem at_80_5 : am_code 80 5 = some (ai_aload 0 6) := rfl
theorem at_80_6 : am_code 80 6 = some (ai_getP 50 10 9) := rfl
theorem at_80_9 : am_code 80 9 = some (ai_iload 3 10) := rfl
theorem at_80_10 : am_code 80 10 = some (ai_ald 60 7 11) := rfl
theorem at_80_11 : am_code 80 11 = some (ai_push 1 12) := rfl
theorem at_80_12 : am_code 80 12 = some (ai_bin (fun x y => x + y) 13) := rfl
theorem at_80_13 : am_code 80 13 = some (ai_ast 60 7 14) := rfl
theorem at_80_14 : am_code 80 14 = some (ai_aload 0 15) := rfl
theorem at_80_15 : am_code 80 15 = some (ai_getP 50 3 18) := rfl
theorem at_80_18 : am_code 80 18 = some (ai_push 5 19) := rfl
theorem at_80_19 : am_code 80 19 = some (ai_iload 1 20) := rfl
theorem at_80_20 : am_code 80 20 = some (ai_bin (fun x y => x * y) 21) := rfl
theorem at_80_21 : am_code 80 21 = some (ai_iload 2 22) := rfl
theorem at_80_22 : am_code 80 22 = some (ai_bin (fun x y => x + y) 23) := rfl
theorem at_80_23 : am_code 80 23 = some (ai_ald 53 25 24) := rfl
theorem at_80_24 : am_code 80 24 = some (ai_if (fun x => 0 < x) 36 27) := rfl
theorem at_80_27 : am_code 80 27 = some (ai_aload 0 28) := rfl
theorem at_80_28 : am_code 80 28 = some (ai_getP 50 1 31) := rfl
theorem at_80_31 : am_code 80 31 = some (ai_iload 2 32) := rfl
theorem at_80_32 : am_code 80 32 = some (ai_ald 51 5 33) := rfl
theorem at_80_33 : am_code 80 33 = some (ai_if (fun x => x = 0) 40 36) := rfl
theorem at_80_36 : am_code 80 36 = some (ai_push 1 37) := rfl
theorem at_80_37 : am_code 80 37 = some (ai_goto 41) := rfl
theorem at_80_40 : am_code 80 40 = some (ai_push 0 41) := rfl
theorem at_80_41 : am_code 80 41 = some (ai_istore 4 43) := rfl
theorem at_80_43 : am_code 80 43 = some (ai_aload 0 44) := rfl
theorem at_80_44 : am_code 80 44 = some (ai_getP 50 3 47) := rfl
theorem at_80_47 : am_code 80 47 = some (ai_push 5 48) := rfl
theorem at_80_48 : am_code 80 48 = some (ai_iload 1 49) := rfl
theorem at_80_49 : am_code 80 49 = some (ai_bin (fun x y => x * y) 50) := rfl
theorem at_80_50 : am_code 80 50 = some (ai_iload 2 51) := rfl
theorem at_80_51 : am_code 80 51 = some (ai_bin (fun x y => x + y) 52) := rfl
theorem at_80_52 : am_code 80 52 = some (ai_aload 0 53) := rfl
theorem at_80_53 : am_code 80 53 = some (ai_getP 50 3 56) := rfl
theorem at_80_56 : am_code 80 56 = some (ai_push 5 57) := rfl
theorem at_80_57 : am_code 80 57 = some (ai_iload 1 58) := rfl
theorem at_80_58 : am_code 80 58 = some (ai_bin (fun x y => x * y) 59) := rfl
theorem at_80_59 : am_code 80 59 = some (ai_iload 2 60) := rfl
theorem at_80_60 : am_code 80 60 = some (ai_bin (fun x y => x + y) 61) := rfl
theorem at_80_61 : am_code 80 61 = some (ai_ald 53 25 62) := rfl
theorem at_80_62 : am_code 80 62 = some (ai_if (fun x => x ≤ 0) 80 65) := rfl
theorem at_80_65 : am_code 80 65 = some (ai_aload 0 66) := rfl
theorem at_80_66 : am_code 80 66 = some (ai_getP 50 3 69) := rfl
theorem at_80_69 : am_code 80 69 = some (ai_push 5 70) := rfl
theorem at_80_70 : am_code 80 70 = some (ai_iload 1 71) := rfl
theorem at_80_71 : am_code 80 71 = some (ai_bin (fun x y => x * y) 72) := rfl
theorem at_80_72 : am_code 80 72 = some (ai_iload 2 73) := rfl
theorem at_80_73 : am_code 80 73 = some (ai_bin (fun x y => x + y) 74) := rfl
theorem at_80_74 : am_code 80 74 = some (ai_ald 53 25 75) := rfl
theorem at_80_75 : am_code 80 75 = some (ai_push 1 76) := rfl
theorem at_80_76 : am_code 80 76 = some (ai_bin (fun x y => x - y) 77) := rfl
theorem at_80_77 : am_code 80 77 = some (ai_goto 81) := rfl
theorem at_80_80 : am_code 80 80 = some (ai_push 0 81) := rfl
theorem at_80_81 : am_code 80 81 = some (ai_ast 53 25 82) := rfl
theorem at_80_82 : am_code 80 82 = some (ai_aload 0 83) := rfl
theorem at_80_83 : am_code 80 83 = some (ai_getP 50 10 86) := rfl
theorem at_80_86 : am_code 80 86 = some (ai_push 4 87) := rfl
theorem at_80_87 : am_code 80 87 = some (ai_iload 4 89) := rfl
theorem at_80_89 : am_code 80 89 = some (ai_if (fun x => x = 0) 103 92) := rfl
theorem at_80_92 : am_code 80 92 = some (ai_aload 0 93) := rfl
theorem at_80_93 : am_code 80 93 = some (ai_getP 50 10 96) := rfl
theorem at_80_96 : am_code 80 96 = some (ai_push 4 97) := rfl
theorem at_80_97 : am_code 80 97 = some (ai_ald 60 7 98) := rfl
theorem at_80_98 : am_code 80 98 = some (ai_push 1 99) := rfl
theorem at_80_99 : am_code 80 99 = some (ai_bin (fun x y => x + y) 100) := rfl
theorem at_80_100 : am_code 80 100 = some (ai_goto 109) := rfl
theorem at_80_103 : am_code 80 103 = some (ai_aload 0 104) := rfl
theorem at_80_104 : am_code 80 104 = some (ai_getP 50 10 107) := rfl
theorem at_80_107 : am_code 80 107 = some (ai_push 4 108) := rfl
theorem at_80_108 : am_code 80 108 = some (ai_ald 60 7 109) := rfl
theorem at_80_109 : am_code 80 109 = some (ai_ast 60 7 110) := rfl
theorem at_80_110 : am_code 80 110 = some (ai_iload 4 112) := rfl
theorem at_80_112 : am_code 80 112 = some (ai_if (fun x => ¬ x = 0) 119 115) := rfl
theorem at_80_115 : am_code 80 115 = some (ai_push 1 116) := rfl
theorem at_80_116 : am_code 80 116 = some (ai_goto 120) := rfl
theorem at_80_119 : am_code 80 119 = some (ai_push 0 120) := rfl
theorem at_80_120 : am_code 80 120 = some (ai_zret) := rfl
theorem at_81_0 : am_code 81 0 = some (ai_push 0 1) := rfl
theorem at_81_1 : am_code 81 1 = some (ai_istore 1 2) := rfl
theorem at_81_2 : am_code 81 2 = some (ai_iload 1 3) := rfl
theorem at_81_3 : am_code 81 3 = some (ai_push 25 5) := rfl
theorem at_81_5 : am_code 81 5 = some (ai_icmp (fun x y => y ≤ x) 78 8) := rfl
theorem at_81_8 : am_code 81 8 = some (ai_aload 0 9) := rfl
theorem at_81_9 : am_code 81 9 = some (ai_getP 50 11 12) := rfl
theorem at_81_12 : am_code 81 12 = some (ai_iload 1 13) := rfl
theorem at_81_13 : am_code 81 13 = some (ai_ald 61 60 14) := rfl
theorem at_81_14 : am_code 81 14 = some (ai_if (fun x => x ≤ 0) 72 17) := rfl
theorem at_81_17 : am_code 81 17 = some (ai_aload 0 18) := rfl
theorem at_81_18 : am_code 81 18 = some (ai_getP 50 12 21) := rfl
theorem at_81_21 : am_code 81 21 = some (ai_iload 1 22) := rfl
theorem at_81_22 : am_code 81 22 = some (ai_ald 62 60 23) := rfl
theorem at_81_23 : am_code 81 23 = some (ai_aload 0 24) := rfl
theorem at_81_24 : am_code 81 24 = some (ai_getI 50 0 27) := rfl
theorem at_81_27 : am_code 81 27 = some (ai_push 40 29) := rfl
theorem at_81_29 : am_code 81 29 = some (ai_bin (fun x y => x - y) 30) := rfl
theorem at_81_30 : am_code 81 30 = some (ai_icmp (fun x y => y < x) 72 33) := rfl
theorem at_81_33 : am_code 81 33 = some (ai_aload 0 34) := rfl
theorem at_81_34 : am_code 81 34 = some (ai_getP 50 11 37) := rfl
theorem at_81_37 : am_code 81 37 = some (ai_iload 1 38) := rfl
theorem at_81_38 : am_code 81 38 = some (ai_push 0 39) := rfl
theorem at_81_39 : am_code 81 39 = some (ai_ast 61 60 40) := rfl
theorem at_81_40 : am_code 81 40 = some (ai_push 0 41) := rfl
theorem at_81_41 : am_code 81 41 = some (ai_istore 2 42) := rfl
theorem at_81_42 : am_code 81 42 = some (ai_iload 2 43) := rfl
theorem at_81_43 : am_code 81 43 = some (ai_push 5 44) := rfl
theorem at_81_44 : am_code 81 44 = some (ai_icmp (fun x y => y ≤ x) 72 47) := rfl
theorem at_81_47 : am_code 81 47 = some (ai_aload 0 48) := rfl
theorem at_81_48 : am_code 81 48 = some (ai_getP 50 19 51) := rfl
theorem at_81_51 : am_code 81 51 = some (ai_push 5 52) := rfl
theorem at_81_52 : am_code 81 52 = some (ai_push 5 53) := rfl
theorem at_81_53 : am_code 81 53 = some (ai_iload 1 54) := rfl
theorem at_81_54 : am_code 81 54 = some (ai_push 5 55) := rfl
theorem at_81_55 : am_code 81 55 = some (ai_div (fun x y => x / y) 56) := rfl
theorem at_81_56 : am_code 81 56 = some (ai_bin (fun x y => x * y) 57) := rfl
theorem at_81_57 : am_code 81 57 = some (ai_iload 2 58) := rfl
theorem at_81_58 : am_code 81 58 = some (ai_bin (fun x y => x + y) 59) := rfl
theorem at_81_59 : am_code 81 59 = some (ai_bin (fun x y => x * y) 60) := rfl
theorem at_81_60 : am_code 81 60 = some (ai_iload 1 61) := rfl
theorem at_81_61 : am_code 81 61 = some (ai_push 5 62) := rfl
theorem at_81_62 : am_code 81 62 = some (ai_div (fun x y => x - x / y * y) 63) := rfl
theorem at_81_63 : am_code 81 63 = some (ai_bin (fun x y => x + y) 64) := rfl
theorem at_81_64 : am_code 81 64 = some (ai_push 0 65) := rfl
theorem at_81_65 : am_code 81 65 = some (ai_zast 69 125 66) := rfl
theorem at_81_66 : am_code 81 66 = some (ai_iinc 2 1 69) := rfl
theorem at_81_69 : am_code 81 69 = some (ai_goto 42) := rfl
theorem at_81_72 : am_code 81 72 = some (ai_iinc 1 1 75) := rfl
theorem at_81_75 : am_code 81 75 = some (ai_goto 2) := rfl
theorem at_81_78 : am_code 81 78 = some (ai_ret) := rfl
theorem at_82_0 : am_code 82 0 = some (ai_push 0 1) := rfl
theorem at_82_1 : am_code 82 1 = some (ai_istore 1 2) := rfl
theorem at_82_2 : am_code 82 2 = some (ai_iload 1 3) := rfl
theorem at_82_3 : am_code 82 3 = some (ai_push 25 5) := rfl
theorem at_82_5 : am_code 82 5 = some (ai_icmp (fun x y => y ≤ x) 26 8) := rfl
theorem at_82_8 : am_code 82 8 = some (ai_aload 0 9) := rfl
theorem at_82_9 : am_code 82 9 = some (ai_getP 50 9 12) := rfl
theorem at_82_12 : am_code 82 12 = some (ai_iload 1 13) := rfl
theorem at_82_13 : am_code 82 13 = some (ai_aload 0 14) := rfl
theorem at_82_14 : am_code 82 14 = some (ai_getP 50 4 17) := rfl
theorem at_82_17 : am_code 82 17 = some (ai_iload 1 18) := rfl
theorem at_82_18 : am_code 82 18 = some (ai_ald 54 25 19) := rfl
theorem at_82_19 : am_code 82 19 = some (ai_zast 59 25 20) := rfl
theorem at_82_20 : am_code 82 20 = some (ai_iinc 1 1 23) := rfl
theorem at_82_23 : am_code 82 23 = some (ai_goto 2) := rfl
theorem at_82_26 : am_code 82 26 = some (ai_push 0 27) := rfl
theorem at_82_27 : am_code 82 27 = some (ai_istore 1 28) := rfl
theorem at_82_28 : am_code 82 28 = some (ai_iload 1 29) := rfl
theorem at_82_29 : am_code 82 29 = some (ai_push 25 31) := rfl
theorem at_82_31 : am_code 82 31 = some (ai_icmp (fun x y => y ≤ x) 117 34) := rfl
theorem at_82_34 : am_code 82 34 = some (ai_iload 1 35) := rfl
theorem at_82_35 : am_code 82 35 = some (ai_push 5 36) := rfl
theorem at_82_36 : am_code 82 36 = some (ai_div (fun x y => x / y) 37) := rfl
theorem at_82_37 : am_code 82 37 = some (ai_istore 2 38) := rfl
theorem at_82_38 : am_code 82 38 = some (ai_iload 1 39) := rfl
theorem at_82_39 : am_code 82 39 = some (ai_push 5 40) := rfl
theorem at_82_40 : am_code 82 40 = some (ai_div (fun x y => x - x / y * y) 41) := rfl
theorem at_82_41 : am_code 82 41 = some (ai_istore 3 42) := rfl
theorem at_82_42 : am_code 82 42 = some (ai_aload 0 43) := rfl
theorem at_82_43 : am_code 82 43 = some (ai_getP 50 2 46) := rfl
theorem at_82_46 : am_code 82 46 = some (ai_iload 1 47) := rfl
theorem at_82_47 : am_code 82 47 = some (ai_ald 52 25 48) := rfl
theorem at_82_48 : am_code 82 48 = some (ai_if (fun x => x ≤ 0) 111 51) := rfl
theorem at_82_51 : am_code 82 51 = some (ai_aload 0 52) := rfl
theorem at_82_52 : am_code 82 52 = some (ai_getP 50 1 55) := rfl
theorem at_82_55 : am_code 82 55 = some (ai_iload 2 56) := rfl
theorem at_82_56 : am_code 82 56 = some (ai_ald 51 5 57) := rfl
theorem at_82_57 : am_code 82 57 = some (ai_if (fun x => ¬ x = 0) 111 60) := rfl
theorem at_82_60 : am_code 82 60 = some (ai_aload 0 61) := rfl
theorem at_82_61 : am_code 82 61 = some (ai_iload 2 62) := rfl
theorem at_82_62 : am_code 82 62 = some (ai_iload 3 63) := rfl
theorem at_82_63 : am_code 82 63 = some (ai_push 0 64) := rfl
theorem at_82_64 : am_code 82 64 = some (ai_callV 80 50 3 67) := rfl
theorem at_82_67 : am_code 82 67 = some (ai_if (fun x => x = 0) 111 70) := rfl
theorem at_82_70 : am_code 82 70 = some (ai_aload 0 71) := rfl
theorem at_82_71 : am_code 82 71 = some (ai_getP 50 4 74) := rfl
theorem at_82_74 : am_code 82 74 = some (ai_push 5 75) := rfl
theorem at_82_75 : am_code 82 75 = some (ai_iload 3 76) := rfl
theorem at_82_76 : am_code 82 76 = some (ai_bin (fun x y => x * y) 77) := rfl
theorem at_82_77 : am_code 82 77 = some (ai_iload 2 78) := rfl
theorem at_82_78 : am_code 82 78 = some (ai_bin (fun x y => x + y) 79) := rfl
theorem at_82_79 : am_code 82 79 = some (ai_push 1 80) := rfl
theorem at_82_80 : am_code 82 80 = some (ai_zast 54 25 81) := rfl
theorem at_82_81 : am_code 82 81 = some (ai_aload 0 82) := rfl
theorem at_82_82 : am_code 82 82 = some (ai_getP 50 5 85) := rfl
theorem at_82_85 : am_code 82 85 = some (ai_push 5 86) := rfl
theorem at_82_86 : am_code 82 86 = some (ai_iload 3 87) := rfl
theorem at_82_87 : am_code 82 87 = some (ai_bin (fun x y => x * y) 88) := rfl
theorem at_82_88 : am_code 82 88 = some (ai_iload 2 89) := rfl
theorem at_82_89 : am_code 82 89 = some (ai_bin (fun x y => x + y) 90) := rfl
theorem at_82_90 : am_code 82 90 = some (ai_aload 0 91) := rfl
theorem at_82_91 : am_code 82 91 = some (ai_getI 50 0 94) := rfl
theorem at_82_94 : am_code 82 94 = some (ai_ast 55 25 95) := rfl
theorem at_82_95 : am_code 82 95 = some (ai_aload 0 96) := rfl
theorem at_82_96 : am_code 82 96 = some (ai_getP 50 6 99) := rfl
theorem at_82_99 : am_code 82 99 = some (ai_push 5 100) := rfl
theorem at_82_100 : am_code 82 100 = some (ai_iload 3 101) := rfl
theorem at_82_101 : am_code 82 101 = some (ai_bin (fun x y => x * y) 102) := rfl
theorem at_82_102 : am_code 82 102 = some (ai_iload 2 103) := rfl
theorem at_82_103 : am_code 82 103 = some (ai_bin (fun x y => x + y) 104) := rfl
theorem at_82_104 : am_code 82 104 = some (ai_aload 0 105) := rfl
theorem at_82_105 : am_code 82 105 = some (ai_getP 50 9 108) := rfl
theorem at_82_108 : am_code 82 108 = some (ai_iload 1 109) := rfl
theorem at_82_109 : am_code 82 109 = some (ai_ald 59 25 110) := rfl
theorem at_82_110 : am_code 82 110 = some (ai_zast 56 25 111) := rfl
theorem at_82_111 : am_code 82 111 = some (ai_iinc 1 1 114) := rfl
theorem at_82_114 : am_code 82 114 = some (ai_goto 28) := rfl
theorem at_82_117 : am_code 82 117 = some (ai_ret) := rfl
theorem at_83_0 : am_code 83 0 = some (ai_push 0 1) := rfl
theorem at_83_1 : am_code 83 1 = some (ai_istore 1 2) := rfl
theorem at_83_2 : am_code 83 2 = some (ai_iload 1 3) := rfl
theorem at_83_3 : am_code 83 3 = some (ai_push 25 5) := rfl
theorem at_83_5 : am_code 83 5 = some (ai_icmp (fun x y => y ≤ x) 152 8) := rfl
theorem at_83_8 : am_code 83 8 = some (ai_aload 0 9) := rfl
theorem at_83_9 : am_code 83 9 = some (ai_getP 50 4 12) := rfl
theorem at_83_12 : am_code 83 12 = some (ai_iload 1 13) := rfl
theorem at_83_13 : am_code 83 13 = some (ai_ald 54 25 14) := rfl
theorem at_83_14 : am_code 83 14 = some (ai_if (fun x => x = 0) 46 17) := rfl
theorem at_83_17 : am_code 83 17 = some (ai_aload 0 18) := rfl
theorem at_83_18 : am_code 83 18 = some (ai_getP 50 5 21) := rfl
theorem at_83_21 : am_code 83 21 = some (ai_iload 1 22) := rfl
theorem at_83_22 : am_code 83 22 = some (ai_ald 55 25 23) := rfl
theorem at_83_23 : am_code 83 23 = some (ai_aload 0 24) := rfl
theorem at_83_24 : am_code 83 24 = some (ai_getI 50 0 27) := rfl
theorem at_83_27 : am_code 83 27 = some (ai_push 5 28) := rfl
theorem at_83_28 : am_code 83 28 = some (ai_bin (fun x y => x - y) 29) := rfl
theorem at_83_29 : am_code 83 29 = some (ai_icmp (fun x y => y < x) 46 32) := rfl
theorem at_83_32 : am_code 83 32 = some (ai_aload 0 33) := rfl
theorem at_83_33 : am_code 83 33 = some (ai_getP 50 4 36) := rfl
theorem at_83_36 : am_code 83 36 = some (ai_iload 1 37) := rfl
theorem at_83_37 : am_code 83 37 = some (ai_push 0 38) := rfl
theorem at_83_38 : am_code 83 38 = some (ai_zast 54 25 39) := rfl
theorem at_83_39 : am_code 83 39 = some (ai_aload 0 40) := rfl
theorem at_83_40 : am_code 83 40 = some (ai_getP 50 6 43) := rfl
theorem at_83_43 : am_code 83 43 = some (ai_iload 1 44) := rfl
theorem at_83_44 : am_code 83 44 = some (ai_push 0 45) := rfl
theorem at_83_45 : am_code 83 45 = some (ai_zast 56 25 46) := rfl
theorem at_83_46 : am_code 83 46 = some (ai_aload 0 47) := rfl
theorem at_83_47 : am_code 83 47 = some (ai_getP 50 4 50) := rfl
theorem at_83_50 : am_code 83 50 = some (ai_iload 1 51) := rfl
theorem at_83_51 : am_code 83 51 = some (ai_ald 54 25 52) := rfl
theorem at_83_52 : am_code 83 52 = some (ai_if (fun x => x = 0) 68 55) := rfl
theorem at_83_55 : am_code 83 55 = some (ai_aload 0 56) := rfl
theorem at_83_56 : am_code 83 56 = some (ai_getP 50 6 59) := rfl
theorem at_83_59 : am_code 83 59 = some (ai_iload 1 60) := rfl
theorem at_83_60 : am_code 83 60 = some (ai_ald 56 25 61) := rfl
theorem at_83_61 : am_code 83 61 = some (ai_if (fun x => x = 0) 68 64) := rfl
theorem at_83_64 : am_code 83 64 = some (ai_push 1 65) := rfl
theorem at_83_65 : am_code 83 65 = some (ai_goto 69) := rfl
theorem at_83_68 : am_code 83 68 = some (ai_push 0 69) := rfl
theorem at_83_69 : am_code 83 69 = some (ai_istore 2 70) := rfl
theorem at_83_70 : am_code 83 70 = some (ai_aload 0 71) := rfl
theorem at_83_71 : am_code 83 71 = some (ai_getP 50 8 74) := rfl
theorem at_83_74 : am_code 83 74 = some (ai_iload 1 75) := rfl
theorem at_83_75 : am_code 83 75 = some (ai_iload 2 76) := rfl
theorem at_83_76 : am_code 83 76 = some (ai_if (fun x => x = 0) 92 79) := rfl
theorem at_83_79 : am_code 83 79 = some (ai_aload 0 80) := rfl
theorem at_83_80 : am_code 83 80 = some (ai_getP 50 7 83) := rfl
theorem at_83_83 : am_code 83 83 = some (ai_iload 1 84) := rfl
theorem at_83_84 : am_code 83 84 = some (ai_ald 57 25 85) := rfl
theorem at_83_85 : am_code 83 85 = some (ai_if (fun x => ¬ x = 0) 92 88) := rfl
theorem at_83_88 : am_code 83 88 = some (ai_push 1 89) := rfl
theorem at_83_89 : am_code 83 89 = some (ai_goto 93) := rfl
theorem at_83_92 : am_code 83 92 = some (ai_push 0 93) := rfl
theorem at_83_93 : am_code 83 93 = some (ai_zast 58 25 94) := rfl
theorem at_83_94 : am_code 83 94 = some (ai_aload 0 95) := rfl
theorem at_83_95 : am_code 83 95 = some (ai_getP 50 7 98) := rfl
theorem at_83_98 : am_code 83 98 = some (ai_iload 1 99) := rfl
theorem at_83_99 : am_code 83 99 = some (ai_iload 2 100) := rfl
theorem at_83_100 : am_code 83 100 = some (ai_zast 57 25 101) := rfl
theorem at_83_101 : am_code 83 101 = some (ai_push 0 102) := rfl
theorem at_83_102 : am_code 83 102 = some (ai_istore 3 103) := rfl
theorem at_83_103 : am_code 83 103 = some (ai_iload 3 104) := rfl
theorem at_83_104 : am_code 83 104 = some (ai_push 5 105) := rfl
theorem at_83_105 : am_code 83 105 = some (ai_icmp (fun x y => y ≤ x) 146 108) := rfl
theorem at_83_108 : am_code 83 108 = some (ai_aload 0 109) := rfl
theorem at_83_109 : am_code 83 109 = some (ai_getP 50 19 112) := rfl
theorem at_83_112 : am_code 83 112 = some (ai_push 5 113) := rfl
theorem at_83_113 : am_code 83 113 = some (ai_iload 1 114) := rfl
theorem at_83_114 : am_code 83 114 = some (ai_bin (fun x y => x * y) 115) := rfl
theorem at_83_115 : am_code 83 115 = some (ai_iload 3 116) := rfl
theorem at_83_116 : am_code 83 116 = some (ai_bin (fun x y => x + y) 117) := rfl
theorem at_83_117 : am_code 83 117 = some (ai_aload 0 118) := rfl
theorem at_83_118 : am_code 83 118 = some (ai_getP 50 19 121) := rfl
theorem at_83_121 : am_code 83 121 = some (ai_push 5 122) := rfl
theorem at_83_122 : am_code 83 122 = some (ai_iload 1 123) := rfl
theorem at_83_123 : am_code 83 123 = some (ai_bin (fun x y => x * y) 124) := rfl
theorem at_83_124 : am_code 83 124 = some (ai_iload 3 125) := rfl
theorem at_83_125 : am_code 83 125 = some (ai_bin (fun x y => x + y) 126) := rfl
theorem at_83_126 : am_code 83 126 = some (ai_ald 69 125 127) := rfl
theorem at_83_127 : am_code 83 127 = some (ai_if (fun x => x = 0) 138 130) := rfl
theorem at_83_130 : am_code 83 130 = some (ai_iload 2 131) := rfl
theorem at_83_131 : am_code 83 131 = some (ai_if (fun x => x = 0) 138 134) := rfl
theorem at_83_134 : am_code 83 134 = some (ai_push 1 135) := rfl
theorem at_83_135 : am_code 83 135 = some (ai_goto 139) := rfl
theorem at_83_138 : am_code 83 138 = some (ai_push 0 139) := rfl
theorem at_83_139 : am_code 83 139 = some (ai_zast 69 125 140) := rfl
theorem at_83_140 : am_code 83 140 = some (ai_iinc 3 1 143) := rfl
theorem at_83_143 : am_code 83 143 = some (ai_goto 103) := rfl
theorem at_83_146 : am_code 83 146 = some (ai_iinc 1 1 149) := rfl
theorem at_83_149 : am_code 83 149 = some (ai_goto 2) := rfl
theorem at_83_152 : am_code 83 152 = some (ai_push 0 153) := rfl
theorem at_83_153 : am_code 83 153 = some (ai_istore 1 154) := rfl
theorem at_83_154 : am_code 83 154 = some (ai_iload 1 155) := rfl
theorem at_83_155 : am_code 83 155 = some (ai_push 25 157) := rfl
theorem at_83_157 : am_code 83 157 = some (ai_icmp (fun x y => y ≤ x) 223 160) := rfl
theorem at_83_160 : am_code 83 160 = some (ai_push 5 161) := rfl
theorem at_83_161 : am_code 83 161 = some (ai_iload 1 162) := rfl
theorem at_83_162 : am_code 83 162 = some (ai_push 5 163) := rfl
theorem at_83_163 : am_code 83 163 = some (ai_div (fun x y => x - x / y * y) 164) := rfl
theorem at_83_164 : am_code 83 164 = some (ai_bin (fun x y => x * y) 165) := rfl
theorem at_83_165 : am_code 83 165 = some (ai_iload 1 166) := rfl
theorem at_83_166 : am_code 83 166 = some (ai_push 5 167) := rfl
theorem at_83_167 : am_code 83 167 = some (ai_div (fun x y => x / y) 168) := rfl
theorem at_83_168 : am_code 83 168 = some (ai_bin (fun x y => x + y) 169) := rfl
theorem at_83_169 : am_code 83 169 = some (ai_istore 2 170) := rfl
theorem at_83_170 : am_code 83 170 = some (ai_aload 0 171) := rfl
theorem at_83_171 : am_code 83 171 = some (ai_getP 50 8 174) := rfl
theorem at_83_174 : am_code 83 174 = some (ai_iload 1 175) := rfl
theorem at_83_175 : am_code 83 175 = some (ai_ald 58 25 176) := rfl
theorem at_83_176 : am_code 83 176 = some (ai_if (fun x => x = 0) 189 179) := rfl
theorem at_83_179 : am_code 83 179 = some (ai_aload 0 180) := rfl
theorem at_83_180 : am_code 83 180 = some (ai_iload 1 181) := rfl
theorem at_83_181 : am_code 83 181 = some (ai_push 5 182) := rfl
theorem at_83_182 : am_code 83 182 = some (ai_div (fun x y => x / y) 183) := rfl
theorem at_83_183 : am_code 83 183 = some (ai_iload 1 184) := rfl
theorem at_83_184 : am_code 83 184 = some (ai_push 5 185) := rfl
theorem at_83_185 : am_code 83 185 = some (ai_div (fun x y => x - x / y * y) 186) := rfl
theorem at_83_186 : am_code 83 186 = some (ai_callV 84 50 2 189) := rfl
theorem at_83_189 : am_code 83 189 = some (ai_aload 0 190) := rfl
theorem at_83_190 : am_code 83 190 = some (ai_getP 50 8 193) := rfl
theorem at_83_193 : am_code 83 193 = some (ai_iload 1 194) := rfl
theorem at_83_194 : am_code 83 194 = some (ai_ald 58 25 195) := rfl
theorem at_83_195 : am_code 83 195 = some (ai_if (fun x => x = 0) 217 198) := rfl
theorem at_83_198 : am_code 83 198 = some (ai_aload 0 199) := rfl
theorem at_83_199 : am_code 83 199 = some (ai_getP 50 7 202) := rfl
theorem at_83_202 : am_code 83 202 = some (ai_iload 2 203) := rfl
theorem at_83_203 : am_code 83 203 = some (ai_ald 57 25 204) := rfl
theorem at_83_204 : am_code 83 204 = some (ai_if (fun x => x = 0) 217 207) := rfl
theorem at_83_207 : am_code 83 207 = some (ai_aload 0 208) := rfl
theorem at_83_208 : am_code 83 208 = some (ai_iload 1 209) := rfl
theorem at_83_209 : am_code 83 209 = some (ai_push 5 210) := rfl
theorem at_83_210 : am_code 83 210 = some (ai_div (fun x y => x - x / y * y) 211) := rfl
theorem at_83_211 : am_code 83 211 = some (ai_iload 1 212) := rfl
theorem at_83_212 : am_code 83 212 = some (ai_push 5 213) := rfl
theorem at_83_213 : am_code 83 213 = some (ai_div (fun x y => x / y) 214) := rfl
theorem at_83_214 : am_code 83 214 = some (ai_callV 84 50 2 217) := rfl
theorem at_83_217 : am_code 83 217 = some (ai_iinc 1 1 220) := rfl
theorem at_83_220 : am_code 83 220 = some (ai_goto 154) := rfl
theorem at_83_223 : am_code 83 223 = some (ai_ret) := rfl
theorem at_84_0 : am_code 84 0 = some (ai_push 0 1) := rfl
theorem at_84_1 : am_code 84 1 = some (ai_istore 3 2) := rfl
theorem at_84_2 : am_code 84 2 = some (ai_iload 3 3) := rfl
theorem at_84_3 : am_code 84 3 = some (ai_push 5 4) := rfl
theorem at_84_4 : am_code 84 4 = some (ai_icmp (fun x y => y ≤ x) 51 7) := rfl
theorem at_84_7 : am_code 84 7 = some (ai_aload 0 8) := rfl
theorem at_84_8 : am_code 84 8 = some (ai_getP 50 11 11) := rfl
theorem at_84_11 : am_code 84 11 = some (ai_push 5 12) := rfl
theorem at_84_12 : am_code 84 12 = some (ai_iload 1 13) := rfl
theorem at_84_13 : am_code 84 13 = some (ai_bin (fun x y => x * y) 14) := rfl
theorem at_84_14 : am_code 84 14 = some (ai_iload 3 15) := rfl
theorem at_84_15 : am_code 84 15 = some (ai_bin (fun x y => x + y) 16) := rfl
theorem at_84_16 : am_code 84 16 = some (ai_ald 61 60 17) := rfl
theorem at_84_17 : am_code 84 17 = some (ai_if (fun x => x ≤ 0) 45 20) := rfl
theorem at_84_20 : am_code 84 20 = some (ai_aload 0 21) := rfl
theorem at_84_21 : am_code 84 21 = some (ai_push 5 22) := rfl
theorem at_84_22 : am_code 84 22 = some (ai_iload 2 23) := rfl
theorem at_84_23 : am_code 84 23 = some (ai_bin (fun x y => x * y) 24) := rfl
theorem at_84_24 : am_code 84 24 = some (ai_iload 3 25) := rfl
theorem at_84_25 : am_code 84 25 = some (ai_bin (fun x y => x + y) 26) := rfl
theorem at_84_26 : am_code 84 26 = some (ai_push 5 27) := rfl
theorem at_84_27 : am_code 84 27 = some (ai_iload 1 28) := rfl
theorem at_84_28 : am_code 84 28 = some (ai_bin (fun x y => x * y) 29) := rfl
theorem at_84_29 : am_code 84 29 = some (ai_iload 3 30) := rfl
theorem at_84_30 : am_code 84 30 = some (ai_bin (fun x y => x + y) 31) := rfl
theorem at_84_31 : am_code 84 31 = some (ai_callV 76 50 2 34) := rfl
theorem at_84_34 : am_code 84 34 = some (ai_if (fun x => x = 0) 45 37) := rfl
theorem at_84_37 : am_code 84 37 = some (ai_aload 0 38) := rfl
theorem at_84_38 : am_code 84 38 = some (ai_iload 1 39) := rfl
theorem at_84_39 : am_code 84 39 = some (ai_iload 2 40) := rfl
theorem at_84_40 : am_code 84 40 = some (ai_iload 3 41) := rfl
theorem at_84_41 : am_code 84 41 = some (ai_push 0 42) := rfl
theorem at_84_42 : am_code 84 42 = some (ai_callV 78 50 4 45) := rfl
theorem at_84_45 : am_code 84 45 = some (ai_iinc 3 1 48) := rfl
theorem at_84_48 : am_code 84 48 = some (ai_goto 2) := rfl
theorem at_84_51 : am_code 84 51 = some (ai_ret) := rfl
theorem at_85_0 : am_code 85 0 = some (ai_push 55 2) := rfl
theorem at_85_2 : am_code 85 2 = some (ai_iload 1 3) := rfl
theorem at_85_3 : am_code 85 3 = some (ai_bin (fun x y => x + y) 4) := rfl
theorem at_85_4 : am_code 85 4 = some (ai_istore 2 5) := rfl
theorem at_85_5 : am_code 85 5 = some (ai_push 50 7) := rfl
theorem at_85_7 : am_code 85 7 = some (ai_iload 1 8) := rfl
theorem at_85_8 : am_code 85 8 = some (ai_bin (fun x y => x + y) 9) := rfl
theorem at_85_9 : am_code 85 9 = some (ai_istore 3 10) := rfl
theorem at_85_10 : am_code 85 10 = some (ai_push 0 11) := rfl
theorem at_85_11 : am_code 85 11 = some (ai_istore 4 13) := rfl
theorem at_85_13 : am_code 85 13 = some (ai_iload 4 15) := rfl
theorem at_85_15 : am_code 85 15 = some (ai_push 5 16) := rfl
theorem at_85_16 : am_code 85 16 = some (ai_icmp (fun x y => y ≤ x) 65 19) := rfl
theorem at_85_19 : am_code 85 19 = some (ai_aload 0 20) := rfl
theorem at_85_20 : am_code 85 20 = some (ai_getP 50 13 23) := rfl
theorem at_85_23 : am_code 85 23 = some (ai_push 5 24) := rfl
theorem at_85_24 : am_code 85 24 = some (ai_iload 2 25) := rfl
theorem at_85_25 : am_code 85 25 = some (ai_bin (fun x y => x * y) 26) := rfl
theorem at_85_26 : am_code 85 26 = some (ai_iload 4 28) := rfl
theorem at_85_28 : am_code 85 28 = some (ai_bin (fun x y => x + y) 29) := rfl
theorem at_85_29 : am_code 85 29 = some (ai_aload 0 30) := rfl
theorem at_85_30 : am_code 85 30 = some (ai_getP 50 7 33) := rfl
theorem at_85_33 : am_code 85 33 = some (ai_push 5 34) := rfl
theorem at_85_34 : am_code 85 34 = some (ai_iload 1 35) := rfl
theorem at_85_35 : am_code 85 35 = some (ai_bin (fun x y => x * y) 36) := rfl
theorem at_85_36 : am_code 85 36 = some (ai_iload 4 38) := rfl
theorem at_85_38 : am_code 85 38 = some (ai_bin (fun x y => x + y) 39) := rfl
theorem at_85_39 : am_code 85 39 = some (ai_ald 57 25 40) := rfl
theorem at_85_40 : am_code 85 40 = some (ai_if (fun x => x = 0) 57 43) := rfl
theorem at_85_43 : am_code 85 43 = some (ai_aload 0 44) := rfl
theorem at_85_44 : am_code 85 44 = some (ai_getP 50 2 47) := rfl
theorem at_85_47 : am_code 85 47 = some (ai_push 5 48) := rfl
theorem at_85_48 : am_code 85 48 = some (ai_iload 1 49) := rfl
theorem at_85_49 : am_code 85 49 = some (ai_bin (fun x y => x * y) 50) := rfl
theorem at_85_50 : am_code 85 50 = some (ai_iload 4 52) := rfl
theorem at_85_52 : am_code 85 52 = some (ai_bin (fun x y => x + y) 53) := rfl
theorem at_85_53 : am_code 85 53 = some (ai_ald 52 25 54) := rfl
theorem at_85_54 : am_code 85 54 = some (ai_goto 58) := rfl
theorem at_85_57 : am_code 85 57 = some (ai_push 0 58) := rfl
theorem at_85_58 : am_code 85 58 = some (ai_ast 63 300 59) := rfl
theorem at_85_59 : am_code 85 59 = some (ai_iinc 4 1 62) := rfl
theorem at_85_62 : am_code 85 62 = some (ai_goto 13) := rfl
theorem at_85_65 : am_code 85 65 = some (ai_aload 0 66) := rfl
theorem at_85_66 : am_code 85 66 = some (ai_iload 2 67) := rfl
theorem at_85_67 : am_code 85 67 = some (ai_iload 3 68) := rfl
theorem at_85_68 : am_code 85 68 = some (ai_callV 75 50 2 71) := rfl
theorem at_85_71 : am_code 85 71 = some (ai_if (fun x => x = 0) 99 74) := rfl
theorem at_85_74 : am_code 85 74 = some (ai_aload 0 75) := rfl
theorem at_85_75 : am_code 85 75 = some (ai_getP 50 12 78) := rfl
theorem at_85_78 : am_code 85 78 = some (ai_iload 3 79) := rfl
theorem at_85_79 : am_code 85 79 = some (ai_ald 62 60 80) := rfl
theorem at_85_80 : am_code 85 80 = some (ai_aload 0 81) := rfl
theorem at_85_81 : am_code 85 81 = some (ai_getI 50 0 84) := rfl
theorem at_85_84 : am_code 85 84 = some (ai_push 20 86) := rfl
theorem at_85_86 : am_code 85 86 = some (ai_bin (fun x y => x - y) 87) := rfl
theorem at_85_87 : am_code 85 87 = some (ai_icmp (fun x y => x ≤ y) 99 90) := rfl
theorem at_85_90 : am_code 85 90 = some (ai_aload 0 91) := rfl
theorem at_85_91 : am_code 85 91 = some (ai_getP 50 18 94) := rfl
theorem at_85_94 : am_code 85 94 = some (ai_iload 1 95) := rfl
theorem at_85_95 : am_code 85 95 = some (ai_ald 68 5 96) := rfl
theorem at_85_96 : am_code 85 96 = some (ai_if (fun x => x = 0) 103 99) := rfl
theorem at_85_99 : am_code 85 99 = some (ai_push 1 100) := rfl
theorem at_85_100 : am_code 85 100 = some (ai_goto 104) := rfl
theorem at_85_103 : am_code 85 103 = some (ai_push 0 104) := rfl
theorem at_85_104 : am_code 85 104 = some (ai_istore 4 106) := rfl
theorem at_85_106 : am_code 85 106 = some (ai_aload 0 107) := rfl
theorem at_85_107 : am_code 85 107 = some (ai_getP 50 11 110) := rfl
theorem at_85_110 : am_code 85 110 = some (ai_iload 3 111) := rfl
theorem at_85_111 : am_code 85 111 = some (ai_ald 61 60 112) := rfl
theorem at_85_112 : am_code 85 112 = some (ai_if (fun x => x = 0) 135 115) := rfl
theorem at_85_115 : am_code 85 115 = some (ai_aload 0 116) := rfl
theorem at_85_116 : am_code 85 116 = some (ai_getP 50 12 119) := rfl
theorem at_85_119 : am_code 85 119 = some (ai_iload 3 120) := rfl
theorem at_85_120 : am_code 85 120 = some (ai_ald 62 60 121) := rfl
theorem at_85_121 : am_code 85 121 = some (ai_aload 0 122) := rfl
theorem at_85_122 : am_code 85 122 = some (ai_getI 50 0 125) := rfl
theorem at_85_125 : am_code 85 125 = some (ai_push 2 126) := rfl
theorem at_85_126 : am_code 85 126 = some (ai_bin (fun x y => x - y) 127) := rfl
theorem at_85_127 : am_code 85 127 = some (ai_icmp (fun x y => y < x) 139 130) := rfl
theorem at_85_130 : am_code 85 130 = some (ai_iload 4 132) := rfl
theorem at_85_132 : am_code 85 132 = some (ai_if (fun x => x = 0) 139 135) := rfl
theorem at_85_135 : am_code 85 135 = some (ai_push 1 136) := rfl
theorem at_85_136 : am_code 85 136 = some (ai_goto 140) := rfl
theorem at_85_139 : am_code 85 139 = some (ai_push 0 140) := rfl
theorem at_85_140 : am_code 85 140 = some (ai_istore 5 142) := rfl
theorem at_85_142 : am_code 85 142 = some (ai_aload 0 143) := rfl
theorem at_85_143 : am_code 85 143 = some (ai_getP 50 1 146) := rfl
theorem at_85_146 : am_code 85 146 = some (ai_iload 1 147) := rfl
theorem at_85_147 : am_code 85 147 = some (ai_ald 51 5 148) := rfl
theorem at_85_148 : am_code 85 148 = some (ai_if (fun x => ¬ x = 0) 156 151) := rfl
theorem at_85_151 : am_code 85 151 = some (ai_iload 5 153) := rfl
theorem at_85_153 : am_code 85 153 = some (ai_if (fun x => ¬ x = 0) 157 156) := rfl
theorem at_85_156 : am_code 85 156 = some (ai_ret) := rfl
theorem at_85_157 : am_code 85 157 = some (ai_aload 0 158) := rfl
theorem at_85_158 : am_code 85 158 = some (ai_getP 50 17 161) := rfl
theorem at_85_161 : am_code 85 161 = some (ai_iload 1 162) := rfl
theorem at_85_162 : am_code 85 162 = some (ai_aload 0 163) := rfl
theorem at_85_163 : am_code 85 163 = some (ai_getP 50 17 166) := rfl
theorem at_85_166 : am_code 85 166 = some (ai_iload 1 167) := rfl
theorem at_85_167 : am_code 85 167 = some (ai_ald 67 5 168) := rfl
theorem at_85_168 : am_code 85 168 = some (ai_push 1 169) := rfl
theorem at_85_169 : am_code 85 169 = some (ai_bin (fun x y => x + y) 170) := rfl
theorem at_85_170 : am_code 85 170 = some (ai_ast 67 5 171) := rfl
theorem at_85_171 : am_code 85 171 = some (ai_aload 0 172) := rfl
theorem at_85_172 : am_code 85 172 = some (ai_getP 50 11 175) := rfl
theorem at_85_175 : am_code 85 175 = some (ai_iload 2 176) := rfl
theorem at_85_176 : am_code 85 176 = some (ai_aload 0 177) := rfl
theorem at_85_177 : am_code 85 177 = some (ai_getP 50 17 180) := rfl
theorem at_85_180 : am_code 85 180 = some (ai_iload 1 181) := rfl
theorem at_85_181 : am_code 85 181 = some (ai_ald 67 5 182) := rfl
theorem at_85_182 : am_code 85 182 = some (ai_ast 61 60 183) := rfl
theorem at_85_183 : am_code 85 183 = some (ai_aload 0 184) := rfl
theorem at_85_184 : am_code 85 184 = some (ai_getP 50 12 187) := rfl
theorem at_85_187 : am_code 85 187 = some (ai_iload 2 188) := rfl
theorem at_85_188 : am_code 85 188 = some (ai_aload 0 189) := rfl
theorem at_85_189 : am_code 85 189 = some (ai_getI 50 0 192) := rfl
theorem at_85_192 : am_code 85 192 = some (ai_ast 62 60 193) := rfl
theorem at_85_193 : am_code 85 193 = some (ai_aload 0 194) := rfl
theorem at_85_194 : am_code 85 194 = some (ai_iload 2 195) := rfl
theorem at_85_195 : am_code 85 195 = some (ai_iload 3 196) := rfl
theorem at_85_196 : am_code 85 196 = some (ai_callV 74 50 2 199) := rfl
theorem at_85_199 : am_code 85 199 = some (ai_aload 0 200) := rfl
theorem at_85_200 : am_code 85 200 = some (ai_getP 50 18 203) := rfl
theorem at_85_203 : am_code 85 203 = some (ai_iload 1 204) := rfl
theorem at_85_204 : am_code 85 204 = some (ai_push 0 205) := rfl
theorem at_85_205 : am_code 85 205 = some (ai_zast 68 5 206) := rfl
theorem at_85_206 : am_code 85 206 = some (ai_aload 0 207) := rfl
theorem at_85_207 : am_code 85 207 = some (ai_getP 50 10 210) := rfl
theorem at_85_210 : am_code 85 210 = some (ai_push 5 211) := rfl
theorem at_85_211 : am_code 85 211 = some (ai_aload 0 212) := rfl
theorem at_85_212 : am_code 85 212 = some (ai_getP 50 10 215) := rfl
theorem at_85_215 : am_code 85 215 = some (ai_push 5 216) := rfl
theorem at_85_216 : am_code 85 216 = some (ai_ald 60 7 217) := rfl
theorem at_85_217 : am_code 85 217 = some (ai_push 1 218) := rfl
theorem at_85_218 : am_code 85 218 = some (ai_bin (fun x y => x + y) 219) := rfl
theorem at_85_219 : am_code 85 219 = some (ai_ast 60 7 220) := rfl
theorem at_85_220 : am_code 85 220 = some (ai_aload 0 221) := rfl
theorem at_85_221 : am_code 85 221 = some (ai_iload 1 222) := rfl
theorem at_85_222 : am_code 85 222 = some (ai_iload 1 223) := rfl
theorem at_85_223 : am_code 85 223 = some (ai_iload 2 224) := rfl
theorem at_85_224 : am_code 85 224 = some (ai_iload 1 225) := rfl
theorem at_85_225 : am_code 85 225 = some (ai_callV 79 50 4 228) := rfl
theorem at_85_228 : am_code 85 228 = some (ai_ret) := rfl
theorem at_86_0 : am_code 86 0 = some (ai_push 0 1) := rfl
theorem at_86_1 : am_code 86 1 = some (ai_istore 1 2) := rfl
theorem at_86_2 : am_code 86 2 = some (ai_iload 1 3) := rfl
theorem at_86_3 : am_code 86 3 = some (ai_push 25 5) := rfl
theorem at_86_5 : am_code 86 5 = some (ai_icmp (fun x y => y ≤ x) 23 8) := rfl
theorem at_86_8 : am_code 86 8 = some (ai_aload 0 9) := rfl
theorem at_86_9 : am_code 86 9 = some (ai_iload 1 10) := rfl
theorem at_86_10 : am_code 86 10 = some (ai_push 25 12) := rfl
theorem at_86_12 : am_code 86 12 = some (ai_iload 1 13) := rfl
theorem at_86_13 : am_code 86 13 = some (ai_bin (fun x y => x + y) 14) := rfl
theorem at_86_14 : am_code 86 14 = some (ai_callV 74 50 2 17) := rfl
theorem at_86_17 : am_code 86 17 = some (ai_iinc 1 1 20) := rfl
theorem at_86_20 : am_code 86 20 = some (ai_goto 2) := rfl
theorem at_86_23 : am_code 86 23 = some (ai_push 0 24) := rfl
theorem at_86_24 : am_code 86 24 = some (ai_istore 1 25) := rfl
theorem at_86_25 : am_code 86 25 = some (ai_iload 1 26) := rfl
theorem at_86_26 : am_code 86 26 = some (ai_push 25 28) := rfl
theorem at_86_28 : am_code 86 28 = some (ai_icmp (fun x y => y ≤ x) 198 31) := rfl
theorem at_86_31 : am_code 86 31 = some (ai_push 0 32) := rfl
theorem at_86_32 : am_code 86 32 = some (ai_istore 2 33) := rfl
theorem at_86_33 : am_code 86 33 = some (ai_push 0 34) := rfl
theorem at_86_34 : am_code 86 34 = some (ai_istore 3 35) := rfl
theorem at_86_35 : am_code 86 35 = some (ai_iload 3 36) := rfl
theorem at_86_36 : am_code 86 36 = some (ai_push 5 37) := rfl
theorem at_86_37 : am_code 86 37 = some (ai_icmp (fun x y => y ≤ x) 149 40) := rfl
theorem at_86_40 : am_code 86 40 = some (ai_push 5 41) := rfl
theorem at_86_41 : am_code 86 41 = some (ai_iload 1 42) := rfl
theorem at_86_42 : am_code 86 42 = some (ai_bin (fun x y => x * y) 43) := rfl
theorem at_86_43 : am_code 86 43 = some (ai_iload 3 44) := rfl
theorem at_86_44 : am_code 86 44 = some (ai_bin (fun x y => x + y) 45) := rfl
theorem at_86_45 : am_code 86 45 = some (ai_istore 4 47) := rfl
theorem at_86_47 : am_code 86 47 = some (ai_aload 0 48) := rfl
theorem at_86_48 : am_code 86 48 = some (ai_getP 50 21 51) := rfl
theorem at_86_51 : am_code 86 51 = some (ai_iload 4 53) := rfl
theorem at_86_53 : am_code 86 53 = some (ai_aload 0 54) := rfl
theorem at_86_54 : am_code 86 54 = some (ai_getP 50 7 57) := rfl
theorem at_86_57 : am_code 86 57 = some (ai_iload 1 58) := rfl
theorem at_86_58 : am_code 86 58 = some (ai_ald 57 25 59) := rfl
theorem at_86_59 : am_code 86 59 = some (ai_if (fun x => x = 0) 92 62) := rfl
theorem at_86_62 : am_code 86 62 = some (ai_aload 0 63) := rfl
theorem at_86_63 : am_code 86 63 = some (ai_getP 50 19 66) := rfl
theorem at_86_66 : am_code 86 66 = some (ai_iload 4 68) := rfl
theorem at_86_68 : am_code 86 68 = some (ai_ald 69 125 69) := rfl
theorem at_86_69 : am_code 86 69 = some (ai_if (fun x => x = 0) 92 72) := rfl
theorem at_86_72 : am_code 86 72 = some (ai_aload 0 73) := rfl
theorem at_86_73 : am_code 86 73 = some (ai_getP 50 20 76) := rfl
theorem at_86_76 : am_code 86 76 = some (ai_iload 4 78) := rfl
theorem at_86_78 : am_code 86 78 = some (ai_ald 70 125 79) := rfl
theorem at_86_79 : am_code 86 79 = some (ai_aload 0 80) := rfl
theorem at_86_80 : am_code 86 80 = some (ai_getI 50 0 83) := rfl
theorem at_86_83 : am_code 86 83 = some (ai_push 3 84) := rfl
theorem at_86_84 : am_code 86 84 = some (ai_bin (fun x y => x - y) 85) := rfl
theorem at_86_85 : am_code 86 85 = some (ai_icmp (fun x y => y < x) 92 88) := rfl
theorem at_86_88 : am_code 86 88 = some (ai_push 1 89) := rfl
theorem at_86_89 : am_code 86 89 = some (ai_goto 93) := rfl
theorem at_86_92 : am_code 86 92 = some (ai_push 0 93) := rfl
theorem at_86_93 : am_code 86 93 = some (ai_zast 71 125 94) := rfl
theorem at_86_94 : am_code 86 94 = some (ai_aload 0 95) := rfl
theorem at_86_95 : am_code 86 95 = some (ai_getP 50 20 98) := rfl
theorem at_86_98 : am_code 86 98 = some (ai_iload 4 100) := rfl
theorem at_86_100 : am_code 86 100 = some (ai_aload 0 101) := rfl
theorem at_86_101 : am_code 86 101 = some (ai_getP 50 21 104) := rfl
theorem at_86_104 : am_code 86 104 = some (ai_iload 4 106) := rfl
theorem at_86_106 : am_code 86 106 = some (ai_ald 71 125 107) := rfl
theorem at_86_107 : am_code 86 107 = some (ai_if (fun x => x = 0) 117 110) := rfl
theorem at_86_110 : am_code 86 110 = some (ai_aload 0 111) := rfl
theorem at_86_111 : am_code 86 111 = some (ai_getI 50 0 114) := rfl
theorem at_86_114 : am_code 86 114 = some (ai_goto 124) := rfl
theorem at_86_117 : am_code 86 117 = some (ai_aload 0 118) := rfl
theorem at_86_118 : am_code 86 118 = some (ai_getP 50 20 121) := rfl
theorem at_86_121 : am_code 86 121 = some (ai_iload 4 123) := rfl
theorem at_86_123 : am_code 86 123 = some (ai_ald 70 125 124) := rfl
theorem at_86_124 : am_code 86 124 = some (ai_ast 70 125 125) := rfl
theorem at_86_125 : am_code 86 125 = some (ai_aload 0 126) := rfl
theorem at_86_126 : am_code 86 126 = some (ai_getP 50 21 129) := rfl
theorem at_86_129 : am_code 86 129 = some (ai_iload 4 131) := rfl
theorem at_86_131 : am_code 86 131 = some (ai_ald 71 125 132) := rfl
theorem at_86_132 : am_code 86 132 = some (ai_if (fun x => x = 0) 141 135) := rfl
theorem at_86_135 : am_code 86 135 = some (ai_iload 2 136) := rfl
theorem at_86_136 : am_code 86 136 = some (ai_push 1 137) := rfl
theorem at_86_137 : am_code 86 137 = some (ai_bin (fun x y => x + y) 138) := rfl
theorem at_86_138 : am_code 86 138 = some (ai_goto 142) := rfl
theorem at_86_141 : am_code 86 141 = some (ai_iload 2 142) := rfl
theorem at_86_142 : am_code 86 142 = some (ai_istore 2 143) := rfl
theorem at_86_143 : am_code 86 143 = some (ai_iinc 3 1 146) := rfl
theorem at_86_146 : am_code 86 146 = some (ai_goto 35) := rfl
theorem at_86_149 : am_code 86 149 = some (ai_aload 0 150) := rfl
theorem at_86_150 : am_code 86 150 = some (ai_getP 50 10 153) := rfl
theorem at_86_153 : am_code 86 153 = some (ai_push 2 154) := rfl
theorem at_86_154 : am_code 86 154 = some (ai_aload 0 155) := rfl
theorem at_86_155 : am_code 86 155 = some (ai_getP 50 10 158) := rfl
theorem at_86_158 : am_code 86 158 = some (ai_push 2 159) := rfl
theorem at_86_159 : am_code 86 159 = some (ai_ald 60 7 160) := rfl
theorem at_86_160 : am_code 86 160 = some (ai_iload 2 161) := rfl
theorem at_86_161 : am_code 86 161 = some (ai_bin (fun x y => x + y) 162) := rfl
theorem at_86_162 : am_code 86 162 = some (ai_ast 60 7 163) := rfl
theorem at_86_163 : am_code 86 163 = some (ai_aload 0 164) := rfl
theorem at_86_164 : am_code 86 164 = some (ai_getP 50 22 167) := rfl
theorem at_86_167 : am_code 86 167 = some (ai_iload 1 168) := rfl
theorem at_86_168 : am_code 86 168 = some (ai_iload 2 169) := rfl
theorem at_86_169 : am_code 86 169 = some (ai_if (fun x => x ≤ 0) 190 172) := rfl
theorem at_86_172 : am_code 86 172 = some (ai_aload 0 173) := rfl
theorem at_86_173 : am_code 86 173 = some (ai_iload 1 174) := rfl
theorem at_86_174 : am_code 86 174 = some (ai_push 5 175) := rfl
theorem at_86_175 : am_code 86 175 = some (ai_div (fun x y => x / y) 176) := rfl
theorem at_86_176 : am_code 86 176 = some (ai_iload 1 177) := rfl
theorem at_86_177 : am_code 86 177 = some (ai_push 5 178) := rfl
theorem at_86_178 : am_code 86 178 = some (ai_div (fun x y => x - x / y * y) 179) := rfl
theorem at_86_179 : am_code 86 179 = some (ai_push 1 180) := rfl
theorem at_86_180 : am_code 86 180 = some (ai_callV 80 50 3 183) := rfl
theorem at_86_183 : am_code 86 183 = some (ai_if (fun x => x = 0) 190 186) := rfl
theorem at_86_186 : am_code 86 186 = some (ai_push 1 187) := rfl
theorem at_86_187 : am_code 86 187 = some (ai_goto 191) := rfl
theorem at_86_190 : am_code 86 190 = some (ai_push 0 191) := rfl
theorem at_86_191 : am_code 86 191 = some (ai_zast 72 25 192) := rfl
theorem at_86_192 : am_code 86 192 = some (ai_iinc 1 1 195) := rfl
theorem at_86_195 : am_code 86 195 = some (ai_goto 25) := rfl
theorem at_86_198 : am_code 86 198 = some (ai_ret) := rfl
set_option maxRecDepth 100000 in
theorem at_87_0 : am_code 87 0 = some (ai_push 0 1) := rfl
set_option maxRecDepth 100000 in
theorem at_87_1 : am_code 87 1 = some (ai_istore 3 2) := rfl
set_option maxRecDepth 100000 in
theorem at_87_2 : am_code 87 2 = some (ai_push 0 3) := rfl
set_option maxRecDepth 100000 in
theorem at_87_3 : am_code 87 3 = some (ai_istore 4 5) := rfl
set_option maxRecDepth 100000 in
theorem at_87_5 : am_code 87 5 = some (ai_iload 4 7) := rfl
set_option maxRecDepth 100000 in
theorem at_87_7 : am_code 87 7 = some (ai_push 5 8) := rfl
set_option maxRecDepth 100000 in
theorem at_87_8 : am_code 87 8 = some (ai_icmp (fun x y => y ≤ x) 249 11) := rfl
set_option maxRecDepth 100000 in
theorem at_87_11 : am_code 87 11 = some (ai_push 25 13) := rfl
set_option maxRecDepth 100000 in
theorem at_87_13 : am_code 87 13 = some (ai_push 5 14) := rfl
set_option maxRecDepth 100000 in
theorem at_87_14 : am_code 87 14 = some (ai_iload 1 15) := rfl
set_option maxRecDepth 100000 in
theorem at_87_15 : am_code 87 15 = some (ai_bin (fun x y => x * y) 16) := rfl
set_option maxRecDepth 100000 in
theorem at_87_16 : am_code 87 16 = some (ai_bin (fun x y => x + y) 17) := rfl
set_option maxRecDepth 100000 in
theorem at_87_17 : am_code 87 17 = some (ai_iload 4 19) := rfl
set_option maxRecDepth 100000 in
theorem at_87_19 : am_code 87 19 = some (ai_bin (fun x y => x + y) 20) := rfl
set_option maxRecDepth 100000 in
theorem at_87_20 : am_code 87 20 = some (ai_istore 5 22) := rfl
set_option maxRecDepth 100000 in
theorem at_87_22 : am_code 87 22 = some (ai_push 5 23) := rfl
set_option maxRecDepth 100000 in
theorem at_87_23 : am_code 87 23 = some (ai_iload 2 24) := rfl
set_option maxRecDepth 100000 in
theorem at_87_24 : am_code 87 24 = some (ai_bin (fun x y => x * y) 25) := rfl
set_option maxRecDepth 100000 in
theorem at_87_25 : am_code 87 25 = some (ai_iload 4 27) := rfl
set_option maxRecDepth 100000 in
theorem at_87_27 : am_code 87 27 = some (ai_bin (fun x y => x + y) 28) := rfl
set_option maxRecDepth 100000 in
theorem at_87_28 : am_code 87 28 = some (ai_istore 6 30) := rfl
set_option maxRecDepth 100000 in
theorem at_87_30 : am_code 87 30 = some (ai_aload 0 31) := rfl
set_option maxRecDepth 100000 in
theorem at_87_31 : am_code 87 31 = some (ai_getP 50 23 34) := rfl
set_option maxRecDepth 100000 in
theorem at_87_34 : am_code 87 34 = some (ai_iload 4 36) := rfl
set_option maxRecDepth 100000 in
theorem at_87_36 : am_code 87 36 = some (ai_push 0 37) := rfl
set_option maxRecDepth 100000 in
theorem at_87_37 : am_code 87 37 = some (ai_zast 73 5 38) := rfl
set_option maxRecDepth 100000 in
theorem at_87_38 : am_code 87 38 = some (ai_aload 0 39) := rfl
set_option maxRecDepth 100000 in
theorem at_87_39 : am_code 87 39 = some (ai_getP 50 21 42) := rfl
set_option maxRecDepth 100000 in
theorem at_87_42 : am_code 87 42 = some (ai_push 5 43) := rfl
set_option maxRecDepth 100000 in
theorem at_87_43 : am_code 87 43 = some (ai_push 5 44) := rfl
set_option maxRecDepth 100000 in
theorem at_87_44 : am_code 87 44 = some (ai_iload 1 45) := rfl
set_option maxRecDepth 100000 in
theorem at_87_45 : am_code 87 45 = some (ai_bin (fun x y => x * y) 46) := rfl
set_option maxRecDepth 100000 in
theorem at_87_46 : am_code 87 46 = some (ai_iload 2 47) := rfl
set_option maxRecDepth 100000 in
theorem at_87_47 : am_code 87 47 = some (ai_bin (fun x y => x + y) 48) := rfl
set_option maxRecDepth 100000 in
theorem at_87_48 : am_code 87 48 = some (ai_bin (fun x y => x * y) 49) := rfl
set_option maxRecDepth 100000 in
theorem at_87_49 : am_code 87 49 = some (ai_iload 4 51) := rfl
set_option maxRecDepth 100000 in
theorem at_87_51 : am_code 87 51 = some (ai_bin (fun x y => x + y) 52) := rfl
set_option maxRecDepth 100000 in
theorem at_87_52 : am_code 87 52 = some (ai_ald 71 125 53) := rfl
set_option maxRecDepth 100000 in
theorem at_87_53 : am_code 87 53 = some (ai_if (fun x => x = 0) 243 56) := rfl
set_option maxRecDepth 100000 in
theorem at_87_56 : am_code 87 56 = some (ai_aload 0 57) := rfl
set_option maxRecDepth 100000 in
theorem at_87_57 : am_code 87 57 = some (ai_iload 6 59) := rfl
set_option maxRecDepth 100000 in
theorem at_87_59 : am_code 87 59 = some (ai_iload 5 61) := rfl
set_option maxRecDepth 100000 in
theorem at_87_61 : am_code 87 61 = some (ai_callV 76 50 2 64) := rfl
set_option maxRecDepth 100000 in
theorem at_87_64 : am_code 87 64 = some (ai_istore 7 66) := rfl
set_option maxRecDepth 100000 in
theorem at_87_66 : am_code 87 66 = some (ai_aload 0 67) := rfl
set_option maxRecDepth 100000 in
theorem at_87_67 : am_code 87 67 = some (ai_getP 50 23 70) := rfl
set_option maxRecDepth 100000 in
theorem at_87_70 : am_code 87 70 = some (ai_iload 4 72) := rfl
set_option maxRecDepth 100000 in
theorem at_87_72 : am_code 87 72 = some (ai_iload 7 74) := rfl
set_option maxRecDepth 100000 in
theorem at_87_74 : am_code 87 74 = some (ai_if (fun x => ¬ x = 0) 88 77) := rfl
set_option maxRecDepth 100000 in
theorem at_87_77 : am_code 87 77 = some (ai_aload 0 78) := rfl
set_option maxRecDepth 100000 in
theorem at_87_78 : am_code 87 78 = some (ai_iload 6 80) := rfl
set_option maxRecDepth 100000 in
theorem at_87_80 : am_code 87 80 = some (ai_iload 5 82) := rfl
set_option maxRecDepth 100000 in
theorem at_87_82 : am_code 87 82 = some (ai_callV 77 50 2 85) := rfl
set_option maxRecDepth 100000 in
theorem at_87_85 : am_code 87 85 = some (ai_if (fun x => x = 0) 92 88) := rfl
set_option maxRecDepth 100000 in
theorem at_87_88 : am_code 87 88 = some (ai_push 1 89) := rfl
set_option maxRecDepth 100000 in
theorem at_87_89 : am_code 87 89 = some (ai_goto 93) := rfl
set_option maxRecDepth 100000 in
theorem at_87_92 : am_code 87 92 = some (ai_push 0 93) := rfl
set_option maxRecDepth 100000 in
theorem at_87_93 : am_code 87 93 = some (ai_zast 73 5 94) := rfl
set_option maxRecDepth 100000 in
theorem at_87_94 : am_code 87 94 = some (ai_aload 0 95) := rfl
set_option maxRecDepth 100000 in
theorem at_87_95 : am_code 87 95 = some (ai_getP 50 23 98) := rfl
set_option maxRecDepth 100000 in
theorem at_87_98 : am_code 87 98 = some (ai_iload 4 100) := rfl
set_option maxRecDepth 100000 in
theorem at_87_100 : am_code 87 100 = some (ai_ald 73 5 101) := rfl
set_option maxRecDepth 100000 in
theorem at_87_101 : am_code 87 101 = some (ai_if (fun x => x = 0) 110 104) := rfl
set_option maxRecDepth 100000 in
theorem at_87_104 : am_code 87 104 = some (ai_iload 3 105) := rfl
set_option maxRecDepth 100000 in
theorem at_87_105 : am_code 87 105 = some (ai_push 1 106) := rfl
set_option maxRecDepth 100000 in
theorem at_87_106 : am_code 87 106 = some (ai_bin (fun x y => x + y) 107) := rfl
set_option maxRecDepth 100000 in
theorem at_87_107 : am_code 87 107 = some (ai_goto 111) := rfl
set_option maxRecDepth 100000 in
theorem at_87_110 : am_code 87 110 = some (ai_iload 3 111) := rfl
set_option maxRecDepth 100000 in
theorem at_87_111 : am_code 87 111 = some (ai_istore 3 112) := rfl
set_option maxRecDepth 100000 in
theorem at_87_112 : am_code 87 112 = some (ai_iload 7 114) := rfl
set_option maxRecDepth 100000 in
theorem at_87_114 : am_code 87 114 = some (ai_if (fun x => x = 0) 171 117) := rfl
set_option maxRecDepth 100000 in
theorem at_87_117 : am_code 87 117 = some (ai_iload 4 119) := rfl
set_option maxRecDepth 100000 in
theorem at_87_119 : am_code 87 119 = some (ai_iload 2 120) := rfl
set_option maxRecDepth 100000 in
theorem at_87_120 : am_code 87 120 = some (ai_icmp (fun x y => ¬ x = y) 171 123) := rfl
set_option maxRecDepth 100000 in
theorem at_87_123 : am_code 87 123 = some (ai_aload 0 124) := rfl
set_option maxRecDepth 100000 in
theorem at_87_124 : am_code 87 124 = some (ai_getP 50 17 127) := rfl
set_option maxRecDepth 100000 in
theorem at_87_127 : am_code 87 127 = some (ai_iload 2 128) := rfl
set_option maxRecDepth 100000 in
theorem at_87_128 : am_code 87 128 = some (ai_aload 0 129) := rfl
set_option maxRecDepth 100000 in
theorem at_87_129 : am_code 87 129 = some (ai_getP 50 11 132) := rfl
set_option maxRecDepth 100000 in
theorem at_87_132 : am_code 87 132 = some (ai_iload 5 134) := rfl
set_option maxRecDepth 100000 in
theorem at_87_134 : am_code 87 134 = some (ai_ald 61 60 135) := rfl
set_option maxRecDepth 100000 in
theorem at_87_135 : am_code 87 135 = some (ai_aload 0 136) := rfl
set_option maxRecDepth 100000 in
theorem at_87_136 : am_code 87 136 = some (ai_getP 50 17 139) := rfl
set_option maxRecDepth 100000 in
theorem at_87_139 : am_code 87 139 = some (ai_iload 2 140) := rfl
set_option maxRecDepth 100000 in
theorem at_87_140 : am_code 87 140 = some (ai_ald 67 5 141) := rfl
set_option maxRecDepth 100000 in
theorem at_87_141 : am_code 87 141 = some (ai_icmp (fun x y => x ≤ y) 154 144) := rfl
set_option maxRecDepth 100000 in
theorem at_87_144 : am_code 87 144 = some (ai_aload 0 145) := rfl
set_option maxRecDepth 100000 in
theorem at_87_145 : am_code 87 145 = some (ai_getP 50 11 148) := rfl
set_option maxRecDepth 100000 in
theorem at_87_148 : am_code 87 148 = some (ai_iload 5 150) := rfl
set_option maxRecDepth 100000 in
theorem at_87_150 : am_code 87 150 = some (ai_ald 61 60 151) := rfl
set_option maxRecDepth 100000 in
theorem at_87_151 : am_code 87 151 = some (ai_goto 160) := rfl
set_option maxRecDepth 100000 in
theorem at_87_154 : am_code 87 154 = some (ai_aload 0 155) := rfl
set_option maxRecDepth 100000 in
theorem at_87_155 : am_code 87 155 = some (ai_getP 50 17 158) := rfl
set_option maxRecDepth 100000 in
theorem at_87_158 : am_code 87 158 = some (ai_iload 2 159) := rfl
set_option maxRecDepth 100000 in
theorem at_87_159 : am_code 87 159 = some (ai_ald 67 5 160) := rfl
set_option maxRecDepth 100000 in
theorem at_87_160 : am_code 87 160 = some (ai_ast 67 5 161) := rfl
set_option maxRecDepth 100000 in
theorem at_87_161 : am_code 87 161 = some (ai_aload 0 162) := rfl
set_option maxRecDepth 100000 in
theorem at_87_162 : am_code 87 162 = some (ai_getP 50 18 165) := rfl
set_option maxRecDepth 100000 in
theorem at_87_165 : am_code 87 165 = some (ai_iload 2 166) := rfl
set_option maxRecDepth 100000 in
theorem at_87_166 : am_code 87 166 = some (ai_push 1 167) := rfl
set_option maxRecDepth 100000 in
theorem at_87_167 : am_code 87 167 = some (ai_zast 68 5 168) := rfl
set_option maxRecDepth 100000 in
theorem at_87_168 : am_code 87 168 = some (ai_goto 243) := rfl
set_option maxRecDepth 100000 in
theorem at_87_171 : am_code 87 171 = some (ai_iload 7 173) := rfl
set_option maxRecDepth 100000 in
theorem at_87_173 : am_code 87 173 = some (ai_if (fun x => x = 0) 205 176) := rfl
set_option maxRecDepth 100000 in
theorem at_87_176 : am_code 87 176 = some (ai_aload 0 177) := rfl
set_option maxRecDepth 100000 in
theorem at_87_177 : am_code 87 177 = some (ai_getP 50 10 180) := rfl
set_option maxRecDepth 100000 in
theorem at_87_180 : am_code 87 180 = some (ai_push 6 182) := rfl
set_option maxRecDepth 100000 in
theorem at_87_182 : am_code 87 182 = some (ai_aload 0 183) := rfl
set_option maxRecDepth 100000 in
theorem at_87_183 : am_code 87 183 = some (ai_getP 50 10 186) := rfl
set_option maxRecDepth 100000 in
theorem at_87_186 : am_code 87 186 = some (ai_push 6 188) := rfl
set_option maxRecDepth 100000 in
theorem at_87_188 : am_code 87 188 = some (ai_ald 60 7 189) := rfl
set_option maxRecDepth 100000 in
theorem at_87_189 : am_code 87 189 = some (ai_push 1 190) := rfl
set_option maxRecDepth 100000 in
theorem at_87_190 : am_code 87 190 = some (ai_bin (fun x y => x + y) 191) := rfl
set_option maxRecDepth 100000 in
theorem at_87_191 : am_code 87 191 = some (ai_ast 60 7 192) := rfl
set_option maxRecDepth 100000 in
theorem at_87_192 : am_code 87 192 = some (ai_aload 0 193) := rfl
set_option maxRecDepth 100000 in
theorem at_87_193 : am_code 87 193 = some (ai_iload 2 194) := rfl
set_option maxRecDepth 100000 in
theorem at_87_194 : am_code 87 194 = some (ai_iload 4 196) := rfl
set_option maxRecDepth 100000 in
theorem at_87_196 : am_code 87 196 = some (ai_iload 5 198) := rfl
set_option maxRecDepth 100000 in
theorem at_87_198 : am_code 87 198 = some (ai_iload 1 199) := rfl
set_option maxRecDepth 100000 in
theorem at_87_199 : am_code 87 199 = some (ai_callV 79 50 4 202) := rfl
set_option maxRecDepth 100000 in
theorem at_87_202 : am_code 87 202 = some (ai_goto 243) := rfl
set_option maxRecDepth 100000 in
theorem at_87_205 : am_code 87 205 = some (ai_aload 0 206) := rfl
set_option maxRecDepth 100000 in
theorem at_87_206 : am_code 87 206 = some (ai_getP 50 23 209) := rfl
set_option maxRecDepth 100000 in
theorem at_87_209 : am_code 87 209 = some (ai_iload 4 211) := rfl
set_option maxRecDepth 100000 in
theorem at_87_211 : am_code 87 211 = some (ai_ald 73 5 212) := rfl
set_option maxRecDepth 100000 in
theorem at_87_212 : am_code 87 212 = some (ai_if (fun x => x = 0) 234 215) := rfl
set_option maxRecDepth 100000 in
theorem at_87_215 : am_code 87 215 = some (ai_aload 0 216) := rfl
set_option maxRecDepth 100000 in
theorem at_87_216 : am_code 87 216 = some (ai_getP 50 19 219) := rfl
set_option maxRecDepth 100000 in
theorem at_87_219 : am_code 87 219 = some (ai_push 5 220) := rfl
set_option maxRecDepth 100000 in
theorem at_87_220 : am_code 87 220 = some (ai_push 5 221) := rfl
set_option maxRecDepth 100000 in
theorem at_87_221 : am_code 87 221 = some (ai_iload 2 222) := rfl
set_option maxRecDepth 100000 in
theorem at_87_222 : am_code 87 222 = some (ai_bin (fun x y => x * y) 223) := rfl
set_option maxRecDepth 100000 in
theorem at_87_223 : am_code 87 223 = some (ai_iload 1 224) := rfl
set_option maxRecDepth 100000 in
theorem at_87_224 : am_code 87 224 = some (ai_bin (fun x y => x + y) 225) := rfl
set_option maxRecDepth 100000 in
theorem at_87_225 : am_code 87 225 = some (ai_bin (fun x y => x * y) 226) := rfl
set_option maxRecDepth 100000 in
theorem at_87_226 : am_code 87 226 = some (ai_iload 4 228) := rfl
set_option maxRecDepth 100000 in
theorem at_87_228 : am_code 87 228 = some (ai_bin (fun x y => x + y) 229) := rfl
set_option maxRecDepth 100000 in
theorem at_87_229 : am_code 87 229 = some (ai_push 0 230) := rfl
set_option maxRecDepth 100000 in
theorem at_87_230 : am_code 87 230 = some (ai_zast 69 125 231) := rfl
set_option maxRecDepth 100000 in
theorem at_87_231 : am_code 87 231 = some (ai_goto 243) := rfl
set_option maxRecDepth 100000 in
theorem at_87_234 : am_code 87 234 = some (ai_aload 0 235) := rfl
set_option maxRecDepth 100000 in
theorem at_87_235 : am_code 87 235 = some (ai_iload 2 236) := rfl
set_option maxRecDepth 100000 in
theorem at_87_236 : am_code 87 236 = some (ai_iload 1 237) := rfl
set_option maxRecDepth 100000 in
theorem at_87_237 : am_code 87 237 = some (ai_iload 4 239) := rfl
set_option maxRecDepth 100000 in
theorem at_87_239 : am_code 87 239 = some (ai_push 0 240) := rfl
set_option maxRecDepth 100000 in
theorem at_87_240 : am_code 87 240 = some (ai_callV 78 50 4 243) := rfl
set_option maxRecDepth 100000 in
theorem at_87_243 : am_code 87 243 = some (ai_iinc 4 1 246) := rfl
set_option maxRecDepth 100000 in
theorem at_87_246 : am_code 87 246 = some (ai_goto 5) := rfl
set_option maxRecDepth 100000 in
theorem at_87_249 : am_code 87 249 = some (ai_iload 3 250) := rfl
set_option maxRecDepth 100000 in
theorem at_87_250 : am_code 87 250 = some (ai_if (fun x => x = 0) 263 253) := rfl
set_option maxRecDepth 100000 in
theorem at_87_253 : am_code 87 253 = some (ai_aload 0 254) := rfl
set_option maxRecDepth 100000 in
theorem at_87_254 : am_code 87 254 = some (ai_iload 2 255) := rfl
set_option maxRecDepth 100000 in
theorem at_87_255 : am_code 87 255 = some (ai_iload 1 256) := rfl
set_option maxRecDepth 100000 in
theorem at_87_256 : am_code 87 256 = some (ai_push 3 257) := rfl
set_option maxRecDepth 100000 in
theorem at_87_257 : am_code 87 257 = some (ai_callV 80 50 3 260) := rfl
set_option maxRecDepth 100000 in
theorem at_87_260 : am_code 87 260 = some (ai_if (fun x => ¬ x = 0) 264 263) := rfl
set_option maxRecDepth 100000 in
theorem at_87_263 : am_code 87 263 = some (ai_ret) := rfl
set_option maxRecDepth 100000 in
theorem at_87_264 : am_code 87 264 = some (ai_push 0 265) := rfl
set_option maxRecDepth 100000 in
theorem at_87_265 : am_code 87 265 = some (ai_istore 4 267) := rfl
set_option maxRecDepth 100000 in
theorem at_87_267 : am_code 87 267 = some (ai_iload 4 269) := rfl
set_option maxRecDepth 100000 in
theorem at_87_269 : am_code 87 269 = some (ai_push 5 270) := rfl
set_option maxRecDepth 100000 in
theorem at_87_270 : am_code 87 270 = some (ai_icmp (fun x y => y ≤ x) 353 273) := rfl
set_option maxRecDepth 100000 in
theorem at_87_273 : am_code 87 273 = some (ai_aload 0 274) := rfl
set_option maxRecDepth 100000 in
theorem at_87_274 : am_code 87 274 = some (ai_getP 50 11 277) := rfl
set_option maxRecDepth 100000 in
theorem at_87_277 : am_code 87 277 = some (ai_push 5 278) := rfl
set_option maxRecDepth 100000 in
theorem at_87_278 : am_code 87 278 = some (ai_iload 1 279) := rfl
set_option maxRecDepth 100000 in
theorem at_87_279 : am_code 87 279 = some (ai_bin (fun x y => x * y) 280) := rfl
set_option maxRecDepth 100000 in
theorem at_87_280 : am_code 87 280 = some (ai_iload 4 282) := rfl
set_option maxRecDepth 100000 in
theorem at_87_282 : am_code 87 282 = some (ai_bin (fun x y => x + y) 283) := rfl
set_option maxRecDepth 100000 in
theorem at_87_283 : am_code 87 283 = some (ai_ald 61 60 284) := rfl
set_option maxRecDepth 100000 in
theorem at_87_284 : am_code 87 284 = some (ai_if (fun x => x ≤ 0) 313 287) := rfl
set_option maxRecDepth 100000 in
theorem at_87_287 : am_code 87 287 = some (ai_aload 0 288) := rfl
set_option maxRecDepth 100000 in
theorem at_87_288 : am_code 87 288 = some (ai_push 5 289) := rfl
set_option maxRecDepth 100000 in
theorem at_87_289 : am_code 87 289 = some (ai_iload 1 290) := rfl
set_option maxRecDepth 100000 in
theorem at_87_290 : am_code 87 290 = some (ai_bin (fun x y => x * y) 291) := rfl
set_option maxRecDepth 100000 in
theorem at_87_291 : am_code 87 291 = some (ai_iload 4 293) := rfl
set_option maxRecDepth 100000 in
theorem at_87_293 : am_code 87 293 = some (ai_bin (fun x y => x + y) 294) := rfl
set_option maxRecDepth 100000 in
theorem at_87_294 : am_code 87 294 = some (ai_push 25 296) := rfl
set_option maxRecDepth 100000 in
theorem at_87_296 : am_code 87 296 = some (ai_push 5 297) := rfl
set_option maxRecDepth 100000 in
theorem at_87_297 : am_code 87 297 = some (ai_iload 1 298) := rfl
set_option maxRecDepth 100000 in
theorem at_87_298 : am_code 87 298 = some (ai_bin (fun x y => x * y) 299) := rfl
set_option maxRecDepth 100000 in
theorem at_87_299 : am_code 87 299 = some (ai_bin (fun x y => x + y) 300) := rfl
set_option maxRecDepth 100000 in
theorem at_87_300 : am_code 87 300 = some (ai_iload 4 302) := rfl
set_option maxRecDepth 100000 in
theorem at_87_302 : am_code 87 302 = some (ai_bin (fun x y => x + y) 303) := rfl
set_option maxRecDepth 100000 in
theorem at_87_303 : am_code 87 303 = some (ai_callV 77 50 2 306) := rfl
set_option maxRecDepth 100000 in
theorem at_87_306 : am_code 87 306 = some (ai_if (fun x => x = 0) 313 309) := rfl
set_option maxRecDepth 100000 in
theorem at_87_309 : am_code 87 309 = some (ai_push 1 310) := rfl
set_option maxRecDepth 100000 in
theorem at_87_310 : am_code 87 310 = some (ai_goto 314) := rfl
set_option maxRecDepth 100000 in
theorem at_87_313 : am_code 87 313 = some (ai_push 0 314) := rfl
set_option maxRecDepth 100000 in
theorem at_87_314 : am_code 87 314 = some (ai_istore 5 316) := rfl
set_option maxRecDepth 100000 in
theorem at_87_316 : am_code 87 316 = some (ai_aload 0 317) := rfl
set_option maxRecDepth 100000 in
theorem at_87_317 : am_code 87 317 = some (ai_getP 50 23 320) := rfl
set_option maxRecDepth 100000 in
theorem at_87_320 : am_code 87 320 = some (ai_iload 4 322) := rfl
set_option maxRecDepth 100000 in
theorem at_87_322 : am_code 87 322 = some (ai_ald 73 5 323) := rfl
set_option maxRecDepth 100000 in
theorem at_87_323 : am_code 87 323 = some (ai_if (fun x => x = 0) 347 326) := rfl
set_option maxRecDepth 100000 in
theorem at_87_326 : am_code 87 326 = some (ai_iload 5 328) := rfl
set_option maxRecDepth 100000 in
theorem at_87_328 : am_code 87 328 = some (ai_if (fun x => x = 0) 347 331) := rfl
set_option maxRecDepth 100000 in
theorem at_87_331 : am_code 87 331 = some (ai_aload 0 332) := rfl
set_option maxRecDepth 100000 in
theorem at_87_332 : am_code 87 332 = some (ai_getP 50 19 335) := rfl
set_option maxRecDepth 100000 in
theorem at_87_335 : am_code 87 335 = some (ai_push 5 336) := rfl
set_option maxRecDepth 100000 in
theorem at_87_336 : am_code 87 336 = some (ai_push 5 337) := rfl
set_option maxRecDepth 100000 in
theorem at_87_337 : am_code 87 337 = some (ai_iload 1 338) := rfl
set_option maxRecDepth 100000 in
theorem at_87_338 : am_code 87 338 = some (ai_bin (fun x y => x * y) 339) := rfl
set_option maxRecDepth 100000 in
theorem at_87_339 : am_code 87 339 = some (ai_iload 2 340) := rfl
set_option maxRecDepth 100000 in
theorem at_87_340 : am_code 87 340 = some (ai_bin (fun x y => x + y) 341) := rfl
set_option maxRecDepth 100000 in
theorem at_87_341 : am_code 87 341 = some (ai_bin (fun x y => x * y) 342) := rfl
set_option maxRecDepth 100000 in
theorem at_87_342 : am_code 87 342 = some (ai_iload 4 344) := rfl
set_option maxRecDepth 100000 in
theorem at_87_344 : am_code 87 344 = some (ai_bin (fun x y => x + y) 345) := rfl
set_option maxRecDepth 100000 in
theorem at_87_345 : am_code 87 345 = some (ai_push 0 346) := rfl
set_option maxRecDepth 100000 in
theorem at_87_346 : am_code 87 346 = some (ai_zast 69 125 347) := rfl
set_option maxRecDepth 100000 in
theorem at_87_347 : am_code 87 347 = some (ai_iinc 4 1 350) := rfl
set_option maxRecDepth 100000 in
theorem at_87_350 : am_code 87 350 = some (ai_goto 267) := rfl
set_option maxRecDepth 100000 in
theorem at_87_353 : am_code 87 353 = some (ai_ret) := rfl
theorem at_88_0 : am_code 88 0 = some (ai_iload 1 1) := rfl
theorem at_88_1 : am_code 88 1 = some (ai_push 1 2) := rfl
theorem at_88_2 : am_code 88 2 = some (ai_icmp (fun x y => x < y) 10 5) := rfl
theorem at_88_5 : am_code 88 5 = some (ai_iload 1 6) := rfl
theorem at_88_6 : am_code 88 6 = some (ai_push 4 7) := rfl
theorem at_88_7 : am_code 88 7 = some (ai_icmp (fun x y => x ≤ y) 12 10) := rfl
theorem at_88_10 : am_code 88 10 = some (ai_push 0 11) := rfl
theorem at_88_11 : am_code 88 11 = some (ai_zret) := rfl
theorem at_88_12 : am_code 88 12 = some (ai_push 0 13) := rfl
theorem at_88_13 : am_code 88 13 = some (ai_istore 2 14) := rfl
theorem at_88_14 : am_code 88 14 = some (ai_iload 2 15) := rfl
theorem at_88_15 : am_code 88 15 = some (ai_iload 1 16) := rfl
theorem at_88_16 : am_code 88 16 = some (ai_icmp (fun x y => y ≤ x) 128 19) := rfl
theorem at_88_19 : am_code 88 19 = some (ai_aload 0 20) := rfl
theorem at_88_20 : am_code 88 20 = some (ai_aload 0 21) := rfl
theorem at_88_21 : am_code 88 21 = some (ai_getI 50 0 24) := rfl
theorem at_88_24 : am_code 88 24 = some (ai_push 1 25) := rfl
theorem at_88_25 : am_code 88 25 = some (ai_bin (fun x y => x + y) 26) := rfl
theorem at_88_26 : am_code 88 26 = some (ai_putI 50 0 29) := rfl
theorem at_88_29 : am_code 88 29 = some (ai_aload 0 30) := rfl
theorem at_88_30 : am_code 88 30 = some (ai_callV 81 50 0 33) := rfl
theorem at_88_33 : am_code 88 33 = some (ai_aload 0 34) := rfl
theorem at_88_34 : am_code 88 34 = some (ai_getI 50 0 37) := rfl
theorem at_88_37 : am_code 88 37 = some (ai_push 2 38) := rfl
theorem at_88_38 : am_code 88 38 = some (ai_div (fun x y => x - x / y * y) 39) := rfl
theorem at_88_39 : am_code 88 39 = some (ai_if (fun x => ¬ x = 0) 46 42) := rfl
theorem at_88_42 : am_code 88 42 = some (ai_aload 0 43) := rfl
theorem at_88_43 : am_code 88 43 = some (ai_callV 82 50 0 46) := rfl
theorem at_88_46 : am_code 88 46 = some (ai_aload 0 47) := rfl
theorem at_88_47 : am_code 88 47 = some (ai_callV 83 50 0 50) := rfl
theorem at_88_50 : am_code 88 50 = some (ai_push 0 51) := rfl
theorem at_88_51 : am_code 88 51 = some (ai_istore 3 52) := rfl
theorem at_88_52 : am_code 88 52 = some (ai_iload 3 53) := rfl
theorem at_88_53 : am_code 88 53 = some (ai_push 5 54) := rfl
theorem at_88_54 : am_code 88 54 = some (ai_icmp (fun x y => y ≤ x) 68 57) := rfl
theorem at_88_57 : am_code 88 57 = some (ai_aload 0 58) := rfl
theorem at_88_58 : am_code 88 58 = some (ai_iload 3 59) := rfl
theorem at_88_59 : am_code 88 59 = some (ai_callV 85 50 1 62) := rfl
theorem at_88_62 : am_code 88 62 = some (ai_iinc 3 1 65) := rfl
theorem at_88_65 : am_code 88 65 = some (ai_goto 52) := rfl
theorem at_88_68 : am_code 88 68 = some (ai_aload 0 69) := rfl
theorem at_88_69 : am_code 88 69 = some (ai_callV 86 50 0 72) := rfl
theorem at_88_72 : am_code 88 72 = some (ai_push 0 73) := rfl
theorem at_88_73 : am_code 88 73 = some (ai_istore 3 74) := rfl
theorem at_88_74 : am_code 88 74 = some (ai_iload 3 75) := rfl
theorem at_88_75 : am_code 88 75 = some (ai_push 25 77) := rfl
theorem at_88_77 : am_code 88 77 = some (ai_icmp (fun x y => y ≤ x) 122 80) := rfl
theorem at_88_80 : am_code 88 80 = some (ai_aload 0 81) := rfl
theorem at_88_81 : am_code 88 81 = some (ai_getP 50 22 84) := rfl
theorem at_88_84 : am_code 88 84 = some (ai_iload 3 85) := rfl
theorem at_88_85 : am_code 88 85 = some (ai_ald 72 25 86) := rfl
theorem at_88_86 : am_code 88 86 = some (ai_if (fun x => x = 0) 116 89) := rfl
theorem at_88_89 : am_code 88 89 = some (ai_aload 0 90) := rfl
theorem at_88_90 : am_code 88 90 = some (ai_getP 50 7 93) := rfl
theorem at_88_93 : am_code 88 93 = some (ai_push 5 94) := rfl
theorem at_88_94 : am_code 88 94 = some (ai_iload 3 95) := rfl
theorem at_88_95 : am_code 88 95 = some (ai_push 5 96) := rfl
theorem at_88_96 : am_code 88 96 = some (ai_div (fun x y => x - x / y * y) 97) := rfl
theorem at_88_97 : am_code 88 97 = some (ai_bin (fun x y => x * y) 98) := rfl
theorem at_88_98 : am_code 88 98 = some (ai_iload 3 99) := rfl
theorem at_88_99 : am_code 88 99 = some (ai_push 5 100) := rfl
theorem at_88_100 : am_code 88 100 = some (ai_div (fun x y => x / y) 101) := rfl
theorem at_88_101 : am_code 88 101 = some (ai_bin (fun x y => x + y) 102) := rfl
theorem at_88_102 : am_code 88 102 = some (ai_ald 57 25 103) := rfl
theorem at_88_103 : am_code 88 103 = some (ai_if (fun x => x = 0) 116 106) := rfl
theorem at_88_106 : am_code 88 106 = some (ai_aload 0 107) := rfl
theorem at_88_107 : am_code 88 107 = some (ai_iload 3 108) := rfl
theorem at_88_108 : am_code 88 108 = some (ai_push 5 109) := rfl
theorem at_88_109 : am_code 88 109 = some (ai_div (fun x y => x / y) 110) := rfl
theorem at_88_110 : am_code 88 110 = some (ai_iload 3 111) := rfl
theorem at_88_111 : am_code 88 111 = some (ai_push 5 112) := rfl
theorem at_88_112 : am_code 88 112 = some (ai_div (fun x y => x - x / y * y) 113) := rfl
theorem at_88_113 : am_code 88 113 = some (ai_callV 87 50 2 116) := rfl
theorem at_88_116 : am_code 88 116 = some (ai_iinc 3 1 119) := rfl
theorem at_88_119 : am_code 88 119 = some (ai_goto 74) := rfl
theorem at_88_122 : am_code 88 122 = some (ai_iinc 2 1 125) := rfl
theorem at_88_125 : am_code 88 125 = some (ai_goto 14) := rfl
theorem at_88_128 : am_code 88 128 = some (ai_push 1 129) := rfl
theorem at_88_129 : am_code 88 129 = some (ai_zret) := rfl
theorem at_89_0 : am_code 89 0 = some (ai_aload 0 1) := rfl
theorem at_89_1 : am_code 89 1 = some (ai_iload 1 2) := rfl
theorem at_89_2 : am_code 89 2 = some (ai_iload 2 3) := rfl
theorem at_89_3 : am_code 89 3 = some (ai_callV 68 50 2 6) := rfl
theorem at_89_6 : am_code 89 6 = some (ai_if (fun x => ¬ x = 0) 11 9) := rfl
theorem at_89_9 : am_code 89 9 = some (ai_push (-1) 10) := rfl
theorem at_89_10 : am_code 89 10 = some (ai_iret) := rfl
theorem at_89_11 : am_code 89 11 = some (ai_push 5 12) := rfl
theorem at_89_12 : am_code 89 12 = some (ai_iload 1 13) := rfl
theorem at_89_13 : am_code 89 13 = some (ai_bin (fun x y => x * y) 14) := rfl
theorem at_89_14 : am_code 89 14 = some (ai_iload 2 15) := rfl
theorem at_89_15 : am_code 89 15 = some (ai_bin (fun x y => x + y) 16) := rfl
theorem at_89_16 : am_code 89 16 = some (ai_istore 3 17) := rfl
theorem at_89_17 : am_code 89 17 = some (ai_aload 0 18) := rfl
theorem at_89_18 : am_code 89 18 = some (ai_getP 50 7 21) := rfl
theorem at_89_21 : am_code 89 21 = some (ai_iload 3 22) := rfl
theorem at_89_22 : am_code 89 22 = some (ai_ald 57 25 23) := rfl
theorem at_89_23 : am_code 89 23 = some (ai_if (fun x => x = 0) 30 26) := rfl
theorem at_89_26 : am_code 89 26 = some (ai_push 2 27) := rfl
theorem at_89_27 : am_code 89 27 = some (ai_goto 44) := rfl
theorem at_89_30 : am_code 89 30 = some (ai_aload 0 31) := rfl
theorem at_89_31 : am_code 89 31 = some (ai_getP 50 4 34) := rfl
theorem at_89_34 : am_code 89 34 = some (ai_iload 3 35) := rfl
theorem at_89_35 : am_code 89 35 = some (ai_ald 54 25 36) := rfl
theorem at_89_36 : am_code 89 36 = some (ai_if (fun x => x = 0) 43 39) := rfl
theorem at_89_39 : am_code 89 39 = some (ai_push 1 40) := rfl
theorem at_89_40 : am_code 89 40 = some (ai_goto 44) := rfl
theorem at_89_43 : am_code 89 43 = some (ai_push 0 44) := rfl
theorem at_89_44 : am_code 89 44 = some (ai_iret) := rfl
theorem at_90_0 : am_code 90 0 = some (ai_iload 1 1) := rfl
theorem at_90_1 : am_code 90 1 = some (ai_callS 67 1 4) := rfl
theorem at_90_4 : am_code 90 4 = some (ai_if (fun x => x = 0) 27 7) := rfl
theorem at_90_7 : am_code 90 7 = some (ai_iload 2 8) := rfl
theorem at_90_8 : am_code 90 8 = some (ai_callS 67 1 11) := rfl
theorem at_90_11 : am_code 90 11 = some (ai_if (fun x => x = 0) 27 14) := rfl
theorem at_90_14 : am_code 90 14 = some (ai_aload 0 15) := rfl
theorem at_90_15 : am_code 90 15 = some (ai_getP 50 11 18) := rfl
theorem at_90_18 : am_code 90 18 = some (ai_push 5 19) := rfl
theorem at_90_19 : am_code 90 19 = some (ai_iload 1 20) := rfl
theorem at_90_20 : am_code 90 20 = some (ai_bin (fun x y => x * y) 21) := rfl
theorem at_90_21 : am_code 90 21 = some (ai_iload 2 22) := rfl
theorem at_90_22 : am_code 90 22 = some (ai_bin (fun x y => x + y) 23) := rfl
theorem at_90_23 : am_code 90 23 = some (ai_ald 61 60 24) := rfl
theorem at_90_24 : am_code 90 24 = some (ai_goto 28) := rfl
theorem at_90_27 : am_code 90 27 = some (ai_push (-1) 28) := rfl
theorem at_90_28 : am_code 90 28 = some (ai_iret) := rfl
theorem at_91_0 : am_code 91 0 = some (ai_iload 1 1) := rfl
theorem at_91_1 : am_code 91 1 = some (ai_callS 67 1 4) := rfl
theorem at_91_4 : am_code 91 4 = some (ai_if (fun x => x = 0) 45 7) := rfl
theorem at_91_7 : am_code 91 7 = some (ai_iload 2 8) := rfl
theorem at_91_8 : am_code 91 8 = some (ai_callS 67 1 11) := rfl
theorem at_91_11 : am_code 91 11 = some (ai_if (fun x => x = 0) 45 14) := rfl
theorem at_91_14 : am_code 91 14 = some (ai_aload 0 15) := rfl
theorem at_91_15 : am_code 91 15 = some (ai_getP 50 11 18) := rfl
theorem at_91_18 : am_code 91 18 = some (ai_push 5 19) := rfl
theorem at_91_19 : am_code 91 19 = some (ai_iload 1 20) := rfl
theorem at_91_20 : am_code 91 20 = some (ai_bin (fun x y => x * y) 21) := rfl
theorem at_91_21 : am_code 91 21 = some (ai_iload 2 22) := rfl
theorem at_91_22 : am_code 91 22 = some (ai_bin (fun x y => x + y) 23) := rfl
theorem at_91_23 : am_code 91 23 = some (ai_ald 61 60 24) := rfl
theorem at_91_24 : am_code 91 24 = some (ai_if (fun x => x ≤ 0) 45 27) := rfl
theorem at_91_27 : am_code 91 27 = some (ai_aload 0 28) := rfl
theorem at_91_28 : am_code 91 28 = some (ai_getI 50 0 31) := rfl
theorem at_91_31 : am_code 91 31 = some (ai_aload 0 32) := rfl
theorem at_91_32 : am_code 91 32 = some (ai_getP 50 12 35) := rfl
theorem at_91_35 : am_code 91 35 = some (ai_push 5 36) := rfl
theorem at_91_36 : am_code 91 36 = some (ai_iload 1 37) := rfl
theorem at_91_37 : am_code 91 37 = some (ai_bin (fun x y => x * y) 38) := rfl
theorem at_91_38 : am_code 91 38 = some (ai_iload 2 39) := rfl
theorem at_91_39 : am_code 91 39 = some (ai_bin (fun x y => x + y) 40) := rfl
theorem at_91_40 : am_code 91 40 = some (ai_ald 62 60 41) := rfl
theorem at_91_41 : am_code 91 41 = some (ai_bin (fun x y => x - y) 42) := rfl
theorem at_91_42 : am_code 91 42 = some (ai_goto 46) := rfl
theorem at_91_45 : am_code 91 45 = some (ai_push (-1) 46) := rfl
theorem at_91_46 : am_code 91 46 = some (ai_iret) := rfl
theorem at_92_0 : am_code 92 0 = some (ai_iload 1 1) := rfl
theorem at_92_1 : am_code 92 1 = some (ai_callS 67 1 4) := rfl
theorem at_92_4 : am_code 92 4 = some (ai_if (fun x => x = 0) 51 7) := rfl
theorem at_92_7 : am_code 92 7 = some (ai_iload 2 8) := rfl
theorem at_92_8 : am_code 92 8 = some (ai_callS 67 1 11) := rfl
theorem at_92_11 : am_code 92 11 = some (ai_if (fun x => x = 0) 51 14) := rfl
theorem at_92_14 : am_code 92 14 = some (ai_iload 3 15) := rfl
theorem at_92_15 : am_code 92 15 = some (ai_callS 67 1 18) := rfl
theorem at_92_18 : am_code 92 18 = some (ai_if (fun x => x = 0) 51 21) := rfl
theorem at_92_21 : am_code 92 21 = some (ai_aload 0 22) := rfl
theorem at_92_22 : am_code 92 22 = some (ai_getP 50 11 25) := rfl
theorem at_92_25 : am_code 92 25 = some (ai_push 5 26) := rfl
theorem at_92_26 : am_code 92 26 = some (ai_iload 1 27) := rfl
theorem at_92_27 : am_code 92 27 = some (ai_bin (fun x y => x * y) 28) := rfl
theorem at_92_28 : am_code 92 28 = some (ai_iload 2 29) := rfl
theorem at_92_29 : am_code 92 29 = some (ai_bin (fun x y => x + y) 30) := rfl
theorem at_92_30 : am_code 92 30 = some (ai_ald 61 60 31) := rfl
theorem at_92_31 : am_code 92 31 = some (ai_if (fun x => x ≤ 0) 51 34) := rfl
theorem at_92_34 : am_code 92 34 = some (ai_aload 0 35) := rfl
theorem at_92_35 : am_code 92 35 = some (ai_getP 50 13 38) := rfl
theorem at_92_38 : am_code 92 38 = some (ai_push 5 39) := rfl
theorem at_92_39 : am_code 92 39 = some (ai_push 5 40) := rfl
theorem at_92_40 : am_code 92 40 = some (ai_iload 1 41) := rfl
theorem at_92_41 : am_code 92 41 = some (ai_bin (fun x y => x * y) 42) := rfl
theorem at_92_42 : am_code 92 42 = some (ai_iload 2 43) := rfl
theorem at_92_43 : am_code 92 43 = some (ai_bin (fun x y => x + y) 44) := rfl
theorem at_92_44 : am_code 92 44 = some (ai_bin (fun x y => x * y) 45) := rfl
theorem at_92_45 : am_code 92 45 = some (ai_iload 3 46) := rfl
theorem at_92_46 : am_code 92 46 = some (ai_bin (fun x y => x + y) 47) := rfl
theorem at_92_47 : am_code 92 47 = some (ai_ald 63 300 48) := rfl
theorem at_92_48 : am_code 92 48 = some (ai_goto 52) := rfl
theorem at_92_51 : am_code 92 51 = some (ai_push (-1) 52) := rfl
theorem at_92_52 : am_code 92 52 = some (ai_iret) := rfl
theorem at_93_0 : am_code 93 0 = some (ai_aload 0 1) := rfl
theorem at_93_1 : am_code 93 1 = some (ai_iload 1 2) := rfl
theorem at_93_2 : am_code 93 2 = some (ai_iload 2 3) := rfl
theorem at_93_3 : am_code 93 3 = some (ai_callV 68 50 2 6) := rfl
theorem at_93_6 : am_code 93 6 = some (ai_if (fun x => ¬ x = 0) 11 9) := rfl
theorem at_93_9 : am_code 93 9 = some (ai_push (-1) 10) := rfl
theorem at_93_10 : am_code 93 10 = some (ai_iret) := rfl
theorem at_93_11 : am_code 93 11 = some (ai_push 0 12) := rfl
theorem at_93_12 : am_code 93 12 = some (ai_istore 3 13) := rfl
theorem at_93_13 : am_code 93 13 = some (ai_push 0 14) := rfl
theorem at_93_14 : am_code 93 14 = some (ai_istore 4 16) := rfl
theorem at_93_16 : am_code 93 16 = some (ai_iload 4 18) := rfl
theorem at_93_18 : am_code 93 18 = some (ai_push 5 19) := rfl
theorem at_93_19 : am_code 93 19 = some (ai_icmp (fun x y => y ≤ x) 54 22) := rfl
theorem at_93_22 : am_code 93 22 = some (ai_aload 0 23) := rfl
theorem at_93_23 : am_code 93 23 = some (ai_getP 50 19 26) := rfl
theorem at_93_26 : am_code 93 26 = some (ai_push 5 27) := rfl
theorem at_93_27 : am_code 93 27 = some (ai_push 5 28) := rfl
theorem at_93_28 : am_code 93 28 = some (ai_iload 1 29) := rfl
theorem at_93_29 : am_code 93 29 = some (ai_bin (fun x y => x * y) 30) := rfl
theorem at_93_30 : am_code 93 30 = some (ai_iload 2 31) := rfl
theorem at_93_31 : am_code 93 31 = some (ai_bin (fun x y => x + y) 32) := rfl
theorem at_93_32 : am_code 93 32 = some (ai_bin (fun x y => x * y) 33) := rfl
theorem at_93_33 : am_code 93 33 = some (ai_iload 4 35) := rfl
theorem at_93_35 : am_code 93 35 = some (ai_bin (fun x y => x + y) 36) := rfl
theorem at_93_36 : am_code 93 36 = some (ai_ald 69 125 37) := rfl
theorem at_93_37 : am_code 93 37 = some (ai_if (fun x => x = 0) 46 40) := rfl
theorem at_93_40 : am_code 93 40 = some (ai_iload 3 41) := rfl
theorem at_93_41 : am_code 93 41 = some (ai_push 1 42) := rfl
theorem at_93_42 : am_code 93 42 = some (ai_bin (fun x y => x + y) 43) := rfl
theorem at_93_43 : am_code 93 43 = some (ai_goto 47) := rfl
theorem at_93_46 : am_code 93 46 = some (ai_iload 3 47) := rfl
theorem at_93_47 : am_code 93 47 = some (ai_istore 3 48) := rfl
theorem at_93_48 : am_code 93 48 = some (ai_iinc 4 1 51) := rfl
theorem at_93_51 : am_code 93 51 = some (ai_goto 16) := rfl
theorem at_93_54 : am_code 93 54 = some (ai_iload 3 55) := rfl
theorem at_93_55 : am_code 93 55 = some (ai_iret) := rfl
theorem at_94_0 : am_code 94 0 = some (ai_aload 0 1) := rfl
theorem at_94_1 : am_code 94 1 = some (ai_getP 50 11 4) := rfl
theorem at_94_4 : am_code 94 4 = some (ai_push 5 5) := rfl
theorem at_94_5 : am_code 94 5 = some (ai_iload 1 6) := rfl
theorem at_94_6 : am_code 94 6 = some (ai_bin (fun x y => x * y) 7) := rfl
theorem at_94_7 : am_code 94 7 = some (ai_iload 2 8) := rfl
theorem at_94_8 : am_code 94 8 = some (ai_bin (fun x y => x + y) 9) := rfl
theorem at_94_9 : am_code 94 9 = some (ai_ald 61 60 10) := rfl
theorem at_94_10 : am_code 94 10 = some (ai_if (fun x => x ≤ 0) 47 13) := rfl
theorem at_94_13 : am_code 94 13 = some (ai_aload 0 14) := rfl
theorem at_94_14 : am_code 94 14 = some (ai_getP 50 11 17) := rfl
theorem at_94_17 : am_code 94 17 = some (ai_push 5 18) := rfl
theorem at_94_18 : am_code 94 18 = some (ai_iload 1 19) := rfl
theorem at_94_19 : am_code 94 19 = some (ai_bin (fun x y => x * y) 20) := rfl
theorem at_94_20 : am_code 94 20 = some (ai_iload 3 21) := rfl
theorem at_94_21 : am_code 94 21 = some (ai_bin (fun x y => x + y) 22) := rfl
theorem at_94_22 : am_code 94 22 = some (ai_ald 61 60 23) := rfl
theorem at_94_23 : am_code 94 23 = some (ai_if (fun x => x ≤ 0) 47 26) := rfl
theorem at_94_26 : am_code 94 26 = some (ai_aload 0 27) := rfl
theorem at_94_27 : am_code 94 27 = some (ai_getP 50 13 30) := rfl
theorem at_94_30 : am_code 94 30 = some (ai_push 5 31) := rfl
theorem at_94_31 : am_code 94 31 = some (ai_push 5 32) := rfl
theorem at_94_32 : am_code 94 32 = some (ai_iload 1 33) := rfl
theorem at_94_33 : am_code 94 33 = some (ai_bin (fun x y => x * y) 34) := rfl
theorem at_94_34 : am_code 94 34 = some (ai_iload 3 35) := rfl
theorem at_94_35 : am_code 94 35 = some (ai_bin (fun x y => x + y) 36) := rfl
theorem at_94_36 : am_code 94 36 = some (ai_bin (fun x y => x * y) 37) := rfl
theorem at_94_37 : am_code 94 37 = some (ai_iload 2 38) := rfl
theorem at_94_38 : am_code 94 38 = some (ai_bin (fun x y => x + y) 39) := rfl
theorem at_94_39 : am_code 94 39 = some (ai_ald 63 300 40) := rfl
theorem at_94_40 : am_code 94 40 = some (ai_if (fun x => x ≤ 0) 47 43) := rfl
theorem at_94_43 : am_code 94 43 = some (ai_push 1 44) := rfl
theorem at_94_44 : am_code 94 44 = some (ai_goto 48) := rfl
theorem at_94_47 : am_code 94 47 = some (ai_push 0 48) := rfl
theorem at_94_48 : am_code 94 48 = some (ai_istore 4 50) := rfl
theorem at_94_50 : am_code 94 50 = some (ai_aload 0 51) := rfl
theorem at_94_51 : am_code 94 51 = some (ai_getP 50 13 54) := rfl
theorem at_94_54 : am_code 94 54 = some (ai_push 5 55) := rfl
theorem at_94_55 : am_code 94 55 = some (ai_push 5 56) := rfl
theorem at_94_56 : am_code 94 56 = some (ai_iload 1 57) := rfl
theorem at_94_57 : am_code 94 57 = some (ai_bin (fun x y => x * y) 58) := rfl
theorem at_94_58 : am_code 94 58 = some (ai_iload 2 59) := rfl
theorem at_94_59 : am_code 94 59 = some (ai_bin (fun x y => x + y) 60) := rfl
theorem at_94_60 : am_code 94 60 = some (ai_bin (fun x y => x * y) 61) := rfl
theorem at_94_61 : am_code 94 61 = some (ai_iload 3 62) := rfl
theorem at_94_62 : am_code 94 62 = some (ai_bin (fun x y => x + y) 63) := rfl
theorem at_94_63 : am_code 94 63 = some (ai_ald 63 300 64) := rfl
theorem at_94_64 : am_code 94 64 = some (ai_istore 5 66) := rfl
theorem at_94_66 : am_code 94 66 = some (ai_iload 4 68) := rfl
theorem at_94_68 : am_code 94 68 = some (ai_if (fun x => x = 0) 81 71) := rfl
theorem at_94_71 : am_code 94 71 = some (ai_iload 5 73) := rfl
theorem at_94_73 : am_code 94 73 = some (ai_if (fun x => x ≤ 0) 81 76) := rfl
theorem at_94_76 : am_code 94 76 = some (ai_iload 5 78) := rfl
theorem at_94_78 : am_code 94 78 = some (ai_goto 84) := rfl
theorem at_94_81 : am_code 94 81 = some (ai_push 1000 84) := rfl
theorem at_94_84 : am_code 94 84 = some (ai_iret) := rfl
theorem at_95_0 : am_code 95 0 = some (ai_push 0 1) := rfl
theorem at_95_1 : am_code 95 1 = some (ai_istore 2 2) := rfl
theorem at_95_2 : am_code 95 2 = some (ai_iload 2 3) := rfl
theorem at_95_3 : am_code 95 3 = some (ai_push 25 5) := rfl
theorem at_95_5 : am_code 95 5 = some (ai_icmp (fun x y => y ≤ x) 42 8) := rfl
theorem at_95_8 : am_code 95 8 = some (ai_aload 0 9) := rfl
theorem at_95_9 : am_code 95 9 = some (ai_getP 50 24 12) := rfl
theorem at_95_12 : am_code 95 12 = some (ai_iload 2 13) := rfl
theorem at_95_13 : am_code 95 13 = some (ai_iload 2 14) := rfl
theorem at_95_14 : am_code 95 14 = some (ai_push 6 16) := rfl
theorem at_95_16 : am_code 95 16 = some (ai_div (fun x y => x - x / y * y) 17) := rfl
theorem at_95_17 : am_code 95 17 = some (ai_if (fun x => ¬ x = 0) 24 20) := rfl
theorem at_95_20 : am_code 95 20 = some (ai_push 0 21) := rfl
theorem at_95_21 : am_code 95 21 = some (ai_goto 35) := rfl
theorem at_95_24 : am_code 95 24 = some (ai_aload 0 25) := rfl
theorem at_95_25 : am_code 95 25 = some (ai_iload 1 26) := rfl
theorem at_95_26 : am_code 95 26 = some (ai_iload 2 27) := rfl
theorem at_95_27 : am_code 95 27 = some (ai_push 5 28) := rfl
theorem at_95_28 : am_code 95 28 = some (ai_div (fun x y => x / y) 29) := rfl
theorem at_95_29 : am_code 95 29 = some (ai_iload 2 30) := rfl
theorem at_95_30 : am_code 95 30 = some (ai_push 5 31) := rfl
theorem at_95_31 : am_code 95 31 = some (ai_div (fun x y => x - x / y * y) 32) := rfl
theorem at_95_32 : am_code 95 32 = some (ai_callV 94 50 3 35) := rfl
theorem at_95_35 : am_code 95 35 = some (ai_ast 74 25 36) := rfl
theorem at_95_36 : am_code 95 36 = some (ai_iinc 2 1 39) := rfl
theorem at_95_39 : am_code 95 39 = some (ai_goto 2) := rfl
theorem at_95_42 : am_code 95 42 = some (ai_push 0 43) := rfl
theorem at_95_43 : am_code 95 43 = some (ai_istore 2 44) := rfl
theorem at_95_44 : am_code 95 44 = some (ai_iload 2 45) := rfl
theorem at_95_45 : am_code 95 45 = some (ai_push 5 46) := rfl
theorem at_95_46 : am_code 95 46 = some (ai_icmp (fun x y => y ≤ x) 124 49) := rfl
theorem at_95_49 : am_code 95 49 = some (ai_push 0 50) := rfl
theorem at_95_50 : am_code 95 50 = some (ai_istore 3 51) := rfl
theorem at_95_51 : am_code 95 51 = some (ai_iload 3 52) := rfl
theorem at_95_52 : am_code 95 52 = some (ai_push 25 54) := rfl
theorem at_95_54 : am_code 95 54 = some (ai_icmp (fun x y => y ≤ x) 118 57) := rfl
theorem at_95_57 : am_code 95 57 = some (ai_aload 0 58) := rfl
theorem at_95_58 : am_code 95 58 = some (ai_getP 50 24 61) := rfl
theorem at_95_61 : am_code 95 61 = some (ai_iload 3 62) := rfl
theorem at_95_62 : am_code 95 62 = some (ai_push 5 63) := rfl
theorem at_95_63 : am_code 95 63 = some (ai_div (fun x y => x / y) 64) := rfl
theorem at_95_64 : am_code 95 64 = some (ai_push 5 65) := rfl
theorem at_95_65 : am_code 95 65 = some (ai_bin (fun x y => x * y) 66) := rfl
theorem at_95_66 : am_code 95 66 = some (ai_iload 2 67) := rfl
theorem at_95_67 : am_code 95 67 = some (ai_bin (fun x y => x + y) 68) := rfl
theorem at_95_68 : am_code 95 68 = some (ai_ald 74 25 69) := rfl
theorem at_95_69 : am_code 95 69 = some (ai_aload 0 70) := rfl
theorem at_95_70 : am_code 95 70 = some (ai_getP 50 24 73) := rfl
theorem at_95_73 : am_code 95 73 = some (ai_push 5 74) := rfl
theorem at_95_74 : am_code 95 74 = some (ai_iload 2 75) := rfl
theorem at_95_75 : am_code 95 75 = some (ai_bin (fun x y => x * y) 76) := rfl
theorem at_95_76 : am_code 95 76 = some (ai_iload 3 77) := rfl
theorem at_95_77 : am_code 95 77 = some (ai_push 5 78) := rfl
theorem at_95_78 : am_code 95 78 = some (ai_div (fun x y => x - x / y * y) 79) := rfl
theorem at_95_79 : am_code 95 79 = some (ai_bin (fun x y => x + y) 80) := rfl
theorem at_95_80 : am_code 95 80 = some (ai_ald 74 25 81) := rfl
theorem at_95_81 : am_code 95 81 = some (ai_bin (fun x y => x + y) 82) := rfl
theorem at_95_82 : am_code 95 82 = some (ai_istore 4 84) := rfl
theorem at_95_84 : am_code 95 84 = some (ai_aload 0 85) := rfl
theorem at_95_85 : am_code 95 85 = some (ai_getP 50 24 88) := rfl
theorem at_95_88 : am_code 95 88 = some (ai_iload 3 89) := rfl
theorem at_95_89 : am_code 95 89 = some (ai_iload 4 91) := rfl
theorem at_95_91 : am_code 95 91 = some (ai_aload 0 92) := rfl
theorem at_95_92 : am_code 95 92 = some (ai_getP 50 24 95) := rfl
theorem at_95_95 : am_code 95 95 = some (ai_iload 3 96) := rfl
theorem at_95_96 : am_code 95 96 = some (ai_ald 74 25 97) := rfl
theorem at_95_97 : am_code 95 97 = some (ai_icmp (fun x y => y ≤ x) 105 100) := rfl
theorem at_95_100 : am_code 95 100 = some (ai_iload 4 102) := rfl
theorem at_95_102 : am_code 95 102 = some (ai_goto 111) := rfl
theorem at_95_105 : am_code 95 105 = some (ai_aload 0 106) := rfl
theorem at_95_106 : am_code 95 106 = some (ai_getP 50 24 109) := rfl
theorem at_95_109 : am_code 95 109 = some (ai_iload 3 110) := rfl
theorem at_95_110 : am_code 95 110 = some (ai_ald 74 25 111) := rfl
theorem at_95_111 : am_code 95 111 = some (ai_ast 74 25 112) := rfl
theorem at_95_112 : am_code 95 112 = some (ai_iinc 3 1 115) := rfl
theorem at_95_115 : am_code 95 115 = some (ai_goto 51) := rfl
theorem at_95_118 : am_code 95 118 = some (ai_iinc 2 1 121) := rfl
theorem at_95_121 : am_code 95 121 = some (ai_goto 44) := rfl
theorem at_95_124 : am_code 95 124 = some (ai_ret) := rfl
theorem at_96_0 : am_code 96 0 = some (ai_iload 1 1) := rfl
theorem at_96_1 : am_code 96 1 = some (ai_callS 67 1 4) := rfl
theorem at_96_4 : am_code 96 4 = some (ai_if (fun x => x = 0) 23 7) := rfl
theorem at_96_7 : am_code 96 7 = some (ai_iload 2 8) := rfl
theorem at_96_8 : am_code 96 8 = some (ai_callS 67 1 11) := rfl
theorem at_96_11 : am_code 96 11 = some (ai_if (fun x => x = 0) 23 14) := rfl
theorem at_96_14 : am_code 96 14 = some (ai_aload 0 15) := rfl
theorem at_96_15 : am_code 96 15 = some (ai_getP 50 1 18) := rfl
theorem at_96_18 : am_code 96 18 = some (ai_iload 1 19) := rfl
theorem at_96_19 : am_code 96 19 = some (ai_ald 51 5 20) := rfl
theorem at_96_20 : am_code 96 20 = some (ai_if (fun x => x = 0) 25 23) := rfl
theorem at_96_23 : am_code 96 23 = some (ai_push (-1) 24) := rfl
theorem at_96_24 : am_code 96 24 = some (ai_iret) := rfl
theorem at_96_25 : am_code 96 25 = some (ai_aload 0 26) := rfl
theorem at_96_26 : am_code 96 26 = some (ai_iload 1 27) := rfl
theorem at_96_27 : am_code 96 27 = some (ai_callV 95 50 1 30) := rfl
theorem at_96_30 : am_code 96 30 = some (ai_aload 0 31) := rfl
theorem at_96_31 : am_code 96 31 = some (ai_getP 50 24 34) := rfl
theorem at_96_34 : am_code 96 34 = some (ai_push 5 35) := rfl
theorem at_96_35 : am_code 96 35 = some (ai_iload 1 36) := rfl
theorem at_96_36 : am_code 96 36 = some (ai_bin (fun x y => x * y) 37) := rfl
theorem at_96_37 : am_code 96 37 = some (ai_iload 2 38) := rfl
theorem at_96_38 : am_code 96 38 = some (ai_bin (fun x y => x + y) 39) := rfl
theorem at_96_39 : am_code 96 39 = some (ai_ald 74 25 40) := rfl
theorem at_96_40 : am_code 96 40 = some (ai_push 1000 43) := rfl
theorem at_96_43 : am_code 96 43 = some (ai_icmp (fun x y => y ≤ x) 59 46) := rfl
theorem at_96_46 : am_code 96 46 = some (ai_aload 0 47) := rfl
theorem at_96_47 : am_code 96 47 = some (ai_getP 50 24 50) := rfl
theorem at_96_50 : am_code 96 50 = some (ai_push 5 51) := rfl
theorem at_96_51 : am_code 96 51 = some (ai_iload 1 52) := rfl
theorem at_96_52 : am_code 96 52 = some (ai_bin (fun x y => x * y) 53) := rfl
theorem at_96_53 : am_code 96 53 = some (ai_iload 2 54) := rfl
theorem at_96_54 : am_code 96 54 = some (ai_bin (fun x y => x + y) 55) := rfl
theorem at_96_55 : am_code 96 55 = some (ai_ald 74 25 56) := rfl
theorem at_96_56 : am_code 96 56 = some (ai_goto 60) := rfl
theorem at_96_59 : am_code 96 59 = some (ai_push (-1) 60) := rfl
theorem at_96_60 : am_code 96 60 = some (ai_iret) := rfl
theorem at_97_0 : am_code 97 0 = some (ai_iload 1 1) := rfl
theorem at_97_1 : am_code 97 1 = some (ai_callS 67 1 4) := rfl
theorem at_97_4 : am_code 97 4 = some (ai_if (fun x => x = 0) 28 7) := rfl
theorem at_97_7 : am_code 97 7 = some (ai_iload 2 8) := rfl
theorem at_97_8 : am_code 97 8 = some (ai_callS 67 1 11) := rfl
theorem at_97_11 : am_code 97 11 = some (ai_if (fun x => x = 0) 28 14) := rfl
theorem at_97_14 : am_code 97 14 = some (ai_aload 0 15) := rfl
theorem at_97_15 : am_code 97 15 = some (ai_getP 50 1 18) := rfl
theorem at_97_18 : am_code 97 18 = some (ai_iload 1 19) := rfl
theorem at_97_19 : am_code 97 19 = some (ai_ald 51 5 20) := rfl
theorem at_97_20 : am_code 97 20 = some (ai_if (fun x => ¬ x = 0) 28 23) := rfl
theorem at_97_23 : am_code 97 23 = some (ai_iload 1 24) := rfl
theorem at_97_24 : am_code 97 24 = some (ai_iload 2 25) := rfl
theorem at_97_25 : am_code 97 25 = some (ai_icmp (fun x y => ¬ x = y) 30 28) := rfl
theorem at_97_28 : am_code 97 28 = some (ai_push (-1) 29) := rfl
theorem at_97_29 : am_code 97 29 = some (ai_iret) := rfl
theorem at_97_30 : am_code 97 30 = some (ai_aload 0 31) := rfl
theorem at_97_31 : am_code 97 31 = some (ai_iload 1 32) := rfl
theorem at_97_32 : am_code 97 32 = some (ai_callV 95 50 1 35) := rfl
theorem at_97_35 : am_code 97 35 = some (ai_push (-1) 36) := rfl
theorem at_97_36 : am_code 97 36 = some (ai_istore 3 37) := rfl
theorem at_97_37 : am_code 97 37 = some (ai_push 4 38) := rfl
theorem at_97_38 : am_code 97 38 = some (ai_istore 4 40) := rfl
theorem at_97_40 : am_code 97 40 = some (ai_iload 4 42) := rfl
theorem at_97_42 : am_code 97 42 = some (ai_if (fun x => x < 0) 131 45) := rfl
theorem at_97_45 : am_code 97 45 = some (ai_iload 4 47) := rfl
theorem at_97_47 : am_code 97 47 = some (ai_iload 1 48) := rfl
theorem at_97_48 : am_code 97 48 = some (ai_icmp (fun x y => ¬ x = y) 57 51) := rfl
theorem at_97_51 : am_code 97 51 = some (ai_push 1000 54) := rfl
theorem at_97_54 : am_code 97 54 = some (ai_goto 65) := rfl
theorem at_97_57 : am_code 97 57 = some (ai_aload 0 58) := rfl
theorem at_97_58 : am_code 97 58 = some (ai_iload 1 59) := rfl
theorem at_97_59 : am_code 97 59 = some (ai_iload 1 60) := rfl
theorem at_97_60 : am_code 97 60 = some (ai_iload 4 62) := rfl
theorem at_97_62 : am_code 97 62 = some (ai_callV 94 50 3 65) := rfl
theorem at_97_65 : am_code 97 65 = some (ai_istore 5 67) := rfl
theorem at_97_67 : am_code 97 67 = some (ai_aload 0 68) := rfl
theorem at_97_68 : am_code 97 68 = some (ai_getP 50 24 71) := rfl
theorem at_97_71 : am_code 97 71 = some (ai_push 5 72) := rfl
theorem at_97_72 : am_code 97 72 = some (ai_iload 1 73) := rfl
theorem at_97_73 : am_code 97 73 = some (ai_bin (fun x y => x * y) 74) := rfl
theorem at_97_74 : am_code 97 74 = some (ai_iload 2 75) := rfl
theorem at_97_75 : am_code 97 75 = some (ai_bin (fun x y => x + y) 76) := rfl
theorem at_97_76 : am_code 97 76 = some (ai_ald 74 25 77) := rfl
theorem at_97_77 : am_code 97 77 = some (ai_push 1000 80) := rfl
theorem at_97_80 : am_code 97 80 = some (ai_icmp (fun x y => y ≤ x) 123 83) := rfl
theorem at_97_83 : am_code 97 83 = some (ai_iload 5 85) := rfl
theorem at_97_85 : am_code 97 85 = some (ai_push 1000 88) := rfl
theorem at_97_88 : am_code 97 88 = some (ai_icmp (fun x y => y ≤ x) 123 91) := rfl
theorem at_97_91 : am_code 97 91 = some (ai_iload 5 93) := rfl
theorem at_97_93 : am_code 97 93 = some (ai_aload 0 94) := rfl
theorem at_97_94 : am_code 97 94 = some (ai_getP 50 24 97) := rfl
theorem at_97_97 : am_code 97 97 = some (ai_push 5 98) := rfl
theorem at_97_98 : am_code 97 98 = some (ai_iload 4 100) := rfl
theorem at_97_100 : am_code 97 100 = some (ai_bin (fun x y => x * y) 101) := rfl
theorem at_97_101 : am_code 97 101 = some (ai_iload 2 102) := rfl
theorem at_97_102 : am_code 97 102 = some (ai_bin (fun x y => x + y) 103) := rfl
theorem at_97_103 : am_code 97 103 = some (ai_ald 74 25 104) := rfl
theorem at_97_104 : am_code 97 104 = some (ai_bin (fun x y => x + y) 105) := rfl
theorem at_97_105 : am_code 97 105 = some (ai_aload 0 106) := rfl
theorem at_97_106 : am_code 97 106 = some (ai_getP 50 24 109) := rfl
theorem at_97_109 : am_code 97 109 = some (ai_push 5 110) := rfl
theorem at_97_110 : am_code 97 110 = some (ai_iload 1 111) := rfl
theorem at_97_111 : am_code 97 111 = some (ai_bin (fun x y => x * y) 112) := rfl
theorem at_97_112 : am_code 97 112 = some (ai_iload 2 113) := rfl
theorem at_97_113 : am_code 97 113 = some (ai_bin (fun x y => x + y) 114) := rfl
theorem at_97_114 : am_code 97 114 = some (ai_ald 74 25 115) := rfl
theorem at_97_115 : am_code 97 115 = some (ai_icmp (fun x y => ¬ x = y) 123 118) := rfl
theorem at_97_118 : am_code 97 118 = some (ai_iload 4 120) := rfl
theorem at_97_120 : am_code 97 120 = some (ai_goto 124) := rfl
theorem at_97_123 : am_code 97 123 = some (ai_iload 3 124) := rfl
theorem at_97_124 : am_code 97 124 = some (ai_istore 3 125) := rfl
theorem at_97_125 : am_code 97 125 = some (ai_iinc 4 (-1) 128) := rfl
theorem at_97_128 : am_code 97 128 = some (ai_goto 40) := rfl
theorem at_97_131 : am_code 97 131 = some (ai_iload 3 132) := rfl
theorem at_97_132 : am_code 97 132 = some (ai_iret) := rfl
theorem at_98_0 : am_code 98 0 = some (ai_iload 1 1) := rfl
theorem at_98_1 : am_code 98 1 = some (ai_callS 67 1 4) := rfl
theorem at_98_4 : am_code 98 4 = some (ai_if (fun x => x = 0) 27 7) := rfl
theorem at_98_7 : am_code 98 7 = some (ai_aload 0 8) := rfl
theorem at_98_8 : am_code 98 8 = some (ai_getP 50 1 11) := rfl
theorem at_98_11 : am_code 98 11 = some (ai_iload 1 12) := rfl
theorem at_98_12 : am_code 98 12 = some (ai_ald 51 5 13) := rfl
theorem at_98_13 : am_code 98 13 = some (ai_if (fun x => ¬ x = 0) 27 16) := rfl
theorem at_98_16 : am_code 98 16 = some (ai_iload 2 17) := rfl
theorem at_98_17 : am_code 98 17 = some (ai_if (fun x => x < 0) 27 20) := rfl
theorem at_98_20 : am_code 98 20 = some (ai_iload 2 21) := rfl
theorem at_98_21 : am_code 98 21 = some (ai_push 255 24) := rfl
theorem at_98_24 : am_code 98 24 = some (ai_icmp (fun x y => x ≤ y) 29 27) := rfl
theorem at_98_27 : am_code 98 27 = some (ai_push (-1) 28) := rfl
theorem at_98_28 : am_code 98 28 = some (ai_iret) := rfl
theorem at_98_29 : am_code 98 29 = some (ai_aload 0 30) := rfl
theorem at_98_30 : am_code 98 30 = some (ai_iload 1 31) := rfl
theorem at_98_31 : am_code 98 31 = some (ai_callV 95 50 1 34) := rfl
theorem at_98_34 : am_code 98 34 = some (ai_push (-1) 35) := rfl
theorem at_98_35 : am_code 98 35 = some (ai_istore 3 36) := rfl
theorem at_98_36 : am_code 98 36 = some (ai_push (-1) 37) := rfl
theorem at_98_37 : am_code 98 37 = some (ai_istore 4 39) := rfl
theorem at_98_39 : am_code 98 39 = some (ai_push 0 40) := rfl
theorem at_98_40 : am_code 98 40 = some (ai_istore 5 42) := rfl
theorem at_98_42 : am_code 98 42 = some (ai_push 0 43) := rfl
theorem at_98_43 : am_code 98 43 = some (ai_istore 6 45) := rfl
theorem at_98_45 : am_code 98 45 = some (ai_iload 6 47) := rfl
theorem at_98_47 : am_code 98 47 = some (ai_push 10 49) := rfl
theorem at_98_49 : am_code 98 49 = some (ai_icmp (fun x y => y ≤ x) 233 52) := rfl
theorem at_98_52 : am_code 98 52 = some (ai_iload 6 54) := rfl
theorem at_98_54 : am_code 98 54 = some (ai_push 2 55) := rfl
theorem at_98_55 : am_code 98 55 = some (ai_div (fun x y => x / y) 56) := rfl
theorem at_98_56 : am_code 98 56 = some (ai_istore 7 58) := rfl
theorem at_98_58 : am_code 98 58 = some (ai_push 2 59) := rfl
theorem at_98_59 : am_code 98 59 = some (ai_push 5 60) := rfl
theorem at_98_60 : am_code 98 60 = some (ai_iload 1 61) := rfl
theorem at_98_61 : am_code 98 61 = some (ai_bin (fun x y => x * y) 62) := rfl
theorem at_98_62 : am_code 98 62 = some (ai_iload 7 64) := rfl
theorem at_98_64 : am_code 98 64 = some (ai_bin (fun x y => x + y) 65) := rfl
theorem at_98_65 : am_code 98 65 = some (ai_bin (fun x y => x * y) 66) := rfl
theorem at_98_66 : am_code 98 66 = some (ai_iload 6 68) := rfl
theorem at_98_68 : am_code 98 68 = some (ai_push 2 69) := rfl
theorem at_98_69 : am_code 98 69 = some (ai_div (fun x y => x - x / y * y) 70) := rfl
theorem at_98_70 : am_code 98 70 = some (ai_bin (fun x y => x + y) 71) := rfl
theorem at_98_71 : am_code 98 71 = some (ai_istore 8 73) := rfl
theorem at_98_73 : am_code 98 73 = some (ai_aload 0 74) := rfl
theorem at_98_74 : am_code 98 74 = some (ai_getP 50 11 77) := rfl
theorem at_98_77 : am_code 98 77 = some (ai_push 5 78) := rfl
theorem at_98_78 : am_code 98 78 = some (ai_iload 1 79) := rfl
theorem at_98_79 : am_code 98 79 = some (ai_bin (fun x y => x * y) 80) := rfl
theorem at_98_80 : am_code 98 80 = some (ai_iload 7 82) := rfl
theorem at_98_82 : am_code 98 82 = some (ai_bin (fun x y => x + y) 83) := rfl
theorem at_98_83 : am_code 98 83 = some (ai_ald 61 60 84) := rfl
theorem at_98_84 : am_code 98 84 = some (ai_if (fun x => x ≤ 0) 151 87) := rfl
theorem at_98_87 : am_code 98 87 = some (ai_aload 0 88) := rfl
theorem at_98_88 : am_code 98 88 = some (ai_getP 50 24 91) := rfl
theorem at_98_91 : am_code 98 91 = some (ai_push 5 92) := rfl
theorem at_98_92 : am_code 98 92 = some (ai_iload 1 93) := rfl
theorem at_98_93 : am_code 98 93 = some (ai_bin (fun x y => x * y) 94) := rfl
theorem at_98_94 : am_code 98 94 = some (ai_iload 7 96) := rfl
theorem at_98_96 : am_code 98 96 = some (ai_bin (fun x y => x + y) 97) := rfl
theorem at_98_97 : am_code 98 97 = some (ai_ald 74 25 98) := rfl
theorem at_98_98 : am_code 98 98 = some (ai_push 1000 101) := rfl
theorem at_98_101 : am_code 98 101 = some (ai_icmp (fun x y => y ≤ x) 151 104) := rfl
theorem at_98_104 : am_code 98 104 = some (ai_aload 0 105) := rfl
theorem at_98_105 : am_code 98 105 = some (ai_getP 50 16 108) := rfl
theorem at_98_108 : am_code 98 108 = some (ai_iload 8 110) := rfl
theorem at_98_110 : am_code 98 110 = some (ai_ald 66 120 111) := rfl
theorem at_98_111 : am_code 98 111 = some (ai_if (fun x => x ≤ 0) 151 114) := rfl
theorem at_98_114 : am_code 98 114 = some (ai_iload 2 115) := rfl
theorem at_98_115 : am_code 98 115 = some (ai_push 8 117) := rfl
theorem at_98_117 : am_code 98 117 = some (ai_aload 0 118) := rfl
theorem at_98_118 : am_code 98 118 = some (ai_getP 50 15 121) := rfl
theorem at_98_121 : am_code 98 121 = some (ai_iload 8 123) := rfl
theorem at_98_123 : am_code 98 123 = some (ai_ald 65 120 124) := rfl
theorem at_98_124 : am_code 98 124 = some (ai_bin (fun x y => x - y) 125) := rfl
theorem at_98_125 : am_code 98 125 = some (ai_bin (fun x y => x >>> (y &&& 31)) 126) := rfl
theorem at_98_126 : am_code 98 126 = some (ai_aload 0 127) := rfl
theorem at_98_127 : am_code 98 127 = some (ai_getP 50 14 130) := rfl
theorem at_98_130 : am_code 98 130 = some (ai_iload 8 132) := rfl
theorem at_98_132 : am_code 98 132 = some (ai_ald 64 120 133) := rfl
theorem at_98_133 : am_code 98 133 = some (ai_push 8 135) := rfl
theorem at_98_135 : am_code 98 135 = some (ai_aload 0 136) := rfl
theorem at_98_136 : am_code 98 136 = some (ai_getP 50 15 139) := rfl
theorem at_98_139 : am_code 98 139 = some (ai_iload 8 141) := rfl
theorem at_98_141 : am_code 98 141 = some (ai_ald 65 120 142) := rfl
theorem at_98_142 : am_code 98 142 = some (ai_bin (fun x y => x - y) 143) := rfl
theorem at_98_143 : am_code 98 143 = some (ai_bin (fun x y => x >>> (y &&& 31)) 144) := rfl
theorem at_98_144 : am_code 98 144 = some (ai_icmp (fun x y => ¬ x = y) 151 147) := rfl
theorem at_98_147 : am_code 98 147 = some (ai_push 1 148) := rfl
theorem at_98_148 : am_code 98 148 = some (ai_goto 152) := rfl
theorem at_98_151 : am_code 98 151 = some (ai_push 0 152) := rfl
theorem at_98_152 : am_code 98 152 = some (ai_istore 9 154) := rfl
theorem at_98_154 : am_code 98 154 = some (ai_aload 0 155) := rfl
theorem at_98_155 : am_code 98 155 = some (ai_getP 50 24 158) := rfl
theorem at_98_158 : am_code 98 158 = some (ai_push 5 159) := rfl
theorem at_98_159 : am_code 98 159 = some (ai_iload 1 160) := rfl
theorem at_98_160 : am_code 98 160 = some (ai_bin (fun x y => x * y) 161) := rfl
theorem at_98_161 : am_code 98 161 = some (ai_iload 7 163) := rfl
theorem at_98_163 : am_code 98 163 = some (ai_bin (fun x y => x + y) 164) := rfl
theorem at_98_164 : am_code 98 164 = some (ai_ald 74 25 165) := rfl
theorem at_98_165 : am_code 98 165 = some (ai_aload 0 166) := rfl
theorem at_98_166 : am_code 98 166 = some (ai_getP 50 16 169) := rfl
theorem at_98_169 : am_code 98 169 = some (ai_iload 8 171) := rfl
theorem at_98_171 : am_code 98 171 = some (ai_ald 66 120 172) := rfl
theorem at_98_172 : am_code 98 172 = some (ai_bin (fun x y => x + y) 173) := rfl
theorem at_98_173 : am_code 98 173 = some (ai_istore 10 175) := rfl
theorem at_98_175 : am_code 98 175 = some (ai_iload 9 177) := rfl
theorem at_98_177 : am_code 98 177 = some (ai_if (fun x => x = 0) 227 180) := rfl
theorem at_98_180 : am_code 98 180 = some (ai_aload 0 181) := rfl
theorem at_98_181 : am_code 98 181 = some (ai_getP 50 15 184) := rfl
theorem at_98_184 : am_code 98 184 = some (ai_iload 8 186) := rfl
theorem at_98_186 : am_code 98 186 = some (ai_ald 65 120 187) := rfl
theorem at_98_187 : am_code 98 187 = some (ai_iload 4 189) := rfl
theorem at_98_189 : am_code 98 189 = some (ai_icmp (fun x y => y < x) 211 192) := rfl
theorem at_98_192 : am_code 98 192 = some (ai_aload 0 193) := rfl
theorem at_98_193 : am_code 98 193 = some (ai_getP 50 15 196) := rfl
theorem at_98_196 : am_code 98 196 = some (ai_iload 8 198) := rfl
theorem at_98_198 : am_code 98 198 = some (ai_ald 65 120 199) := rfl
theorem at_98_199 : am_code 98 199 = some (ai_iload 4 201) := rfl
theorem at_98_201 : am_code 98 201 = some (ai_icmp (fun x y => ¬ x = y) 227 204) := rfl
theorem at_98_204 : am_code 98 204 = some (ai_iload 10 206) := rfl
theorem at_98_206 : am_code 98 206 = some (ai_iload 5 208) := rfl
theorem at_98_208 : am_code 98 208 = some (ai_icmp (fun x y => y ≤ x) 227 211) := rfl
theorem at_98_211 : am_code 98 211 = some (ai_iload 7 213) := rfl
theorem at_98_213 : am_code 98 213 = some (ai_istore 3 214) := rfl
theorem at_98_214 : am_code 98 214 = some (ai_aload 0 215) := rfl
theorem at_98_215 : am_code 98 215 = some (ai_getP 50 15 218) := rfl
theorem at_98_218 : am_code 98 218 = some (ai_iload 8 220) := rfl
theorem at_98_220 : am_code 98 220 = some (ai_ald 65 120 221) := rfl
theorem at_98_221 : am_code 98 221 = some (ai_istore 4 223) := rfl
theorem at_98_223 : am_code 98 223 = some (ai_iload 10 225) := rfl
theorem at_98_225 : am_code 98 225 = some (ai_istore 5 227) := rfl
theorem at_98_227 : am_code 98 227 = some (ai_iinc 6 1 230) := rfl
theorem at_98_230 : am_code 98 230 = some (ai_goto 45) := rfl
theorem at_98_233 : am_code 98 233 = some (ai_iload 3 234) := rfl
theorem at_98_234 : am_code 98 234 = some (ai_iret) := rfl
theorem at_99_0 : am_code 99 0 = some (ai_iload 1 1) := rfl
theorem at_99_1 : am_code 99 1 = some (ai_callS 67 1 4) := rfl
theorem at_99_4 : am_code 99 4 = some (ai_if (fun x => x = 0) 38 7) := rfl
theorem at_99_7 : am_code 99 7 = some (ai_aload 0 8) := rfl
theorem at_99_8 : am_code 99 8 = some (ai_getP 50 1 11) := rfl
theorem at_99_11 : am_code 99 11 = some (ai_iload 1 12) := rfl
theorem at_99_12 : am_code 99 12 = some (ai_ald 51 5 13) := rfl
theorem at_99_13 : am_code 99 13 = some (ai_if (fun x => ¬ x = 0) 38 16) := rfl
theorem at_99_16 : am_code 99 16 = some (ai_iload 2 17) := rfl
theorem at_99_17 : am_code 99 17 = some (ai_if (fun x => x < 0) 38 20) := rfl
theorem at_99_20 : am_code 99 20 = some (ai_iload 2 21) := rfl
theorem at_99_21 : am_code 99 21 = some (ai_push 255 24) := rfl
theorem at_99_24 : am_code 99 24 = some (ai_icmp (fun x y => y < x) 38 27) := rfl
theorem at_99_27 : am_code 99 27 = some (ai_iload 3 28) := rfl
theorem at_99_28 : am_code 99 28 = some (ai_push 1 29) := rfl
theorem at_99_29 : am_code 99 29 = some (ai_icmp (fun x y => x < y) 38 32) := rfl
theorem at_99_32 : am_code 99 32 = some (ai_iload 3 33) := rfl
theorem at_99_33 : am_code 99 33 = some (ai_push 15 35) := rfl
theorem at_99_35 : am_code 99 35 = some (ai_icmp (fun x y => x ≤ y) 40 38) := rfl
theorem at_99_38 : am_code 99 38 = some (ai_push (-1) 39) := rfl
theorem at_99_39 : am_code 99 39 = some (ai_iret) := rfl
theorem at_99_40 : am_code 99 40 = some (ai_iload 1 41) := rfl
theorem at_99_41 : am_code 99 41 = some (ai_istore 4 43) := rfl
theorem at_99_43 : am_code 99 43 = some (ai_iload 3 44) := rfl
theorem at_99_44 : am_code 99 44 = some (ai_istore 5 46) := rfl
theorem at_99_46 : am_code 99 46 = some (ai_push 0 47) := rfl
theorem at_99_47 : am_code 99 47 = some (ai_istore 6 49) := rfl
theorem at_99_49 : am_code 99 49 = some (ai_iload 6 51) := rfl
theorem at_99_51 : am_code 99 51 = some (ai_push 16 53) := rfl
theorem at_99_53 : am_code 99 53 = some (ai_icmp (fun x y => y ≤ x) 157 56) := rfl
theorem at_99_56 : am_code 99 56 = some (ai_aload 0 57) := rfl
theorem at_99_57 : am_code 99 57 = some (ai_iload 4 59) := rfl
theorem at_99_59 : am_code 99 59 = some (ai_iload 2 60) := rfl
theorem at_99_60 : am_code 99 60 = some (ai_callV 98 50 2 63) := rfl
theorem at_99_63 : am_code 99 63 = some (ai_istore 7 65) := rfl
theorem at_99_65 : am_code 99 65 = some (ai_iload 7 67) := rfl
theorem at_99_67 : am_code 99 67 = some (ai_if (fun x => 0 ≤ x) 77 70) := rfl
theorem at_99_70 : am_code 99 70 = some (ai_push 300 73) := rfl
theorem at_99_73 : am_code 99 73 = some (ai_iload 4 75) := rfl
theorem at_99_75 : am_code 99 75 = some (ai_bin (fun x y => x + y) 76) := rfl
theorem at_99_76 : am_code 99 76 = some (ai_iret) := rfl
theorem at_99_77 : am_code 99 77 = some (ai_iload 7 79) := rfl
theorem at_99_79 : am_code 99 79 = some (ai_iload 4 81) := rfl
theorem at_99_81 : am_code 99 81 = some (ai_icmp (fun x y => ¬ x = y) 90 84) := rfl
theorem at_99_84 : am_code 99 84 = some (ai_push 100 86) := rfl
theorem at_99_86 : am_code 99 86 = some (ai_iload 4 88) := rfl
theorem at_99_88 : am_code 99 88 = some (ai_bin (fun x y => x + y) 89) := rfl
theorem at_99_89 : am_code 99 89 = some (ai_iret) := rfl
theorem at_99_90 : am_code 99 90 = some (ai_iload 5 92) := rfl
theorem at_99_92 : am_code 99 92 = some (ai_push 1 93) := rfl
theorem at_99_93 : am_code 99 93 = some (ai_icmp (fun x y => ¬ x = y) 103 96) := rfl
theorem at_99_96 : am_code 99 96 = some (ai_push 200 99) := rfl
theorem at_99_99 : am_code 99 99 = some (ai_iload 4 101) := rfl
theorem at_99_101 : am_code 99 101 = some (ai_bin (fun x y => x + y) 102) := rfl
theorem at_99_102 : am_code 99 102 = some (ai_iret) := rfl
theorem at_99_103 : am_code 99 103 = some (ai_iload 5 105) := rfl
theorem at_99_105 : am_code 99 105 = some (ai_push 1 106) := rfl
theorem at_99_106 : am_code 99 106 = some (ai_bin (fun x y => x - y) 107) := rfl
theorem at_99_107 : am_code 99 107 = some (ai_istore 5 109) := rfl
theorem at_99_109 : am_code 99 109 = some (ai_aload 0 110) := rfl
theorem at_99_110 : am_code 99 110 = some (ai_iload 4 112) := rfl
theorem at_99_112 : am_code 99 112 = some (ai_iload 7 114) := rfl
theorem at_99_114 : am_code 99 114 = some (ai_callV 97 50 2 117) := rfl
theorem at_99_117 : am_code 99 117 = some (ai_istore 8 119) := rfl
theorem at_99_119 : am_code 99 119 = some (ai_aload 0 120) := rfl
theorem at_99_120 : am_code 99 120 = some (ai_iload 4 122) := rfl
theorem at_99_122 : am_code 99 122 = some (ai_iload 8 124) := rfl
theorem at_99_124 : am_code 99 124 = some (ai_callV 68 50 2 127) := rfl
theorem at_99_127 : am_code 99 127 = some (ai_if (fun x => x = 0) 140 130) := rfl
theorem at_99_130 : am_code 99 130 = some (ai_aload 0 131) := rfl
theorem at_99_131 : am_code 99 131 = some (ai_getP 50 1 134) := rfl
theorem at_99_134 : am_code 99 134 = some (ai_iload 8 136) := rfl
theorem at_99_136 : am_code 99 136 = some (ai_ald 51 5 137) := rfl
theorem at_99_137 : am_code 99 137 = some (ai_if (fun x => x = 0) 147 140) := rfl
theorem at_99_140 : am_code 99 140 = some (ai_push 400 143) := rfl
theorem at_99_143 : am_code 99 143 = some (ai_iload 4 145) := rfl
theorem at_99_145 : am_code 99 145 = some (ai_bin (fun x y => x + y) 146) := rfl
theorem at_99_146 : am_code 99 146 = some (ai_iret) := rfl
theorem at_99_147 : am_code 99 147 = some (ai_iload 8 149) := rfl
theorem at_99_149 : am_code 99 149 = some (ai_istore 4 151) := rfl
theorem at_99_151 : am_code 99 151 = some (ai_iinc 6 1 154) := rfl
theorem at_99_154 : am_code 99 154 = some (ai_goto 49) := rfl
theorem at_99_157 : am_code 99 157 = some (ai_push (-1) 158) := rfl
theorem at_99_158 : am_code 99 158 = some (ai_iret) := rfl
theorem at_100_0 : am_code 100 0 = some (ai_iload 1 1) := rfl
theorem at_100_1 : am_code 100 1 = some (ai_if (fun x => x < 0) 10 4) := rfl
theorem at_100_4 : am_code 100 4 = some (ai_iload 1 5) := rfl
theorem at_100_5 : am_code 100 5 = some (ai_push 6 7) := rfl
theorem at_100_7 : am_code 100 7 = some (ai_icmp (fun x y => x ≤ y) 14 10) := rfl
theorem at_100_10 : am_code 100 10 = some (ai_push (-1) 11) := rfl
theorem at_100_11 : am_code 100 11 = some (ai_goto 20) := rfl
theorem at_100_14 : am_code 100 14 = some (ai_aload 0 15) := rfl
theorem at_100_15 : am_code 100 15 = some (ai_getP 50 10 18) := rfl
theorem at_100_18 : am_code 100 18 = some (ai_iload 1 19) := rfl
theorem at_100_19 : am_code 100 19 = some (ai_ald 60 7 20) := rfl
theorem at_100_20 : am_code 100 20 = some (ai_iret) := rfl
set_option maxRecDepth 100000 in
theorem at_101_0 : am_code 101 0 = some (ai_new 1 5 3) := rfl
set_option maxRecDepth 100000 in
theorem at_101_3 : am_code 101 3 = some (ai_dup 4) := rfl
set_option maxRecDepth 100000 in
theorem at_101_4 : am_code 101 4 = some (ai_callV 32 1 0 7) := rfl
set_option maxRecDepth 100000 in
theorem at_101_7 : am_code 101 7 = some (ai_astore 1 8) := rfl
set_option maxRecDepth 100000 in
theorem at_101_8 : am_code 101 8 = some (ai_new 50 25 11) := rfl
set_option maxRecDepth 100000 in
theorem at_101_11 : am_code 101 11 = some (ai_dup 12) := rfl
set_option maxRecDepth 100000 in
theorem at_101_12 : am_code 101 12 = some (ai_callV 66 50 0 15) := rfl
set_option maxRecDepth 100000 in
theorem at_101_15 : am_code 101 15 = some (ai_astore 2 16) := rfl
set_option maxRecDepth 100000 in
theorem at_101_16 : am_code 101 16 = some (ai_push 0 17) := rfl
set_option maxRecDepth 100000 in
theorem at_101_17 : am_code 101 17 = some (ai_istore 3 18) := rfl
set_option maxRecDepth 100000 in
theorem at_101_18 : am_code 101 18 = some (ai_iload 3 19) := rfl
set_option maxRecDepth 100000 in
theorem at_101_19 : am_code 101 19 = some (ai_aload 0 20) := rfl
set_option maxRecDepth 100000 in
theorem at_101_20 : am_code 101 20 = some (ai_slen 21) := rfl
set_option maxRecDepth 100000 in
theorem at_101_21 : am_code 101 21 = some (ai_push 6 23) := rfl
set_option maxRecDepth 100000 in
theorem at_101_23 : am_code 101 23 = some (ai_bin (fun x y => x - y) 24) := rfl
set_option maxRecDepth 100000 in
theorem at_101_24 : am_code 101 24 = some (ai_icmp (fun x y => y < x) 675 27) := rfl
set_option maxRecDepth 100000 in
theorem at_101_27 : am_code 101 27 = some (ai_aload 0 28) := rfl
set_option maxRecDepth 100000 in
theorem at_101_28 : am_code 101 28 = some (ai_iload 3 29) := rfl
set_option maxRecDepth 100000 in
theorem at_101_29 : am_code 101 29 = some (ai_sld 30) := rfl
set_option maxRecDepth 100000 in
theorem at_101_30 : am_code 101 30 = some (ai_push 15 32) := rfl
set_option maxRecDepth 100000 in
theorem at_101_32 : am_code 101 32 = some (ai_bin (fun x y => x &&& y) 33) := rfl
set_option maxRecDepth 100000 in
theorem at_101_33 : am_code 101 33 = some (ai_switch 0 14 [108, 151, 214, 263, 306, 329, 362, 395, 428, 471, 504, 537, 570, 603, 646] 669) := rfl
set_option maxRecDepth 100000 in
theorem at_101_108 : am_code 101 108 = some (ai_aload 1 109) := rfl
set_option maxRecDepth 100000 in
theorem at_101_109 : am_code 101 109 = some (ai_aload 0 110) := rfl
set_option maxRecDepth 100000 in
theorem at_101_110 : am_code 101 110 = some (ai_iload 3 111) := rfl
set_option maxRecDepth 100000 in
theorem at_101_111 : am_code 101 111 = some (ai_push 1 112) := rfl
set_option maxRecDepth 100000 in
theorem at_101_112 : am_code 101 112 = some (ai_bin (fun x y => x + y) 113) := rfl
set_option maxRecDepth 100000 in
theorem at_101_113 : am_code 101 113 = some (ai_sld 114) := rfl
set_option maxRecDepth 100000 in
theorem at_101_114 : am_code 101 114 = some (ai_aload 0 115) := rfl
set_option maxRecDepth 100000 in
theorem at_101_115 : am_code 101 115 = some (ai_iload 3 116) := rfl
set_option maxRecDepth 100000 in
theorem at_101_116 : am_code 101 116 = some (ai_push 2 117) := rfl
set_option maxRecDepth 100000 in
theorem at_101_117 : am_code 101 117 = some (ai_bin (fun x y => x + y) 118) := rfl
set_option maxRecDepth 100000 in
theorem at_101_118 : am_code 101 118 = some (ai_sld 119) := rfl
set_option maxRecDepth 100000 in
theorem at_101_119 : am_code 101 119 = some (ai_aload 0 120) := rfl
set_option maxRecDepth 100000 in
theorem at_101_120 : am_code 101 120 = some (ai_iload 3 121) := rfl
set_option maxRecDepth 100000 in
theorem at_101_121 : am_code 101 121 = some (ai_push 3 122) := rfl
set_option maxRecDepth 100000 in
theorem at_101_122 : am_code 101 122 = some (ai_bin (fun x y => x + y) 123) := rfl
set_option maxRecDepth 100000 in
theorem at_101_123 : am_code 101 123 = some (ai_sld 124) := rfl
set_option maxRecDepth 100000 in
theorem at_101_124 : am_code 101 124 = some (ai_callV 33 1 3 127) := rfl
set_option maxRecDepth 100000 in
theorem at_101_127 : am_code 101 127 = some (ai_aload 2 128) := rfl
set_option maxRecDepth 100000 in
theorem at_101_128 : am_code 101 128 = some (ai_aload 0 129) := rfl
set_option maxRecDepth 100000 in
theorem at_101_129 : am_code 101 129 = some (ai_iload 3 130) := rfl
set_option maxRecDepth 100000 in
theorem at_101_130 : am_code 101 130 = some (ai_push 1 131) := rfl
set_option maxRecDepth 100000 in
theorem at_101_131 : am_code 101 131 = some (ai_bin (fun x y => x + y) 132) := rfl
set_option maxRecDepth 100000 in
theorem at_101_132 : am_code 101 132 = some (ai_sld 133) := rfl
set_option maxRecDepth 100000 in
theorem at_101_133 : am_code 101 133 = some (ai_aload 0 134) := rfl
set_option maxRecDepth 100000 in
theorem at_101_134 : am_code 101 134 = some (ai_iload 3 135) := rfl
set_option maxRecDepth 100000 in
theorem at_101_135 : am_code 101 135 = some (ai_push 2 136) := rfl
set_option maxRecDepth 100000 in
theorem at_101_136 : am_code 101 136 = some (ai_bin (fun x y => x + y) 137) := rfl
set_option maxRecDepth 100000 in
theorem at_101_137 : am_code 101 137 = some (ai_sld 138) := rfl
set_option maxRecDepth 100000 in
theorem at_101_138 : am_code 101 138 = some (ai_aload 0 139) := rfl
set_option maxRecDepth 100000 in
theorem at_101_139 : am_code 101 139 = some (ai_iload 3 140) := rfl
set_option maxRecDepth 100000 in
theorem at_101_140 : am_code 101 140 = some (ai_push 3 141) := rfl
set_option maxRecDepth 100000 in
theorem at_101_141 : am_code 101 141 = some (ai_bin (fun x y => x + y) 142) := rfl
set_option maxRecDepth 100000 in
theorem at_101_142 : am_code 101 142 = some (ai_sld 143) := rfl
set_option maxRecDepth 100000 in
theorem at_101_143 : am_code 101 143 = some (ai_callV 70 50 3 146) := rfl
set_option maxRecDepth 100000 in
theorem at_101_146 : am_code 101 146 = some (ai_icmp (fun x y => x = y) 669 149) := rfl
set_option maxRecDepth 100000 in
theorem at_101_149 : am_code 101 149 = some (ai_push 0 150) := rfl
set_option maxRecDepth 100000 in
theorem at_101_150 : am_code 101 150 = some (ai_zret) := rfl
set_option maxRecDepth 100000 in
theorem at_101_151 : am_code 101 151 = some (ai_aload 1 152) := rfl
set_option maxRecDepth 100000 in
theorem at_101_152 : am_code 101 152 = some (ai_aload 0 153) := rfl
set_option maxRecDepth 100000 in
theorem at_101_153 : am_code 101 153 = some (ai_iload 3 154) := rfl
set_option maxRecDepth 100000 in
theorem at_101_154 : am_code 101 154 = some (ai_push 1 155) := rfl
set_option maxRecDepth 100000 in
theorem at_101_155 : am_code 101 155 = some (ai_bin (fun x y => x + y) 156) := rfl
set_option maxRecDepth 100000 in
theorem at_101_156 : am_code 101 156 = some (ai_sld 157) := rfl
set_option maxRecDepth 100000 in
theorem at_101_157 : am_code 101 157 = some (ai_aload 0 158) := rfl
set_option maxRecDepth 100000 in
theorem at_101_158 : am_code 101 158 = some (ai_iload 3 159) := rfl
set_option maxRecDepth 100000 in
theorem at_101_159 : am_code 101 159 = some (ai_push 2 160) := rfl
set_option maxRecDepth 100000 in
theorem at_101_160 : am_code 101 160 = some (ai_bin (fun x y => x + y) 161) := rfl
set_option maxRecDepth 100000 in
theorem at_101_161 : am_code 101 161 = some (ai_sld 162) := rfl
set_option maxRecDepth 100000 in
theorem at_101_162 : am_code 101 162 = some (ai_aload 0 163) := rfl
set_option maxRecDepth 100000 in
theorem at_101_163 : am_code 101 163 = some (ai_iload 3 164) := rfl
set_option maxRecDepth 100000 in
theorem at_101_164 : am_code 101 164 = some (ai_push 3 165) := rfl
set_option maxRecDepth 100000 in
theorem at_101_165 : am_code 101 165 = some (ai_bin (fun x y => x + y) 166) := rfl
set_option maxRecDepth 100000 in
theorem at_101_166 : am_code 101 166 = some (ai_sld 167) := rfl
set_option maxRecDepth 100000 in
theorem at_101_167 : am_code 101 167 = some (ai_aload 0 168) := rfl
set_option maxRecDepth 100000 in
theorem at_101_168 : am_code 101 168 = some (ai_iload 3 169) := rfl
set_option maxRecDepth 100000 in
theorem at_101_169 : am_code 101 169 = some (ai_push 4 170) := rfl
set_option maxRecDepth 100000 in
theorem at_101_170 : am_code 101 170 = some (ai_bin (fun x y => x + y) 171) := rfl
set_option maxRecDepth 100000 in
theorem at_101_171 : am_code 101 171 = some (ai_sld 172) := rfl
set_option maxRecDepth 100000 in
theorem at_101_172 : am_code 101 172 = some (ai_aload 0 173) := rfl
set_option maxRecDepth 100000 in
theorem at_101_173 : am_code 101 173 = some (ai_iload 3 174) := rfl
set_option maxRecDepth 100000 in
theorem at_101_174 : am_code 101 174 = some (ai_push 5 175) := rfl
set_option maxRecDepth 100000 in
theorem at_101_175 : am_code 101 175 = some (ai_bin (fun x y => x + y) 176) := rfl
set_option maxRecDepth 100000 in
theorem at_101_176 : am_code 101 176 = some (ai_sld 177) := rfl
set_option maxRecDepth 100000 in
theorem at_101_177 : am_code 101 177 = some (ai_callV 34 1 5 180) := rfl
set_option maxRecDepth 100000 in
theorem at_101_180 : am_code 101 180 = some (ai_aload 2 181) := rfl
set_option maxRecDepth 100000 in
theorem at_101_181 : am_code 101 181 = some (ai_aload 0 182) := rfl
set_option maxRecDepth 100000 in
theorem at_101_182 : am_code 101 182 = some (ai_iload 3 183) := rfl
set_option maxRecDepth 100000 in
theorem at_101_183 : am_code 101 183 = some (ai_push 1 184) := rfl
set_option maxRecDepth 100000 in
theorem at_101_184 : am_code 101 184 = some (ai_bin (fun x y => x + y) 185) := rfl
set_option maxRecDepth 100000 in
theorem at_101_185 : am_code 101 185 = some (ai_sld 186) := rfl
set_option maxRecDepth 100000 in
theorem at_101_186 : am_code 101 186 = some (ai_aload 0 187) := rfl
set_option maxRecDepth 100000 in
theorem at_101_187 : am_code 101 187 = some (ai_iload 3 188) := rfl
set_option maxRecDepth 100000 in
theorem at_101_188 : am_code 101 188 = some (ai_push 2 189) := rfl
set_option maxRecDepth 100000 in
theorem at_101_189 : am_code 101 189 = some (ai_bin (fun x y => x + y) 190) := rfl
set_option maxRecDepth 100000 in
theorem at_101_190 : am_code 101 190 = some (ai_sld 191) := rfl
set_option maxRecDepth 100000 in
theorem at_101_191 : am_code 101 191 = some (ai_aload 0 192) := rfl
set_option maxRecDepth 100000 in
theorem at_101_192 : am_code 101 192 = some (ai_iload 3 193) := rfl
set_option maxRecDepth 100000 in
theorem at_101_193 : am_code 101 193 = some (ai_push 3 194) := rfl
set_option maxRecDepth 100000 in
theorem at_101_194 : am_code 101 194 = some (ai_bin (fun x y => x + y) 195) := rfl
set_option maxRecDepth 100000 in
theorem at_101_195 : am_code 101 195 = some (ai_sld 196) := rfl
set_option maxRecDepth 100000 in
theorem at_101_196 : am_code 101 196 = some (ai_aload 0 197) := rfl
set_option maxRecDepth 100000 in
theorem at_101_197 : am_code 101 197 = some (ai_iload 3 198) := rfl
set_option maxRecDepth 100000 in
theorem at_101_198 : am_code 101 198 = some (ai_push 4 199) := rfl
set_option maxRecDepth 100000 in
theorem at_101_199 : am_code 101 199 = some (ai_bin (fun x y => x + y) 200) := rfl
set_option maxRecDepth 100000 in
theorem at_101_200 : am_code 101 200 = some (ai_sld 201) := rfl
set_option maxRecDepth 100000 in
theorem at_101_201 : am_code 101 201 = some (ai_aload 0 202) := rfl
set_option maxRecDepth 100000 in
theorem at_101_202 : am_code 101 202 = some (ai_iload 3 203) := rfl
set_option maxRecDepth 100000 in
theorem at_101_203 : am_code 101 203 = some (ai_push 5 204) := rfl
set_option maxRecDepth 100000 in
theorem at_101_204 : am_code 101 204 = some (ai_bin (fun x y => x + y) 205) := rfl
set_option maxRecDepth 100000 in
theorem at_101_205 : am_code 101 205 = some (ai_sld 206) := rfl
set_option maxRecDepth 100000 in
theorem at_101_206 : am_code 101 206 = some (ai_callV 71 50 5 209) := rfl
set_option maxRecDepth 100000 in
theorem at_101_209 : am_code 101 209 = some (ai_icmp (fun x y => x = y) 669 212) := rfl
set_option maxRecDepth 100000 in
theorem at_101_212 : am_code 101 212 = some (ai_push 0 213) := rfl
set_option maxRecDepth 100000 in
theorem at_101_213 : am_code 101 213 = some (ai_zret) := rfl
set_option maxRecDepth 100000 in
theorem at_101_214 : am_code 101 214 = some (ai_aload 1 215) := rfl
set_option maxRecDepth 100000 in
theorem at_101_215 : am_code 101 215 = some (ai_aload 0 216) := rfl
set_option maxRecDepth 100000 in
theorem at_101_216 : am_code 101 216 = some (ai_iload 3 217) := rfl
set_option maxRecDepth 100000 in
theorem at_101_217 : am_code 101 217 = some (ai_push 1 218) := rfl
set_option maxRecDepth 100000 in
theorem at_101_218 : am_code 101 218 = some (ai_bin (fun x y => x + y) 219) := rfl
set_option maxRecDepth 100000 in
theorem at_101_219 : am_code 101 219 = some (ai_sld 220) := rfl
set_option maxRecDepth 100000 in
theorem at_101_220 : am_code 101 220 = some (ai_aload 0 221) := rfl
set_option maxRecDepth 100000 in
theorem at_101_221 : am_code 101 221 = some (ai_iload 3 222) := rfl
set_option maxRecDepth 100000 in
theorem at_101_222 : am_code 101 222 = some (ai_push 2 223) := rfl
set_option maxRecDepth 100000 in
theorem at_101_223 : am_code 101 223 = some (ai_bin (fun x y => x + y) 224) := rfl
set_option maxRecDepth 100000 in
theorem at_101_224 : am_code 101 224 = some (ai_sld 225) := rfl
set_option maxRecDepth 100000 in
theorem at_101_225 : am_code 101 225 = some (ai_if (fun x => x = 0) 232 228) := rfl
set_option maxRecDepth 100000 in
theorem at_101_228 : am_code 101 228 = some (ai_push 1 229) := rfl
set_option maxRecDepth 100000 in
theorem at_101_229 : am_code 101 229 = some (ai_goto 233) := rfl
set_option maxRecDepth 100000 in
theorem at_101_232 : am_code 101 232 = some (ai_push 0 233) := rfl
set_option maxRecDepth 100000 in
theorem at_101_233 : am_code 101 233 = some (ai_callV 35 1 2 236) := rfl
set_option maxRecDepth 100000 in
theorem at_101_236 : am_code 101 236 = some (ai_aload 2 237) := rfl
set_option maxRecDepth 100000 in
theorem at_101_237 : am_code 101 237 = some (ai_aload 0 238) := rfl
set_option maxRecDepth 100000 in
theorem at_101_238 : am_code 101 238 = some (ai_iload 3 239) := rfl
set_option maxRecDepth 100000 in
theorem at_101_239 : am_code 101 239 = some (ai_push 1 240) := rfl
set_option maxRecDepth 100000 in
theorem at_101_240 : am_code 101 240 = some (ai_bin (fun x y => x + y) 241) := rfl
set_option maxRecDepth 100000 in
theorem at_101_241 : am_code 101 241 = some (ai_sld 242) := rfl
set_option maxRecDepth 100000 in
theorem at_101_242 : am_code 101 242 = some (ai_aload 0 243) := rfl
set_option maxRecDepth 100000 in
theorem at_101_243 : am_code 101 243 = some (ai_iload 3 244) := rfl
set_option maxRecDepth 100000 in
theorem at_101_244 : am_code 101 244 = some (ai_push 2 245) := rfl
set_option maxRecDepth 100000 in
theorem at_101_245 : am_code 101 245 = some (ai_bin (fun x y => x + y) 246) := rfl
set_option maxRecDepth 100000 in
theorem at_101_246 : am_code 101 246 = some (ai_sld 247) := rfl
set_option maxRecDepth 100000 in
theorem at_101_247 : am_code 101 247 = some (ai_if (fun x => x = 0) 254 250) := rfl
set_option maxRecDepth 100000 in
theorem at_101_250 : am_code 101 250 = some (ai_push 1 251) := rfl
set_option maxRecDepth 100000 in
theorem at_101_251 : am_code 101 251 = some (ai_goto 255) := rfl
set_option maxRecDepth 100000 in
theorem at_101_254 : am_code 101 254 = some (ai_push 0 255) := rfl
set_option maxRecDepth 100000 in
theorem at_101_255 : am_code 101 255 = some (ai_callV 72 50 2 258) := rfl
set_option maxRecDepth 100000 in
theorem at_101_258 : am_code 101 258 = some (ai_icmp (fun x y => x = y) 669 261) := rfl
set_option maxRecDepth 100000 in
theorem at_101_261 : am_code 101 261 = some (ai_push 0 262) := rfl
set_option maxRecDepth 100000 in
theorem at_101_262 : am_code 101 262 = some (ai_zret) := rfl
set_option maxRecDepth 100000 in
theorem at_101_263 : am_code 101 263 = some (ai_aload 1 264) := rfl
set_option maxRecDepth 100000 in
theorem at_101_264 : am_code 101 264 = some (ai_aload 0 265) := rfl
set_option maxRecDepth 100000 in
theorem at_101_265 : am_code 101 265 = some (ai_iload 3 266) := rfl
set_option maxRecDepth 100000 in
theorem at_101_266 : am_code 101 266 = some (ai_push 1 267) := rfl
set_option maxRecDepth 100000 in
theorem at_101_267 : am_code 101 267 = some (ai_bin (fun x y => x + y) 268) := rfl
set_option maxRecDepth 100000 in
theorem at_101_268 : am_code 101 268 = some (ai_sld 269) := rfl
set_option maxRecDepth 100000 in
theorem at_101_269 : am_code 101 269 = some (ai_aload 0 270) := rfl
set_option maxRecDepth 100000 in
theorem at_101_270 : am_code 101 270 = some (ai_iload 3 271) := rfl
set_option maxRecDepth 100000 in
theorem at_101_271 : am_code 101 271 = some (ai_push 2 272) := rfl
set_option maxRecDepth 100000 in
theorem at_101_272 : am_code 101 272 = some (ai_bin (fun x y => x + y) 273) := rfl
set_option maxRecDepth 100000 in
theorem at_101_273 : am_code 101 273 = some (ai_sld 274) := rfl
set_option maxRecDepth 100000 in
theorem at_101_274 : am_code 101 274 = some (ai_aload 0 275) := rfl
set_option maxRecDepth 100000 in
theorem at_101_275 : am_code 101 275 = some (ai_iload 3 276) := rfl
set_option maxRecDepth 100000 in
theorem at_101_276 : am_code 101 276 = some (ai_push 3 277) := rfl
set_option maxRecDepth 100000 in
theorem at_101_277 : am_code 101 277 = some (ai_bin (fun x y => x + y) 278) := rfl
set_option maxRecDepth 100000 in
theorem at_101_278 : am_code 101 278 = some (ai_sld 279) := rfl
set_option maxRecDepth 100000 in
theorem at_101_279 : am_code 101 279 = some (ai_callV 36 1 3 282) := rfl
set_option maxRecDepth 100000 in
theorem at_101_282 : am_code 101 282 = some (ai_aload 2 283) := rfl
set_option maxRecDepth 100000 in
theorem at_101_283 : am_code 101 283 = some (ai_aload 0 284) := rfl
set_option maxRecDepth 100000 in
theorem at_101_284 : am_code 101 284 = some (ai_iload 3 285) := rfl
set_option maxRecDepth 100000 in
theorem at_101_285 : am_code 101 285 = some (ai_push 1 286) := rfl
set_option maxRecDepth 100000 in
theorem at_101_286 : am_code 101 286 = some (ai_bin (fun x y => x + y) 287) := rfl
set_option maxRecDepth 100000 in
theorem at_101_287 : am_code 101 287 = some (ai_sld 288) := rfl
set_option maxRecDepth 100000 in
theorem at_101_288 : am_code 101 288 = some (ai_aload 0 289) := rfl
set_option maxRecDepth 100000 in
theorem at_101_289 : am_code 101 289 = some (ai_iload 3 290) := rfl
set_option maxRecDepth 100000 in
theorem at_101_290 : am_code 101 290 = some (ai_push 2 291) := rfl
set_option maxRecDepth 100000 in
theorem at_101_291 : am_code 101 291 = some (ai_bin (fun x y => x + y) 292) := rfl
set_option maxRecDepth 100000 in
theorem at_101_292 : am_code 101 292 = some (ai_sld 293) := rfl
set_option maxRecDepth 100000 in
theorem at_101_293 : am_code 101 293 = some (ai_aload 0 294) := rfl
set_option maxRecDepth 100000 in
theorem at_101_294 : am_code 101 294 = some (ai_iload 3 295) := rfl
set_option maxRecDepth 100000 in
theorem at_101_295 : am_code 101 295 = some (ai_push 3 296) := rfl
set_option maxRecDepth 100000 in
theorem at_101_296 : am_code 101 296 = some (ai_bin (fun x y => x + y) 297) := rfl
set_option maxRecDepth 100000 in
theorem at_101_297 : am_code 101 297 = some (ai_sld 298) := rfl
set_option maxRecDepth 100000 in
theorem at_101_298 : am_code 101 298 = some (ai_callV 73 50 3 301) := rfl
set_option maxRecDepth 100000 in
theorem at_101_301 : am_code 101 301 = some (ai_icmp (fun x y => x = y) 669 304) := rfl
set_option maxRecDepth 100000 in
theorem at_101_304 : am_code 101 304 = some (ai_push 0 305) := rfl
set_option maxRecDepth 100000 in
theorem at_101_305 : am_code 101 305 = some (ai_zret) := rfl
set_option maxRecDepth 100000 in
theorem at_101_306 : am_code 101 306 = some (ai_aload 1 307) := rfl
set_option maxRecDepth 100000 in
theorem at_101_307 : am_code 101 307 = some (ai_aload 0 308) := rfl
set_option maxRecDepth 100000 in
theorem at_101_308 : am_code 101 308 = some (ai_iload 3 309) := rfl
set_option maxRecDepth 100000 in
theorem at_101_309 : am_code 101 309 = some (ai_push 1 310) := rfl
set_option maxRecDepth 100000 in
theorem at_101_310 : am_code 101 310 = some (ai_bin (fun x y => x + y) 311) := rfl
set_option maxRecDepth 100000 in
theorem at_101_311 : am_code 101 311 = some (ai_sld 312) := rfl
set_option maxRecDepth 100000 in
theorem at_101_312 : am_code 101 312 = some (ai_callV 37 1 1 315) := rfl
set_option maxRecDepth 100000 in
theorem at_101_315 : am_code 101 315 = some (ai_aload 2 316) := rfl
set_option maxRecDepth 100000 in
theorem at_101_316 : am_code 101 316 = some (ai_aload 0 317) := rfl
set_option maxRecDepth 100000 in
theorem at_101_317 : am_code 101 317 = some (ai_iload 3 318) := rfl
set_option maxRecDepth 100000 in
theorem at_101_318 : am_code 101 318 = some (ai_push 1 319) := rfl
set_option maxRecDepth 100000 in
theorem at_101_319 : am_code 101 319 = some (ai_bin (fun x y => x + y) 320) := rfl
set_option maxRecDepth 100000 in
theorem at_101_320 : am_code 101 320 = some (ai_sld 321) := rfl
set_option maxRecDepth 100000 in
theorem at_101_321 : am_code 101 321 = some (ai_callV 88 50 1 324) := rfl
set_option maxRecDepth 100000 in
theorem at_101_324 : am_code 101 324 = some (ai_icmp (fun x y => x = y) 669 327) := rfl
set_option maxRecDepth 100000 in
theorem at_101_327 : am_code 101 327 = some (ai_push 0 328) := rfl
set_option maxRecDepth 100000 in
theorem at_101_328 : am_code 101 328 = some (ai_zret) := rfl
set_option maxRecDepth 100000 in
theorem at_101_329 : am_code 101 329 = some (ai_aload 1 330) := rfl
set_option maxRecDepth 100000 in
theorem at_101_330 : am_code 101 330 = some (ai_aload 0 331) := rfl
set_option maxRecDepth 100000 in
theorem at_101_331 : am_code 101 331 = some (ai_iload 3 332) := rfl
set_option maxRecDepth 100000 in
theorem at_101_332 : am_code 101 332 = some (ai_push 1 333) := rfl
set_option maxRecDepth 100000 in
theorem at_101_333 : am_code 101 333 = some (ai_bin (fun x y => x + y) 334) := rfl
set_option maxRecDepth 100000 in
theorem at_101_334 : am_code 101 334 = some (ai_sld 335) := rfl
set_option maxRecDepth 100000 in
theorem at_101_335 : am_code 101 335 = some (ai_aload 0 336) := rfl
set_option maxRecDepth 100000 in
theorem at_101_336 : am_code 101 336 = some (ai_iload 3 337) := rfl
set_option maxRecDepth 100000 in
theorem at_101_337 : am_code 101 337 = some (ai_push 2 338) := rfl
set_option maxRecDepth 100000 in
theorem at_101_338 : am_code 101 338 = some (ai_bin (fun x y => x + y) 339) := rfl
set_option maxRecDepth 100000 in
theorem at_101_339 : am_code 101 339 = some (ai_sld 340) := rfl
set_option maxRecDepth 100000 in
theorem at_101_340 : am_code 101 340 = some (ai_callV 38 1 2 343) := rfl
set_option maxRecDepth 100000 in
theorem at_101_343 : am_code 101 343 = some (ai_aload 2 344) := rfl
set_option maxRecDepth 100000 in
theorem at_101_344 : am_code 101 344 = some (ai_aload 0 345) := rfl
set_option maxRecDepth 100000 in
theorem at_101_345 : am_code 101 345 = some (ai_iload 3 346) := rfl
set_option maxRecDepth 100000 in
theorem at_101_346 : am_code 101 346 = some (ai_push 1 347) := rfl
set_option maxRecDepth 100000 in
theorem at_101_347 : am_code 101 347 = some (ai_bin (fun x y => x + y) 348) := rfl
set_option maxRecDepth 100000 in
theorem at_101_348 : am_code 101 348 = some (ai_sld 349) := rfl
set_option maxRecDepth 100000 in
theorem at_101_349 : am_code 101 349 = some (ai_aload 0 350) := rfl
set_option maxRecDepth 100000 in
theorem at_101_350 : am_code 101 350 = some (ai_iload 3 351) := rfl
set_option maxRecDepth 100000 in
theorem at_101_351 : am_code 101 351 = some (ai_push 2 352) := rfl
set_option maxRecDepth 100000 in
theorem at_101_352 : am_code 101 352 = some (ai_bin (fun x y => x + y) 353) := rfl
set_option maxRecDepth 100000 in
theorem at_101_353 : am_code 101 353 = some (ai_sld 354) := rfl
set_option maxRecDepth 100000 in
theorem at_101_354 : am_code 101 354 = some (ai_callV 89 50 2 357) := rfl
set_option maxRecDepth 100000 in
theorem at_101_357 : am_code 101 357 = some (ai_icmp (fun x y => x = y) 669 360) := rfl
set_option maxRecDepth 100000 in
theorem at_101_360 : am_code 101 360 = some (ai_push 0 361) := rfl
set_option maxRecDepth 100000 in
theorem at_101_361 : am_code 101 361 = some (ai_zret) := rfl
set_option maxRecDepth 100000 in
theorem at_101_362 : am_code 101 362 = some (ai_aload 1 363) := rfl
set_option maxRecDepth 100000 in
theorem at_101_363 : am_code 101 363 = some (ai_aload 0 364) := rfl
set_option maxRecDepth 100000 in
theorem at_101_364 : am_code 101 364 = some (ai_iload 3 365) := rfl
set_option maxRecDepth 100000 in
theorem at_101_365 : am_code 101 365 = some (ai_push 1 366) := rfl
set_option maxRecDepth 100000 in
theorem at_101_366 : am_code 101 366 = some (ai_bin (fun x y => x + y) 367) := rfl
set_option maxRecDepth 100000 in
theorem at_101_367 : am_code 101 367 = some (ai_sld 368) := rfl
set_option maxRecDepth 100000 in
theorem at_101_368 : am_code 101 368 = some (ai_aload 0 369) := rfl
set_option maxRecDepth 100000 in
theorem at_101_369 : am_code 101 369 = some (ai_iload 3 370) := rfl
set_option maxRecDepth 100000 in
theorem at_101_370 : am_code 101 370 = some (ai_push 2 371) := rfl
set_option maxRecDepth 100000 in
theorem at_101_371 : am_code 101 371 = some (ai_bin (fun x y => x + y) 372) := rfl
set_option maxRecDepth 100000 in
theorem at_101_372 : am_code 101 372 = some (ai_sld 373) := rfl
set_option maxRecDepth 100000 in
theorem at_101_373 : am_code 101 373 = some (ai_callV 39 1 2 376) := rfl
set_option maxRecDepth 100000 in
theorem at_101_376 : am_code 101 376 = some (ai_aload 2 377) := rfl
set_option maxRecDepth 100000 in
theorem at_101_377 : am_code 101 377 = some (ai_aload 0 378) := rfl
set_option maxRecDepth 100000 in
theorem at_101_378 : am_code 101 378 = some (ai_iload 3 379) := rfl
set_option maxRecDepth 100000 in
theorem at_101_379 : am_code 101 379 = some (ai_push 1 380) := rfl
set_option maxRecDepth 100000 in
theorem at_101_380 : am_code 101 380 = some (ai_bin (fun x y => x + y) 381) := rfl
set_option maxRecDepth 100000 in
theorem at_101_381 : am_code 101 381 = some (ai_sld 382) := rfl
set_option maxRecDepth 100000 in
theorem at_101_382 : am_code 101 382 = some (ai_aload 0 383) := rfl
set_option maxRecDepth 100000 in
theorem at_101_383 : am_code 101 383 = some (ai_iload 3 384) := rfl
set_option maxRecDepth 100000 in
theorem at_101_384 : am_code 101 384 = some (ai_push 2 385) := rfl
set_option maxRecDepth 100000 in
theorem at_101_385 : am_code 101 385 = some (ai_bin (fun x y => x + y) 386) := rfl
set_option maxRecDepth 100000 in
theorem at_101_386 : am_code 101 386 = some (ai_sld 387) := rfl
set_option maxRecDepth 100000 in
theorem at_101_387 : am_code 101 387 = some (ai_callV 90 50 2 390) := rfl
set_option maxRecDepth 100000 in
theorem at_101_390 : am_code 101 390 = some (ai_icmp (fun x y => x = y) 669 393) := rfl
set_option maxRecDepth 100000 in
theorem at_101_393 : am_code 101 393 = some (ai_push 0 394) := rfl
set_option maxRecDepth 100000 in
theorem at_101_394 : am_code 101 394 = some (ai_zret) := rfl
set_option maxRecDepth 100000 in
theorem at_101_395 : am_code 101 395 = some (ai_aload 1 396) := rfl
set_option maxRecDepth 100000 in
theorem at_101_396 : am_code 101 396 = some (ai_aload 0 397) := rfl
set_option maxRecDepth 100000 in
theorem at_101_397 : am_code 101 397 = some (ai_iload 3 398) := rfl
set_option maxRecDepth 100000 in
theorem at_101_398 : am_code 101 398 = some (ai_push 1 399) := rfl
set_option maxRecDepth 100000 in
theorem at_101_399 : am_code 101 399 = some (ai_bin (fun x y => x + y) 400) := rfl
set_option maxRecDepth 100000 in
theorem at_101_400 : am_code 101 400 = some (ai_sld 401) := rfl
set_option maxRecDepth 100000 in
theorem at_101_401 : am_code 101 401 = some (ai_aload 0 402) := rfl
set_option maxRecDepth 100000 in
theorem at_101_402 : am_code 101 402 = some (ai_iload 3 403) := rfl
set_option maxRecDepth 100000 in
theorem at_101_403 : am_code 101 403 = some (ai_push 2 404) := rfl
set_option maxRecDepth 100000 in
theorem at_101_404 : am_code 101 404 = some (ai_bin (fun x y => x + y) 405) := rfl
set_option maxRecDepth 100000 in
theorem at_101_405 : am_code 101 405 = some (ai_sld 406) := rfl
set_option maxRecDepth 100000 in
theorem at_101_406 : am_code 101 406 = some (ai_callV 40 1 2 409) := rfl
set_option maxRecDepth 100000 in
theorem at_101_409 : am_code 101 409 = some (ai_aload 2 410) := rfl
set_option maxRecDepth 100000 in
theorem at_101_410 : am_code 101 410 = some (ai_aload 0 411) := rfl
set_option maxRecDepth 100000 in
theorem at_101_411 : am_code 101 411 = some (ai_iload 3 412) := rfl
set_option maxRecDepth 100000 in
theorem at_101_412 : am_code 101 412 = some (ai_push 1 413) := rfl
set_option maxRecDepth 100000 in
theorem at_101_413 : am_code 101 413 = some (ai_bin (fun x y => x + y) 414) := rfl
set_option maxRecDepth 100000 in
theorem at_101_414 : am_code 101 414 = some (ai_sld 415) := rfl
set_option maxRecDepth 100000 in
theorem at_101_415 : am_code 101 415 = some (ai_aload 0 416) := rfl
set_option maxRecDepth 100000 in
theorem at_101_416 : am_code 101 416 = some (ai_iload 3 417) := rfl
set_option maxRecDepth 100000 in
theorem at_101_417 : am_code 101 417 = some (ai_push 2 418) := rfl
set_option maxRecDepth 100000 in
theorem at_101_418 : am_code 101 418 = some (ai_bin (fun x y => x + y) 419) := rfl
set_option maxRecDepth 100000 in
theorem at_101_419 : am_code 101 419 = some (ai_sld 420) := rfl
set_option maxRecDepth 100000 in
theorem at_101_420 : am_code 101 420 = some (ai_callV 91 50 2 423) := rfl
set_option maxRecDepth 100000 in
theorem at_101_423 : am_code 101 423 = some (ai_icmp (fun x y => x = y) 669 426) := rfl
set_option maxRecDepth 100000 in
theorem at_101_426 : am_code 101 426 = some (ai_push 0 427) := rfl
set_option maxRecDepth 100000 in
theorem at_101_427 : am_code 101 427 = some (ai_zret) := rfl
set_option maxRecDepth 100000 in
theorem at_101_428 : am_code 101 428 = some (ai_aload 1 429) := rfl
set_option maxRecDepth 100000 in
theorem at_101_429 : am_code 101 429 = some (ai_aload 0 430) := rfl
set_option maxRecDepth 100000 in
theorem at_101_430 : am_code 101 430 = some (ai_iload 3 431) := rfl
set_option maxRecDepth 100000 in
theorem at_101_431 : am_code 101 431 = some (ai_push 1 432) := rfl
set_option maxRecDepth 100000 in
theorem at_101_432 : am_code 101 432 = some (ai_bin (fun x y => x + y) 433) := rfl
set_option maxRecDepth 100000 in
theorem at_101_433 : am_code 101 433 = some (ai_sld 434) := rfl
set_option maxRecDepth 100000 in
theorem at_101_434 : am_code 101 434 = some (ai_aload 0 435) := rfl
set_option maxRecDepth 100000 in
theorem at_101_435 : am_code 101 435 = some (ai_iload 3 436) := rfl
set_option maxRecDepth 100000 in
theorem at_101_436 : am_code 101 436 = some (ai_push 2 437) := rfl
set_option maxRecDepth 100000 in
theorem at_101_437 : am_code 101 437 = some (ai_bin (fun x y => x + y) 438) := rfl
set_option maxRecDepth 100000 in
theorem at_101_438 : am_code 101 438 = some (ai_sld 439) := rfl
set_option maxRecDepth 100000 in
theorem at_101_439 : am_code 101 439 = some (ai_aload 0 440) := rfl
set_option maxRecDepth 100000 in
theorem at_101_440 : am_code 101 440 = some (ai_iload 3 441) := rfl
set_option maxRecDepth 100000 in
theorem at_101_441 : am_code 101 441 = some (ai_push 3 442) := rfl
set_option maxRecDepth 100000 in
theorem at_101_442 : am_code 101 442 = some (ai_bin (fun x y => x + y) 443) := rfl
set_option maxRecDepth 100000 in
theorem at_101_443 : am_code 101 443 = some (ai_sld 444) := rfl
set_option maxRecDepth 100000 in
theorem at_101_444 : am_code 101 444 = some (ai_callV 41 1 3 447) := rfl
set_option maxRecDepth 100000 in
theorem at_101_447 : am_code 101 447 = some (ai_aload 2 448) := rfl
set_option maxRecDepth 100000 in
theorem at_101_448 : am_code 101 448 = some (ai_aload 0 449) := rfl
set_option maxRecDepth 100000 in
theorem at_101_449 : am_code 101 449 = some (ai_iload 3 450) := rfl
set_option maxRecDepth 100000 in
theorem at_101_450 : am_code 101 450 = some (ai_push 1 451) := rfl
set_option maxRecDepth 100000 in
theorem at_101_451 : am_code 101 451 = some (ai_bin (fun x y => x + y) 452) := rfl
set_option maxRecDepth 100000 in
theorem at_101_452 : am_code 101 452 = some (ai_sld 453) := rfl
set_option maxRecDepth 100000 in
theorem at_101_453 : am_code 101 453 = some (ai_aload 0 454) := rfl
set_option maxRecDepth 100000 in
theorem at_101_454 : am_code 101 454 = some (ai_iload 3 455) := rfl
set_option maxRecDepth 100000 in
theorem at_101_455 : am_code 101 455 = some (ai_push 2 456) := rfl
set_option maxRecDepth 100000 in
theorem at_101_456 : am_code 101 456 = some (ai_bin (fun x y => x + y) 457) := rfl
set_option maxRecDepth 100000 in
theorem at_101_457 : am_code 101 457 = some (ai_sld 458) := rfl
set_option maxRecDepth 100000 in
theorem at_101_458 : am_code 101 458 = some (ai_aload 0 459) := rfl
set_option maxRecDepth 100000 in
theorem at_101_459 : am_code 101 459 = some (ai_iload 3 460) := rfl
set_option maxRecDepth 100000 in
theorem at_101_460 : am_code 101 460 = some (ai_push 3 461) := rfl
set_option maxRecDepth 100000 in
theorem at_101_461 : am_code 101 461 = some (ai_bin (fun x y => x + y) 462) := rfl
set_option maxRecDepth 100000 in
theorem at_101_462 : am_code 101 462 = some (ai_sld 463) := rfl
set_option maxRecDepth 100000 in
theorem at_101_463 : am_code 101 463 = some (ai_callV 92 50 3 466) := rfl
set_option maxRecDepth 100000 in
theorem at_101_466 : am_code 101 466 = some (ai_icmp (fun x y => x = y) 669 469) := rfl
set_option maxRecDepth 100000 in
theorem at_101_469 : am_code 101 469 = some (ai_push 0 470) := rfl
set_option maxRecDepth 100000 in
theorem at_101_470 : am_code 101 470 = some (ai_zret) := rfl
set_option maxRecDepth 100000 in
theorem at_101_471 : am_code 101 471 = some (ai_aload 1 472) := rfl
set_option maxRecDepth 100000 in
theorem at_101_472 : am_code 101 472 = some (ai_aload 0 473) := rfl
set_option maxRecDepth 100000 in
theorem at_101_473 : am_code 101 473 = some (ai_iload 3 474) := rfl
set_option maxRecDepth 100000 in
theorem at_101_474 : am_code 101 474 = some (ai_push 1 475) := rfl
set_option maxRecDepth 100000 in
theorem at_101_475 : am_code 101 475 = some (ai_bin (fun x y => x + y) 476) := rfl
set_option maxRecDepth 100000 in
theorem at_101_476 : am_code 101 476 = some (ai_sld 477) := rfl
set_option maxRecDepth 100000 in
theorem at_101_477 : am_code 101 477 = some (ai_aload 0 478) := rfl
set_option maxRecDepth 100000 in
theorem at_101_478 : am_code 101 478 = some (ai_iload 3 479) := rfl
set_option maxRecDepth 100000 in
theorem at_101_479 : am_code 101 479 = some (ai_push 2 480) := rfl
set_option maxRecDepth 100000 in
theorem at_101_480 : am_code 101 480 = some (ai_bin (fun x y => x + y) 481) := rfl
set_option maxRecDepth 100000 in
theorem at_101_481 : am_code 101 481 = some (ai_sld 482) := rfl
set_option maxRecDepth 100000 in
theorem at_101_482 : am_code 101 482 = some (ai_callV 42 1 2 485) := rfl
set_option maxRecDepth 100000 in
theorem at_101_485 : am_code 101 485 = some (ai_aload 2 486) := rfl
set_option maxRecDepth 100000 in
theorem at_101_486 : am_code 101 486 = some (ai_aload 0 487) := rfl
set_option maxRecDepth 100000 in
theorem at_101_487 : am_code 101 487 = some (ai_iload 3 488) := rfl
set_option maxRecDepth 100000 in
theorem at_101_488 : am_code 101 488 = some (ai_push 1 489) := rfl
set_option maxRecDepth 100000 in
theorem at_101_489 : am_code 101 489 = some (ai_bin (fun x y => x + y) 490) := rfl
set_option maxRecDepth 100000 in
theorem at_101_490 : am_code 101 490 = some (ai_sld 491) := rfl
set_option maxRecDepth 100000 in
theorem at_101_491 : am_code 101 491 = some (ai_aload 0 492) := rfl
set_option maxRecDepth 100000 in
theorem at_101_492 : am_code 101 492 = some (ai_iload 3 493) := rfl
set_option maxRecDepth 100000 in
theorem at_101_493 : am_code 101 493 = some (ai_push 2 494) := rfl
set_option maxRecDepth 100000 in
theorem at_101_494 : am_code 101 494 = some (ai_bin (fun x y => x + y) 495) := rfl
set_option maxRecDepth 100000 in
theorem at_101_495 : am_code 101 495 = some (ai_sld 496) := rfl
set_option maxRecDepth 100000 in
theorem at_101_496 : am_code 101 496 = some (ai_callV 93 50 2 499) := rfl
set_option maxRecDepth 100000 in
theorem at_101_499 : am_code 101 499 = some (ai_icmp (fun x y => x = y) 669 502) := rfl
set_option maxRecDepth 100000 in
theorem at_101_502 : am_code 101 502 = some (ai_push 0 503) := rfl
set_option maxRecDepth 100000 in
theorem at_101_503 : am_code 101 503 = some (ai_zret) := rfl
set_option maxRecDepth 100000 in
theorem at_101_504 : am_code 101 504 = some (ai_aload 1 505) := rfl
set_option maxRecDepth 100000 in
theorem at_101_505 : am_code 101 505 = some (ai_aload 0 506) := rfl
set_option maxRecDepth 100000 in
theorem at_101_506 : am_code 101 506 = some (ai_iload 3 507) := rfl
set_option maxRecDepth 100000 in
theorem at_101_507 : am_code 101 507 = some (ai_push 1 508) := rfl
set_option maxRecDepth 100000 in
theorem at_101_508 : am_code 101 508 = some (ai_bin (fun x y => x + y) 509) := rfl
set_option maxRecDepth 100000 in
theorem at_101_509 : am_code 101 509 = some (ai_sld 510) := rfl
set_option maxRecDepth 100000 in
theorem at_101_510 : am_code 101 510 = some (ai_aload 0 511) := rfl
set_option maxRecDepth 100000 in
theorem at_101_511 : am_code 101 511 = some (ai_iload 3 512) := rfl
set_option maxRecDepth 100000 in
theorem at_101_512 : am_code 101 512 = some (ai_push 2 513) := rfl
set_option maxRecDepth 100000 in
theorem at_101_513 : am_code 101 513 = some (ai_bin (fun x y => x + y) 514) := rfl
set_option maxRecDepth 100000 in
theorem at_101_514 : am_code 101 514 = some (ai_sld 515) := rfl
set_option maxRecDepth 100000 in
theorem at_101_515 : am_code 101 515 = some (ai_callV 43 1 2 518) := rfl
set_option maxRecDepth 100000 in
theorem at_101_518 : am_code 101 518 = some (ai_aload 2 519) := rfl
set_option maxRecDepth 100000 in
theorem at_101_519 : am_code 101 519 = some (ai_aload 0 520) := rfl
set_option maxRecDepth 100000 in
theorem at_101_520 : am_code 101 520 = some (ai_iload 3 521) := rfl
set_option maxRecDepth 100000 in
theorem at_101_521 : am_code 101 521 = some (ai_push 1 522) := rfl
set_option maxRecDepth 100000 in
theorem at_101_522 : am_code 101 522 = some (ai_bin (fun x y => x + y) 523) := rfl
set_option maxRecDepth 100000 in
theorem at_101_523 : am_code 101 523 = some (ai_sld 524) := rfl
set_option maxRecDepth 100000 in
theorem at_101_524 : am_code 101 524 = some (ai_aload 0 525) := rfl
set_option maxRecDepth 100000 in
theorem at_101_525 : am_code 101 525 = some (ai_iload 3 526) := rfl
set_option maxRecDepth 100000 in
theorem at_101_526 : am_code 101 526 = some (ai_push 2 527) := rfl
set_option maxRecDepth 100000 in
theorem at_101_527 : am_code 101 527 = some (ai_bin (fun x y => x + y) 528) := rfl
set_option maxRecDepth 100000 in
theorem at_101_528 : am_code 101 528 = some (ai_sld 529) := rfl
set_option maxRecDepth 100000 in
theorem at_101_529 : am_code 101 529 = some (ai_callV 96 50 2 532) := rfl
set_option maxRecDepth 100000 in
theorem at_101_532 : am_code 101 532 = some (ai_icmp (fun x y => x = y) 669 535) := rfl
set_option maxRecDepth 100000 in
theorem at_101_535 : am_code 101 535 = some (ai_push 0 536) := rfl
set_option maxRecDepth 100000 in
theorem at_101_536 : am_code 101 536 = some (ai_zret) := rfl
set_option maxRecDepth 100000 in
theorem at_101_537 : am_code 101 537 = some (ai_aload 1 538) := rfl
set_option maxRecDepth 100000 in
theorem at_101_538 : am_code 101 538 = some (ai_aload 0 539) := rfl
set_option maxRecDepth 100000 in
theorem at_101_539 : am_code 101 539 = some (ai_iload 3 540) := rfl
set_option maxRecDepth 100000 in
theorem at_101_540 : am_code 101 540 = some (ai_push 1 541) := rfl
set_option maxRecDepth 100000 in
theorem at_101_541 : am_code 101 541 = some (ai_bin (fun x y => x + y) 542) := rfl
set_option maxRecDepth 100000 in
theorem at_101_542 : am_code 101 542 = some (ai_sld 543) := rfl
set_option maxRecDepth 100000 in
theorem at_101_543 : am_code 101 543 = some (ai_aload 0 544) := rfl
set_option maxRecDepth 100000 in
theorem at_101_544 : am_code 101 544 = some (ai_iload 3 545) := rfl
set_option maxRecDepth 100000 in
theorem at_101_545 : am_code 101 545 = some (ai_push 2 546) := rfl
set_option maxRecDepth 100000 in
theorem at_101_546 : am_code 101 546 = some (ai_bin (fun x y => x + y) 547) := rfl
set_option maxRecDepth 100000 in
theorem at_101_547 : am_code 101 547 = some (ai_sld 548) := rfl
set_option maxRecDepth 100000 in
theorem at_101_548 : am_code 101 548 = some (ai_callV 44 1 2 551) := rfl
set_option maxRecDepth 100000 in
theorem at_101_551 : am_code 101 551 = some (ai_aload 2 552) := rfl
set_option maxRecDepth 100000 in
theorem at_101_552 : am_code 101 552 = some (ai_aload 0 553) := rfl
set_option maxRecDepth 100000 in
theorem at_101_553 : am_code 101 553 = some (ai_iload 3 554) := rfl
set_option maxRecDepth 100000 in
theorem at_101_554 : am_code 101 554 = some (ai_push 1 555) := rfl
set_option maxRecDepth 100000 in
theorem at_101_555 : am_code 101 555 = some (ai_bin (fun x y => x + y) 556) := rfl
set_option maxRecDepth 100000 in
theorem at_101_556 : am_code 101 556 = some (ai_sld 557) := rfl
set_option maxRecDepth 100000 in
theorem at_101_557 : am_code 101 557 = some (ai_aload 0 558) := rfl
set_option maxRecDepth 100000 in
theorem at_101_558 : am_code 101 558 = some (ai_iload 3 559) := rfl
set_option maxRecDepth 100000 in
theorem at_101_559 : am_code 101 559 = some (ai_push 2 560) := rfl
set_option maxRecDepth 100000 in
theorem at_101_560 : am_code 101 560 = some (ai_bin (fun x y => x + y) 561) := rfl
set_option maxRecDepth 100000 in
theorem at_101_561 : am_code 101 561 = some (ai_sld 562) := rfl
set_option maxRecDepth 100000 in
theorem at_101_562 : am_code 101 562 = some (ai_callV 97 50 2 565) := rfl
set_option maxRecDepth 100000 in
theorem at_101_565 : am_code 101 565 = some (ai_icmp (fun x y => x = y) 669 568) := rfl
set_option maxRecDepth 100000 in
theorem at_101_568 : am_code 101 568 = some (ai_push 0 569) := rfl
set_option maxRecDepth 100000 in
theorem at_101_569 : am_code 101 569 = some (ai_zret) := rfl
set_option maxRecDepth 100000 in
theorem at_101_570 : am_code 101 570 = some (ai_aload 1 571) := rfl
set_option maxRecDepth 100000 in
theorem at_101_571 : am_code 101 571 = some (ai_aload 0 572) := rfl
set_option maxRecDepth 100000 in
theorem at_101_572 : am_code 101 572 = some (ai_iload 3 573) := rfl
set_option maxRecDepth 100000 in
theorem at_101_573 : am_code 101 573 = some (ai_push 1 574) := rfl
set_option maxRecDepth 100000 in
theorem at_101_574 : am_code 101 574 = some (ai_bin (fun x y => x + y) 575) := rfl
set_option maxRecDepth 100000 in
theorem at_101_575 : am_code 101 575 = some (ai_sld 576) := rfl
set_option maxRecDepth 100000 in
theorem at_101_576 : am_code 101 576 = some (ai_aload 0 577) := rfl
set_option maxRecDepth 100000 in
theorem at_101_577 : am_code 101 577 = some (ai_iload 3 578) := rfl
set_option maxRecDepth 100000 in
theorem at_101_578 : am_code 101 578 = some (ai_push 2 579) := rfl
set_option maxRecDepth 100000 in
theorem at_101_579 : am_code 101 579 = some (ai_bin (fun x y => x + y) 580) := rfl
set_option maxRecDepth 100000 in
theorem at_101_580 : am_code 101 580 = some (ai_sld 581) := rfl
set_option maxRecDepth 100000 in
theorem at_101_581 : am_code 101 581 = some (ai_callV 45 1 2 584) := rfl
set_option maxRecDepth 100000 in
theorem at_101_584 : am_code 101 584 = some (ai_aload 2 585) := rfl
set_option maxRecDepth 100000 in
theorem at_101_585 : am_code 101 585 = some (ai_aload 0 586) := rfl
set_option maxRecDepth 100000 in
theorem at_101_586 : am_code 101 586 = some (ai_iload 3 587) := rfl
set_option maxRecDepth 100000 in
theorem at_101_587 : am_code 101 587 = some (ai_push 1 588) := rfl
set_option maxRecDepth 100000 in
theorem at_101_588 : am_code 101 588 = some (ai_bin (fun x y => x + y) 589) := rfl
set_option maxRecDepth 100000 in
theorem at_101_589 : am_code 101 589 = some (ai_sld 590) := rfl
set_option maxRecDepth 100000 in
theorem at_101_590 : am_code 101 590 = some (ai_aload 0 591) := rfl
set_option maxRecDepth 100000 in
theorem at_101_591 : am_code 101 591 = some (ai_iload 3 592) := rfl
set_option maxRecDepth 100000 in
theorem at_101_592 : am_code 101 592 = some (ai_push 2 593) := rfl
set_option maxRecDepth 100000 in
theorem at_101_593 : am_code 101 593 = some (ai_bin (fun x y => x + y) 594) := rfl
set_option maxRecDepth 100000 in
theorem at_101_594 : am_code 101 594 = some (ai_sld 595) := rfl
set_option maxRecDepth 100000 in
theorem at_101_595 : am_code 101 595 = some (ai_callV 98 50 2 598) := rfl
set_option maxRecDepth 100000 in
theorem at_101_598 : am_code 101 598 = some (ai_icmp (fun x y => x = y) 669 601) := rfl
set_option maxRecDepth 100000 in
theorem at_101_601 : am_code 101 601 = some (ai_push 0 602) := rfl
set_option maxRecDepth 100000 in
theorem at_101_602 : am_code 101 602 = some (ai_zret) := rfl
set_option maxRecDepth 100000 in
theorem at_101_603 : am_code 101 603 = some (ai_aload 1 604) := rfl
set_option maxRecDepth 100000 in
theorem at_101_604 : am_code 101 604 = some (ai_aload 0 605) := rfl
set_option maxRecDepth 100000 in
theorem at_101_605 : am_code 101 605 = some (ai_iload 3 606) := rfl
set_option maxRecDepth 100000 in
theorem at_101_606 : am_code 101 606 = some (ai_push 1 607) := rfl
set_option maxRecDepth 100000 in
theorem at_101_607 : am_code 101 607 = some (ai_bin (fun x y => x + y) 608) := rfl
set_option maxRecDepth 100000 in
theorem at_101_608 : am_code 101 608 = some (ai_sld 609) := rfl
set_option maxRecDepth 100000 in
theorem at_101_609 : am_code 101 609 = some (ai_aload 0 610) := rfl
set_option maxRecDepth 100000 in
theorem at_101_610 : am_code 101 610 = some (ai_iload 3 611) := rfl
set_option maxRecDepth 100000 in
theorem at_101_611 : am_code 101 611 = some (ai_push 2 612) := rfl
set_option maxRecDepth 100000 in
theorem at_101_612 : am_code 101 612 = some (ai_bin (fun x y => x + y) 613) := rfl
set_option maxRecDepth 100000 in
theorem at_101_613 : am_code 101 613 = some (ai_sld 614) := rfl
set_option maxRecDepth 100000 in
theorem at_101_614 : am_code 101 614 = some (ai_aload 0 615) := rfl
set_option maxRecDepth 100000 in
theorem at_101_615 : am_code 101 615 = some (ai_iload 3 616) := rfl
set_option maxRecDepth 100000 in
theorem at_101_616 : am_code 101 616 = some (ai_push 3 617) := rfl
set_option maxRecDepth 100000 in
theorem at_101_617 : am_code 101 617 = some (ai_bin (fun x y => x + y) 618) := rfl
set_option maxRecDepth 100000 in
theorem at_101_618 : am_code 101 618 = some (ai_sld 619) := rfl
set_option maxRecDepth 100000 in
theorem at_101_619 : am_code 101 619 = some (ai_callV 46 1 3 622) := rfl
set_option maxRecDepth 100000 in
theorem at_101_622 : am_code 101 622 = some (ai_aload 2 623) := rfl
set_option maxRecDepth 100000 in
theorem at_101_623 : am_code 101 623 = some (ai_aload 0 624) := rfl
set_option maxRecDepth 100000 in
theorem at_101_624 : am_code 101 624 = some (ai_iload 3 625) := rfl
set_option maxRecDepth 100000 in
theorem at_101_625 : am_code 101 625 = some (ai_push 1 626) := rfl
set_option maxRecDepth 100000 in
theorem at_101_626 : am_code 101 626 = some (ai_bin (fun x y => x + y) 627) := rfl
set_option maxRecDepth 100000 in
theorem at_101_627 : am_code 101 627 = some (ai_sld 628) := rfl
set_option maxRecDepth 100000 in
theorem at_101_628 : am_code 101 628 = some (ai_aload 0 629) := rfl
set_option maxRecDepth 100000 in
theorem at_101_629 : am_code 101 629 = some (ai_iload 3 630) := rfl
set_option maxRecDepth 100000 in
theorem at_101_630 : am_code 101 630 = some (ai_push 2 631) := rfl
set_option maxRecDepth 100000 in
theorem at_101_631 : am_code 101 631 = some (ai_bin (fun x y => x + y) 632) := rfl
set_option maxRecDepth 100000 in
theorem at_101_632 : am_code 101 632 = some (ai_sld 633) := rfl
set_option maxRecDepth 100000 in
theorem at_101_633 : am_code 101 633 = some (ai_aload 0 634) := rfl
set_option maxRecDepth 100000 in
theorem at_101_634 : am_code 101 634 = some (ai_iload 3 635) := rfl
set_option maxRecDepth 100000 in
theorem at_101_635 : am_code 101 635 = some (ai_push 3 636) := rfl
set_option maxRecDepth 100000 in
theorem at_101_636 : am_code 101 636 = some (ai_bin (fun x y => x + y) 637) := rfl
set_option maxRecDepth 100000 in
theorem at_101_637 : am_code 101 637 = some (ai_sld 638) := rfl
set_option maxRecDepth 100000 in
theorem at_101_638 : am_code 101 638 = some (ai_callV 99 50 3 641) := rfl
set_option maxRecDepth 100000 in
theorem at_101_641 : am_code 101 641 = some (ai_icmp (fun x y => x = y) 669 644) := rfl
set_option maxRecDepth 100000 in
theorem at_101_644 : am_code 101 644 = some (ai_push 0 645) := rfl
set_option maxRecDepth 100000 in
theorem at_101_645 : am_code 101 645 = some (ai_zret) := rfl
set_option maxRecDepth 100000 in
theorem at_101_646 : am_code 101 646 = some (ai_aload 1 647) := rfl
set_option maxRecDepth 100000 in
theorem at_101_647 : am_code 101 647 = some (ai_aload 0 648) := rfl
set_option maxRecDepth 100000 in
theorem at_101_648 : am_code 101 648 = some (ai_iload 3 649) := rfl
set_option maxRecDepth 100000 in
theorem at_101_649 : am_code 101 649 = some (ai_push 1 650) := rfl
set_option maxRecDepth 100000 in
theorem at_101_650 : am_code 101 650 = some (ai_bin (fun x y => x + y) 651) := rfl
set_option maxRecDepth 100000 in
theorem at_101_651 : am_code 101 651 = some (ai_sld 652) := rfl
set_option maxRecDepth 100000 in
theorem at_101_652 : am_code 101 652 = some (ai_callV 47 1 1 655) := rfl
set_option maxRecDepth 100000 in
theorem at_101_655 : am_code 101 655 = some (ai_aload 2 656) := rfl
set_option maxRecDepth 100000 in
theorem at_101_656 : am_code 101 656 = some (ai_aload 0 657) := rfl
set_option maxRecDepth 100000 in
theorem at_101_657 : am_code 101 657 = some (ai_iload 3 658) := rfl
set_option maxRecDepth 100000 in
theorem at_101_658 : am_code 101 658 = some (ai_push 1 659) := rfl
set_option maxRecDepth 100000 in
theorem at_101_659 : am_code 101 659 = some (ai_bin (fun x y => x + y) 660) := rfl
set_option maxRecDepth 100000 in
theorem at_101_660 : am_code 101 660 = some (ai_sld 661) := rfl
set_option maxRecDepth 100000 in
theorem at_101_661 : am_code 101 661 = some (ai_callV 100 50 1 664) := rfl
set_option maxRecDepth 100000 in
theorem at_101_664 : am_code 101 664 = some (ai_icmp (fun x y => x = y) 669 667) := rfl
set_option maxRecDepth 100000 in
theorem at_101_667 : am_code 101 667 = some (ai_push 0 668) := rfl
set_option maxRecDepth 100000 in
theorem at_101_668 : am_code 101 668 = some (ai_zret) := rfl
set_option maxRecDepth 100000 in
theorem at_101_669 : am_code 101 669 = some (ai_iinc 3 6 672) := rfl
set_option maxRecDepth 100000 in
theorem at_101_672 : am_code 101 672 = some (ai_goto 18) := rfl
set_option maxRecDepth 100000 in
theorem at_101_675 : am_code 101 675 = some (ai_push 1 676) := rfl
set_option maxRecDepth 100000 in
theorem at_101_676 : am_code 101 676 = some (ai_zret) := rfl

theorem ct_0 : ∀ x ∈ am_c0, am_snd 0 x.1 x.2 :=
  am_fa (sn_iload_n (k := 0) (by decide +kernel) rfl rfl) <|
  am_fa (sn_iload_n (k := 1) (by decide +kernel) rfl rfl) <|
  am_fa (sn_icmp_lt (off := 7) (by decide +kernel) (by decide) rfl) <|
  am_fa (sn_iload_n (k := 0) (by decide +kernel) rfl rfl) <|
  am_fa (sn_goto (off := 4) (by decide +kernel) (by decide)) <|
  am_fa (sn_iload_n (k := 1) (by decide +kernel) rfl rfl) <|
  am_fa (sn_iret (by decide +kernel) rfl) <|
  am_f0
theorem ct_1 : ∀ x ∈ am_c1, am_snd 1 x.1 x.2 :=
  am_fa (sn_aload_n (k := 0) (by decide +kernel) rfl rfl) <|
  am_fa (sn_oinit (idx := 3) (by decide +kernel) (List.mem_cons_of_mem _ mw_229) (List.mem_cons_of_mem _ mw_52) (List.mem_cons_of_mem _ mw_53) rfl) <|
  am_fa (sn_aload_n (k := 0) (by decide +kernel) rfl rfl) <|
  am_fa (sn_iload_n (k := 1) (by decide +kernel) rfl rfl) <|
  am_fa (sn_putIF (idx := 9) (ob := am_o22) (by decide +kernel) rfl (by decide) rfl hin_22 (List.mem_cons_of_mem _ mw_230) am_o22_ty am_o22_nm rfl rfl rfl rfl rfl rfl) <|
  am_fa (sn_aload_n (k := 0) (by decide +kernel) rfl rfl) <|
  am_fa (sn_iload_n (k := 2) (by decide +kernel) rfl rfl) <|
  am_fa (sn_putIF (idx := 15) (ob := am_o22) (by decide +kernel) rfl (by decide) rfl hin_22 (List.mem_cons_of_mem _ mw_231) am_o22_ty am_o22_nm rfl rfl rfl rfl rfl rfl) <|
  am_fa (sn_aload_n (k := 0) (by decide +kernel) rfl rfl) <|
  am_fa (sn_iload_n (k := 3) (by decide +kernel) rfl rfl) <|
  am_fa (sn_putIF (idx := 18) (ob := am_o22) (by decide +kernel) rfl (by decide) rfl hin_22 (List.mem_cons_of_mem _ mw_233) am_o22_ty am_o22_nm rfl rfl rfl rfl rfl rfl) <|
  am_fa (sn_ret (by decide +kernel) rfl) <|
  am_f0
theorem ct_2 : ∀ x ∈ am_c2, am_snd 2 x.1 x.2 :=
  am_fa (sn_bipush (n := 8) (by decide +kernel) (by decide +kernel) rfl) <|
  am_fa (sn_aload_n (k := 0) (by decide +kernel) rfl rfl) <|
  am_fa (sn_getI (idx := 15) (ob := am_o22) (by decide +kernel) rfl (by decide) rfl hin_22 (List.mem_cons_of_mem _ mw_231) rfl) <|
  am_fa (sn_isub (by decide +kernel) rfl) <|
  am_fa (sn_istore_n (k := 2) (by decide +kernel) rfl (by decide) rfl) <|
  am_fa (sn_iload_n (k := 1) (by decide +kernel) rfl rfl) <|
  am_fa (sn_iload_n (k := 2) (by decide +kernel) rfl rfl) <|
  am_fa (sn_ishr (by decide +kernel) rfl) <|
  am_fa (sn_aload_n (k := 0) (by decide +kernel) rfl rfl) <|
  am_fa (sn_getI (idx := 9) (ob := am_o22) (by decide +kernel) rfl (by decide) rfl hin_22 (List.mem_cons_of_mem _ mw_230) rfl) <|
  am_fa (sn_iload_n (k := 2) (by decide +kernel) rfl rfl) <|
  am_fa (sn_ishr (by decide +kernel) rfl) <|
  am_fa (sn_icmp_ne (off := 7) (by decide +kernel) (by decide) rfl) <|
  am_fa (sn_iconst (n := 1) (by decide +kernel) (by decide +kernel) rfl) <|
  am_fa (sn_goto (off := 4) (by decide +kernel) (by decide)) <|
  am_fa (sn_iconst (n := 0) (by decide +kernel) (by decide +kernel) rfl) <|
  am_fa (sn_zret (by decide +kernel) rfl) <|
  am_f0
theorem ct_3 : ∀ x ∈ am_c3, am_snd 3 x.1 x.2 :=
  am_fa (sn_aload_n (k := 0) (by decide +kernel) rfl rfl) <|
  am_fa (sn_ifnull (off := 7) (by decide +kernel) (by decide) rfl) <|
  am_fa (sn_aload_n (k := 1) (by decide +kernel) rfl rfl) <|
  am_fa (sn_ifnonnull (off := 17) (by decide +kernel) (by decide) rfl) <|
  am_fa (sn_aload_n (k := 0) (by decide +kernel) rfl rfl) <|
  am_fa (sn_ifnonnull (off := 11) (by decide +kernel) (by decide) rfl) <|
  am_fa (sn_aload_n (k := 1) (by decide +kernel) rfl rfl) <|
  am_fa (sn_ifnonnull (off := 7) (by decide +kernel) (by decide) rfl) <|
  am_fa (sn_iconst (n := 1) (by decide +kernel) (by decide +kernel) rfl) <|
  am_fa (sn_goto (off := 4) (by decide +kernel) (by decide)) <|
  am_fa (sn_iconst (n := 0) (by decide +kernel) (by decide +kernel) rfl) <|
  am_fa (sn_zret (by decide +kernel) rfl) <|
  am_fa (sn_aload_n (k := 0) (by decide +kernel) rfl rfl) <|
  am_fa (sn_getI (idx := 9) (ob := am_o22) (by decide +kernel) rfl (by decide) rfl hin_22 (List.mem_cons_of_mem _ mw_230) rfl) <|
  am_fa (sn_aload_n (k := 1) (by decide +kernel) rfl rfl) <|
  am_fa (sn_getI (idx := 9) (ob := am_o22) (by decide +kernel) rfl (by decide) rfl hin_22 (List.mem_cons_of_mem _ mw_230) rfl) <|
  am_fa (sn_icmp_ne (off := 29) (by decide +kernel) (by decide) rfl) <|
  am_fa (sn_aload_n (k := 0) (by decide +kernel) rfl rfl) <|
  am_fa (sn_getI (idx := 15) (ob := am_o22) (by decide +kernel) rfl (by decide) rfl hin_22 (List.mem_cons_of_mem _ mw_231) rfl) <|
  am_fa (sn_aload_n (k := 1) (by decide +kernel) rfl rfl) <|
  am_fa (sn_getI (idx := 15) (ob := am_o22) (by decide +kernel) rfl (by decide) rfl hin_22 (List.mem_cons_of_mem _ mw_231) rfl) <|
  am_fa (sn_icmp_ne (off := 18) (by decide +kernel) (by decide) rfl) <|
  am_fa (sn_aload_n (k := 0) (by decide +kernel) rfl rfl) <|
  am_fa (sn_getI (idx := 18) (ob := am_o22) (by decide +kernel) rfl (by decide) rfl hin_22 (List.mem_cons_of_mem _ mw_233) rfl) <|
  am_fa (sn_aload_n (k := 1) (by decide +kernel) rfl rfl) <|
  am_fa (sn_getI (idx := 18) (ob := am_o22) (by decide +kernel) rfl (by decide) rfl hin_22 (List.mem_cons_of_mem _ mw_233) rfl) <|
  am_fa (sn_icmp_ne (off := 7) (by decide +kernel) (by decide) rfl) <|
  am_fa (sn_iconst (n := 1) (by decide +kernel) (by decide +kernel) rfl) <|
  am_fa (sn_goto (off := 4) (by decide +kernel) (by decide)) <|
  am_fa (sn_iconst (n := 0) (by decide +kernel) (by decide +kernel) rfl) <|
  am_fa (sn_zret (by decide +kernel) rfl) <|
  am_f0
theorem ct_4 : ∀ x ∈ am_c4, am_snd 4 x.1 x.2 :=
  am_fa (sn_aload_n (k := 0) (by decide +kernel) rfl rfl) <|
  am_fa (sn_oinit (idx := 3) (by decide +kernel) (List.mem_cons_of_mem _ mw_338) (List.mem_cons_of_mem _ mw_52) (List.mem_cons_of_mem _ mw_53) rfl) <|
  am_fa (sn_aload_n (k := 0) (by decide +kernel) rfl rfl) <|
  am_fa (sn_iload_n (k := 1) (by decide +kernel) rfl rfl) <|
  am_fa (sn_putIF (idx := 9) (ob := am_o19) (by decide +kernel) rfl (by decide) rfl hin_19 (List.mem_cons_of_mem _ mw_341) am_o19_ty am_o19_nm rfl rfl rfl rfl rfl rfl) <|
  am_fa (sn_aload_n (k := 0) (by decide +kernel) rfl rfl) <|
  am_fa (sn_iload_n (k := 2) (by decide +kernel) rfl rfl) <|
  am_fa (sn_putIF (idx := 15) (ob := am_o19) (by decide +kernel) rfl (by decide) rfl hin_19 (List.mem_cons_of_mem _ mw_344) am_o19_ty am_o19_nm rfl rfl rfl rfl rfl rfl) <|
  am_fa (sn_aload_n (k := 0) (by decide +kernel) rfl rfl) <|
  am_fa (sn_iload_n (k := 3) (by decide +kernel) rfl rfl) <|
  am_fa (sn_putIF (idx := 18) (ob := am_o19) (by decide +kernel) rfl (by decide) rfl hin_19 (List.mem_cons_of_mem _ mw_346) am_o19_ty am_o19_nm rfl rfl rfl rfl rfl rfl) <|
  am_fa (sn_aload_n (k := 0) (by decide +kernel) rfl rfl) <|
  am_fa (sn_iconst (n := 5) (by decide +kernel) (by decide +kernel) rfl) <|
  am_fa (sn_newa (at9 := .int) (by decide +kernel) rfl rfl (by decide) (by decide) (by decide) (List.mem_cons_of_mem _ mw_116) rfl) <|
  am_fa (sn_putPF (idx := 21) (ob := am_o19) (by decide +kernel) rfl (by decide) rfl hin_19 (List.mem_cons_of_mem _ mw_349) am_o19_ty am_o19_nm rfl rfl rfl rfl rfl) <|
  am_fa (sn_iconst (n := 0) (by decide +kernel) (by decide +kernel) rfl) <|
  am_fa (sn_istore (by decide +kernel) (by decide) rfl) <|
  am_fa (sn_iload (by decide +kernel) rfl) <|
  am_fa (sn_iconst (n := 5) (by decide +kernel) (by decide +kernel) rfl) <|
  am_fa (sn_icmp_ge (off := 24) (by decide +kernel) (by decide) rfl) <|
  am_fa (sn_aload_n (k := 0) (by decide +kernel) rfl rfl) <|
  am_fa (sn_getP (idx := 21) (ob := am_o19) (by decide +kernel) rfl (by decide) rfl hin_19 (List.mem_cons_of_mem _ mw_349) rfl) <|
  am_fa (sn_iload (by decide +kernel) rfl) <|
  am_fa (sn_aload (by decide +kernel) rfl) <|
  am_fa (sn_iload (by decide +kernel) rfl) <|
  am_fa (sn_aald (by decide +kernel) rfl rfl rfl) <|
  am_fa (sn_callV (idx := 25) (ob := am_o7) (by decide +kernel) rfl (hG 13 (List.mem_cons_of_mem _ mw_326)) (by decide) (List.mem_cons_of_mem _ mw_39) (List.mem_cons_of_mem _ mw_339) (by decide +kernel) rfl rfl (List.mem_cons_of_mem _ mw_324) (List.mem_cons_of_mem _ mw_325) rfl) <|
  am_fa (sn_iast (by decide +kernel) rfl rfl rfl) <|
  am_fa (sn_iinc (i := 1) (by decide +kernel) (by decide +kernel) (by decide) rfl) <|
  am_fa (sn_goto (off := (-24)) (by decide +kernel) (by decide)) <|
  am_fa (sn_aload_n (k := 0) (by decide +kernel) rfl rfl) <|
  am_fa (sn_iconst (n := 2) (by decide +kernel) (by decide +kernel) rfl) <|
  am_fa (sn_anewa (idx := 31) (by decide +kernel) rfl rfl (by decide) (by decide) (by decide) (List.mem_cons_of_mem _ mw_340) rfl) <|
  am_fa (sn_putPF (idx := 33) (ob := am_o19) (by decide +kernel) rfl (by decide) rfl hin_19 (List.mem_cons_of_mem _ mw_353) am_o19_ty am_o19_nm rfl rfl rfl rfl rfl) <|
  am_fa (sn_iconst (n := 0) (by decide +kernel) (by decide +kernel) rfl) <|
  am_fa (sn_istore (by decide +kernel) (by decide) rfl) <|
  am_fa (sn_iload (by decide +kernel) rfl) <|
  am_fa (sn_iconst (n := 2) (by decide +kernel) (by decide +kernel) rfl) <|
  am_fa (sn_icmp_ge (off := 21) (by decide +kernel) (by decide) rfl) <|
  am_fa (sn_aload_n (k := 0) (by decide +kernel) rfl rfl) <|
  am_fa (sn_getP (idx := 33) (ob := am_o19) (by decide +kernel) rfl (by decide) rfl hin_19 (List.mem_cons_of_mem _ mw_353) rfl) <|
  am_fa (sn_iload (by decide +kernel) rfl) <|
  am_fa (sn_aload (by decide +kernel) rfl) <|
  am_fa (sn_iload (by decide +kernel) rfl) <|
  am_fa (sn_aald (by decide +kernel) rfl rfl rfl) <|
  am_fa (sn_aast (ob := am_o22) (by decide +kernel) rfl rfl rfl rfl) <|
  am_fa (sn_iinc (i := 1) (by decide +kernel) (by decide +kernel) (by decide) rfl) <|
  am_fa (sn_goto (off := (-21)) (by decide +kernel) (by decide)) <|
  am_fa (sn_ret (by decide +kernel) rfl) <|
  am_f0
theorem ct_5 : ∀ x ∈ am_c5, am_snd 5 x.1 x.2 :=
  am_fa (sn_aload_n (k := 0) (by decide +kernel) rfl rfl) <|
  am_fa (sn_getI (idx := 15) (ob := am_o19) (by decide +kernel) rfl (by decide) rfl hin_19 (List.mem_cons_of_mem _ mw_344) rfl) <|
  am_fa (sn_aload_n (k := 1) (by decide +kernel) rfl rfl) <|
  am_fa (sn_getI (idx := 15) (ob := am_o19) (by decide +kernel) rfl (by decide) rfl hin_19 (List.mem_cons_of_mem _ mw_344) rfl) <|
  am_fa (sn_icmp_gt (off := 25) (by decide +kernel) (by decide) rfl) <|
  am_fa (sn_aload_n (k := 0) (by decide +kernel) rfl rfl) <|
  am_fa (sn_getI (idx := 15) (ob := am_o19) (by decide +kernel) rfl (by decide) rfl hin_19 (List.mem_cons_of_mem _ mw_344) rfl) <|
  am_fa (sn_aload_n (k := 1) (by decide +kernel) rfl rfl) <|
  am_fa (sn_getI (idx := 15) (ob := am_o19) (by decide +kernel) rfl (by decide) rfl hin_19 (List.mem_cons_of_mem _ mw_344) rfl) <|
  am_fa (sn_icmp_ne (off := 18) (by decide +kernel) (by decide) rfl) <|
  am_fa (sn_aload_n (k := 0) (by decide +kernel) rfl rfl) <|
  am_fa (sn_getI (idx := 18) (ob := am_o19) (by decide +kernel) rfl (by decide) rfl hin_19 (List.mem_cons_of_mem _ mw_346) rfl) <|
  am_fa (sn_aload_n (k := 1) (by decide +kernel) rfl rfl) <|
  am_fa (sn_getI (idx := 18) (ob := am_o19) (by decide +kernel) rfl (by decide) rfl hin_19 (List.mem_cons_of_mem _ mw_346) rfl) <|
  am_fa (sn_icmp_le (off := 7) (by decide +kernel) (by decide) rfl) <|
  am_fa (sn_iconst (n := 1) (by decide +kernel) (by decide +kernel) rfl) <|
  am_fa (sn_goto (off := 4) (by decide +kernel) (by decide)) <|
  am_fa (sn_iconst (n := 0) (by decide +kernel) (by decide +kernel) rfl) <|
  am_fa (sn_zret (by decide +kernel) rfl) <|
  am_f0
theorem ct_6 : ∀ x ∈ am_c6, am_snd 6 x.1 x.2 :=
  am_fa (sn_aload_n (k := 0) (by decide +kernel) rfl rfl) <|
  am_fa (sn_getI (idx := 15) (ob := am_o19) (by decide +kernel) rfl (by decide) rfl hin_19 (List.mem_cons_of_mem _ mw_344) rfl) <|
  am_fa (sn_aload_n (k := 1) (by decide +kernel) rfl rfl) <|
  am_fa (sn_getI (idx := 15) (ob := am_o19) (by decide +kernel) rfl (by decide) rfl hin_19 (List.mem_cons_of_mem _ mw_344) rfl) <|
  am_fa (sn_icmp_ne (off := 18) (by decide +kernel) (by decide) rfl) <|
  am_fa (sn_aload_n (k := 0) (by decide +kernel) rfl rfl) <|
  am_fa (sn_getI (idx := 18) (ob := am_o19) (by decide +kernel) rfl (by decide) rfl hin_19 (List.mem_cons_of_mem _ mw_346) rfl) <|
  am_fa (sn_aload_n (k := 1) (by decide +kernel) rfl rfl) <|
  am_fa (sn_getI (idx := 18) (ob := am_o19) (by decide +kernel) rfl (by decide) rfl hin_19 (List.mem_cons_of_mem _ mw_346) rfl) <|
  am_fa (sn_icmp_ne (off := 7) (by decide +kernel) (by decide) rfl) <|
  am_fa (sn_iconst (n := 1) (by decide +kernel) (by decide +kernel) rfl) <|
  am_fa (sn_goto (off := 4) (by decide +kernel) (by decide)) <|
  am_fa (sn_iconst (n := 0) (by decide +kernel) (by decide +kernel) rfl) <|
  am_fa (sn_zret (by decide +kernel) rfl) <|
  am_f0
theorem ct_7 : ∀ x ∈ am_c7, am_snd 7 x.1 x.2 :=
  am_fa (sn_aload_n (k := 0) (by decide +kernel) rfl rfl) <|
  am_fa (sn_oinit (idx := 3) (by decide +kernel) (List.mem_cons_of_mem _ mw_71) (List.mem_cons_of_mem _ mw_52) (List.mem_cons_of_mem _ mw_53) rfl) <|
  am_fa (sn_aload_n (k := 0) (by decide +kernel) rfl rfl) <|
  am_fa (sn_iconst (n := 5) (by decide +kernel) (by decide +kernel) rfl) <|
  am_fa (sn_newa (at9 := .int) (by decide +kernel) rfl rfl (by decide) (by decide) (by decide) (List.mem_cons_of_mem _ mw_116) rfl) <|
  am_fa (sn_putPF (idx := 9) (ob := am_o7) (by decide +kernel) rfl (by decide) rfl hin_7 (List.mem_cons_of_mem _ mw_94) am_o7_ty am_o7_nm rfl rfl rfl rfl rfl) <|
  am_fa (sn_aload_n (k := 0) (by decide +kernel) rfl rfl) <|
  am_fa (sn_callV (idx := 15) (ob := am_o7) (by decide +kernel) rfl (hG 10 (List.mem_cons_of_mem _ mw_75)) (by decide) (List.mem_cons_of_mem _ mw_39) (List.mem_cons_of_mem _ mw_72) (by decide +kernel) rfl rfl (List.mem_cons_of_mem _ mw_74) (List.mem_cons_of_mem _ mw_0) rfl) <|
  am_fa (sn_ret (by decide +kernel) rfl) <|
  am_f0
theorem ct_8 : ∀ x ∈ am_c8, am_snd 8 x.1 x.2 :=
  am_fa (sn_aload_n (k := 0) (by decide +kernel) rfl rfl) <|
  am_fa (sn_iload_n (k := 1) (by decide +kernel) rfl rfl) <|
  am_fa (sn_putI (idx := 18) (ob := am_o7) (by decide +kernel) rfl (by decide) rfl hin_7 (List.mem_cons_of_mem _ mw_76) am_o7_ty am_o7_nm rfl rfl rfl) <|
  am_fa (sn_iload_n (k := 1) (by decide +kernel) rfl rfl) <|
  am_fa (sn_if_ne (off := 12) (by decide +kernel) (by decide) rfl) <|
  am_fa (sn_aload_n (k := 0) (by decide +kernel) rfl rfl) <|
  am_fa (sn_iconst (n := 0) (by decide +kernel) (by decide +kernel) rfl) <|
  am_fa (sn_putI (idx := 22) (ob := am_o7) (by decide +kernel) rfl (by decide) rfl hin_7 (List.mem_cons_of_mem _ mw_78) am_o7_ty am_o7_nm rfl rfl rfl) <|
  am_fa (sn_aload_n (k := 0) (by decide +kernel) rfl rfl) <|
  am_fa (sn_callV (idx := 25) (ob := am_o7) (by decide +kernel) rfl (hG 9 (List.mem_cons_of_mem _ mw_213)) (by decide) (List.mem_cons_of_mem _ mw_39) (List.mem_cons_of_mem _ mw_210) (by decide +kernel) rfl rfl (List.mem_cons_of_mem _ mw_211) (List.mem_cons_of_mem _ mw_212) rfl) <|
  am_fa (sn_ret (by decide +kernel) rfl) <|
  am_f0
theorem ct_9 : ∀ x ∈ am_c9, am_snd 9 x.1 x.2 :=
  am_fa (sn_aload_n (k := 0) (by decide +kernel) rfl rfl) <|
  am_fa (sn_iconst (n := 0) (by decide +kernel) (by decide +kernel) rfl) <|
  am_fa (sn_putZ (idx := 28) (ob := am_o7) (by decide +kernel) rfl (by decide) rfl hin_7 (List.mem_cons_of_mem _ mw_80) am_o7_ty am_o7_nm rfl rfl rfl) <|
  am_fa (sn_aload_n (k := 0) (by decide +kernel) rfl rfl) <|
  am_fa (sn_iconst (n := 0) (by decide +kernel) (by decide +kernel) rfl) <|
  am_fa (sn_putI (idx := 32) (ob := am_o7) (by decide +kernel) rfl (by decide) rfl hin_7 (List.mem_cons_of_mem _ mw_85) am_o7_ty am_o7_nm rfl rfl rfl) <|
  am_fa (sn_aload_n (k := 0) (by decide +kernel) rfl rfl) <|
  am_fa (sn_iconst (n := 0) (by decide +kernel) (by decide +kernel) rfl) <|
  am_fa (sn_putZ (idx := 35) (ob := am_o7) (by decide +kernel) rfl (by decide) rfl hin_7 (List.mem_cons_of_mem _ mw_87) am_o7_ty am_o7_nm rfl rfl rfl) <|
  am_fa (sn_aload_n (k := 0) (by decide +kernel) rfl rfl) <|
  am_fa (sn_iconst (n := 0) (by decide +kernel) (by decide +kernel) rfl) <|
  am_fa (sn_putZ (idx := 38) (ob := am_o7) (by decide +kernel) rfl (by decide) rfl hin_7 (List.mem_cons_of_mem _ mw_89) am_o7_ty am_o7_nm rfl rfl rfl) <|
  am_fa (sn_aload_n (k := 0) (by decide +kernel) rfl rfl) <|
  am_fa (sn_callV (idx := 15) (ob := am_o7) (by decide +kernel) rfl (hG 10 (List.mem_cons_of_mem _ mw_75)) (by decide) (List.mem_cons_of_mem _ mw_39) (List.mem_cons_of_mem _ mw_72) (by decide +kernel) rfl rfl (List.mem_cons_of_mem _ mw_74) (List.mem_cons_of_mem _ mw_0) rfl) <|
  am_fa (sn_ret (by decide +kernel) rfl) <|
  am_f0
theorem ct_10 : ∀ x ∈ am_c10, am_snd 10 x.1 x.2 :=
  am_fa (sn_iconst (n := 0) (by decide +kernel) (by decide +kernel) rfl) <|
  am_fa (sn_istore_n (k := 1) (by decide +kernel) rfl (by decide) rfl) <|
  am_fa (sn_iload_n (k := 1) (by decide +kernel) rfl rfl) <|
  am_fa (sn_iconst (n := 5) (by decide +kernel) (by decide +kernel) rfl) <|
  am_fa (sn_icmp_ge (off := 17) (by decide +kernel) (by decide) rfl) <|
  am_fa (sn_aload_n (k := 0) (by decide +kernel) rfl rfl) <|
  am_fa (sn_getP (idx := 9) (ob := am_o7) (by decide +kernel) rfl (by decide) rfl hin_7 (List.mem_cons_of_mem _ mw_94) rfl) <|
  am_fa (sn_iload_n (k := 1) (by decide +kernel) rfl rfl) <|
  am_fa (sn_bipush (n := (-2)) (by decide +kernel) (by decide +kernel) rfl) <|
  am_fa (sn_iast (by decide +kernel) rfl rfl rfl) <|
  am_fa (sn_iinc (i := 1) (by decide +kernel) (by decide +kernel) (by decide) rfl) <|
  am_fa (sn_goto (off := (-16)) (by decide +kernel) (by decide)) <|
  am_fa (sn_ret (by decide +kernel) rfl) <|
  am_f0
theorem ct_11 : ∀ x ∈ am_c11, am_snd 11 x.1 x.2 :=
  am_fa (sn_aload_n (k := 0) (by decide +kernel) rfl rfl) <|
  am_fa (sn_getP (idx := 9) (ob := am_o7) (by decide +kernel) rfl (by decide) rfl hin_7 (List.mem_cons_of_mem _ mw_94) rfl) <|
  am_fa (sn_iload_n (k := 1) (by decide +kernel) rfl rfl) <|
  am_fa (sn_iald (by decide +kernel) rfl rfl rfl) <|
  am_fa (sn_bipush (n := (-2)) (by decide +kernel) (by decide +kernel) rfl) <|
  am_fa (sn_icmp_ne (off := 10) (by decide +kernel) (by decide) rfl) <|
  am_fa (sn_aload_n (k := 0) (by decide +kernel) rfl rfl) <|
  am_fa (sn_getP (idx := 9) (ob := am_o7) (by decide +kernel) rfl (by decide) rfl hin_7 (List.mem_cons_of_mem _ mw_94) rfl) <|
  am_fa (sn_iload_n (k := 1) (by decide +kernel) rfl rfl) <|
  am_fa (sn_iconst (n := (-1)) (by decide +kernel) (by decide +kernel) rfl) <|
  am_fa (sn_iast (by decide +kernel) rfl rfl rfl) <|
  am_fa (sn_ret (by decide +kernel) rfl) <|
  am_f0
theorem ct_12 : ∀ x ∈ am_c12, am_snd 12 x.1 x.2 :=
  am_fa (sn_aload_n (k := 0) (by decide +kernel) rfl rfl) <|
  am_fa (sn_getI (idx := 32) (ob := am_o7) (by decide +kernel) rfl (by decide) rfl hin_7 (List.mem_cons_of_mem _ mw_85) rfl) <|
  am_fa (sn_iload_n (k := 1) (by decide +kernel) rfl rfl) <|
  am_fa (sn_iconst (n := 5) (by decide +kernel) (by decide +kernel) rfl) <|
  am_fa (sn_isub (by decide +kernel) rfl) <|
  am_fa (sn_icmp_gt (off := 13) (by decide +kernel) (by decide) rfl) <|
  am_fa (sn_aload_n (k := 0) (by decide +kernel) rfl rfl) <|
  am_fa (sn_iconst (n := 0) (by decide +kernel) (by decide +kernel) rfl) <|
  am_fa (sn_putZ (idx := 28) (ob := am_o7) (by decide +kernel) rfl (by decide) rfl hin_7 (List.mem_cons_of_mem _ mw_80) am_o7_ty am_o7_nm rfl rfl rfl) <|
  am_fa (sn_aload_n (k := 0) (by decide +kernel) rfl rfl) <|
  am_fa (sn_iconst (n := 0) (by decide +kernel) (by decide +kernel) rfl) <|
  am_fa (sn_putZ (idx := 35) (ob := am_o7) (by decide +kernel) rfl (by decide) rfl hin_7 (List.mem_cons_of_mem _ mw_87) am_o7_ty am_o7_nm rfl rfl rfl) <|
  am_fa (sn_aload_n (k := 0) (by decide +kernel) rfl rfl) <|
  am_fa (sn_getI (idx := 38) (ob := am_o7) (by decide +kernel) rfl (by decide) rfl hin_7 (List.mem_cons_of_mem _ mw_89) rfl) <|
  am_fa (sn_istore_n (k := 2) (by decide +kernel) rfl (by decide) rfl) <|
  am_fa (sn_aload_n (k := 0) (by decide +kernel) rfl rfl) <|
  am_fa (sn_aload_n (k := 0) (by decide +kernel) rfl rfl) <|
  am_fa (sn_getI (idx := 28) (ob := am_o7) (by decide +kernel) rfl (by decide) rfl hin_7 (List.mem_cons_of_mem _ mw_80) rfl) <|
  am_fa (sn_if_eq (off := 14) (by decide +kernel) (by decide) rfl) <|
  am_fa (sn_aload_n (k := 0) (by decide +kernel) rfl rfl) <|
  am_fa (sn_getI (idx := 35) (ob := am_o7) (by decide +kernel) rfl (by decide) rfl hin_7 (List.mem_cons_of_mem _ mw_87) rfl) <|
  am_fa (sn_if_eq (off := 7) (by decide +kernel) (by decide) rfl) <|
  am_fa (sn_iconst (n := 1) (by decide +kernel) (by decide +kernel) rfl) <|
  am_fa (sn_goto (off := 4) (by decide +kernel) (by decide)) <|
  am_fa (sn_iconst (n := 0) (by decide +kernel) (by decide +kernel) rfl) <|
  am_fa (sn_putZ (idx := 38) (ob := am_o7) (by decide +kernel) rfl (by decide) rfl hin_7 (List.mem_cons_of_mem _ mw_89) am_o7_ty am_o7_nm rfl rfl rfl) <|
  am_fa (sn_aload_n (k := 0) (by decide +kernel) rfl rfl) <|
  am_fa (sn_aload_n (k := 0) (by decide +kernel) rfl rfl) <|
  am_fa (sn_getI (idx := 38) (ob := am_o7) (by decide +kernel) rfl (by decide) rfl hin_7 (List.mem_cons_of_mem _ mw_89) rfl) <|
  am_fa (sn_if_eq (off := 11) (by decide +kernel) (by decide) rfl) <|
  am_fa (sn_iload_n (k := 2) (by decide +kernel) rfl rfl) <|
  am_fa (sn_if_ne (off := 7) (by decide +kernel) (by decide) rfl) <|
  am_fa (sn_iconst (n := 1) (by decide +kernel) (by decide +kernel) rfl) <|
  am_fa (sn_goto (off := 4) (by decide +kernel) (by decide)) <|
  am_fa (sn_iconst (n := 0) (by decide +kernel) (by decide +kernel) rfl) <|
  am_fa (sn_putZ (idx := 41) (ob := am_o7) (by decide +kernel) rfl (by decide) rfl hin_7 (List.mem_cons_of_mem _ mw_92) am_o7_ty am_o7_nm rfl rfl rfl) <|
  am_fa (sn_aload_n (k := 0) (by decide +kernel) rfl rfl) <|
  am_fa (sn_getI (idx := 38) (ob := am_o7) (by decide +kernel) rfl (by decide) rfl hin_7 (List.mem_cons_of_mem _ mw_89) rfl) <|
  am_fa (sn_if_ne (off := 7) (by decide +kernel) (by decide) rfl) <|
  am_fa (sn_aload_n (k := 0) (by decide +kernel) rfl rfl) <|
  am_fa (sn_callV (idx := 15) (ob := am_o7) (by decide +kernel) rfl (hG 10 (List.mem_cons_of_mem _ mw_75)) (by decide) (List.mem_cons_of_mem _ mw_39) (List.mem_cons_of_mem _ mw_72) (by decide +kernel) rfl rfl (List.mem_cons_of_mem _ mw_74) (List.mem_cons_of_mem _ mw_0) rfl) <|
  am_fa (sn_ret (by decide +kernel) rfl) <|
  am_f0
theorem ct_13 : ∀ x ∈ am_c13, am_snd 13 x.1 x.2 :=
  am_fa (sn_aload_n (k := 0) (by decide +kernel) rfl rfl) <|
  am_fa (sn_getI (idx := 38) (ob := am_o7) (by decide +kernel) rfl (by decide) rfl hin_7 (List.mem_cons_of_mem _ mw_89) rfl) <|
  am_fa (sn_if_eq (off := 10) (by decide +kernel) (by decide) rfl) <|
  am_fa (sn_aload_n (k := 0) (by decide +kernel) rfl rfl) <|
  am_fa (sn_getI (idx := 18) (ob := am_o7) (by decide +kernel) rfl (by decide) rfl hin_7 (List.mem_cons_of_mem _ mw_76) rfl) <|
  am_fa (sn_goto (off := 4) (by decide +kernel) (by decide)) <|
  am_fa (sn_iconst (n := 0) (by decide +kernel) (by decide +kernel) rfl) <|
  am_fa (sn_iret (by decide +kernel) rfl) <|
  am_f0
theorem ct_14 : ∀ x ∈ am_c14, am_snd 14 x.1 x.2 :=
  am_fa (sn_aload_n (k := 0) (by decide +kernel) rfl rfl) <|
  am_fa (sn_oinit (idx := 3) (by decide +kernel) (List.mem_cons_of_mem _ mw_60) (List.mem_cons_of_mem _ mw_52) (List.mem_cons_of_mem _ mw_53) rfl) <|
  am_fa (sn_aload_n (k := 0) (by decide +kernel) rfl rfl) <|
  am_fa (sn_iload_n (k := 1) (by decide +kernel) rfl rfl) <|
  am_fa (sn_putIF (idx := 9) (ob := am_o3) (by decide +kernel) rfl (by decide) rfl hin_3 (List.mem_cons_of_mem _ mw_117) am_o3_ty am_o3_nm rfl rfl rfl rfl rfl rfl) <|
  am_fa (sn_aload_n (k := 0) (by decide +kernel) rfl rfl) <|
  am_fa (sn_iconst (n := 1) (by decide +kernel) (by decide +kernel) rfl) <|
  am_fa (sn_putZ (idx := 15) (ob := am_o3) (by decide +kernel) rfl (by decide) rfl hin_3 (List.mem_cons_of_mem _ mw_118) am_o3_ty am_o3_nm rfl rfl rfl) <|
  am_fa (sn_aload_n (k := 0) (by decide +kernel) rfl rfl) <|
  am_fa (sn_iconst (n := 2) (by decide +kernel) (by decide +kernel) rfl) <|
  am_fa (sn_anewa (idx := 19) (by decide +kernel) rfl rfl (by decide) (by decide) (by decide) (List.mem_cons_of_mem _ mw_61) rfl) <|
  am_fa (sn_putPF (idx := 21) (ob := am_o3) (by decide +kernel) rfl (by decide) rfl hin_3 (List.mem_cons_of_mem _ mw_123) am_o3_ty am_o3_nm rfl rfl rfl rfl rfl) <|
  am_fa (sn_aload_n (k := 0) (by decide +kernel) rfl rfl) <|
  am_fa (sn_iconst (n := 5) (by decide +kernel) (by decide +kernel) rfl) <|
  am_fa (sn_anewa (idx := 25) (by decide +kernel) rfl rfl (by decide) (by decide) (by decide) (List.mem_cons_of_mem _ mw_63) rfl) <|
  am_fa (sn_putPF (idx := 27) (ob := am_o3) (by decide +kernel) rfl (by decide) rfl hin_3 (List.mem_cons_of_mem _ mw_125) am_o3_ty am_o3_nm rfl rfl rfl rfl rfl) <|
  am_fa (sn_aload_n (k := 0) (by decide +kernel) rfl rfl) <|
  am_fa (sn_iconst (n := 5) (by decide +kernel) (by decide +kernel) rfl) <|
  am_fa (sn_anewa (idx := 31) (by decide +kernel) rfl rfl (by decide) (by decide) (by decide) (List.mem_cons_of_mem _ mw_65) rfl) <|
  am_fa (sn_putPF (idx := 33) (ob := am_o3) (by decide +kernel) rfl (by decide) rfl hin_3 (List.mem_cons_of_mem _ mw_127) am_o3_ty am_o3_nm rfl rfl rfl rfl rfl) <|
  am_fa (sn_iconst (n := 0) (by decide +kernel) (by decide +kernel) rfl) <|
  am_fa (sn_istore_n (k := 2) (by decide +kernel) rfl (by decide) rfl) <|
  am_fa (sn_iload_n (k := 2) (by decide +kernel) rfl rfl) <|
  am_fa (sn_iconst (n := 5) (by decide +kernel) (by decide +kernel) rfl) <|
  am_fa (sn_icmp_ge (off := 22) (by decide +kernel) (by decide) rfl) <|
  am_fa (sn_aload_n (k := 0) (by decide +kernel) rfl rfl) <|
  am_fa (sn_getP (idx := 33) (ob := am_o3) (by decide +kernel) rfl (by decide) rfl hin_3 (List.mem_cons_of_mem _ mw_127) rfl) <|
  am_fa (sn_iload_n (k := 2) (by decide +kernel) rfl rfl) <|
  am_fa (sn_new (idx := 31) (ob := am_o7) (by decide +kernel) rfl rfl (by decide) am_o7_dv am_o7_ty hin_7 (List.mem_cons_of_mem _ mw_65) (List.mem_cons_of_mem _ mw_67) (List.mem_cons_of_mem _ mw_39) rfl) <|
  am_fa (sn_dup (by decide +kernel) rfl) <|
  am_fa (sn_callI (idx := 37) (by decide +kernel) rfl (hG 7 (List.mem_cons_of_mem _ mw_70)) (by decide) (List.mem_cons_of_mem _ mw_39) (List.mem_cons_of_mem _ mw_68) (by decide +kernel) rfl rfl (List.mem_cons_of_mem _ mw_69) rfl) <|
  am_fa (sn_aast (ob := am_o7) (by decide +kernel) rfl rfl rfl rfl) <|
  am_fa (sn_iinc (i := 1) (by decide +kernel) (by decide +kernel) (by decide) rfl) <|
  am_fa (sn_goto (off := (-21)) (by decide +kernel) (by decide)) <|
  am_fa (sn_ret (by decide +kernel) rfl) <|
  am_f0
theorem ct_15 : ∀ x ∈ am_c15, am_snd 15 x.1 x.2 :=
  am_fa (sn_aload_n (k := 0) (by decide +kernel) rfl rfl) <|
  am_fa (sn_iconst (n := 0) (by decide +kernel) (by decide +kernel) rfl) <|
  am_fa (sn_putI (idx := 38) (ob := am_o3) (by decide +kernel) rfl (by decide) rfl hin_3 (List.mem_cons_of_mem _ mw_120) am_o3_ty am_o3_nm rfl rfl rfl) <|
  am_fa (sn_aload_n (k := 0) (by decide +kernel) rfl rfl) <|
  am_fa (sn_iconst (n := 0) (by decide +kernel) (by decide +kernel) rfl) <|
  am_fa (sn_putZ (idx := 41) (ob := am_o3) (by decide +kernel) rfl (by decide) rfl hin_3 (List.mem_cons_of_mem _ mw_121) am_o3_ty am_o3_nm rfl rfl rfl) <|
  am_fa (sn_aload_n (k := 0) (by decide +kernel) rfl rfl) <|
  am_fa (sn_null (by decide +kernel) rfl) <|
  am_fa (sn_putP (idx := 44) (ob := am_o3) (by decide +kernel) rfl (by decide) rfl hin_3 (List.mem_cons_of_mem _ mw_122) am_o3_ty am_o3_nm rfl rfl) <|
  am_fa (sn_iconst (n := 0) (by decide +kernel) (by decide +kernel) rfl) <|
  am_fa (sn_istore_n (k := 1) (by decide +kernel) rfl (by decide) rfl) <|
  am_fa (sn_iload_n (k := 1) (by decide +kernel) rfl rfl) <|
  am_fa (sn_iconst (n := 5) (by decide +kernel) (by decide +kernel) rfl) <|
  am_fa (sn_icmp_ge (off := 25) (by decide +kernel) (by decide) rfl) <|
  am_fa (sn_aload_n (k := 0) (by decide +kernel) rfl rfl) <|
  am_fa (sn_getP (idx := 27) (ob := am_o3) (by decide +kernel) rfl (by decide) rfl hin_3 (List.mem_cons_of_mem _ mw_125) rfl) <|
  am_fa (sn_iload_n (k := 1) (by decide +kernel) rfl rfl) <|
  am_fa (sn_null (by decide +kernel) rfl) <|
  am_fa (sn_aast (ob := am_o19) (by decide +kernel) rfl rfl rfl rfl) <|
  am_fa (sn_aload_n (k := 0) (by decide +kernel) rfl rfl) <|
  am_fa (sn_getP (idx := 33) (ob := am_o3) (by decide +kernel) rfl (by decide) rfl hin_3 (List.mem_cons_of_mem _ mw_127) rfl) <|
  am_fa (sn_iload_n (k := 1) (by decide +kernel) rfl rfl) <|
  am_fa (sn_aald (by decide +kernel) rfl rfl rfl) <|
  am_fa (sn_callV (idx := 48) (ob := am_o7) (by decide +kernel) rfl (hG 9 (List.mem_cons_of_mem _ mw_213)) (by decide) (List.mem_cons_of_mem _ mw_39) (List.mem_cons_of_mem _ mw_250) (by decide +kernel) rfl rfl (List.mem_cons_of_mem _ mw_211) (List.mem_cons_of_mem _ mw_212) rfl) <|
  am_fa (sn_iinc (i := 1) (by decide +kernel) (by decide +kernel) (by decide) rfl) <|
  am_fa (sn_goto (off := (-24)) (by decide +kernel) (by decide)) <|
  am_fa (sn_ret (by decide +kernel) rfl) <|
  am_f0
theorem ct_16 : ∀ x ∈ am_c16, am_snd 16 x.1 x.2 :=
  am_fa (sn_aload_n (k := 0) (by decide +kernel) rfl rfl) <|
  am_fa (sn_getP (idx := 27) (ob := am_o3) (by decide +kernel) rfl (by decide) rfl hin_3 (List.mem_cons_of_mem _ mw_125) rfl) <|
  am_fa (sn_iload_n (k := 1) (by decide +kernel) rfl rfl) <|
  am_fa (sn_null (by decide +kernel) rfl) <|
  am_fa (sn_aast (ob := am_o19) (by decide +kernel) rfl rfl rfl rfl) <|
  am_fa (sn_iconst (n := 0) (by decide +kernel) (by decide +kernel) rfl) <|
  am_fa (sn_istore_n (k := 2) (by decide +kernel) rfl (by decide) rfl) <|
  am_fa (sn_iload_n (k := 2) (by decide +kernel) rfl rfl) <|
  am_fa (sn_iconst (n := 5) (by decide +kernel) (by decide +kernel) rfl) <|
  am_fa (sn_icmp_ge (off := 22) (by decide +kernel) (by decide) rfl) <|
  am_fa (sn_aload_n (k := 0) (by decide +kernel) rfl rfl) <|
  am_fa (sn_getP (idx := 33) (ob := am_o3) (by decide +kernel) rfl (by decide) rfl hin_3 (List.mem_cons_of_mem _ mw_127) rfl) <|
  am_fa (sn_iload_n (k := 2) (by decide +kernel) rfl rfl) <|
  am_fa (sn_aald (by decide +kernel) rfl rfl rfl) <|
  am_fa (sn_getP (idx := 51) (ob := am_o7) (by decide +kernel) rfl (by decide) rfl hin_7 (List.mem_cons_of_mem _ mw_95) rfl) <|
  am_fa (sn_iload_n (k := 1) (by decide +kernel) rfl rfl) <|
  am_fa (sn_bipush (n := (-2)) (by decide +kernel) (by decide +kernel) rfl) <|
  am_fa (sn_iast (by decide +kernel) rfl rfl rfl) <|
  am_fa (sn_iinc (i := 1) (by decide +kernel) (by decide +kernel) (by decide) rfl) <|
  am_fa (sn_goto (off := (-21)) (by decide +kernel) (by decide)) <|
  am_fa (sn_ret (by decide +kernel) rfl) <|
  am_f0
theorem ct_17 : ∀ x ∈ am_c17, am_snd 17 x.1 x.2 :=
  am_fa (sn_iconst (n := 0) (by decide +kernel) (by decide +kernel) rfl) <|
  am_fa (sn_istore_n (k := 1) (by decide +kernel) rfl (by decide) rfl) <|
  am_fa (sn_iload_n (k := 1) (by decide +kernel) rfl rfl) <|
  am_fa (sn_iconst (n := 5) (by decide +kernel) (by decide +kernel) rfl) <|
  am_fa (sn_icmp_ge (off := 27) (by decide +kernel) (by decide) rfl) <|
  am_fa (sn_aload_n (k := 0) (by decide +kernel) rfl rfl) <|
  am_fa (sn_getP (idx := 33) (ob := am_o3) (by decide +kernel) rfl (by decide) rfl hin_3 (List.mem_cons_of_mem _ mw_127) rfl) <|
  am_fa (sn_iload_n (k := 1) (by decide +kernel) rfl rfl) <|
  am_fa (sn_aald (by decide +kernel) rfl rfl rfl) <|
  am_fa (sn_aload_n (k := 0) (by decide +kernel) rfl rfl) <|
  am_fa (sn_getP (idx := 33) (ob := am_o3) (by decide +kernel) rfl (by decide) rfl hin_3 (List.mem_cons_of_mem _ mw_127) rfl) <|
  am_fa (sn_iload_n (k := 1) (by decide +kernel) rfl rfl) <|
  am_fa (sn_aald (by decide +kernel) rfl rfl rfl) <|
  am_fa (sn_getI (idx := 55) (ob := am_o7) (by decide +kernel) rfl (by decide) rfl hin_7 (List.mem_cons_of_mem _ mw_81) rfl) <|
  am_fa (sn_putZ (idx := 58) (ob := am_o7) (by decide +kernel) rfl (by decide) rfl hin_7 (List.mem_cons_of_mem _ mw_83) am_o7_ty am_o7_nm rfl rfl rfl) <|
  am_fa (sn_iinc (i := 1) (by decide +kernel) (by decide +kernel) (by decide) rfl) <|
  am_fa (sn_goto (off := (-26)) (by decide +kernel) (by decide)) <|
  am_fa (sn_ret (by decide +kernel) rfl) <|
  am_f0
theorem ct_18 : ∀ x ∈ am_c18, am_snd 18 x.1 x.2 :=
  am_fa (sn_aload_n (k := 0) (by decide +kernel) rfl rfl) <|
  am_fa (sn_getP (idx := 44) (ob := am_o3) (by decide +kernel) rfl (by decide) rfl hin_3 (List.mem_cons_of_mem _ mw_122) rfl) <|
  am_fa (sn_ifnonnull (off := 5) (by decide +kernel) (by decide) rfl) <|
  am_fa (sn_iconst (n := 1) (by decide +kernel) (by decide +kernel) rfl) <|
  am_fa (sn_zret (by decide +kernel) rfl) <|
  am_fa (sn_aload_n (k := 0) (by decide +kernel) rfl rfl) <|
  am_fa (sn_getP (idx := 44) (ob := am_o3) (by decide +kernel) rfl (by decide) rfl hin_3 (List.mem_cons_of_mem _ mw_122) rfl) <|
  am_fa (sn_getI (idx := 61) (ob := am_o19) (by decide +kernel) rfl (by decide) rfl hin_19 (List.mem_cons_of_mem _ mw_347) rfl) <|
  am_fa (sn_iload_n (k := 1) (by decide +kernel) rfl rfl) <|
  am_fa (sn_iconst (n := 2) (by decide +kernel) (by decide +kernel) rfl) <|
  am_fa (sn_isub (by decide +kernel) rfl) <|
  am_fa (sn_icmp_le (off := 5) (by decide +kernel) (by decide) rfl) <|
  am_fa (sn_iconst (n := 0) (by decide +kernel) (by decide +kernel) rfl) <|
  am_fa (sn_zret (by decide +kernel) rfl) <|
  am_fa (sn_aload_n (k := 0) (by decide +kernel) rfl rfl) <|
  am_fa (sn_getI (idx := 41) (ob := am_o3) (by decide +kernel) rfl (by decide) rfl hin_3 (List.mem_cons_of_mem _ mw_121) rfl) <|
  am_fa (sn_if_ne (off := 28) (by decide +kernel) (by decide) rfl) <|
  am_fa (sn_aload_n (k := 0) (by decide +kernel) rfl rfl) <|
  am_fa (sn_getP (idx := 44) (ob := am_o3) (by decide +kernel) rfl (by decide) rfl hin_3 (List.mem_cons_of_mem _ mw_122) rfl) <|
  am_fa (sn_getI (idx := 61) (ob := am_o19) (by decide +kernel) rfl (by decide) rfl hin_19 (List.mem_cons_of_mem _ mw_347) rfl) <|
  am_fa (sn_iload_n (k := 1) (by decide +kernel) rfl rfl) <|
  am_fa (sn_bipush (n := 20) (by decide +kernel) (by decide +kernel) rfl) <|
  am_fa (sn_isub (by decide +kernel) rfl) <|
  am_fa (sn_icmp_le (off := 14) (by decide +kernel) (by decide) rfl) <|
  am_fa (sn_aload_n (k := 0) (by decide +kernel) rfl rfl) <|
  am_fa (sn_aload_n (k := 0) (by decide +kernel) rfl rfl) <|
  am_fa (sn_getP (idx := 44) (ob := am_o3) (by decide +kernel) rfl (by decide) rfl hin_3 (List.mem_cons_of_mem _ mw_122) rfl) <|
  am_fa (sn_callV (idx := 64) (ob := am_o3) (by decide +kernel) rfl (hG 19 (List.mem_cons_of_mem _ mw_322)) (by decide) (List.mem_cons_of_mem _ mw_38) (List.mem_cons_of_mem _ mw_319) (by decide +kernel) rfl rfl (List.mem_cons_of_mem _ mw_321) (List.mem_cons_of_mem _ mw_10) rfl) <|
  am_fa (sn_if_ne (off := 7) (by decide +kernel) (by decide) rfl) <|
  am_fa (sn_iconst (n := 1) (by decide +kernel) (by decide +kernel) rfl) <|
  am_fa (sn_goto (off := 4) (by decide +kernel) (by decide)) <|
  am_fa (sn_iconst (n := 0) (by decide +kernel) (by decide +kernel) rfl) <|
  am_fa (sn_zret (by decide +kernel) rfl) <|
  am_f0
theorem ct_19 : ∀ x ∈ am_c19, am_snd 19 x.1 x.2 :=
  am_fa (sn_iconst (n := 0) (by decide +kernel) (by decide +kernel) rfl) <|
  am_fa (sn_istore_n (k := 2) (by decide +kernel) rfl (by decide) rfl) <|
  am_fa (sn_iload_n (k := 2) (by decide +kernel) rfl rfl) <|
  am_fa (sn_iconst (n := 5) (by decide +kernel) (by decide +kernel) rfl) <|
  am_fa (sn_icmp_ge (off := 29) (by decide +kernel) (by decide) rfl) <|
  am_fa (sn_aload_n (k := 1) (by decide +kernel) rfl rfl) <|
  am_fa (sn_getP (idx := 68) (ob := am_o19) (by decide +kernel) rfl (by decide) rfl hin_19 (List.mem_cons_of_mem _ mw_351) rfl) <|
  am_fa (sn_iload_n (k := 2) (by decide +kernel) rfl rfl) <|
  am_fa (sn_iald (by decide +kernel) rfl rfl rfl) <|
  am_fa (sn_aload_n (k := 0) (by decide +kernel) rfl rfl) <|
  am_fa (sn_getP (idx := 33) (ob := am_o3) (by decide +kernel) rfl (by decide) rfl hin_3 (List.mem_cons_of_mem _ mw_127) rfl) <|
  am_fa (sn_iload_n (k := 2) (by decide +kernel) rfl rfl) <|
  am_fa (sn_aald (by decide +kernel) rfl rfl rfl) <|
  am_fa (sn_callV (idx := 71) (ob := am_o7) (by decide +kernel) rfl (hG 13 (List.mem_cons_of_mem _ mw_326)) (by decide) (List.mem_cons_of_mem _ mw_39) (List.mem_cons_of_mem _ mw_323) (by decide +kernel) rfl rfl (List.mem_cons_of_mem _ mw_324) (List.mem_cons_of_mem _ mw_325) rfl) <|
  am_fa (sn_icmp_eq (off := 5) (by decide +kernel) (by decide) rfl) <|
  am_fa (sn_iconst (n := 0) (by decide +kernel) (by decide +kernel) rfl) <|
  am_fa (sn_zret (by decide +kernel) rfl) <|
  am_fa (sn_iinc (i := 1) (by decide +kernel) (by decide +kernel) (by decide) rfl) <|
  am_fa (sn_goto (off := (-28)) (by decide +kernel) (by decide)) <|
  am_fa (sn_iconst (n := 0) (by decide +kernel) (by decide +kernel) rfl) <|
  am_fa (sn_istore_n (k := 2) (by decide +kernel) rfl (by decide) rfl) <|
  am_fa (sn_iload_n (k := 2) (by decide +kernel) rfl rfl) <|
  am_fa (sn_iconst (n := 2) (by decide +kernel) (by decide +kernel) rfl) <|
  am_fa (sn_icmp_ge (off := 29) (by decide +kernel) (by decide) rfl) <|
  am_fa (sn_aload_n (k := 1) (by decide +kernel) rfl rfl) <|
  am_fa (sn_getP (idx := 75) (ob := am_o19) (by decide +kernel) rfl (by decide) rfl hin_19 (List.mem_cons_of_mem _ mw_354) rfl) <|
  am_fa (sn_iload_n (k := 2) (by decide +kernel) rfl rfl) <|
  am_fa (sn_aald (by decide +kernel) rfl rfl rfl) <|
  am_fa (sn_aload_n (k := 0) (by decide +kernel) rfl rfl) <|
  am_fa (sn_getP (idx := 21) (ob := am_o3) (by decide +kernel) rfl (by decide) rfl hin_3 (List.mem_cons_of_mem _ mw_123) rfl) <|
  am_fa (sn_iload_n (k := 2) (by decide +kernel) rfl rfl) <|
  am_fa (sn_aald (by decide +kernel) rfl rfl rfl) <|
  am_fa (sn_callS (idx := 76) (by decide +kernel) rfl (hG 3 (List.mem_cons_of_mem _ mw_329)) (by decide) (List.mem_cons_of_mem _ mw_43) (List.mem_cons_of_mem _ mw_327) (by decide +kernel) (List.mem_cons_of_mem _ mw_328) rfl) <|
  am_fa (sn_if_ne (off := 5) (by decide +kernel) (by decide) rfl) <|
  am_fa (sn_iconst (n := 0) (by decide +kernel) (by decide +kernel) rfl) <|
  am_fa (sn_zret (by decide +kernel) rfl) <|
  am_fa (sn_iinc (i := 1) (by decide +kernel) (by decide +kernel) (by decide) rfl) <|
  am_fa (sn_goto (off := (-28)) (by decide +kernel) (by decide)) <|
  am_fa (sn_iconst (n := 1) (by decide +kernel) (by decide +kernel) rfl) <|
  am_fa (sn_zret (by decide +kernel) rfl) <|
  am_f0
theorem ct_20 : ∀ x ∈ am_c20, am_snd 20 x.1 x.2 :=
  am_fa (sn_aload_n (k := 0) (by decide +kernel) rfl rfl) <|
  am_fa (sn_dup (by decide +kernel) rfl) <|
  am_fa (sn_getI (idx := 38) (ob := am_o3) (by decide +kernel) rfl (by decide) rfl hin_3 (List.mem_cons_of_mem _ mw_120) rfl) <|
  am_fa (sn_iconst (n := 1) (by decide +kernel) (by decide +kernel) rfl) <|
  am_fa (sn_iadd (by decide +kernel) rfl) <|
  am_fa (sn_putI (idx := 38) (ob := am_o3) (by decide +kernel) rfl (by decide) rfl hin_3 (List.mem_cons_of_mem _ mw_120) am_o3_ty am_o3_nm rfl rfl rfl) <|
  am_fa (sn_aload_n (k := 0) (by decide +kernel) rfl rfl) <|
  am_fa (sn_new (idx := 25) (ob := am_o19) (by decide +kernel) rfl rfl (by decide) am_o19_dv am_o19_ty hin_19 (List.mem_cons_of_mem _ mw_63) (List.mem_cons_of_mem _ mw_334) (List.mem_cons_of_mem _ mw_44) rfl) <|
  am_fa (sn_dup (by decide +kernel) rfl) <|
  am_fa (sn_aload_n (k := 0) (by decide +kernel) rfl rfl) <|
  am_fa (sn_getI (idx := 9) (ob := am_o3) (by decide +kernel) rfl (by decide) rfl hin_3 (List.mem_cons_of_mem _ mw_117) rfl) <|
  am_fa (sn_aload_n (k := 0) (by decide +kernel) rfl rfl) <|
  am_fa (sn_getI (idx := 38) (ob := am_o3) (by decide +kernel) rfl (by decide) rfl hin_3 (List.mem_cons_of_mem _ mw_120) rfl) <|
  am_fa (sn_iload_n (k := 1) (by decide +kernel) rfl rfl) <|
  am_fa (sn_aload_n (k := 0) (by decide +kernel) rfl rfl) <|
  am_fa (sn_getP (idx := 33) (ob := am_o3) (by decide +kernel) rfl (by decide) rfl hin_3 (List.mem_cons_of_mem _ mw_127) rfl) <|
  am_fa (sn_aload_n (k := 0) (by decide +kernel) rfl rfl) <|
  am_fa (sn_getP (idx := 21) (ob := am_o3) (by decide +kernel) rfl (by decide) rfl hin_3 (List.mem_cons_of_mem _ mw_123) rfl) <|
  am_fa (sn_callI (idx := 80) (by decide +kernel) rfl (hG 4 (List.mem_cons_of_mem _ mw_337)) (by decide) (List.mem_cons_of_mem _ mw_44) (List.mem_cons_of_mem _ mw_335) (by decide +kernel) rfl rfl (List.mem_cons_of_mem _ mw_336) rfl) <|
  am_fa (sn_putP (idx := 44) (ob := am_o3) (by decide +kernel) rfl (by decide) rfl hin_3 (List.mem_cons_of_mem _ mw_122) am_o3_ty am_o3_nm rfl rfl) <|
  am_fa (sn_aload_n (k := 0) (by decide +kernel) rfl rfl) <|
  am_fa (sn_iconst (n := 0) (by decide +kernel) (by decide +kernel) rfl) <|
  am_fa (sn_putZ (idx := 41) (ob := am_o3) (by decide +kernel) rfl (by decide) rfl hin_3 (List.mem_cons_of_mem _ mw_121) am_o3_ty am_o3_nm rfl rfl rfl) <|
  am_fa (sn_aload_n (k := 0) (by decide +kernel) rfl rfl) <|
  am_fa (sn_aload_n (k := 0) (by decide +kernel) rfl rfl) <|
  am_fa (sn_getP (idx := 44) (ob := am_o3) (by decide +kernel) rfl (by decide) rfl hin_3 (List.mem_cons_of_mem _ mw_122) rfl) <|
  am_fa (sn_aload_n (k := 0) (by decide +kernel) rfl rfl) <|
  am_fa (sn_getI (idx := 9) (ob := am_o3) (by decide +kernel) rfl (by decide) rfl hin_3 (List.mem_cons_of_mem _ mw_117) rfl) <|
  am_fa (sn_callV (idx := 83) (ob := am_o3) (by decide +kernel) rfl (hG 21 (List.mem_cons_of_mem _ mw_370)) (by decide) (List.mem_cons_of_mem _ mw_38) (List.mem_cons_of_mem _ mw_367) (by decide +kernel) rfl rfl (List.mem_cons_of_mem _ mw_368) (List.mem_cons_of_mem _ mw_369) rfl) <|
  am_fa (sn_ret (by decide +kernel) rfl) <|
  am_f0
theorem ct_21 : ∀ x ∈ am_c21, am_snd 21 x.1 x.2 :=
  am_fa (sn_aload_n (k := 1) (by decide +kernel) rfl rfl) <|
  am_fa (sn_getI (idx := 87) (ob := am_o19) (by decide +kernel) rfl (by decide) rfl hin_19 (List.mem_cons_of_mem _ mw_342) rfl) <|
  am_fa (sn_istore_n (k := 3) (by decide +kernel) rfl (by decide) rfl) <|
  am_fa (sn_aload_n (k := 0) (by decide +kernel) rfl rfl) <|
  am_fa (sn_getP (idx := 27) (ob := am_o3) (by decide +kernel) rfl (by decide) rfl hin_3 (List.mem_cons_of_mem _ mw_125) rfl) <|
  am_fa (sn_iload_n (k := 3) (by decide +kernel) rfl rfl) <|
  am_fa (sn_aload_n (k := 1) (by decide +kernel) rfl rfl) <|
  am_fa (sn_aast (ob := am_o19) (by decide +kernel) rfl rfl rfl rfl) <|
  am_fa (sn_iconst (n := 0) (by decide +kernel) (by decide +kernel) rfl) <|
  am_fa (sn_istore (by decide +kernel) (by decide) rfl) <|
  am_fa (sn_iload (by decide +kernel) rfl) <|
  am_fa (sn_iconst (n := 5) (by decide +kernel) (by decide +kernel) rfl) <|
  am_fa (sn_icmp_ge (off := 46) (by decide +kernel) (by decide) rfl) <|
  am_fa (sn_aload_n (k := 0) (by decide +kernel) rfl rfl) <|
  am_fa (sn_getP (idx := 33) (ob := am_o3) (by decide +kernel) rfl (by decide) rfl hin_3 (List.mem_cons_of_mem _ mw_127) rfl) <|
  am_fa (sn_iload (by decide +kernel) rfl) <|
  am_fa (sn_aald (by decide +kernel) rfl rfl rfl) <|
  am_fa (sn_getP (idx := 51) (ob := am_o7) (by decide +kernel) rfl (by decide) rfl hin_7 (List.mem_cons_of_mem _ mw_95) rfl) <|
  am_fa (sn_iload_n (k := 3) (by decide +kernel) rfl rfl) <|
  am_fa (sn_aload_n (k := 0) (by decide +kernel) rfl rfl) <|
  am_fa (sn_getP (idx := 33) (ob := am_o3) (by decide +kernel) rfl (by decide) rfl hin_3 (List.mem_cons_of_mem _ mw_127) rfl) <|
  am_fa (sn_iload (by decide +kernel) rfl) <|
  am_fa (sn_aald (by decide +kernel) rfl rfl rfl) <|
  am_fa (sn_getI (idx := 90) (ob := am_o7) (by decide +kernel) rfl (by decide) rfl hin_7 (List.mem_cons_of_mem _ mw_91) rfl) <|
  am_fa (sn_if_eq (off := 13) (by decide +kernel) (by decide) rfl) <|
  am_fa (sn_iload (by decide +kernel) rfl) <|
  am_fa (sn_iload_n (k := 2) (by decide +kernel) rfl rfl) <|
  am_fa (sn_icmp_eq (off := 7) (by decide +kernel) (by decide) rfl) <|
  am_fa (sn_iconst (n := (-1)) (by decide +kernel) (by decide +kernel) rfl) <|
  am_fa (sn_goto (off := 5) (by decide +kernel) (by decide)) <|
  am_fa (sn_bipush (n := (-2)) (by decide +kernel) (by decide +kernel) rfl) <|
  am_fa (sn_iast (by decide +kernel) rfl rfl rfl) <|
  am_fa (sn_iinc (i := 1) (by decide +kernel) (by decide +kernel) (by decide) rfl) <|
  am_fa (sn_goto (off := (-46)) (by decide +kernel) (by decide)) <|
  am_fa (sn_ret (by decide +kernel) rfl) <|
  am_f0
theorem ct_22 : ∀ x ∈ am_c22, am_snd 22 x.1 x.2 :=
  am_fa (sn_aload_n (k := 0) (by decide +kernel) rfl rfl) <|
  am_fa (sn_aload_n (k := 0) (by decide +kernel) rfl rfl) <|
  am_fa (sn_getI (idx := 38) (ob := am_o3) (by decide +kernel) rfl (by decide) rfl hin_3 (List.mem_cons_of_mem _ mw_120) rfl) <|
  am_fa (sn_iload_n (k := 1) (by decide +kernel) rfl rfl) <|
  am_fa (sn_max (idx := 93) (by decide +kernel) (List.mem_cons_of_mem _ mw_398) (List.mem_cons_of_mem _ mw_399) (List.mem_cons_of_mem _ mw_45) (List.mem_cons_of_mem _ mw_400) rfl) <|
  am_fa (sn_putI (idx := 38) (ob := am_o3) (by decide +kernel) rfl (by decide) rfl hin_3 (List.mem_cons_of_mem _ mw_120) am_o3_ty am_o3_nm rfl rfl rfl) <|
  am_fa (sn_aload_n (k := 0) (by decide +kernel) rfl rfl) <|
  am_fa (sn_iconst (n := 1) (by decide +kernel) (by decide +kernel) rfl) <|
  am_fa (sn_putZ (idx := 41) (ob := am_o3) (by decide +kernel) rfl (by decide) rfl hin_3 (List.mem_cons_of_mem _ mw_121) am_o3_ty am_o3_nm rfl rfl rfl) <|
  am_fa (sn_ret (by decide +kernel) rfl) <|
  am_f0
theorem ct_23 : ∀ x ∈ am_c23, am_snd 23 x.1 x.2 :=
  am_fa (sn_aload_n (k := 0) (by decide +kernel) rfl rfl) <|
  am_fa (sn_oinit (idx := 3) (by decide +kernel) (List.mem_cons_of_mem _ mw_152) (List.mem_cons_of_mem _ mw_52) (List.mem_cons_of_mem _ mw_53) rfl) <|
  am_fa (sn_aload_n (k := 0) (by decide +kernel) rfl rfl) <|
  am_fa (sn_iconst (n := 5) (by decide +kernel) (by decide +kernel) rfl) <|
  am_fa (sn_anewa (idx := 9) (by decide +kernel) rfl rfl (by decide) (by decide) (by decide) (List.mem_cons_of_mem _ mw_153) rfl) <|
  am_fa (sn_putPF (idx := 11) (ob := am_o10) (by decide +kernel) rfl (by decide) rfl hin_10 (List.mem_cons_of_mem _ mw_155) am_o10_ty am_o10_nm rfl rfl rfl rfl rfl) <|
  am_fa (sn_aload_n (k := 0) (by decide +kernel) rfl rfl) <|
  am_fa (sn_iconst (n := 5) (by decide +kernel) (by decide +kernel) rfl) <|
  am_fa (sn_newa (at9 := .boolean) (by decide +kernel) rfl rfl (by decide) (by decide) (by decide) (List.mem_cons_of_mem _ mw_166) rfl) <|
  am_fa (sn_putPF (idx := 17) (ob := am_o10) (by decide +kernel) rfl (by decide) rfl hin_10 (List.mem_cons_of_mem _ mw_157) am_o10_ty am_o10_nm rfl rfl rfl rfl rfl) <|
  am_fa (sn_ret (by decide +kernel) rfl) <|
  am_f0
theorem ct_24 : ∀ x ∈ am_c24, am_snd 24 x.1 x.2 :=
  am_fa (sn_iconst (n := 0) (by decide +kernel) (by decide +kernel) rfl) <|
  am_fa (sn_istore (by decide +kernel) (by decide) rfl) <|
  am_fa (sn_iconst (n := 0) (by decide +kernel) (by decide +kernel) rfl) <|
  am_fa (sn_istore (by decide +kernel) (by decide) rfl) <|
  am_fa (sn_iload (by decide +kernel) rfl) <|
  am_fa (sn_iconst (n := 5) (by decide +kernel) (by decide +kernel) rfl) <|
  am_fa (sn_icmp_ge (off := 62) (by decide +kernel) (by decide) rfl) <|
  am_fa (sn_aload_n (k := 0) (by decide +kernel) rfl rfl) <|
  am_fa (sn_getP (idx := 11) (ob := am_o10) (by decide +kernel) rfl (by decide) rfl hin_10 (List.mem_cons_of_mem _ mw_155) rfl) <|
  am_fa (sn_iload (by decide +kernel) rfl) <|
  am_fa (sn_null (by decide +kernel) rfl) <|
  am_fa (sn_aast (ob := am_o19) (by decide +kernel) rfl rfl rfl rfl) <|
  am_fa (sn_aload_n (k := 0) (by decide +kernel) rfl rfl) <|
  am_fa (sn_getP (idx := 17) (ob := am_o10) (by decide +kernel) rfl (by decide) rfl hin_10 (List.mem_cons_of_mem _ mw_157) rfl) <|
  am_fa (sn_iload (by decide +kernel) rfl) <|
  am_fa (sn_iconst (n := 0) (by decide +kernel) (by decide +kernel) rfl) <|
  am_fa (sn_zast (by decide +kernel) rfl rfl rfl) <|
  am_fa (sn_aload_n (k := 1) (by decide +kernel) rfl rfl) <|
  am_fa (sn_iload (by decide +kernel) rfl) <|
  am_fa (sn_aald (by decide +kernel) rfl rfl rfl) <|
  am_fa (sn_ifnull (off := 33) (by decide +kernel) (by decide) rfl) <|
  am_fa (sn_aload_n (k := 2) (by decide +kernel) rfl rfl) <|
  am_fa (sn_iload (by decide +kernel) rfl) <|
  am_fa (sn_iald (by decide +kernel) rfl rfl rfl) <|
  am_fa (sn_iload_n (k := 3) (by decide +kernel) rfl rfl) <|
  am_fa (sn_callS (idx := 21) (by decide +kernel) rfl (hG 25 (List.mem_cons_of_mem _ mw_381)) (by decide) (List.mem_cons_of_mem _ mw_40) (List.mem_cons_of_mem _ mw_379) (by decide +kernel) (List.mem_cons_of_mem _ mw_380) rfl) <|
  am_fa (sn_if_eq (off := 22) (by decide +kernel) (by decide) rfl) <|
  am_fa (sn_aload_n (k := 0) (by decide +kernel) rfl rfl) <|
  am_fa (sn_getP (idx := 11) (ob := am_o10) (by decide +kernel) rfl (by decide) rfl hin_10 (List.mem_cons_of_mem _ mw_155) rfl) <|
  am_fa (sn_iload (by decide +kernel) rfl) <|
  am_fa (sn_aload_n (k := 1) (by decide +kernel) rfl rfl) <|
  am_fa (sn_iload (by decide +kernel) rfl) <|
  am_fa (sn_aald (by decide +kernel) rfl rfl rfl) <|
  am_fa (sn_aast (ob := am_o19) (by decide +kernel) rfl rfl rfl rfl) <|
  am_fa (sn_aload_n (k := 2) (by decide +kernel) rfl rfl) <|
  am_fa (sn_iload (by decide +kernel) rfl) <|
  am_fa (sn_iload_n (k := 3) (by decide +kernel) rfl rfl) <|
  am_fa (sn_iast (by decide +kernel) rfl rfl rfl) <|
  am_fa (sn_iinc (i := 1) (by decide +kernel) (by decide +kernel) (by decide) rfl) <|
  am_fa (sn_iinc (i := 1) (by decide +kernel) (by decide +kernel) (by decide) rfl) <|
  am_fa (sn_goto (off := (-62)) (by decide +kernel) (by decide)) <|
  am_fa (sn_iload (by decide +kernel) rfl) <|
  am_fa (sn_iret (by decide +kernel) rfl) <|
  am_f0
theorem ct_25 : ∀ x ∈ am_c25, am_snd 25 x.1 x.2 :=
  am_fa (sn_iload_n (k := 0) (by decide +kernel) rfl rfl) <|
  am_fa (sn_bipush (n := (-2)) (by decide +kernel) (by decide +kernel) rfl) <|
  am_fa (sn_icmp_ne (off := 5) (by decide +kernel) (by decide) rfl) <|
  am_fa (sn_iconst (n := 0) (by decide +kernel) (by decide +kernel) rfl) <|
  am_fa (sn_zret (by decide +kernel) rfl) <|
  am_fa (sn_iload_n (k := 0) (by decide +kernel) rfl rfl) <|
  am_fa (sn_iconst (n := (-1)) (by decide +kernel) (by decide +kernel) rfl) <|
  am_fa (sn_icmp_eq (off := 10) (by decide +kernel) (by decide) rfl) <|
  am_fa (sn_iload_n (k := 0) (by decide +kernel) rfl rfl) <|
  am_fa (sn_iload_n (k := 1) (by decide +kernel) rfl rfl) <|
  am_fa (sn_iconst (n := 3) (by decide +kernel) (by decide +kernel) rfl) <|
  am_fa (sn_isub (by decide +kernel) rfl) <|
  am_fa (sn_icmp_gt (off := 7) (by decide +kernel) (by decide) rfl) <|
  am_fa (sn_iconst (n := 1) (by decide +kernel) (by decide +kernel) rfl) <|
  am_fa (sn_goto (off := 4) (by decide +kernel) (by decide)) <|
  am_fa (sn_iconst (n := 0) (by decide +kernel) (by decide +kernel) rfl) <|
  am_fa (sn_zret (by decide +kernel) rfl) <|
  am_f0
theorem ct_26 : ∀ x ∈ am_c26, am_snd 26 x.1 x.2 :=
  am_fa (sn_aload_n (k := 0) (by decide +kernel) rfl rfl) <|
  am_fa (sn_oinit (idx := 3) (by decide +kernel) (List.mem_cons_of_mem _ mw_172) (List.mem_cons_of_mem _ mw_52) (List.mem_cons_of_mem _ mw_53) rfl) <|
  am_fa (sn_aload_n (k := 0) (by decide +kernel) rfl rfl) <|
  am_fa (sn_iconst (n := 5) (by decide +kernel) (by decide +kernel) rfl) <|
  am_fa (sn_iconst (n := 5) (by decide +kernel) (by decide +kernel) rfl) <|
  am_fa (sn_multi (idx := 9) (by decide +kernel) rfl rfl (by decide) (by decide) (List.mem_cons_of_mem _ mw_173) (List.mem_cons_of_mem _ mw_116) rfl) <|
  am_fa (sn_putPF (idx := 11) (ob := am_o13) (by decide +kernel) rfl (by decide) rfl hin_13 (List.mem_cons_of_mem _ mw_175) am_o13_ty am_o13_nm rfl rfl rfl rfl rfl) <|
  am_fa (sn_aload_n (k := 0) (by decide +kernel) rfl rfl) <|
  am_fa (sn_iconst (n := 5) (by decide +kernel) (by decide +kernel) rfl) <|
  am_fa (sn_iconst (n := 5) (by decide +kernel) (by decide +kernel) rfl) <|
  am_fa (sn_multi (idx := 9) (by decide +kernel) rfl rfl (by decide) (by decide) (List.mem_cons_of_mem _ mw_173) (List.mem_cons_of_mem _ mw_116) rfl) <|
  am_fa (sn_putPF (idx := 16) (ob := am_o13) (by decide +kernel) rfl (by decide) rfl hin_13 (List.mem_cons_of_mem _ mw_176) am_o13_ty am_o13_nm rfl rfl rfl rfl rfl) <|
  am_fa (sn_ret (by decide +kernel) rfl) <|
  am_f0
theorem ct_27 : ∀ x ∈ am_c27, am_snd 27 x.1 x.2 :=
  am_fa (sn_iconst (n := 0) (by decide +kernel) (by decide +kernel) rfl) <|
  am_fa (sn_istore_n (k := 2) (by decide +kernel) rfl (by decide) rfl) <|
  am_fa (sn_iload_n (k := 2) (by decide +kernel) rfl rfl) <|
  am_fa (sn_iconst (n := 5) (by decide +kernel) (by decide +kernel) rfl) <|
  am_fa (sn_icmp_ge (off := 66) (by decide +kernel) (by decide) rfl) <|
  am_fa (sn_iconst (n := 0) (by decide +kernel) (by decide +kernel) rfl) <|
  am_fa (sn_istore_n (k := 3) (by decide +kernel) rfl (by decide) rfl) <|
  am_fa (sn_iload_n (k := 3) (by decide +kernel) rfl rfl) <|
  am_fa (sn_iconst (n := 5) (by decide +kernel) (by decide +kernel) rfl) <|
  am_fa (sn_icmp_ge (off := 53) (by decide +kernel) (by decide) rfl) <|
  am_fa (sn_aload_n (k := 0) (by decide +kernel) rfl rfl) <|
  am_fa (sn_getP (idx := 11) (ob := am_o13) (by decide +kernel) rfl (by decide) rfl hin_13 (List.mem_cons_of_mem _ mw_175) rfl) <|
  am_fa (sn_iload_n (k := 2) (by decide +kernel) rfl rfl) <|
  am_fa (sn_aald (by decide +kernel) rfl rfl rfl) <|
  am_fa (sn_iload_n (k := 3) (by decide +kernel) rfl rfl) <|
  am_fa (sn_aload_n (k := 1) (by decide +kernel) rfl rfl) <|
  am_fa (sn_iload_n (k := 2) (by decide +kernel) rfl rfl) <|
  am_fa (sn_aald (by decide +kernel) rfl rfl rfl) <|
  am_fa (sn_aload_n (k := 1) (by decide +kernel) rfl rfl) <|
  am_fa (sn_iload_n (k := 3) (by decide +kernel) rfl rfl) <|
  am_fa (sn_aald (by decide +kernel) rfl rfl rfl) <|
  am_fa (sn_iload_n (k := 2) (by decide +kernel) rfl rfl) <|
  am_fa (sn_iload_n (k := 3) (by decide +kernel) rfl rfl) <|
  am_fa (sn_callS (idx := 19) (by decide +kernel) rfl (hG 28 (List.mem_cons_of_mem _ mw_444)) (by decide) (List.mem_cons_of_mem _ mw_41) (List.mem_cons_of_mem _ mw_442) (by decide +kernel) (List.mem_cons_of_mem _ mw_443) rfl) <|
  am_fa (sn_iast (by decide +kernel) rfl rfl rfl) <|
  am_fa (sn_aload_n (k := 0) (by decide +kernel) rfl rfl) <|
  am_fa (sn_getP (idx := 16) (ob := am_o13) (by decide +kernel) rfl (by decide) rfl hin_13 (List.mem_cons_of_mem _ mw_176) rfl) <|
  am_fa (sn_iload_n (k := 2) (by decide +kernel) rfl rfl) <|
  am_fa (sn_aald (by decide +kernel) rfl rfl rfl) <|
  am_fa (sn_iload_n (k := 3) (by decide +kernel) rfl rfl) <|
  am_fa (sn_iload_n (k := 2) (by decide +kernel) rfl rfl) <|
  am_fa (sn_iload_n (k := 3) (by decide +kernel) rfl rfl) <|
  am_fa (sn_icmp_ne (off := 7) (by decide +kernel) (by decide) rfl) <|
  am_fa (sn_iconst (n := 0) (by decide +kernel) (by decide +kernel) rfl) <|
  am_fa (sn_goto (off := 11) (by decide +kernel) (by decide)) <|
  am_fa (sn_aload_n (k := 0) (by decide +kernel) rfl rfl) <|
  am_fa (sn_getP (idx := 11) (ob := am_o13) (by decide +kernel) rfl (by decide) rfl hin_13 (List.mem_cons_of_mem _ mw_175) rfl) <|
  am_fa (sn_iload_n (k := 2) (by decide +kernel) rfl rfl) <|
  am_fa (sn_aald (by decide +kernel) rfl rfl rfl) <|
  am_fa (sn_iload_n (k := 3) (by decide +kernel) rfl rfl) <|
  am_fa (sn_iald (by decide +kernel) rfl rfl rfl) <|
  am_fa (sn_iast (by decide +kernel) rfl rfl rfl) <|
  am_fa (sn_iinc (i := 1) (by decide +kernel) (by decide +kernel) (by decide) rfl) <|
  am_fa (sn_goto (off := (-52)) (by decide +kernel) (by decide)) <|
  am_fa (sn_iinc (i := 1) (by decide +kernel) (by decide +kernel) (by decide) rfl) <|
  am_fa (sn_goto (off := (-65)) (by decide +kernel) (by decide)) <|
  am_fa (sn_iconst (n := 0) (by decide +kernel) (by decide +kernel) rfl) <|
  am_fa (sn_istore_n (k := 2) (by decide +kernel) rfl (by decide) rfl) <|
  am_fa (sn_iload_n (k := 2) (by decide +kernel) rfl rfl) <|
  am_fa (sn_iconst (n := 5) (by decide +kernel) (by decide +kernel) rfl) <|
  am_fa (sn_icmp_ge (off := 14) (by decide +kernel) (by decide) rfl) <|
  am_fa (sn_aload_n (k := 0) (by decide +kernel) rfl rfl) <|
  am_fa (sn_iload_n (k := 2) (by decide +kernel) rfl rfl) <|
  am_fa (sn_callV (idx := 23) (ob := am_o13) (by decide +kernel) rfl (hG 29 (List.mem_cons_of_mem _ mw_448)) (by decide) (List.mem_cons_of_mem _ mw_41) (List.mem_cons_of_mem _ mw_445) (by decide +kernel) rfl rfl (List.mem_cons_of_mem _ mw_447) (List.mem_cons_of_mem _ mw_17) rfl) <|
  am_fa (sn_iinc (i := 1) (by decide +kernel) (by decide +kernel) (by decide) rfl) <|
  am_fa (sn_goto (off := (-13)) (by decide +kernel) (by decide)) <|
  am_fa (sn_ret (by decide +kernel) rfl) <|
  am_f0
theorem ct_28 : ∀ x ∈ am_c28, am_snd 28 x.1 x.2 :=
  am_fa (sn_aload_n (k := 0) (by decide +kernel) rfl rfl) <|
  am_fa (sn_ifnull (off := 25) (by decide +kernel) (by decide) rfl) <|
  am_fa (sn_aload_n (k := 1) (by decide +kernel) rfl rfl) <|
  am_fa (sn_ifnull (off := 21) (by decide +kernel) (by decide) rfl) <|
  am_fa (sn_aload_n (k := 0) (by decide +kernel) rfl rfl) <|
  am_fa (sn_getP (idx := 27) (ob := am_o19) (by decide +kernel) rfl (by decide) rfl hin_19 (List.mem_cons_of_mem _ mw_350) rfl) <|
  am_fa (sn_iload_n (k := 3) (by decide +kernel) rfl rfl) <|
  am_fa (sn_iald (by decide +kernel) rfl rfl rfl) <|
  am_fa (sn_if_eq (off := 12) (by decide +kernel) (by decide) rfl) <|
  am_fa (sn_aload_n (k := 1) (by decide +kernel) rfl rfl) <|
  am_fa (sn_getP (idx := 27) (ob := am_o19) (by decide +kernel) rfl (by decide) rfl hin_19 (List.mem_cons_of_mem _ mw_350) rfl) <|
  am_fa (sn_iload_n (k := 2) (by decide +kernel) rfl rfl) <|
  am_fa (sn_iald (by decide +kernel) rfl rfl rfl) <|
  am_fa (sn_if_ne (off := 7) (by decide +kernel) (by decide) rfl) <|
  am_fa (sn_sipush (n := 1000) (by decide +kernel) (by decide +kernel) rfl) <|
  am_fa (sn_iret (by decide +kernel) rfl) <|
  am_fa (sn_aload_n (k := 0) (by decide +kernel) rfl rfl) <|
  am_fa (sn_getP (idx := 27) (ob := am_o19) (by decide +kernel) rfl (by decide) rfl hin_19 (List.mem_cons_of_mem _ mw_350) rfl) <|
  am_fa (sn_iload_n (k := 3) (by decide +kernel) rfl rfl) <|
  am_fa (sn_iald (by decide +kernel) rfl rfl rfl) <|
  am_fa (sn_iret (by decide +kernel) rfl) <|
  am_f0
theorem ct_29 : ∀ x ∈ am_c29, am_snd 29 x.1 x.2 :=
  am_fa (sn_iconst (n := 0) (by decide +kernel) (by decide +kernel) rfl) <|
  am_fa (sn_istore_n (k := 2) (by decide +kernel) rfl (by decide) rfl) <|
  am_fa (sn_iload_n (k := 2) (by decide +kernel) rfl rfl) <|
  am_fa (sn_iconst (n := 5) (by decide +kernel) (by decide +kernel) rfl) <|
  am_fa (sn_icmp_ge (off := 64) (by decide +kernel) (by decide) rfl) <|
  am_fa (sn_iconst (n := 0) (by decide +kernel) (by decide +kernel) rfl) <|
  am_fa (sn_istore_n (k := 3) (by decide +kernel) rfl (by decide) rfl) <|
  am_fa (sn_iload_n (k := 3) (by decide +kernel) rfl rfl) <|
  am_fa (sn_iconst (n := 5) (by decide +kernel) (by decide +kernel) rfl) <|
  am_fa (sn_icmp_ge (off := 51) (by decide +kernel) (by decide) rfl) <|
  am_fa (sn_aload_n (k := 0) (by decide +kernel) rfl rfl) <|
  am_fa (sn_getP (idx := 16) (ob := am_o13) (by decide +kernel) rfl (by decide) rfl hin_13 (List.mem_cons_of_mem _ mw_176) rfl) <|
  am_fa (sn_iload_n (k := 2) (by decide +kernel) rfl rfl) <|
  am_fa (sn_aald (by decide +kernel) rfl rfl rfl) <|
  am_fa (sn_iload_n (k := 1) (by decide +kernel) rfl rfl) <|
  am_fa (sn_iald (by decide +kernel) rfl rfl rfl) <|
  am_fa (sn_aload_n (k := 0) (by decide +kernel) rfl rfl) <|
  am_fa (sn_getP (idx := 16) (ob := am_o13) (by decide +kernel) rfl (by decide) rfl hin_13 (List.mem_cons_of_mem _ mw_176) rfl) <|
  am_fa (sn_iload_n (k := 1) (by decide +kernel) rfl rfl) <|
  am_fa (sn_aald (by decide +kernel) rfl rfl rfl) <|
  am_fa (sn_iload_n (k := 3) (by decide +kernel) rfl rfl) <|
  am_fa (sn_iald (by decide +kernel) rfl rfl rfl) <|
  am_fa (sn_iadd (by decide +kernel) rfl) <|
  am_fa (sn_istore (by decide +kernel) (by decide) rfl) <|
  am_fa (sn_iload (by decide +kernel) rfl) <|
  am_fa (sn_aload_n (k := 0) (by decide +kernel) rfl rfl) <|
  am_fa (sn_getP (idx := 16) (ob := am_o13) (by decide +kernel) rfl (by decide) rfl hin_13 (List.mem_cons_of_mem _ mw_176) rfl) <|
  am_fa (sn_iload_n (k := 2) (by decide +kernel) rfl rfl) <|
  am_fa (sn_aald (by decide +kernel) rfl rfl rfl) <|
  am_fa (sn_iload_n (k := 3) (by decide +kernel) rfl rfl) <|
  am_fa (sn_iald (by decide +kernel) rfl rfl rfl) <|
  am_fa (sn_icmp_ge (off := 13) (by decide +kernel) (by decide) rfl) <|
  am_fa (sn_aload_n (k := 0) (by decide +kernel) rfl rfl) <|
  am_fa (sn_getP (idx := 16) (ob := am_o13) (by decide +kernel) rfl (by decide) rfl hin_13 (List.mem_cons_of_mem _ mw_176) rfl) <|
  am_fa (sn_iload_n (k := 2) (by decide +kernel) rfl rfl) <|
  am_fa (sn_aald (by decide +kernel) rfl rfl rfl) <|
  am_fa (sn_iload_n (k := 3) (by decide +kernel) rfl rfl) <|
  am_fa (sn_iload (by decide +kernel) rfl) <|
  am_fa (sn_iast (by decide +kernel) rfl rfl rfl) <|
  am_fa (sn_iinc (i := 1) (by decide +kernel) (by decide +kernel) (by decide) rfl) <|
  am_fa (sn_goto (off := (-50)) (by decide +kernel) (by decide)) <|
  am_fa (sn_iinc (i := 1) (by decide +kernel) (by decide +kernel) (by decide) rfl) <|
  am_fa (sn_goto (off := (-63)) (by decide +kernel) (by decide)) <|
  am_fa (sn_ret (by decide +kernel) rfl) <|
  am_f0
theorem ct_30 : ∀ x ∈ am_c30, am_snd 30 x.1 x.2 :=
  am_fa (sn_iload_n (k := 1) (by decide +kernel) rfl rfl) <|
  am_fa (sn_iload_n (k := 2) (by decide +kernel) rfl rfl) <|
  am_fa (sn_icmp_eq (off := 17) (by decide +kernel) (by decide) rfl) <|
  am_fa (sn_aload_n (k := 0) (by decide +kernel) rfl rfl) <|
  am_fa (sn_getP (idx := 16) (ob := am_o13) (by decide +kernel) rfl (by decide) rfl hin_13 (List.mem_cons_of_mem _ mw_176) rfl) <|
  am_fa (sn_iload_n (k := 1) (by decide +kernel) rfl rfl) <|
  am_fa (sn_aald (by decide +kernel) rfl rfl rfl) <|
  am_fa (sn_iload_n (k := 2) (by decide +kernel) rfl rfl) <|
  am_fa (sn_iald (by decide +kernel) rfl rfl rfl) <|
  am_fa (sn_sipush (n := 1000) (by decide +kernel) (by decide +kernel) rfl) <|
  am_fa (sn_icmp_ne (off := 5) (by decide +kernel) (by decide) rfl) <|
  am_fa (sn_iconst (n := (-1)) (by decide +kernel) (by decide +kernel) rfl) <|
  am_fa (sn_iret (by decide +kernel) rfl) <|
  am_fa (sn_iconst (n := 0) (by decide +kernel) (by decide +kernel) rfl) <|
  am_fa (sn_istore_n (k := 3) (by decide +kernel) rfl (by decide) rfl) <|
  am_fa (sn_iload_n (k := 3) (by decide +kernel) rfl rfl) <|
  am_fa (sn_iconst (n := 5) (by decide +kernel) (by decide +kernel) rfl) <|
  am_fa (sn_icmp_ge (off := 39) (by decide +kernel) (by decide) rfl) <|
  am_fa (sn_aload_n (k := 0) (by decide +kernel) rfl rfl) <|
  am_fa (sn_getP (idx := 11) (ob := am_o13) (by decide +kernel) rfl (by decide) rfl hin_13 (List.mem_cons_of_mem _ mw_175) rfl) <|
  am_fa (sn_iload_n (k := 1) (by decide +kernel) rfl rfl) <|
  am_fa (sn_aald (by decide +kernel) rfl rfl rfl) <|
  am_fa (sn_iload_n (k := 3) (by decide +kernel) rfl rfl) <|
  am_fa (sn_iald (by decide +kernel) rfl rfl rfl) <|
  am_fa (sn_aload_n (k := 0) (by decide +kernel) rfl rfl) <|
  am_fa (sn_getP (idx := 16) (ob := am_o13) (by decide +kernel) rfl (by decide) rfl hin_13 (List.mem_cons_of_mem _ mw_176) rfl) <|
  am_fa (sn_iload_n (k := 3) (by decide +kernel) rfl rfl) <|
  am_fa (sn_aald (by decide +kernel) rfl rfl rfl) <|
  am_fa (sn_iload_n (k := 2) (by decide +kernel) rfl rfl) <|
  am_fa (sn_iald (by decide +kernel) rfl rfl rfl) <|
  am_fa (sn_iadd (by decide +kernel) rfl) <|
  am_fa (sn_aload_n (k := 0) (by decide +kernel) rfl rfl) <|
  am_fa (sn_getP (idx := 16) (ob := am_o13) (by decide +kernel) rfl (by decide) rfl hin_13 (List.mem_cons_of_mem _ mw_176) rfl) <|
  am_fa (sn_iload_n (k := 1) (by decide +kernel) rfl rfl) <|
  am_fa (sn_aald (by decide +kernel) rfl rfl rfl) <|
  am_fa (sn_iload_n (k := 2) (by decide +kernel) rfl rfl) <|
  am_fa (sn_iald (by decide +kernel) rfl rfl rfl) <|
  am_fa (sn_icmp_ne (off := 5) (by decide +kernel) (by decide) rfl) <|
  am_fa (sn_iload_n (k := 3) (by decide +kernel) rfl rfl) <|
  am_fa (sn_iret (by decide +kernel) rfl) <|
  am_fa (sn_iinc (i := 1) (by decide +kernel) (by decide +kernel) (by decide) rfl) <|
  am_fa (sn_goto (off := (-38)) (by decide +kernel) (by decide)) <|
  am_fa (sn_iconst (n := (-1)) (by decide +kernel) (by decide +kernel) rfl) <|
  am_fa (sn_iret (by decide +kernel) rfl) <|
  am_f0
theorem ct_31 : ∀ x ∈ am_c31, am_snd 31 x.1 x.2 :=
  am_fa (sn_iconst (n := (-1)) (by decide +kernel) (by decide +kernel) rfl) <|
  am_fa (sn_istore (by decide +kernel) (by decide) rfl) <|
  am_fa (sn_iconst (n := (-1)) (by decide +kernel) (by decide +kernel) rfl) <|
  am_fa (sn_istore (by decide +kernel) (by decide) rfl) <|
  am_fa (sn_iconst (n := 0) (by decide +kernel) (by decide +kernel) rfl) <|
  am_fa (sn_istore (by decide +kernel) (by decide) rfl) <|
  am_fa (sn_iconst (n := 0) (by decide +kernel) (by decide +kernel) rfl) <|
  am_fa (sn_istore (by decide +kernel) (by decide) rfl) <|
  am_fa (sn_iload (by decide +kernel) rfl) <|
  am_fa (sn_iconst (n := 5) (by decide +kernel) (by decide +kernel) rfl) <|
  am_fa (sn_icmp_ge (off := 138) (by decide +kernel) (by decide) rfl) <|
  am_fa (sn_iconst (n := 0) (by decide +kernel) (by decide +kernel) rfl) <|
  am_fa (sn_istore (by decide +kernel) (by decide) rfl) <|
  am_fa (sn_iload (by decide +kernel) rfl) <|
  am_fa (sn_iconst (n := 2) (by decide +kernel) (by decide +kernel) rfl) <|
  am_fa (sn_icmp_ge (off := 123) (by decide +kernel) (by decide) rfl) <|
  am_fa (sn_aload_n (k := 3) (by decide +kernel) rfl rfl) <|
  am_fa (sn_iload (by decide +kernel) rfl) <|
  am_fa (sn_aald (by decide +kernel) rfl rfl rfl) <|
  am_fa (sn_ifnonnull (off := 7) (by decide +kernel) (by decide) rfl) <|
  am_fa (sn_null (by decide +kernel) rfl) <|
  am_fa (sn_goto (off := 13) (by decide +kernel) (by decide)) <|
  am_fa (sn_aload_n (k := 3) (by decide +kernel) rfl rfl) <|
  am_fa (sn_iload (by decide +kernel) rfl) <|
  am_fa (sn_aald (by decide +kernel) rfl rfl rfl) <|
  am_fa (sn_getP (idx := 33) (ob := am_o19) (by decide +kernel) rfl (by decide) rfl hin_19 (List.mem_cons_of_mem _ mw_355) rfl) <|
  am_fa (sn_iload (by decide +kernel) rfl) <|
  am_fa (sn_aald (by decide +kernel) rfl rfl rfl) <|
  am_fa (sn_astore (by decide +kernel) (by decide) rfl) <|
  am_fa (sn_aload (by decide +kernel) rfl) <|
  am_fa (sn_ifnull (off := 89) (by decide +kernel) (by decide) rfl) <|
  am_fa (sn_aload_n (k := 0) (by decide +kernel) rfl rfl) <|
  am_fa (sn_getP (idx := 16) (ob := am_o13) (by decide +kernel) rfl (by decide) rfl hin_13 (List.mem_cons_of_mem _ mw_176) rfl) <|
  am_fa (sn_iload_n (k := 1) (by decide +kernel) rfl rfl) <|
  am_fa (sn_aald (by decide +kernel) rfl rfl rfl) <|
  am_fa (sn_iload (by decide +kernel) rfl) <|
  am_fa (sn_iald (by decide +kernel) rfl rfl rfl) <|
  am_fa (sn_sipush (n := 1000) (by decide +kernel) (by decide +kernel) rfl) <|
  am_fa (sn_icmp_eq (off := 74) (by decide +kernel) (by decide) rfl) <|
  am_fa (sn_aload (by decide +kernel) rfl) <|
  am_fa (sn_iload_n (k := 2) (by decide +kernel) rfl rfl) <|
  am_fa (sn_callV (idx := 37) (ob := am_o22) (by decide +kernel) rfl (hG 2 (List.mem_cons_of_mem _ mw_468)) (by decide) (List.mem_cons_of_mem _ mw_43) (List.mem_cons_of_mem _ mw_465) (by decide +kernel) rfl rfl (List.mem_cons_of_mem _ mw_466) (List.mem_cons_of_mem _ mw_467) rfl) <|
  am_fa (sn_if_ne (off := 6) (by decide +kernel) (by decide) rfl) <|
  am_fa (sn_goto (off := 62) (by decide +kernel) (by decide)) <|
  am_fa (sn_aload_n (k := 0) (by decide +kernel) rfl rfl) <|
  am_fa (sn_getP (idx := 16) (ob := am_o13) (by decide +kernel) rfl (by decide) rfl hin_13 (List.mem_cons_of_mem _ mw_176) rfl) <|
  am_fa (sn_iload_n (k := 1) (by decide +kernel) rfl rfl) <|
  am_fa (sn_aald (by decide +kernel) rfl rfl rfl) <|
  am_fa (sn_iload (by decide +kernel) rfl) <|
  am_fa (sn_iald (by decide +kernel) rfl rfl rfl) <|
  am_fa (sn_aload (by decide +kernel) rfl) <|
  am_fa (sn_getI (idx := 43) (ob := am_o22) (by decide +kernel) rfl (by decide) rfl hin_22 (List.mem_cons_of_mem _ mw_234) rfl) <|
  am_fa (sn_iadd (by decide +kernel) rfl) <|
  am_fa (sn_istore (by decide +kernel) (by decide) rfl) <|
  am_fa (sn_aload (by decide +kernel) rfl) <|
  am_fa (sn_getI (idx := 47) (ob := am_o22) (by decide +kernel) rfl (by decide) rfl hin_22 (List.mem_cons_of_mem _ mw_232) rfl) <|
  am_fa (sn_iload (by decide +kernel) rfl) <|
  am_fa (sn_icmp_gt (off := 20) (by decide +kernel) (by decide) rfl) <|
  am_fa (sn_aload (by decide +kernel) rfl) <|
  am_fa (sn_getI (idx := 47) (ob := am_o22) (by decide +kernel) rfl (by decide) rfl hin_22 (List.mem_cons_of_mem _ mw_232) rfl) <|
  am_fa (sn_iload (by decide +kernel) rfl) <|
  am_fa (sn_icmp_ne (off := 25) (by decide +kernel) (by decide) rfl) <|
  am_fa (sn_iload (by decide +kernel) rfl) <|
  am_fa (sn_iload (by decide +kernel) rfl) <|
  am_fa (sn_icmp_ge (off := 18) (by decide +kernel) (by decide) rfl) <|
  am_fa (sn_iload (by decide +kernel) rfl) <|
  am_fa (sn_istore (by decide +kernel) (by decide) rfl) <|
  am_fa (sn_aload (by decide +kernel) rfl) <|
  am_fa (sn_getI (idx := 47) (ob := am_o22) (by decide +kernel) rfl (by decide) rfl hin_22 (List.mem_cons_of_mem _ mw_232) rfl) <|
  am_fa (sn_istore (by decide +kernel) (by decide) rfl) <|
  am_fa (sn_iload (by decide +kernel) rfl) <|
  am_fa (sn_istore (by decide +kernel) (by decide) rfl) <|
  am_fa (sn_iinc (i := 1) (by decide +kernel) (by decide +kernel) (by decide) rfl) <|
  am_fa (sn_goto (off := (-123)) (by decide +kernel) (by decide)) <|
  am_fa (sn_iinc (i := 1) (by decide +kernel) (by decide +kernel) (by decide) rfl) <|
  am_fa (sn_goto (off := (-138)) (by decide +kernel) (by decide)) <|
  am_fa (sn_iload (by decide +kernel) rfl) <|
  am_fa (sn_iret (by decide +kernel) rfl) <|
  am_f0
theorem ct_32 : ∀ x ∈ am_c32, am_snd 32 x.1 x.2 :=
  am_fa (sn_aload_n (k := 0) (by decide +kernel) rfl rfl) <|
  am_fa (sn_oinit (idx := 1) (by decide +kernel) (List.mem_cons_of_mem _ mw_51) (List.mem_cons_of_mem _ mw_52) (List.mem_cons_of_mem _ mw_53) rfl) <|
  am_fa (sn_aload_n (k := 0) (by decide +kernel) rfl rfl) <|
  am_fa (sn_iconst (n := 5) (by decide +kernel) (by decide +kernel) rfl) <|
  am_fa (sn_anewa (idx := 9) (by decide +kernel) rfl rfl (by decide) (by decide) (by decide) (List.mem_cons_of_mem _ mw_54) rfl) <|
  am_fa (sn_putPF (idx := 11) (ob := am_o1) (by decide +kernel) rfl (by decide) rfl hin_1 (List.mem_cons_of_mem _ mw_183) am_o1_ty am_o1_nm rfl rfl rfl rfl rfl) <|
  am_fa (sn_iconst (n := 0) (by decide +kernel) (by decide +kernel) rfl) <|
  am_fa (sn_istore_n (k := 1) (by decide +kernel) rfl (by decide) rfl) <|
  am_fa (sn_iload_n (k := 1) (by decide +kernel) rfl rfl) <|
  am_fa (sn_iconst (n := 5) (by decide +kernel) (by decide +kernel) rfl) <|
  am_fa (sn_icmp_ge (off := 23) (by decide +kernel) (by decide) rfl) <|
  am_fa (sn_aload_n (k := 0) (by decide +kernel) rfl rfl) <|
  am_fa (sn_getP (idx := 11) (ob := am_o1) (by decide +kernel) rfl (by decide) rfl hin_1 (List.mem_cons_of_mem _ mw_183) rfl) <|
  am_fa (sn_iload_n (k := 1) (by decide +kernel) rfl rfl) <|
  am_fa (sn_new (idx := 9) (ob := am_o3) (by decide +kernel) rfl rfl (by decide) am_o3_dv am_o3_ty hin_3 (List.mem_cons_of_mem _ mw_54) (List.mem_cons_of_mem _ mw_56) (List.mem_cons_of_mem _ mw_38) rfl) <|
  am_fa (sn_dup (by decide +kernel) rfl) <|
  am_fa (sn_iload_n (k := 1) (by decide +kernel) rfl rfl) <|
  am_fa (sn_callI (idx := 15) (by decide +kernel) rfl (hG 14 (List.mem_cons_of_mem _ mw_59)) (by decide) (List.mem_cons_of_mem _ mw_38) (List.mem_cons_of_mem _ mw_57) (by decide +kernel) rfl rfl (List.mem_cons_of_mem _ mw_58) rfl) <|
  am_fa (sn_aast (ob := am_o3) (by decide +kernel) rfl rfl rfl rfl) <|
  am_fa (sn_iinc (i := 1) (by decide +kernel) (by decide +kernel) (by decide) rfl) <|
  am_fa (sn_goto (off := (-22)) (by decide +kernel) (by decide)) <|
  am_fa (sn_aload_n (k := 0) (by decide +kernel) rfl rfl) <|
  am_fa (sn_bipush (n := 25) (by decide +kernel) (by decide +kernel) rfl) <|
  am_fa (sn_anewa (idx := 18) (by decide +kernel) rfl rfl (by decide) (by decide) (by decide) (List.mem_cons_of_mem _ mw_146) rfl) <|
  am_fa (sn_putPF (idx := 20) (ob := am_o1) (by decide +kernel) rfl (by decide) rfl hin_1 (List.mem_cons_of_mem _ mw_184) am_o1_ty am_o1_nm rfl rfl rfl rfl rfl) <|
  am_fa (sn_iconst (n := 0) (by decide +kernel) (by decide +kernel) rfl) <|
  am_fa (sn_istore_n (k := 1) (by decide +kernel) rfl (by decide) rfl) <|
  am_fa (sn_iload_n (k := 1) (by decide +kernel) rfl rfl) <|
  am_fa (sn_bipush (n := 25) (by decide +kernel) (by decide +kernel) rfl) <|
  am_fa (sn_icmp_ge (off := 22) (by decide +kernel) (by decide) rfl) <|
  am_fa (sn_aload_n (k := 0) (by decide +kernel) rfl rfl) <|
  am_fa (sn_getP (idx := 20) (ob := am_o1) (by decide +kernel) rfl (by decide) rfl hin_1 (List.mem_cons_of_mem _ mw_184) rfl) <|
  am_fa (sn_iload_n (k := 1) (by decide +kernel) rfl rfl) <|
  am_fa (sn_new (idx := 18) (ob := am_o10) (by decide +kernel) rfl rfl (by decide) am_o10_dv am_o10_ty hin_10 (List.mem_cons_of_mem _ mw_146) (List.mem_cons_of_mem _ mw_148) (List.mem_cons_of_mem _ mw_40) rfl) <|
  am_fa (sn_dup (by decide +kernel) rfl) <|
  am_fa (sn_callI (idx := 24) (by decide +kernel) rfl (hG 23 (List.mem_cons_of_mem _ mw_151)) (by decide) (List.mem_cons_of_mem _ mw_40) (List.mem_cons_of_mem _ mw_149) (by decide +kernel) rfl rfl (List.mem_cons_of_mem _ mw_150) rfl) <|
  am_fa (sn_aast (ob := am_o10) (by decide +kernel) rfl rfl rfl rfl) <|
  am_fa (sn_iinc (i := 1) (by decide +kernel) (by decide +kernel) (by decide) rfl) <|
  am_fa (sn_goto (off := (-22)) (by decide +kernel) (by decide)) <|
  am_fa (sn_aload_n (k := 0) (by decide +kernel) rfl rfl) <|
  am_fa (sn_new (idx := 25) (ob := am_o13) (by decide +kernel) rfl rfl (by decide) am_o13_dv am_o13_ty hin_13 (List.mem_cons_of_mem _ mw_167) (List.mem_cons_of_mem _ mw_168) (List.mem_cons_of_mem _ mw_41) rfl) <|
  am_fa (sn_dup (by decide +kernel) rfl) <|
  am_fa (sn_callI (idx := 27) (by decide +kernel) rfl (hG 26 (List.mem_cons_of_mem _ mw_171)) (by decide) (List.mem_cons_of_mem _ mw_41) (List.mem_cons_of_mem _ mw_169) (by decide +kernel) rfl rfl (List.mem_cons_of_mem _ mw_170) rfl) <|
  am_fa (sn_putPF (idx := 28) (ob := am_o1) (by decide +kernel) rfl (by decide) rfl hin_1 (List.mem_cons_of_mem _ mw_185) am_o1_ty am_o1_nm rfl rfl rfl rfl rfl) <|
  am_fa (sn_aload_n (k := 0) (by decide +kernel) rfl rfl) <|
  am_fa (sn_bipush (n := 7) (by decide +kernel) (by decide +kernel) rfl) <|
  am_fa (sn_newa (at9 := .int) (by decide +kernel) rfl rfl (by decide) (by decide) (by decide) (List.mem_cons_of_mem _ mw_116) rfl) <|
  am_fa (sn_putPF (idx := 32) (ob := am_o1) (by decide +kernel) rfl (by decide) rfl hin_1 (List.mem_cons_of_mem _ mw_186) am_o1_ty am_o1_nm rfl rfl rfl rfl rfl) <|
  am_fa (sn_aload_n (k := 0) (by decide +kernel) rfl rfl) <|
  am_fa (sn_iconst (n := 0) (by decide +kernel) (by decide +kernel) rfl) <|
  am_fa (sn_putI (idx := 36) (ob := am_o1) (by decide +kernel) rfl (by decide) rfl hin_1 (List.mem_cons_of_mem _ mw_187) am_o1_ty am_o1_nm rfl rfl rfl) <|
  am_fa (sn_ret (by decide +kernel) rfl) <|
  am_f0
theorem ct_33 : ∀ x ∈ am_c33, am_snd 33 x.1 x.2 :=
  am_fa (sn_iload_n (k := 1) (by decide +kernel) rfl rfl) <|
  am_fa (sn_callS (idx := 40) (by decide +kernel) rfl (hG 48 (List.mem_cons_of_mem _ mw_205)) (by decide) (List.mem_cons_of_mem _ mw_37) (List.mem_cons_of_mem _ mw_203) (by decide +kernel) (List.mem_cons_of_mem _ mw_204) rfl) <|
  am_fa (sn_if_eq (off := 25) (by decide +kernel) (by decide) rfl) <|
  am_fa (sn_iload_n (k := 2) (by decide +kernel) rfl rfl) <|
  am_fa (sn_callS (idx := 40) (by decide +kernel) rfl (hG 48 (List.mem_cons_of_mem _ mw_205)) (by decide) (List.mem_cons_of_mem _ mw_37) (List.mem_cons_of_mem _ mw_203) (by decide +kernel) (List.mem_cons_of_mem _ mw_204) rfl) <|
  am_fa (sn_if_eq (off := 18) (by decide +kernel) (by decide) rfl) <|
  am_fa (sn_iload_n (k := 1) (by decide +kernel) rfl rfl) <|
  am_fa (sn_iload_n (k := 2) (by decide +kernel) rfl rfl) <|
  am_fa (sn_icmp_eq (off := 13) (by decide +kernel) (by decide) rfl) <|
  am_fa (sn_iload_n (k := 3) (by decide +kernel) rfl rfl) <|
  am_fa (sn_if_lt (off := 9) (by decide +kernel) (by decide) rfl) <|
  am_fa (sn_iload_n (k := 3) (by decide +kernel) rfl rfl) <|
  am_fa (sn_bipush (n := 9) (by decide +kernel) (by decide +kernel) rfl) <|
  am_fa (sn_icmp_le (off := 5) (by decide +kernel) (by decide) rfl) <|
  am_fa (sn_iconst (n := 0) (by decide +kernel) (by decide +kernel) rfl) <|
  am_fa (sn_zret (by decide +kernel) rfl) <|
  am_fa (sn_aload_n (k := 0) (by decide +kernel) rfl rfl) <|
  am_fa (sn_getP (idx := 11) (ob := am_o1) (by decide +kernel) rfl (by decide) rfl hin_1 (List.mem_cons_of_mem _ mw_183) rfl) <|
  am_fa (sn_iload_n (k := 1) (by decide +kernel) rfl rfl) <|
  am_fa (sn_aald (by decide +kernel) rfl rfl rfl) <|
  am_fa (sn_getP (idx := 44) (ob := am_o3) (by decide +kernel) rfl (by decide) rfl hin_3 (List.mem_cons_of_mem _ mw_128) rfl) <|
  am_fa (sn_iload_n (k := 2) (by decide +kernel) rfl rfl) <|
  am_fa (sn_aald (by decide +kernel) rfl rfl rfl) <|
  am_fa (sn_getI (idx := 48) (ob := am_o7) (by decide +kernel) rfl (by decide) rfl hin_7 (List.mem_cons_of_mem _ mw_77) rfl) <|
  am_fa (sn_iload_n (k := 3) (by decide +kernel) rfl rfl) <|
  am_fa (sn_icmp_ne (off := 5) (by decide +kernel) (by decide) rfl) <|
  am_fa (sn_iconst (n := 0) (by decide +kernel) (by decide +kernel) rfl) <|
  am_fa (sn_zret (by decide +kernel) rfl) <|
  am_fa (sn_aload_n (k := 0) (by decide +kernel) rfl rfl) <|
  am_fa (sn_getP (idx := 11) (ob := am_o1) (by decide +kernel) rfl (by decide) rfl hin_1 (List.mem_cons_of_mem _ mw_183) rfl) <|
  am_fa (sn_iload_n (k := 1) (by decide +kernel) rfl rfl) <|
  am_fa (sn_aald (by decide +kernel) rfl rfl rfl) <|
  am_fa (sn_getP (idx := 44) (ob := am_o3) (by decide +kernel) rfl (by decide) rfl hin_3 (List.mem_cons_of_mem _ mw_128) rfl) <|
  am_fa (sn_iload_n (k := 2) (by decide +kernel) rfl rfl) <|
  am_fa (sn_aald (by decide +kernel) rfl rfl rfl) <|
  am_fa (sn_iload_n (k := 3) (by decide +kernel) rfl rfl) <|
  am_fa (sn_callV (idx := 53) (ob := am_o7) (by decide +kernel) rfl (hG 8 (List.mem_cons_of_mem _ mw_209)) (by decide) (List.mem_cons_of_mem _ mw_39) (List.mem_cons_of_mem _ mw_206) (by decide +kernel) rfl rfl (List.mem_cons_of_mem _ mw_207) (List.mem_cons_of_mem _ mw_208) rfl) <|
  am_fa (sn_aload_n (k := 0) (by decide +kernel) rfl rfl) <|
  am_fa (sn_getP (idx := 11) (ob := am_o1) (by decide +kernel) rfl (by decide) rfl hin_1 (List.mem_cons_of_mem _ mw_183) rfl) <|
  am_fa (sn_iload_n (k := 2) (by decide +kernel) rfl rfl) <|
  am_fa (sn_aald (by decide +kernel) rfl rfl rfl) <|
  am_fa (sn_getP (idx := 44) (ob := am_o3) (by decide +kernel) rfl (by decide) rfl hin_3 (List.mem_cons_of_mem _ mw_128) rfl) <|
  am_fa (sn_iload_n (k := 1) (by decide +kernel) rfl rfl) <|
  am_fa (sn_aald (by decide +kernel) rfl rfl rfl) <|
  am_fa (sn_iload_n (k := 3) (by decide +kernel) rfl rfl) <|
  am_fa (sn_callV (idx := 53) (ob := am_o7) (by decide +kernel) rfl (hG 8 (List.mem_cons_of_mem _ mw_209)) (by decide) (List.mem_cons_of_mem _ mw_39) (List.mem_cons_of_mem _ mw_206) (by decide +kernel) rfl rfl (List.mem_cons_of_mem _ mw_207) (List.mem_cons_of_mem _ mw_208) rfl) <|
  am_fa (sn_iconst (n := 1) (by decide +kernel) (by decide +kernel) rfl) <|
  am_fa (sn_zret (by decide +kernel) rfl) <|
  am_f0
theorem ct_34 : ∀ x ∈ am_c34, am_snd 34 x.1 x.2 :=
  am_fa (sn_iload_n (k := 1) (by decide +kernel) rfl rfl) <|
  am_fa (sn_callS (idx := 40) (by decide +kernel) rfl (hG 48 (List.mem_cons_of_mem _ mw_205)) (by decide) (List.mem_cons_of_mem _ mw_37) (List.mem_cons_of_mem _ mw_203) (by decide +kernel) (List.mem_cons_of_mem _ mw_204) rfl) <|
  am_fa (sn_if_eq (off := 21) (by decide +kernel) (by decide) rfl) <|
  am_fa (sn_iload_n (k := 2) (by decide +kernel) rfl rfl) <|
  am_fa (sn_if_lt (off := 17) (by decide +kernel) (by decide) rfl) <|
  am_fa (sn_iload_n (k := 2) (by decide +kernel) rfl rfl) <|
  am_fa (sn_iconst (n := 2) (by decide +kernel) (by decide +kernel) rfl) <|
  am_fa (sn_icmp_ge (off := 12) (by decide +kernel) (by decide) rfl) <|
  am_fa (sn_iload_n (k := 3) (by decide +kernel) rfl rfl) <|
  am_fa (sn_iload (by decide +kernel) rfl) <|
  am_fa (sn_callS (idx := 56) (by decide +kernel) rfl (hG 50 (List.mem_cons_of_mem _ mw_220)) (by decide) (List.mem_cons_of_mem _ mw_37) (List.mem_cons_of_mem _ mw_218) (by decide +kernel) (List.mem_cons_of_mem _ mw_219) rfl) <|
  am_fa (sn_if_ne (off := 5) (by decide +kernel) (by decide) rfl) <|
  am_fa (sn_iconst (n := 0) (by decide +kernel) (by decide +kernel) rfl) <|
  am_fa (sn_zret (by decide +kernel) rfl) <|
  am_fa (sn_iload (by decide +kernel) rfl) <|
  am_fa (sn_if_lt (off := 10) (by decide +kernel) (by decide) rfl) <|
  am_fa (sn_iload (by decide +kernel) rfl) <|
  am_fa (sn_bipush (n := 9) (by decide +kernel) (by decide +kernel) rfl) <|
  am_fa (sn_icmp_le (off := 5) (by decide +kernel) (by decide) rfl) <|
  am_fa (sn_iconst (n := 0) (by decide +kernel) (by decide +kernel) rfl) <|
  am_fa (sn_zret (by decide +kernel) rfl) <|
  am_fa (sn_aload_n (k := 0) (by decide +kernel) rfl rfl) <|
  am_fa (sn_getP (idx := 11) (ob := am_o1) (by decide +kernel) rfl (by decide) rfl hin_1 (List.mem_cons_of_mem _ mw_183) rfl) <|
  am_fa (sn_iload_n (k := 1) (by decide +kernel) rfl rfl) <|
  am_fa (sn_aald (by decide +kernel) rfl rfl rfl) <|
  am_fa (sn_getP (idx := 60) (ob := am_o3) (by decide +kernel) rfl (by decide) rfl hin_3 (List.mem_cons_of_mem _ mw_124) rfl) <|
  am_fa (sn_iload_n (k := 2) (by decide +kernel) rfl rfl) <|
  am_fa (sn_iload (by decide +kernel) rfl) <|
  am_fa (sn_if_ne (off := 7) (by decide +kernel) (by decide) rfl) <|
  am_fa (sn_null (by decide +kernel) rfl) <|
  am_fa (sn_goto (off := 15) (by decide +kernel) (by decide)) <|
  am_fa (sn_new (idx := 64) (ob := am_o22) (by decide +kernel) rfl rfl (by decide) am_o22_dv am_o22_ty hin_22 (List.mem_cons_of_mem _ mw_224) (List.mem_cons_of_mem _ mw_225) (List.mem_cons_of_mem _ mw_43) rfl) <|
  am_fa (sn_dup (by decide +kernel) rfl) <|
  am_fa (sn_iload_n (k := 3) (by decide +kernel) rfl rfl) <|
  am_fa (sn_iload (by decide +kernel) rfl) <|
  am_fa (sn_iload (by decide +kernel) rfl) <|
  am_fa (sn_callI (idx := 66) (by decide +kernel) rfl (hG 1 (List.mem_cons_of_mem _ mw_228)) (by decide) (List.mem_cons_of_mem _ mw_43) (List.mem_cons_of_mem _ mw_226) (by decide +kernel) rfl rfl (List.mem_cons_of_mem _ mw_227) rfl) <|
  am_fa (sn_aast (ob := am_o22) (by decide +kernel) rfl rfl rfl rfl) <|
  am_fa (sn_iconst (n := 1) (by decide +kernel) (by decide +kernel) rfl) <|
  am_fa (sn_zret (by decide +kernel) rfl) <|
  am_f0
theorem ct_35 : ∀ x ∈ am_c35, am_snd 35 x.1 x.2 :=
  am_fa (sn_iload_n (k := 1) (by decide +kernel) rfl rfl) <|
  am_fa (sn_callS (idx := 40) (by decide +kernel) rfl (hG 48 (List.mem_cons_of_mem _ mw_205)) (by decide) (List.mem_cons_of_mem _ mw_37) (List.mem_cons_of_mem _ mw_203) (by decide +kernel) (List.mem_cons_of_mem _ mw_204) rfl) <|
  am_fa (sn_if_eq (off := 16) (by decide +kernel) (by decide) rfl) <|
  am_fa (sn_aload_n (k := 0) (by decide +kernel) rfl rfl) <|
  am_fa (sn_getP (idx := 11) (ob := am_o1) (by decide +kernel) rfl (by decide) rfl hin_1 (List.mem_cons_of_mem _ mw_183) rfl) <|
  am_fa (sn_iload_n (k := 1) (by decide +kernel) rfl rfl) <|
  am_fa (sn_aald (by decide +kernel) rfl rfl rfl) <|
  am_fa (sn_getI (idx := 69) (ob := am_o3) (by decide +kernel) rfl (by decide) rfl hin_3 (List.mem_cons_of_mem _ mw_119) rfl) <|
  am_fa (sn_iload_n (k := 2) (by decide +kernel) rfl rfl) <|
  am_fa (sn_icmp_ne (off := 5) (by decide +kernel) (by decide) rfl) <|
  am_fa (sn_iconst (n := 0) (by decide +kernel) (by decide +kernel) rfl) <|
  am_fa (sn_zret (by decide +kernel) rfl) <|
  am_fa (sn_aload_n (k := 0) (by decide +kernel) rfl rfl) <|
  am_fa (sn_getP (idx := 11) (ob := am_o1) (by decide +kernel) rfl (by decide) rfl hin_1 (List.mem_cons_of_mem _ mw_183) rfl) <|
  am_fa (sn_iload_n (k := 1) (by decide +kernel) rfl rfl) <|
  am_fa (sn_aald (by decide +kernel) rfl rfl rfl) <|
  am_fa (sn_iload_n (k := 2) (by decide +kernel) rfl rfl) <|
  am_fa (sn_putZ (idx := 69) (ob := am_o3) (by decide +kernel) rfl (by decide) rfl hin_3 (List.mem_cons_of_mem _ mw_119) am_o3_ty am_o3_nm rfl rfl rfl) <|
  am_fa (sn_iload_n (k := 2) (by decide +kernel) rfl rfl) <|
  am_fa (sn_if_ne (off := 12) (by decide +kernel) (by decide) rfl) <|
  am_fa (sn_aload_n (k := 0) (by decide +kernel) rfl rfl) <|
  am_fa (sn_getP (idx := 11) (ob := am_o1) (by decide +kernel) rfl (by decide) rfl hin_1 (List.mem_cons_of_mem _ mw_183) rfl) <|
  am_fa (sn_iload_n (k := 1) (by decide +kernel) rfl rfl) <|
  am_fa (sn_aald (by decide +kernel) rfl rfl rfl) <|
  am_fa (sn_callV (idx := 73) (ob := am_o3) (by decide +kernel) rfl (hG 15 (List.mem_cons_of_mem _ mw_249)) (by decide) (List.mem_cons_of_mem _ mw_38) (List.mem_cons_of_mem _ mw_246) (by decide +kernel) rfl rfl (List.mem_cons_of_mem _ mw_247) (List.mem_cons_of_mem _ mw_248) rfl) <|
  am_fa (sn_iconst (n := 1) (by decide +kernel) (by decide +kernel) rfl) <|
  am_fa (sn_zret (by decide +kernel) rfl) <|
  am_f0
theorem ct_36 : ∀ x ∈ am_c36, am_snd 36 x.1 x.2 :=
  am_fa (sn_aload_n (k := 0) (by decide +kernel) rfl rfl) <|
  am_fa (sn_iload_n (k := 1) (by decide +kernel) rfl rfl) <|
  am_fa (sn_iload_n (k := 2) (by decide +kernel) rfl rfl) <|
  am_fa (sn_callV (idx := 76) (ob := am_o1) (by decide +kernel) rfl (hG 52 (List.mem_cons_of_mem _ mw_258)) (by decide) (List.mem_cons_of_mem _ mw_37) (List.mem_cons_of_mem _ mw_255) (by decide +kernel) rfl rfl (List.mem_cons_of_mem _ mw_257) (List.mem_cons_of_mem _ mw_1) rfl) <|
  am_fa (sn_if_eq (off := 13) (by decide +kernel) (by decide) rfl) <|
  am_fa (sn_iload_n (k := 3) (by decide +kernel) rfl rfl) <|
  am_fa (sn_if_lt (off := 9) (by decide +kernel) (by decide) rfl) <|
  am_fa (sn_iload_n (k := 3) (by decide +kernel) rfl rfl) <|
  am_fa (sn_bipush (n := 9) (by decide +kernel) (by decide +kernel) rfl) <|
  am_fa (sn_icmp_le (off := 5) (by decide +kernel) (by decide) rfl) <|
  am_fa (sn_iconst (n := 0) (by decide +kernel) (by decide +kernel) rfl) <|
  am_fa (sn_zret (by decide +kernel) rfl) <|
  am_fa (sn_aload_n (k := 0) (by decide +kernel) rfl rfl) <|
  am_fa (sn_getP (idx := 11) (ob := am_o1) (by decide +kernel) rfl (by decide) rfl hin_1 (List.mem_cons_of_mem _ mw_183) rfl) <|
  am_fa (sn_iload_n (k := 1) (by decide +kernel) rfl rfl) <|
  am_fa (sn_aald (by decide +kernel) rfl rfl rfl) <|
  am_fa (sn_getP (idx := 44) (ob := am_o3) (by decide +kernel) rfl (by decide) rfl hin_3 (List.mem_cons_of_mem _ mw_128) rfl) <|
  am_fa (sn_iload_n (k := 2) (by decide +kernel) rfl rfl) <|
  am_fa (sn_aald (by decide +kernel) rfl rfl rfl) <|
  am_fa (sn_iload_n (k := 3) (by decide +kernel) rfl rfl) <|
  am_fa (sn_putI (idx := 79) (ob := am_o7) (by decide +kernel) rfl (by decide) rfl hin_7 (List.mem_cons_of_mem _ mw_79) am_o7_ty am_o7_nm rfl rfl rfl) <|
  am_fa (sn_iconst (n := 1) (by decide +kernel) (by decide +kernel) rfl) <|
  am_fa (sn_zret (by decide +kernel) rfl) <|
  am_f0
theorem ct_37 : ∀ x ∈ am_c37, am_snd 37 x.1 x.2 :=
  am_fa (sn_iload_n (k := 1) (by decide +kernel) rfl rfl) <|
  am_fa (sn_iconst (n := 1) (by decide +kernel) (by decide +kernel) rfl) <|
  am_fa (sn_icmp_lt (off := 8) (by decide +kernel) (by decide) rfl) <|
  am_fa (sn_iload_n (k := 1) (by decide +kernel) rfl rfl) <|
  am_fa (sn_iconst (n := 4) (by decide +kernel) (by decide +kernel) rfl) <|
  am_fa (sn_icmp_le (off := 5) (by decide +kernel) (by decide) rfl) <|
  am_fa (sn_iconst (n := 0) (by decide +kernel) (by decide +kernel) rfl) <|
  am_fa (sn_zret (by decide +kernel) rfl) <|
  am_fa (sn_iconst (n := 0) (by decide +kernel) (by decide +kernel) rfl) <|
  am_fa (sn_istore_n (k := 2) (by decide +kernel) rfl (by decide) rfl) <|
  am_fa (sn_iload_n (k := 2) (by decide +kernel) rfl rfl) <|
  am_fa (sn_iload_n (k := 1) (by decide +kernel) rfl rfl) <|
  am_fa (sn_icmp_ge (off := 13) (by decide +kernel) (by decide) rfl) <|
  am_fa (sn_aload_n (k := 0) (by decide +kernel) rfl rfl) <|
  am_fa (sn_callV (idx := 82) (ob := am_o1) (by decide +kernel) rfl (hG 53 (List.mem_cons_of_mem _ mw_266)) (by decide) (List.mem_cons_of_mem _ mw_37) (List.mem_cons_of_mem _ mw_263) (by decide +kernel) rfl rfl (List.mem_cons_of_mem _ mw_265) (List.mem_cons_of_mem _ mw_2) rfl) <|
  am_fa (sn_iinc (i := 1) (by decide +kernel) (by decide +kernel) (by decide) rfl) <|
  am_fa (sn_goto (off := (-12)) (by decide +kernel) (by decide)) <|
  am_fa (sn_iconst (n := 1) (by decide +kernel) (by decide +kernel) rfl) <|
  am_fa (sn_zret (by decide +kernel) rfl) <|
  am_f0
theorem ct_38 : ∀ x ∈ am_c38, am_snd 38 x.1 x.2 :=
  am_fa (sn_aload_n (k := 0) (by decide +kernel) rfl rfl) <|
  am_fa (sn_iload_n (k := 1) (by decide +kernel) rfl rfl) <|
  am_fa (sn_iload_n (k := 2) (by decide +kernel) rfl rfl) <|
  am_fa (sn_callV (idx := 76) (ob := am_o1) (by decide +kernel) rfl (hG 52 (List.mem_cons_of_mem _ mw_258)) (by decide) (List.mem_cons_of_mem _ mw_37) (List.mem_cons_of_mem _ mw_255) (by decide +kernel) rfl rfl (List.mem_cons_of_mem _ mw_257) (List.mem_cons_of_mem _ mw_1) rfl) <|
  am_fa (sn_if_ne (off := 5) (by decide +kernel) (by decide) rfl) <|
  am_fa (sn_iconst (n := (-1)) (by decide +kernel) (by decide +kernel) rfl) <|
  am_fa (sn_iret (by decide +kernel) rfl) <|
  am_fa (sn_aload_n (k := 0) (by decide +kernel) rfl rfl) <|
  am_fa (sn_getP (idx := 11) (ob := am_o1) (by decide +kernel) rfl (by decide) rfl hin_1 (List.mem_cons_of_mem _ mw_183) rfl) <|
  am_fa (sn_iload_n (k := 1) (by decide +kernel) rfl rfl) <|
  am_fa (sn_aald (by decide +kernel) rfl rfl rfl) <|
  am_fa (sn_getP (idx := 44) (ob := am_o3) (by decide +kernel) rfl (by decide) rfl hin_3 (List.mem_cons_of_mem _ mw_128) rfl) <|
  am_fa (sn_iload_n (k := 2) (by decide +kernel) rfl rfl) <|
  am_fa (sn_aald (by decide +kernel) rfl rfl rfl) <|
  am_fa (sn_astore_n (k := 3) (by decide +kernel) rfl (by decide) rfl) <|
  am_fa (sn_aload_n (k := 3) (by decide +kernel) rfl rfl) <|
  am_fa (sn_getI (idx := 85) (ob := am_o7) (by decide +kernel) rfl (by decide) rfl hin_7 (List.mem_cons_of_mem _ mw_90) rfl) <|
  am_fa (sn_if_eq (off := 5) (by decide +kernel) (by decide) rfl) <|
  am_fa (sn_iconst (n := 2) (by decide +kernel) (by decide +kernel) rfl) <|
  am_fa (sn_iret (by decide +kernel) rfl) <|
  am_fa (sn_aload_n (k := 3) (by decide +kernel) rfl rfl) <|
  am_fa (sn_getI (idx := 88) (ob := am_o7) (by decide +kernel) rfl (by decide) rfl hin_7 (List.mem_cons_of_mem _ mw_82) rfl) <|
  am_fa (sn_if_eq (off := 7) (by decide +kernel) (by decide) rfl) <|
  am_fa (sn_iconst (n := 1) (by decide +kernel) (by decide +kernel) rfl) <|
  am_fa (sn_goto (off := 4) (by decide +kernel) (by decide)) <|
  am_fa (sn_iconst (n := 0) (by decide +kernel) (by decide +kernel) rfl) <|
  am_fa (sn_iret (by decide +kernel) rfl) <|
  am_f0
theorem ct_39 : ∀ x ∈ am_c39, am_snd 39 x.1 x.2 :=
  am_fa (sn_iload_n (k := 1) (by decide +kernel) rfl rfl) <|
  am_fa (sn_callS (idx := 40) (by decide +kernel) rfl (hG 48 (List.mem_cons_of_mem _ mw_205)) (by decide) (List.mem_cons_of_mem _ mw_37) (List.mem_cons_of_mem _ mw_203) (by decide +kernel) (List.mem_cons_of_mem _ mw_204) rfl) <|
  am_fa (sn_if_eq (off := 10) (by decide +kernel) (by decide) rfl) <|
  am_fa (sn_iload_n (k := 2) (by decide +kernel) rfl rfl) <|
  am_fa (sn_callS (idx := 40) (by decide +kernel) rfl (hG 48 (List.mem_cons_of_mem _ mw_205)) (by decide) (List.mem_cons_of_mem _ mw_37) (List.mem_cons_of_mem _ mw_203) (by decide +kernel) (List.mem_cons_of_mem _ mw_204) rfl) <|
  am_fa (sn_if_ne (off := 5) (by decide +kernel) (by decide) rfl) <|
  am_fa (sn_iconst (n := (-1)) (by decide +kernel) (by decide +kernel) rfl) <|
  am_fa (sn_iret (by decide +kernel) rfl) <|
  am_fa (sn_aload_n (k := 0) (by decide +kernel) rfl rfl) <|
  am_fa (sn_getP (idx := 11) (ob := am_o1) (by decide +kernel) rfl (by decide) rfl hin_1 (List.mem_cons_of_mem _ mw_183) rfl) <|
  am_fa (sn_iload_n (k := 1) (by decide +kernel) rfl rfl) <|
  am_fa (sn_aald (by decide +kernel) rfl rfl rfl) <|
  am_fa (sn_getP (idx := 91) (ob := am_o3) (by decide +kernel) rfl (by decide) rfl hin_3 (List.mem_cons_of_mem _ mw_126) rfl) <|
  am_fa (sn_iload_n (k := 2) (by decide +kernel) rfl rfl) <|
  am_fa (sn_aald (by decide +kernel) rfl rfl rfl) <|
  am_fa (sn_astore_n (k := 3) (by decide +kernel) rfl (by decide) rfl) <|
  am_fa (sn_aload_n (k := 3) (by decide +kernel) rfl rfl) <|
  am_fa (sn_ifnonnull (off := 7) (by decide +kernel) (by decide) rfl) <|
  am_fa (sn_iconst (n := 0) (by decide +kernel) (by decide +kernel) rfl) <|
  am_fa (sn_goto (off := 7) (by decide +kernel) (by decide)) <|
  am_fa (sn_aload_n (k := 3) (by decide +kernel) rfl rfl) <|
  am_fa (sn_getI (idx := 95) (ob := am_o19) (by decide +kernel) rfl (by decide) rfl hin_19 (List.mem_cons_of_mem _ mw_345) rfl) <|
  am_fa (sn_iret (by decide +kernel) rfl) <|
  am_f0
theorem ct_40 : ∀ x ∈ am_c40, am_snd 40 x.1 x.2 :=
  am_fa (sn_iload_n (k := 1) (by decide +kernel) rfl rfl) <|
  am_fa (sn_callS (idx := 40) (by decide +kernel) rfl (hG 48 (List.mem_cons_of_mem _ mw_205)) (by decide) (List.mem_cons_of_mem _ mw_37) (List.mem_cons_of_mem _ mw_203) (by decide +kernel) (List.mem_cons_of_mem _ mw_204) rfl) <|
  am_fa (sn_if_eq (off := 10) (by decide +kernel) (by decide) rfl) <|
  am_fa (sn_iload_n (k := 2) (by decide +kernel) rfl rfl) <|
  am_fa (sn_callS (idx := 40) (by decide +kernel) rfl (hG 48 (List.mem_cons_of_mem _ mw_205)) (by decide) (List.mem_cons_of_mem _ mw_37) (List.mem_cons_of_mem _ mw_203) (by decide +kernel) (List.mem_cons_of_mem _ mw_204) rfl) <|
  am_fa (sn_if_ne (off := 5) (by decide +kernel) (by decide) rfl) <|
  am_fa (sn_iconst (n := (-1)) (by decide +kernel) (by decide +kernel) rfl) <|
  am_fa (sn_iret (by decide +kernel) rfl) <|
  am_fa (sn_aload_n (k := 0) (by decide +kernel) rfl rfl) <|
  am_fa (sn_getP (idx := 11) (ob := am_o1) (by decide +kernel) rfl (by decide) rfl hin_1 (List.mem_cons_of_mem _ mw_183) rfl) <|
  am_fa (sn_iload_n (k := 1) (by decide +kernel) rfl rfl) <|
  am_fa (sn_aald (by decide +kernel) rfl rfl rfl) <|
  am_fa (sn_getP (idx := 91) (ob := am_o3) (by decide +kernel) rfl (by decide) rfl hin_3 (List.mem_cons_of_mem _ mw_126) rfl) <|
  am_fa (sn_iload_n (k := 2) (by decide +kernel) rfl rfl) <|
  am_fa (sn_aald (by decide +kernel) rfl rfl rfl) <|
  am_fa (sn_astore_n (k := 3) (by decide +kernel) rfl (by decide) rfl) <|
  am_fa (sn_aload_n (k := 3) (by decide +kernel) rfl rfl) <|
  am_fa (sn_ifnonnull (off := 7) (by decide +kernel) (by decide) rfl) <|
  am_fa (sn_iconst (n := (-1)) (by decide +kernel) (by decide +kernel) rfl) <|
  am_fa (sn_goto (off := 12) (by decide +kernel) (by decide)) <|
  am_fa (sn_aload_n (k := 0) (by decide +kernel) rfl rfl) <|
  am_fa (sn_getI (idx := 36) (ob := am_o1) (by decide +kernel) rfl (by decide) rfl hin_1 (List.mem_cons_of_mem _ mw_187) rfl) <|
  am_fa (sn_aload_n (k := 3) (by decide +kernel) rfl rfl) <|
  am_fa (sn_getI (idx := 100) (ob := am_o19) (by decide +kernel) rfl (by decide) rfl hin_19 (List.mem_cons_of_mem _ mw_348) rfl) <|
  am_fa (sn_isub (by decide +kernel) rfl) <|
  am_fa (sn_iret (by decide +kernel) rfl) <|
  am_f0
theorem ct_41 : ∀ x ∈ am_c41, am_snd 41 x.1 x.2 :=
  am_fa (sn_iload_n (k := 1) (by decide +kernel) rfl rfl) <|
  am_fa (sn_callS (idx := 40) (by decide +kernel) rfl (hG 48 (List.mem_cons_of_mem _ mw_205)) (by decide) (List.mem_cons_of_mem _ mw_37) (List.mem_cons_of_mem _ mw_203) (by decide +kernel) (List.mem_cons_of_mem _ mw_204) rfl) <|
  am_fa (sn_if_eq (off := 17) (by decide +kernel) (by decide) rfl) <|
  am_fa (sn_iload_n (k := 2) (by decide +kernel) rfl rfl) <|
  am_fa (sn_callS (idx := 40) (by decide +kernel) rfl (hG 48 (List.mem_cons_of_mem _ mw_205)) (by decide) (List.mem_cons_of_mem _ mw_37) (List.mem_cons_of_mem _ mw_203) (by decide +kernel) (List.mem_cons_of_mem _ mw_204) rfl) <|
  am_fa (sn_if_eq (off := 10) (by decide +kernel) (by decide) rfl) <|
  am_fa (sn_iload_n (k := 3) (by decide +kernel) rfl rfl) <|
  am_fa (sn_callS (idx := 40) (by decide +kernel) rfl (hG 48 (List.mem_cons_of_mem _ mw_205)) (by decide) (List.mem_cons_of_mem _ mw_37) (List.mem_cons_of_mem _ mw_203) (by decide +kernel) (List.mem_cons_of_mem _ mw_204) rfl) <|
  am_fa (sn_if_ne (off := 5) (by decide +kernel) (by decide) rfl) <|
  am_fa (sn_iconst (n := (-1)) (by decide +kernel) (by decide +kernel) rfl) <|
  am_fa (sn_iret (by decide +kernel) rfl) <|
  am_fa (sn_aload_n (k := 0) (by decide +kernel) rfl rfl) <|
  am_fa (sn_getP (idx := 11) (ob := am_o1) (by decide +kernel) rfl (by decide) rfl hin_1 (List.mem_cons_of_mem _ mw_183) rfl) <|
  am_fa (sn_iload_n (k := 1) (by decide +kernel) rfl rfl) <|
  am_fa (sn_aald (by decide +kernel) rfl rfl rfl) <|
  am_fa (sn_getP (idx := 91) (ob := am_o3) (by decide +kernel) rfl (by decide) rfl hin_3 (List.mem_cons_of_mem _ mw_126) rfl) <|
  am_fa (sn_iload_n (k := 2) (by decide +kernel) rfl rfl) <|
  am_fa (sn_aald (by decide +kernel) rfl rfl rfl) <|
  am_fa (sn_astore (by decide +kernel) (by decide) rfl) <|
  am_fa (sn_aload (by decide +kernel) rfl) <|
  am_fa (sn_ifnonnull (off := 7) (by decide +kernel) (by decide) rfl) <|
  am_fa (sn_iconst (n := (-1)) (by decide +kernel) (by decide +kernel) rfl) <|
  am_fa (sn_goto (off := 10) (by decide +kernel) (by decide)) <|
  am_fa (sn_aload (by decide +kernel) rfl) <|
  am_fa (sn_getP (idx := 103) (ob := am_o19) (by decide +kernel) rfl (by decide) rfl hin_19 (List.mem_cons_of_mem _ mw_352) rfl) <|
  am_fa (sn_iload_n (k := 3) (by decide +kernel) rfl rfl) <|
  am_fa (sn_iald (by decide +kernel) rfl rfl rfl) <|
  am_fa (sn_iret (by decide +kernel) rfl) <|
  am_f0
theorem ct_42 : ∀ x ∈ am_c42, am_snd 42 x.1 x.2 :=
  am_fa (sn_aload_n (k := 0) (by decide +kernel) rfl rfl) <|
  am_fa (sn_iload_n (k := 1) (by decide +kernel) rfl rfl) <|
  am_fa (sn_iload_n (k := 2) (by decide +kernel) rfl rfl) <|
  am_fa (sn_callV (idx := 76) (ob := am_o1) (by decide +kernel) rfl (hG 52 (List.mem_cons_of_mem _ mw_258)) (by decide) (List.mem_cons_of_mem _ mw_37) (List.mem_cons_of_mem _ mw_255) (by decide +kernel) rfl rfl (List.mem_cons_of_mem _ mw_257) (List.mem_cons_of_mem _ mw_1) rfl) <|
  am_fa (sn_if_ne (off := 5) (by decide +kernel) (by decide) rfl) <|
  am_fa (sn_iconst (n := (-1)) (by decide +kernel) (by decide +kernel) rfl) <|
  am_fa (sn_iret (by decide +kernel) rfl) <|
  am_fa (sn_aload_n (k := 0) (by decide +kernel) rfl rfl) <|
  am_fa (sn_getP (idx := 11) (ob := am_o1) (by decide +kernel) rfl (by decide) rfl hin_1 (List.mem_cons_of_mem _ mw_183) rfl) <|
  am_fa (sn_iload_n (k := 1) (by decide +kernel) rfl rfl) <|
  am_fa (sn_aald (by decide +kernel) rfl rfl rfl) <|
  am_fa (sn_getP (idx := 44) (ob := am_o3) (by decide +kernel) rfl (by decide) rfl hin_3 (List.mem_cons_of_mem _ mw_128) rfl) <|
  am_fa (sn_iload_n (k := 2) (by decide +kernel) rfl rfl) <|
  am_fa (sn_aald (by decide +kernel) rfl rfl rfl) <|
  am_fa (sn_astore_n (k := 3) (by decide +kernel) rfl (by decide) rfl) <|
  am_fa (sn_iconst (n := 0) (by decide +kernel) (by decide +kernel) rfl) <|
  am_fa (sn_istore (by decide +kernel) (by decide) rfl) <|
  am_fa (sn_iconst (n := 0) (by decide +kernel) (by decide +kernel) rfl) <|
  am_fa (sn_istore (by decide +kernel) (by decide) rfl) <|
  am_fa (sn_iload (by decide +kernel) rfl) <|
  am_fa (sn_iconst (n := 5) (by decide +kernel) (by decide +kernel) rfl) <|
  am_fa (sn_icmp_ge (off := 24) (by decide +kernel) (by decide) rfl) <|
  am_fa (sn_aload_n (k := 3) (by decide +kernel) rfl rfl) <|
  am_fa (sn_getP (idx := 106) (ob := am_o7) (by decide +kernel) rfl (by decide) rfl hin_7 (List.mem_cons_of_mem _ mw_96) rfl) <|
  am_fa (sn_iload (by decide +kernel) rfl) <|
  am_fa (sn_iald (by decide +kernel) rfl rfl rfl) <|
  am_fa (sn_bipush (n := (-2)) (by decide +kernel) (by decide +kernel) rfl) <|
  am_fa (sn_icmp_eq (off := 6) (by decide +kernel) (by decide) rfl) <|
  am_fa (sn_iinc (i := 1) (by decide +kernel) (by decide +kernel) (by decide) rfl) <|
  am_fa (sn_iinc (i := 1) (by decide +kernel) (by decide +kernel) (by decide) rfl) <|
  am_fa (sn_goto (off := (-24)) (by decide +kernel) (by decide)) <|
  am_fa (sn_iload (by decide +kernel) rfl) <|
  am_fa (sn_iret (by decide +kernel) rfl) <|
  am_f0
theorem ct_43 : ∀ x ∈ am_c43, am_snd 43 x.1 x.2 :=
  am_fa (sn_aload_n (k := 0) (by decide +kernel) rfl rfl) <|
  am_fa (sn_iload_n (k := 1) (by decide +kernel) rfl rfl) <|
  am_fa (sn_callV (idx := 109) (ob := am_o1) (by decide +kernel) rfl (hG 51 (List.mem_cons_of_mem _ mw_437)) (by decide) (List.mem_cons_of_mem _ mw_37) (List.mem_cons_of_mem _ mw_434) (by decide +kernel) rfl rfl (List.mem_cons_of_mem _ mw_436) (List.mem_cons_of_mem _ mw_16) rfl) <|
  am_fa (sn_if_eq (off := 10) (by decide +kernel) (by decide) rfl) <|
  am_fa (sn_iload_n (k := 2) (by decide +kernel) rfl rfl) <|
  am_fa (sn_callS (idx := 40) (by decide +kernel) rfl (hG 48 (List.mem_cons_of_mem _ mw_205)) (by decide) (List.mem_cons_of_mem _ mw_37) (List.mem_cons_of_mem _ mw_203) (by decide +kernel) (List.mem_cons_of_mem _ mw_204) rfl) <|
  am_fa (sn_if_ne (off := 5) (by decide +kernel) (by decide) rfl) <|
  am_fa (sn_iconst (n := (-1)) (by decide +kernel) (by decide +kernel) rfl) <|
  am_fa (sn_iret (by decide +kernel) rfl) <|
  am_fa (sn_aload_n (k := 0) (by decide +kernel) rfl rfl) <|
  am_fa (sn_getP (idx := 28) (ob := am_o1) (by decide +kernel) rfl (by decide) rfl hin_1 (List.mem_cons_of_mem _ mw_185) rfl) <|
  am_fa (sn_aload_n (k := 0) (by decide +kernel) rfl rfl) <|
  am_fa (sn_getP (idx := 11) (ob := am_o1) (by decide +kernel) rfl (by decide) rfl hin_1 (List.mem_cons_of_mem _ mw_183) rfl) <|
  am_fa (sn_iload_n (k := 1) (by decide +kernel) rfl rfl) <|
  am_fa (sn_aald (by decide +kernel) rfl rfl rfl) <|
  am_fa (sn_getP (idx := 91) (ob := am_o3) (by decide +kernel) rfl (by decide) rfl hin_3 (List.mem_cons_of_mem _ mw_126) rfl) <|
  am_fa (sn_callV (idx := 112) (ob := am_o13) (by decide +kernel) rfl (hG 27 (List.mem_cons_of_mem _ mw_441)) (by decide) (List.mem_cons_of_mem _ mw_41) (List.mem_cons_of_mem _ mw_438) (by decide +kernel) rfl rfl (List.mem_cons_of_mem _ mw_439) (List.mem_cons_of_mem _ mw_440) rfl) <|
  am_fa (sn_aload_n (k := 0) (by decide +kernel) rfl rfl) <|
  am_fa (sn_getP (idx := 28) (ob := am_o1) (by decide +kernel) rfl (by decide) rfl hin_1 (List.mem_cons_of_mem _ mw_185) rfl) <|
  am_fa (sn_getP (idx := 116) (ob := am_o13) (by decide +kernel) rfl (by decide) rfl hin_13 (List.mem_cons_of_mem _ mw_177) rfl) <|
  am_fa (sn_iload_n (k := 1) (by decide +kernel) rfl rfl) <|
  am_fa (sn_aald (by decide +kernel) rfl rfl rfl) <|
  am_fa (sn_iload_n (k := 2) (by decide +kernel) rfl rfl) <|
  am_fa (sn_iald (by decide +kernel) rfl rfl rfl) <|
  am_fa (sn_sipush (n := 1000) (by decide +kernel) (by decide +kernel) rfl) <|
  am_fa (sn_icmp_ne (off := 7) (by decide +kernel) (by decide) rfl) <|
  am_fa (sn_iconst (n := (-1)) (by decide +kernel) (by decide +kernel) rfl) <|
  am_fa (sn_goto (off := 14) (by decide +kernel) (by decide)) <|
  am_fa (sn_aload_n (k := 0) (by decide +kernel) rfl rfl) <|
  am_fa (sn_getP (idx := 28) (ob := am_o1) (by decide +kernel) rfl (by decide) rfl hin_1 (List.mem_cons_of_mem _ mw_185) rfl) <|
  am_fa (sn_getP (idx := 116) (ob := am_o13) (by decide +kernel) rfl (by decide) rfl hin_13 (List.mem_cons_of_mem _ mw_177) rfl) <|
  am_fa (sn_iload_n (k := 1) (by decide +kernel) rfl rfl) <|
  am_fa (sn_aald (by decide +kernel) rfl rfl rfl) <|
  am_fa (sn_iload_n (k := 2) (by decide +kernel) rfl rfl) <|
  am_fa (sn_iald (by decide +kernel) rfl rfl rfl) <|
  am_fa (sn_iret (by decide +kernel) rfl) <|
  am_f0
theorem ct_44 : ∀ x ∈ am_c44, am_snd 44 x.1 x.2 :=
  am_fa (sn_aload_n (k := 0) (by decide +kernel) rfl rfl) <|
  am_fa (sn_iload_n (k := 1) (by decide +kernel) rfl rfl) <|
  am_fa (sn_callV (idx := 109) (ob := am_o1) (by decide +kernel) rfl (hG 51 (List.mem_cons_of_mem _ mw_437)) (by decide) (List.mem_cons_of_mem _ mw_37) (List.mem_cons_of_mem _ mw_434) (by decide +kernel) rfl rfl (List.mem_cons_of_mem _ mw_436) (List.mem_cons_of_mem _ mw_16) rfl) <|
  am_fa (sn_if_eq (off := 10) (by decide +kernel) (by decide) rfl) <|
  am_fa (sn_iload_n (k := 2) (by decide +kernel) rfl rfl) <|
  am_fa (sn_callS (idx := 40) (by decide +kernel) rfl (hG 48 (List.mem_cons_of_mem _ mw_205)) (by decide) (List.mem_cons_of_mem _ mw_37) (List.mem_cons_of_mem _ mw_203) (by decide +kernel) (List.mem_cons_of_mem _ mw_204) rfl) <|
  am_fa (sn_if_ne (off := 5) (by decide +kernel) (by decide) rfl) <|
  am_fa (sn_iconst (n := (-1)) (by decide +kernel) (by decide +kernel) rfl) <|
  am_fa (sn_iret (by decide +kernel) rfl) <|
  am_fa (sn_aload_n (k := 0) (by decide +kernel) rfl rfl) <|
  am_fa (sn_getP (idx := 28) (ob := am_o1) (by decide +kernel) rfl (by decide) rfl hin_1 (List.mem_cons_of_mem _ mw_185) rfl) <|
  am_fa (sn_aload_n (k := 0) (by decide +kernel) rfl rfl) <|
  am_fa (sn_getP (idx := 11) (ob := am_o1) (by decide +kernel) rfl (by decide) rfl hin_1 (List.mem_cons_of_mem _ mw_183) rfl) <|
  am_fa (sn_iload_n (k := 1) (by decide +kernel) rfl rfl) <|
  am_fa (sn_aald (by decide +kernel) rfl rfl rfl) <|
  am_fa (sn_getP (idx := 91) (ob := am_o3) (by decide +kernel) rfl (by decide) rfl hin_3 (List.mem_cons_of_mem _ mw_126) rfl) <|
  am_fa (sn_callV (idx := 112) (ob := am_o13) (by decide +kernel) rfl (hG 27 (List.mem_cons_of_mem _ mw_441)) (by decide) (List.mem_cons_of_mem _ mw_41) (List.mem_cons_of_mem _ mw_438) (by decide +kernel) rfl rfl (List.mem_cons_of_mem _ mw_439) (List.mem_cons_of_mem _ mw_440) rfl) <|
  am_fa (sn_aload_n (k := 0) (by decide +kernel) rfl rfl) <|
  am_fa (sn_getP (idx := 28) (ob := am_o1) (by decide +kernel) rfl (by decide) rfl hin_1 (List.mem_cons_of_mem _ mw_185) rfl) <|
  am_fa (sn_iload_n (k := 1) (by decide +kernel) rfl rfl) <|
  am_fa (sn_iload_n (k := 2) (by decide +kernel) rfl rfl) <|
  am_fa (sn_callV (idx := 120) (ob := am_o13) (by decide +kernel) rfl (hG 30 (List.mem_cons_of_mem _ mw_456)) (by decide) (List.mem_cons_of_mem _ mw_41) (List.mem_cons_of_mem _ mw_453) (by decide +kernel) rfl rfl (List.mem_cons_of_mem _ mw_454) (List.mem_cons_of_mem _ mw_455) rfl) <|
  am_fa (sn_iret (by decide +kernel) rfl) <|
  am_f0

theorem ct_45 : ∀ x ∈ am_c45, am_snd 45 x.1 x.2 :=
  am_fa (sn_aload_n (k := 0) (by decide +kernel) rfl rfl) <|
  am_fa (sn_iload_n (k := 1) (by decide +kernel) rfl rfl) <|
  am_fa (sn_callV (idx := 109) (ob := am_o1) (by decide +kernel) rfl (hG 51 (List.mem_cons_of_mem _ mw_437)) (by decide) (List.mem_cons_of_mem _ mw_37) (List.mem_cons_of_mem _ mw_434) (by decide +kernel) rfl rfl (List.mem_cons_of_mem _ mw_436) (List.mem_cons_of_mem _ mw_16) rfl) <|
  am_fa (sn_if_eq (off := 10) (by decide +kernel) (by decide) rfl) <|
  am_fa (sn_iload_n (k := 2) (by decide +kernel) rfl rfl) <|
  am_fa (sn_callS (idx := 124) (by decide +kernel) rfl (hG 49 (List.mem_cons_of_mem _ mw_223)) (by decide) (List.mem_cons_of_mem _ mw_37) (List.mem_cons_of_mem _ mw_221) (by decide +kernel) (List.mem_cons_of_mem _ mw_222) rfl) <|
  am_fa (sn_if_ne (off := 5) (by decide +kernel) (by decide) rfl) <|
  am_fa (sn_iconst (n := (-1)) (by decide +kernel) (by decide +kernel) rfl) <|
  am_fa (sn_iret (by decide +kernel) rfl) <|
  am_fa (sn_aload_n (k := 0) (by decide +kernel) rfl rfl) <|
  am_fa (sn_getP (idx := 28) (ob := am_o1) (by decide +kernel) rfl (by decide) rfl hin_1 (List.mem_cons_of_mem _ mw_185) rfl) <|
  am_fa (sn_aload_n (k := 0) (by decide +kernel) rfl rfl) <|
  am_fa (sn_getP (idx := 11) (ob := am_o1) (by decide +kernel) rfl (by decide) rfl hin_1 (List.mem_cons_of_mem _ mw_183) rfl) <|
  am_fa (sn_iload_n (k := 1) (by decide +kernel) rfl rfl) <|
  am_fa (sn_aald (by decide +kernel) rfl rfl rfl) <|
  am_fa (sn_getP (idx := 91) (ob := am_o3) (by decide +kernel) rfl (by decide) rfl hin_3 (List.mem_cons_of_mem _ mw_126) rfl) <|
  am_fa (sn_callV (idx := 112) (ob := am_o13) (by decide +kernel) rfl (hG 27 (List.mem_cons_of_mem _ mw_441)) (by decide) (List.mem_cons_of_mem _ mw_41) (List.mem_cons_of_mem _ mw_438) (by decide +kernel) rfl rfl (List.mem_cons_of_mem _ mw_439) (List.mem_cons_of_mem _ mw_440) rfl) <|
  am_fa (sn_aload_n (k := 0) (by decide +kernel) rfl rfl) <|
  am_fa (sn_getP (idx := 28) (ob := am_o1) (by decide +kernel) rfl (by decide) rfl hin_1 (List.mem_cons_of_mem _ mw_185) rfl) <|
  am_fa (sn_iload_n (k := 1) (by decide +kernel) rfl rfl) <|
  am_fa (sn_iload_n (k := 2) (by decide +kernel) rfl rfl) <|
  am_fa (sn_aload_n (k := 0) (by decide +kernel) rfl rfl) <|
  am_fa (sn_getP (idx := 11) (ob := am_o1) (by decide +kernel) rfl (by decide) rfl hin_1 (List.mem_cons_of_mem _ mw_183) rfl) <|
  am_fa (sn_iload_n (k := 1) (by decide +kernel) rfl rfl) <|
  am_fa (sn_aald (by decide +kernel) rfl rfl rfl) <|
  am_fa (sn_getP (idx := 91) (ob := am_o3) (by decide +kernel) rfl (by decide) rfl hin_3 (List.mem_cons_of_mem _ mw_126) rfl) <|
  am_fa (sn_callV (idx := 127) (ob := am_o13) (by decide +kernel) rfl (hG 31 (List.mem_cons_of_mem _ mw_464)) (by decide) (List.mem_cons_of_mem _ mw_41) (List.mem_cons_of_mem _ mw_461) (by decide +kernel) rfl rfl (List.mem_cons_of_mem _ mw_462) (List.mem_cons_of_mem _ mw_463) rfl) <|
  am_fa (sn_iret (by decide +kernel) rfl) <|
  am_f0
theorem ct_46 : ∀ x ∈ am_c46, am_snd 46 x.1 x.2 :=
  am_fa (sn_aload_n (k := 0) (by decide +kernel) rfl rfl) <|
  am_fa (sn_iload_n (k := 1) (by decide +kernel) rfl rfl) <|
  am_fa (sn_callV (idx := 109) (ob := am_o1) (by decide +kernel) rfl (hG 51 (List.mem_cons_of_mem _ mw_437)) (by decide) (List.mem_cons_of_mem _ mw_37) (List.mem_cons_of_mem _ mw_434) (by decide +kernel) rfl rfl (List.mem_cons_of_mem _ mw_436) (List.mem_cons_of_mem _ mw_16) rfl) <|
  am_fa (sn_if_eq (off := 21) (by decide +kernel) (by decide) rfl) <|
  am_fa (sn_iload_n (k := 2) (by decide +kernel) rfl rfl) <|
  am_fa (sn_callS (idx := 124) (by decide +kernel) rfl (hG 49 (List.mem_cons_of_mem _ mw_223)) (by decide) (List.mem_cons_of_mem _ mw_37) (List.mem_cons_of_mem _ mw_221) (by decide +kernel) (List.mem_cons_of_mem _ mw_222) rfl) <|
  am_fa (sn_if_eq (off := 14) (by decide +kernel) (by decide) rfl) <|
  am_fa (sn_iload_n (k := 3) (by decide +kernel) rfl rfl) <|
  am_fa (sn_iconst (n := 1) (by decide +kernel) (by decide +kernel) rfl) <|
  am_fa (sn_icmp_lt (off := 9) (by decide +kernel) (by decide) rfl) <|
  am_fa (sn_iload_n (k := 3) (by decide +kernel) rfl rfl) <|
  am_fa (sn_bipush (n := 15) (by decide +kernel) (by decide +kernel) rfl) <|
  am_fa (sn_icmp_le (off := 5) (by decide +kernel) (by decide) rfl) <|
  am_fa (sn_iconst (n := (-1)) (by decide +kernel) (by decide +kernel) rfl) <|
  am_fa (sn_iret (by decide +kernel) rfl) <|
  am_fa (sn_iload_n (k := 1) (by decide +kernel) rfl rfl) <|
  am_fa (sn_istore (by decide +kernel) (by decide) rfl) <|
  am_fa (sn_iload_n (k := 3) (by decide +kernel) rfl rfl) <|
  am_fa (sn_istore (by decide +kernel) (by decide) rfl) <|
  am_fa (sn_iload (by decide +kernel) rfl) <|
  am_fa (sn_iconst (n := 1) (by decide +kernel) (by decide +kernel) rfl) <|
  am_fa (sn_icmp_lt (off := 124) (by decide +kernel) (by decide) rfl) <|
  am_fa (sn_aload_n (k := 0) (by decide +kernel) rfl rfl) <|
  am_fa (sn_getP (idx := 28) (ob := am_o1) (by decide +kernel) rfl (by decide) rfl hin_1 (List.mem_cons_of_mem _ mw_185) rfl) <|
  am_fa (sn_aload_n (k := 0) (by decide +kernel) rfl rfl) <|
  am_fa (sn_getP (idx := 11) (ob := am_o1) (by decide +kernel) rfl (by decide) rfl hin_1 (List.mem_cons_of_mem _ mw_183) rfl) <|
  am_fa (sn_iload (by decide +kernel) rfl) <|
  am_fa (sn_aald (by decide +kernel) rfl rfl rfl) <|
  am_fa (sn_getP (idx := 91) (ob := am_o3) (by decide +kernel) rfl (by decide) rfl hin_3 (List.mem_cons_of_mem _ mw_126) rfl) <|
  am_fa (sn_callV (idx := 112) (ob := am_o13) (by decide +kernel) rfl (hG 27 (List.mem_cons_of_mem _ mw_441)) (by decide) (List.mem_cons_of_mem _ mw_41) (List.mem_cons_of_mem _ mw_438) (by decide +kernel) rfl rfl (List.mem_cons_of_mem _ mw_439) (List.mem_cons_of_mem _ mw_440) rfl) <|
  am_fa (sn_aload_n (k := 0) (by decide +kernel) rfl rfl) <|
  am_fa (sn_getP (idx := 28) (ob := am_o1) (by decide +kernel) rfl (by decide) rfl hin_1 (List.mem_cons_of_mem _ mw_185) rfl) <|
  am_fa (sn_iload (by decide +kernel) rfl) <|
  am_fa (sn_iload_n (k := 2) (by decide +kernel) rfl rfl) <|
  am_fa (sn_aload_n (k := 0) (by decide +kernel) rfl rfl) <|
  am_fa (sn_getP (idx := 11) (ob := am_o1) (by decide +kernel) rfl (by decide) rfl hin_1 (List.mem_cons_of_mem _ mw_183) rfl) <|
  am_fa (sn_iload (by decide +kernel) rfl) <|
  am_fa (sn_aald (by decide +kernel) rfl rfl rfl) <|
  am_fa (sn_getP (idx := 91) (ob := am_o3) (by decide +kernel) rfl (by decide) rfl hin_3 (List.mem_cons_of_mem _ mw_126) rfl) <|
  am_fa (sn_callV (idx := 127) (ob := am_o13) (by decide +kernel) rfl (hG 31 (List.mem_cons_of_mem _ mw_464)) (by decide) (List.mem_cons_of_mem _ mw_41) (List.mem_cons_of_mem _ mw_461) (by decide +kernel) rfl rfl (List.mem_cons_of_mem _ mw_462) (List.mem_cons_of_mem _ mw_463) rfl) <|
  am_fa (sn_istore (by decide +kernel) (by decide) rfl) <|
  am_fa (sn_iload (by decide +kernel) rfl) <|
  am_fa (sn_iconst (n := (-1)) (by decide +kernel) (by decide +kernel) rfl) <|
  am_fa (sn_icmp_ne (off := 10) (by decide +kernel) (by decide) rfl) <|
  am_fa (sn_sipush (n := 300) (by decide +kernel) (by decide +kernel) rfl) <|
  am_fa (sn_iload (by decide +kernel) rfl) <|
  am_fa (sn_iadd (by decide +kernel) rfl) <|
  am_fa (sn_iret (by decide +kernel) rfl) <|
  am_fa (sn_iload (by decide +kernel) rfl) <|
  am_fa (sn_iload (by decide +kernel) rfl) <|
  am_fa (sn_icmp_ne (off := 9) (by decide +kernel) (by decide) rfl) <|
  am_fa (sn_bipush (n := 100) (by decide +kernel) (by decide +kernel) rfl) <|
  am_fa (sn_iload (by decide +kernel) rfl) <|
  am_fa (sn_iadd (by decide +kernel) rfl) <|
  am_fa (sn_iret (by decide +kernel) rfl) <|
  am_fa (sn_iload (by decide +kernel) rfl) <|
  am_fa (sn_iconst (n := 1) (by decide +kernel) (by decide +kernel) rfl) <|
  am_fa (sn_icmp_le (off := 47) (by decide +kernel) (by decide) rfl) <|
  am_fa (sn_aload_n (k := 0) (by decide +kernel) rfl rfl) <|
  am_fa (sn_getP (idx := 28) (ob := am_o1) (by decide +kernel) rfl (by decide) rfl hin_1 (List.mem_cons_of_mem _ mw_185) rfl) <|
  am_fa (sn_iload (by decide +kernel) rfl) <|
  am_fa (sn_iload (by decide +kernel) rfl) <|
  am_fa (sn_callV (idx := 120) (ob := am_o13) (by decide +kernel) rfl (hG 30 (List.mem_cons_of_mem _ mw_456)) (by decide) (List.mem_cons_of_mem _ mw_41) (List.mem_cons_of_mem _ mw_453) (by decide +kernel) rfl rfl (List.mem_cons_of_mem _ mw_454) (List.mem_cons_of_mem _ mw_455) rfl) <|
  am_fa (sn_istore (by decide +kernel) (by decide) rfl) <|
  am_fa (sn_aload_n (k := 0) (by decide +kernel) rfl rfl) <|
  am_fa (sn_iload (by decide +kernel) rfl) <|
  am_fa (sn_iload (by decide +kernel) rfl) <|
  am_fa (sn_callV (idx := 76) (ob := am_o1) (by decide +kernel) rfl (hG 52 (List.mem_cons_of_mem _ mw_258)) (by decide) (List.mem_cons_of_mem _ mw_37) (List.mem_cons_of_mem _ mw_255) (by decide +kernel) rfl rfl (List.mem_cons_of_mem _ mw_257) (List.mem_cons_of_mem _ mw_1) rfl) <|
  am_fa (sn_if_eq (off := 12) (by decide +kernel) (by decide) rfl) <|
  am_fa (sn_aload_n (k := 0) (by decide +kernel) rfl rfl) <|
  am_fa (sn_iload (by decide +kernel) rfl) <|
  am_fa (sn_callV (idx := 109) (ob := am_o1) (by decide +kernel) rfl (hG 51 (List.mem_cons_of_mem _ mw_437)) (by decide) (List.mem_cons_of_mem _ mw_37) (List.mem_cons_of_mem _ mw_434) (by decide +kernel) rfl rfl (List.mem_cons_of_mem _ mw_436) (List.mem_cons_of_mem _ mw_16) rfl) <|
  am_fa (sn_if_ne (off := 10) (by decide +kernel) (by decide) rfl) <|
  am_fa (sn_sipush (n := 400) (by decide +kernel) (by decide +kernel) rfl) <|
  am_fa (sn_iload (by decide +kernel) rfl) <|
  am_fa (sn_iadd (by decide +kernel) rfl) <|
  am_fa (sn_iret (by decide +kernel) rfl) <|
  am_fa (sn_iload (by decide +kernel) rfl) <|
  am_fa (sn_istore (by decide +kernel) (by decide) rfl) <|
  am_fa (sn_iinc (i := (-1)) (by decide +kernel) (by decide +kernel) (by decide) rfl) <|
  am_fa (sn_goto (off := (-124)) (by decide +kernel) (by decide)) <|
  am_fa (sn_sipush (n := 200) (by decide +kernel) (by decide +kernel) rfl) <|
  am_fa (sn_iload (by decide +kernel) rfl) <|
  am_fa (sn_iadd (by decide +kernel) rfl) <|
  am_fa (sn_iret (by decide +kernel) rfl) <|
  am_f0
theorem ct_47 : ∀ x ∈ am_c47, am_snd 47 x.1 x.2 :=
  am_fa (sn_iload_n (k := 1) (by decide +kernel) rfl rfl) <|
  am_fa (sn_if_lt (off := 9) (by decide +kernel) (by decide) rfl) <|
  am_fa (sn_iload_n (k := 1) (by decide +kernel) rfl rfl) <|
  am_fa (sn_bipush (n := 7) (by decide +kernel) (by decide +kernel) rfl) <|
  am_fa (sn_icmp_lt (off := 7) (by decide +kernel) (by decide) rfl) <|
  am_fa (sn_iconst (n := (-1)) (by decide +kernel) (by decide +kernel) rfl) <|
  am_fa (sn_goto (off := 9) (by decide +kernel) (by decide)) <|
  am_fa (sn_aload_n (k := 0) (by decide +kernel) rfl rfl) <|
  am_fa (sn_getP (idx := 32) (ob := am_o1) (by decide +kernel) rfl (by decide) rfl hin_1 (List.mem_cons_of_mem _ mw_186) rfl) <|
  am_fa (sn_iload_n (k := 1) (by decide +kernel) rfl rfl) <|
  am_fa (sn_iald (by decide +kernel) rfl rfl rfl) <|
  am_fa (sn_iret (by decide +kernel) rfl) <|
  am_f0
theorem ct_48 : ∀ x ∈ am_c48, am_snd 48 x.1 x.2 :=
  am_fa (sn_iload_n (k := 0) (by decide +kernel) rfl rfl) <|
  am_fa (sn_if_lt (off := 12) (by decide +kernel) (by decide) rfl) <|
  am_fa (sn_iload_n (k := 0) (by decide +kernel) rfl rfl) <|
  am_fa (sn_iconst (n := 5) (by decide +kernel) (by decide +kernel) rfl) <|
  am_fa (sn_icmp_ge (off := 7) (by decide +kernel) (by decide) rfl) <|
  am_fa (sn_iconst (n := 1) (by decide +kernel) (by decide +kernel) rfl) <|
  am_fa (sn_goto (off := 4) (by decide +kernel) (by decide)) <|
  am_fa (sn_iconst (n := 0) (by decide +kernel) (by decide +kernel) rfl) <|
  am_fa (sn_zret (by decide +kernel) rfl) <|
  am_f0
theorem ct_49 : ∀ x ∈ am_c49, am_snd 49 x.1 x.2 :=
  am_fa (sn_iload_n (k := 0) (by decide +kernel) rfl rfl) <|
  am_fa (sn_if_lt (off := 14) (by decide +kernel) (by decide) rfl) <|
  am_fa (sn_iload_n (k := 0) (by decide +kernel) rfl rfl) <|
  am_fa (sn_sipush (n := 255) (by decide +kernel) (by decide +kernel) rfl) <|
  am_fa (sn_icmp_gt (off := 7) (by decide +kernel) (by decide) rfl) <|
  am_fa (sn_iconst (n := 1) (by decide +kernel) (by decide +kernel) rfl) <|
  am_fa (sn_goto (off := 4) (by decide +kernel) (by decide)) <|
  am_fa (sn_iconst (n := 0) (by decide +kernel) (by decide +kernel) rfl) <|
  am_fa (sn_zret (by decide +kernel) rfl) <|
  am_f0
theorem ct_50 : ∀ x ∈ am_c50, am_snd 50 x.1 x.2 :=
  am_fa (sn_iload_n (k := 0) (by decide +kernel) rfl rfl) <|
  am_fa (sn_callS (idx := 124) (by decide +kernel) rfl (hG 49 (List.mem_cons_of_mem _ mw_223)) (by decide) (List.mem_cons_of_mem _ mw_37) (List.mem_cons_of_mem _ mw_221) (by decide +kernel) (List.mem_cons_of_mem _ mw_222) rfl) <|
  am_fa (sn_if_eq (off := 13) (by decide +kernel) (by decide) rfl) <|
  am_fa (sn_iload_n (k := 1) (by decide +kernel) rfl rfl) <|
  am_fa (sn_if_lt (off := 9) (by decide +kernel) (by decide) rfl) <|
  am_fa (sn_iload_n (k := 1) (by decide +kernel) rfl rfl) <|
  am_fa (sn_bipush (n := 8) (by decide +kernel) (by decide +kernel) rfl) <|
  am_fa (sn_icmp_le (off := 5) (by decide +kernel) (by decide) rfl) <|
  am_fa (sn_iconst (n := 0) (by decide +kernel) (by decide +kernel) rfl) <|
  am_fa (sn_zret (by decide +kernel) rfl) <|
  am_fa (sn_iconst (n := 1) (by decide +kernel) (by decide +kernel) rfl) <|
  am_fa (sn_bipush (n := 8) (by decide +kernel) (by decide +kernel) rfl) <|
  am_fa (sn_iload_n (k := 1) (by decide +kernel) rfl rfl) <|
  am_fa (sn_isub (by decide +kernel) rfl) <|
  am_fa (sn_ishl (by decide +kernel) rfl) <|
  am_fa (sn_iconst (n := 1) (by decide +kernel) (by decide +kernel) rfl) <|
  am_fa (sn_isub (by decide +kernel) rfl) <|
  am_fa (sn_istore_n (k := 2) (by decide +kernel) rfl (by decide) rfl) <|
  am_fa (sn_iload_n (k := 0) (by decide +kernel) rfl rfl) <|
  am_fa (sn_iload_n (k := 2) (by decide +kernel) rfl rfl) <|
  am_fa (sn_iand (by decide +kernel) rfl) <|
  am_fa (sn_if_ne (off := 7) (by decide +kernel) (by decide) rfl) <|
  am_fa (sn_iconst (n := 1) (by decide +kernel) (by decide +kernel) rfl) <|
  am_fa (sn_goto (off := 4) (by decide +kernel) (by decide)) <|
  am_fa (sn_iconst (n := 0) (by decide +kernel) (by decide +kernel) rfl) <|
  am_fa (sn_zret (by decide +kernel) rfl) <|
  am_f0
theorem ct_51 : ∀ x ∈ am_c51, am_snd 51 x.1 x.2 :=
  am_fa (sn_iload_n (k := 1) (by decide +kernel) rfl rfl) <|
  am_fa (sn_callS (idx := 40) (by decide +kernel) rfl (hG 48 (List.mem_cons_of_mem _ mw_205)) (by decide) (List.mem_cons_of_mem _ mw_37) (List.mem_cons_of_mem _ mw_203) (by decide +kernel) (List.mem_cons_of_mem _ mw_204) rfl) <|
  am_fa (sn_if_eq (off := 19) (by decide +kernel) (by decide) rfl) <|
  am_fa (sn_aload_n (k := 0) (by decide +kernel) rfl rfl) <|
  am_fa (sn_getP (idx := 11) (ob := am_o1) (by decide +kernel) rfl (by decide) rfl hin_1 (List.mem_cons_of_mem _ mw_183) rfl) <|
  am_fa (sn_iload_n (k := 1) (by decide +kernel) rfl rfl) <|
  am_fa (sn_aald (by decide +kernel) rfl rfl rfl) <|
  am_fa (sn_getI (idx := 69) (ob := am_o3) (by decide +kernel) rfl (by decide) rfl hin_3 (List.mem_cons_of_mem _ mw_119) rfl) <|
  am_fa (sn_if_eq (off := 7) (by decide +kernel) (by decide) rfl) <|
  am_fa (sn_iconst (n := 1) (by decide +kernel) (by decide +kernel) rfl) <|
  am_fa (sn_goto (off := 4) (by decide +kernel) (by decide)) <|
  am_fa (sn_iconst (n := 0) (by decide +kernel) (by decide +kernel) rfl) <|
  am_fa (sn_zret (by decide +kernel) rfl) <|
  am_f0
theorem ct_52 : ∀ x ∈ am_c52, am_snd 52 x.1 x.2 :=
  am_fa (sn_iload_n (k := 1) (by decide +kernel) rfl rfl) <|
  am_fa (sn_callS (idx := 40) (by decide +kernel) rfl (hG 48 (List.mem_cons_of_mem _ mw_205)) (by decide) (List.mem_cons_of_mem _ mw_37) (List.mem_cons_of_mem _ mw_203) (by decide +kernel) (List.mem_cons_of_mem _ mw_204) rfl) <|
  am_fa (sn_if_eq (off := 31) (by decide +kernel) (by decide) rfl) <|
  am_fa (sn_iload_n (k := 2) (by decide +kernel) rfl rfl) <|
  am_fa (sn_callS (idx := 40) (by decide +kernel) rfl (hG 48 (List.mem_cons_of_mem _ mw_205)) (by decide) (List.mem_cons_of_mem _ mw_37) (List.mem_cons_of_mem _ mw_203) (by decide +kernel) (List.mem_cons_of_mem _ mw_204) rfl) <|
  am_fa (sn_if_eq (off := 24) (by decide +kernel) (by decide) rfl) <|
  am_fa (sn_aload_n (k := 0) (by decide +kernel) rfl rfl) <|
  am_fa (sn_getP (idx := 11) (ob := am_o1) (by decide +kernel) rfl (by decide) rfl hin_1 (List.mem_cons_of_mem _ mw_183) rfl) <|
  am_fa (sn_iload_n (k := 1) (by decide +kernel) rfl rfl) <|
  am_fa (sn_aald (by decide +kernel) rfl rfl rfl) <|
  am_fa (sn_getP (idx := 44) (ob := am_o3) (by decide +kernel) rfl (by decide) rfl hin_3 (List.mem_cons_of_mem _ mw_128) rfl) <|
  am_fa (sn_iload_n (k := 2) (by decide +kernel) rfl rfl) <|
  am_fa (sn_aald (by decide +kernel) rfl rfl rfl) <|
  am_fa (sn_getI (idx := 48) (ob := am_o7) (by decide +kernel) rfl (by decide) rfl hin_7 (List.mem_cons_of_mem _ mw_77) rfl) <|
  am_fa (sn_if_eq (off := 7) (by decide +kernel) (by decide) rfl) <|
  am_fa (sn_iconst (n := 1) (by decide +kernel) (by decide +kernel) rfl) <|
  am_fa (sn_goto (off := 4) (by decide +kernel) (by decide)) <|
  am_fa (sn_iconst (n := 0) (by decide +kernel) (by decide +kernel) rfl) <|
  am_fa (sn_zret (by decide +kernel) rfl) <|
  am_f0
theorem ct_53 : ∀ x ∈ am_c53, am_snd 53 x.1 x.2 :=
  am_fa (sn_aload_n (k := 0) (by decide +kernel) rfl rfl) <|
  am_fa (sn_dup (by decide +kernel) rfl) <|
  am_fa (sn_getI (idx := 36) (ob := am_o1) (by decide +kernel) rfl (by decide) rfl hin_1 (List.mem_cons_of_mem _ mw_187) rfl) <|
  am_fa (sn_iconst (n := 1) (by decide +kernel) (by decide +kernel) rfl) <|
  am_fa (sn_iadd (by decide +kernel) rfl) <|
  am_fa (sn_putI (idx := 36) (ob := am_o1) (by decide +kernel) rfl (by decide) rfl hin_1 (List.mem_cons_of_mem _ mw_187) am_o1_ty am_o1_nm rfl rfl rfl) <|
  am_fa (sn_aload_n (k := 0) (by decide +kernel) rfl rfl) <|
  am_fa (sn_callV (idx := 131) (ob := am_o1) (by decide +kernel) rfl (hG 55 (List.mem_cons_of_mem _ mw_270)) (by decide) (List.mem_cons_of_mem _ mw_37) (List.mem_cons_of_mem _ mw_267) (by decide +kernel) rfl rfl (List.mem_cons_of_mem _ mw_269) (List.mem_cons_of_mem _ mw_3) rfl) <|
  am_fa (sn_aload_n (k := 0) (by decide +kernel) rfl rfl) <|
  am_fa (sn_getI (idx := 36) (ob := am_o1) (by decide +kernel) rfl (by decide) rfl hin_1 (List.mem_cons_of_mem _ mw_187) rfl) <|
  am_fa (sn_iconst (n := 2) (by decide +kernel) (by decide +kernel) rfl) <|
  am_fa (sn_irem (by decide +kernel) rfl) <|
  am_fa (sn_if_ne (off := 7) (by decide +kernel) (by decide) rfl) <|
  am_fa (sn_aload_n (k := 0) (by decide +kernel) rfl rfl) <|
  am_fa (sn_callV (idx := 134) (ob := am_o1) (by decide +kernel) rfl (hG 56 (List.mem_cons_of_mem _ mw_278)) (by decide) (List.mem_cons_of_mem _ mw_37) (List.mem_cons_of_mem _ mw_275) (by decide +kernel) rfl rfl (List.mem_cons_of_mem _ mw_277) (List.mem_cons_of_mem _ mw_4) rfl) <|
  am_fa (sn_aload_n (k := 0) (by decide +kernel) rfl rfl) <|
  am_fa (sn_callV (idx := 137) (ob := am_o1) (by decide +kernel) rfl (hG 58 (List.mem_cons_of_mem _ mw_294)) (by decide) (List.mem_cons_of_mem _ mw_37) (List.mem_cons_of_mem _ mw_291) (by decide +kernel) rfl rfl (List.mem_cons_of_mem _ mw_293) (List.mem_cons_of_mem _ mw_7) rfl) <|
  am_fa (sn_aload_n (k := 0) (by decide +kernel) rfl rfl) <|
  am_fa (sn_callV (idx := 140) (ob := am_o1) (by decide +kernel) rfl (hG 60 (List.mem_cons_of_mem _ mw_314)) (by decide) (List.mem_cons_of_mem _ mw_37) (List.mem_cons_of_mem _ mw_311) (by decide +kernel) rfl rfl (List.mem_cons_of_mem _ mw_313) (List.mem_cons_of_mem _ mw_9) rfl) <|
  am_fa (sn_aload_n (k := 0) (by decide +kernel) rfl rfl) <|
  am_fa (sn_callV (idx := 143) (ob := am_o1) (by decide +kernel) rfl (hG 61 (List.mem_cons_of_mem _ mw_374)) (by decide) (List.mem_cons_of_mem _ mw_37) (List.mem_cons_of_mem _ mw_371) (by decide +kernel) rfl rfl (List.mem_cons_of_mem _ mw_373) (List.mem_cons_of_mem _ mw_11) rfl) <|
  am_fa (sn_aload_n (k := 0) (by decide +kernel) rfl rfl) <|
  am_fa (sn_callV (idx := 146) (ob := am_o1) (by decide +kernel) rfl (hG 62 (List.mem_cons_of_mem _ mw_385)) (by decide) (List.mem_cons_of_mem _ mw_37) (List.mem_cons_of_mem _ mw_382) (by decide +kernel) rfl rfl (List.mem_cons_of_mem _ mw_384) (List.mem_cons_of_mem _ mw_12) rfl) <|
  am_fa (sn_ret (by decide +kernel) rfl) <|
  am_f0
theorem ct_54 : ∀ x ∈ am_c54, am_snd 54 x.1 x.2 :=
  am_fa (sn_aload_n (k := 0) (by decide +kernel) rfl rfl) <|
  am_fa (sn_getP (idx := 11) (ob := am_o1) (by decide +kernel) rfl (by decide) rfl hin_1 (List.mem_cons_of_mem _ mw_183) rfl) <|
  am_fa (sn_iload_n (k := 1) (by decide +kernel) rfl rfl) <|
  am_fa (sn_aald (by decide +kernel) rfl rfl rfl) <|
  am_fa (sn_getP (idx := 44) (ob := am_o3) (by decide +kernel) rfl (by decide) rfl hin_3 (List.mem_cons_of_mem _ mw_128) rfl) <|
  am_fa (sn_iload_n (k := 2) (by decide +kernel) rfl rfl) <|
  am_fa (sn_aald (by decide +kernel) rfl rfl rfl) <|
  am_fa (sn_astore_n (k := 3) (by decide +kernel) rfl (by decide) rfl) <|
  am_fa (sn_aload_n (k := 3) (by decide +kernel) rfl rfl) <|
  am_fa (sn_getI (idx := 79) (ob := am_o7) (by decide +kernel) rfl (by decide) rfl hin_7 (List.mem_cons_of_mem _ mw_79) rfl) <|
  am_fa (sn_if_le (off := 25) (by decide +kernel) (by decide) rfl) <|
  am_fa (sn_aload_n (k := 3) (by decide +kernel) rfl rfl) <|
  am_fa (sn_dup (by decide +kernel) rfl) <|
  am_fa (sn_getI (idx := 79) (ob := am_o7) (by decide +kernel) rfl (by decide) rfl hin_7 (List.mem_cons_of_mem _ mw_79) rfl) <|
  am_fa (sn_iconst (n := 1) (by decide +kernel) (by decide +kernel) rfl) <|
  am_fa (sn_isub (by decide +kernel) rfl) <|
  am_fa (sn_putI (idx := 79) (ob := am_o7) (by decide +kernel) rfl (by decide) rfl hin_7 (List.mem_cons_of_mem _ mw_79) am_o7_ty am_o7_nm rfl rfl rfl) <|
  am_fa (sn_aload_n (k := 0) (by decide +kernel) rfl rfl) <|
  am_fa (sn_getP (idx := 32) (ob := am_o1) (by decide +kernel) rfl (by decide) rfl hin_1 (List.mem_cons_of_mem _ mw_186) rfl) <|
  am_fa (sn_iconst (n := 4) (by decide +kernel) (by decide +kernel) rfl) <|
  am_fa (sn_dup2 (by decide +kernel) rfl) <|
  am_fa (sn_iald (by decide +kernel) rfl rfl rfl) <|
  am_fa (sn_iconst (n := 1) (by decide +kernel) (by decide +kernel) rfl) <|
  am_fa (sn_iadd (by decide +kernel) rfl) <|
  am_fa (sn_iast (by decide +kernel) rfl rfl rfl) <|
  am_fa (sn_iconst (n := 0) (by decide +kernel) (by decide +kernel) rfl) <|
  am_fa (sn_zret (by decide +kernel) rfl) <|
  am_fa (sn_aload_n (k := 0) (by decide +kernel) rfl rfl) <|
  am_fa (sn_getP (idx := 11) (ob := am_o1) (by decide +kernel) rfl (by decide) rfl hin_1 (List.mem_cons_of_mem _ mw_183) rfl) <|
  am_fa (sn_iload_n (k := 2) (by decide +kernel) rfl rfl) <|
  am_fa (sn_aald (by decide +kernel) rfl rfl rfl) <|
  am_fa (sn_getI (idx := 69) (ob := am_o3) (by decide +kernel) rfl (by decide) rfl hin_3 (List.mem_cons_of_mem _ mw_119) rfl) <|
  am_fa (sn_if_ne (off := 15) (by decide +kernel) (by decide) rfl) <|
  am_fa (sn_aload_n (k := 0) (by decide +kernel) rfl rfl) <|
  am_fa (sn_getP (idx := 32) (ob := am_o1) (by decide +kernel) rfl (by decide) rfl hin_1 (List.mem_cons_of_mem _ mw_186) rfl) <|
  am_fa (sn_iconst (n := 4) (by decide +kernel) (by decide +kernel) rfl) <|
  am_fa (sn_dup2 (by decide +kernel) rfl) <|
  am_fa (sn_iald (by decide +kernel) rfl rfl rfl) <|
  am_fa (sn_iconst (n := 1) (by decide +kernel) (by decide +kernel) rfl) <|
  am_fa (sn_iadd (by decide +kernel) rfl) <|
  am_fa (sn_iast (by decide +kernel) rfl rfl rfl) <|
  am_fa (sn_iconst (n := 0) (by decide +kernel) (by decide +kernel) rfl) <|
  am_fa (sn_zret (by decide +kernel) rfl) <|
  am_fa (sn_iconst (n := 1) (by decide +kernel) (by decide +kernel) rfl) <|
  am_fa (sn_zret (by decide +kernel) rfl) <|
  am_f0
theorem ct_55 : ∀ x ∈ am_c55, am_snd 55 x.1 x.2 :=
  am_fa (sn_iconst (n := 0) (by decide +kernel) (by decide +kernel) rfl) <|
  am_fa (sn_istore_n (k := 1) (by decide +kernel) rfl (by decide) rfl) <|
  am_fa (sn_iload_n (k := 1) (by decide +kernel) rfl rfl) <|
  am_fa (sn_iconst (n := 5) (by decide +kernel) (by decide +kernel) rfl) <|
  am_fa (sn_icmp_ge (off := 62) (by decide +kernel) (by decide) rfl) <|
  am_fa (sn_iconst (n := 0) (by decide +kernel) (by decide +kernel) rfl) <|
  am_fa (sn_istore_n (k := 2) (by decide +kernel) rfl (by decide) rfl) <|
  am_fa (sn_iload_n (k := 2) (by decide +kernel) rfl rfl) <|
  am_fa (sn_iconst (n := 5) (by decide +kernel) (by decide +kernel) rfl) <|
  am_fa (sn_icmp_ge (off := 49) (by decide +kernel) (by decide) rfl) <|
  am_fa (sn_aload_n (k := 0) (by decide +kernel) rfl rfl) <|
  am_fa (sn_getP (idx := 11) (ob := am_o1) (by decide +kernel) rfl (by decide) rfl hin_1 (List.mem_cons_of_mem _ mw_183) rfl) <|
  am_fa (sn_iload_n (k := 1) (by decide +kernel) rfl rfl) <|
  am_fa (sn_aald (by decide +kernel) rfl rfl rfl) <|
  am_fa (sn_getP (idx := 91) (ob := am_o3) (by decide +kernel) rfl (by decide) rfl hin_3 (List.mem_cons_of_mem _ mw_126) rfl) <|
  am_fa (sn_iload_n (k := 2) (by decide +kernel) rfl rfl) <|
  am_fa (sn_aald (by decide +kernel) rfl rfl rfl) <|
  am_fa (sn_astore_n (k := 3) (by decide +kernel) rfl (by decide) rfl) <|
  am_fa (sn_aload_n (k := 3) (by decide +kernel) rfl rfl) <|
  am_fa (sn_ifnull (off := 27) (by decide +kernel) (by decide) rfl) <|
  am_fa (sn_aload_n (k := 3) (by decide +kernel) rfl rfl) <|
  am_fa (sn_getI (idx := 100) (ob := am_o19) (by decide +kernel) rfl (by decide) rfl hin_19 (List.mem_cons_of_mem _ mw_348) rfl) <|
  am_fa (sn_aload_n (k := 0) (by decide +kernel) rfl rfl) <|
  am_fa (sn_getI (idx := 36) (ob := am_o1) (by decide +kernel) rfl (by decide) rfl hin_1 (List.mem_cons_of_mem _ mw_187) rfl) <|
  am_fa (sn_bipush (n := 40) (by decide +kernel) (by decide +kernel) rfl) <|
  am_fa (sn_isub (by decide +kernel) rfl) <|
  am_fa (sn_icmp_gt (off := 13) (by decide +kernel) (by decide) rfl) <|
  am_fa (sn_aload_n (k := 0) (by decide +kernel) rfl rfl) <|
  am_fa (sn_getP (idx := 11) (ob := am_o1) (by decide +kernel) rfl (by decide) rfl hin_1 (List.mem_cons_of_mem _ mw_183) rfl) <|
  am_fa (sn_iload_n (k := 1) (by decide +kernel) rfl rfl) <|
  am_fa (sn_aald (by decide +kernel) rfl rfl rfl) <|
  am_fa (sn_iload_n (k := 2) (by decide +kernel) rfl rfl) <|
  am_fa (sn_callV (idx := 149) (ob := am_o3) (by decide +kernel) rfl (hG 16 (List.mem_cons_of_mem _ mw_274)) (by decide) (List.mem_cons_of_mem _ mw_38) (List.mem_cons_of_mem _ mw_271) (by decide +kernel) rfl rfl (List.mem_cons_of_mem _ mw_272) (List.mem_cons_of_mem _ mw_273) rfl) <|
  am_fa (sn_iinc (i := 1) (by decide +kernel) (by decide +kernel) (by decide) rfl) <|
  am_fa (sn_goto (off := (-48)) (by decide +kernel) (by decide)) <|
  am_fa (sn_iinc (i := 1) (by decide +kernel) (by decide +kernel) (by decide) rfl) <|
  am_fa (sn_goto (off := (-61)) (by decide +kernel) (by decide)) <|
  am_fa (sn_ret (by decide +kernel) rfl) <|
  am_f0
theorem ct_56 : ∀ x ∈ am_c56, am_snd 56 x.1 x.2 :=
  am_fa (sn_iconst (n := 0) (by decide +kernel) (by decide +kernel) rfl) <|
  am_fa (sn_istore_n (k := 1) (by decide +kernel) rfl (by decide) rfl) <|
  am_fa (sn_iload_n (k := 1) (by decide +kernel) rfl rfl) <|
  am_fa (sn_iconst (n := 5) (by decide +kernel) (by decide +kernel) rfl) <|
  am_fa (sn_icmp_ge (off := 18) (by decide +kernel) (by decide) rfl) <|
  am_fa (sn_aload_n (k := 0) (by decide +kernel) rfl rfl) <|
  am_fa (sn_getP (idx := 11) (ob := am_o1) (by decide +kernel) rfl (by decide) rfl hin_1 (List.mem_cons_of_mem _ mw_183) rfl) <|
  am_fa (sn_iload_n (k := 1) (by decide +kernel) rfl rfl) <|
  am_fa (sn_aald (by decide +kernel) rfl rfl rfl) <|
  am_fa (sn_callV (idx := 152) (ob := am_o3) (by decide +kernel) rfl (hG 17 (List.mem_cons_of_mem _ mw_282)) (by decide) (List.mem_cons_of_mem _ mw_38) (List.mem_cons_of_mem _ mw_279) (by decide +kernel) rfl rfl (List.mem_cons_of_mem _ mw_280) (List.mem_cons_of_mem _ mw_281) rfl) <|
  am_fa (sn_iinc (i := 1) (by decide +kernel) (by decide +kernel) (by decide) rfl) <|
  am_fa (sn_goto (off := (-17)) (by decide +kernel) (by decide)) <|
  am_fa (sn_iconst (n := 0) (by decide +kernel) (by decide +kernel) rfl) <|
  am_fa (sn_istore_n (k := 1) (by decide +kernel) rfl (by decide) rfl) <|
  am_fa (sn_iload_n (k := 1) (by decide +kernel) rfl rfl) <|
  am_fa (sn_iconst (n := 5) (by decide +kernel) (by decide +kernel) rfl) <|
  am_fa (sn_icmp_ge (off := 49) (by decide +kernel) (by decide) rfl) <|
  am_fa (sn_iconst (n := 0) (by decide +kernel) (by decide +kernel) rfl) <|
  am_fa (sn_istore_n (k := 2) (by decide +kernel) rfl (by decide) rfl) <|
  am_fa (sn_iload_n (k := 2) (by decide +kernel) rfl rfl) <|
  am_fa (sn_iconst (n := 5) (by decide +kernel) (by decide +kernel) rfl) <|
  am_fa (sn_icmp_ge (off := 36) (by decide +kernel) (by decide) rfl) <|
  am_fa (sn_aload_n (k := 0) (by decide +kernel) rfl rfl) <|
  am_fa (sn_getP (idx := 11) (ob := am_o1) (by decide +kernel) rfl (by decide) rfl hin_1 (List.mem_cons_of_mem _ mw_183) rfl) <|
  am_fa (sn_iload_n (k := 1) (by decide +kernel) rfl rfl) <|
  am_fa (sn_aald (by decide +kernel) rfl rfl rfl) <|
  am_fa (sn_getI (idx := 69) (ob := am_o3) (by decide +kernel) rfl (by decide) rfl hin_3 (List.mem_cons_of_mem _ mw_119) rfl) <|
  am_fa (sn_if_eq (off := 18) (by decide +kernel) (by decide) rfl) <|
  am_fa (sn_aload_n (k := 0) (by decide +kernel) rfl rfl) <|
  am_fa (sn_iload_n (k := 1) (by decide +kernel) rfl rfl) <|
  am_fa (sn_iload_n (k := 2) (by decide +kernel) rfl rfl) <|
  am_fa (sn_callV (idx := 76) (ob := am_o1) (by decide +kernel) rfl (hG 52 (List.mem_cons_of_mem _ mw_258)) (by decide) (List.mem_cons_of_mem _ mw_37) (List.mem_cons_of_mem _ mw_255) (by decide +kernel) rfl rfl (List.mem_cons_of_mem _ mw_257) (List.mem_cons_of_mem _ mw_1) rfl) <|
  am_fa (sn_if_eq (off := 9) (by decide +kernel) (by decide) rfl) <|
  am_fa (sn_aload_n (k := 0) (by decide +kernel) rfl rfl) <|
  am_fa (sn_iload_n (k := 1) (by decide +kernel) rfl rfl) <|
  am_fa (sn_iload_n (k := 2) (by decide +kernel) rfl rfl) <|
  am_fa (sn_callV (idx := 155) (ob := am_o1) (by decide +kernel) rfl (hG 57 (List.mem_cons_of_mem _ mw_286)) (by decide) (List.mem_cons_of_mem _ mw_37) (List.mem_cons_of_mem _ mw_283) (by decide +kernel) rfl rfl (List.mem_cons_of_mem _ mw_285) (List.mem_cons_of_mem _ mw_5) rfl) <|
  am_fa (sn_iinc (i := 1) (by decide +kernel) (by decide +kernel) (by decide) rfl) <|
  am_fa (sn_goto (off := (-35)) (by decide +kernel) (by decide)) <|
  am_fa (sn_iinc (i := 1) (by decide +kernel) (by decide +kernel) (by decide) rfl) <|
  am_fa (sn_goto (off := (-48)) (by decide +kernel) (by decide)) <|
  am_fa (sn_ret (by decide +kernel) rfl) <|
  am_f0
theorem ct_57 : ∀ x ∈ am_c57, am_snd 57 x.1 x.2 :=
  am_fa (sn_aload_n (k := 0) (by decide +kernel) rfl rfl) <|
  am_fa (sn_getP (idx := 32) (ob := am_o1) (by decide +kernel) rfl (by decide) rfl hin_1 (List.mem_cons_of_mem _ mw_186) rfl) <|
  am_fa (sn_iconst (n := 0) (by decide +kernel) (by decide +kernel) rfl) <|
  am_fa (sn_dup2 (by decide +kernel) rfl) <|
  am_fa (sn_iald (by decide +kernel) rfl rfl rfl) <|
  am_fa (sn_iconst (n := 1) (by decide +kernel) (by decide +kernel) rfl) <|
  am_fa (sn_iadd (by decide +kernel) rfl) <|
  am_fa (sn_iast (by decide +kernel) rfl rfl rfl) <|
  am_fa (sn_aload_n (k := 0) (by decide +kernel) rfl rfl) <|
  am_fa (sn_iload_n (k := 1) (by decide +kernel) rfl rfl) <|
  am_fa (sn_iload_n (k := 2) (by decide +kernel) rfl rfl) <|
  am_fa (sn_callV (idx := 159) (ob := am_o1) (by decide +kernel) rfl (hG 54 (List.mem_cons_of_mem _ mw_290)) (by decide) (List.mem_cons_of_mem _ mw_37) (List.mem_cons_of_mem _ mw_287) (by decide +kernel) rfl rfl (List.mem_cons_of_mem _ mw_289) (List.mem_cons_of_mem _ mw_6) rfl) <|
  am_fa (sn_if_eq (off := 46) (by decide +kernel) (by decide) rfl) <|
  am_fa (sn_aload_n (k := 0) (by decide +kernel) rfl rfl) <|
  am_fa (sn_getP (idx := 11) (ob := am_o1) (by decide +kernel) rfl (by decide) rfl hin_1 (List.mem_cons_of_mem _ mw_183) rfl) <|
  am_fa (sn_iload_n (k := 2) (by decide +kernel) rfl rfl) <|
  am_fa (sn_aald (by decide +kernel) rfl rfl rfl) <|
  am_fa (sn_getP (idx := 44) (ob := am_o3) (by decide +kernel) rfl (by decide) rfl hin_3 (List.mem_cons_of_mem _ mw_128) rfl) <|
  am_fa (sn_iload_n (k := 1) (by decide +kernel) rfl rfl) <|
  am_fa (sn_aald (by decide +kernel) rfl rfl rfl) <|
  am_fa (sn_astore_n (k := 3) (by decide +kernel) rfl (by decide) rfl) <|
  am_fa (sn_aload_n (k := 3) (by decide +kernel) rfl rfl) <|
  am_fa (sn_iconst (n := 1) (by decide +kernel) (by decide +kernel) rfl) <|
  am_fa (sn_putZ (idx := 88) (ob := am_o7) (by decide +kernel) rfl (by decide) rfl hin_7 (List.mem_cons_of_mem _ mw_82) am_o7_ty am_o7_nm rfl rfl rfl) <|
  am_fa (sn_aload_n (k := 3) (by decide +kernel) rfl rfl) <|
  am_fa (sn_aload_n (k := 0) (by decide +kernel) rfl rfl) <|
  am_fa (sn_getI (idx := 36) (ob := am_o1) (by decide +kernel) rfl (by decide) rfl hin_1 (List.mem_cons_of_mem _ mw_187) rfl) <|
  am_fa (sn_putI (idx := 162) (ob := am_o7) (by decide +kernel) rfl (by decide) rfl hin_7 (List.mem_cons_of_mem _ mw_86) am_o7_ty am_o7_nm rfl rfl rfl) <|
  am_fa (sn_aload_n (k := 3) (by decide +kernel) rfl rfl) <|
  am_fa (sn_aload_n (k := 0) (by decide +kernel) rfl rfl) <|
  am_fa (sn_getP (idx := 11) (ob := am_o1) (by decide +kernel) rfl (by decide) rfl hin_1 (List.mem_cons_of_mem _ mw_183) rfl) <|
  am_fa (sn_iload_n (k := 1) (by decide +kernel) rfl rfl) <|
  am_fa (sn_aald (by decide +kernel) rfl rfl rfl) <|
  am_fa (sn_getP (idx := 44) (ob := am_o3) (by decide +kernel) rfl (by decide) rfl hin_3 (List.mem_cons_of_mem _ mw_128) rfl) <|
  am_fa (sn_iload_n (k := 2) (by decide +kernel) rfl rfl) <|
  am_fa (sn_aald (by decide +kernel) rfl rfl rfl) <|
  am_fa (sn_getI (idx := 165) (ob := am_o7) (by decide +kernel) rfl (by decide) rfl hin_7 (List.mem_cons_of_mem _ mw_84) rfl) <|
  am_fa (sn_putZ (idx := 168) (ob := am_o7) (by decide +kernel) rfl (by decide) rfl hin_7 (List.mem_cons_of_mem _ mw_88) am_o7_ty am_o7_nm rfl rfl rfl) <|
  am_fa (sn_ret (by decide +kernel) rfl) <|
  am_f0
theorem ct_58 : ∀ x ∈ am_c58, am_snd 58 x.1 x.2 :=
  am_fa (sn_iconst (n := 0) (by decide +kernel) (by decide +kernel) rfl) <|
  am_fa (sn_istore_n (k := 1) (by decide +kernel) rfl (by decide) rfl) <|
  am_fa (sn_iload_n (k := 1) (by decide +kernel) rfl rfl) <|
  am_fa (sn_iconst (n := 5) (by decide +kernel) (by decide +kernel) rfl) <|
  am_fa (sn_icmp_ge (off := 40) (by decide +kernel) (by decide) rfl) <|
  am_fa (sn_iconst (n := 0) (by decide +kernel) (by decide +kernel) rfl) <|
  am_fa (sn_istore_n (k := 2) (by decide +kernel) rfl (by decide) rfl) <|
  am_fa (sn_iload_n (k := 2) (by decide +kernel) rfl rfl) <|
  am_fa (sn_iconst (n := 5) (by decide +kernel) (by decide +kernel) rfl) <|
  am_fa (sn_icmp_ge (off := 27) (by decide +kernel) (by decide) rfl) <|
  am_fa (sn_aload_n (k := 0) (by decide +kernel) rfl rfl) <|
  am_fa (sn_getP (idx := 11) (ob := am_o1) (by decide +kernel) rfl (by decide) rfl hin_1 (List.mem_cons_of_mem _ mw_183) rfl) <|
  am_fa (sn_iload_n (k := 1) (by decide +kernel) rfl rfl) <|
  am_fa (sn_aald (by decide +kernel) rfl rfl rfl) <|
  am_fa (sn_getP (idx := 44) (ob := am_o3) (by decide +kernel) rfl (by decide) rfl hin_3 (List.mem_cons_of_mem _ mw_128) rfl) <|
  am_fa (sn_iload_n (k := 2) (by decide +kernel) rfl rfl) <|
  am_fa (sn_aald (by decide +kernel) rfl rfl rfl) <|
  am_fa (sn_aload_n (k := 0) (by decide +kernel) rfl rfl) <|
  am_fa (sn_getI (idx := 36) (ob := am_o1) (by decide +kernel) rfl (by decide) rfl hin_1 (List.mem_cons_of_mem _ mw_187) rfl) <|
  am_fa (sn_callV (idx := 171) (ob := am_o7) (by decide +kernel) rfl (hG 12 (List.mem_cons_of_mem _ mw_298)) (by decide) (List.mem_cons_of_mem _ mw_39) (List.mem_cons_of_mem _ mw_295) (by decide +kernel) rfl rfl (List.mem_cons_of_mem _ mw_296) (List.mem_cons_of_mem _ mw_297) rfl) <|
  am_fa (sn_iinc (i := 1) (by decide +kernel) (by decide +kernel) (by decide) rfl) <|
  am_fa (sn_goto (off := (-26)) (by decide +kernel) (by decide)) <|
  am_fa (sn_iinc (i := 1) (by decide +kernel) (by decide +kernel) (by decide) rfl) <|
  am_fa (sn_goto (off := (-39)) (by decide +kernel) (by decide)) <|
  am_fa (sn_iconst (n := 0) (by decide +kernel) (by decide +kernel) rfl) <|
  am_fa (sn_istore_n (k := 1) (by decide +kernel) rfl (by decide) rfl) <|
  am_fa (sn_iload_n (k := 1) (by decide +kernel) rfl rfl) <|
  am_fa (sn_iconst (n := 5) (by decide +kernel) (by decide +kernel) rfl) <|
  am_fa (sn_icmp_ge (off := 68) (by decide +kernel) (by decide) rfl) <|
  am_fa (sn_iconst (n := 0) (by decide +kernel) (by decide +kernel) rfl) <|
  am_fa (sn_istore_n (k := 2) (by decide +kernel) rfl (by decide) rfl) <|
  am_fa (sn_iload_n (k := 2) (by decide +kernel) rfl rfl) <|
  am_fa (sn_iconst (n := 5) (by decide +kernel) (by decide +kernel) rfl) <|
  am_fa (sn_icmp_ge (off := 55) (by decide +kernel) (by decide) rfl) <|
  am_fa (sn_aload_n (k := 0) (by decide +kernel) rfl rfl) <|
  am_fa (sn_getP (idx := 11) (ob := am_o1) (by decide +kernel) rfl (by decide) rfl hin_1 (List.mem_cons_of_mem _ mw_183) rfl) <|
  am_fa (sn_iload_n (k := 1) (by decide +kernel) rfl rfl) <|
  am_fa (sn_aald (by decide +kernel) rfl rfl rfl) <|
  am_fa (sn_getP (idx := 44) (ob := am_o3) (by decide +kernel) rfl (by decide) rfl hin_3 (List.mem_cons_of_mem _ mw_128) rfl) <|
  am_fa (sn_iload_n (k := 2) (by decide +kernel) rfl rfl) <|
  am_fa (sn_aald (by decide +kernel) rfl rfl rfl) <|
  am_fa (sn_getI (idx := 174) (ob := am_o7) (by decide +kernel) rfl (by decide) rfl hin_7 (List.mem_cons_of_mem _ mw_93) rfl) <|
  am_fa (sn_if_eq (off := 32) (by decide +kernel) (by decide) rfl) <|
  am_fa (sn_aload_n (k := 0) (by decide +kernel) rfl rfl) <|
  am_fa (sn_iload_n (k := 1) (by decide +kernel) rfl rfl) <|
  am_fa (sn_iload_n (k := 2) (by decide +kernel) rfl rfl) <|
  am_fa (sn_callV (idx := 177) (ob := am_o1) (by decide +kernel) rfl (hG 59 (List.mem_cons_of_mem _ mw_302)) (by decide) (List.mem_cons_of_mem _ mw_37) (List.mem_cons_of_mem _ mw_299) (by decide +kernel) rfl rfl (List.mem_cons_of_mem _ mw_301) (List.mem_cons_of_mem _ mw_8) rfl) <|
  am_fa (sn_aload_n (k := 0) (by decide +kernel) rfl rfl) <|
  am_fa (sn_getP (idx := 11) (ob := am_o1) (by decide +kernel) rfl (by decide) rfl hin_1 (List.mem_cons_of_mem _ mw_183) rfl) <|
  am_fa (sn_iload_n (k := 2) (by decide +kernel) rfl rfl) <|
  am_fa (sn_aald (by decide +kernel) rfl rfl rfl) <|
  am_fa (sn_getP (idx := 44) (ob := am_o3) (by decide +kernel) rfl (by decide) rfl hin_3 (List.mem_cons_of_mem _ mw_128) rfl) <|
  am_fa (sn_iload_n (k := 1) (by decide +kernel) rfl rfl) <|
  am_fa (sn_aald (by decide +kernel) rfl rfl rfl) <|
  am_fa (sn_getI (idx := 85) (ob := am_o7) (by decide +kernel) rfl (by decide) rfl hin_7 (List.mem_cons_of_mem _ mw_90) rfl) <|
  am_fa (sn_if_eq (off := 9) (by decide +kernel) (by decide) rfl) <|
  am_fa (sn_aload_n (k := 0) (by decide +kernel) rfl rfl) <|
  am_fa (sn_iload_n (k := 2) (by decide +kernel) rfl rfl) <|
  am_fa (sn_iload_n (k := 1) (by decide +kernel) rfl rfl) <|
  am_fa (sn_callV (idx := 177) (ob := am_o1) (by decide +kernel) rfl (hG 59 (List.mem_cons_of_mem _ mw_302)) (by decide) (List.mem_cons_of_mem _ mw_37) (List.mem_cons_of_mem _ mw_299) (by decide +kernel) rfl rfl (List.mem_cons_of_mem _ mw_301) (List.mem_cons_of_mem _ mw_8) rfl) <|
  am_fa (sn_iinc (i := 1) (by decide +kernel) (by decide +kernel) (by decide) rfl) <|
  am_fa (sn_goto (off := (-54)) (by decide +kernel) (by decide)) <|
  am_fa (sn_iinc (i := 1) (by decide +kernel) (by decide +kernel) (by decide) rfl) <|
  am_fa (sn_goto (off := (-67)) (by decide +kernel) (by decide)) <|
  am_fa (sn_ret (by decide +kernel) rfl) <|
  am_f0
theorem ct_59 : ∀ x ∈ am_c59, am_snd 59 x.1 x.2 :=
  am_fa (sn_iconst (n := 0) (by decide +kernel) (by decide +kernel) rfl) <|
  am_fa (sn_istore_n (k := 3) (by decide +kernel) rfl (by decide) rfl) <|
  am_fa (sn_iload_n (k := 3) (by decide +kernel) rfl rfl) <|
  am_fa (sn_iconst (n := 5) (by decide +kernel) (by decide +kernel) rfl) <|
  am_fa (sn_icmp_ge (off := 70) (by decide +kernel) (by decide) rfl) <|
  am_fa (sn_aload_n (k := 0) (by decide +kernel) rfl rfl) <|
  am_fa (sn_getP (idx := 11) (ob := am_o1) (by decide +kernel) rfl (by decide) rfl hin_1 (List.mem_cons_of_mem _ mw_183) rfl) <|
  am_fa (sn_iload_n (k := 1) (by decide +kernel) rfl rfl) <|
  am_fa (sn_aald (by decide +kernel) rfl rfl rfl) <|
  am_fa (sn_getP (idx := 91) (ob := am_o3) (by decide +kernel) rfl (by decide) rfl hin_3 (List.mem_cons_of_mem _ mw_126) rfl) <|
  am_fa (sn_iload_n (k := 3) (by decide +kernel) rfl rfl) <|
  am_fa (sn_aald (by decide +kernel) rfl rfl rfl) <|
  am_fa (sn_astore (by decide +kernel) (by decide) rfl) <|
  am_fa (sn_aload_n (k := 0) (by decide +kernel) rfl rfl) <|
  am_fa (sn_getP (idx := 11) (ob := am_o1) (by decide +kernel) rfl (by decide) rfl hin_1 (List.mem_cons_of_mem _ mw_183) rfl) <|
  am_fa (sn_iload_n (k := 2) (by decide +kernel) rfl rfl) <|
  am_fa (sn_aald (by decide +kernel) rfl rfl rfl) <|
  am_fa (sn_getP (idx := 91) (ob := am_o3) (by decide +kernel) rfl (by decide) rfl hin_3 (List.mem_cons_of_mem _ mw_126) rfl) <|
  am_fa (sn_iload_n (k := 3) (by decide +kernel) rfl rfl) <|
  am_fa (sn_aald (by decide +kernel) rfl rfl rfl) <|
  am_fa (sn_astore (by decide +kernel) (by decide) rfl) <|
  am_fa (sn_aload (by decide +kernel) rfl) <|
  am_fa (sn_ifnull (off := 33) (by decide +kernel) (by decide) rfl) <|
  am_fa (sn_aload (by decide +kernel) rfl) <|
  am_fa (sn_ifnull (off := 13) (by decide +kernel) (by decide) rfl) <|
  am_fa (sn_aload (by decide +kernel) rfl) <|
  am_fa (sn_aload (by decide +kernel) rfl) <|
  am_fa (sn_callV (idx := 180) (ob := am_o19) (by decide +kernel) rfl (hG 5 (List.mem_cons_of_mem _ mw_306)) (by decide) (List.mem_cons_of_mem _ mw_44) (List.mem_cons_of_mem _ mw_303) (by decide +kernel) rfl rfl (List.mem_cons_of_mem _ mw_304) (List.mem_cons_of_mem _ mw_305) rfl) <|
  am_fa (sn_if_eq (off := 18) (by decide +kernel) (by decide) rfl) <|
  am_fa (sn_aload_n (k := 0) (by decide +kernel) rfl rfl) <|
  am_fa (sn_getP (idx := 11) (ob := am_o1) (by decide +kernel) rfl (by decide) rfl hin_1 (List.mem_cons_of_mem _ mw_183) rfl) <|
  am_fa (sn_iload_n (k := 1) (by decide +kernel) rfl rfl) <|
  am_fa (sn_aald (by decide +kernel) rfl rfl rfl) <|
  am_fa (sn_getP (idx := 44) (ob := am_o3) (by decide +kernel) rfl (by decide) rfl hin_3 (List.mem_cons_of_mem _ mw_128) rfl) <|
  am_fa (sn_iload_n (k := 2) (by decide +kernel) rfl rfl) <|
  am_fa (sn_aald (by decide +kernel) rfl rfl rfl) <|
  am_fa (sn_iload_n (k := 3) (by decide +kernel) rfl rfl) <|
  am_fa (sn_callV (idx := 184) (ob := am_o7) (by decide +kernel) rfl (hG 11 (List.mem_cons_of_mem _ mw_310)) (by decide) (List.mem_cons_of_mem _ mw_39) (List.mem_cons_of_mem _ mw_307) (by decide +kernel) rfl rfl (List.mem_cons_of_mem _ mw_308) (List.mem_cons_of_mem _ mw_309) rfl) <|
  am_fa (sn_iinc (i := 1) (by decide +kernel) (by decide +kernel) (by decide) rfl) <|
  am_fa (sn_goto (off := (-69)) (by decide +kernel) (by decide)) <|
  am_fa (sn_ret (by decide +kernel) rfl) <|
  am_f0
theorem ct_60 : ∀ x ∈ am_c60, am_snd 60 x.1 x.2 :=
  am_fa (sn_iconst (n := 0) (by decide +kernel) (by decide +kernel) rfl) <|
  am_fa (sn_istore_n (k := 1) (by decide +kernel) rfl (by decide) rfl) <|
  am_fa (sn_iload_n (k := 1) (by decide +kernel) rfl rfl) <|
  am_fa (sn_iconst (n := 5) (by decide +kernel) (by decide +kernel) rfl) <|
  am_fa (sn_icmp_ge (off := 60) (by decide +kernel) (by decide) rfl) <|
  am_fa (sn_aload_n (k := 0) (by decide +kernel) rfl rfl) <|
  am_fa (sn_getP (idx := 11) (ob := am_o1) (by decide +kernel) rfl (by decide) rfl hin_1 (List.mem_cons_of_mem _ mw_183) rfl) <|
  am_fa (sn_iload_n (k := 1) (by decide +kernel) rfl rfl) <|
  am_fa (sn_aald (by decide +kernel) rfl rfl rfl) <|
  am_fa (sn_getI (idx := 69) (ob := am_o3) (by decide +kernel) rfl (by decide) rfl hin_3 (List.mem_cons_of_mem _ mw_119) rfl) <|
  am_fa (sn_if_eq (off := 42) (by decide +kernel) (by decide) rfl) <|
  am_fa (sn_aload_n (k := 0) (by decide +kernel) rfl rfl) <|
  am_fa (sn_getP (idx := 11) (ob := am_o1) (by decide +kernel) rfl (by decide) rfl hin_1 (List.mem_cons_of_mem _ mw_183) rfl) <|
  am_fa (sn_iload_n (k := 1) (by decide +kernel) rfl rfl) <|
  am_fa (sn_aald (by decide +kernel) rfl rfl rfl) <|
  am_fa (sn_aload_n (k := 0) (by decide +kernel) rfl rfl) <|
  am_fa (sn_getI (idx := 36) (ob := am_o1) (by decide +kernel) rfl (by decide) rfl hin_1 (List.mem_cons_of_mem _ mw_187) rfl) <|
  am_fa (sn_callV (idx := 187) (ob := am_o3) (by decide +kernel) rfl (hG 18 (List.mem_cons_of_mem _ mw_318)) (by decide) (List.mem_cons_of_mem _ mw_38) (List.mem_cons_of_mem _ mw_315) (by decide +kernel) rfl rfl (List.mem_cons_of_mem _ mw_316) (List.mem_cons_of_mem _ mw_317) rfl) <|
  am_fa (sn_if_eq (off := 26) (by decide +kernel) (by decide) rfl) <|
  am_fa (sn_aload_n (k := 0) (by decide +kernel) rfl rfl) <|
  am_fa (sn_getP (idx := 11) (ob := am_o1) (by decide +kernel) rfl (by decide) rfl hin_1 (List.mem_cons_of_mem _ mw_183) rfl) <|
  am_fa (sn_iload_n (k := 1) (by decide +kernel) rfl rfl) <|
  am_fa (sn_aald (by decide +kernel) rfl rfl rfl) <|
  am_fa (sn_aload_n (k := 0) (by decide +kernel) rfl rfl) <|
  am_fa (sn_getI (idx := 36) (ob := am_o1) (by decide +kernel) rfl (by decide) rfl hin_1 (List.mem_cons_of_mem _ mw_187) rfl) <|
  am_fa (sn_callV (idx := 190) (ob := am_o3) (by decide +kernel) rfl (hG 20 (List.mem_cons_of_mem _ mw_333)) (by decide) (List.mem_cons_of_mem _ mw_38) (List.mem_cons_of_mem _ mw_330) (by decide +kernel) rfl rfl (List.mem_cons_of_mem _ mw_331) (List.mem_cons_of_mem _ mw_332) rfl) <|
  am_fa (sn_aload_n (k := 0) (by decide +kernel) rfl rfl) <|
  am_fa (sn_getP (idx := 32) (ob := am_o1) (by decide +kernel) rfl (by decide) rfl hin_1 (List.mem_cons_of_mem _ mw_186) rfl) <|
  am_fa (sn_iconst (n := 5) (by decide +kernel) (by decide +kernel) rfl) <|
  am_fa (sn_dup2 (by decide +kernel) rfl) <|
  am_fa (sn_iald (by decide +kernel) rfl rfl rfl) <|
  am_fa (sn_iconst (n := 1) (by decide +kernel) (by decide +kernel) rfl) <|
  am_fa (sn_iadd (by decide +kernel) rfl) <|
  am_fa (sn_iast (by decide +kernel) rfl rfl rfl) <|
  am_fa (sn_iinc (i := 1) (by decide +kernel) (by decide +kernel) (by decide) rfl) <|
  am_fa (sn_goto (off := (-59)) (by decide +kernel) (by decide)) <|
  am_fa (sn_ret (by decide +kernel) rfl) <|
  am_f0
theorem ct_61 : ∀ x ∈ am_c61, am_snd 61 x.1 x.2 :=
  am_fa (sn_iconst (n := 0) (by decide +kernel) (by decide +kernel) rfl) <|
  am_fa (sn_istore_n (k := 1) (by decide +kernel) rfl (by decide) rfl) <|
  am_fa (sn_iload_n (k := 1) (by decide +kernel) rfl rfl) <|
  am_fa (sn_iconst (n := 5) (by decide +kernel) (by decide +kernel) rfl) <|
  am_fa (sn_icmp_ge (off := 107) (by decide +kernel) (by decide) rfl) <|
  am_fa (sn_iconst (n := 0) (by decide +kernel) (by decide +kernel) rfl) <|
  am_fa (sn_istore_n (k := 2) (by decide +kernel) rfl (by decide) rfl) <|
  am_fa (sn_iload_n (k := 2) (by decide +kernel) rfl rfl) <|
  am_fa (sn_iconst (n := 5) (by decide +kernel) (by decide +kernel) rfl) <|
  am_fa (sn_icmp_ge (off := 94) (by decide +kernel) (by decide) rfl) <|
  am_fa (sn_aload_n (k := 0) (by decide +kernel) rfl rfl) <|
  am_fa (sn_getP (idx := 20) (ob := am_o1) (by decide +kernel) rfl (by decide) rfl hin_1 (List.mem_cons_of_mem _ mw_184) rfl) <|
  am_fa (sn_iload_n (k := 1) (by decide +kernel) rfl rfl) <|
  am_fa (sn_iconst (n := 5) (by decide +kernel) (by decide +kernel) rfl) <|
  am_fa (sn_imul (by decide +kernel) rfl) <|
  am_fa (sn_iload_n (k := 2) (by decide +kernel) rfl rfl) <|
  am_fa (sn_iadd (by decide +kernel) rfl) <|
  am_fa (sn_aald (by decide +kernel) rfl rfl rfl) <|
  am_fa (sn_astore_n (k := 3) (by decide +kernel) rfl (by decide) rfl) <|
  am_fa (sn_aload_n (k := 3) (by decide +kernel) rfl rfl) <|
  am_fa (sn_aload_n (k := 0) (by decide +kernel) rfl rfl) <|
  am_fa (sn_getP (idx := 11) (ob := am_o1) (by decide +kernel) rfl (by decide) rfl hin_1 (List.mem_cons_of_mem _ mw_183) rfl) <|
  am_fa (sn_iload_n (k := 1) (by decide +kernel) rfl rfl) <|
  am_fa (sn_aald (by decide +kernel) rfl rfl rfl) <|
  am_fa (sn_getP (idx := 91) (ob := am_o3) (by decide +kernel) rfl (by decide) rfl hin_3 (List.mem_cons_of_mem _ mw_126) rfl) <|
  am_fa (sn_aload_n (k := 0) (by decide +kernel) rfl rfl) <|
  am_fa (sn_getP (idx := 11) (ob := am_o1) (by decide +kernel) rfl (by decide) rfl hin_1 (List.mem_cons_of_mem _ mw_183) rfl) <|
  am_fa (sn_iload_n (k := 1) (by decide +kernel) rfl rfl) <|
  am_fa (sn_aald (by decide +kernel) rfl rfl rfl) <|
  am_fa (sn_getP (idx := 44) (ob := am_o3) (by decide +kernel) rfl (by decide) rfl hin_3 (List.mem_cons_of_mem _ mw_128) rfl) <|
  am_fa (sn_iload_n (k := 2) (by decide +kernel) rfl rfl) <|
  am_fa (sn_aald (by decide +kernel) rfl rfl rfl) <|
  am_fa (sn_getP (idx := 106) (ob := am_o7) (by decide +kernel) rfl (by decide) rfl hin_7 (List.mem_cons_of_mem _ mw_96) rfl) <|
  am_fa (sn_aload_n (k := 0) (by decide +kernel) rfl rfl) <|
  am_fa (sn_getI (idx := 36) (ob := am_o1) (by decide +kernel) rfl (by decide) rfl hin_1 (List.mem_cons_of_mem _ mw_187) rfl) <|
  am_fa (sn_callV (idx := 193) (ob := am_o10) (by decide +kernel) rfl (hG 24 (List.mem_cons_of_mem _ mw_378)) (by decide) (List.mem_cons_of_mem _ mw_40) (List.mem_cons_of_mem _ mw_375) (by decide +kernel) rfl rfl (List.mem_cons_of_mem _ mw_376) (List.mem_cons_of_mem _ mw_377) rfl) <|
  am_fa (sn_istore (by decide +kernel) (by decide) rfl) <|
  am_fa (sn_aload_n (k := 3) (by decide +kernel) rfl rfl) <|
  am_fa (sn_iconst (n := 0) (by decide +kernel) (by decide +kernel) rfl) <|
  am_fa (sn_putZ (idx := 197) (ob := am_o10) (by decide +kernel) rfl (by decide) rfl hin_10 (List.mem_cons_of_mem _ mw_154) am_o10_ty am_o10_nm rfl rfl rfl) <|
  am_fa (sn_iload (by decide +kernel) rfl) <|
  am_fa (sn_if_le (off := 34) (by decide +kernel) (by decide) rfl) <|
  am_fa (sn_aload_n (k := 0) (by decide +kernel) rfl rfl) <|
  am_fa (sn_getP (idx := 32) (ob := am_o1) (by decide +kernel) rfl (by decide) rfl hin_1 (List.mem_cons_of_mem _ mw_186) rfl) <|
  am_fa (sn_iconst (n := 1) (by decide +kernel) (by decide +kernel) rfl) <|
  am_fa (sn_dup2 (by decide +kernel) rfl) <|
  am_fa (sn_iald (by decide +kernel) rfl rfl rfl) <|
  am_fa (sn_iconst (n := 1) (by decide +kernel) (by decide +kernel) rfl) <|
  am_fa (sn_iadd (by decide +kernel) rfl) <|
  am_fa (sn_iast (by decide +kernel) rfl rfl rfl) <|
  am_fa (sn_aload_n (k := 0) (by decide +kernel) rfl rfl) <|
  am_fa (sn_getP (idx := 32) (ob := am_o1) (by decide +kernel) rfl (by decide) rfl hin_1 (List.mem_cons_of_mem _ mw_186) rfl) <|
  am_fa (sn_iconst (n := 2) (by decide +kernel) (by decide +kernel) rfl) <|
  am_fa (sn_dup2 (by decide +kernel) rfl) <|
  am_fa (sn_iald (by decide +kernel) rfl rfl rfl) <|
  am_fa (sn_iload (by decide +kernel) rfl) <|
  am_fa (sn_iadd (by decide +kernel) rfl) <|
  am_fa (sn_iast (by decide +kernel) rfl rfl rfl) <|
  am_fa (sn_aload_n (k := 3) (by decide +kernel) rfl rfl) <|
  am_fa (sn_aload_n (k := 0) (by decide +kernel) rfl rfl) <|
  am_fa (sn_iload_n (k := 1) (by decide +kernel) rfl rfl) <|
  am_fa (sn_iload_n (k := 2) (by decide +kernel) rfl rfl) <|
  am_fa (sn_callV (idx := 159) (ob := am_o1) (by decide +kernel) rfl (hG 54 (List.mem_cons_of_mem _ mw_290)) (by decide) (List.mem_cons_of_mem _ mw_37) (List.mem_cons_of_mem _ mw_287) (by decide +kernel) rfl rfl (List.mem_cons_of_mem _ mw_289) (List.mem_cons_of_mem _ mw_6) rfl) <|
  am_fa (sn_putZ (idx := 197) (ob := am_o10) (by decide +kernel) rfl (by decide) rfl hin_10 (List.mem_cons_of_mem _ mw_154) am_o10_ty am_o10_nm rfl rfl rfl) <|
  am_fa (sn_iinc (i := 1) (by decide +kernel) (by decide +kernel) (by decide) rfl) <|
  am_fa (sn_goto (off := (-93)) (by decide +kernel) (by decide)) <|
  am_fa (sn_iinc (i := 1) (by decide +kernel) (by decide +kernel) (by decide) rfl) <|
  am_fa (sn_goto (off := (-106)) (by decide +kernel) (by decide)) <|
  am_fa (sn_ret (by decide +kernel) rfl) <|
  am_f0
theorem ct_62 : ∀ x ∈ am_c62, am_snd 62 x.1 x.2 :=
  am_fa (sn_iconst (n := 0) (by decide +kernel) (by decide +kernel) rfl) <|
  am_fa (sn_istore_n (k := 1) (by decide +kernel) rfl (by decide) rfl) <|
  am_fa (sn_iload_n (k := 1) (by decide +kernel) rfl rfl) <|
  am_fa (sn_iconst (n := 5) (by decide +kernel) (by decide +kernel) rfl) <|
  am_fa (sn_icmp_ge (off := 64) (by decide +kernel) (by decide) rfl) <|
  am_fa (sn_iconst (n := 0) (by decide +kernel) (by decide +kernel) rfl) <|
  am_fa (sn_istore_n (k := 2) (by decide +kernel) rfl (by decide) rfl) <|
  am_fa (sn_iload_n (k := 2) (by decide +kernel) rfl rfl) <|
  am_fa (sn_iconst (n := 5) (by decide +kernel) (by decide +kernel) rfl) <|
  am_fa (sn_icmp_ge (off := 51) (by decide +kernel) (by decide) rfl) <|
  am_fa (sn_aload_n (k := 0) (by decide +kernel) rfl rfl) <|
  am_fa (sn_getP (idx := 20) (ob := am_o1) (by decide +kernel) rfl (by decide) rfl hin_1 (List.mem_cons_of_mem _ mw_184) rfl) <|
  am_fa (sn_iload_n (k := 1) (by decide +kernel) rfl rfl) <|
  am_fa (sn_iconst (n := 5) (by decide +kernel) (by decide +kernel) rfl) <|
  am_fa (sn_imul (by decide +kernel) rfl) <|
  am_fa (sn_iload_n (k := 2) (by decide +kernel) rfl rfl) <|
  am_fa (sn_iadd (by decide +kernel) rfl) <|
  am_fa (sn_aald (by decide +kernel) rfl rfl rfl) <|
  am_fa (sn_astore_n (k := 3) (by decide +kernel) rfl (by decide) rfl) <|
  am_fa (sn_aload_n (k := 3) (by decide +kernel) rfl rfl) <|
  am_fa (sn_getI (idx := 197) (ob := am_o10) (by decide +kernel) rfl (by decide) rfl hin_10 (List.mem_cons_of_mem _ mw_154) rfl) <|
  am_fa (sn_if_eq (off := 27) (by decide +kernel) (by decide) rfl) <|
  am_fa (sn_aload_n (k := 0) (by decide +kernel) rfl rfl) <|
  am_fa (sn_getP (idx := 11) (ob := am_o1) (by decide +kernel) rfl (by decide) rfl hin_1 (List.mem_cons_of_mem _ mw_183) rfl) <|
  am_fa (sn_iload_n (k := 2) (by decide +kernel) rfl rfl) <|
  am_fa (sn_aald (by decide +kernel) rfl rfl rfl) <|
  am_fa (sn_getP (idx := 44) (ob := am_o3) (by decide +kernel) rfl (by decide) rfl hin_3 (List.mem_cons_of_mem _ mw_128) rfl) <|
  am_fa (sn_iload_n (k := 1) (by decide +kernel) rfl rfl) <|
  am_fa (sn_aald (by decide +kernel) rfl rfl rfl) <|
  am_fa (sn_getI (idx := 85) (ob := am_o7) (by decide +kernel) rfl (by decide) rfl hin_7 (List.mem_cons_of_mem _ mw_90) rfl) <|
  am_fa (sn_if_eq (off := 10) (by decide +kernel) (by decide) rfl) <|
  am_fa (sn_aload_n (k := 0) (by decide +kernel) rfl rfl) <|
  am_fa (sn_aload_n (k := 3) (by decide +kernel) rfl rfl) <|
  am_fa (sn_iload_n (k := 1) (by decide +kernel) rfl rfl) <|
  am_fa (sn_iload_n (k := 2) (by decide +kernel) rfl rfl) <|
  am_fa (sn_callV (idx := 200) (ob := am_o1) (by decide +kernel) rfl (hG 63 (List.mem_cons_of_mem _ mw_389)) (by decide) (List.mem_cons_of_mem _ mw_37) (List.mem_cons_of_mem _ mw_386) (by decide +kernel) rfl rfl (List.mem_cons_of_mem _ mw_388) (List.mem_cons_of_mem _ mw_13) rfl) <|
  am_fa (sn_iinc (i := 1) (by decide +kernel) (by decide +kernel) (by decide) rfl) <|
  am_fa (sn_goto (off := (-50)) (by decide +kernel) (by decide)) <|
  am_fa (sn_iinc (i := 1) (by decide +kernel) (by decide +kernel) (by decide) rfl) <|
  am_fa (sn_goto (off := (-63)) (by decide +kernel) (by decide)) <|
  am_fa (sn_ret (by decide +kernel) rfl) <|
  am_f0
theorem ct_63 : ∀ x ∈ am_c63, am_snd 63 x.1 x.2 :=
  am_fa (sn_iconst (n := 0) (by decide +kernel) (by decide +kernel) rfl) <|
  am_fa (sn_istore (by decide +kernel) (by decide) rfl) <|
  am_fa (sn_iconst (n := 0) (by decide +kernel) (by decide +kernel) rfl) <|
  am_fa (sn_istore (by decide +kernel) (by decide) rfl) <|
  am_fa (sn_iload (by decide +kernel) rfl) <|
  am_fa (sn_iconst (n := 5) (by decide +kernel) (by decide +kernel) rfl) <|
  am_fa (sn_icmp_ge (off := 45) (by decide +kernel) (by decide) rfl) <|
  am_fa (sn_aload_n (k := 1) (by decide +kernel) rfl rfl) <|
  am_fa (sn_getP (idx := 204) (ob := am_o10) (by decide +kernel) rfl (by decide) rfl hin_10 (List.mem_cons_of_mem _ mw_156) rfl) <|
  am_fa (sn_iload (by decide +kernel) rfl) <|
  am_fa (sn_aald (by decide +kernel) rfl rfl rfl) <|
  am_fa (sn_astore (by decide +kernel) (by decide) rfl) <|
  am_fa (sn_aload (by decide +kernel) rfl) <|
  am_fa (sn_ifnull (off := 25) (by decide +kernel) (by decide) rfl) <|
  am_fa (sn_aload_n (k := 0) (by decide +kernel) rfl rfl) <|
  am_fa (sn_aload (by decide +kernel) rfl) <|
  am_fa (sn_iload_n (k := 2) (by decide +kernel) rfl rfl) <|
  am_fa (sn_iload_n (k := 3) (by decide +kernel) rfl rfl) <|
  am_fa (sn_callV (idx := 207) (ob := am_o1) (by decide +kernel) rfl (hG 64 (List.mem_cons_of_mem _ mw_393)) (by decide) (List.mem_cons_of_mem _ mw_37) (List.mem_cons_of_mem _ mw_390) (by decide +kernel) rfl rfl (List.mem_cons_of_mem _ mw_392) (List.mem_cons_of_mem _ mw_14) rfl) <|
  am_fa (sn_if_eq (off := 14) (by decide +kernel) (by decide) rfl) <|
  am_fa (sn_aload_n (k := 1) (by decide +kernel) rfl rfl) <|
  am_fa (sn_getP (idx := 211) (ob := am_o10) (by decide +kernel) rfl (by decide) rfl hin_10 (List.mem_cons_of_mem _ mw_158) rfl) <|
  am_fa (sn_iload (by decide +kernel) rfl) <|
  am_fa (sn_iconst (n := 1) (by decide +kernel) (by decide +kernel) rfl) <|
  am_fa (sn_zast (by decide +kernel) rfl rfl rfl) <|
  am_fa (sn_iconst (n := 1) (by decide +kernel) (by decide +kernel) rfl) <|
  am_fa (sn_istore (by decide +kernel) (by decide) rfl) <|
  am_fa (sn_iinc (i := 1) (by decide +kernel) (by decide +kernel) (by decide) rfl) <|
  am_fa (sn_goto (off := (-45)) (by decide +kernel) (by decide)) <|
  am_fa (sn_iload (by decide +kernel) rfl) <|
  am_fa (sn_if_eq (off := 10) (by decide +kernel) (by decide) rfl) <|
  am_fa (sn_aload_n (k := 0) (by decide +kernel) rfl rfl) <|
  am_fa (sn_aload_n (k := 1) (by decide +kernel) rfl rfl) <|
  am_fa (sn_iload_n (k := 2) (by decide +kernel) rfl rfl) <|
  am_fa (sn_iload_n (k := 3) (by decide +kernel) rfl rfl) <|
  am_fa (sn_callV (idx := 215) (ob := am_o1) (by decide +kernel) rfl (hG 65 (List.mem_cons_of_mem _ mw_405)) (by decide) (List.mem_cons_of_mem _ mw_37) (List.mem_cons_of_mem _ mw_402) (by decide +kernel) rfl rfl (List.mem_cons_of_mem _ mw_404) (List.mem_cons_of_mem _ mw_15) rfl) <|
  am_fa (sn_ret (by decide +kernel) rfl) <|
  am_f0
theorem ct_64 : ∀ x ∈ am_c64, am_snd 64 x.1 x.2 :=
  am_fa (sn_aload_n (k := 0) (by decide +kernel) rfl rfl) <|
  am_fa (sn_getP (idx := 11) (ob := am_o1) (by decide +kernel) rfl (by decide) rfl hin_1 (List.mem_cons_of_mem _ mw_183) rfl) <|
  am_fa (sn_iload_n (k := 3) (by decide +kernel) rfl rfl) <|
  am_fa (sn_aald (by decide +kernel) rfl rfl rfl) <|
  am_fa (sn_astore (by decide +kernel) (by decide) rfl) <|
  am_fa (sn_aload_n (k := 1) (by decide +kernel) rfl rfl) <|
  am_fa (sn_getI (idx := 218) (ob := am_o19) (by decide +kernel) rfl (by decide) rfl hin_19 (List.mem_cons_of_mem _ mw_343) rfl) <|
  am_fa (sn_istore (by decide +kernel) (by decide) rfl) <|
  am_fa (sn_aload (by decide +kernel) rfl) <|
  am_fa (sn_getP (idx := 91) (ob := am_o3) (by decide +kernel) rfl (by decide) rfl hin_3 (List.mem_cons_of_mem _ mw_126) rfl) <|
  am_fa (sn_iload (by decide +kernel) rfl) <|
  am_fa (sn_aald (by decide +kernel) rfl rfl rfl) <|
  am_fa (sn_astore (by decide +kernel) (by decide) rfl) <|
  am_fa (sn_aload (by decide +kernel) rfl) <|
  am_fa (sn_ifnull (off := 12) (by decide +kernel) (by decide) rfl) <|
  am_fa (sn_aload_n (k := 1) (by decide +kernel) rfl rfl) <|
  am_fa (sn_aload (by decide +kernel) rfl) <|
  am_fa (sn_callV (idx := 180) (ob := am_o19) (by decide +kernel) rfl (hG 5 (List.mem_cons_of_mem _ mw_306)) (by decide) (List.mem_cons_of_mem _ mw_44) (List.mem_cons_of_mem _ mw_303) (by decide +kernel) rfl rfl (List.mem_cons_of_mem _ mw_304) (List.mem_cons_of_mem _ mw_305) rfl) <|
  am_fa (sn_if_eq (off := 41) (by decide +kernel) (by decide) rfl) <|
  am_fa (sn_iload (by decide +kernel) rfl) <|
  am_fa (sn_iload_n (k := 3) (by decide +kernel) rfl rfl) <|
  am_fa (sn_icmp_ne (off := 15) (by decide +kernel) (by decide) rfl) <|
  am_fa (sn_aload (by decide +kernel) rfl) <|
  am_fa (sn_aload_n (k := 1) (by decide +kernel) rfl rfl) <|
  am_fa (sn_getI (idx := 95) (ob := am_o19) (by decide +kernel) rfl (by decide) rfl hin_19 (List.mem_cons_of_mem _ mw_345) rfl) <|
  am_fa (sn_callV (idx := 221) (ob := am_o3) (by decide +kernel) rfl (hG 22 (List.mem_cons_of_mem _ mw_397)) (by decide) (List.mem_cons_of_mem _ mw_38) (List.mem_cons_of_mem _ mw_394) (by decide +kernel) rfl rfl (List.mem_cons_of_mem _ mw_395) (List.mem_cons_of_mem _ mw_396) rfl) <|
  am_fa (sn_goto (off := 21) (by decide +kernel) (by decide)) <|
  am_fa (sn_aload (by decide +kernel) rfl) <|
  am_fa (sn_aload_n (k := 1) (by decide +kernel) rfl rfl) <|
  am_fa (sn_iload_n (k := 2) (by decide +kernel) rfl rfl) <|
  am_fa (sn_callV (idx := 224) (ob := am_o3) (by decide +kernel) rfl (hG 21 (List.mem_cons_of_mem _ mw_370)) (by decide) (List.mem_cons_of_mem _ mw_38) (List.mem_cons_of_mem _ mw_401) (by decide +kernel) rfl rfl (List.mem_cons_of_mem _ mw_368) (List.mem_cons_of_mem _ mw_369) rfl) <|
  am_fa (sn_aload_n (k := 0) (by decide +kernel) rfl rfl) <|
  am_fa (sn_getP (idx := 32) (ob := am_o1) (by decide +kernel) rfl (by decide) rfl hin_1 (List.mem_cons_of_mem _ mw_186) rfl) <|
  am_fa (sn_bipush (n := 6) (by decide +kernel) (by decide +kernel) rfl) <|
  am_fa (sn_dup2 (by decide +kernel) rfl) <|
  am_fa (sn_iald (by decide +kernel) rfl rfl rfl) <|
  am_fa (sn_iconst (n := 1) (by decide +kernel) (by decide +kernel) rfl) <|
  am_fa (sn_iadd (by decide +kernel) rfl) <|
  am_fa (sn_iast (by decide +kernel) rfl rfl rfl) <|
  am_fa (sn_iconst (n := 1) (by decide +kernel) (by decide +kernel) rfl) <|
  am_fa (sn_zret (by decide +kernel) rfl) <|
  am_fa (sn_aload (by decide +kernel) rfl) <|
  am_fa (sn_aload_n (k := 1) (by decide +kernel) rfl rfl) <|
  am_fa (sn_callV (idx := 180) (ob := am_o19) (by decide +kernel) rfl (hG 5 (List.mem_cons_of_mem _ mw_306)) (by decide) (List.mem_cons_of_mem _ mw_44) (List.mem_cons_of_mem _ mw_303) (by decide +kernel) rfl rfl (List.mem_cons_of_mem _ mw_304) (List.mem_cons_of_mem _ mw_305) rfl) <|
  am_fa (sn_if_eq (off := 17) (by decide +kernel) (by decide) rfl) <|
  am_fa (sn_aload (by decide +kernel) rfl) <|
  am_fa (sn_getP (idx := 44) (ob := am_o3) (by decide +kernel) rfl (by decide) rfl hin_3 (List.mem_cons_of_mem _ mw_128) rfl) <|
  am_fa (sn_iload_n (k := 2) (by decide +kernel) rfl rfl) <|
  am_fa (sn_aald (by decide +kernel) rfl rfl rfl) <|
  am_fa (sn_iload (by decide +kernel) rfl) <|
  am_fa (sn_callV (idx := 184) (ob := am_o7) (by decide +kernel) rfl (hG 11 (List.mem_cons_of_mem _ mw_310)) (by decide) (List.mem_cons_of_mem _ mw_39) (List.mem_cons_of_mem _ mw_307) (by decide +kernel) rfl rfl (List.mem_cons_of_mem _ mw_308) (List.mem_cons_of_mem _ mw_309) rfl) <|
  am_fa (sn_iconst (n := 0) (by decide +kernel) (by decide +kernel) rfl) <|
  am_fa (sn_zret (by decide +kernel) rfl) <|
  am_fa (sn_aload (by decide +kernel) rfl) <|
  am_fa (sn_getP (idx := 44) (ob := am_o3) (by decide +kernel) rfl (by decide) rfl hin_3 (List.mem_cons_of_mem _ mw_128) rfl) <|
  am_fa (sn_iload_n (k := 2) (by decide +kernel) rfl rfl) <|
  am_fa (sn_aald (by decide +kernel) rfl rfl rfl) <|
  am_fa (sn_getP (idx := 106) (ob := am_o7) (by decide +kernel) rfl (by decide) rfl hin_7 (List.mem_cons_of_mem _ mw_96) rfl) <|
  am_fa (sn_iload (by decide +kernel) rfl) <|
  am_fa (sn_bipush (n := (-2)) (by decide +kernel) (by decide +kernel) rfl) <|
  am_fa (sn_iast (by decide +kernel) rfl rfl rfl) <|
  am_fa (sn_iconst (n := 1) (by decide +kernel) (by decide +kernel) rfl) <|
  am_fa (sn_zret (by decide +kernel) rfl) <|
  am_f0
theorem ct_65 : ∀ x ∈ am_c65, am_snd 65 x.1 x.2 :=
  am_fa (sn_aload_n (k := 0) (by decide +kernel) rfl rfl) <|
  am_fa (sn_getP (idx := 32) (ob := am_o1) (by decide +kernel) rfl (by decide) rfl hin_1 (List.mem_cons_of_mem _ mw_186) rfl) <|
  am_fa (sn_iconst (n := 3) (by decide +kernel) (by decide +kernel) rfl) <|
  am_fa (sn_dup2 (by decide +kernel) rfl) <|
  am_fa (sn_iald (by decide +kernel) rfl rfl rfl) <|
  am_fa (sn_iconst (n := 1) (by decide +kernel) (by decide +kernel) rfl) <|
  am_fa (sn_iadd (by decide +kernel) rfl) <|
  am_fa (sn_iast (by decide +kernel) rfl rfl rfl) <|
  am_fa (sn_aload_n (k := 0) (by decide +kernel) rfl rfl) <|
  am_fa (sn_iload_n (k := 3) (by decide +kernel) rfl rfl) <|
  am_fa (sn_iload_n (k := 2) (by decide +kernel) rfl rfl) <|
  am_fa (sn_callV (idx := 159) (ob := am_o1) (by decide +kernel) rfl (hG 54 (List.mem_cons_of_mem _ mw_290)) (by decide) (List.mem_cons_of_mem _ mw_37) (List.mem_cons_of_mem _ mw_287) (by decide +kernel) rfl rfl (List.mem_cons_of_mem _ mw_289) (List.mem_cons_of_mem _ mw_6) rfl) <|
  am_fa (sn_if_ne (off := 4) (by decide +kernel) (by decide) rfl) <|
  am_fa (sn_ret (by decide +kernel) rfl) <|
  am_fa (sn_iconst (n := 0) (by decide +kernel) (by decide +kernel) rfl) <|
  am_fa (sn_istore (by decide +kernel) (by decide) rfl) <|
  am_fa (sn_iload (by decide +kernel) rfl) <|
  am_fa (sn_iconst (n := 5) (by decide +kernel) (by decide +kernel) rfl) <|
  am_fa (sn_icmp_ge (off := 81) (by decide +kernel) (by decide) rfl) <|
  am_fa (sn_aload_n (k := 0) (by decide +kernel) rfl rfl) <|
  am_fa (sn_getP (idx := 11) (ob := am_o1) (by decide +kernel) rfl (by decide) rfl hin_1 (List.mem_cons_of_mem _ mw_183) rfl) <|
  am_fa (sn_iload_n (k := 2) (by decide +kernel) rfl rfl) <|
  am_fa (sn_aald (by decide +kernel) rfl rfl rfl) <|
  am_fa (sn_getP (idx := 91) (ob := am_o3) (by decide +kernel) rfl (by decide) rfl hin_3 (List.mem_cons_of_mem _ mw_126) rfl) <|
  am_fa (sn_iload (by decide +kernel) rfl) <|
  am_fa (sn_aald (by decide +kernel) rfl rfl rfl) <|
  am_fa (sn_astore (by decide +kernel) (by decide) rfl) <|
  am_fa (sn_aload_n (k := 1) (by decide +kernel) rfl rfl) <|
  am_fa (sn_getP (idx := 204) (ob := am_o10) (by decide +kernel) rfl (by decide) rfl hin_10 (List.mem_cons_of_mem _ mw_156) rfl) <|
  am_fa (sn_iload (by decide +kernel) rfl) <|
  am_fa (sn_aald (by decide +kernel) rfl rfl rfl) <|
  am_fa (sn_astore (by decide +kernel) (by decide) rfl) <|
  am_fa (sn_aload_n (k := 1) (by decide +kernel) rfl rfl) <|
  am_fa (sn_getP (idx := 211) (ob := am_o10) (by decide +kernel) rfl (by decide) rfl hin_10 (List.mem_cons_of_mem _ mw_158) rfl) <|
  am_fa (sn_iload (by decide +kernel) rfl) <|
  am_fa (sn_zald (by decide +kernel) rfl rfl rfl) <|
  am_fa (sn_if_eq (off := 42) (by decide +kernel) (by decide) rfl) <|
  am_fa (sn_aload (by decide +kernel) rfl) <|
  am_fa (sn_ifnull (off := 37) (by decide +kernel) (by decide) rfl) <|
  am_fa (sn_aload (by decide +kernel) rfl) <|
  am_fa (sn_ifnull (off := 32) (by decide +kernel) (by decide) rfl) <|
  am_fa (sn_aload (by decide +kernel) rfl) <|
  am_fa (sn_aload (by decide +kernel) rfl) <|
  am_fa (sn_callV (idx := 228) (ob := am_o19) (by decide +kernel) rfl (hG 6 (List.mem_cons_of_mem _ mw_409)) (by decide) (List.mem_cons_of_mem _ mw_44) (List.mem_cons_of_mem _ mw_406) (by decide +kernel) rfl rfl (List.mem_cons_of_mem _ mw_407) (List.mem_cons_of_mem _ mw_408) rfl) <|
  am_fa (sn_if_eq (off := 22) (by decide +kernel) (by decide) rfl) <|
  am_fa (sn_aload_n (k := 0) (by decide +kernel) rfl rfl) <|
  am_fa (sn_getP (idx := 11) (ob := am_o1) (by decide +kernel) rfl (by decide) rfl hin_1 (List.mem_cons_of_mem _ mw_183) rfl) <|
  am_fa (sn_iload_n (k := 2) (by decide +kernel) rfl rfl) <|
  am_fa (sn_aald (by decide +kernel) rfl rfl rfl) <|
  am_fa (sn_getP (idx := 44) (ob := am_o3) (by decide +kernel) rfl (by decide) rfl hin_3 (List.mem_cons_of_mem _ mw_128) rfl) <|
  am_fa (sn_iload_n (k := 3) (by decide +kernel) rfl rfl) <|
  am_fa (sn_aald (by decide +kernel) rfl rfl rfl) <|
  am_fa (sn_getP (idx := 106) (ob := am_o7) (by decide +kernel) rfl (by decide) rfl hin_7 (List.mem_cons_of_mem _ mw_96) rfl) <|
  am_fa (sn_iload (by decide +kernel) rfl) <|
  am_fa (sn_bipush (n := (-2)) (by decide +kernel) (by decide +kernel) rfl) <|
  am_fa (sn_iast (by decide +kernel) rfl rfl rfl) <|
  am_fa (sn_iinc (i := 1) (by decide +kernel) (by decide +kernel) (by decide) rfl) <|
  am_fa (sn_goto (off := (-81)) (by decide +kernel) (by decide)) <|
  am_fa (sn_ret (by decide +kernel) rfl) <|
  am_f0
theorem ct_66 : ∀ x ∈ am_c66, am_snd 66 x.1 x.2 :=
  am_fa (sn_aload_n (k := 0) (by decide +kernel) rfl rfl) <|
  am_fa (sn_oinit (idx := 1) (by decide +kernel) (List.mem_cons_of_mem _ mw_482) (List.mem_cons_of_mem _ mw_52) (List.mem_cons_of_mem _ mw_53) rfl) <|
  am_fa (sn_aload_n (k := 0) (by decide +kernel) rfl rfl) <|
  am_fa (sn_iconst (n := 5) (by decide +kernel) (by decide +kernel) rfl) <|
  am_fa (sn_newa (at9 := .boolean) (by decide +kernel) rfl rfl (by decide) (by decide) (by decide) (List.mem_cons_of_mem _ mw_166) rfl) <|
  am_fa (sn_putP (idx := 7) (ob := am_o50) (by decide +kernel) rfl (by decide) rfl hin_50 (List.mem_cons_of_mem _ mw_484) am_o50_ty am_o50_nm rfl rfl) <|
  am_fa (sn_aload_n (k := 0) (by decide +kernel) rfl rfl) <|
  am_fa (sn_bipush (n := 25) (by decide +kernel) (by decide +kernel) rfl) <|
  am_fa (sn_newa (at9 := .int) (by decide +kernel) rfl rfl (by decide) (by decide) (by decide) (List.mem_cons_of_mem _ mw_116) rfl) <|
  am_fa (sn_putP (idx := 13) (ob := am_o50) (by decide +kernel) rfl (by decide) rfl hin_50 (List.mem_cons_of_mem _ mw_485) am_o50_ty am_o50_nm rfl rfl) <|
  am_fa (sn_aload_n (k := 0) (by decide +kernel) rfl rfl) <|
  am_fa (sn_bipush (n := 25) (by decide +kernel) (by decide +kernel) rfl) <|
  am_fa (sn_newa (at9 := .int) (by decide +kernel) rfl rfl (by decide) (by decide) (by decide) (List.mem_cons_of_mem _ mw_116) rfl) <|
  am_fa (sn_putP (idx := 17) (ob := am_o50) (by decide +kernel) rfl (by decide) rfl hin_50 (List.mem_cons_of_mem _ mw_486) am_o50_ty am_o50_nm rfl rfl) <|
  am_fa (sn_aload_n (k := 0) (by decide +kernel) rfl rfl) <|
  am_fa (sn_bipush (n := 25) (by decide +kernel) (by decide +kernel) rfl) <|
  am_fa (sn_newa (at9 := .boolean) (by decide +kernel) rfl rfl (by decide) (by decide) (by decide) (List.mem_cons_of_mem _ mw_166) rfl) <|
  am_fa (sn_putP (idx := 20) (ob := am_o50) (by decide +kernel) rfl (by decide) rfl hin_50 (List.mem_cons_of_mem _ mw_487) am_o50_ty am_o50_nm rfl rfl) <|
  am_fa (sn_aload_n (k := 0) (by decide +kernel) rfl rfl) <|
  am_fa (sn_bipush (n := 25) (by decide +kernel) (by decide +kernel) rfl) <|
  am_fa (sn_newa (at9 := .int) (by decide +kernel) rfl rfl (by decide) (by decide) (by decide) (List.mem_cons_of_mem _ mw_116) rfl) <|
  am_fa (sn_putP (idx := 23) (ob := am_o50) (by decide +kernel) rfl (by decide) rfl hin_50 (List.mem_cons_of_mem _ mw_488) am_o50_ty am_o50_nm rfl rfl) <|
  am_fa (sn_aload_n (k := 0) (by decide +kernel) rfl rfl) <|
  am_fa (sn_bipush (n := 25) (by decide +kernel) (by decide +kernel) rfl) <|
  am_fa (sn_newa (at9 := .boolean) (by decide +kernel) rfl rfl (by decide) (by decide) (by decide) (List.mem_cons_of_mem _ mw_166) rfl) <|
  am_fa (sn_putP (idx := 26) (ob := am_o50) (by decide +kernel) rfl (by decide) rfl hin_50 (List.mem_cons_of_mem _ mw_489) am_o50_ty am_o50_nm rfl rfl) <|
  am_fa (sn_aload_n (k := 0) (by decide +kernel) rfl rfl) <|
  am_fa (sn_bipush (n := 25) (by decide +kernel) (by decide +kernel) rfl) <|
  am_fa (sn_newa (at9 := .boolean) (by decide +kernel) rfl rfl (by decide) (by decide) (by decide) (List.mem_cons_of_mem _ mw_166) rfl) <|
  am_fa (sn_putP (idx := 29) (ob := am_o50) (by decide +kernel) rfl (by decide) rfl hin_50 (List.mem_cons_of_mem _ mw_490) am_o50_ty am_o50_nm rfl rfl) <|
  am_fa (sn_aload_n (k := 0) (by decide +kernel) rfl rfl) <|
  am_fa (sn_bipush (n := 25) (by decide +kernel) (by decide +kernel) rfl) <|
  am_fa (sn_newa (at9 := .boolean) (by decide +kernel) rfl rfl (by decide) (by decide) (by decide) (List.mem_cons_of_mem _ mw_166) rfl) <|
  am_fa (sn_putP (idx := 32) (ob := am_o50) (by decide +kernel) rfl (by decide) rfl hin_50 (List.mem_cons_of_mem _ mw_491) am_o50_ty am_o50_nm rfl rfl) <|
  am_fa (sn_aload_n (k := 0) (by decide +kernel) rfl rfl) <|
  am_fa (sn_bipush (n := 25) (by decide +kernel) (by decide +kernel) rfl) <|
  am_fa (sn_newa (at9 := .boolean) (by decide +kernel) rfl rfl (by decide) (by decide) (by decide) (List.mem_cons_of_mem _ mw_166) rfl) <|
  am_fa (sn_putP (idx := 35) (ob := am_o50) (by decide +kernel) rfl (by decide) rfl hin_50 (List.mem_cons_of_mem _ mw_492) am_o50_ty am_o50_nm rfl rfl) <|
  am_fa (sn_aload_n (k := 0) (by decide +kernel) rfl rfl) <|
  am_fa (sn_bipush (n := 7) (by decide +kernel) (by decide +kernel) rfl) <|
  am_fa (sn_newa (at9 := .int) (by decide +kernel) rfl rfl (by decide) (by decide) (by decide) (List.mem_cons_of_mem _ mw_116) rfl) <|
  am_fa (sn_putP (idx := 38) (ob := am_o50) (by decide +kernel) rfl (by decide) rfl hin_50 (List.mem_cons_of_mem _ mw_493) am_o50_ty am_o50_nm rfl rfl) <|
  am_fa (sn_aload_n (k := 0) (by decide +kernel) rfl rfl) <|
  am_fa (sn_bipush (n := 60) (by decide +kernel) (by decide +kernel) rfl) <|
  am_fa (sn_newa (at9 := .int) (by decide +kernel) rfl rfl (by decide) (by decide) (by decide) (List.mem_cons_of_mem _ mw_116) rfl) <|
  am_fa (sn_putP (idx := 41) (ob := am_o50) (by decide +kernel) rfl (by decide) rfl hin_50 (List.mem_cons_of_mem _ mw_494) am_o50_ty am_o50_nm rfl rfl) <|
  am_fa (sn_aload_n (k := 0) (by decide +kernel) rfl rfl) <|
  am_fa (sn_bipush (n := 60) (by decide +kernel) (by decide +kernel) rfl) <|
  am_fa (sn_newa (at9 := .int) (by decide +kernel) rfl rfl (by decide) (by decide) (by decide) (List.mem_cons_of_mem _ mw_116) rfl) <|
  am_fa (sn_putP (idx := 44) (ob := am_o50) (by decide +kernel) rfl (by decide) rfl hin_50 (List.mem_cons_of_mem _ mw_495) am_o50_ty am_o50_nm rfl rfl) <|
  am_fa (sn_aload_n (k := 0) (by decide +kernel) rfl rfl) <|
  am_fa (sn_sipush (n := 300) (by decide +kernel) (by decide +kernel) rfl) <|
  am_fa (sn_newa (at9 := .int) (by decide +kernel) rfl rfl (by decide) (by decide) (by decide) (List.mem_cons_of_mem _ mw_116) rfl) <|
  am_fa (sn_putP (idx := 47) (ob := am_o50) (by decide +kernel) rfl (by decide) rfl hin_50 (List.mem_cons_of_mem _ mw_496) am_o50_ty am_o50_nm rfl rfl) <|
  am_fa (sn_aload_n (k := 0) (by decide +kernel) rfl rfl) <|
  am_fa (sn_bipush (n := 120) (by decide +kernel) (by decide +kernel) rfl) <|
  am_fa (sn_newa (at9 := .int) (by decide +kernel) rfl rfl (by decide) (by decide) (by decide) (List.mem_cons_of_mem _ mw_116) rfl) <|
  am_fa (sn_putP (idx := 50) (ob := am_o50) (by decide +kernel) rfl (by decide) rfl hin_50 (List.mem_cons_of_mem _ mw_497) am_o50_ty am_o50_nm rfl rfl) <|
  am_fa (sn_aload_n (k := 0) (by decide +kernel) rfl rfl) <|
  am_fa (sn_bipush (n := 120) (by decide +kernel) (by decide +kernel) rfl) <|
  am_fa (sn_newa (at9 := .int) (by decide +kernel) rfl rfl (by decide) (by decide) (by decide) (List.mem_cons_of_mem _ mw_116) rfl) <|
  am_fa (sn_putP (idx := 53) (ob := am_o50) (by decide +kernel) rfl (by decide) rfl hin_50 (List.mem_cons_of_mem _ mw_498) am_o50_ty am_o50_nm rfl rfl) <|
  am_fa (sn_aload_n (k := 0) (by decide +kernel) rfl rfl) <|
  am_fa (sn_bipush (n := 120) (by decide +kernel) (by decide +kernel) rfl) <|
  am_fa (sn_newa (at9 := .int) (by decide +kernel) rfl rfl (by decide) (by decide) (by decide) (List.mem_cons_of_mem _ mw_116) rfl) <|
  am_fa (sn_putP (idx := 56) (ob := am_o50) (by decide +kernel) rfl (by decide) rfl hin_50 (List.mem_cons_of_mem _ mw_499) am_o50_ty am_o50_nm rfl rfl) <|
  am_fa (sn_aload_n (k := 0) (by decide +kernel) rfl rfl) <|
  am_fa (sn_iconst (n := 5) (by decide +kernel) (by decide +kernel) rfl) <|
  am_fa (sn_newa (at9 := .int) (by decide +kernel) rfl rfl (by decide) (by decide) (by decide) (List.mem_cons_of_mem _ mw_116) rfl) <|
  am_fa (sn_putP (idx := 59) (ob := am_o50) (by decide +kernel) rfl (by decide) rfl hin_50 (List.mem_cons_of_mem _ mw_500) am_o50_ty am_o50_nm rfl rfl) <|
  am_fa (sn_aload_n (k := 0) (by decide +kernel) rfl rfl) <|
  am_fa (sn_iconst (n := 5) (by decide +kernel) (by decide +kernel) rfl) <|
  am_fa (sn_newa (at9 := .boolean) (by decide +kernel) rfl rfl (by decide) (by decide) (by decide) (List.mem_cons_of_mem _ mw_166) rfl) <|
  am_fa (sn_putP (idx := 62) (ob := am_o50) (by decide +kernel) rfl (by decide) rfl hin_50 (List.mem_cons_of_mem _ mw_501) am_o50_ty am_o50_nm rfl rfl) <|
  am_fa (sn_aload_n (k := 0) (by decide +kernel) rfl rfl) <|
  am_fa (sn_bipush (n := 125) (by decide +kernel) (by decide +kernel) rfl) <|
  am_fa (sn_newa (at9 := .boolean) (by decide +kernel) rfl rfl (by decide) (by decide) (by decide) (List.mem_cons_of_mem _ mw_166) rfl) <|
  am_fa (sn_putP (idx := 65) (ob := am_o50) (by decide +kernel) rfl (by decide) rfl hin_50 (List.mem_cons_of_mem _ mw_502) am_o50_ty am_o50_nm rfl rfl) <|
  am_fa (sn_aload_n (k := 0) (by decide +kernel) rfl rfl) <|
  am_fa (sn_bipush (n := 125) (by decide +kernel) (by decide +kernel) rfl) <|
  am_fa (sn_newa (at9 := .int) (by decide +kernel) rfl rfl (by decide) (by decide) (by decide) (List.mem_cons_of_mem _ mw_116) rfl) <|
  am_fa (sn_putP (idx := 68) (ob := am_o50) (by decide +kernel) rfl (by decide) rfl hin_50 (List.mem_cons_of_mem _ mw_503) am_o50_ty am_o50_nm rfl rfl) <|
  am_fa (sn_aload_n (k := 0) (by decide +kernel) rfl rfl) <|
  am_fa (sn_bipush (n := 125) (by decide +kernel) (by decide +kernel) rfl) <|
  am_fa (sn_newa (at9 := .boolean) (by decide +kernel) rfl rfl (by decide) (by decide) (by decide) (List.mem_cons_of_mem _ mw_166) rfl) <|
  am_fa (sn_putP (idx := 71) (ob := am_o50) (by decide +kernel) rfl (by decide) rfl hin_50 (List.mem_cons_of_mem _ mw_504) am_o50_ty am_o50_nm rfl rfl) <|
  am_fa (sn_aload_n (k := 0) (by decide +kernel) rfl rfl) <|
  am_fa (sn_bipush (n := 25) (by decide +kernel) (by decide +kernel) rfl) <|
  am_fa (sn_newa (at9 := .boolean) (by decide +kernel) rfl rfl (by decide) (by decide) (by decide) (List.mem_cons_of_mem _ mw_166) rfl) <|
  am_fa (sn_putP (idx := 74) (ob := am_o50) (by decide +kernel) rfl (by decide) rfl hin_50 (List.mem_cons_of_mem _ mw_505) am_o50_ty am_o50_nm rfl rfl) <|
  am_fa (sn_aload_n (k := 0) (by decide +kernel) rfl rfl) <|
  am_fa (sn_iconst (n := 5) (by decide +kernel) (by decide +kernel) rfl) <|
  am_fa (sn_newa (at9 := .boolean) (by decide +kernel) rfl rfl (by decide) (by decide) (by decide) (List.mem_cons_of_mem _ mw_166) rfl) <|
  am_fa (sn_putP (idx := 77) (ob := am_o50) (by decide +kernel) rfl (by decide) rfl hin_50 (List.mem_cons_of_mem _ mw_506) am_o50_ty am_o50_nm rfl rfl) <|
  am_fa (sn_aload_n (k := 0) (by decide +kernel) rfl rfl) <|
  am_fa (sn_bipush (n := 25) (by decide +kernel) (by decide +kernel) rfl) <|
  am_fa (sn_newa (at9 := .int) (by decide +kernel) rfl rfl (by decide) (by decide) (by decide) (List.mem_cons_of_mem _ mw_116) rfl) <|
  am_fa (sn_putP (idx := 80) (ob := am_o50) (by decide +kernel) rfl (by decide) rfl hin_50 (List.mem_cons_of_mem _ mw_507) am_o50_ty am_o50_nm rfl rfl) <|
  am_fa (sn_ret (by decide +kernel) rfl) <|
  am_f0
theorem ct_67 : ∀ x ∈ am_c67, am_snd 67 x.1 x.2 :=
  am_fa (sn_iload_n (k := 0) (by decide +kernel) rfl rfl) <|
  am_fa (sn_if_lt (off := 12) (by decide +kernel) (by decide) rfl) <|
  am_fa (sn_iload_n (k := 0) (by decide +kernel) rfl rfl) <|
  am_fa (sn_iconst (n := 4) (by decide +kernel) (by decide +kernel) rfl) <|
  am_fa (sn_icmp_gt (off := 7) (by decide +kernel) (by decide) rfl) <|
  am_fa (sn_iconst (n := 1) (by decide +kernel) (by decide +kernel) rfl) <|
  am_fa (sn_goto (off := 4) (by decide +kernel) (by decide)) <|
  am_fa (sn_iconst (n := 0) (by decide +kernel) (by decide +kernel) rfl) <|
  am_fa (sn_zret (by decide +kernel) rfl) <|
  am_f0
theorem ct_68 : ∀ x ∈ am_c68, am_snd 68 x.1 x.2 :=
  am_fa (sn_iload_n (k := 1) (by decide +kernel) rfl rfl) <|
  am_fa (sn_callS (idx := 83) (by decide +kernel) rfl (hG 67 (List.mem_cons_of_mem _ mw_565)) (by decide) (List.mem_cons_of_mem _ mw_42) (List.mem_cons_of_mem _ mw_563) (by decide +kernel) (List.mem_cons_of_mem _ mw_564) rfl) <|
  am_fa (sn_if_eq (off := 27) (by decide +kernel) (by decide) rfl) <|
  am_fa (sn_iload_n (k := 2) (by decide +kernel) rfl rfl) <|
  am_fa (sn_callS (idx := 83) (by decide +kernel) rfl (hG 67 (List.mem_cons_of_mem _ mw_565)) (by decide) (List.mem_cons_of_mem _ mw_42) (List.mem_cons_of_mem _ mw_563) (by decide +kernel) (List.mem_cons_of_mem _ mw_564) rfl) <|
  am_fa (sn_if_eq (off := 20) (by decide +kernel) (by decide) rfl) <|
  am_fa (sn_aload_n (k := 0) (by decide +kernel) rfl rfl) <|
  am_fa (sn_getP (idx := 13) (ob := am_o50) (by decide +kernel) rfl (by decide) rfl hin_50 (List.mem_cons_of_mem _ mw_485) rfl) <|
  am_fa (sn_iconst (n := 5) (by decide +kernel) (by decide +kernel) rfl) <|
  am_fa (sn_iload_n (k := 1) (by decide +kernel) rfl rfl) <|
  am_fa (sn_imul (by decide +kernel) rfl) <|
  am_fa (sn_iload_n (k := 2) (by decide +kernel) rfl rfl) <|
  am_fa (sn_iadd (by decide +kernel) rfl) <|
  am_fa (sn_iald (by decide +kernel) rfl rfl rfl) <|
  am_fa (sn_if_le (off := 7) (by decide +kernel) (by decide) rfl) <|
  am_fa (sn_iconst (n := 1) (by decide +kernel) (by decide +kernel) rfl) <|
  am_fa (sn_goto (off := 4) (by decide +kernel) (by decide)) <|
  am_fa (sn_iconst (n := 0) (by decide +kernel) (by decide +kernel) rfl) <|
  am_fa (sn_zret (by decide +kernel) rfl) <|
  am_f0
theorem ct_69 : ∀ x ∈ am_c69, am_snd 69 x.1 x.2 :=
  am_fa (sn_aload_n (k := 0) (by decide +kernel) rfl rfl) <|
  am_fa (sn_getP (idx := 20) (ob := am_o50) (by decide +kernel) rfl (by decide) rfl hin_50 (List.mem_cons_of_mem _ mw_487) rfl) <|
  am_fa (sn_iconst (n := 5) (by decide +kernel) (by decide +kernel) rfl) <|
  am_fa (sn_iload_n (k := 1) (by decide +kernel) rfl rfl) <|
  am_fa (sn_imul (by decide +kernel) rfl) <|
  am_fa (sn_iload_n (k := 2) (by decide +kernel) rfl rfl) <|
  am_fa (sn_iadd (by decide +kernel) rfl) <|
  am_fa (sn_iconst (n := 0) (by decide +kernel) (by decide +kernel) rfl) <|
  am_fa (sn_zast (by decide +kernel) rfl rfl rfl) <|
  am_fa (sn_aload_n (k := 0) (by decide +kernel) rfl rfl) <|
  am_fa (sn_getP (idx := 26) (ob := am_o50) (by decide +kernel) rfl (by decide) rfl hin_50 (List.mem_cons_of_mem _ mw_489) rfl) <|
  am_fa (sn_iconst (n := 5) (by decide +kernel) (by decide +kernel) rfl) <|
  am_fa (sn_iload_n (k := 1) (by decide +kernel) rfl rfl) <|
  am_fa (sn_imul (by decide +kernel) rfl) <|
  am_fa (sn_iload_n (k := 2) (by decide +kernel) rfl rfl) <|
  am_fa (sn_iadd (by decide +kernel) rfl) <|
  am_fa (sn_iconst (n := 0) (by decide +kernel) (by decide +kernel) rfl) <|
  am_fa (sn_zast (by decide +kernel) rfl rfl rfl) <|
  am_fa (sn_aload_n (k := 0) (by decide +kernel) rfl rfl) <|
  am_fa (sn_getP (idx := 29) (ob := am_o50) (by decide +kernel) rfl (by decide) rfl hin_50 (List.mem_cons_of_mem _ mw_490) rfl) <|
  am_fa (sn_iconst (n := 5) (by decide +kernel) (by decide +kernel) rfl) <|
  am_fa (sn_iload_n (k := 1) (by decide +kernel) rfl rfl) <|
  am_fa (sn_imul (by decide +kernel) rfl) <|
  am_fa (sn_iload_n (k := 2) (by decide +kernel) rfl rfl) <|
  am_fa (sn_iadd (by decide +kernel) rfl) <|
  am_fa (sn_iconst (n := 0) (by decide +kernel) (by decide +kernel) rfl) <|
  am_fa (sn_zast (by decide +kernel) rfl rfl rfl) <|
  am_fa (sn_iconst (n := 0) (by decide +kernel) (by decide +kernel) rfl) <|
  am_fa (sn_istore_n (k := 3) (by decide +kernel) rfl (by decide) rfl) <|
  am_fa (sn_iload_n (k := 3) (by decide +kernel) rfl rfl) <|
  am_fa (sn_iconst (n := 5) (by decide +kernel) (by decide +kernel) rfl) <|
  am_fa (sn_icmp_ge (off := 24) (by decide +kernel) (by decide) rfl) <|
  am_fa (sn_aload_n (k := 0) (by decide +kernel) rfl rfl) <|
  am_fa (sn_getP (idx := 65) (ob := am_o50) (by decide +kernel) rfl (by decide) rfl hin_50 (List.mem_cons_of_mem _ mw_502) rfl) <|
  am_fa (sn_iconst (n := 5) (by decide +kernel) (by decide +kernel) rfl) <|
  am_fa (sn_iconst (n := 5) (by decide +kernel) (by decide +kernel) rfl) <|
  am_fa (sn_iload_n (k := 1) (by decide +kernel) rfl rfl) <|
  am_fa (sn_imul (by decide +kernel) rfl) <|
  am_fa (sn_iload_n (k := 2) (by decide +kernel) rfl rfl) <|
  am_fa (sn_iadd (by decide +kernel) rfl) <|
  am_fa (sn_imul (by decide +kernel) rfl) <|
  am_fa (sn_iload_n (k := 3) (by decide +kernel) rfl rfl) <|
  am_fa (sn_iadd (by decide +kernel) rfl) <|
  am_fa (sn_iconst (n := 0) (by decide +kernel) (by decide +kernel) rfl) <|
  am_fa (sn_zast (by decide +kernel) rfl rfl rfl) <|
  am_fa (sn_iinc (i := 1) (by decide +kernel) (by decide +kernel) (by decide) rfl) <|
  am_fa (sn_goto (off := (-23)) (by decide +kernel) (by decide)) <|
  am_fa (sn_ret (by decide +kernel) rfl) <|
  am_f0
theorem ct_70 : ∀ x ∈ am_c70, am_snd 70 x.1 x.2 :=
  am_fa (sn_iload_n (k := 1) (by decide +kernel) rfl rfl) <|
  am_fa (sn_callS (idx := 83) (by decide +kernel) rfl (hG 67 (List.mem_cons_of_mem _ mw_565)) (by decide) (List.mem_cons_of_mem _ mw_42) (List.mem_cons_of_mem _ mw_563) (by decide +kernel) (List.mem_cons_of_mem _ mw_564) rfl) <|
  am_fa (sn_if_eq (off := 39) (by decide +kernel) (by decide) rfl) <|
  am_fa (sn_iload_n (k := 2) (by decide +kernel) rfl rfl) <|
  am_fa (sn_callS (idx := 83) (by decide +kernel) rfl (hG 67 (List.mem_cons_of_mem _ mw_565)) (by decide) (List.mem_cons_of_mem _ mw_42) (List.mem_cons_of_mem _ mw_563) (by decide +kernel) (List.mem_cons_of_mem _ mw_564) rfl) <|
  am_fa (sn_if_eq (off := 32) (by decide +kernel) (by decide) rfl) <|
  am_fa (sn_iload_n (k := 1) (by decide +kernel) rfl rfl) <|
  am_fa (sn_iload_n (k := 2) (by decide +kernel) rfl rfl) <|
  am_fa (sn_icmp_eq (off := 27) (by decide +kernel) (by decide) rfl) <|
  am_fa (sn_iload_n (k := 3) (by decide +kernel) rfl rfl) <|
  am_fa (sn_if_lt (off := 23) (by decide +kernel) (by decide) rfl) <|
  am_fa (sn_iload_n (k := 3) (by decide +kernel) rfl rfl) <|
  am_fa (sn_bipush (n := 9) (by decide +kernel) (by decide +kernel) rfl) <|
  am_fa (sn_icmp_gt (off := 17) (by decide +kernel) (by decide) rfl) <|
  am_fa (sn_aload_n (k := 0) (by decide +kernel) rfl rfl) <|
  am_fa (sn_getP (idx := 13) (ob := am_o50) (by decide +kernel) rfl (by decide) rfl hin_50 (List.mem_cons_of_mem _ mw_485) rfl) <|
  am_fa (sn_iconst (n := 5) (by decide +kernel) (by decide +kernel) rfl) <|
  am_fa (sn_iload_n (k := 1) (by decide +kernel) rfl rfl) <|
  am_fa (sn_imul (by decide +kernel) rfl) <|
  am_fa (sn_iload_n (k := 2) (by decide +kernel) rfl rfl) <|
  am_fa (sn_iadd (by decide +kernel) rfl) <|
  am_fa (sn_iald (by decide +kernel) rfl rfl rfl) <|
  am_fa (sn_iload_n (k := 3) (by decide +kernel) rfl rfl) <|
  am_fa (sn_icmp_ne (off := 5) (by decide +kernel) (by decide) rfl) <|
  am_fa (sn_iconst (n := 0) (by decide +kernel) (by decide +kernel) rfl) <|
  am_fa (sn_zret (by decide +kernel) rfl) <|
  am_fa (sn_iload_n (k := 3) (by decide +kernel) rfl rfl) <|
  am_fa (sn_if_ne (off := 15) (by decide +kernel) (by decide) rfl) <|
  am_fa (sn_aload_n (k := 0) (by decide +kernel) rfl rfl) <|
  am_fa (sn_iload_n (k := 1) (by decide +kernel) rfl rfl) <|
  am_fa (sn_iload_n (k := 2) (by decide +kernel) rfl rfl) <|
  am_fa (sn_callV (idx := 87) (ob := am_o50) (by decide +kernel) rfl (hG 69 (List.mem_cons_of_mem _ mw_569)) (by decide) (List.mem_cons_of_mem _ mw_42) (List.mem_cons_of_mem _ mw_566) (by decide +kernel) rfl rfl (List.mem_cons_of_mem _ mw_568) (List.mem_cons_of_mem _ mw_18) rfl) <|
  am_fa (sn_aload_n (k := 0) (by decide +kernel) rfl rfl) <|
  am_fa (sn_iload_n (k := 2) (by decide +kernel) rfl rfl) <|
  am_fa (sn_iload_n (k := 1) (by decide +kernel) rfl rfl) <|
  am_fa (sn_callV (idx := 87) (ob := am_o50) (by decide +kernel) rfl (hG 69 (List.mem_cons_of_mem _ mw_569)) (by decide) (List.mem_cons_of_mem _ mw_42) (List.mem_cons_of_mem _ mw_566) (by decide +kernel) rfl rfl (List.mem_cons_of_mem _ mw_568) (List.mem_cons_of_mem _ mw_18) rfl) <|
  am_fa (sn_aload_n (k := 0) (by decide +kernel) rfl rfl) <|
  am_fa (sn_getP (idx := 13) (ob := am_o50) (by decide +kernel) rfl (by decide) rfl hin_50 (List.mem_cons_of_mem _ mw_485) rfl) <|
  am_fa (sn_iconst (n := 5) (by decide +kernel) (by decide +kernel) rfl) <|
  am_fa (sn_iload_n (k := 1) (by decide +kernel) rfl rfl) <|
  am_fa (sn_imul (by decide +kernel) rfl) <|
  am_fa (sn_iload_n (k := 2) (by decide +kernel) rfl rfl) <|
  am_fa (sn_iadd (by decide +kernel) rfl) <|
  am_fa (sn_iald (by decide +kernel) rfl rfl rfl) <|
  am_fa (sn_if_ne (off := 25) (by decide +kernel) (by decide) rfl) <|
  am_fa (sn_aload_n (k := 0) (by decide +kernel) rfl rfl) <|
  am_fa (sn_getP (idx := 17) (ob := am_o50) (by decide +kernel) rfl (by decide) rfl hin_50 (List.mem_cons_of_mem _ mw_486) rfl) <|
  am_fa (sn_iconst (n := 5) (by decide +kernel) (by decide +kernel) rfl) <|
  am_fa (sn_iload_n (k := 1) (by decide +kernel) rfl rfl) <|
  am_fa (sn_imul (by decide +kernel) rfl) <|
  am_fa (sn_iload_n (k := 2) (by decide +kernel) rfl rfl) <|
  am_fa (sn_iadd (by decide +kernel) rfl) <|
  am_fa (sn_iconst (n := 0) (by decide +kernel) (by decide +kernel) rfl) <|
  am_fa (sn_iast (by decide +kernel) rfl rfl rfl) <|
  am_fa (sn_aload_n (k := 0) (by decide +kernel) rfl rfl) <|
  am_fa (sn_getP (idx := 17) (ob := am_o50) (by decide +kernel) rfl (by decide) rfl hin_50 (List.mem_cons_of_mem _ mw_486) rfl) <|
  am_fa (sn_iconst (n := 5) (by decide +kernel) (by decide +kernel) rfl) <|
  am_fa (sn_iload_n (k := 2) (by decide +kernel) rfl rfl) <|
  am_fa (sn_imul (by decide +kernel) rfl) <|
  am_fa (sn_iload_n (k := 1) (by decide +kernel) rfl rfl) <|
  am_fa (sn_iadd (by decide +kernel) rfl) <|
  am_fa (sn_iconst (n := 0) (by decide +kernel) (by decide +kernel) rfl) <|
  am_fa (sn_iast (by decide +kernel) rfl rfl rfl) <|
  am_fa (sn_aload_n (k := 0) (by decide +kernel) rfl rfl) <|
  am_fa (sn_getP (idx := 13) (ob := am_o50) (by decide +kernel) rfl (by decide) rfl hin_50 (List.mem_cons_of_mem _ mw_485) rfl) <|
  am_fa (sn_iconst (n := 5) (by decide +kernel) (by decide +kernel) rfl) <|
  am_fa (sn_iload_n (k := 1) (by decide +kernel) rfl rfl) <|
  am_fa (sn_imul (by decide +kernel) rfl) <|
  am_fa (sn_iload_n (k := 2) (by decide +kernel) rfl rfl) <|
  am_fa (sn_iadd (by decide +kernel) rfl) <|
  am_fa (sn_iload_n (k := 3) (by decide +kernel) rfl rfl) <|
  am_fa (sn_iast (by decide +kernel) rfl rfl rfl) <|
  am_fa (sn_aload_n (k := 0) (by decide +kernel) rfl rfl) <|
  am_fa (sn_getP (idx := 13) (ob := am_o50) (by decide +kernel) rfl (by decide) rfl hin_50 (List.mem_cons_of_mem _ mw_485) rfl) <|
  am_fa (sn_iconst (n := 5) (by decide +kernel) (by decide +kernel) rfl) <|
  am_fa (sn_iload_n (k := 2) (by decide +kernel) rfl rfl) <|
  am_fa (sn_imul (by decide +kernel) rfl) <|
  am_fa (sn_iload_n (k := 1) (by decide +kernel) rfl rfl) <|
  am_fa (sn_iadd (by decide +kernel) rfl) <|
  am_fa (sn_iload_n (k := 3) (by decide +kernel) rfl rfl) <|
  am_fa (sn_iast (by decide +kernel) rfl rfl rfl) <|
  am_fa (sn_iconst (n := 1) (by decide +kernel) (by decide +kernel) rfl) <|
  am_fa (sn_zret (by decide +kernel) rfl) <|
  am_f0
theorem ct_71 : ∀ x ∈ am_c71, am_snd 71 x.1 x.2 :=
  am_fa (sn_iload_n (k := 1) (by decide +kernel) rfl rfl) <|
  am_fa (sn_callS (idx := 83) (by decide +kernel) rfl (hG 67 (List.mem_cons_of_mem _ mw_565)) (by decide) (List.mem_cons_of_mem _ mw_42) (List.mem_cons_of_mem _ mw_563) (by decide +kernel) (List.mem_cons_of_mem _ mw_564) rfl) <|
  am_fa (sn_if_eq (off := 47) (by decide +kernel) (by decide) rfl) <|
  am_fa (sn_iload_n (k := 2) (by decide +kernel) rfl rfl) <|
  am_fa (sn_if_lt (off := 43) (by decide +kernel) (by decide) rfl) <|
  am_fa (sn_iload_n (k := 2) (by decide +kernel) rfl rfl) <|
  am_fa (sn_iconst (n := 1) (by decide +kernel) (by decide +kernel) rfl) <|
  am_fa (sn_icmp_gt (off := 38) (by decide +kernel) (by decide) rfl) <|
  am_fa (sn_iload (by decide +kernel) rfl) <|
  am_fa (sn_if_lt (off := 33) (by decide +kernel) (by decide) rfl) <|
  am_fa (sn_iload (by decide +kernel) rfl) <|
  am_fa (sn_bipush (n := 8) (by decide +kernel) (by decide +kernel) rfl) <|
  am_fa (sn_icmp_gt (off := 26) (by decide +kernel) (by decide) rfl) <|
  am_fa (sn_iload_n (k := 3) (by decide +kernel) rfl rfl) <|
  am_fa (sn_if_lt (off := 22) (by decide +kernel) (by decide) rfl) <|
  am_fa (sn_iload_n (k := 3) (by decide +kernel) rfl rfl) <|
  am_fa (sn_sipush (n := 255) (by decide +kernel) (by decide +kernel) rfl) <|
  am_fa (sn_icmp_gt (off := 15) (by decide +kernel) (by decide) rfl) <|
  am_fa (sn_iload (by decide +kernel) rfl) <|
  am_fa (sn_if_lt (off := 10) (by decide +kernel) (by decide) rfl) <|
  am_fa (sn_iload (by decide +kernel) rfl) <|
  am_fa (sn_bipush (n := 9) (by decide +kernel) (by decide +kernel) rfl) <|
  am_fa (sn_icmp_le (off := 5) (by decide +kernel) (by decide) rfl) <|
  am_fa (sn_iconst (n := 0) (by decide +kernel) (by decide +kernel) rfl) <|
  am_fa (sn_zret (by decide +kernel) rfl) <|
  am_fa (sn_iload_n (k := 3) (by decide +kernel) rfl rfl) <|
  am_fa (sn_iconst (n := 1) (by decide +kernel) (by decide +kernel) rfl) <|
  am_fa (sn_bipush (n := 8) (by decide +kernel) (by decide +kernel) rfl) <|
  am_fa (sn_iload (by decide +kernel) rfl) <|
  am_fa (sn_isub (by decide +kernel) rfl) <|
  am_fa (sn_ishl (by decide +kernel) rfl) <|
  am_fa (sn_iconst (n := 1) (by decide +kernel) (by decide +kernel) rfl) <|
  am_fa (sn_isub (by decide +kernel) rfl) <|
  am_fa (sn_iand (by decide +kernel) rfl) <|
  am_fa (sn_if_eq (off := 5) (by decide +kernel) (by decide) rfl) <|
  am_fa (sn_iconst (n := 0) (by decide +kernel) (by decide +kernel) rfl) <|
  am_fa (sn_zret (by decide +kernel) rfl) <|
  am_fa (sn_iconst (n := 2) (by decide +kernel) (by decide +kernel) rfl) <|
  am_fa (sn_bipush (n := 55) (by decide +kernel) (by decide +kernel) rfl) <|
  am_fa (sn_iload_n (k := 1) (by decide +kernel) rfl rfl) <|
  am_fa (sn_iadd (by decide +kernel) rfl) <|
  am_fa (sn_imul (by decide +kernel) rfl) <|
  am_fa (sn_iload_n (k := 2) (by decide +kernel) rfl rfl) <|
  am_fa (sn_iadd (by decide +kernel) rfl) <|
  am_fa (sn_istore (by decide +kernel) (by decide) rfl) <|
  am_fa (sn_aload_n (k := 0) (by decide +kernel) rfl rfl) <|
  am_fa (sn_getP (idx := 50) (ob := am_o50) (by decide +kernel) rfl (by decide) rfl hin_50 (List.mem_cons_of_mem _ mw_497) rfl) <|
  am_fa (sn_iload (by decide +kernel) rfl) <|
  am_fa (sn_iload (by decide +kernel) rfl) <|
  am_fa (sn_if_le (off := 7) (by decide +kernel) (by decide) rfl) <|
  am_fa (sn_iload_n (k := 3) (by decide +kernel) rfl rfl) <|
  am_fa (sn_goto (off := 4) (by decide +kernel) (by decide)) <|
  am_fa (sn_iconst (n := 0) (by decide +kernel) (by decide +kernel) rfl) <|
  am_fa (sn_iast (by decide +kernel) rfl rfl rfl) <|
  am_fa (sn_aload_n (k := 0) (by decide +kernel) rfl rfl) <|
  am_fa (sn_getP (idx := 53) (ob := am_o50) (by decide +kernel) rfl (by decide) rfl hin_50 (List.mem_cons_of_mem _ mw_498) rfl) <|
  am_fa (sn_iload (by decide +kernel) rfl) <|
  am_fa (sn_iload (by decide +kernel) rfl) <|
  am_fa (sn_if_le (off := 8) (by decide +kernel) (by decide) rfl) <|
  am_fa (sn_iload (by decide +kernel) rfl) <|
  am_fa (sn_goto (off := 4) (by decide +kernel) (by decide)) <|
  am_fa (sn_iconst (n := 0) (by decide +kernel) (by decide +kernel) rfl) <|
  am_fa (sn_iast (by decide +kernel) rfl rfl rfl) <|
  am_fa (sn_aload_n (k := 0) (by decide +kernel) rfl rfl) <|
  am_fa (sn_getP (idx := 56) (ob := am_o50) (by decide +kernel) rfl (by decide) rfl hin_50 (List.mem_cons_of_mem _ mw_499) rfl) <|
  am_fa (sn_iload (by decide +kernel) rfl) <|
  am_fa (sn_iload (by decide +kernel) rfl) <|
  am_fa (sn_iast (by decide +kernel) rfl rfl rfl) <|
  am_fa (sn_iconst (n := 1) (by decide +kernel) (by decide +kernel) rfl) <|
  am_fa (sn_zret (by decide +kernel) rfl) <|
  am_f0
theorem ct_72 : ∀ x ∈ am_c72, am_snd 72 x.1 x.2 :=
  am_fa (sn_iload_n (k := 1) (by decide +kernel) rfl rfl) <|
  am_fa (sn_callS (idx := 83) (by decide +kernel) rfl (hG 67 (List.mem_cons_of_mem _ mw_565)) (by decide) (List.mem_cons_of_mem _ mw_42) (List.mem_cons_of_mem _ mw_563) (by decide +kernel) (List.mem_cons_of_mem _ mw_564) rfl) <|
  am_fa (sn_if_eq (off := 13) (by decide +kernel) (by decide) rfl) <|
  am_fa (sn_aload_n (k := 0) (by decide +kernel) rfl rfl) <|
  am_fa (sn_getP (idx := 7) (ob := am_o50) (by decide +kernel) rfl (by decide) rfl hin_50 (List.mem_cons_of_mem _ mw_484) rfl) <|
  am_fa (sn_iload_n (k := 1) (by decide +kernel) rfl rfl) <|
  am_fa (sn_zald (by decide +kernel) rfl rfl rfl) <|
  am_fa (sn_iload_n (k := 2) (by decide +kernel) rfl rfl) <|
  am_fa (sn_icmp_eq (off := 5) (by decide +kernel) (by decide) rfl) <|
  am_fa (sn_iconst (n := 0) (by decide +kernel) (by decide +kernel) rfl) <|
  am_fa (sn_zret (by decide +kernel) rfl) <|
  am_fa (sn_aload_n (k := 0) (by decide +kernel) rfl rfl) <|
  am_fa (sn_getP (idx := 7) (ob := am_o50) (by decide +kernel) rfl (by decide) rfl hin_50 (List.mem_cons_of_mem _ mw_484) rfl) <|
  am_fa (sn_iload_n (k := 1) (by decide +kernel) rfl rfl) <|
  am_fa (sn_iload_n (k := 2) (by decide +kernel) rfl rfl) <|
  am_fa (sn_if_ne (off := 7) (by decide +kernel) (by decide) rfl) <|
  am_fa (sn_iconst (n := 1) (by decide +kernel) (by decide +kernel) rfl) <|
  am_fa (sn_goto (off := 4) (by decide +kernel) (by decide)) <|
  am_fa (sn_iconst (n := 0) (by decide +kernel) (by decide +kernel) rfl) <|
  am_fa (sn_zast (by decide +kernel) rfl rfl rfl) <|
  am_fa (sn_iconst (n := 0) (by decide +kernel) (by decide +kernel) rfl) <|
  am_fa (sn_istore_n (k := 3) (by decide +kernel) rfl (by decide) rfl) <|
  am_fa (sn_iload_n (k := 3) (by decide +kernel) rfl rfl) <|
  am_fa (sn_iconst (n := 5) (by decide +kernel) (by decide +kernel) rfl) <|
  am_fa (sn_icmp_ge (off := 30) (by decide +kernel) (by decide) rfl) <|
  am_fa (sn_iload_n (k := 2) (by decide +kernel) rfl rfl) <|
  am_fa (sn_if_ne (off := 26) (by decide +kernel) (by decide) rfl) <|
  am_fa (sn_aload_n (k := 0) (by decide +kernel) rfl rfl) <|
  am_fa (sn_iload_n (k := 1) (by decide +kernel) rfl rfl) <|
  am_fa (sn_iload_n (k := 3) (by decide +kernel) rfl rfl) <|
  am_fa (sn_callV (idx := 87) (ob := am_o50) (by decide +kernel) rfl (hG 69 (List.mem_cons_of_mem _ mw_569)) (by decide) (List.mem_cons_of_mem _ mw_42) (List.mem_cons_of_mem _ mw_566) (by decide +kernel) rfl rfl (List.mem_cons_of_mem _ mw_568) (List.mem_cons_of_mem _ mw_18) rfl) <|
  am_fa (sn_aload_n (k := 0) (by decide +kernel) rfl rfl) <|
  am_fa (sn_getP (idx := 41) (ob := am_o50) (by decide +kernel) rfl (by decide) rfl hin_50 (List.mem_cons_of_mem _ mw_494) rfl) <|
  am_fa (sn_iconst (n := 5) (by decide +kernel) (by decide +kernel) rfl) <|
  am_fa (sn_iload_n (k := 1) (by decide +kernel) rfl rfl) <|
  am_fa (sn_imul (by decide +kernel) rfl) <|
  am_fa (sn_iload_n (k := 3) (by decide +kernel) rfl rfl) <|
  am_fa (sn_iadd (by decide +kernel) rfl) <|
  am_fa (sn_iconst (n := 0) (by decide +kernel) (by decide +kernel) rfl) <|
  am_fa (sn_iast (by decide +kernel) rfl rfl rfl) <|
  am_fa (sn_iinc (i := 1) (by decide +kernel) (by decide +kernel) (by decide) rfl) <|
  am_fa (sn_goto (off := (-29)) (by decide +kernel) (by decide)) <|
  am_fa (sn_iload_n (k := 2) (by decide +kernel) rfl rfl) <|
  am_fa (sn_if_ne (off := 27) (by decide +kernel) (by decide) rfl) <|
  am_fa (sn_aload_n (k := 0) (by decide +kernel) rfl rfl) <|
  am_fa (sn_getP (idx := 41) (ob := am_o50) (by decide +kernel) rfl (by decide) rfl hin_50 (List.mem_cons_of_mem _ mw_494) rfl) <|
  am_fa (sn_bipush (n := 50) (by decide +kernel) (by decide +kernel) rfl) <|
  am_fa (sn_iload_n (k := 1) (by decide +kernel) rfl rfl) <|
  am_fa (sn_iadd (by decide +kernel) rfl) <|
  am_fa (sn_iconst (n := 0) (by decide +kernel) (by decide +kernel) rfl) <|
  am_fa (sn_iast (by decide +kernel) rfl rfl rfl) <|
  am_fa (sn_aload_n (k := 0) (by decide +kernel) rfl rfl) <|
  am_fa (sn_getP (idx := 59) (ob := am_o50) (by decide +kernel) rfl (by decide) rfl hin_50 (List.mem_cons_of_mem _ mw_500) rfl) <|
  am_fa (sn_iload_n (k := 1) (by decide +kernel) rfl rfl) <|
  am_fa (sn_iconst (n := 0) (by decide +kernel) (by decide +kernel) rfl) <|
  am_fa (sn_iast (by decide +kernel) rfl rfl rfl) <|
  am_fa (sn_aload_n (k := 0) (by decide +kernel) rfl rfl) <|
  am_fa (sn_getP (idx := 62) (ob := am_o50) (by decide +kernel) rfl (by decide) rfl hin_50 (List.mem_cons_of_mem _ mw_501) rfl) <|
  am_fa (sn_iload_n (k := 1) (by decide +kernel) rfl rfl) <|
  am_fa (sn_iconst (n := 0) (by decide +kernel) (by decide +kernel) rfl) <|
  am_fa (sn_zast (by decide +kernel) rfl rfl rfl) <|
  am_fa (sn_iconst (n := 1) (by decide +kernel) (by decide +kernel) rfl) <|
  am_fa (sn_zret (by decide +kernel) rfl) <|
  am_f0
theorem ct_73 : ∀ x ∈ am_c73, am_snd 73 x.1 x.2 :=
  am_fa (sn_aload_n (k := 0) (by decide +kernel) rfl rfl) <|
  am_fa (sn_iload_n (k := 1) (by decide +kernel) rfl rfl) <|
  am_fa (sn_iload_n (k := 2) (by decide +kernel) rfl rfl) <|
  am_fa (sn_callV (idx := 91) (ob := am_o50) (by decide +kernel) rfl (hG 68 (List.mem_cons_of_mem _ mw_585)) (by decide) (List.mem_cons_of_mem _ mw_42) (List.mem_cons_of_mem _ mw_582) (by decide +kernel) rfl rfl (List.mem_cons_of_mem _ mw_584) (List.mem_cons_of_mem _ mw_19) rfl) <|
  am_fa (sn_if_eq (off := 13) (by decide +kernel) (by decide) rfl) <|
  am_fa (sn_iload_n (k := 3) (by decide +kernel) rfl rfl) <|
  am_fa (sn_if_lt (off := 9) (by decide +kernel) (by decide) rfl) <|
  am_fa (sn_iload_n (k := 3) (by decide +kernel) rfl rfl) <|
  am_fa (sn_bipush (n := 9) (by decide +kernel) (by decide +kernel) rfl) <|
  am_fa (sn_icmp_le (off := 5) (by decide +kernel) (by decide) rfl) <|
  am_fa (sn_iconst (n := 0) (by decide +kernel) (by decide +kernel) rfl) <|
  am_fa (sn_zret (by decide +kernel) rfl) <|
  am_fa (sn_aload_n (k := 0) (by decide +kernel) rfl rfl) <|
  am_fa (sn_getP (idx := 17) (ob := am_o50) (by decide +kernel) rfl (by decide) rfl hin_50 (List.mem_cons_of_mem _ mw_486) rfl) <|
  am_fa (sn_iconst (n := 5) (by decide +kernel) (by decide +kernel) rfl) <|
  am_fa (sn_iload_n (k := 1) (by decide +kernel) rfl rfl) <|
  am_fa (sn_imul (by decide +kernel) rfl) <|
  am_fa (sn_iload_n (k := 2) (by decide +kernel) rfl rfl) <|
  am_fa (sn_iadd (by decide +kernel) rfl) <|
  am_fa (sn_iload_n (k := 3) (by decide +kernel) rfl rfl) <|
  am_fa (sn_iast (by decide +kernel) rfl rfl rfl) <|
  am_fa (sn_iconst (n := 1) (by decide +kernel) (by decide +kernel) rfl) <|
  am_fa (sn_zret (by decide +kernel) rfl) <|
  am_f0

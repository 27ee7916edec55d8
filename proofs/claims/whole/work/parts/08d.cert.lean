theorem ct_89 : ∀ x ∈ am_c89, am_snd 89 x.1 x.2 :=
  am_fa (sn_aload_n (k := 0) (by decide +kernel) rfl rfl) <|
  am_fa (sn_iload_n (k := 1) (by decide +kernel) rfl rfl) <|
  am_fa (sn_iload_n (k := 2) (by decide +kernel) rfl rfl) <|
  am_fa (sn_callV (idx := 91) (ob := am_o50) (by decide +kernel) rfl (hG 68 (List.mem_cons_of_mem _ mw_585)) (by decide) (List.mem_cons_of_mem _ mw_42) (List.mem_cons_of_mem _ mw_582) (by decide +kernel) rfl rfl (List.mem_cons_of_mem _ mw_584) (List.mem_cons_of_mem _ mw_19) rfl) <|
  am_fa (sn_if_ne (off := 5) (by decide +kernel) (by decide) rfl) <|
  am_fa (sn_iconst (n := (-1)) (by decide +kernel) (by decide +kernel) rfl) <|
  am_fa (sn_iret (by decide +kernel) rfl) <|
  am_fa (sn_iconst (n := 5) (by decide +kernel) (by decide +kernel) rfl) <|
  am_fa (sn_iload_n (k := 1) (by decide +kernel) rfl rfl) <|
  am_fa (sn_imul (by decide +kernel) rfl) <|
  am_fa (sn_iload_n (k := 2) (by decide +kernel) rfl rfl) <|
  am_fa (sn_iadd (by decide +kernel) rfl) <|
  am_fa (sn_istore_n (k := 3) (by decide +kernel) rfl (by decide) rfl) <|
  am_fa (sn_aload_n (k := 0) (by decide +kernel) rfl rfl) <|
  am_fa (sn_getP (idx := 29) (ob := am_o50) (by decide +kernel) rfl (by decide) rfl hin_50 (List.mem_cons_of_mem _ mw_490) rfl) <|
  am_fa (sn_iload_n (k := 3) (by decide +kernel) rfl rfl) <|
  am_fa (sn_zald (by decide +kernel) rfl rfl rfl) <|
  am_fa (sn_if_eq (off := 7) (by decide +kernel) (by decide) rfl) <|
  am_fa (sn_iconst (n := 2) (by decide +kernel) (by decide +kernel) rfl) <|
  am_fa (sn_goto (off := 17) (by decide +kernel) (by decide)) <|
  am_fa (sn_aload_n (k := 0) (by decide +kernel) rfl rfl) <|
  am_fa (sn_getP (idx := 20) (ob := am_o50) (by decide +kernel) rfl (by decide) rfl hin_50 (List.mem_cons_of_mem _ mw_487) rfl) <|
  am_fa (sn_iload_n (k := 3) (by decide +kernel) rfl rfl) <|
  am_fa (sn_zald (by decide +kernel) rfl rfl rfl) <|
  am_fa (sn_if_eq (off := 7) (by decide +kernel) (by decide) rfl) <|
  am_fa (sn_iconst (n := 1) (by decide +kernel) (by decide +kernel) rfl) <|
  am_fa (sn_goto (off := 4) (by decide +kernel) (by decide)) <|
  am_fa (sn_iconst (n := 0) (by decide +kernel) (by decide +kernel) rfl) <|
  am_fa (sn_iret (by decide +kernel) rfl) <|
  am_f0
theorem ct_90 : ∀ x ∈ am_c90, am_snd 90 x.1 x.2 :=
  am_fa (sn_iload_n (k := 1) (by decide +kernel) rfl rfl) <|
  am_fa (sn_callS (idx := 83) (by decide +kernel) rfl (hG 67 (List.mem_cons_of_mem _ mw_565)) (by decide) (List.mem_cons_of_mem _ mw_42) (List.mem_cons_of_mem _ mw_563) (by decide +kernel) (List.mem_cons_of_mem _ mw_564) rfl) <|
  am_fa (sn_if_eq (off := 23) (by decide +kernel) (by decide) rfl) <|
  am_fa (sn_iload_n (k := 2) (by decide +kernel) rfl rfl) <|
  am_fa (sn_callS (idx := 83) (by decide +kernel) rfl (hG 67 (List.mem_cons_of_mem _ mw_565)) (by decide) (List.mem_cons_of_mem _ mw_42) (List.mem_cons_of_mem _ mw_563) (by decide +kernel) (List.mem_cons_of_mem _ mw_564) rfl) <|
  am_fa (sn_if_eq (off := 16) (by decide +kernel) (by decide) rfl) <|
  am_fa (sn_aload_n (k := 0) (by decide +kernel) rfl rfl) <|
  am_fa (sn_getP (idx := 41) (ob := am_o50) (by decide +kernel) rfl (by decide) rfl hin_50 (List.mem_cons_of_mem _ mw_494) rfl) <|
  am_fa (sn_iconst (n := 5) (by decide +kernel) (by decide +kernel) rfl) <|
  am_fa (sn_iload_n (k := 1) (by decide +kernel) rfl rfl) <|
  am_fa (sn_imul (by decide +kernel) rfl) <|
  am_fa (sn_iload_n (k := 2) (by decide +kernel) rfl rfl) <|
  am_fa (sn_iadd (by decide +kernel) rfl) <|
  am_fa (sn_iald (by decide +kernel) rfl rfl rfl) <|
  am_fa (sn_goto (off := 4) (by decide +kernel) (by decide)) <|
  am_fa (sn_iconst (n := (-1)) (by decide +kernel) (by decide +kernel) rfl) <|
  am_fa (sn_iret (by decide +kernel) rfl) <|
  am_f0
theorem ct_91 : ∀ x ∈ am_c91, am_snd 91 x.1 x.2 :=
  am_fa (sn_iload_n (k := 1) (by decide +kernel) rfl rfl) <|
  am_fa (sn_callS (idx := 83) (by decide +kernel) rfl (hG 67 (List.mem_cons_of_mem _ mw_565)) (by decide) (List.mem_cons_of_mem _ mw_42) (List.mem_cons_of_mem _ mw_563) (by decide +kernel) (List.mem_cons_of_mem _ mw_564) rfl) <|
  am_fa (sn_if_eq (off := 41) (by decide +kernel) (by decide) rfl) <|
  am_fa (sn_iload_n (k := 2) (by decide +kernel) rfl rfl) <|
  am_fa (sn_callS (idx := 83) (by decide +kernel) rfl (hG 67 (List.mem_cons_of_mem _ mw_565)) (by decide) (List.mem_cons_of_mem _ mw_42) (List.mem_cons_of_mem _ mw_563) (by decide +kernel) (List.mem_cons_of_mem _ mw_564) rfl) <|
  am_fa (sn_if_eq (off := 34) (by decide +kernel) (by decide) rfl) <|
  am_fa (sn_aload_n (k := 0) (by decide +kernel) rfl rfl) <|
  am_fa (sn_getP (idx := 41) (ob := am_o50) (by decide +kernel) rfl (by decide) rfl hin_50 (List.mem_cons_of_mem _ mw_494) rfl) <|
  am_fa (sn_iconst (n := 5) (by decide +kernel) (by decide +kernel) rfl) <|
  am_fa (sn_iload_n (k := 1) (by decide +kernel) rfl rfl) <|
  am_fa (sn_imul (by decide +kernel) rfl) <|
  am_fa (sn_iload_n (k := 2) (by decide +kernel) rfl rfl) <|
  am_fa (sn_iadd (by decide +kernel) rfl) <|
  am_fa (sn_iald (by decide +kernel) rfl rfl rfl) <|
  am_fa (sn_if_le (off := 21) (by decide +kernel) (by decide) rfl) <|
  am_fa (sn_aload_n (k := 0) (by decide +kernel) rfl rfl) <|
  am_fa (sn_getI (idx := 102) (ob := am_o50) (by decide +kernel) rfl (by decide) rfl hin_50 (List.mem_cons_of_mem _ mw_483) rfl) <|
  am_fa (sn_aload_n (k := 0) (by decide +kernel) rfl rfl) <|
  am_fa (sn_getP (idx := 44) (ob := am_o50) (by decide +kernel) rfl (by decide) rfl hin_50 (List.mem_cons_of_mem _ mw_495) rfl) <|
  am_fa (sn_iconst (n := 5) (by decide +kernel) (by decide +kernel) rfl) <|
  am_fa (sn_iload_n (k := 1) (by decide +kernel) rfl rfl) <|
  am_fa (sn_imul (by decide +kernel) rfl) <|
  am_fa (sn_iload_n (k := 2) (by decide +kernel) rfl rfl) <|
  am_fa (sn_iadd (by decide +kernel) rfl) <|
  am_fa (sn_iald (by decide +kernel) rfl rfl rfl) <|
  am_fa (sn_isub (by decide +kernel) rfl) <|
  am_fa (sn_goto (off := 4) (by decide +kernel) (by decide)) <|
  am_fa (sn_iconst (n := (-1)) (by decide +kernel) (by decide +kernel) rfl) <|
  am_fa (sn_iret (by decide +kernel) rfl) <|
  am_f0
theorem ct_92 : ∀ x ∈ am_c92, am_snd 92 x.1 x.2 :=
  am_fa (sn_iload_n (k := 1) (by decide +kernel) rfl rfl) <|
  am_fa (sn_callS (idx := 83) (by decide +kernel) rfl (hG 67 (List.mem_cons_of_mem _ mw_565)) (by decide) (List.mem_cons_of_mem _ mw_42) (List.mem_cons_of_mem _ mw_563) (by decide +kernel) (List.mem_cons_of_mem _ mw_564) rfl) <|
  am_fa (sn_if_eq (off := 47) (by decide +kernel) (by decide) rfl) <|
  am_fa (sn_iload_n (k := 2) (by decide +kernel) rfl rfl) <|
  am_fa (sn_callS (idx := 83) (by decide +kernel) rfl (hG 67 (List.mem_cons_of_mem _ mw_565)) (by decide) (List.mem_cons_of_mem _ mw_42) (List.mem_cons_of_mem _ mw_563) (by decide +kernel) (List.mem_cons_of_mem _ mw_564) rfl) <|
  am_fa (sn_if_eq (off := 40) (by decide +kernel) (by decide) rfl) <|
  am_fa (sn_iload_n (k := 3) (by decide +kernel) rfl rfl) <|
  am_fa (sn_callS (idx := 83) (by decide +kernel) rfl (hG 67 (List.mem_cons_of_mem _ mw_565)) (by decide) (List.mem_cons_of_mem _ mw_42) (List.mem_cons_of_mem _ mw_563) (by decide +kernel) (List.mem_cons_of_mem _ mw_564) rfl) <|
  am_fa (sn_if_eq (off := 33) (by decide +kernel) (by decide) rfl) <|
  am_fa (sn_aload_n (k := 0) (by decide +kernel) rfl rfl) <|
  am_fa (sn_getP (idx := 41) (ob := am_o50) (by decide +kernel) rfl (by decide) rfl hin_50 (List.mem_cons_of_mem _ mw_494) rfl) <|
  am_fa (sn_iconst (n := 5) (by decide +kernel) (by decide +kernel) rfl) <|
  am_fa (sn_iload_n (k := 1) (by decide +kernel) rfl rfl) <|
  am_fa (sn_imul (by decide +kernel) rfl) <|
  am_fa (sn_iload_n (k := 2) (by decide +kernel) rfl rfl) <|
  am_fa (sn_iadd (by decide +kernel) rfl) <|
  am_fa (sn_iald (by decide +kernel) rfl rfl rfl) <|
  am_fa (sn_if_le (off := 20) (by decide +kernel) (by decide) rfl) <|
  am_fa (sn_aload_n (k := 0) (by decide +kernel) rfl rfl) <|
  am_fa (sn_getP (idx := 47) (ob := am_o50) (by decide +kernel) rfl (by decide) rfl hin_50 (List.mem_cons_of_mem _ mw_496) rfl) <|
  am_fa (sn_iconst (n := 5) (by decide +kernel) (by decide +kernel) rfl) <|
  am_fa (sn_iconst (n := 5) (by decide +kernel) (by decide +kernel) rfl) <|
  am_fa (sn_iload_n (k := 1) (by decide +kernel) rfl rfl) <|
  am_fa (sn_imul (by decide +kernel) rfl) <|
  am_fa (sn_iload_n (k := 2) (by decide +kernel) rfl rfl) <|
  am_fa (sn_iadd (by decide +kernel) rfl) <|
  am_fa (sn_imul (by decide +kernel) rfl) <|
  am_fa (sn_iload_n (k := 3) (by decide +kernel) rfl rfl) <|
  am_fa (sn_iadd (by decide +kernel) rfl) <|
  am_fa (sn_iald (by decide +kernel) rfl rfl rfl) <|
  am_fa (sn_goto (off := 4) (by decide +kernel) (by decide)) <|
  am_fa (sn_iconst (n := (-1)) (by decide +kernel) (by decide +kernel) rfl) <|
  am_fa (sn_iret (by decide +kernel) rfl) <|
  am_f0
theorem ct_93 : ∀ x ∈ am_c93, am_snd 93 x.1 x.2 :=
  am_fa (sn_aload_n (k := 0) (by decide +kernel) rfl rfl) <|
  am_fa (sn_iload_n (k := 1) (by decide +kernel) rfl rfl) <|
  am_fa (sn_iload_n (k := 2) (by decide +kernel) rfl rfl) <|
  am_fa (sn_callV (idx := 91) (ob := am_o50) (by decide +kernel) rfl (hG 68 (List.mem_cons_of_mem _ mw_585)) (by decide) (List.mem_cons_of_mem _ mw_42) (List.mem_cons_of_mem _ mw_582) (by decide +kernel) rfl rfl (List.mem_cons_of_mem _ mw_584) (List.mem_cons_of_mem _ mw_19) rfl) <|
  am_fa (sn_if_ne (off := 5) (by decide +kernel) (by decide) rfl) <|
  am_fa (sn_iconst (n := (-1)) (by decide +kernel) (by decide +kernel) rfl) <|
  am_fa (sn_iret (by decide +kernel) rfl) <|
  am_fa (sn_iconst (n := 0) (by decide +kernel) (by decide +kernel) rfl) <|
  am_fa (sn_istore_n (k := 3) (by decide +kernel) rfl (by decide) rfl) <|
  am_fa (sn_iconst (n := 0) (by decide +kernel) (by decide +kernel) rfl) <|
  am_fa (sn_istore (by decide +kernel) (by decide) rfl) <|
  am_fa (sn_iload (by decide +kernel) rfl) <|
  am_fa (sn_iconst (n := 5) (by decide +kernel) (by decide +kernel) rfl) <|
  am_fa (sn_icmp_ge (off := 35) (by decide +kernel) (by decide) rfl) <|
  am_fa (sn_aload_n (k := 0) (by decide +kernel) rfl rfl) <|
  am_fa (sn_getP (idx := 65) (ob := am_o50) (by decide +kernel) rfl (by decide) rfl hin_50 (List.mem_cons_of_mem _ mw_502) rfl) <|
  am_fa (sn_iconst (n := 5) (by decide +kernel) (by decide +kernel) rfl) <|
  am_fa (sn_iconst (n := 5) (by decide +kernel) (by decide +kernel) rfl) <|
  am_fa (sn_iload_n (k := 1) (by decide +kernel) rfl rfl) <|
  am_fa (sn_imul (by decide +kernel) rfl) <|
  am_fa (sn_iload_n (k := 2) (by decide +kernel) rfl rfl) <|
  am_fa (sn_iadd (by decide +kernel) rfl) <|
  am_fa (sn_imul (by decide +kernel) rfl) <|
  am_fa (sn_iload (by decide +kernel) rfl) <|
  am_fa (sn_iadd (by decide +kernel) rfl) <|
  am_fa (sn_zald (by decide +kernel) rfl rfl rfl) <|
  am_fa (sn_if_eq (off := 9) (by decide +kernel) (by decide) rfl) <|
  am_fa (sn_iload_n (k := 3) (by decide +kernel) rfl rfl) <|
  am_fa (sn_iconst (n := 1) (by decide +kernel) (by decide +kernel) rfl) <|
  am_fa (sn_iadd (by decide +kernel) rfl) <|
  am_fa (sn_goto (off := 4) (by decide +kernel) (by decide)) <|
  am_fa (sn_iload_n (k := 3) (by decide +kernel) rfl rfl) <|
  am_fa (sn_istore_n (k := 3) (by decide +kernel) rfl (by decide) rfl) <|
  am_fa (sn_iinc (i := 1) (by decide +kernel) (by decide +kernel) (by decide) rfl) <|
  am_fa (sn_goto (off := (-35)) (by decide +kernel) (by decide)) <|
  am_fa (sn_iload_n (k := 3) (by decide +kernel) rfl rfl) <|
  am_fa (sn_iret (by decide +kernel) rfl) <|
  am_f0
theorem ct_94 : ∀ x ∈ am_c94, am_snd 94 x.1 x.2 :=
  am_fa (sn_aload_n (k := 0) (by decide +kernel) rfl rfl) <|
  am_fa (sn_getP (idx := 41) (ob := am_o50) (by decide +kernel) rfl (by decide) rfl hin_50 (List.mem_cons_of_mem _ mw_494) rfl) <|
  am_fa (sn_iconst (n := 5) (by decide +kernel) (by decide +kernel) rfl) <|
  am_fa (sn_iload_n (k := 1) (by decide +kernel) rfl rfl) <|
  am_fa (sn_imul (by decide +kernel) rfl) <|
  am_fa (sn_iload_n (k := 2) (by decide +kernel) rfl rfl) <|
  am_fa (sn_iadd (by decide +kernel) rfl) <|
  am_fa (sn_iald (by decide +kernel) rfl rfl rfl) <|
  am_fa (sn_if_le (off := 37) (by decide +kernel) (by decide) rfl) <|
  am_fa (sn_aload_n (k := 0) (by decide +kernel) rfl rfl) <|
  am_fa (sn_getP (idx := 41) (ob := am_o50) (by decide +kernel) rfl (by decide) rfl hin_50 (List.mem_cons_of_mem _ mw_494) rfl) <|
  am_fa (sn_iconst (n := 5) (by decide +kernel) (by decide +kernel) rfl) <|
  am_fa (sn_iload_n (k := 1) (by decide +kernel) rfl rfl) <|
  am_fa (sn_imul (by decide +kernel) rfl) <|
  am_fa (sn_iload_n (k := 3) (by decide +kernel) rfl rfl) <|
  am_fa (sn_iadd (by decide +kernel) rfl) <|
  am_fa (sn_iald (by decide +kernel) rfl rfl rfl) <|
  am_fa (sn_if_le (off := 24) (by decide +kernel) (by decide) rfl) <|
  am_fa (sn_aload_n (k := 0) (by decide +kernel) rfl rfl) <|
  am_fa (sn_getP (idx := 47) (ob := am_o50) (by decide +kernel) rfl (by decide) rfl hin_50 (List.mem_cons_of_mem _ mw_496) rfl) <|
  am_fa (sn_iconst (n := 5) (by decide +kernel) (by decide +kernel) rfl) <|
  am_fa (sn_iconst (n := 5) (by decide +kernel) (by decide +kernel) rfl) <|
  am_fa (sn_iload_n (k := 1) (by decide +kernel) rfl rfl) <|
  am_fa (sn_imul (by decide +kernel) rfl) <|
  am_fa (sn_iload_n (k := 3) (by decide +kernel) rfl rfl) <|
  am_fa (sn_iadd (by decide +kernel) rfl) <|
  am_fa (sn_imul (by decide +kernel) rfl) <|
  am_fa (sn_iload_n (k := 2) (by decide +kernel) rfl rfl) <|
  am_fa (sn_iadd (by decide +kernel) rfl) <|
  am_fa (sn_iald (by decide +kernel) rfl rfl rfl) <|
  am_fa (sn_if_le (off := 7) (by decide +kernel) (by decide) rfl) <|
  am_fa (sn_iconst (n := 1) (by decide +kernel) (by decide +kernel) rfl) <|
  am_fa (sn_goto (off := 4) (by decide +kernel) (by decide)) <|
  am_fa (sn_iconst (n := 0) (by decide +kernel) (by decide +kernel) rfl) <|
  am_fa (sn_istore (by decide +kernel) (by decide) rfl) <|
  am_fa (sn_aload_n (k := 0) (by decide +kernel) rfl rfl) <|
  am_fa (sn_getP (idx := 47) (ob := am_o50) (by decide +kernel) rfl (by decide) rfl hin_50 (List.mem_cons_of_mem _ mw_496) rfl) <|
  am_fa (sn_iconst (n := 5) (by decide +kernel) (by decide +kernel) rfl) <|
  am_fa (sn_iconst (n := 5) (by decide +kernel) (by decide +kernel) rfl) <|
  am_fa (sn_iload_n (k := 1) (by decide +kernel) rfl rfl) <|
  am_fa (sn_imul (by decide +kernel) rfl) <|
  am_fa (sn_iload_n (k := 2) (by decide +kernel) rfl rfl) <|
  am_fa (sn_iadd (by decide +kernel) rfl) <|
  am_fa (sn_imul (by decide +kernel) rfl) <|
  am_fa (sn_iload_n (k := 3) (by decide +kernel) rfl rfl) <|
  am_fa (sn_iadd (by decide +kernel) rfl) <|
  am_fa (sn_iald (by decide +kernel) rfl rfl rfl) <|
  am_fa (sn_istore (by decide +kernel) (by decide) rfl) <|
  am_fa (sn_iload (by decide +kernel) rfl) <|
  am_fa (sn_if_eq (off := 13) (by decide +kernel) (by decide) rfl) <|
  am_fa (sn_iload (by decide +kernel) rfl) <|
  am_fa (sn_if_le (off := 8) (by decide +kernel) (by decide) rfl) <|
  am_fa (sn_iload (by decide +kernel) rfl) <|
  am_fa (sn_goto (off := 6) (by decide +kernel) (by decide)) <|
  am_fa (sn_sipush (n := 1000) (by decide +kernel) (by decide +kernel) rfl) <|
  am_fa (sn_iret (by decide +kernel) rfl) <|
  am_f0
theorem ct_95 : ∀ x ∈ am_c95, am_snd 95 x.1 x.2 :=
  am_fa (sn_iconst (n := 0) (by decide +kernel) (by decide +kernel) rfl) <|
  am_fa (sn_istore_n (k := 2) (by decide +kernel) rfl (by decide) rfl) <|
  am_fa (sn_iload_n (k := 2) (by decide +kernel) rfl rfl) <|
  am_fa (sn_bipush (n := 25) (by decide +kernel) (by decide +kernel) rfl) <|
  am_fa (sn_icmp_ge (off := 37) (by decide +kernel) (by decide) rfl) <|
  am_fa (sn_aload_n (k := 0) (by decide +kernel) rfl rfl) <|
  am_fa (sn_getP (idx := 80) (ob := am_o50) (by decide +kernel) rfl (by decide) rfl hin_50 (List.mem_cons_of_mem _ mw_507) rfl) <|
  am_fa (sn_iload_n (k := 2) (by decide +kernel) rfl rfl) <|
  am_fa (sn_iload_n (k := 2) (by decide +kernel) rfl rfl) <|
  am_fa (sn_bipush (n := 6) (by decide +kernel) (by decide +kernel) rfl) <|
  am_fa (sn_irem (by decide +kernel) rfl) <|
  am_fa (sn_if_ne (off := 7) (by decide +kernel) (by decide) rfl) <|
  am_fa (sn_iconst (n := 0) (by decide +kernel) (by decide +kernel) rfl) <|
  am_fa (sn_goto (off := 14) (by decide +kernel) (by decide)) <|
  am_fa (sn_aload_n (k := 0) (by decide +kernel) rfl rfl) <|
  am_fa (sn_iload_n (k := 1) (by decide +kernel) rfl rfl) <|
  am_fa (sn_iload_n (k := 2) (by decide +kernel) rfl rfl) <|
  am_fa (sn_iconst (n := 5) (by decide +kernel) (by decide +kernel) rfl) <|
  am_fa (sn_idiv (by decide +kernel) rfl) <|
  am_fa (sn_iload_n (k := 2) (by decide +kernel) rfl rfl) <|
  am_fa (sn_iconst (n := 5) (by decide +kernel) (by decide +kernel) rfl) <|
  am_fa (sn_irem (by decide +kernel) rfl) <|
  am_fa (sn_callV (idx := 145) (ob := am_o50) (by decide +kernel) rfl (hG 94 (List.mem_cons_of_mem _ mw_677)) (by decide) (List.mem_cons_of_mem _ mw_42) (List.mem_cons_of_mem _ mw_674) (by decide +kernel) rfl rfl (List.mem_cons_of_mem _ mw_676) (List.mem_cons_of_mem _ mw_35) rfl) <|
  am_fa (sn_iast (by decide +kernel) rfl rfl rfl) <|
  am_fa (sn_iinc (i := 1) (by decide +kernel) (by decide +kernel) (by decide) rfl) <|
  am_fa (sn_goto (off := (-37)) (by decide +kernel) (by decide)) <|
  am_fa (sn_iconst (n := 0) (by decide +kernel) (by decide +kernel) rfl) <|
  am_fa (sn_istore_n (k := 2) (by decide +kernel) rfl (by decide) rfl) <|
  am_fa (sn_iload_n (k := 2) (by decide +kernel) rfl rfl) <|
  am_fa (sn_iconst (n := 5) (by decide +kernel) (by decide +kernel) rfl) <|
  am_fa (sn_icmp_ge (off := 78) (by decide +kernel) (by decide) rfl) <|
  am_fa (sn_iconst (n := 0) (by decide +kernel) (by decide +kernel) rfl) <|
  am_fa (sn_istore_n (k := 3) (by decide +kernel) rfl (by decide) rfl) <|
  am_fa (sn_iload_n (k := 3) (by decide +kernel) rfl rfl) <|
  am_fa (sn_bipush (n := 25) (by decide +kernel) (by decide +kernel) rfl) <|
  am_fa (sn_icmp_ge (off := 64) (by decide +kernel) (by decide) rfl) <|
  am_fa (sn_aload_n (k := 0) (by decide +kernel) rfl rfl) <|
  am_fa (sn_getP (idx := 80) (ob := am_o50) (by decide +kernel) rfl (by decide) rfl hin_50 (List.mem_cons_of_mem _ mw_507) rfl) <|
  am_fa (sn_iload_n (k := 3) (by decide +kernel) rfl rfl) <|
  am_fa (sn_iconst (n := 5) (by decide +kernel) (by decide +kernel) rfl) <|
  am_fa (sn_idiv (by decide +kernel) rfl) <|
  am_fa (sn_iconst (n := 5) (by decide +kernel) (by decide +kernel) rfl) <|
  am_fa (sn_imul (by decide +kernel) rfl) <|
  am_fa (sn_iload_n (k := 2) (by decide +kernel) rfl rfl) <|
  am_fa (sn_iadd (by decide +kernel) rfl) <|
  am_fa (sn_iald (by decide +kernel) rfl rfl rfl) <|
  am_fa (sn_aload_n (k := 0) (by decide +kernel) rfl rfl) <|
  am_fa (sn_getP (idx := 80) (ob := am_o50) (by decide +kernel) rfl (by decide) rfl hin_50 (List.mem_cons_of_mem _ mw_507) rfl) <|
  am_fa (sn_iconst (n := 5) (by decide +kernel) (by decide +kernel) rfl) <|
  am_fa (sn_iload_n (k := 2) (by decide +kernel) rfl rfl) <|
  am_fa (sn_imul (by decide +kernel) rfl) <|
  am_fa (sn_iload_n (k := 3) (by decide +kernel) rfl rfl) <|
  am_fa (sn_iconst (n := 5) (by decide +kernel) (by decide +kernel) rfl) <|
  am_fa (sn_irem (by decide +kernel) rfl) <|
  am_fa (sn_iadd (by decide +kernel) rfl) <|
  am_fa (sn_iald (by decide +kernel) rfl rfl rfl) <|
  am_fa (sn_iadd (by decide +kernel) rfl) <|
  am_fa (sn_istore (by decide +kernel) (by decide) rfl) <|
  am_fa (sn_aload_n (k := 0) (by decide +kernel) rfl rfl) <|
  am_fa (sn_getP (idx := 80) (ob := am_o50) (by decide +kernel) rfl (by decide) rfl hin_50 (List.mem_cons_of_mem _ mw_507) rfl) <|
  am_fa (sn_iload_n (k := 3) (by decide +kernel) rfl rfl) <|
  am_fa (sn_iload (by decide +kernel) rfl) <|
  am_fa (sn_aload_n (k := 0) (by decide +kernel) rfl rfl) <|
  am_fa (sn_getP (idx := 80) (ob := am_o50) (by decide +kernel) rfl (by decide) rfl hin_50 (List.mem_cons_of_mem _ mw_507) rfl) <|
  am_fa (sn_iload_n (k := 3) (by decide +kernel) rfl rfl) <|
  am_fa (sn_iald (by decide +kernel) rfl rfl rfl) <|
  am_fa (sn_icmp_ge (off := 8) (by decide +kernel) (by decide) rfl) <|
  am_fa (sn_iload (by decide +kernel) rfl) <|
  am_fa (sn_goto (off := 9) (by decide +kernel) (by decide)) <|
  am_fa (sn_aload_n (k := 0) (by decide +kernel) rfl rfl) <|
  am_fa (sn_getP (idx := 80) (ob := am_o50) (by decide +kernel) rfl (by decide) rfl hin_50 (List.mem_cons_of_mem _ mw_507) rfl) <|
  am_fa (sn_iload_n (k := 3) (by decide +kernel) rfl rfl) <|
  am_fa (sn_iald (by decide +kernel) rfl rfl rfl) <|
  am_fa (sn_iast (by decide +kernel) rfl rfl rfl) <|
  am_fa (sn_iinc (i := 1) (by decide +kernel) (by decide +kernel) (by decide) rfl) <|
  am_fa (sn_goto (off := (-64)) (by decide +kernel) (by decide)) <|
  am_fa (sn_iinc (i := 1) (by decide +kernel) (by decide +kernel) (by decide) rfl) <|
  am_fa (sn_goto (off := (-77)) (by decide +kernel) (by decide)) <|
  am_fa (sn_ret (by decide +kernel) rfl) <|
  am_f0
theorem ct_96 : ∀ x ∈ am_c96, am_snd 96 x.1 x.2 :=
  am_fa (sn_iload_n (k := 1) (by decide +kernel) rfl rfl) <|
  am_fa (sn_callS (idx := 83) (by decide +kernel) rfl (hG 67 (List.mem_cons_of_mem _ mw_565)) (by decide) (List.mem_cons_of_mem _ mw_42) (List.mem_cons_of_mem _ mw_563) (by decide +kernel) (List.mem_cons_of_mem _ mw_564) rfl) <|
  am_fa (sn_if_eq (off := 19) (by decide +kernel) (by decide) rfl) <|
  am_fa (sn_iload_n (k := 2) (by decide +kernel) rfl rfl) <|
  am_fa (sn_callS (idx := 83) (by decide +kernel) rfl (hG 67 (List.mem_cons_of_mem _ mw_565)) (by decide) (List.mem_cons_of_mem _ mw_42) (List.mem_cons_of_mem _ mw_563) (by decide +kernel) (List.mem_cons_of_mem _ mw_564) rfl) <|
  am_fa (sn_if_eq (off := 12) (by decide +kernel) (by decide) rfl) <|
  am_fa (sn_aload_n (k := 0) (by decide +kernel) rfl rfl) <|
  am_fa (sn_getP (idx := 7) (ob := am_o50) (by decide +kernel) rfl (by decide) rfl hin_50 (List.mem_cons_of_mem _ mw_484) rfl) <|
  am_fa (sn_iload_n (k := 1) (by decide +kernel) rfl rfl) <|
  am_fa (sn_zald (by decide +kernel) rfl rfl rfl) <|
  am_fa (sn_if_eq (off := 5) (by decide +kernel) (by decide) rfl) <|
  am_fa (sn_iconst (n := (-1)) (by decide +kernel) (by decide +kernel) rfl) <|
  am_fa (sn_iret (by decide +kernel) rfl) <|
  am_fa (sn_aload_n (k := 0) (by decide +kernel) rfl rfl) <|
  am_fa (sn_iload_n (k := 1) (by decide +kernel) rfl rfl) <|
  am_fa (sn_callV (idx := 149) (ob := am_o50) (by decide +kernel) rfl (hG 95 (List.mem_cons_of_mem _ mw_673)) (by decide) (List.mem_cons_of_mem _ mw_42) (List.mem_cons_of_mem _ mw_670) (by decide +kernel) rfl rfl (List.mem_cons_of_mem _ mw_672) (List.mem_cons_of_mem _ mw_34) rfl) <|
  am_fa (sn_aload_n (k := 0) (by decide +kernel) rfl rfl) <|
  am_fa (sn_getP (idx := 80) (ob := am_o50) (by decide +kernel) rfl (by decide) rfl hin_50 (List.mem_cons_of_mem _ mw_507) rfl) <|
  am_fa (sn_iconst (n := 5) (by decide +kernel) (by decide +kernel) rfl) <|
  am_fa (sn_iload_n (k := 1) (by decide +kernel) rfl rfl) <|
  am_fa (sn_imul (by decide +kernel) rfl) <|
  am_fa (sn_iload_n (k := 2) (by decide +kernel) rfl rfl) <|
  am_fa (sn_iadd (by decide +kernel) rfl) <|
  am_fa (sn_iald (by decide +kernel) rfl rfl rfl) <|
  am_fa (sn_sipush (n := 1000) (by decide +kernel) (by decide +kernel) rfl) <|
  am_fa (sn_icmp_ge (off := 16) (by decide +kernel) (by decide) rfl) <|
  am_fa (sn_aload_n (k := 0) (by decide +kernel) rfl rfl) <|
  am_fa (sn_getP (idx := 80) (ob := am_o50) (by decide +kernel) rfl (by decide) rfl hin_50 (List.mem_cons_of_mem _ mw_507) rfl) <|
  am_fa (sn_iconst (n := 5) (by decide +kernel) (by decide +kernel) rfl) <|
  am_fa (sn_iload_n (k := 1) (by decide +kernel) rfl rfl) <|
  am_fa (sn_imul (by decide +kernel) rfl) <|
  am_fa (sn_iload_n (k := 2) (by decide +kernel) rfl rfl) <|
  am_fa (sn_iadd (by decide +kernel) rfl) <|
  am_fa (sn_iald (by decide +kernel) rfl rfl rfl) <|
  am_fa (sn_goto (off := 4) (by decide +kernel) (by decide)) <|
  am_fa (sn_iconst (n := (-1)) (by decide +kernel) (by decide +kernel) rfl) <|
  am_fa (sn_iret (by decide +kernel) rfl) <|
  am_f0
theorem ct_97 : ∀ x ∈ am_c97, am_snd 97 x.1 x.2 :=
  am_fa (sn_iload_n (k := 1) (by decide +kernel) rfl rfl) <|
  am_fa (sn_callS (idx := 83) (by decide +kernel) rfl (hG 67 (List.mem_cons_of_mem _ mw_565)) (by decide) (List.mem_cons_of_mem _ mw_42) (List.mem_cons_of_mem _ mw_563) (by decide +kernel) (List.mem_cons_of_mem _ mw_564) rfl) <|
  am_fa (sn_if_eq (off := 24) (by decide +kernel) (by decide) rfl) <|
  am_fa (sn_iload_n (k := 2) (by decide +kernel) rfl rfl) <|
  am_fa (sn_callS (idx := 83) (by decide +kernel) rfl (hG 67 (List.mem_cons_of_mem _ mw_565)) (by decide) (List.mem_cons_of_mem _ mw_42) (List.mem_cons_of_mem _ mw_563) (by decide +kernel) (List.mem_cons_of_mem _ mw_564) rfl) <|
  am_fa (sn_if_eq (off := 17) (by decide +kernel) (by decide) rfl) <|
  am_fa (sn_aload_n (k := 0) (by decide +kernel) rfl rfl) <|
  am_fa (sn_getP (idx := 7) (ob := am_o50) (by decide +kernel) rfl (by decide) rfl hin_50 (List.mem_cons_of_mem _ mw_484) rfl) <|
  am_fa (sn_iload_n (k := 1) (by decide +kernel) rfl rfl) <|
  am_fa (sn_zald (by decide +kernel) rfl rfl rfl) <|
  am_fa (sn_if_ne (off := 8) (by decide +kernel) (by decide) rfl) <|
  am_fa (sn_iload_n (k := 1) (by decide +kernel) rfl rfl) <|
  am_fa (sn_iload_n (k := 2) (by decide +kernel) rfl rfl) <|
  am_fa (sn_icmp_ne (off := 5) (by decide +kernel) (by decide) rfl) <|
  am_fa (sn_iconst (n := (-1)) (by decide +kernel) (by decide +kernel) rfl) <|
  am_fa (sn_iret (by decide +kernel) rfl) <|
  am_fa (sn_aload_n (k := 0) (by decide +kernel) rfl rfl) <|
  am_fa (sn_iload_n (k := 1) (by decide +kernel) rfl rfl) <|
  am_fa (sn_callV (idx := 149) (ob := am_o50) (by decide +kernel) rfl (hG 95 (List.mem_cons_of_mem _ mw_673)) (by decide) (List.mem_cons_of_mem _ mw_42) (List.mem_cons_of_mem _ mw_670) (by decide +kernel) rfl rfl (List.mem_cons_of_mem _ mw_672) (List.mem_cons_of_mem _ mw_34) rfl) <|
  am_fa (sn_iconst (n := (-1)) (by decide +kernel) (by decide +kernel) rfl) <|
  am_fa (sn_istore_n (k := 3) (by decide +kernel) rfl (by decide) rfl) <|
  am_fa (sn_iconst (n := 4) (by decide +kernel) (by decide +kernel) rfl) <|
  am_fa (sn_istore (by decide +kernel) (by decide) rfl) <|
  am_fa (sn_iload (by decide +kernel) rfl) <|
  am_fa (sn_if_lt (off := 89) (by decide +kernel) (by decide) rfl) <|
  am_fa (sn_iload (by decide +kernel) rfl) <|
  am_fa (sn_iload_n (k := 1) (by decide +kernel) rfl rfl) <|
  am_fa (sn_icmp_ne (off := 9) (by decide +kernel) (by decide) rfl) <|
  am_fa (sn_sipush (n := 1000) (by decide +kernel) (by decide +kernel) rfl) <|
  am_fa (sn_goto (off := 11) (by decide +kernel) (by decide)) <|
  am_fa (sn_aload_n (k := 0) (by decide +kernel) rfl rfl) <|
  am_fa (sn_iload_n (k := 1) (by decide +kernel) rfl rfl) <|
  am_fa (sn_iload_n (k := 1) (by decide +kernel) rfl rfl) <|
  am_fa (sn_iload (by decide +kernel) rfl) <|
  am_fa (sn_callV (idx := 145) (ob := am_o50) (by decide +kernel) rfl (hG 94 (List.mem_cons_of_mem _ mw_677)) (by decide) (List.mem_cons_of_mem _ mw_42) (List.mem_cons_of_mem _ mw_674) (by decide +kernel) rfl rfl (List.mem_cons_of_mem _ mw_676) (List.mem_cons_of_mem _ mw_35) rfl) <|
  am_fa (sn_istore (by decide +kernel) (by decide) rfl) <|
  am_fa (sn_aload_n (k := 0) (by decide +kernel) rfl rfl) <|
  am_fa (sn_getP (idx := 80) (ob := am_o50) (by decide +kernel) rfl (by decide) rfl hin_50 (List.mem_cons_of_mem _ mw_507) rfl) <|
  am_fa (sn_iconst (n := 5) (by decide +kernel) (by decide +kernel) rfl) <|
  am_fa (sn_iload_n (k := 1) (by decide +kernel) rfl rfl) <|
  am_fa (sn_imul (by decide +kernel) rfl) <|
  am_fa (sn_iload_n (k := 2) (by decide +kernel) rfl rfl) <|
  am_fa (sn_iadd (by decide +kernel) rfl) <|
  am_fa (sn_iald (by decide +kernel) rfl rfl rfl) <|
  am_fa (sn_sipush (n := 1000) (by decide +kernel) (by decide +kernel) rfl) <|
  am_fa (sn_icmp_ge (off := 43) (by decide +kernel) (by decide) rfl) <|
  am_fa (sn_iload (by decide +kernel) rfl) <|
  am_fa (sn_sipush (n := 1000) (by decide +kernel) (by decide +kernel) rfl) <|
  am_fa (sn_icmp_ge (off := 35) (by decide +kernel) (by decide) rfl) <|
  am_fa (sn_iload (by decide +kernel) rfl) <|
  am_fa (sn_aload_n (k := 0) (by decide +kernel) rfl rfl) <|
  am_fa (sn_getP (idx := 80) (ob := am_o50) (by decide +kernel) rfl (by decide) rfl hin_50 (List.mem_cons_of_mem _ mw_507) rfl) <|
  am_fa (sn_iconst (n := 5) (by decide +kernel) (by decide +kernel) rfl) <|
  am_fa (sn_iload (by decide +kernel) rfl) <|
  am_fa (sn_imul (by decide +kernel) rfl) <|
  am_fa (sn_iload_n (k := 2) (by decide +kernel) rfl rfl) <|
  am_fa (sn_iadd (by decide +kernel) rfl) <|
  am_fa (sn_iald (by decide +kernel) rfl rfl rfl) <|
  am_fa (sn_iadd (by decide +kernel) rfl) <|
  am_fa (sn_aload_n (k := 0) (by decide +kernel) rfl rfl) <|
  am_fa (sn_getP (idx := 80) (ob := am_o50) (by decide +kernel) rfl (by decide) rfl hin_50 (List.mem_cons_of_mem _ mw_507) rfl) <|
  am_fa (sn_iconst (n := 5) (by decide +kernel) (by decide +kernel) rfl) <|
  am_fa (sn_iload_n (k := 1) (by decide +kernel) rfl rfl) <|
  am_fa (sn_imul (by decide +kernel) rfl) <|
  am_fa (sn_iload_n (k := 2) (by decide +kernel) rfl rfl) <|
  am_fa (sn_iadd (by decide +kernel) rfl) <|
  am_fa (sn_iald (by decide +kernel) rfl rfl rfl) <|
  am_fa (sn_icmp_ne (off := 8) (by decide +kernel) (by decide) rfl) <|
  am_fa (sn_iload (by decide +kernel) rfl) <|
  am_fa (sn_goto (off := 4) (by decide +kernel) (by decide)) <|
  am_fa (sn_iload_n (k := 3) (by decide +kernel) rfl rfl) <|
  am_fa (sn_istore_n (k := 3) (by decide +kernel) rfl (by decide) rfl) <|
  am_fa (sn_iinc (i := (-1)) (by decide +kernel) (by decide +kernel) (by decide) rfl) <|
  am_fa (sn_goto (off := (-88)) (by decide +kernel) (by decide)) <|
  am_fa (sn_iload_n (k := 3) (by decide +kernel) rfl rfl) <|
  am_fa (sn_iret (by decide +kernel) rfl) <|
  am_f0
set_option maxRecDepth 100000 in
theorem ct_98 : ∀ x ∈ am_c98, am_snd 98 x.1 x.2 :=
  am_fa (sn_iload_n (k := 1) (by decide +kernel) rfl rfl) <|
  am_fa (sn_callS (idx := 83) (by decide +kernel) rfl (hG 67 (List.mem_cons_of_mem _ mw_565)) (by decide) (List.mem_cons_of_mem _ mw_42) (List.mem_cons_of_mem _ mw_563) (by decide +kernel) (List.mem_cons_of_mem _ mw_564) rfl) <|
  am_fa (sn_if_eq (off := 23) (by decide +kernel) (by decide) rfl) <|
  am_fa (sn_aload_n (k := 0) (by decide +kernel) rfl rfl) <|
  am_fa (sn_getP (idx := 7) (ob := am_o50) (by decide +kernel) rfl (by decide) rfl hin_50 (List.mem_cons_of_mem _ mw_484) rfl) <|
  am_fa (sn_iload_n (k := 1) (by decide +kernel) rfl rfl) <|
  am_fa (sn_zald (by decide +kernel) rfl rfl rfl) <|
  am_fa (sn_if_ne (off := 14) (by decide +kernel) (by decide) rfl) <|
  am_fa (sn_iload_n (k := 2) (by decide +kernel) rfl rfl) <|
  am_fa (sn_if_lt (off := 10) (by decide +kernel) (by decide) rfl) <|
  am_fa (sn_iload_n (k := 2) (by decide +kernel) rfl rfl) <|
  am_fa (sn_sipush (n := 255) (by decide +kernel) (by decide +kernel) rfl) <|
  am_fa (sn_icmp_le (off := 5) (by decide +kernel) (by decide) rfl) <|
  am_fa (sn_iconst (n := (-1)) (by decide +kernel) (by decide +kernel) rfl) <|
  am_fa (sn_iret (by decide +kernel) rfl) <|
  am_fa (sn_aload_n (k := 0) (by decide +kernel) rfl rfl) <|
  am_fa (sn_iload_n (k := 1) (by decide +kernel) rfl rfl) <|
  am_fa (sn_callV (idx := 149) (ob := am_o50) (by decide +kernel) rfl (hG 95 (List.mem_cons_of_mem _ mw_673)) (by decide) (List.mem_cons_of_mem _ mw_42) (List.mem_cons_of_mem _ mw_670) (by decide +kernel) rfl rfl (List.mem_cons_of_mem _ mw_672) (List.mem_cons_of_mem _ mw_34) rfl) <|
  am_fa (sn_iconst (n := (-1)) (by decide +kernel) (by decide +kernel) rfl) <|
  am_fa (sn_istore_n (k := 3) (by decide +kernel) rfl (by decide) rfl) <|
  am_fa (sn_iconst (n := (-1)) (by decide +kernel) (by decide +kernel) rfl) <|
  am_fa (sn_istore (by decide +kernel) (by decide) rfl) <|
  am_fa (sn_iconst (n := 0) (by decide +kernel) (by decide +kernel) rfl) <|
  am_fa (sn_istore (by decide +kernel) (by decide) rfl) <|
  am_fa (sn_iconst (n := 0) (by decide +kernel) (by decide +kernel) rfl) <|
  am_fa (sn_istore (by decide +kernel) (by decide) rfl) <|
  am_fa (sn_iload (by decide +kernel) rfl) <|
  am_fa (sn_bipush (n := 10) (by decide +kernel) (by decide +kernel) rfl) <|
  am_fa (sn_icmp_ge (off := 184) (by decide +kernel) (by decide) rfl) <|
  am_fa (sn_iload (by decide +kernel) rfl) <|
  am_fa (sn_iconst (n := 2) (by decide +kernel) (by decide +kernel) rfl) <|
  am_fa (sn_idiv (by decide +kernel) rfl) <|
  am_fa (sn_istore (by decide +kernel) (by decide) rfl) <|
  am_fa (sn_iconst (n := 2) (by decide +kernel) (by decide +kernel) rfl) <|
  am_fa (sn_iconst (n := 5) (by decide +kernel) (by decide +kernel) rfl) <|
  am_fa (sn_iload_n (k := 1) (by decide +kernel) rfl rfl) <|
  am_fa (sn_imul (by decide +kernel) rfl) <|
  am_fa (sn_iload (by decide +kernel) rfl) <|
  am_fa (sn_iadd (by decide +kernel) rfl) <|
  am_fa (sn_imul (by decide +kernel) rfl) <|
  am_fa (sn_iload (by decide +kernel) rfl) <|
  am_fa (sn_iconst (n := 2) (by decide +kernel) (by decide +kernel) rfl) <|
  am_fa (sn_irem (by decide +kernel) rfl) <|
  am_fa (sn_iadd (by decide +kernel) rfl) <|
  am_fa (sn_istore (by decide +kernel) (by decide) rfl) <|
  am_fa (sn_aload_n (k := 0) (by decide +kernel) rfl rfl) <|
  am_fa (sn_getP (idx := 41) (ob := am_o50) (by decide +kernel) rfl (by decide) rfl hin_50 (List.mem_cons_of_mem _ mw_494) rfl) <|
  am_fa (sn_iconst (n := 5) (by decide +kernel) (by decide +kernel) rfl) <|
  am_fa (sn_iload_n (k := 1) (by decide +kernel) rfl rfl) <|
  am_fa (sn_imul (by decide +kernel) rfl) <|
  am_fa (sn_iload (by decide +kernel) rfl) <|
  am_fa (sn_iadd (by decide +kernel) rfl) <|
  am_fa (sn_iald (by decide +kernel) rfl rfl rfl) <|
  am_fa (sn_if_le (off := 67) (by decide +kernel) (by decide) rfl) <|
  am_fa (sn_aload_n (k := 0) (by decide +kernel) rfl rfl) <|
  am_fa (sn_getP (idx := 80) (ob := am_o50) (by decide +kernel) rfl (by decide) rfl hin_50 (List.mem_cons_of_mem _ mw_507) rfl) <|
  am_fa (sn_iconst (n := 5) (by decide +kernel) (by decide +kernel) rfl) <|
  am_fa (sn_iload_n (k := 1) (by decide +kernel) rfl rfl) <|
  am_fa (sn_imul (by decide +kernel) rfl) <|
  am_fa (sn_iload (by decide +kernel) rfl) <|
  am_fa (sn_iadd (by decide +kernel) rfl) <|
  am_fa (sn_iald (by decide +kernel) rfl rfl rfl) <|
  am_fa (sn_sipush (n := 1000) (by decide +kernel) (by decide +kernel) rfl) <|
  am_fa (sn_icmp_ge (off := 50) (by decide +kernel) (by decide) rfl) <|
  am_fa (sn_aload_n (k := 0) (by decide +kernel) rfl rfl) <|
  am_fa (sn_getP (idx := 56) (ob := am_o50) (by decide +kernel) rfl (by decide) rfl hin_50 (List.mem_cons_of_mem _ mw_499) rfl) <|
  am_fa (sn_iload (by decide +kernel) rfl) <|
  am_fa (sn_iald (by decide +kernel) rfl rfl rfl) <|
  am_fa (sn_if_le (off := 40) (by decide +kernel) (by decide) rfl) <|
  am_fa (sn_iload_n (k := 2) (by decide +kernel) rfl rfl) <|
  am_fa (sn_bipush (n := 8) (by decide +kernel) (by decide +kernel) rfl) <|
  am_fa (sn_aload_n (k := 0) (by decide +kernel) rfl rfl) <|
  am_fa (sn_getP (idx := 53) (ob := am_o50) (by decide +kernel) rfl (by decide) rfl hin_50 (List.mem_cons_of_mem _ mw_498) rfl) <|
  am_fa (sn_iload (by decide +kernel) rfl) <|
  am_fa (sn_iald (by decide +kernel) rfl rfl rfl) <|
  am_fa (sn_isub (by decide +kernel) rfl) <|
  am_fa (sn_ishr (by decide +kernel) rfl) <|
  am_fa (sn_aload_n (k := 0) (by decide +kernel) rfl rfl) <|
  am_fa (sn_getP (idx := 50) (ob := am_o50) (by decide +kernel) rfl (by decide) rfl hin_50 (List.mem_cons_of_mem _ mw_497) rfl) <|
  am_fa (sn_iload (by decide +kernel) rfl) <|
  am_fa (sn_iald (by decide +kernel) rfl rfl rfl) <|
  am_fa (sn_bipush (n := 8) (by decide +kernel) (by decide +kernel) rfl) <|
  am_fa (sn_aload_n (k := 0) (by decide +kernel) rfl rfl) <|
  am_fa (sn_getP (idx := 53) (ob := am_o50) (by decide +kernel) rfl (by decide) rfl hin_50 (List.mem_cons_of_mem _ mw_498) rfl) <|
  am_fa (sn_iload (by decide +kernel) rfl) <|
  am_fa (sn_iald (by decide +kernel) rfl rfl rfl) <|
  am_fa (sn_isub (by decide +kernel) rfl) <|
  am_fa (sn_ishr (by decide +kernel) rfl) <|
  am_fa (sn_icmp_ne (off := 7) (by decide +kernel) (by decide) rfl) <|
  am_fa (sn_iconst (n := 1) (by decide +kernel) (by decide +kernel) rfl) <|
  am_fa (sn_goto (off := 4) (by decide +kernel) (by decide)) <|
  am_fa (sn_iconst (n := 0) (by decide +kernel) (by decide +kernel) rfl) <|
  am_fa (sn_istore (by decide +kernel) (by decide) rfl) <|
  am_fa (sn_aload_n (k := 0) (by decide +kernel) rfl rfl) <|
  am_fa (sn_getP (idx := 80) (ob := am_o50) (by decide +kernel) rfl (by decide) rfl hin_50 (List.mem_cons_of_mem _ mw_507) rfl) <|
  am_fa (sn_iconst (n := 5) (by decide +kernel) (by decide +kernel) rfl) <|
  am_fa (sn_iload_n (k := 1) (by decide +kernel) rfl rfl) <|
  am_fa (sn_imul (by decide +kernel) rfl) <|
  am_fa (sn_iload (by decide +kernel) rfl) <|
  am_fa (sn_iadd (by decide +kernel) rfl) <|
  am_fa (sn_iald (by decide +kernel) rfl rfl rfl) <|
  am_fa (sn_aload_n (k := 0) (by decide +kernel) rfl rfl) <|
  am_fa (sn_getP (idx := 56) (ob := am_o50) (by decide +kernel) rfl (by decide) rfl hin_50 (List.mem_cons_of_mem _ mw_499) rfl) <|
  am_fa (sn_iload (by decide +kernel) rfl) <|
  am_fa (sn_iald (by decide +kernel) rfl rfl rfl) <|
  am_fa (sn_iadd (by decide +kernel) rfl) <|
  am_fa (sn_istore (by decide +kernel) (by decide) rfl) <|
  am_fa (sn_iload (by decide +kernel) rfl) <|
  am_fa (sn_if_eq (off := 50) (by decide +kernel) (by decide) rfl) <|
  am_fa (sn_aload_n (k := 0) (by decide +kernel) rfl rfl) <|
  am_fa (sn_getP (idx := 53) (ob := am_o50) (by decide +kernel) rfl (by decide) rfl hin_50 (List.mem_cons_of_mem _ mw_498) rfl) <|
  am_fa (sn_iload (by decide +kernel) rfl) <|
  am_fa (sn_iald (by decide +kernel) rfl rfl rfl) <|
  am_fa (sn_iload (by decide +kernel) rfl) <|
  am_fa (sn_icmp_gt (off := 22) (by decide +kernel) (by decide) rfl) <|
  am_fa (sn_aload_n (k := 0) (by decide +kernel) rfl rfl) <|
  am_fa (sn_getP (idx := 53) (ob := am_o50) (by decide +kernel) rfl (by decide) rfl hin_50 (List.mem_cons_of_mem _ mw_498) rfl) <|
  am_fa (sn_iload (by decide +kernel) rfl) <|
  am_fa (sn_iald (by decide +kernel) rfl rfl rfl) <|
  am_fa (sn_iload (by decide +kernel) rfl) <|
  am_fa (sn_icmp_ne (off := 26) (by decide +kernel) (by decide) rfl) <|
  am_fa (sn_iload (by decide +kernel) rfl) <|
  am_fa (sn_iload (by decide +kernel) rfl) <|
  am_fa (sn_icmp_ge (off := 19) (by decide +kernel) (by decide) rfl) <|
  am_fa (sn_iload (by decide +kernel) rfl) <|
  am_fa (sn_istore_n (k := 3) (by decide +kernel) rfl (by decide) rfl) <|
  am_fa (sn_aload_n (k := 0) (by decide +kernel) rfl rfl) <|
  am_fa (sn_getP (idx := 53) (ob := am_o50) (by decide +kernel) rfl (by decide) rfl hin_50 (List.mem_cons_of_mem _ mw_498) rfl) <|
  am_fa (sn_iload (by decide +kernel) rfl) <|
  am_fa (sn_iald (by decide +kernel) rfl rfl rfl) <|
  am_fa (sn_istore (by decide +kernel) (by decide) rfl) <|
  am_fa (sn_iload (by decide +kernel) rfl) <|
  am_fa (sn_istore (by decide +kernel) (by decide) rfl) <|
  am_fa (sn_iinc (i := 1) (by decide +kernel) (by decide +kernel) (by decide) rfl) <|
  am_fa (sn_goto (off := (-185)) (by decide +kernel) (by decide)) <|
  am_fa (sn_iload_n (k := 3) (by decide +kernel) rfl rfl) <|
  am_fa (sn_iret (by decide +kernel) rfl) <|
  am_f0
theorem ct_99 : ∀ x ∈ am_c99, am_snd 99 x.1 x.2 :=
  am_fa (sn_iload_n (k := 1) (by decide +kernel) rfl rfl) <|
  am_fa (sn_callS (idx := 83) (by decide +kernel) rfl (hG 67 (List.mem_cons_of_mem _ mw_565)) (by decide) (List.mem_cons_of_mem _ mw_42) (List.mem_cons_of_mem _ mw_563) (by decide +kernel) (List.mem_cons_of_mem _ mw_564) rfl) <|
  am_fa (sn_if_eq (off := 34) (by decide +kernel) (by decide) rfl) <|
  am_fa (sn_aload_n (k := 0) (by decide +kernel) rfl rfl) <|
  am_fa (sn_getP (idx := 7) (ob := am_o50) (by decide +kernel) rfl (by decide) rfl hin_50 (List.mem_cons_of_mem _ mw_484) rfl) <|
  am_fa (sn_iload_n (k := 1) (by decide +kernel) rfl rfl) <|
  am_fa (sn_zald (by decide +kernel) rfl rfl rfl) <|
  am_fa (sn_if_ne (off := 25) (by decide +kernel) (by decide) rfl) <|
  am_fa (sn_iload_n (k := 2) (by decide +kernel) rfl rfl) <|
  am_fa (sn_if_lt (off := 21) (by decide +kernel) (by decide) rfl) <|
  am_fa (sn_iload_n (k := 2) (by decide +kernel) rfl rfl) <|
  am_fa (sn_sipush (n := 255) (by decide +kernel) (by decide +kernel) rfl) <|
  am_fa (sn_icmp_gt (off := 14) (by decide +kernel) (by decide) rfl) <|
  am_fa (sn_iload_n (k := 3) (by decide +kernel) rfl rfl) <|
  am_fa (sn_iconst (n := 1) (by decide +kernel) (by decide +kernel) rfl) <|
  am_fa (sn_icmp_lt (off := 9) (by decide +kernel) (by decide) rfl) <|
  am_fa (sn_iload_n (k := 3) (by decide +kernel) rfl rfl) <|
  am_fa (sn_bipush (n := 15) (by decide +kernel) (by decide +kernel) rfl) <|
  am_fa (sn_icmp_le (off := 5) (by decide +kernel) (by decide) rfl) <|
  am_fa (sn_iconst (n := (-1)) (by decide +kernel) (by decide +kernel) rfl) <|
  am_fa (sn_iret (by decide +kernel) rfl) <|
  am_fa (sn_iload_n (k := 1) (by decide +kernel) rfl rfl) <|
  am_fa (sn_istore (by decide +kernel) (by decide) rfl) <|
  am_fa (sn_iload_n (k := 3) (by decide +kernel) rfl rfl) <|
  am_fa (sn_istore (by decide +kernel) (by decide) rfl) <|
  am_fa (sn_iconst (n := 0) (by decide +kernel) (by decide +kernel) rfl) <|
  am_fa (sn_istore (by decide +kernel) (by decide) rfl) <|
  am_fa (sn_iload (by decide +kernel) rfl) <|
  am_fa (sn_bipush (n := 16) (by decide +kernel) (by decide +kernel) rfl) <|
  am_fa (sn_icmp_ge (off := 104) (by decide +kernel) (by decide) rfl) <|
  am_fa (sn_aload_n (k := 0) (by decide +kernel) rfl rfl) <|
  am_fa (sn_iload (by decide +kernel) rfl) <|
  am_fa (sn_iload_n (k := 2) (by decide +kernel) rfl rfl) <|
  am_fa (sn_callV (idx := 152) (ob := am_o50) (by decide +kernel) rfl (hG 98 (List.mem_cons_of_mem _ mw_685)) (by decide) (List.mem_cons_of_mem _ mw_42) (List.mem_cons_of_mem _ mw_690) (by decide +kernel) rfl rfl (List.mem_cons_of_mem _ mw_683) (List.mem_cons_of_mem _ mw_684) rfl) <|
  am_fa (sn_istore (by decide +kernel) (by decide) rfl) <|
  am_fa (sn_iload (by decide +kernel) rfl) <|
  am_fa (sn_if_ge (off := 10) (by decide +kernel) (by decide) rfl) <|
  am_fa (sn_sipush (n := 300) (by decide +kernel) (by decide +kernel) rfl) <|
  am_fa (sn_iload (by decide +kernel) rfl) <|
  am_fa (sn_iadd (by decide +kernel) rfl) <|
  am_fa (sn_iret (by decide +kernel) rfl) <|
  am_fa (sn_iload (by decide +kernel) rfl) <|
  am_fa (sn_iload (by decide +kernel) rfl) <|
  am_fa (sn_icmp_ne (off := 9) (by decide +kernel) (by decide) rfl) <|
  am_fa (sn_bipush (n := 100) (by decide +kernel) (by decide +kernel) rfl) <|
  am_fa (sn_iload (by decide +kernel) rfl) <|
  am_fa (sn_iadd (by decide +kernel) rfl) <|
  am_fa (sn_iret (by decide +kernel) rfl) <|
  am_fa (sn_iload (by decide +kernel) rfl) <|
  am_fa (sn_iconst (n := 1) (by decide +kernel) (by decide +kernel) rfl) <|
  am_fa (sn_icmp_ne (off := 10) (by decide +kernel) (by decide) rfl) <|
  am_fa (sn_sipush (n := 200) (by decide +kernel) (by decide +kernel) rfl) <|
  am_fa (sn_iload (by decide +kernel) rfl) <|
  am_fa (sn_iadd (by decide +kernel) rfl) <|
  am_fa (sn_iret (by decide +kernel) rfl) <|
  am_fa (sn_iload (by decide +kernel) rfl) <|
  am_fa (sn_iconst (n := 1) (by decide +kernel) (by decide +kernel) rfl) <|
  am_fa (sn_isub (by decide +kernel) rfl) <|
  am_fa (sn_istore (by decide +kernel) (by decide) rfl) <|
  am_fa (sn_aload_n (k := 0) (by decide +kernel) rfl rfl) <|
  am_fa (sn_iload (by decide +kernel) rfl) <|
  am_fa (sn_iload (by decide +kernel) rfl) <|
  am_fa (sn_callV (idx := 156) (ob := am_o50) (by decide +kernel) rfl (hG 97 (List.mem_cons_of_mem _ mw_681)) (by decide) (List.mem_cons_of_mem _ mw_42) (List.mem_cons_of_mem _ mw_691) (by decide +kernel) rfl rfl (List.mem_cons_of_mem _ mw_679) (List.mem_cons_of_mem _ mw_680) rfl) <|
  am_fa (sn_istore (by decide +kernel) (by decide) rfl) <|
  am_fa (sn_aload_n (k := 0) (by decide +kernel) rfl rfl) <|
  am_fa (sn_iload (by decide +kernel) rfl) <|
  am_fa (sn_iload (by decide +kernel) rfl) <|
  am_fa (sn_callV (idx := 91) (ob := am_o50) (by decide +kernel) rfl (hG 68 (List.mem_cons_of_mem _ mw_585)) (by decide) (List.mem_cons_of_mem _ mw_42) (List.mem_cons_of_mem _ mw_582) (by decide +kernel) rfl rfl (List.mem_cons_of_mem _ mw_584) (List.mem_cons_of_mem _ mw_19) rfl) <|
  am_fa (sn_if_eq (off := 13) (by decide +kernel) (by decide) rfl) <|
  am_fa (sn_aload_n (k := 0) (by decide +kernel) rfl rfl) <|
  am_fa (sn_getP (idx := 7) (ob := am_o50) (by decide +kernel) rfl (by decide) rfl hin_50 (List.mem_cons_of_mem _ mw_484) rfl) <|
  am_fa (sn_iload (by decide +kernel) rfl) <|
  am_fa (sn_zald (by decide +kernel) rfl rfl rfl) <|
  am_fa (sn_if_eq (off := 10) (by decide +kernel) (by decide) rfl) <|
  am_fa (sn_sipush (n := 400) (by decide +kernel) (by decide +kernel) rfl) <|
  am_fa (sn_iload (by decide +kernel) rfl) <|
  am_fa (sn_iadd (by decide +kernel) rfl) <|
  am_fa (sn_iret (by decide +kernel) rfl) <|
  am_fa (sn_iload (by decide +kernel) rfl) <|
  am_fa (sn_istore (by decide +kernel) (by decide) rfl) <|
  am_fa (sn_iinc (i := 1) (by decide +kernel) (by decide +kernel) (by decide) rfl) <|
  am_fa (sn_goto (off := (-105)) (by decide +kernel) (by decide)) <|
  am_fa (sn_iconst (n := (-1)) (by decide +kernel) (by decide +kernel) rfl) <|
  am_fa (sn_iret (by decide +kernel) rfl) <|
  am_f0
theorem ct_100 : ∀ x ∈ am_c100, am_snd 100 x.1 x.2 :=
  am_fa (sn_iload_n (k := 1) (by decide +kernel) rfl rfl) <|
  am_fa (sn_if_lt (off := 9) (by decide +kernel) (by decide) rfl) <|
  am_fa (sn_iload_n (k := 1) (by decide +kernel) rfl rfl) <|
  am_fa (sn_bipush (n := 6) (by decide +kernel) (by decide +kernel) rfl) <|
  am_fa (sn_icmp_le (off := 7) (by decide +kernel) (by decide) rfl) <|
  am_fa (sn_iconst (n := (-1)) (by decide +kernel) (by decide +kernel) rfl) <|
  am_fa (sn_goto (off := 9) (by decide +kernel) (by decide)) <|
  am_fa (sn_aload_n (k := 0) (by decide +kernel) rfl rfl) <|
  am_fa (sn_getP (idx := 38) (ob := am_o50) (by decide +kernel) rfl (by decide) rfl hin_50 (List.mem_cons_of_mem _ mw_493) rfl) <|
  am_fa (sn_iload_n (k := 1) (by decide +kernel) rfl rfl) <|
  am_fa (sn_iald (by decide +kernel) rfl rfl rfl) <|
  am_fa (sn_iret (by decide +kernel) rfl) <|
  am_f0
set_option maxRecDepth 100000 in
theorem ct_101 : ∀ x ∈ am_c101, am_snd 101 x.1 x.2 :=
  am_fa (sn_new (idx := 7) (ob := am_o1) (by decide +kernel) rfl rfl (by decide) am_o1_dv am_o1_ty hin_1 (List.mem_cons_of_mem _ mw_46) (List.mem_cons_of_mem _ mw_47) (List.mem_cons_of_mem _ mw_37) rfl) <|
  am_fa (sn_dup (by decide +kernel) rfl) <|
  am_fa (sn_callI (idx := 9) (by decide +kernel) rfl (hG 32 (List.mem_cons_of_mem _ mw_50)) (by decide) (List.mem_cons_of_mem _ mw_37) (List.mem_cons_of_mem _ mw_48) (by decide +kernel) rfl rfl (List.mem_cons_of_mem _ mw_49) rfl) <|
  am_fa (sn_astore_n (k := 1) (by decide +kernel) rfl (by decide) rfl) <|
  am_fa (sn_new (idx := 10) (ob := am_o50) (by decide +kernel) rfl rfl (by decide) am_o50_dv am_o50_ty hin_50 (List.mem_cons_of_mem _ mw_477) (List.mem_cons_of_mem _ mw_478) (List.mem_cons_of_mem _ mw_42) rfl) <|
  am_fa (sn_dup (by decide +kernel) rfl) <|
  am_fa (sn_callI (idx := 12) (by decide +kernel) rfl (hG 66 (List.mem_cons_of_mem _ mw_481)) (by decide) (List.mem_cons_of_mem _ mw_42) (List.mem_cons_of_mem _ mw_479) (by decide +kernel) rfl rfl (List.mem_cons_of_mem _ mw_480) rfl) <|
  am_fa (sn_astore_n (k := 2) (by decide +kernel) rfl (by decide) rfl) <|
  am_fa (sn_iconst (n := 0) (by decide +kernel) (by decide +kernel) rfl) <|
  am_fa (sn_istore_n (k := 3) (by decide +kernel) rfl (by decide) rfl) <|
  am_fa (sn_iload_n (k := 3) (by decide +kernel) rfl rfl) <|
  am_fa (sn_aload_n (k := 0) (by decide +kernel) rfl rfl) <|
  am_fa (sn_slen (by decide +kernel) rfl rfl) <|
  am_fa (sn_bipush (n := 6) (by decide +kernel) (by decide +kernel) rfl) <|
  am_fa (sn_isub (by decide +kernel) rfl) <|
  am_fa (sn_icmp_gt (off := 651) (by decide +kernel) (by decide) rfl) <|
  am_fa (sn_aload_n (k := 0) (by decide +kernel) rfl rfl) <|
  am_fa (sn_iload_n (k := 3) (by decide +kernel) rfl rfl) <|
  am_fa (sn_sld (by decide +kernel) rfl rfl) <|
  am_fa (sn_bipush (n := 15) (by decide +kernel) (by decide +kernel) rfl) <|
  am_fa (sn_iand (by decide +kernel) rfl) <|
  am_fa (sn_switch (df := 636) (offs := #[75, 118, 181, 230, 273, 296, 329, 362, 395, 438, 471, 504, 537, 570, 613]) (len := 75) (by decide +kernel) (by decide) (by decide) (by decide)) <|
  am_fa (sn_aload_n (k := 1) (by decide +kernel) rfl rfl) <|
  am_fa (sn_aload_n (k := 0) (by decide +kernel) rfl rfl) <|
  am_fa (sn_iload_n (k := 3) (by decide +kernel) rfl rfl) <|
  am_fa (sn_iconst (n := 1) (by decide +kernel) (by decide +kernel) rfl) <|
  am_fa (sn_iadd (by decide +kernel) rfl) <|
  am_fa (sn_sld (by decide +kernel) rfl rfl) <|
  am_fa (sn_aload_n (k := 0) (by decide +kernel) rfl rfl) <|
  am_fa (sn_iload_n (k := 3) (by decide +kernel) rfl rfl) <|
  am_fa (sn_iconst (n := 2) (by decide +kernel) (by decide +kernel) rfl) <|
  am_fa (sn_iadd (by decide +kernel) rfl) <|
  am_fa (sn_sld (by decide +kernel) rfl rfl) <|
  am_fa (sn_aload_n (k := 0) (by decide +kernel) rfl rfl) <|
  am_fa (sn_iload_n (k := 3) (by decide +kernel) rfl rfl) <|
  am_fa (sn_iconst (n := 3) (by decide +kernel) (by decide +kernel) rfl) <|
  am_fa (sn_iadd (by decide +kernel) rfl) <|
  am_fa (sn_sld (by decide +kernel) rfl rfl) <|
  am_fa (sn_callV (idx := 13) (ob := am_o1) (by decide +kernel) rfl (hG 33 (List.mem_cons_of_mem _ mw_202)) (by decide) (List.mem_cons_of_mem _ mw_37) (List.mem_cons_of_mem _ mw_199) (by decide +kernel) rfl rfl (List.mem_cons_of_mem _ mw_200) (List.mem_cons_of_mem _ mw_201) rfl) <|
  am_fa (sn_aload_n (k := 2) (by decide +kernel) rfl rfl) <|
  am_fa (sn_aload_n (k := 0) (by decide +kernel) rfl rfl) <|
  am_fa (sn_iload_n (k := 3) (by decide +kernel) rfl rfl) <|
  am_fa (sn_iconst (n := 1) (by decide +kernel) (by decide +kernel) rfl) <|
  am_fa (sn_iadd (by decide +kernel) rfl) <|
  am_fa (sn_sld (by decide +kernel) rfl rfl) <|
  am_fa (sn_aload_n (k := 0) (by decide +kernel) rfl rfl) <|
  am_fa (sn_iload_n (k := 3) (by decide +kernel) rfl rfl) <|
  am_fa (sn_iconst (n := 2) (by decide +kernel) (by decide +kernel) rfl) <|
  am_fa (sn_iadd (by decide +kernel) rfl) <|
  am_fa (sn_sld (by decide +kernel) rfl rfl) <|
  am_fa (sn_aload_n (k := 0) (by decide +kernel) rfl rfl) <|
  am_fa (sn_iload_n (k := 3) (by decide +kernel) rfl rfl) <|
  am_fa (sn_iconst (n := 3) (by decide +kernel) (by decide +kernel) rfl) <|
  am_fa (sn_iadd (by decide +kernel) rfl) <|
  am_fa (sn_sld (by decide +kernel) rfl rfl) <|
  am_fa (sn_callV (idx := 17) (ob := am_o50) (by decide +kernel) rfl (hG 70 (List.mem_cons_of_mem _ mw_562)) (by decide) (List.mem_cons_of_mem _ mw_42) (List.mem_cons_of_mem _ mw_559) (by decide +kernel) rfl rfl (List.mem_cons_of_mem _ mw_560) (List.mem_cons_of_mem _ mw_561) rfl) <|
  am_fa (sn_icmp_eq (off := 523) (by decide +kernel) (by decide) rfl) <|
  am_fa (sn_iconst (n := 0) (by decide +kernel) (by decide +kernel) rfl) <|
  am_fa (sn_zret (by decide +kernel) rfl) <|
  am_fa (sn_aload_n (k := 1) (by decide +kernel) rfl rfl) <|
  am_fa (sn_aload_n (k := 0) (by decide +kernel) rfl rfl) <|
  am_fa (sn_iload_n (k := 3) (by decide +kernel) rfl rfl) <|
  am_fa (sn_iconst (n := 1) (by decide +kernel) (by decide +kernel) rfl) <|
  am_fa (sn_iadd (by decide +kernel) rfl) <|
  am_fa (sn_sld (by decide +kernel) rfl rfl) <|
  am_fa (sn_aload_n (k := 0) (by decide +kernel) rfl rfl) <|
  am_fa (sn_iload_n (k := 3) (by decide +kernel) rfl rfl) <|
  am_fa (sn_iconst (n := 2) (by decide +kernel) (by decide +kernel) rfl) <|
  am_fa (sn_iadd (by decide +kernel) rfl) <|
  am_fa (sn_sld (by decide +kernel) rfl rfl) <|
  am_fa (sn_aload_n (k := 0) (by decide +kernel) rfl rfl) <|
  am_fa (sn_iload_n (k := 3) (by decide +kernel) rfl rfl) <|
  am_fa (sn_iconst (n := 3) (by decide +kernel) (by decide +kernel) rfl) <|
  am_fa (sn_iadd (by decide +kernel) rfl) <|
  am_fa (sn_sld (by decide +kernel) rfl rfl) <|
  am_fa (sn_aload_n (k := 0) (by decide +kernel) rfl rfl) <|
  am_fa (sn_iload_n (k := 3) (by decide +kernel) rfl rfl) <|
  am_fa (sn_iconst (n := 4) (by decide +kernel) (by decide +kernel) rfl) <|
  am_fa (sn_iadd (by decide +kernel) rfl) <|
  am_fa (sn_sld (by decide +kernel) rfl rfl) <|
  am_fa (sn_aload_n (k := 0) (by decide +kernel) rfl rfl) <|
  am_fa (sn_iload_n (k := 3) (by decide +kernel) rfl rfl) <|
  am_fa (sn_iconst (n := 5) (by decide +kernel) (by decide +kernel) rfl) <|
  am_fa (sn_iadd (by decide +kernel) rfl) <|
  am_fa (sn_sld (by decide +kernel) rfl rfl) <|
  am_fa (sn_callV (idx := 18) (ob := am_o1) (by decide +kernel) rfl (hG 34 (List.mem_cons_of_mem _ mw_217)) (by decide) (List.mem_cons_of_mem _ mw_37) (List.mem_cons_of_mem _ mw_214) (by decide +kernel) rfl rfl (List.mem_cons_of_mem _ mw_215) (List.mem_cons_of_mem _ mw_216) rfl) <|
  am_fa (sn_aload_n (k := 2) (by decide +kernel) rfl rfl) <|
  am_fa (sn_aload_n (k := 0) (by decide +kernel) rfl rfl) <|
  am_fa (sn_iload_n (k := 3) (by decide +kernel) rfl rfl) <|
  am_fa (sn_iconst (n := 1) (by decide +kernel) (by decide +kernel) rfl) <|
  am_fa (sn_iadd (by decide +kernel) rfl) <|
  am_fa (sn_sld (by decide +kernel) rfl rfl) <|
  am_fa (sn_aload_n (k := 0) (by decide +kernel) rfl rfl) <|
  am_fa (sn_iload_n (k := 3) (by decide +kernel) rfl rfl) <|
  am_fa (sn_iconst (n := 2) (by decide +kernel) (by decide +kernel) rfl) <|
  am_fa (sn_iadd (by decide +kernel) rfl) <|
  am_fa (sn_sld (by decide +kernel) rfl rfl) <|
  am_fa (sn_aload_n (k := 0) (by decide +kernel) rfl rfl) <|
  am_fa (sn_iload_n (k := 3) (by decide +kernel) rfl rfl) <|
  am_fa (sn_iconst (n := 3) (by decide +kernel) (by decide +kernel) rfl) <|
  am_fa (sn_iadd (by decide +kernel) rfl) <|
  am_fa (sn_sld (by decide +kernel) rfl rfl) <|
  am_fa (sn_aload_n (k := 0) (by decide +kernel) rfl rfl) <|
  am_fa (sn_iload_n (k := 3) (by decide +kernel) rfl rfl) <|
  am_fa (sn_iconst (n := 4) (by decide +kernel) (by decide +kernel) rfl) <|
  am_fa (sn_iadd (by decide +kernel) rfl) <|
  am_fa (sn_sld (by decide +kernel) rfl rfl) <|
  am_fa (sn_aload_n (k := 0) (by decide +kernel) rfl rfl) <|
  am_fa (sn_iload_n (k := 3) (by decide +kernel) rfl rfl) <|
  am_fa (sn_iconst (n := 5) (by decide +kernel) (by decide +kernel) rfl) <|
  am_fa (sn_iadd (by decide +kernel) rfl) <|
  am_fa (sn_sld (by decide +kernel) rfl rfl) <|
  am_fa (sn_callV (idx := 22) (ob := am_o50) (by decide +kernel) rfl (hG 71 (List.mem_cons_of_mem _ mw_573)) (by decide) (List.mem_cons_of_mem _ mw_42) (List.mem_cons_of_mem _ mw_570) (by decide +kernel) rfl rfl (List.mem_cons_of_mem _ mw_571) (List.mem_cons_of_mem _ mw_572) rfl) <|
  am_fa (sn_icmp_eq (off := 460) (by decide +kernel) (by decide) rfl) <|
  am_fa (sn_iconst (n := 0) (by decide +kernel) (by decide +kernel) rfl) <|
  am_fa (sn_zret (by decide +kernel) rfl) <|
  am_fa (sn_aload_n (k := 1) (by decide +kernel) rfl rfl) <|
  am_fa (sn_aload_n (k := 0) (by decide +kernel) rfl rfl) <|
  am_fa (sn_iload_n (k := 3) (by decide +kernel) rfl rfl) <|
  am_fa (sn_iconst (n := 1) (by decide +kernel) (by decide +kernel) rfl) <|
  am_fa (sn_iadd (by decide +kernel) rfl) <|
  am_fa (sn_sld (by decide +kernel) rfl rfl) <|
  am_fa (sn_aload_n (k := 0) (by decide +kernel) rfl rfl) <|
  am_fa (sn_iload_n (k := 3) (by decide +kernel) rfl rfl) <|
  am_fa (sn_iconst (n := 2) (by decide +kernel) (by decide +kernel) rfl) <|
  am_fa (sn_iadd (by decide +kernel) rfl) <|
  am_fa (sn_sld (by decide +kernel) rfl rfl) <|
  am_fa (sn_if_eq (off := 7) (by decide +kernel) (by decide) rfl) <|
  am_fa (sn_iconst (n := 1) (by decide +kernel) (by decide +kernel) rfl) <|
  am_fa (sn_goto (off := 4) (by decide +kernel) (by decide)) <|
  am_fa (sn_iconst (n := 0) (by decide +kernel) (by decide +kernel) rfl) <|
  am_fa (sn_callV (idx := 23) (ob := am_o1) (by decide +kernel) rfl (hG 35 (List.mem_cons_of_mem _ mw_245)) (by decide) (List.mem_cons_of_mem _ mw_37) (List.mem_cons_of_mem _ mw_242) (by decide +kernel) rfl rfl (List.mem_cons_of_mem _ mw_243) (List.mem_cons_of_mem _ mw_244) rfl) <|
  am_fa (sn_aload_n (k := 2) (by decide +kernel) rfl rfl) <|
  am_fa (sn_aload_n (k := 0) (by decide +kernel) rfl rfl) <|
  am_fa (sn_iload_n (k := 3) (by decide +kernel) rfl rfl) <|
  am_fa (sn_iconst (n := 1) (by decide +kernel) (by decide +kernel) rfl) <|
  am_fa (sn_iadd (by decide +kernel) rfl) <|
  am_fa (sn_sld (by decide +kernel) rfl rfl) <|
  am_fa (sn_aload_n (k := 0) (by decide +kernel) rfl rfl) <|
  am_fa (sn_iload_n (k := 3) (by decide +kernel) rfl rfl) <|
  am_fa (sn_iconst (n := 2) (by decide +kernel) (by decide +kernel) rfl) <|
  am_fa (sn_iadd (by decide +kernel) rfl) <|
  am_fa (sn_sld (by decide +kernel) rfl rfl) <|
  am_fa (sn_if_eq (off := 7) (by decide +kernel) (by decide) rfl) <|
  am_fa (sn_iconst (n := 1) (by decide +kernel) (by decide +kernel) rfl) <|
  am_fa (sn_goto (off := 4) (by decide +kernel) (by decide)) <|
  am_fa (sn_iconst (n := 0) (by decide +kernel) (by decide +kernel) rfl) <|
  am_fa (sn_callV (idx := 27) (ob := am_o50) (by decide +kernel) rfl (hG 72 (List.mem_cons_of_mem _ mw_577)) (by decide) (List.mem_cons_of_mem _ mw_42) (List.mem_cons_of_mem _ mw_574) (by decide +kernel) rfl rfl (List.mem_cons_of_mem _ mw_575) (List.mem_cons_of_mem _ mw_576) rfl) <|
  am_fa (sn_icmp_eq (off := 411) (by decide +kernel) (by decide) rfl) <|
  am_fa (sn_iconst (n := 0) (by decide +kernel) (by decide +kernel) rfl) <|
  am_fa (sn_zret (by decide +kernel) rfl) <|
  am_fa (sn_aload_n (k := 1) (by decide +kernel) rfl rfl) <|
  am_fa (sn_aload_n (k := 0) (by decide +kernel) rfl rfl) <|
  am_fa (sn_iload_n (k := 3) (by decide +kernel) rfl rfl) <|
  am_fa (sn_iconst (n := 1) (by decide +kernel) (by decide +kernel) rfl) <|
  am_fa (sn_iadd (by decide +kernel) rfl) <|
  am_fa (sn_sld (by decide +kernel) rfl rfl) <|
  am_fa (sn_aload_n (k := 0) (by decide +kernel) rfl rfl) <|
  am_fa (sn_iload_n (k := 3) (by decide +kernel) rfl rfl) <|
  am_fa (sn_iconst (n := 2) (by decide +kernel) (by decide +kernel) rfl) <|
  am_fa (sn_iadd (by decide +kernel) rfl) <|
  am_fa (sn_sld (by decide +kernel) rfl rfl) <|
  am_fa (sn_aload_n (k := 0) (by decide +kernel) rfl rfl) <|
  am_fa (sn_iload_n (k := 3) (by decide +kernel) rfl rfl) <|
  am_fa (sn_iconst (n := 3) (by decide +kernel) (by decide +kernel) rfl) <|
  am_fa (sn_iadd (by decide +kernel) rfl) <|
  am_fa (sn_sld (by decide +kernel) rfl rfl) <|
  am_fa (sn_callV (idx := 28) (ob := am_o1) (by decide +kernel) rfl (hG 36 (List.mem_cons_of_mem _ mw_254)) (by decide) (List.mem_cons_of_mem _ mw_37) (List.mem_cons_of_mem _ mw_251) (by decide +kernel) rfl rfl (List.mem_cons_of_mem _ mw_252) (List.mem_cons_of_mem _ mw_253) rfl) <|
  am_fa (sn_aload_n (k := 2) (by decide +kernel) rfl rfl) <|
  am_fa (sn_aload_n (k := 0) (by decide +kernel) rfl rfl) <|
  am_fa (sn_iload_n (k := 3) (by decide +kernel) rfl rfl) <|
  am_fa (sn_iconst (n := 1) (by decide +kernel) (by decide +kernel) rfl) <|
  am_fa (sn_iadd (by decide +kernel) rfl) <|
  am_fa (sn_sld (by decide +kernel) rfl rfl) <|
  am_fa (sn_aload_n (k := 0) (by decide +kernel) rfl rfl) <|
  am_fa (sn_iload_n (k := 3) (by decide +kernel) rfl rfl) <|
  am_fa (sn_iconst (n := 2) (by decide +kernel) (by decide +kernel) rfl) <|
  am_fa (sn_iadd (by decide +kernel) rfl) <|
  am_fa (sn_sld (by decide +kernel) rfl rfl) <|
  am_fa (sn_aload_n (k := 0) (by decide +kernel) rfl rfl) <|
  am_fa (sn_iload_n (k := 3) (by decide +kernel) rfl rfl) <|
  am_fa (sn_iconst (n := 3) (by decide +kernel) (by decide +kernel) rfl) <|
  am_fa (sn_iadd (by decide +kernel) rfl) <|
  am_fa (sn_sld (by decide +kernel) rfl rfl) <|
  am_fa (sn_callV (idx := 31) (ob := am_o50) (by decide +kernel) rfl (hG 73 (List.mem_cons_of_mem _ mw_581)) (by decide) (List.mem_cons_of_mem _ mw_42) (List.mem_cons_of_mem _ mw_578) (by decide +kernel) rfl rfl (List.mem_cons_of_mem _ mw_579) (List.mem_cons_of_mem _ mw_580) rfl) <|
  am_fa (sn_icmp_eq (off := 368) (by decide +kernel) (by decide) rfl) <|
  am_fa (sn_iconst (n := 0) (by decide +kernel) (by decide +kernel) rfl) <|
  am_fa (sn_zret (by decide +kernel) rfl) <|
  am_fa (sn_aload_n (k := 1) (by decide +kernel) rfl rfl) <|
  am_fa (sn_aload_n (k := 0) (by decide +kernel) rfl rfl) <|
  am_fa (sn_iload_n (k := 3) (by decide +kernel) rfl rfl) <|
  am_fa (sn_iconst (n := 1) (by decide +kernel) (by decide +kernel) rfl) <|
  am_fa (sn_iadd (by decide +kernel) rfl) <|
  am_fa (sn_sld (by decide +kernel) rfl rfl) <|
  am_fa (sn_callV (idx := 32) (ob := am_o1) (by decide +kernel) rfl (hG 37 (List.mem_cons_of_mem _ mw_262)) (by decide) (List.mem_cons_of_mem _ mw_37) (List.mem_cons_of_mem _ mw_259) (by decide +kernel) rfl rfl (List.mem_cons_of_mem _ mw_260) (List.mem_cons_of_mem _ mw_261) rfl) <|
  am_fa (sn_aload_n (k := 2) (by decide +kernel) rfl rfl) <|
  am_fa (sn_aload_n (k := 0) (by decide +kernel) rfl rfl) <|
  am_fa (sn_iload_n (k := 3) (by decide +kernel) rfl rfl) <|
  am_fa (sn_iconst (n := 1) (by decide +kernel) (by decide +kernel) rfl) <|
  am_fa (sn_iadd (by decide +kernel) rfl) <|
  am_fa (sn_sld (by decide +kernel) rfl rfl) <|
  am_fa (sn_callV (idx := 36) (ob := am_o50) (by decide +kernel) rfl (hG 88 (List.mem_cons_of_mem _ mw_589)) (by decide) (List.mem_cons_of_mem _ mw_42) (List.mem_cons_of_mem _ mw_586) (by decide +kernel) rfl rfl (List.mem_cons_of_mem _ mw_587) (List.mem_cons_of_mem _ mw_588) rfl) <|
  am_fa (sn_icmp_eq (off := 345) (by decide +kernel) (by decide) rfl) <|
  am_fa (sn_iconst (n := 0) (by decide +kernel) (by decide +kernel) rfl) <|
  am_fa (sn_zret (by decide +kernel) rfl) <|
  am_fa (sn_aload_n (k := 1) (by decide +kernel) rfl rfl) <|
  am_fa (sn_aload_n (k := 0) (by decide +kernel) rfl rfl) <|
  am_fa (sn_iload_n (k := 3) (by decide +kernel) rfl rfl) <|
  am_fa (sn_iconst (n := 1) (by decide +kernel) (by decide +kernel) rfl) <|
  am_fa (sn_iadd (by decide +kernel) rfl) <|
  am_fa (sn_sld (by decide +kernel) rfl rfl) <|
  am_fa (sn_aload_n (k := 0) (by decide +kernel) rfl rfl) <|
  am_fa (sn_iload_n (k := 3) (by decide +kernel) rfl rfl) <|
  am_fa (sn_iconst (n := 2) (by decide +kernel) (by decide +kernel) rfl) <|
  am_fa (sn_iadd (by decide +kernel) rfl) <|
  am_fa (sn_sld (by decide +kernel) rfl rfl) <|
  am_fa (sn_callV (idx := 37) (ob := am_o1) (by decide +kernel) rfl (hG 38 (List.mem_cons_of_mem _ mw_413)) (by decide) (List.mem_cons_of_mem _ mw_37) (List.mem_cons_of_mem _ mw_410) (by decide +kernel) rfl rfl (List.mem_cons_of_mem _ mw_411) (List.mem_cons_of_mem _ mw_412) rfl) <|
  am_fa (sn_aload_n (k := 2) (by decide +kernel) rfl rfl) <|
  am_fa (sn_aload_n (k := 0) (by decide +kernel) rfl rfl) <|
  am_fa (sn_iload_n (k := 3) (by decide +kernel) rfl rfl) <|
  am_fa (sn_iconst (n := 1) (by decide +kernel) (by decide +kernel) rfl) <|
  am_fa (sn_iadd (by decide +kernel) rfl) <|
  am_fa (sn_sld (by decide +kernel) rfl rfl) <|
  am_fa (sn_aload_n (k := 0) (by decide +kernel) rfl rfl) <|
  am_fa (sn_iload_n (k := 3) (by decide +kernel) rfl rfl) <|
  am_fa (sn_iconst (n := 2) (by decide +kernel) (by decide +kernel) rfl) <|
  am_fa (sn_iadd (by decide +kernel) rfl) <|
  am_fa (sn_sld (by decide +kernel) rfl rfl) <|
  am_fa (sn_callV (idx := 41) (ob := am_o50) (by decide +kernel) rfl (hG 89 (List.mem_cons_of_mem _ mw_649)) (by decide) (List.mem_cons_of_mem _ mw_42) (List.mem_cons_of_mem _ mw_646) (by decide +kernel) rfl rfl (List.mem_cons_of_mem _ mw_647) (List.mem_cons_of_mem _ mw_648) rfl) <|
  am_fa (sn_icmp_eq (off := 312) (by decide +kernel) (by decide) rfl) <|
  am_fa (sn_iconst (n := 0) (by decide +kernel) (by decide +kernel) rfl) <|
  am_fa (sn_zret (by decide +kernel) rfl) <|
  am_fa (sn_aload_n (k := 1) (by decide +kernel) rfl rfl) <|
  am_fa (sn_aload_n (k := 0) (by decide +kernel) rfl rfl) <|
  am_fa (sn_iload_n (k := 3) (by decide +kernel) rfl rfl) <|
  am_fa (sn_iconst (n := 1) (by decide +kernel) (by decide +kernel) rfl) <|
  am_fa (sn_iadd (by decide +kernel) rfl) <|
  am_fa (sn_sld (by decide +kernel) rfl rfl) <|
  am_fa (sn_aload_n (k := 0) (by decide +kernel) rfl rfl) <|
  am_fa (sn_iload_n (k := 3) (by decide +kernel) rfl rfl) <|
  am_fa (sn_iconst (n := 2) (by decide +kernel) (by decide +kernel) rfl) <|
  am_fa (sn_iadd (by decide +kernel) rfl) <|
  am_fa (sn_sld (by decide +kernel) rfl rfl) <|
  am_fa (sn_callV (idx := 42) (ob := am_o1) (by decide +kernel) rfl (hG 39 (List.mem_cons_of_mem _ mw_417)) (by decide) (List.mem_cons_of_mem _ mw_37) (List.mem_cons_of_mem _ mw_414) (by decide +kernel) rfl rfl (List.mem_cons_of_mem _ mw_415) (List.mem_cons_of_mem _ mw_416) rfl) <|
  am_fa (sn_aload_n (k := 2) (by decide +kernel) rfl rfl) <|
  am_fa (sn_aload_n (k := 0) (by decide +kernel) rfl rfl) <|
  am_fa (sn_iload_n (k := 3) (by decide +kernel) rfl rfl) <|
  am_fa (sn_iconst (n := 1) (by decide +kernel) (by decide +kernel) rfl) <|
  am_fa (sn_iadd (by decide +kernel) rfl) <|
  am_fa (sn_sld (by decide +kernel) rfl rfl) <|
  am_fa (sn_aload_n (k := 0) (by decide +kernel) rfl rfl) <|
  am_fa (sn_iload_n (k := 3) (by decide +kernel) rfl rfl) <|
  am_fa (sn_iconst (n := 2) (by decide +kernel) (by decide +kernel) rfl) <|
  am_fa (sn_iadd (by decide +kernel) rfl) <|
  am_fa (sn_sld (by decide +kernel) rfl rfl) <|
  am_fa (sn_callV (idx := 45) (ob := am_o50) (by decide +kernel) rfl (hG 90 (List.mem_cons_of_mem _ mw_653)) (by decide) (List.mem_cons_of_mem _ mw_42) (List.mem_cons_of_mem _ mw_650) (by decide +kernel) rfl rfl (List.mem_cons_of_mem _ mw_651) (List.mem_cons_of_mem _ mw_652) rfl) <|
  am_fa (sn_icmp_eq (off := 279) (by decide +kernel) (by decide) rfl) <|
  am_fa (sn_iconst (n := 0) (by decide +kernel) (by decide +kernel) rfl) <|
  am_fa (sn_zret (by decide +kernel) rfl) <|
  am_fa (sn_aload_n (k := 1) (by decide +kernel) rfl rfl) <|
  am_fa (sn_aload_n (k := 0) (by decide +kernel) rfl rfl) <|
  am_fa (sn_iload_n (k := 3) (by decide +kernel) rfl rfl) <|
  am_fa (sn_iconst (n := 1) (by decide +kernel) (by decide +kernel) rfl) <|
  am_fa (sn_iadd (by decide +kernel) rfl) <|
  am_fa (sn_sld (by decide +kernel) rfl rfl) <|
  am_fa (sn_aload_n (k := 0) (by decide +kernel) rfl rfl) <|
  am_fa (sn_iload_n (k := 3) (by decide +kernel) rfl rfl) <|
  am_fa (sn_iconst (n := 2) (by decide +kernel) (by decide +kernel) rfl) <|
  am_fa (sn_iadd (by decide +kernel) rfl) <|
  am_fa (sn_sld (by decide +kernel) rfl rfl) <|
  am_fa (sn_callV (idx := 46) (ob := am_o1) (by decide +kernel) rfl (hG 40 (List.mem_cons_of_mem _ mw_421)) (by decide) (List.mem_cons_of_mem _ mw_37) (List.mem_cons_of_mem _ mw_418) (by decide +kernel) rfl rfl (List.mem_cons_of_mem _ mw_419) (List.mem_cons_of_mem _ mw_420) rfl) <|
  am_fa (sn_aload_n (k := 2) (by decide +kernel) rfl rfl) <|
  am_fa (sn_aload_n (k := 0) (by decide +kernel) rfl rfl) <|
  am_fa (sn_iload_n (k := 3) (by decide +kernel) rfl rfl) <|
  am_fa (sn_iconst (n := 1) (by decide +kernel) (by decide +kernel) rfl) <|
  am_fa (sn_iadd (by decide +kernel) rfl) <|
  am_fa (sn_sld (by decide +kernel) rfl rfl) <|
  am_fa (sn_aload_n (k := 0) (by decide +kernel) rfl rfl) <|
  am_fa (sn_iload_n (k := 3) (by decide +kernel) rfl rfl) <|
  am_fa (sn_iconst (n := 2) (by decide +kernel) (by decide +kernel) rfl) <|
  am_fa (sn_iadd (by decide +kernel) rfl) <|
  am_fa (sn_sld (by decide +kernel) rfl rfl) <|
  am_fa (sn_callV (idx := 49) (ob := am_o50) (by decide +kernel) rfl (hG 91 (List.mem_cons_of_mem _ mw_657)) (by decide) (List.mem_cons_of_mem _ mw_42) (List.mem_cons_of_mem _ mw_654) (by decide +kernel) rfl rfl (List.mem_cons_of_mem _ mw_655) (List.mem_cons_of_mem _ mw_656) rfl) <|
  am_fa (sn_icmp_eq (off := 246) (by decide +kernel) (by decide) rfl) <|
  am_fa (sn_iconst (n := 0) (by decide +kernel) (by decide +kernel) rfl) <|
  am_fa (sn_zret (by decide +kernel) rfl) <|
  am_fa (sn_aload_n (k := 1) (by decide +kernel) rfl rfl) <|
  am_fa (sn_aload_n (k := 0) (by decide +kernel) rfl rfl) <|
  am_fa (sn_iload_n (k := 3) (by decide +kernel) rfl rfl) <|
  am_fa (sn_iconst (n := 1) (by decide +kernel) (by decide +kernel) rfl) <|
  am_fa (sn_iadd (by decide +kernel) rfl) <|
  am_fa (sn_sld (by decide +kernel) rfl rfl) <|
  am_fa (sn_aload_n (k := 0) (by decide +kernel) rfl rfl) <|
  am_fa (sn_iload_n (k := 3) (by decide +kernel) rfl rfl) <|
  am_fa (sn_iconst (n := 2) (by decide +kernel) (by decide +kernel) rfl) <|
  am_fa (sn_iadd (by decide +kernel) rfl) <|
  am_fa (sn_sld (by decide +kernel) rfl rfl) <|
  am_fa (sn_aload_n (k := 0) (by decide +kernel) rfl rfl) <|
  am_fa (sn_iload_n (k := 3) (by decide +kernel) rfl rfl) <|
  am_fa (sn_iconst (n := 3) (by decide +kernel) (by decide +kernel) rfl) <|
  am_fa (sn_iadd (by decide +kernel) rfl) <|
  am_fa (sn_sld (by decide +kernel) rfl rfl) <|
  am_fa (sn_callV (idx := 50) (ob := am_o1) (by decide +kernel) rfl (hG 41 (List.mem_cons_of_mem _ mw_425)) (by decide) (List.mem_cons_of_mem _ mw_37) (List.mem_cons_of_mem _ mw_422) (by decide +kernel) rfl rfl (List.mem_cons_of_mem _ mw_423) (List.mem_cons_of_mem _ mw_424) rfl) <|
  am_fa (sn_aload_n (k := 2) (by decide +kernel) rfl rfl) <|
  am_fa (sn_aload_n (k := 0) (by decide +kernel) rfl rfl) <|
  am_fa (sn_iload_n (k := 3) (by decide +kernel) rfl rfl) <|
  am_fa (sn_iconst (n := 1) (by decide +kernel) (by decide +kernel) rfl) <|
  am_fa (sn_iadd (by decide +kernel) rfl) <|
  am_fa (sn_sld (by decide +kernel) rfl rfl) <|
  am_fa (sn_aload_n (k := 0) (by decide +kernel) rfl rfl) <|
  am_fa (sn_iload_n (k := 3) (by decide +kernel) rfl rfl) <|
  am_fa (sn_iconst (n := 2) (by decide +kernel) (by decide +kernel) rfl) <|
  am_fa (sn_iadd (by decide +kernel) rfl) <|
  am_fa (sn_sld (by decide +kernel) rfl rfl) <|
  am_fa (sn_aload_n (k := 0) (by decide +kernel) rfl rfl) <|
  am_fa (sn_iload_n (k := 3) (by decide +kernel) rfl rfl) <|
  am_fa (sn_iconst (n := 3) (by decide +kernel) (by decide +kernel) rfl) <|
  am_fa (sn_iadd (by decide +kernel) rfl) <|
  am_fa (sn_sld (by decide +kernel) rfl rfl) <|
  am_fa (sn_callV (idx := 54) (ob := am_o50) (by decide +kernel) rfl (hG 92 (List.mem_cons_of_mem _ mw_661)) (by decide) (List.mem_cons_of_mem _ mw_42) (List.mem_cons_of_mem _ mw_658) (by decide +kernel) rfl rfl (List.mem_cons_of_mem _ mw_659) (List.mem_cons_of_mem _ mw_660) rfl) <|
  am_fa (sn_icmp_eq (off := 203) (by decide +kernel) (by decide) rfl) <|
  am_fa (sn_iconst (n := 0) (by decide +kernel) (by decide +kernel) rfl) <|
  am_fa (sn_zret (by decide +kernel) rfl) <|
  am_fa (sn_aload_n (k := 1) (by decide +kernel) rfl rfl) <|
  am_fa (sn_aload_n (k := 0) (by decide +kernel) rfl rfl) <|
  am_fa (sn_iload_n (k := 3) (by decide +kernel) rfl rfl) <|
  am_fa (sn_iconst (n := 1) (by decide +kernel) (by decide +kernel) rfl) <|
  am_fa (sn_iadd (by decide +kernel) rfl) <|
  am_fa (sn_sld (by decide +kernel) rfl rfl) <|
  am_fa (sn_aload_n (k := 0) (by decide +kernel) rfl rfl) <|
  am_fa (sn_iload_n (k := 3) (by decide +kernel) rfl rfl) <|
  am_fa (sn_iconst (n := 2) (by decide +kernel) (by decide +kernel) rfl) <|
  am_fa (sn_iadd (by decide +kernel) rfl) <|
  am_fa (sn_sld (by decide +kernel) rfl rfl) <|
  am_fa (sn_callV (idx := 55) (ob := am_o1) (by decide +kernel) rfl (hG 42 (List.mem_cons_of_mem _ mw_429)) (by decide) (List.mem_cons_of_mem _ mw_37) (List.mem_cons_of_mem _ mw_426) (by decide +kernel) rfl rfl (List.mem_cons_of_mem _ mw_427) (List.mem_cons_of_mem _ mw_428) rfl) <|
  am_fa (sn_aload_n (k := 2) (by decide +kernel) rfl rfl) <|
  am_fa (sn_aload_n (k := 0) (by decide +kernel) rfl rfl) <|
  am_fa (sn_iload_n (k := 3) (by decide +kernel) rfl rfl) <|
  am_fa (sn_iconst (n := 1) (by decide +kernel) (by decide +kernel) rfl) <|
  am_fa (sn_iadd (by decide +kernel) rfl) <|
  am_fa (sn_sld (by decide +kernel) rfl rfl) <|
  am_fa (sn_aload_n (k := 0) (by decide +kernel) rfl rfl) <|
  am_fa (sn_iload_n (k := 3) (by decide +kernel) rfl rfl) <|
  am_fa (sn_iconst (n := 2) (by decide +kernel) (by decide +kernel) rfl) <|
  am_fa (sn_iadd (by decide +kernel) rfl) <|
  am_fa (sn_sld (by decide +kernel) rfl rfl) <|
  am_fa (sn_callV (idx := 58) (ob := am_o50) (by decide +kernel) rfl (hG 93 (List.mem_cons_of_mem _ mw_665)) (by decide) (List.mem_cons_of_mem _ mw_42) (List.mem_cons_of_mem _ mw_662) (by decide +kernel) rfl rfl (List.mem_cons_of_mem _ mw_663) (List.mem_cons_of_mem _ mw_664) rfl) <|
  am_fa (sn_icmp_eq (off := 170) (by decide +kernel) (by decide) rfl) <|
  am_fa (sn_iconst (n := 0) (by decide +kernel) (by decide +kernel) rfl) <|
  am_fa (sn_zret (by decide +kernel) rfl) <|
  am_fa (sn_aload_n (k := 1) (by decide +kernel) rfl rfl) <|
  am_fa (sn_aload_n (k := 0) (by decide +kernel) rfl rfl) <|
  am_fa (sn_iload_n (k := 3) (by decide +kernel) rfl rfl) <|
  am_fa (sn_iconst (n := 1) (by decide +kernel) (by decide +kernel) rfl) <|
  am_fa (sn_iadd (by decide +kernel) rfl) <|
  am_fa (sn_sld (by decide +kernel) rfl rfl) <|
  am_fa (sn_aload_n (k := 0) (by decide +kernel) rfl rfl) <|
  am_fa (sn_iload_n (k := 3) (by decide +kernel) rfl rfl) <|
  am_fa (sn_iconst (n := 2) (by decide +kernel) (by decide +kernel) rfl) <|
  am_fa (sn_iadd (by decide +kernel) rfl) <|
  am_fa (sn_sld (by decide +kernel) rfl rfl) <|
  am_fa (sn_callV (idx := 59) (ob := am_o1) (by decide +kernel) rfl (hG 43 (List.mem_cons_of_mem _ mw_433)) (by decide) (List.mem_cons_of_mem _ mw_37) (List.mem_cons_of_mem _ mw_430) (by decide +kernel) rfl rfl (List.mem_cons_of_mem _ mw_431) (List.mem_cons_of_mem _ mw_432) rfl) <|
  am_fa (sn_aload_n (k := 2) (by decide +kernel) rfl rfl) <|
  am_fa (sn_aload_n (k := 0) (by decide +kernel) rfl rfl) <|
  am_fa (sn_iload_n (k := 3) (by decide +kernel) rfl rfl) <|
  am_fa (sn_iconst (n := 1) (by decide +kernel) (by decide +kernel) rfl) <|
  am_fa (sn_iadd (by decide +kernel) rfl) <|
  am_fa (sn_sld (by decide +kernel) rfl rfl) <|
  am_fa (sn_aload_n (k := 0) (by decide +kernel) rfl rfl) <|
  am_fa (sn_iload_n (k := 3) (by decide +kernel) rfl rfl) <|
  am_fa (sn_iconst (n := 2) (by decide +kernel) (by decide +kernel) rfl) <|
  am_fa (sn_iadd (by decide +kernel) rfl) <|
  am_fa (sn_sld (by decide +kernel) rfl rfl) <|
  am_fa (sn_callV (idx := 62) (ob := am_o50) (by decide +kernel) rfl (hG 96 (List.mem_cons_of_mem _ mw_669)) (by decide) (List.mem_cons_of_mem _ mw_42) (List.mem_cons_of_mem _ mw_666) (by decide +kernel) rfl rfl (List.mem_cons_of_mem _ mw_667) (List.mem_cons_of_mem _ mw_668) rfl) <|
  am_fa (sn_icmp_eq (off := 137) (by decide +kernel) (by decide) rfl) <|
  am_fa (sn_iconst (n := 0) (by decide +kernel) (by decide +kernel) rfl) <|
  am_fa (sn_zret (by decide +kernel) rfl) <|
  am_fa (sn_aload_n (k := 1) (by decide +kernel) rfl rfl) <|
  am_fa (sn_aload_n (k := 0) (by decide +kernel) rfl rfl) <|
  am_fa (sn_iload_n (k := 3) (by decide +kernel) rfl rfl) <|
  am_fa (sn_iconst (n := 1) (by decide +kernel) (by decide +kernel) rfl) <|
  am_fa (sn_iadd (by decide +kernel) rfl) <|
  am_fa (sn_sld (by decide +kernel) rfl rfl) <|
  am_fa (sn_aload_n (k := 0) (by decide +kernel) rfl rfl) <|
  am_fa (sn_iload_n (k := 3) (by decide +kernel) rfl rfl) <|
  am_fa (sn_iconst (n := 2) (by decide +kernel) (by decide +kernel) rfl) <|
  am_fa (sn_iadd (by decide +kernel) rfl) <|
  am_fa (sn_sld (by decide +kernel) rfl rfl) <|
  am_fa (sn_callV (idx := 63) (ob := am_o1) (by decide +kernel) rfl (hG 44 (List.mem_cons_of_mem _ mw_452)) (by decide) (List.mem_cons_of_mem _ mw_37) (List.mem_cons_of_mem _ mw_449) (by decide +kernel) rfl rfl (List.mem_cons_of_mem _ mw_450) (List.mem_cons_of_mem _ mw_451) rfl) <|
  am_fa (sn_aload_n (k := 2) (by decide +kernel) rfl rfl) <|
  am_fa (sn_aload_n (k := 0) (by decide +kernel) rfl rfl) <|
  am_fa (sn_iload_n (k := 3) (by decide +kernel) rfl rfl) <|
  am_fa (sn_iconst (n := 1) (by decide +kernel) (by decide +kernel) rfl) <|
  am_fa (sn_iadd (by decide +kernel) rfl) <|
  am_fa (sn_sld (by decide +kernel) rfl rfl) <|
  am_fa (sn_aload_n (k := 0) (by decide +kernel) rfl rfl) <|
  am_fa (sn_iload_n (k := 3) (by decide +kernel) rfl rfl) <|
  am_fa (sn_iconst (n := 2) (by decide +kernel) (by decide +kernel) rfl) <|
  am_fa (sn_iadd (by decide +kernel) rfl) <|
  am_fa (sn_sld (by decide +kernel) rfl rfl) <|
  am_fa (sn_callV (idx := 66) (ob := am_o50) (by decide +kernel) rfl (hG 97 (List.mem_cons_of_mem _ mw_681)) (by decide) (List.mem_cons_of_mem _ mw_42) (List.mem_cons_of_mem _ mw_678) (by decide +kernel) rfl rfl (List.mem_cons_of_mem _ mw_679) (List.mem_cons_of_mem _ mw_680) rfl) <|
  am_fa (sn_icmp_eq (off := 104) (by decide +kernel) (by decide) rfl) <|
  am_fa (sn_iconst (n := 0) (by decide +kernel) (by decide +kernel) rfl) <|
  am_fa (sn_zret (by decide +kernel) rfl) <|
  am_fa (sn_aload_n (k := 1) (by decide +kernel) rfl rfl) <|
  am_fa (sn_aload_n (k := 0) (by decide +kernel) rfl rfl) <|
  am_fa (sn_iload_n (k := 3) (by decide +kernel) rfl rfl) <|
  am_fa (sn_iconst (n := 1) (by decide +kernel) (by decide +kernel) rfl) <|
  am_fa (sn_iadd (by decide +kernel) rfl) <|
  am_fa (sn_sld (by decide +kernel) rfl rfl) <|
  am_fa (sn_aload_n (k := 0) (by decide +kernel) rfl rfl) <|
  am_fa (sn_iload_n (k := 3) (by decide +kernel) rfl rfl) <|
  am_fa (sn_iconst (n := 2) (by decide +kernel) (by decide +kernel) rfl) <|
  am_fa (sn_iadd (by decide +kernel) rfl) <|
  am_fa (sn_sld (by decide +kernel) rfl rfl) <|
  am_fa (sn_callV (idx := 67) (ob := am_o1) (by decide +kernel) rfl (hG 45 (List.mem_cons_of_mem _ mw_460)) (by decide) (List.mem_cons_of_mem _ mw_37) (List.mem_cons_of_mem _ mw_457) (by decide +kernel) rfl rfl (List.mem_cons_of_mem _ mw_458) (List.mem_cons_of_mem _ mw_459) rfl) <|
  am_fa (sn_aload_n (k := 2) (by decide +kernel) rfl rfl) <|
  am_fa (sn_aload_n (k := 0) (by decide +kernel) rfl rfl) <|
  am_fa (sn_iload_n (k := 3) (by decide +kernel) rfl rfl) <|
  am_fa (sn_iconst (n := 1) (by decide +kernel) (by decide +kernel) rfl) <|
  am_fa (sn_iadd (by decide +kernel) rfl) <|
  am_fa (sn_sld (by decide +kernel) rfl rfl) <|
  am_fa (sn_aload_n (k := 0) (by decide +kernel) rfl rfl) <|
  am_fa (sn_iload_n (k := 3) (by decide +kernel) rfl rfl) <|
  am_fa (sn_iconst (n := 2) (by decide +kernel) (by decide +kernel) rfl) <|
  am_fa (sn_iadd (by decide +kernel) rfl) <|
  am_fa (sn_sld (by decide +kernel) rfl rfl) <|
  am_fa (sn_callV (idx := 70) (ob := am_o50) (by decide +kernel) rfl (hG 98 (List.mem_cons_of_mem _ mw_685)) (by decide) (List.mem_cons_of_mem _ mw_42) (List.mem_cons_of_mem _ mw_682) (by decide +kernel) rfl rfl (List.mem_cons_of_mem _ mw_683) (List.mem_cons_of_mem _ mw_684) rfl) <|
  am_fa (sn_icmp_eq (off := 71) (by decide +kernel) (by decide) rfl) <|
  am_fa (sn_iconst (n := 0) (by decide +kernel) (by decide +kernel) rfl) <|
  am_fa (sn_zret (by decide +kernel) rfl) <|
  am_fa (sn_aload_n (k := 1) (by decide +kernel) rfl rfl) <|
  am_fa (sn_aload_n (k := 0) (by decide +kernel) rfl rfl) <|
  am_fa (sn_iload_n (k := 3) (by decide +kernel) rfl rfl) <|
  am_fa (sn_iconst (n := 1) (by decide +kernel) (by decide +kernel) rfl) <|
  am_fa (sn_iadd (by decide +kernel) rfl) <|
  am_fa (sn_sld (by decide +kernel) rfl rfl) <|
  am_fa (sn_aload_n (k := 0) (by decide +kernel) rfl rfl) <|
  am_fa (sn_iload_n (k := 3) (by decide +kernel) rfl rfl) <|
  am_fa (sn_iconst (n := 2) (by decide +kernel) (by decide +kernel) rfl) <|
  am_fa (sn_iadd (by decide +kernel) rfl) <|
  am_fa (sn_sld (by decide +kernel) rfl rfl) <|
  am_fa (sn_aload_n (k := 0) (by decide +kernel) rfl rfl) <|
  am_fa (sn_iload_n (k := 3) (by decide +kernel) rfl rfl) <|
  am_fa (sn_iconst (n := 3) (by decide +kernel) (by decide +kernel) rfl) <|
  am_fa (sn_iadd (by decide +kernel) rfl) <|
  am_fa (sn_sld (by decide +kernel) rfl rfl) <|
  am_fa (sn_callV (idx := 71) (ob := am_o1) (by decide +kernel) rfl (hG 46 (List.mem_cons_of_mem _ mw_472)) (by decide) (List.mem_cons_of_mem _ mw_37) (List.mem_cons_of_mem _ mw_469) (by decide +kernel) rfl rfl (List.mem_cons_of_mem _ mw_470) (List.mem_cons_of_mem _ mw_471) rfl) <|
  am_fa (sn_aload_n (k := 2) (by decide +kernel) rfl rfl) <|
  am_fa (sn_aload_n (k := 0) (by decide +kernel) rfl rfl) <|
  am_fa (sn_iload_n (k := 3) (by decide +kernel) rfl rfl) <|
  am_fa (sn_iconst (n := 1) (by decide +kernel) (by decide +kernel) rfl) <|
  am_fa (sn_iadd (by decide +kernel) rfl) <|
  am_fa (sn_sld (by decide +kernel) rfl rfl) <|
  am_fa (sn_aload_n (k := 0) (by decide +kernel) rfl rfl) <|
  am_fa (sn_iload_n (k := 3) (by decide +kernel) rfl rfl) <|
  am_fa (sn_iconst (n := 2) (by decide +kernel) (by decide +kernel) rfl) <|
  am_fa (sn_iadd (by decide +kernel) rfl) <|
  am_fa (sn_sld (by decide +kernel) rfl rfl) <|
  am_fa (sn_aload_n (k := 0) (by decide +kernel) rfl rfl) <|
  am_fa (sn_iload_n (k := 3) (by decide +kernel) rfl rfl) <|
  am_fa (sn_iconst (n := 3) (by decide +kernel) (by decide +kernel) rfl) <|
  am_fa (sn_iadd (by decide +kernel) rfl) <|
  am_fa (sn_sld (by decide +kernel) rfl rfl) <|
  am_fa (sn_callV (idx := 74) (ob := am_o50) (by decide +kernel) rfl (hG 99 (List.mem_cons_of_mem _ mw_689)) (by decide) (List.mem_cons_of_mem _ mw_42) (List.mem_cons_of_mem _ mw_686) (by decide +kernel) rfl rfl (List.mem_cons_of_mem _ mw_687) (List.mem_cons_of_mem _ mw_688) rfl) <|
  am_fa (sn_icmp_eq (off := 28) (by decide +kernel) (by decide) rfl) <|
  am_fa (sn_iconst (n := 0) (by decide +kernel) (by decide +kernel) rfl) <|
  am_fa (sn_zret (by decide +kernel) rfl) <|
  am_fa (sn_aload_n (k := 1) (by decide +kernel) rfl rfl) <|
  am_fa (sn_aload_n (k := 0) (by decide +kernel) rfl rfl) <|
  am_fa (sn_iload_n (k := 3) (by decide +kernel) rfl rfl) <|
  am_fa (sn_iconst (n := 1) (by decide +kernel) (by decide +kernel) rfl) <|
  am_fa (sn_iadd (by decide +kernel) rfl) <|
  am_fa (sn_sld (by decide +kernel) rfl rfl) <|
  am_fa (sn_callV (idx := 75) (ob := am_o1) (by decide +kernel) rfl (hG 47 (List.mem_cons_of_mem _ mw_476)) (by decide) (List.mem_cons_of_mem _ mw_37) (List.mem_cons_of_mem _ mw_473) (by decide +kernel) rfl rfl (List.mem_cons_of_mem _ mw_474) (List.mem_cons_of_mem _ mw_475) rfl) <|
  am_fa (sn_aload_n (k := 2) (by decide +kernel) rfl rfl) <|
  am_fa (sn_aload_n (k := 0) (by decide +kernel) rfl rfl) <|
  am_fa (sn_iload_n (k := 3) (by decide +kernel) rfl rfl) <|
  am_fa (sn_iconst (n := 1) (by decide +kernel) (by decide +kernel) rfl) <|
  am_fa (sn_iadd (by decide +kernel) rfl) <|
  am_fa (sn_sld (by decide +kernel) rfl rfl) <|
  am_fa (sn_callV (idx := 79) (ob := am_o50) (by decide +kernel) rfl (hG 100 (List.mem_cons_of_mem _ mw_695)) (by decide) (List.mem_cons_of_mem _ mw_42) (List.mem_cons_of_mem _ mw_692) (by decide +kernel) rfl rfl (List.mem_cons_of_mem _ mw_693) (List.mem_cons_of_mem _ mw_694) rfl) <|
  am_fa (sn_icmp_eq (off := 5) (by decide +kernel) (by decide) rfl) <|
  am_fa (sn_iconst (n := 0) (by decide +kernel) (by decide +kernel) rfl) <|
  am_fa (sn_zret (by decide +kernel) rfl) <|
  am_fa (sn_iinc (i := 6) (by decide +kernel) (by decide +kernel) (by decide) rfl) <|
  am_fa (sn_goto (off := (-654)) (by decide +kernel) (by decide)) <|
  am_fa (sn_iconst (n := 1) (by decide +kernel) (by decide +kernel) rfl) <|
  am_fa (sn_zret (by decide +kernel) rfl) <|
  am_f0

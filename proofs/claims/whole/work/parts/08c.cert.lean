theorem ct_74 : ∀ x ∈ am_c74, am_snd 74 x.1 x.2 :=
  am_fa (sn_aload_n (k := 0) (by decide +kernel) rfl rfl) <|
  am_fa (sn_getP (idx := 41) (ob := am_o50) (by decide +kernel) rfl (by decide) rfl hin_50 (List.mem_cons_of_mem _ mw_494) rfl) <|
  am_fa (sn_iload_n (k := 2) (by decide +kernel) rfl rfl) <|
  am_fa (sn_aload_n (k := 0) (by decide +kernel) rfl rfl) <|
  am_fa (sn_getP (idx := 41) (ob := am_o50) (by decide +kernel) rfl (by decide) rfl hin_50 (List.mem_cons_of_mem _ mw_494) rfl) <|
  am_fa (sn_iload_n (k := 1) (by decide +kernel) rfl rfl) <|
  am_fa (sn_iald (by decide +kernel) rfl rfl rfl) <|
  am_fa (sn_iast (by decide +kernel) rfl rfl rfl) <|
  am_fa (sn_aload_n (k := 0) (by decide +kernel) rfl rfl) <|
  am_fa (sn_getP (idx := 44) (ob := am_o50) (by decide +kernel) rfl (by decide) rfl hin_50 (List.mem_cons_of_mem _ mw_495) rfl) <|
  am_fa (sn_iload_n (k := 2) (by decide +kernel) rfl rfl) <|
  am_fa (sn_aload_n (k := 0) (by decide +kernel) rfl rfl) <|
  am_fa (sn_getP (idx := 44) (ob := am_o50) (by decide +kernel) rfl (by decide) rfl hin_50 (List.mem_cons_of_mem _ mw_495) rfl) <|
  am_fa (sn_iload_n (k := 1) (by decide +kernel) rfl rfl) <|
  am_fa (sn_iald (by decide +kernel) rfl rfl rfl) <|
  am_fa (sn_iast (by decide +kernel) rfl rfl rfl) <|
  am_fa (sn_iconst (n := 0) (by decide +kernel) (by decide +kernel) rfl) <|
  am_fa (sn_istore_n (k := 3) (by decide +kernel) rfl (by decide) rfl) <|
  am_fa (sn_iload_n (k := 3) (by decide +kernel) rfl rfl) <|
  am_fa (sn_iconst (n := 5) (by decide +kernel) (by decide +kernel) rfl) <|
  am_fa (sn_icmp_ge (off := 29) (by decide +kernel) (by decide) rfl) <|
  am_fa (sn_aload_n (k := 0) (by decide +kernel) rfl rfl) <|
  am_fa (sn_getP (idx := 47) (ob := am_o50) (by decide +kernel) rfl (by decide) rfl hin_50 (List.mem_cons_of_mem _ mw_496) rfl) <|
  am_fa (sn_iconst (n := 5) (by decide +kernel) (by decide +kernel) rfl) <|
  am_fa (sn_iload_n (k := 2) (by decide +kernel) rfl rfl) <|
  am_fa (sn_imul (by decide +kernel) rfl) <|
  am_fa (sn_iload_n (k := 3) (by decide +kernel) rfl rfl) <|
  am_fa (sn_iadd (by decide +kernel) rfl) <|
  am_fa (sn_aload_n (k := 0) (by decide +kernel) rfl rfl) <|
  am_fa (sn_getP (idx := 47) (ob := am_o50) (by decide +kernel) rfl (by decide) rfl hin_50 (List.mem_cons_of_mem _ mw_496) rfl) <|
  am_fa (sn_iconst (n := 5) (by decide +kernel) (by decide +kernel) rfl) <|
  am_fa (sn_iload_n (k := 1) (by decide +kernel) rfl rfl) <|
  am_fa (sn_imul (by decide +kernel) rfl) <|
  am_fa (sn_iload_n (k := 3) (by decide +kernel) rfl rfl) <|
  am_fa (sn_iadd (by decide +kernel) rfl) <|
  am_fa (sn_iald (by decide +kernel) rfl rfl rfl) <|
  am_fa (sn_iast (by decide +kernel) rfl rfl rfl) <|
  am_fa (sn_iinc (i := 1) (by decide +kernel) (by decide +kernel) (by decide) rfl) <|
  am_fa (sn_goto (off := (-28)) (by decide +kernel) (by decide)) <|
  am_fa (sn_iconst (n := 0) (by decide +kernel) (by decide +kernel) rfl) <|
  am_fa (sn_istore_n (k := 3) (by decide +kernel) rfl (by decide) rfl) <|
  am_fa (sn_iload_n (k := 3) (by decide +kernel) rfl rfl) <|
  am_fa (sn_iconst (n := 2) (by decide +kernel) (by decide +kernel) rfl) <|
  am_fa (sn_icmp_ge (off := 69) (by decide +kernel) (by decide) rfl) <|
  am_fa (sn_aload_n (k := 0) (by decide +kernel) rfl rfl) <|
  am_fa (sn_getP (idx := 50) (ob := am_o50) (by decide +kernel) rfl (by decide) rfl hin_50 (List.mem_cons_of_mem _ mw_497) rfl) <|
  am_fa (sn_iconst (n := 2) (by decide +kernel) (by decide +kernel) rfl) <|
  am_fa (sn_iload_n (k := 2) (by decide +kernel) rfl rfl) <|
  am_fa (sn_imul (by decide +kernel) rfl) <|
  am_fa (sn_iload_n (k := 3) (by decide +kernel) rfl rfl) <|
  am_fa (sn_iadd (by decide +kernel) rfl) <|
  am_fa (sn_aload_n (k := 0) (by decide +kernel) rfl rfl) <|
  am_fa (sn_getP (idx := 50) (ob := am_o50) (by decide +kernel) rfl (by decide) rfl hin_50 (List.mem_cons_of_mem _ mw_497) rfl) <|
  am_fa (sn_iconst (n := 2) (by decide +kernel) (by decide +kernel) rfl) <|
  am_fa (sn_iload_n (k := 1) (by decide +kernel) rfl rfl) <|
  am_fa (sn_imul (by decide +kernel) rfl) <|
  am_fa (sn_iload_n (k := 3) (by decide +kernel) rfl rfl) <|
  am_fa (sn_iadd (by decide +kernel) rfl) <|
  am_fa (sn_iald (by decide +kernel) rfl rfl rfl) <|
  am_fa (sn_iast (by decide +kernel) rfl rfl rfl) <|
  am_fa (sn_aload_n (k := 0) (by decide +kernel) rfl rfl) <|
  am_fa (sn_getP (idx := 53) (ob := am_o50) (by decide +kernel) rfl (by decide) rfl hin_50 (List.mem_cons_of_mem _ mw_498) rfl) <|
  am_fa (sn_iconst (n := 2) (by decide +kernel) (by decide +kernel) rfl) <|
  am_fa (sn_iload_n (k := 2) (by decide +kernel) rfl rfl) <|
  am_fa (sn_imul (by decide +kernel) rfl) <|
  am_fa (sn_iload_n (k := 3) (by decide +kernel) rfl rfl) <|
  am_fa (sn_iadd (by decide +kernel) rfl) <|
  am_fa (sn_aload_n (k := 0) (by decide +kernel) rfl rfl) <|
  am_fa (sn_getP (idx := 53) (ob := am_o50) (by decide +kernel) rfl (by decide) rfl hin_50 (List.mem_cons_of_mem _ mw_498) rfl) <|
  am_fa (sn_iconst (n := 2) (by decide +kernel) (by decide +kernel) rfl) <|
  am_fa (sn_iload_n (k := 1) (by decide +kernel) rfl rfl) <|
  am_fa (sn_imul (by decide +kernel) rfl) <|
  am_fa (sn_iload_n (k := 3) (by decide +kernel) rfl rfl) <|
  am_fa (sn_iadd (by decide +kernel) rfl) <|
  am_fa (sn_iald (by decide +kernel) rfl rfl rfl) <|
  am_fa (sn_iast (by decide +kernel) rfl rfl rfl) <|
  am_fa (sn_aload_n (k := 0) (by decide +kernel) rfl rfl) <|
  am_fa (sn_getP (idx := 56) (ob := am_o50) (by decide +kernel) rfl (by decide) rfl hin_50 (List.mem_cons_of_mem _ mw_499) rfl) <|
  am_fa (sn_iconst (n := 2) (by decide +kernel) (by decide +kernel) rfl) <|
  am_fa (sn_iload_n (k := 2) (by decide +kernel) rfl rfl) <|
  am_fa (sn_imul (by decide +kernel) rfl) <|
  am_fa (sn_iload_n (k := 3) (by decide +kernel) rfl rfl) <|
  am_fa (sn_iadd (by decide +kernel) rfl) <|
  am_fa (sn_aload_n (k := 0) (by decide +kernel) rfl rfl) <|
  am_fa (sn_getP (idx := 56) (ob := am_o50) (by decide +kernel) rfl (by decide) rfl hin_50 (List.mem_cons_of_mem _ mw_499) rfl) <|
  am_fa (sn_iconst (n := 2) (by decide +kernel) (by decide +kernel) rfl) <|
  am_fa (sn_iload_n (k := 1) (by decide +kernel) rfl rfl) <|
  am_fa (sn_imul (by decide +kernel) rfl) <|
  am_fa (sn_iload_n (k := 3) (by decide +kernel) rfl rfl) <|
  am_fa (sn_iadd (by decide +kernel) rfl) <|
  am_fa (sn_iald (by decide +kernel) rfl rfl rfl) <|
  am_fa (sn_iast (by decide +kernel) rfl rfl rfl) <|
  am_fa (sn_iinc (i := 1) (by decide +kernel) (by decide +kernel) (by decide) rfl) <|
  am_fa (sn_goto (off := (-68)) (by decide +kernel) (by decide)) <|
  am_fa (sn_ret (by decide +kernel) rfl) <|
  am_f0
theorem ct_75 : ∀ x ∈ am_c75, am_snd 75 x.1 x.2 :=
  am_fa (sn_iconst (n := 1) (by decide +kernel) (by decide +kernel) rfl) <|
  am_fa (sn_istore_n (k := 3) (by decide +kernel) rfl (by decide) rfl) <|
  am_fa (sn_iconst (n := 0) (by decide +kernel) (by decide +kernel) rfl) <|
  am_fa (sn_istore (by decide +kernel) (by decide) rfl) <|
  am_fa (sn_iload (by decide +kernel) rfl) <|
  am_fa (sn_iconst (n := 5) (by decide +kernel) (by decide +kernel) rfl) <|
  am_fa (sn_icmp_ge (off := 44) (by decide +kernel) (by decide) rfl) <|
  am_fa (sn_iload_n (k := 3) (by decide +kernel) rfl rfl) <|
  am_fa (sn_if_eq (off := 32) (by decide +kernel) (by decide) rfl) <|
  am_fa (sn_aload_n (k := 0) (by decide +kernel) rfl rfl) <|
  am_fa (sn_getP (idx := 47) (ob := am_o50) (by decide +kernel) rfl (by decide) rfl hin_50 (List.mem_cons_of_mem _ mw_496) rfl) <|
  am_fa (sn_iconst (n := 5) (by decide +kernel) (by decide +kernel) rfl) <|
  am_fa (sn_iload_n (k := 1) (by decide +kernel) rfl rfl) <|
  am_fa (sn_imul (by decide +kernel) rfl) <|
  am_fa (sn_iload (by decide +kernel) rfl) <|
  am_fa (sn_iadd (by decide +kernel) rfl) <|
  am_fa (sn_iald (by decide +kernel) rfl rfl rfl) <|
  am_fa (sn_aload_n (k := 0) (by decide +kernel) rfl rfl) <|
  am_fa (sn_getP (idx := 47) (ob := am_o50) (by decide +kernel) rfl (by decide) rfl hin_50 (List.mem_cons_of_mem _ mw_496) rfl) <|
  am_fa (sn_iconst (n := 5) (by decide +kernel) (by decide +kernel) rfl) <|
  am_fa (sn_iload_n (k := 2) (by decide +kernel) rfl rfl) <|
  am_fa (sn_imul (by decide +kernel) rfl) <|
  am_fa (sn_iload (by decide +kernel) rfl) <|
  am_fa (sn_iadd (by decide +kernel) rfl) <|
  am_fa (sn_iald (by decide +kernel) rfl rfl rfl) <|
  am_fa (sn_icmp_ne (off := 7) (by decide +kernel) (by decide) rfl) <|
  am_fa (sn_iconst (n := 1) (by decide +kernel) (by decide +kernel) rfl) <|
  am_fa (sn_goto (off := 4) (by decide +kernel) (by decide)) <|
  am_fa (sn_iconst (n := 0) (by decide +kernel) (by decide +kernel) rfl) <|
  am_fa (sn_istore_n (k := 3) (by decide +kernel) rfl (by decide) rfl) <|
  am_fa (sn_iinc (i := 1) (by decide +kernel) (by decide +kernel) (by decide) rfl) <|
  am_fa (sn_goto (off := (-44)) (by decide +kernel) (by decide)) <|
  am_fa (sn_iconst (n := 0) (by decide +kernel) (by decide +kernel) rfl) <|
  am_fa (sn_istore (by decide +kernel) (by decide) rfl) <|
  am_fa (sn_iload (by decide +kernel) rfl) <|
  am_fa (sn_iconst (n := 2) (by decide +kernel) (by decide +kernel) rfl) <|
  am_fa (sn_icmp_ge (off := 94) (by decide +kernel) (by decide) rfl) <|
  am_fa (sn_iload_n (k := 3) (by decide +kernel) rfl rfl) <|
  am_fa (sn_if_eq (off := 82) (by decide +kernel) (by decide) rfl) <|
  am_fa (sn_aload_n (k := 0) (by decide +kernel) rfl rfl) <|
  am_fa (sn_getP (idx := 50) (ob := am_o50) (by decide +kernel) rfl (by decide) rfl hin_50 (List.mem_cons_of_mem _ mw_497) rfl) <|
  am_fa (sn_iconst (n := 2) (by decide +kernel) (by decide +kernel) rfl) <|
  am_fa (sn_iload_n (k := 1) (by decide +kernel) rfl rfl) <|
  am_fa (sn_imul (by decide +kernel) rfl) <|
  am_fa (sn_iload (by decide +kernel) rfl) <|
  am_fa (sn_iadd (by decide +kernel) rfl) <|
  am_fa (sn_iald (by decide +kernel) rfl rfl rfl) <|
  am_fa (sn_aload_n (k := 0) (by decide +kernel) rfl rfl) <|
  am_fa (sn_getP (idx := 50) (ob := am_o50) (by decide +kernel) rfl (by decide) rfl hin_50 (List.mem_cons_of_mem _ mw_497) rfl) <|
  am_fa (sn_iconst (n := 2) (by decide +kernel) (by decide +kernel) rfl) <|
  am_fa (sn_iload_n (k := 2) (by decide +kernel) rfl rfl) <|
  am_fa (sn_imul (by decide +kernel) rfl) <|
  am_fa (sn_iload (by decide +kernel) rfl) <|
  am_fa (sn_iadd (by decide +kernel) rfl) <|
  am_fa (sn_iald (by decide +kernel) rfl rfl rfl) <|
  am_fa (sn_icmp_ne (off := 57) (by decide +kernel) (by decide) rfl) <|
  am_fa (sn_aload_n (k := 0) (by decide +kernel) rfl rfl) <|
  am_fa (sn_getP (idx := 53) (ob := am_o50) (by decide +kernel) rfl (by decide) rfl hin_50 (List.mem_cons_of_mem _ mw_498) rfl) <|
  am_fa (sn_iconst (n := 2) (by decide +kernel) (by decide +kernel) rfl) <|
  am_fa (sn_iload_n (k := 1) (by decide +kernel) rfl rfl) <|
  am_fa (sn_imul (by decide +kernel) rfl) <|
  am_fa (sn_iload (by decide +kernel) rfl) <|
  am_fa (sn_iadd (by decide +kernel) rfl) <|
  am_fa (sn_iald (by decide +kernel) rfl rfl rfl) <|
  am_fa (sn_aload_n (k := 0) (by decide +kernel) rfl rfl) <|
  am_fa (sn_getP (idx := 53) (ob := am_o50) (by decide +kernel) rfl (by decide) rfl hin_50 (List.mem_cons_of_mem _ mw_498) rfl) <|
  am_fa (sn_iconst (n := 2) (by decide +kernel) (by decide +kernel) rfl) <|
  am_fa (sn_iload_n (k := 2) (by decide +kernel) rfl rfl) <|
  am_fa (sn_imul (by decide +kernel) rfl) <|
  am_fa (sn_iload (by decide +kernel) rfl) <|
  am_fa (sn_iadd (by decide +kernel) rfl) <|
  am_fa (sn_iald (by decide +kernel) rfl rfl rfl) <|
  am_fa (sn_icmp_ne (off := 32) (by decide +kernel) (by decide) rfl) <|
  am_fa (sn_aload_n (k := 0) (by decide +kernel) rfl rfl) <|
  am_fa (sn_getP (idx := 56) (ob := am_o50) (by decide +kernel) rfl (by decide) rfl hin_50 (List.mem_cons_of_mem _ mw_499) rfl) <|
  am_fa (sn_iconst (n := 2) (by decide +kernel) (by decide +kernel) rfl) <|
  am_fa (sn_iload_n (k := 1) (by decide +kernel) rfl rfl) <|
  am_fa (sn_imul (by decide +kernel) rfl) <|
  am_fa (sn_iload (by decide +kernel) rfl) <|
  am_fa (sn_iadd (by decide +kernel) rfl) <|
  am_fa (sn_iald (by decide +kernel) rfl rfl rfl) <|
  am_fa (sn_aload_n (k := 0) (by decide +kernel) rfl rfl) <|
  am_fa (sn_getP (idx := 56) (ob := am_o50) (by decide +kernel) rfl (by decide) rfl hin_50 (List.mem_cons_of_mem _ mw_499) rfl) <|
  am_fa (sn_iconst (n := 2) (by decide +kernel) (by decide +kernel) rfl) <|
  am_fa (sn_iload_n (k := 2) (by decide +kernel) rfl rfl) <|
  am_fa (sn_imul (by decide +kernel) rfl) <|
  am_fa (sn_iload (by decide +kernel) rfl) <|
  am_fa (sn_iadd (by decide +kernel) rfl) <|
  am_fa (sn_iald (by decide +kernel) rfl rfl rfl) <|
  am_fa (sn_icmp_ne (off := 7) (by decide +kernel) (by decide) rfl) <|
  am_fa (sn_iconst (n := 1) (by decide +kernel) (by decide +kernel) rfl) <|
  am_fa (sn_goto (off := 4) (by decide +kernel) (by decide)) <|
  am_fa (sn_iconst (n := 0) (by decide +kernel) (by decide +kernel) rfl) <|
  am_fa (sn_istore_n (k := 3) (by decide +kernel) rfl (by decide) rfl) <|
  am_fa (sn_iinc (i := 1) (by decide +kernel) (by decide +kernel) (by decide) rfl) <|
  am_fa (sn_goto (off := (-94)) (by decide +kernel) (by decide)) <|
  am_fa (sn_iload_n (k := 3) (by decide +kernel) rfl rfl) <|
  am_fa (sn_zret (by decide +kernel) rfl) <|
  am_f0
theorem ct_76 : ∀ x ∈ am_c76, am_snd 76 x.1 x.2 :=
  am_fa (sn_aload_n (k := 0) (by decide +kernel) rfl rfl) <|
  am_fa (sn_getP (idx := 41) (ob := am_o50) (by decide +kernel) rfl (by decide) rfl hin_50 (List.mem_cons_of_mem _ mw_494) rfl) <|
  am_fa (sn_iload_n (k := 1) (by decide +kernel) rfl rfl) <|
  am_fa (sn_iald (by decide +kernel) rfl rfl rfl) <|
  am_fa (sn_aload_n (k := 0) (by decide +kernel) rfl rfl) <|
  am_fa (sn_getP (idx := 41) (ob := am_o50) (by decide +kernel) rfl (by decide) rfl hin_50 (List.mem_cons_of_mem _ mw_494) rfl) <|
  am_fa (sn_iload_n (k := 2) (by decide +kernel) rfl rfl) <|
  am_fa (sn_iald (by decide +kernel) rfl rfl rfl) <|
  am_fa (sn_icmp_lt (off := 33) (by decide +kernel) (by decide) rfl) <|
  am_fa (sn_aload_n (k := 0) (by decide +kernel) rfl rfl) <|
  am_fa (sn_getP (idx := 41) (ob := am_o50) (by decide +kernel) rfl (by decide) rfl hin_50 (List.mem_cons_of_mem _ mw_494) rfl) <|
  am_fa (sn_iload_n (k := 1) (by decide +kernel) rfl rfl) <|
  am_fa (sn_iald (by decide +kernel) rfl rfl rfl) <|
  am_fa (sn_aload_n (k := 0) (by decide +kernel) rfl rfl) <|
  am_fa (sn_getP (idx := 41) (ob := am_o50) (by decide +kernel) rfl (by decide) rfl hin_50 (List.mem_cons_of_mem _ mw_494) rfl) <|
  am_fa (sn_iload_n (k := 2) (by decide +kernel) rfl rfl) <|
  am_fa (sn_iald (by decide +kernel) rfl rfl rfl) <|
  am_fa (sn_icmp_ne (off := 22) (by decide +kernel) (by decide) rfl) <|
  am_fa (sn_aload_n (k := 0) (by decide +kernel) rfl rfl) <|
  am_fa (sn_getP (idx := 44) (ob := am_o50) (by decide +kernel) rfl (by decide) rfl hin_50 (List.mem_cons_of_mem _ mw_495) rfl) <|
  am_fa (sn_iload_n (k := 1) (by decide +kernel) rfl rfl) <|
  am_fa (sn_iald (by decide +kernel) rfl rfl rfl) <|
  am_fa (sn_aload_n (k := 0) (by decide +kernel) rfl rfl) <|
  am_fa (sn_getP (idx := 44) (ob := am_o50) (by decide +kernel) rfl (by decide) rfl hin_50 (List.mem_cons_of_mem _ mw_495) rfl) <|
  am_fa (sn_iload_n (k := 2) (by decide +kernel) rfl rfl) <|
  am_fa (sn_iald (by decide +kernel) rfl rfl rfl) <|
  am_fa (sn_icmp_ge (off := 7) (by decide +kernel) (by decide) rfl) <|
  am_fa (sn_iconst (n := 1) (by decide +kernel) (by decide +kernel) rfl) <|
  am_fa (sn_goto (off := 4) (by decide +kernel) (by decide)) <|
  am_fa (sn_iconst (n := 0) (by decide +kernel) (by decide +kernel) rfl) <|
  am_fa (sn_zret (by decide +kernel) rfl) <|
  am_f0
theorem ct_77 : ∀ x ∈ am_c77, am_snd 77 x.1 x.2 :=
  am_fa (sn_aload_n (k := 0) (by decide +kernel) rfl rfl) <|
  am_fa (sn_getP (idx := 41) (ob := am_o50) (by decide +kernel) rfl (by decide) rfl hin_50 (List.mem_cons_of_mem _ mw_494) rfl) <|
  am_fa (sn_iload_n (k := 1) (by decide +kernel) rfl rfl) <|
  am_fa (sn_iald (by decide +kernel) rfl rfl rfl) <|
  am_fa (sn_aload_n (k := 0) (by decide +kernel) rfl rfl) <|
  am_fa (sn_getP (idx := 41) (ob := am_o50) (by decide +kernel) rfl (by decide) rfl hin_50 (List.mem_cons_of_mem _ mw_494) rfl) <|
  am_fa (sn_iload_n (k := 2) (by decide +kernel) rfl rfl) <|
  am_fa (sn_iald (by decide +kernel) rfl rfl rfl) <|
  am_fa (sn_icmp_ne (off := 22) (by decide +kernel) (by decide) rfl) <|
  am_fa (sn_aload_n (k := 0) (by decide +kernel) rfl rfl) <|
  am_fa (sn_getP (idx := 44) (ob := am_o50) (by decide +kernel) rfl (by decide) rfl hin_50 (List.mem_cons_of_mem _ mw_495) rfl) <|
  am_fa (sn_iload_n (k := 1) (by decide +kernel) rfl rfl) <|
  am_fa (sn_iald (by decide +kernel) rfl rfl rfl) <|
  am_fa (sn_aload_n (k := 0) (by decide +kernel) rfl rfl) <|
  am_fa (sn_getP (idx := 44) (ob := am_o50) (by decide +kernel) rfl (by decide) rfl hin_50 (List.mem_cons_of_mem _ mw_495) rfl) <|
  am_fa (sn_iload_n (k := 2) (by decide +kernel) rfl rfl) <|
  am_fa (sn_iald (by decide +kernel) rfl rfl rfl) <|
  am_fa (sn_icmp_ne (off := 7) (by decide +kernel) (by decide) rfl) <|
  am_fa (sn_iconst (n := 1) (by decide +kernel) (by decide +kernel) rfl) <|
  am_fa (sn_goto (off := 4) (by decide +kernel) (by decide)) <|
  am_fa (sn_iconst (n := 0) (by decide +kernel) (by decide +kernel) rfl) <|
  am_fa (sn_zret (by decide +kernel) rfl) <|
  am_f0
theorem ct_78 : ∀ x ∈ am_c78, am_snd 78 x.1 x.2 :=
  am_fa (sn_iconst (n := 5) (by decide +kernel) (by decide +kernel) rfl) <|
  am_fa (sn_iconst (n := 5) (by decide +kernel) (by decide +kernel) rfl) <|
  am_fa (sn_iload_n (k := 1) (by decide +kernel) rfl rfl) <|
  am_fa (sn_imul (by decide +kernel) rfl) <|
  am_fa (sn_iload_n (k := 2) (by decide +kernel) rfl rfl) <|
  am_fa (sn_iadd (by decide +kernel) rfl) <|
  am_fa (sn_imul (by decide +kernel) rfl) <|
  am_fa (sn_iload_n (k := 3) (by decide +kernel) rfl rfl) <|
  am_fa (sn_iadd (by decide +kernel) rfl) <|
  am_fa (sn_istore (by decide +kernel) (by decide) rfl) <|
  am_fa (sn_aload_n (k := 0) (by decide +kernel) rfl rfl) <|
  am_fa (sn_getP (idx := 68) (ob := am_o50) (by decide +kernel) rfl (by decide) rfl hin_50 (List.mem_cons_of_mem _ mw_503) rfl) <|
  am_fa (sn_iload (by decide +kernel) rfl) <|
  am_fa (sn_iload (by decide +kernel) rfl) <|
  am_fa (sn_if_ne (off := 13) (by decide +kernel) (by decide) rfl) <|
  am_fa (sn_aload_n (k := 0) (by decide +kernel) rfl rfl) <|
  am_fa (sn_getP (idx := 65) (ob := am_o50) (by decide +kernel) rfl (by decide) rfl hin_50 (List.mem_cons_of_mem _ mw_502) rfl) <|
  am_fa (sn_iload (by decide +kernel) rfl) <|
  am_fa (sn_zald (by decide +kernel) rfl rfl rfl) <|
  am_fa (sn_if_ne (off := 9) (by decide +kernel) (by decide) rfl) <|
  am_fa (sn_sipush (n := (-1000)) (by decide +kernel) (by decide +kernel) rfl) <|
  am_fa (sn_goto (off := 10) (by decide +kernel) (by decide)) <|
  am_fa (sn_aload_n (k := 0) (by decide +kernel) rfl rfl) <|
  am_fa (sn_getP (idx := 68) (ob := am_o50) (by decide +kernel) rfl (by decide) rfl hin_50 (List.mem_cons_of_mem _ mw_503) rfl) <|
  am_fa (sn_iload (by decide +kernel) rfl) <|
  am_fa (sn_iald (by decide +kernel) rfl rfl rfl) <|
  am_fa (sn_iast (by decide +kernel) rfl rfl rfl) <|
  am_fa (sn_aload_n (k := 0) (by decide +kernel) rfl rfl) <|
  am_fa (sn_getP (idx := 65) (ob := am_o50) (by decide +kernel) rfl (by decide) rfl hin_50 (List.mem_cons_of_mem _ mw_502) rfl) <|
  am_fa (sn_iload (by decide +kernel) rfl) <|
  am_fa (sn_iconst (n := 1) (by decide +kernel) (by decide +kernel) rfl) <|
  am_fa (sn_zast (by decide +kernel) rfl rfl rfl) <|
  am_fa (sn_ret (by decide +kernel) rfl) <|
  am_f0
theorem ct_79 : ∀ x ∈ am_c79, am_snd 79 x.1 x.2 :=
  am_fa (sn_aload_n (k := 0) (by decide +kernel) rfl rfl) <|
  am_fa (sn_iload_n (k := 3) (by decide +kernel) rfl rfl) <|
  am_fa (sn_iconst (n := 5) (by decide +kernel) (by decide +kernel) rfl) <|
  am_fa (sn_iload_n (k := 1) (by decide +kernel) rfl rfl) <|
  am_fa (sn_imul (by decide +kernel) rfl) <|
  am_fa (sn_iload_n (k := 2) (by decide +kernel) rfl rfl) <|
  am_fa (sn_iadd (by decide +kernel) rfl) <|
  am_fa (sn_callV (idx := 95) (ob := am_o50) (by decide +kernel) rfl (hG 74 (List.mem_cons_of_mem _ mw_629)) (by decide) (List.mem_cons_of_mem _ mw_42) (List.mem_cons_of_mem _ mw_626) (by decide +kernel) rfl rfl (List.mem_cons_of_mem _ mw_628) (List.mem_cons_of_mem _ mw_29) rfl) <|
  am_fa (sn_iconst (n := 0) (by decide +kernel) (by decide +kernel) rfl) <|
  am_fa (sn_istore (by decide +kernel) (by decide) rfl) <|
  am_fa (sn_iload (by decide +kernel) rfl) <|
  am_fa (sn_iconst (n := 5) (by decide +kernel) (by decide +kernel) rfl) <|
  am_fa (sn_icmp_ge (off := 55) (by decide +kernel) (by decide) rfl) <|
  am_fa (sn_aload_n (k := 0) (by decide +kernel) rfl rfl) <|
  am_fa (sn_getP (idx := 65) (ob := am_o50) (by decide +kernel) rfl (by decide) rfl hin_50 (List.mem_cons_of_mem _ mw_502) rfl) <|
  am_fa (sn_iconst (n := 5) (by decide +kernel) (by decide +kernel) rfl) <|
  am_fa (sn_iconst (n := 5) (by decide +kernel) (by decide +kernel) rfl) <|
  am_fa (sn_iload_n (k := 1) (by decide +kernel) rfl rfl) <|
  am_fa (sn_imul (by decide +kernel) rfl) <|
  am_fa (sn_iload (by decide +kernel) rfl) <|
  am_fa (sn_iadd (by decide +kernel) rfl) <|
  am_fa (sn_imul (by decide +kernel) rfl) <|
  am_fa (sn_iload_n (k := 2) (by decide +kernel) rfl rfl) <|
  am_fa (sn_iadd (by decide +kernel) rfl) <|
  am_fa (sn_iconst (n := 0) (by decide +kernel) (by decide +kernel) rfl) <|
  am_fa (sn_zast (by decide +kernel) rfl rfl rfl) <|
  am_fa (sn_aload_n (k := 0) (by decide +kernel) rfl rfl) <|
  am_fa (sn_getP (idx := 29) (ob := am_o50) (by decide +kernel) rfl (by decide) rfl hin_50 (List.mem_cons_of_mem _ mw_490) rfl) <|
  am_fa (sn_iconst (n := 5) (by decide +kernel) (by decide +kernel) rfl) <|
  am_fa (sn_iload_n (k := 1) (by decide +kernel) rfl rfl) <|
  am_fa (sn_imul (by decide +kernel) rfl) <|
  am_fa (sn_iload (by decide +kernel) rfl) <|
  am_fa (sn_iadd (by decide +kernel) rfl) <|
  am_fa (sn_zald (by decide +kernel) rfl rfl rfl) <|
  am_fa (sn_if_eq (off := 19) (by decide +kernel) (by decide) rfl) <|
  am_fa (sn_iload (by decide +kernel) rfl) <|
  am_fa (sn_iload (by decide +kernel) rfl) <|
  am_fa (sn_icmp_eq (off := 12) (by decide +kernel) (by decide) rfl) <|
  am_fa (sn_aload_n (k := 0) (by decide +kernel) rfl rfl) <|
  am_fa (sn_iload_n (k := 1) (by decide +kernel) rfl rfl) <|
  am_fa (sn_iload (by decide +kernel) rfl) <|
  am_fa (sn_iload_n (k := 2) (by decide +kernel) rfl rfl) <|
  am_fa (sn_iconst (n := 1) (by decide +kernel) (by decide +kernel) rfl) <|
  am_fa (sn_callV (idx := 98) (ob := am_o50) (by decide +kernel) rfl (hG 78 (List.mem_cons_of_mem _ mw_617)) (by decide) (List.mem_cons_of_mem _ mw_42) (List.mem_cons_of_mem _ mw_614) (by decide +kernel) rfl rfl (List.mem_cons_of_mem _ mw_616) (List.mem_cons_of_mem _ mw_26) rfl) <|
  am_fa (sn_iinc (i := 1) (by decide +kernel) (by decide +kernel) (by decide) rfl) <|
  am_fa (sn_goto (off := (-55)) (by decide +kernel) (by decide)) <|
  am_fa (sn_ret (by decide +kernel) rfl) <|
  am_f0
theorem ct_80 : ∀ x ∈ am_c80, am_snd 80 x.1 x.2 :=
  am_fa (sn_aload_n (k := 0) (by decide +kernel) rfl rfl) <|
  am_fa (sn_getP (idx := 38) (ob := am_o50) (by decide +kernel) rfl (by decide) rfl hin_50 (List.mem_cons_of_mem _ mw_493) rfl) <|
  am_fa (sn_iload_n (k := 3) (by decide +kernel) rfl rfl) <|
  am_fa (sn_aload_n (k := 0) (by decide +kernel) rfl rfl) <|
  am_fa (sn_getP (idx := 38) (ob := am_o50) (by decide +kernel) rfl (by decide) rfl hin_50 (List.mem_cons_of_mem _ mw_493) rfl) <|
  am_fa (sn_iload_n (k := 3) (by decide +kernel) rfl rfl) <|
  am_fa (sn_iald (by decide +kernel) rfl rfl rfl) <|
  am_fa (sn_iconst (n := 1) (by decide +kernel) (by decide +kernel) rfl) <|
  am_fa (sn_iadd (by decide +kernel) rfl) <|
  am_fa (sn_iast (by decide +kernel) rfl rfl rfl) <|
  am_fa (sn_aload_n (k := 0) (by decide +kernel) rfl rfl) <|
  am_fa (sn_getP (idx := 17) (ob := am_o50) (by decide +kernel) rfl (by decide) rfl hin_50 (List.mem_cons_of_mem _ mw_486) rfl) <|
  am_fa (sn_iconst (n := 5) (by decide +kernel) (by decide +kernel) rfl) <|
  am_fa (sn_iload_n (k := 1) (by decide +kernel) rfl rfl) <|
  am_fa (sn_imul (by decide +kernel) rfl) <|
  am_fa (sn_iload_n (k := 2) (by decide +kernel) rfl rfl) <|
  am_fa (sn_iadd (by decide +kernel) rfl) <|
  am_fa (sn_iald (by decide +kernel) rfl rfl rfl) <|
  am_fa (sn_if_gt (off := 12) (by decide +kernel) (by decide) rfl) <|
  am_fa (sn_aload_n (k := 0) (by decide +kernel) rfl rfl) <|
  am_fa (sn_getP (idx := 7) (ob := am_o50) (by decide +kernel) rfl (by decide) rfl hin_50 (List.mem_cons_of_mem _ mw_484) rfl) <|
  am_fa (sn_iload_n (k := 2) (by decide +kernel) rfl rfl) <|
  am_fa (sn_zald (by decide +kernel) rfl rfl rfl) <|
  am_fa (sn_if_eq (off := 7) (by decide +kernel) (by decide) rfl) <|
  am_fa (sn_iconst (n := 1) (by decide +kernel) (by decide +kernel) rfl) <|
  am_fa (sn_goto (off := 4) (by decide +kernel) (by decide)) <|
  am_fa (sn_iconst (n := 0) (by decide +kernel) (by decide +kernel) rfl) <|
  am_fa (sn_istore (by decide +kernel) (by decide) rfl) <|
  am_fa (sn_aload_n (k := 0) (by decide +kernel) rfl rfl) <|
  am_fa (sn_getP (idx := 17) (ob := am_o50) (by decide +kernel) rfl (by decide) rfl hin_50 (List.mem_cons_of_mem _ mw_486) rfl) <|
  am_fa (sn_iconst (n := 5) (by decide +kernel) (by decide +kernel) rfl) <|
  am_fa (sn_iload_n (k := 1) (by decide +kernel) rfl rfl) <|
  am_fa (sn_imul (by decide +kernel) rfl) <|
  am_fa (sn_iload_n (k := 2) (by decide +kernel) rfl rfl) <|
  am_fa (sn_iadd (by decide +kernel) rfl) <|
  am_fa (sn_aload_n (k := 0) (by decide +kernel) rfl rfl) <|
  am_fa (sn_getP (idx := 17) (ob := am_o50) (by decide +kernel) rfl (by decide) rfl hin_50 (List.mem_cons_of_mem _ mw_486) rfl) <|
  am_fa (sn_iconst (n := 5) (by decide +kernel) (by decide +kernel) rfl) <|
  am_fa (sn_iload_n (k := 1) (by decide +kernel) rfl rfl) <|
  am_fa (sn_imul (by decide +kernel) rfl) <|
  am_fa (sn_iload_n (k := 2) (by decide +kernel) rfl rfl) <|
  am_fa (sn_iadd (by decide +kernel) rfl) <|
  am_fa (sn_iald (by decide +kernel) rfl rfl rfl) <|
  am_fa (sn_if_le (off := 18) (by decide +kernel) (by decide) rfl) <|
  am_fa (sn_aload_n (k := 0) (by decide +kernel) rfl rfl) <|
  am_fa (sn_getP (idx := 17) (ob := am_o50) (by decide +kernel) rfl (by decide) rfl hin_50 (List.mem_cons_of_mem _ mw_486) rfl) <|
  am_fa (sn_iconst (n := 5) (by decide +kernel) (by decide +kernel) rfl) <|
  am_fa (sn_iload_n (k := 1) (by decide +kernel) rfl rfl) <|
  am_fa (sn_imul (by decide +kernel) rfl) <|
  am_fa (sn_iload_n (k := 2) (by decide +kernel) rfl rfl) <|
  am_fa (sn_iadd (by decide +kernel) rfl) <|
  am_fa (sn_iald (by decide +kernel) rfl rfl rfl) <|
  am_fa (sn_iconst (n := 1) (by decide +kernel) (by decide +kernel) rfl) <|
  am_fa (sn_isub (by decide +kernel) rfl) <|
  am_fa (sn_goto (off := 4) (by decide +kernel) (by decide)) <|
  am_fa (sn_iconst (n := 0) (by decide +kernel) (by decide +kernel) rfl) <|
  am_fa (sn_iast (by decide +kernel) rfl rfl rfl) <|
  am_fa (sn_aload_n (k := 0) (by decide +kernel) rfl rfl) <|
  am_fa (sn_getP (idx := 38) (ob := am_o50) (by decide +kernel) rfl (by decide) rfl hin_50 (List.mem_cons_of_mem _ mw_493) rfl) <|
  am_fa (sn_iconst (n := 4) (by decide +kernel) (by decide +kernel) rfl) <|
  am_fa (sn_iload (by decide +kernel) rfl) <|
  am_fa (sn_if_eq (off := 14) (by decide +kernel) (by decide) rfl) <|
  am_fa (sn_aload_n (k := 0) (by decide +kernel) rfl rfl) <|
  am_fa (sn_getP (idx := 38) (ob := am_o50) (by decide +kernel) rfl (by decide) rfl hin_50 (List.mem_cons_of_mem _ mw_493) rfl) <|
  am_fa (sn_iconst (n := 4) (by decide +kernel) (by decide +kernel) rfl) <|
  am_fa (sn_iald (by decide +kernel) rfl rfl rfl) <|
  am_fa (sn_iconst (n := 1) (by decide +kernel) (by decide +kernel) rfl) <|
  am_fa (sn_iadd (by decide +kernel) rfl) <|
  am_fa (sn_goto (off := 9) (by decide +kernel) (by decide)) <|
  am_fa (sn_aload_n (k := 0) (by decide +kernel) rfl rfl) <|
  am_fa (sn_getP (idx := 38) (ob := am_o50) (by decide +kernel) rfl (by decide) rfl hin_50 (List.mem_cons_of_mem _ mw_493) rfl) <|
  am_fa (sn_iconst (n := 4) (by decide +kernel) (by decide +kernel) rfl) <|
  am_fa (sn_iald (by decide +kernel) rfl rfl rfl) <|
  am_fa (sn_iast (by decide +kernel) rfl rfl rfl) <|
  am_fa (sn_iload (by decide +kernel) rfl) <|
  am_fa (sn_if_ne (off := 7) (by decide +kernel) (by decide) rfl) <|
  am_fa (sn_iconst (n := 1) (by decide +kernel) (by decide +kernel) rfl) <|
  am_fa (sn_goto (off := 4) (by decide +kernel) (by decide)) <|
  am_fa (sn_iconst (n := 0) (by decide +kernel) (by decide +kernel) rfl) <|
  am_fa (sn_zret (by decide +kernel) rfl) <|
  am_f0
theorem ct_81 : ∀ x ∈ am_c81, am_snd 81 x.1 x.2 :=
  am_fa (sn_iconst (n := 0) (by decide +kernel) (by decide +kernel) rfl) <|
  am_fa (sn_istore_n (k := 1) (by decide +kernel) rfl (by decide) rfl) <|
  am_fa (sn_iload_n (k := 1) (by decide +kernel) rfl rfl) <|
  am_fa (sn_bipush (n := 25) (by decide +kernel) (by decide +kernel) rfl) <|
  am_fa (sn_icmp_ge (off := 73) (by decide +kernel) (by decide) rfl) <|
  am_fa (sn_aload_n (k := 0) (by decide +kernel) rfl rfl) <|
  am_fa (sn_getP (idx := 41) (ob := am_o50) (by decide +kernel) rfl (by decide) rfl hin_50 (List.mem_cons_of_mem _ mw_494) rfl) <|
  am_fa (sn_iload_n (k := 1) (by decide +kernel) rfl rfl) <|
  am_fa (sn_iald (by decide +kernel) rfl rfl rfl) <|
  am_fa (sn_if_le (off := 58) (by decide +kernel) (by decide) rfl) <|
  am_fa (sn_aload_n (k := 0) (by decide +kernel) rfl rfl) <|
  am_fa (sn_getP (idx := 44) (ob := am_o50) (by decide +kernel) rfl (by decide) rfl hin_50 (List.mem_cons_of_mem _ mw_495) rfl) <|
  am_fa (sn_iload_n (k := 1) (by decide +kernel) rfl rfl) <|
  am_fa (sn_iald (by decide +kernel) rfl rfl rfl) <|
  am_fa (sn_aload_n (k := 0) (by decide +kernel) rfl rfl) <|
  am_fa (sn_getI (idx := 102) (ob := am_o50) (by decide +kernel) rfl (by decide) rfl hin_50 (List.mem_cons_of_mem _ mw_483) rfl) <|
  am_fa (sn_bipush (n := 40) (by decide +kernel) (by decide +kernel) rfl) <|
  am_fa (sn_isub (by decide +kernel) rfl) <|
  am_fa (sn_icmp_gt (off := 42) (by decide +kernel) (by decide) rfl) <|
  am_fa (sn_aload_n (k := 0) (by decide +kernel) rfl rfl) <|
  am_fa (sn_getP (idx := 41) (ob := am_o50) (by decide +kernel) rfl (by decide) rfl hin_50 (List.mem_cons_of_mem _ mw_494) rfl) <|
  am_fa (sn_iload_n (k := 1) (by decide +kernel) rfl rfl) <|
  am_fa (sn_iconst (n := 0) (by decide +kernel) (by decide +kernel) rfl) <|
  am_fa (sn_iast (by decide +kernel) rfl rfl rfl) <|
  am_fa (sn_iconst (n := 0) (by decide +kernel) (by decide +kernel) rfl) <|
  am_fa (sn_istore_n (k := 2) (by decide +kernel) rfl (by decide) rfl) <|
  am_fa (sn_iload_n (k := 2) (by decide +kernel) rfl rfl) <|
  am_fa (sn_iconst (n := 5) (by decide +kernel) (by decide +kernel) rfl) <|
  am_fa (sn_icmp_ge (off := 28) (by decide +kernel) (by decide) rfl) <|
  am_fa (sn_aload_n (k := 0) (by decide +kernel) rfl rfl) <|
  am_fa (sn_getP (idx := 65) (ob := am_o50) (by decide +kernel) rfl (by decide) rfl hin_50 (List.mem_cons_of_mem _ mw_502) rfl) <|
  am_fa (sn_iconst (n := 5) (by decide +kernel) (by decide +kernel) rfl) <|
  am_fa (sn_iconst (n := 5) (by decide +kernel) (by decide +kernel) rfl) <|
  am_fa (sn_iload_n (k := 1) (by decide +kernel) rfl rfl) <|
  am_fa (sn_iconst (n := 5) (by decide +kernel) (by decide +kernel) rfl) <|
  am_fa (sn_idiv (by decide +kernel) rfl) <|
  am_fa (sn_imul (by decide +kernel) rfl) <|
  am_fa (sn_iload_n (k := 2) (by decide +kernel) rfl rfl) <|
  am_fa (sn_iadd (by decide +kernel) rfl) <|
  am_fa (sn_imul (by decide +kernel) rfl) <|
  am_fa (sn_iload_n (k := 1) (by decide +kernel) rfl rfl) <|
  am_fa (sn_iconst (n := 5) (by decide +kernel) (by decide +kernel) rfl) <|
  am_fa (sn_irem (by decide +kernel) rfl) <|
  am_fa (sn_iadd (by decide +kernel) rfl) <|
  am_fa (sn_iconst (n := 0) (by decide +kernel) (by decide +kernel) rfl) <|
  am_fa (sn_zast (by decide +kernel) rfl rfl rfl) <|
  am_fa (sn_iinc (i := 1) (by decide +kernel) (by decide +kernel) (by decide) rfl) <|
  am_fa (sn_goto (off := (-27)) (by decide +kernel) (by decide)) <|
  am_fa (sn_iinc (i := 1) (by decide +kernel) (by decide +kernel) (by decide) rfl) <|
  am_fa (sn_goto (off := (-73)) (by decide +kernel) (by decide)) <|
  am_fa (sn_ret (by decide +kernel) rfl) <|
  am_f0
theorem ct_82 : ∀ x ∈ am_c82, am_snd 82 x.1 x.2 :=
  am_fa (sn_iconst (n := 0) (by decide +kernel) (by decide +kernel) rfl) <|
  am_fa (sn_istore_n (k := 1) (by decide +kernel) rfl (by decide) rfl) <|
  am_fa (sn_iload_n (k := 1) (by decide +kernel) rfl rfl) <|
  am_fa (sn_bipush (n := 25) (by decide +kernel) (by decide +kernel) rfl) <|
  am_fa (sn_icmp_ge (off := 21) (by decide +kernel) (by decide) rfl) <|
  am_fa (sn_aload_n (k := 0) (by decide +kernel) rfl rfl) <|
  am_fa (sn_getP (idx := 35) (ob := am_o50) (by decide +kernel) rfl (by decide) rfl hin_50 (List.mem_cons_of_mem _ mw_492) rfl) <|
  am_fa (sn_iload_n (k := 1) (by decide +kernel) rfl rfl) <|
  am_fa (sn_aload_n (k := 0) (by decide +kernel) rfl rfl) <|
  am_fa (sn_getP (idx := 20) (ob := am_o50) (by decide +kernel) rfl (by decide) rfl hin_50 (List.mem_cons_of_mem _ mw_487) rfl) <|
  am_fa (sn_iload_n (k := 1) (by decide +kernel) rfl rfl) <|
  am_fa (sn_zald (by decide +kernel) rfl rfl rfl) <|
  am_fa (sn_zast (by decide +kernel) rfl rfl rfl) <|
  am_fa (sn_iinc (i := 1) (by decide +kernel) (by decide +kernel) (by decide) rfl) <|
  am_fa (sn_goto (off := (-21)) (by decide +kernel) (by decide)) <|
  am_fa (sn_iconst (n := 0) (by decide +kernel) (by decide +kernel) rfl) <|
  am_fa (sn_istore_n (k := 1) (by decide +kernel) rfl (by decide) rfl) <|
  am_fa (sn_iload_n (k := 1) (by decide +kernel) rfl rfl) <|
  am_fa (sn_bipush (n := 25) (by decide +kernel) (by decide +kernel) rfl) <|
  am_fa (sn_icmp_ge (off := 86) (by decide +kernel) (by decide) rfl) <|
  am_fa (sn_iload_n (k := 1) (by decide +kernel) rfl rfl) <|
  am_fa (sn_iconst (n := 5) (by decide +kernel) (by decide +kernel) rfl) <|
  am_fa (sn_idiv (by decide +kernel) rfl) <|
  am_fa (sn_istore_n (k := 2) (by decide +kernel) rfl (by decide) rfl) <|
  am_fa (sn_iload_n (k := 1) (by decide +kernel) rfl rfl) <|
  am_fa (sn_iconst (n := 5) (by decide +kernel) (by decide +kernel) rfl) <|
  am_fa (sn_irem (by decide +kernel) rfl) <|
  am_fa (sn_istore_n (k := 3) (by decide +kernel) rfl (by decide) rfl) <|
  am_fa (sn_aload_n (k := 0) (by decide +kernel) rfl rfl) <|
  am_fa (sn_getP (idx := 13) (ob := am_o50) (by decide +kernel) rfl (by decide) rfl hin_50 (List.mem_cons_of_mem _ mw_485) rfl) <|
  am_fa (sn_iload_n (k := 1) (by decide +kernel) rfl rfl) <|
  am_fa (sn_iald (by decide +kernel) rfl rfl rfl) <|
  am_fa (sn_if_le (off := 63) (by decide +kernel) (by decide) rfl) <|
  am_fa (sn_aload_n (k := 0) (by decide +kernel) rfl rfl) <|
  am_fa (sn_getP (idx := 7) (ob := am_o50) (by decide +kernel) rfl (by decide) rfl hin_50 (List.mem_cons_of_mem _ mw_484) rfl) <|
  am_fa (sn_iload_n (k := 2) (by decide +kernel) rfl rfl) <|
  am_fa (sn_zald (by decide +kernel) rfl rfl rfl) <|
  am_fa (sn_if_ne (off := 54) (by decide +kernel) (by decide) rfl) <|
  am_fa (sn_aload_n (k := 0) (by decide +kernel) rfl rfl) <|
  am_fa (sn_iload_n (k := 2) (by decide +kernel) rfl rfl) <|
  am_fa (sn_iload_n (k := 3) (by decide +kernel) rfl rfl) <|
  am_fa (sn_iconst (n := 0) (by decide +kernel) (by decide +kernel) rfl) <|
  am_fa (sn_callV (idx := 106) (ob := am_o50) (by decide +kernel) rfl (hG 80 (List.mem_cons_of_mem _ mw_601)) (by decide) (List.mem_cons_of_mem _ mw_42) (List.mem_cons_of_mem _ mw_598) (by decide +kernel) rfl rfl (List.mem_cons_of_mem _ mw_600) (List.mem_cons_of_mem _ mw_22) rfl) <|
  am_fa (sn_if_eq (off := 44) (by decide +kernel) (by decide) rfl) <|
  am_fa (sn_aload_n (k := 0) (by decide +kernel) rfl rfl) <|
  am_fa (sn_getP (idx := 20) (ob := am_o50) (by decide +kernel) rfl (by decide) rfl hin_50 (List.mem_cons_of_mem _ mw_487) rfl) <|
  am_fa (sn_iconst (n := 5) (by decide +kernel) (by decide +kernel) rfl) <|
  am_fa (sn_iload_n (k := 3) (by decide +kernel) rfl rfl) <|
  am_fa (sn_imul (by decide +kernel) rfl) <|
  am_fa (sn_iload_n (k := 2) (by decide +kernel) rfl rfl) <|
  am_fa (sn_iadd (by decide +kernel) rfl) <|
  am_fa (sn_iconst (n := 1) (by decide +kernel) (by decide +kernel) rfl) <|
  am_fa (sn_zast (by decide +kernel) rfl rfl rfl) <|
  am_fa (sn_aload_n (k := 0) (by decide +kernel) rfl rfl) <|
  am_fa (sn_getP (idx := 23) (ob := am_o50) (by decide +kernel) rfl (by decide) rfl hin_50 (List.mem_cons_of_mem _ mw_488) rfl) <|
  am_fa (sn_iconst (n := 5) (by decide +kernel) (by decide +kernel) rfl) <|
  am_fa (sn_iload_n (k := 3) (by decide +kernel) rfl rfl) <|
  am_fa (sn_imul (by decide +kernel) rfl) <|
  am_fa (sn_iload_n (k := 2) (by decide +kernel) rfl rfl) <|
  am_fa (sn_iadd (by decide +kernel) rfl) <|
  am_fa (sn_aload_n (k := 0) (by decide +kernel) rfl rfl) <|
  am_fa (sn_getI (idx := 102) (ob := am_o50) (by decide +kernel) rfl (by decide) rfl hin_50 (List.mem_cons_of_mem _ mw_483) rfl) <|
  am_fa (sn_iast (by decide +kernel) rfl rfl rfl) <|
  am_fa (sn_aload_n (k := 0) (by decide +kernel) rfl rfl) <|
  am_fa (sn_getP (idx := 26) (ob := am_o50) (by decide +kernel) rfl (by decide) rfl hin_50 (List.mem_cons_of_mem _ mw_489) rfl) <|
  am_fa (sn_iconst (n := 5) (by decide +kernel) (by decide +kernel) rfl) <|
  am_fa (sn_iload_n (k := 3) (by decide +kernel) rfl rfl) <|
  am_fa (sn_imul (by decide +kernel) rfl) <|
  am_fa (sn_iload_n (k := 2) (by decide +kernel) rfl rfl) <|
  am_fa (sn_iadd (by decide +kernel) rfl) <|
  am_fa (sn_aload_n (k := 0) (by decide +kernel) rfl rfl) <|
  am_fa (sn_getP (idx := 35) (ob := am_o50) (by decide +kernel) rfl (by decide) rfl hin_50 (List.mem_cons_of_mem _ mw_492) rfl) <|
  am_fa (sn_iload_n (k := 1) (by decide +kernel) rfl rfl) <|
  am_fa (sn_zald (by decide +kernel) rfl rfl rfl) <|
  am_fa (sn_zast (by decide +kernel) rfl rfl rfl) <|
  am_fa (sn_iinc (i := 1) (by decide +kernel) (by decide +kernel) (by decide) rfl) <|
  am_fa (sn_goto (off := (-86)) (by decide +kernel) (by decide)) <|
  am_fa (sn_ret (by decide +kernel) rfl) <|
  am_f0
set_option maxRecDepth 100000 in
theorem ct_83 : ∀ x ∈ am_c83, am_snd 83 x.1 x.2 :=
  am_fa (sn_iconst (n := 0) (by decide +kernel) (by decide +kernel) rfl) <|
  am_fa (sn_istore_n (k := 1) (by decide +kernel) rfl (by decide) rfl) <|
  am_fa (sn_iload_n (k := 1) (by decide +kernel) rfl rfl) <|
  am_fa (sn_bipush (n := 25) (by decide +kernel) (by decide +kernel) rfl) <|
  am_fa (sn_icmp_ge (off := 147) (by decide +kernel) (by decide) rfl) <|
  am_fa (sn_aload_n (k := 0) (by decide +kernel) rfl rfl) <|
  am_fa (sn_getP (idx := 20) (ob := am_o50) (by decide +kernel) rfl (by decide) rfl hin_50 (List.mem_cons_of_mem _ mw_487) rfl) <|
  am_fa (sn_iload_n (k := 1) (by decide +kernel) rfl rfl) <|
  am_fa (sn_zald (by decide +kernel) rfl rfl rfl) <|
  am_fa (sn_if_eq (off := 32) (by decide +kernel) (by decide) rfl) <|
  am_fa (sn_aload_n (k := 0) (by decide +kernel) rfl rfl) <|
  am_fa (sn_getP (idx := 23) (ob := am_o50) (by decide +kernel) rfl (by decide) rfl hin_50 (List.mem_cons_of_mem _ mw_488) rfl) <|
  am_fa (sn_iload_n (k := 1) (by decide +kernel) rfl rfl) <|
  am_fa (sn_iald (by decide +kernel) rfl rfl rfl) <|
  am_fa (sn_aload_n (k := 0) (by decide +kernel) rfl rfl) <|
  am_fa (sn_getI (idx := 102) (ob := am_o50) (by decide +kernel) rfl (by decide) rfl hin_50 (List.mem_cons_of_mem _ mw_483) rfl) <|
  am_fa (sn_iconst (n := 5) (by decide +kernel) (by decide +kernel) rfl) <|
  am_fa (sn_isub (by decide +kernel) rfl) <|
  am_fa (sn_icmp_gt (off := 17) (by decide +kernel) (by decide) rfl) <|
  am_fa (sn_aload_n (k := 0) (by decide +kernel) rfl rfl) <|
  am_fa (sn_getP (idx := 20) (ob := am_o50) (by decide +kernel) rfl (by decide) rfl hin_50 (List.mem_cons_of_mem _ mw_487) rfl) <|
  am_fa (sn_iload_n (k := 1) (by decide +kernel) rfl rfl) <|
  am_fa (sn_iconst (n := 0) (by decide +kernel) (by decide +kernel) rfl) <|
  am_fa (sn_zast (by decide +kernel) rfl rfl rfl) <|
  am_fa (sn_aload_n (k := 0) (by decide +kernel) rfl rfl) <|
  am_fa (sn_getP (idx := 26) (ob := am_o50) (by decide +kernel) rfl (by decide) rfl hin_50 (List.mem_cons_of_mem _ mw_489) rfl) <|
  am_fa (sn_iload_n (k := 1) (by decide +kernel) rfl rfl) <|
  am_fa (sn_iconst (n := 0) (by decide +kernel) (by decide +kernel) rfl) <|
  am_fa (sn_zast (by decide +kernel) rfl rfl rfl) <|
  am_fa (sn_aload_n (k := 0) (by decide +kernel) rfl rfl) <|
  am_fa (sn_getP (idx := 20) (ob := am_o50) (by decide +kernel) rfl (by decide) rfl hin_50 (List.mem_cons_of_mem _ mw_487) rfl) <|
  am_fa (sn_iload_n (k := 1) (by decide +kernel) rfl rfl) <|
  am_fa (sn_zald (by decide +kernel) rfl rfl rfl) <|
  am_fa (sn_if_eq (off := 16) (by decide +kernel) (by decide) rfl) <|
  am_fa (sn_aload_n (k := 0) (by decide +kernel) rfl rfl) <|
  am_fa (sn_getP (idx := 26) (ob := am_o50) (by decide +kernel) rfl (by decide) rfl hin_50 (List.mem_cons_of_mem _ mw_489) rfl) <|
  am_fa (sn_iload_n (k := 1) (by decide +kernel) rfl rfl) <|
  am_fa (sn_zald (by decide +kernel) rfl rfl rfl) <|
  am_fa (sn_if_eq (off := 7) (by decide +kernel) (by decide) rfl) <|
  am_fa (sn_iconst (n := 1) (by decide +kernel) (by decide +kernel) rfl) <|
  am_fa (sn_goto (off := 4) (by decide +kernel) (by decide)) <|
  am_fa (sn_iconst (n := 0) (by decide +kernel) (by decide +kernel) rfl) <|
  am_fa (sn_istore_n (k := 2) (by decide +kernel) rfl (by decide) rfl) <|
  am_fa (sn_aload_n (k := 0) (by decide +kernel) rfl rfl) <|
  am_fa (sn_getP (idx := 32) (ob := am_o50) (by decide +kernel) rfl (by decide) rfl hin_50 (List.mem_cons_of_mem _ mw_491) rfl) <|
  am_fa (sn_iload_n (k := 1) (by decide +kernel) rfl rfl) <|
  am_fa (sn_iload_n (k := 2) (by decide +kernel) rfl rfl) <|
  am_fa (sn_if_eq (off := 16) (by decide +kernel) (by decide) rfl) <|
  am_fa (sn_aload_n (k := 0) (by decide +kernel) rfl rfl) <|
  am_fa (sn_getP (idx := 29) (ob := am_o50) (by decide +kernel) rfl (by decide) rfl hin_50 (List.mem_cons_of_mem _ mw_490) rfl) <|
  am_fa (sn_iload_n (k := 1) (by decide +kernel) rfl rfl) <|
  am_fa (sn_zald (by decide +kernel) rfl rfl rfl) <|
  am_fa (sn_if_ne (off := 7) (by decide +kernel) (by decide) rfl) <|
  am_fa (sn_iconst (n := 1) (by decide +kernel) (by decide +kernel) rfl) <|
  am_fa (sn_goto (off := 4) (by decide +kernel) (by decide)) <|
  am_fa (sn_iconst (n := 0) (by decide +kernel) (by decide +kernel) rfl) <|
  am_fa (sn_zast (by decide +kernel) rfl rfl rfl) <|
  am_fa (sn_aload_n (k := 0) (by decide +kernel) rfl rfl) <|
  am_fa (sn_getP (idx := 29) (ob := am_o50) (by decide +kernel) rfl (by decide) rfl hin_50 (List.mem_cons_of_mem _ mw_490) rfl) <|
  am_fa (sn_iload_n (k := 1) (by decide +kernel) rfl rfl) <|
  am_fa (sn_iload_n (k := 2) (by decide +kernel) rfl rfl) <|
  am_fa (sn_zast (by decide +kernel) rfl rfl rfl) <|
  am_fa (sn_iconst (n := 0) (by decide +kernel) (by decide +kernel) rfl) <|
  am_fa (sn_istore_n (k := 3) (by decide +kernel) rfl (by decide) rfl) <|
  am_fa (sn_iload_n (k := 3) (by decide +kernel) rfl rfl) <|
  am_fa (sn_iconst (n := 5) (by decide +kernel) (by decide +kernel) rfl) <|
  am_fa (sn_icmp_ge (off := 41) (by decide +kernel) (by decide) rfl) <|
  am_fa (sn_aload_n (k := 0) (by decide +kernel) rfl rfl) <|
  am_fa (sn_getP (idx := 65) (ob := am_o50) (by decide +kernel) rfl (by decide) rfl hin_50 (List.mem_cons_of_mem _ mw_502) rfl) <|
  am_fa (sn_iconst (n := 5) (by decide +kernel) (by decide +kernel) rfl) <|
  am_fa (sn_iload_n (k := 1) (by decide +kernel) rfl rfl) <|
  am_fa (sn_imul (by decide +kernel) rfl) <|
  am_fa (sn_iload_n (k := 3) (by decide +kernel) rfl rfl) <|
  am_fa (sn_iadd (by decide +kernel) rfl) <|
  am_fa (sn_aload_n (k := 0) (by decide +kernel) rfl rfl) <|
  am_fa (sn_getP (idx := 65) (ob := am_o50) (by decide +kernel) rfl (by decide) rfl hin_50 (List.mem_cons_of_mem _ mw_502) rfl) <|
  am_fa (sn_iconst (n := 5) (by decide +kernel) (by decide +kernel) rfl) <|
  am_fa (sn_iload_n (k := 1) (by decide +kernel) rfl rfl) <|
  am_fa (sn_imul (by decide +kernel) rfl) <|
  am_fa (sn_iload_n (k := 3) (by decide +kernel) rfl rfl) <|
  am_fa (sn_iadd (by decide +kernel) rfl) <|
  am_fa (sn_zald (by decide +kernel) rfl rfl rfl) <|
  am_fa (sn_if_eq (off := 11) (by decide +kernel) (by decide) rfl) <|
  am_fa (sn_iload_n (k := 2) (by decide +kernel) rfl rfl) <|
  am_fa (sn_if_eq (off := 7) (by decide +kernel) (by decide) rfl) <|
  am_fa (sn_iconst (n := 1) (by decide +kernel) (by decide +kernel) rfl) <|
  am_fa (sn_goto (off := 4) (by decide +kernel) (by decide)) <|
  am_fa (sn_iconst (n := 0) (by decide +kernel) (by decide +kernel) rfl) <|
  am_fa (sn_zast (by decide +kernel) rfl rfl rfl) <|
  am_fa (sn_iinc (i := 1) (by decide +kernel) (by decide +kernel) (by decide) rfl) <|
  am_fa (sn_goto (off := (-40)) (by decide +kernel) (by decide)) <|
  am_fa (sn_iinc (i := 1) (by decide +kernel) (by decide +kernel) (by decide) rfl) <|
  am_fa (sn_goto (off := (-147)) (by decide +kernel) (by decide)) <|
  am_fa (sn_iconst (n := 0) (by decide +kernel) (by decide +kernel) rfl) <|
  am_fa (sn_istore_n (k := 1) (by decide +kernel) rfl (by decide) rfl) <|
  am_fa (sn_iload_n (k := 1) (by decide +kernel) rfl rfl) <|
  am_fa (sn_bipush (n := 25) (by decide +kernel) (by decide +kernel) rfl) <|
  am_fa (sn_icmp_ge (off := 66) (by decide +kernel) (by decide) rfl) <|
  am_fa (sn_iconst (n := 5) (by decide +kernel) (by decide +kernel) rfl) <|
  am_fa (sn_iload_n (k := 1) (by decide +kernel) rfl rfl) <|
  am_fa (sn_iconst (n := 5) (by decide +kernel) (by decide +kernel) rfl) <|
  am_fa (sn_irem (by decide +kernel) rfl) <|
  am_fa (sn_imul (by decide +kernel) rfl) <|
  am_fa (sn_iload_n (k := 1) (by decide +kernel) rfl rfl) <|
  am_fa (sn_iconst (n := 5) (by decide +kernel) (by decide +kernel) rfl) <|
  am_fa (sn_idiv (by decide +kernel) rfl) <|
  am_fa (sn_iadd (by decide +kernel) rfl) <|
  am_fa (sn_istore_n (k := 2) (by decide +kernel) rfl (by decide) rfl) <|
  am_fa (sn_aload_n (k := 0) (by decide +kernel) rfl rfl) <|
  am_fa (sn_getP (idx := 32) (ob := am_o50) (by decide +kernel) rfl (by decide) rfl hin_50 (List.mem_cons_of_mem _ mw_491) rfl) <|
  am_fa (sn_iload_n (k := 1) (by decide +kernel) rfl rfl) <|
  am_fa (sn_zald (by decide +kernel) rfl rfl rfl) <|
  am_fa (sn_if_eq (off := 13) (by decide +kernel) (by decide) rfl) <|
  am_fa (sn_aload_n (k := 0) (by decide +kernel) rfl rfl) <|
  am_fa (sn_iload_n (k := 1) (by decide +kernel) rfl rfl) <|
  am_fa (sn_iconst (n := 5) (by decide +kernel) (by decide +kernel) rfl) <|
  am_fa (sn_idiv (by decide +kernel) rfl) <|
  am_fa (sn_iload_n (k := 1) (by decide +kernel) rfl rfl) <|
  am_fa (sn_iconst (n := 5) (by decide +kernel) (by decide +kernel) rfl) <|
  am_fa (sn_irem (by decide +kernel) rfl) <|
  am_fa (sn_callV (idx := 110) (ob := am_o50) (by decide +kernel) rfl (hG 84 (List.mem_cons_of_mem _ mw_609)) (by decide) (List.mem_cons_of_mem _ mw_42) (List.mem_cons_of_mem _ mw_606) (by decide +kernel) rfl rfl (List.mem_cons_of_mem _ mw_608) (List.mem_cons_of_mem _ mw_24) rfl) <|
  am_fa (sn_aload_n (k := 0) (by decide +kernel) rfl rfl) <|
  am_fa (sn_getP (idx := 32) (ob := am_o50) (by decide +kernel) rfl (by decide) rfl hin_50 (List.mem_cons_of_mem _ mw_491) rfl) <|
  am_fa (sn_iload_n (k := 1) (by decide +kernel) rfl rfl) <|
  am_fa (sn_zald (by decide +kernel) rfl rfl rfl) <|
  am_fa (sn_if_eq (off := 22) (by decide +kernel) (by decide) rfl) <|
  am_fa (sn_aload_n (k := 0) (by decide +kernel) rfl rfl) <|
  am_fa (sn_getP (idx := 29) (ob := am_o50) (by decide +kernel) rfl (by decide) rfl hin_50 (List.mem_cons_of_mem _ mw_490) rfl) <|
  am_fa (sn_iload_n (k := 2) (by decide +kernel) rfl rfl) <|
  am_fa (sn_zald (by decide +kernel) rfl rfl rfl) <|
  am_fa (sn_if_eq (off := 13) (by decide +kernel) (by decide) rfl) <|
  am_fa (sn_aload_n (k := 0) (by decide +kernel) rfl rfl) <|
  am_fa (sn_iload_n (k := 1) (by decide +kernel) rfl rfl) <|
  am_fa (sn_iconst (n := 5) (by decide +kernel) (by decide +kernel) rfl) <|
  am_fa (sn_irem (by decide +kernel) rfl) <|
  am_fa (sn_iload_n (k := 1) (by decide +kernel) rfl rfl) <|
  am_fa (sn_iconst (n := 5) (by decide +kernel) (by decide +kernel) rfl) <|
  am_fa (sn_idiv (by decide +kernel) rfl) <|
  am_fa (sn_callV (idx := 110) (ob := am_o50) (by decide +kernel) rfl (hG 84 (List.mem_cons_of_mem _ mw_609)) (by decide) (List.mem_cons_of_mem _ mw_42) (List.mem_cons_of_mem _ mw_606) (by decide +kernel) rfl rfl (List.mem_cons_of_mem _ mw_608) (List.mem_cons_of_mem _ mw_24) rfl) <|
  am_fa (sn_iinc (i := 1) (by decide +kernel) (by decide +kernel) (by decide) rfl) <|
  am_fa (sn_goto (off := (-66)) (by decide +kernel) (by decide)) <|
  am_fa (sn_ret (by decide +kernel) rfl) <|
  am_f0
theorem ct_84 : ∀ x ∈ am_c84, am_snd 84 x.1 x.2 :=
  am_fa (sn_iconst (n := 0) (by decide +kernel) (by decide +kernel) rfl) <|
  am_fa (sn_istore_n (k := 3) (by decide +kernel) rfl (by decide) rfl) <|
  am_fa (sn_iload_n (k := 3) (by decide +kernel) rfl rfl) <|
  am_fa (sn_iconst (n := 5) (by decide +kernel) (by decide +kernel) rfl) <|
  am_fa (sn_icmp_ge (off := 47) (by decide +kernel) (by decide) rfl) <|
  am_fa (sn_aload_n (k := 0) (by decide +kernel) rfl rfl) <|
  am_fa (sn_getP (idx := 41) (ob := am_o50) (by decide +kernel) rfl (by decide) rfl hin_50 (List.mem_cons_of_mem _ mw_494) rfl) <|
  am_fa (sn_iconst (n := 5) (by decide +kernel) (by decide +kernel) rfl) <|
  am_fa (sn_iload_n (k := 1) (by decide +kernel) rfl rfl) <|
  am_fa (sn_imul (by decide +kernel) rfl) <|
  am_fa (sn_iload_n (k := 3) (by decide +kernel) rfl rfl) <|
  am_fa (sn_iadd (by decide +kernel) rfl) <|
  am_fa (sn_iald (by decide +kernel) rfl rfl rfl) <|
  am_fa (sn_if_le (off := 28) (by decide +kernel) (by decide) rfl) <|
  am_fa (sn_aload_n (k := 0) (by decide +kernel) rfl rfl) <|
  am_fa (sn_iconst (n := 5) (by decide +kernel) (by decide +kernel) rfl) <|
  am_fa (sn_iload_n (k := 2) (by decide +kernel) rfl rfl) <|
  am_fa (sn_imul (by decide +kernel) rfl) <|
  am_fa (sn_iload_n (k := 3) (by decide +kernel) rfl rfl) <|
  am_fa (sn_iadd (by decide +kernel) rfl) <|
  am_fa (sn_iconst (n := 5) (by decide +kernel) (by decide +kernel) rfl) <|
  am_fa (sn_iload_n (k := 1) (by decide +kernel) rfl rfl) <|
  am_fa (sn_imul (by decide +kernel) rfl) <|
  am_fa (sn_iload_n (k := 3) (by decide +kernel) rfl rfl) <|
  am_fa (sn_iadd (by decide +kernel) rfl) <|
  am_fa (sn_callV (idx := 113) (ob := am_o50) (by decide +kernel) rfl (hG 76 (List.mem_cons_of_mem _ mw_613)) (by decide) (List.mem_cons_of_mem _ mw_42) (List.mem_cons_of_mem _ mw_610) (by decide +kernel) rfl rfl (List.mem_cons_of_mem _ mw_612) (List.mem_cons_of_mem _ mw_25) rfl) <|
  am_fa (sn_if_eq (off := 11) (by decide +kernel) (by decide) rfl) <|
  am_fa (sn_aload_n (k := 0) (by decide +kernel) rfl rfl) <|
  am_fa (sn_iload_n (k := 1) (by decide +kernel) rfl rfl) <|
  am_fa (sn_iload_n (k := 2) (by decide +kernel) rfl rfl) <|
  am_fa (sn_iload_n (k := 3) (by decide +kernel) rfl rfl) <|
  am_fa (sn_iconst (n := 0) (by decide +kernel) (by decide +kernel) rfl) <|
  am_fa (sn_callV (idx := 98) (ob := am_o50) (by decide +kernel) rfl (hG 78 (List.mem_cons_of_mem _ mw_617)) (by decide) (List.mem_cons_of_mem _ mw_42) (List.mem_cons_of_mem _ mw_614) (by decide +kernel) rfl rfl (List.mem_cons_of_mem _ mw_616) (List.mem_cons_of_mem _ mw_26) rfl) <|
  am_fa (sn_iinc (i := 1) (by decide +kernel) (by decide +kernel) (by decide) rfl) <|
  am_fa (sn_goto (off := (-46)) (by decide +kernel) (by decide)) <|
  am_fa (sn_ret (by decide +kernel) rfl) <|
  am_f0
set_option maxRecDepth 100000 in
theorem ct_85 : ∀ x ∈ am_c85, am_snd 85 x.1 x.2 :=
  am_fa (sn_bipush (n := 55) (by decide +kernel) (by decide +kernel) rfl) <|
  am_fa (sn_iload_n (k := 1) (by decide +kernel) rfl rfl) <|
  am_fa (sn_iadd (by decide +kernel) rfl) <|
  am_fa (sn_istore_n (k := 2) (by decide +kernel) rfl (by decide) rfl) <|
  am_fa (sn_bipush (n := 50) (by decide +kernel) (by decide +kernel) rfl) <|
  am_fa (sn_iload_n (k := 1) (by decide +kernel) rfl rfl) <|
  am_fa (sn_iadd (by decide +kernel) rfl) <|
  am_fa (sn_istore_n (k := 3) (by decide +kernel) rfl (by decide) rfl) <|
  am_fa (sn_iconst (n := 0) (by decide +kernel) (by decide +kernel) rfl) <|
  am_fa (sn_istore (by decide +kernel) (by decide) rfl) <|
  am_fa (sn_iload (by decide +kernel) rfl) <|
  am_fa (sn_iconst (n := 5) (by decide +kernel) (by decide +kernel) rfl) <|
  am_fa (sn_icmp_ge (off := 49) (by decide +kernel) (by decide) rfl) <|
  am_fa (sn_aload_n (k := 0) (by decide +kernel) rfl rfl) <|
  am_fa (sn_getP (idx := 47) (ob := am_o50) (by decide +kernel) rfl (by decide) rfl hin_50 (List.mem_cons_of_mem _ mw_496) rfl) <|
  am_fa (sn_iconst (n := 5) (by decide +kernel) (by decide +kernel) rfl) <|
  am_fa (sn_iload_n (k := 2) (by decide +kernel) rfl rfl) <|
  am_fa (sn_imul (by decide +kernel) rfl) <|
  am_fa (sn_iload (by decide +kernel) rfl) <|
  am_fa (sn_iadd (by decide +kernel) rfl) <|
  am_fa (sn_aload_n (k := 0) (by decide +kernel) rfl rfl) <|
  am_fa (sn_getP (idx := 29) (ob := am_o50) (by decide +kernel) rfl (by decide) rfl hin_50 (List.mem_cons_of_mem _ mw_490) rfl) <|
  am_fa (sn_iconst (n := 5) (by decide +kernel) (by decide +kernel) rfl) <|
  am_fa (sn_iload_n (k := 1) (by decide +kernel) rfl rfl) <|
  am_fa (sn_imul (by decide +kernel) rfl) <|
  am_fa (sn_iload (by decide +kernel) rfl) <|
  am_fa (sn_iadd (by decide +kernel) rfl) <|
  am_fa (sn_zald (by decide +kernel) rfl rfl rfl) <|
  am_fa (sn_if_eq (off := 17) (by decide +kernel) (by decide) rfl) <|
  am_fa (sn_aload_n (k := 0) (by decide +kernel) rfl rfl) <|
  am_fa (sn_getP (idx := 13) (ob := am_o50) (by decide +kernel) rfl (by decide) rfl hin_50 (List.mem_cons_of_mem _ mw_485) rfl) <|
  am_fa (sn_iconst (n := 5) (by decide +kernel) (by decide +kernel) rfl) <|
  am_fa (sn_iload_n (k := 1) (by decide +kernel) rfl rfl) <|
  am_fa (sn_imul (by decide +kernel) rfl) <|
  am_fa (sn_iload (by decide +kernel) rfl) <|
  am_fa (sn_iadd (by decide +kernel) rfl) <|
  am_fa (sn_iald (by decide +kernel) rfl rfl rfl) <|
  am_fa (sn_goto (off := 4) (by decide +kernel) (by decide)) <|
  am_fa (sn_iconst (n := 0) (by decide +kernel) (by decide +kernel) rfl) <|
  am_fa (sn_iast (by decide +kernel) rfl rfl rfl) <|
  am_fa (sn_iinc (i := 1) (by decide +kernel) (by decide +kernel) (by decide) rfl) <|
  am_fa (sn_goto (off := (-49)) (by decide +kernel) (by decide)) <|
  am_fa (sn_aload_n (k := 0) (by decide +kernel) rfl rfl) <|
  am_fa (sn_iload_n (k := 2) (by decide +kernel) rfl rfl) <|
  am_fa (sn_iload_n (k := 3) (by decide +kernel) rfl rfl) <|
  am_fa (sn_callV (idx := 116) (ob := am_o50) (by decide +kernel) rfl (hG 75 (List.mem_cons_of_mem _ mw_625)) (by decide) (List.mem_cons_of_mem _ mw_42) (List.mem_cons_of_mem _ mw_622) (by decide +kernel) rfl rfl (List.mem_cons_of_mem _ mw_624) (List.mem_cons_of_mem _ mw_28) rfl) <|
  am_fa (sn_if_eq (off := 28) (by decide +kernel) (by decide) rfl) <|
  am_fa (sn_aload_n (k := 0) (by decide +kernel) rfl rfl) <|
  am_fa (sn_getP (idx := 44) (ob := am_o50) (by decide +kernel) rfl (by decide) rfl hin_50 (List.mem_cons_of_mem _ mw_495) rfl) <|
  am_fa (sn_iload_n (k := 3) (by decide +kernel) rfl rfl) <|
  am_fa (sn_iald (by decide +kernel) rfl rfl rfl) <|
  am_fa (sn_aload_n (k := 0) (by decide +kernel) rfl rfl) <|
  am_fa (sn_getI (idx := 102) (ob := am_o50) (by decide +kernel) rfl (by decide) rfl hin_50 (List.mem_cons_of_mem _ mw_483) rfl) <|
  am_fa (sn_bipush (n := 20) (by decide +kernel) (by decide +kernel) rfl) <|
  am_fa (sn_isub (by decide +kernel) rfl) <|
  am_fa (sn_icmp_le (off := 12) (by decide +kernel) (by decide) rfl) <|
  am_fa (sn_aload_n (k := 0) (by decide +kernel) rfl rfl) <|
  am_fa (sn_getP (idx := 62) (ob := am_o50) (by decide +kernel) rfl (by decide) rfl hin_50 (List.mem_cons_of_mem _ mw_501) rfl) <|
  am_fa (sn_iload_n (k := 1) (by decide +kernel) rfl rfl) <|
  am_fa (sn_zald (by decide +kernel) rfl rfl rfl) <|
  am_fa (sn_if_eq (off := 7) (by decide +kernel) (by decide) rfl) <|
  am_fa (sn_iconst (n := 1) (by decide +kernel) (by decide +kernel) rfl) <|
  am_fa (sn_goto (off := 4) (by decide +kernel) (by decide)) <|
  am_fa (sn_iconst (n := 0) (by decide +kernel) (by decide +kernel) rfl) <|
  am_fa (sn_istore (by decide +kernel) (by decide) rfl) <|
  am_fa (sn_aload_n (k := 0) (by decide +kernel) rfl rfl) <|
  am_fa (sn_getP (idx := 41) (ob := am_o50) (by decide +kernel) rfl (by decide) rfl hin_50 (List.mem_cons_of_mem _ mw_494) rfl) <|
  am_fa (sn_iload_n (k := 3) (by decide +kernel) rfl rfl) <|
  am_fa (sn_iald (by decide +kernel) rfl rfl rfl) <|
  am_fa (sn_if_eq (off := 23) (by decide +kernel) (by decide) rfl) <|
  am_fa (sn_aload_n (k := 0) (by decide +kernel) rfl rfl) <|
  am_fa (sn_getP (idx := 44) (ob := am_o50) (by decide +kernel) rfl (by decide) rfl hin_50 (List.mem_cons_of_mem _ mw_495) rfl) <|
  am_fa (sn_iload_n (k := 3) (by decide +kernel) rfl rfl) <|
  am_fa (sn_iald (by decide +kernel) rfl rfl rfl) <|
  am_fa (sn_aload_n (k := 0) (by decide +kernel) rfl rfl) <|
  am_fa (sn_getI (idx := 102) (ob := am_o50) (by decide +kernel) rfl (by decide) rfl hin_50 (List.mem_cons_of_mem _ mw_483) rfl) <|
  am_fa (sn_iconst (n := 2) (by decide +kernel) (by decide +kernel) rfl) <|
  am_fa (sn_isub (by decide +kernel) rfl) <|
  am_fa (sn_icmp_gt (off := 12) (by decide +kernel) (by decide) rfl) <|
  am_fa (sn_iload (by decide +kernel) rfl) <|
  am_fa (sn_if_eq (off := 7) (by decide +kernel) (by decide) rfl) <|
  am_fa (sn_iconst (n := 1) (by decide +kernel) (by decide +kernel) rfl) <|
  am_fa (sn_goto (off := 4) (by decide +kernel) (by decide)) <|
  am_fa (sn_iconst (n := 0) (by decide +kernel) (by decide +kernel) rfl) <|
  am_fa (sn_istore (by decide +kernel) (by decide) rfl) <|
  am_fa (sn_aload_n (k := 0) (by decide +kernel) rfl rfl) <|
  am_fa (sn_getP (idx := 7) (ob := am_o50) (by decide +kernel) rfl (by decide) rfl hin_50 (List.mem_cons_of_mem _ mw_484) rfl) <|
  am_fa (sn_iload_n (k := 1) (by decide +kernel) rfl rfl) <|
  am_fa (sn_zald (by decide +kernel) rfl rfl rfl) <|
  am_fa (sn_if_ne (off := 8) (by decide +kernel) (by decide) rfl) <|
  am_fa (sn_iload (by decide +kernel) rfl) <|
  am_fa (sn_if_ne (off := 4) (by decide +kernel) (by decide) rfl) <|
  am_fa (sn_ret (by decide +kernel) rfl) <|
  am_fa (sn_aload_n (k := 0) (by decide +kernel) rfl rfl) <|
  am_fa (sn_getP (idx := 59) (ob := am_o50) (by decide +kernel) rfl (by decide) rfl hin_50 (List.mem_cons_of_mem _ mw_500) rfl) <|
  am_fa (sn_iload_n (k := 1) (by decide +kernel) rfl rfl) <|
  am_fa (sn_aload_n (k := 0) (by decide +kernel) rfl rfl) <|
  am_fa (sn_getP (idx := 59) (ob := am_o50) (by decide +kernel) rfl (by decide) rfl hin_50 (List.mem_cons_of_mem _ mw_500) rfl) <|
  am_fa (sn_iload_n (k := 1) (by decide +kernel) rfl rfl) <|
  am_fa (sn_iald (by decide +kernel) rfl rfl rfl) <|
  am_fa (sn_iconst (n := 1) (by decide +kernel) (by decide +kernel) rfl) <|
  am_fa (sn_iadd (by decide +kernel) rfl) <|
  am_fa (sn_iast (by decide +kernel) rfl rfl rfl) <|
  am_fa (sn_aload_n (k := 0) (by decide +kernel) rfl rfl) <|
  am_fa (sn_getP (idx := 41) (ob := am_o50) (by decide +kernel) rfl (by decide) rfl hin_50 (List.mem_cons_of_mem _ mw_494) rfl) <|
  am_fa (sn_iload_n (k := 2) (by decide +kernel) rfl rfl) <|
  am_fa (sn_aload_n (k := 0) (by decide +kernel) rfl rfl) <|
  am_fa (sn_getP (idx := 59) (ob := am_o50) (by decide +kernel) rfl (by decide) rfl hin_50 (List.mem_cons_of_mem _ mw_500) rfl) <|
  am_fa (sn_iload_n (k := 1) (by decide +kernel) rfl rfl) <|
  am_fa (sn_iald (by decide +kernel) rfl rfl rfl) <|
  am_fa (sn_iast (by decide +kernel) rfl rfl rfl) <|
  am_fa (sn_aload_n (k := 0) (by decide +kernel) rfl rfl) <|
  am_fa (sn_getP (idx := 44) (ob := am_o50) (by decide +kernel) rfl (by decide) rfl hin_50 (List.mem_cons_of_mem _ mw_495) rfl) <|
  am_fa (sn_iload_n (k := 2) (by decide +kernel) rfl rfl) <|
  am_fa (sn_aload_n (k := 0) (by decide +kernel) rfl rfl) <|
  am_fa (sn_getI (idx := 102) (ob := am_o50) (by decide +kernel) rfl (by decide) rfl hin_50 (List.mem_cons_of_mem _ mw_483) rfl) <|
  am_fa (sn_iast (by decide +kernel) rfl rfl rfl) <|
  am_fa (sn_aload_n (k := 0) (by decide +kernel) rfl rfl) <|
  am_fa (sn_iload_n (k := 2) (by decide +kernel) rfl rfl) <|
  am_fa (sn_iload_n (k := 3) (by decide +kernel) rfl rfl) <|
  am_fa (sn_callV (idx := 95) (ob := am_o50) (by decide +kernel) rfl (hG 74 (List.mem_cons_of_mem _ mw_629)) (by decide) (List.mem_cons_of_mem _ mw_42) (List.mem_cons_of_mem _ mw_626) (by decide +kernel) rfl rfl (List.mem_cons_of_mem _ mw_628) (List.mem_cons_of_mem _ mw_29) rfl) <|
  am_fa (sn_aload_n (k := 0) (by decide +kernel) rfl rfl) <|
  am_fa (sn_getP (idx := 62) (ob := am_o50) (by decide +kernel) rfl (by decide) rfl hin_50 (List.mem_cons_of_mem _ mw_501) rfl) <|
  am_fa (sn_iload_n (k := 1) (by decide +kernel) rfl rfl) <|
  am_fa (sn_iconst (n := 0) (by decide +kernel) (by decide +kernel) rfl) <|
  am_fa (sn_zast (by decide +kernel) rfl rfl rfl) <|
  am_fa (sn_aload_n (k := 0) (by decide +kernel) rfl rfl) <|
  am_fa (sn_getP (idx := 38) (ob := am_o50) (by decide +kernel) rfl (by decide) rfl hin_50 (List.mem_cons_of_mem _ mw_493) rfl) <|
  am_fa (sn_iconst (n := 5) (by decide +kernel) (by decide +kernel) rfl) <|
  am_fa (sn_aload_n (k := 0) (by decide +kernel) rfl rfl) <|
  am_fa (sn_getP (idx := 38) (ob := am_o50) (by decide +kernel) rfl (by decide) rfl hin_50 (List.mem_cons_of_mem _ mw_493) rfl) <|
  am_fa (sn_iconst (n := 5) (by decide +kernel) (by decide +kernel) rfl) <|
  am_fa (sn_iald (by decide +kernel) rfl rfl rfl) <|
  am_fa (sn_iconst (n := 1) (by decide +kernel) (by decide +kernel) rfl) <|
  am_fa (sn_iadd (by decide +kernel) rfl) <|
  am_fa (sn_iast (by decide +kernel) rfl rfl rfl) <|
  am_fa (sn_aload_n (k := 0) (by decide +kernel) rfl rfl) <|
  am_fa (sn_iload_n (k := 1) (by decide +kernel) rfl rfl) <|
  am_fa (sn_iload_n (k := 1) (by decide +kernel) rfl rfl) <|
  am_fa (sn_iload_n (k := 2) (by decide +kernel) rfl rfl) <|
  am_fa (sn_iload_n (k := 1) (by decide +kernel) rfl rfl) <|
  am_fa (sn_callV (idx := 119) (ob := am_o50) (by decide +kernel) rfl (hG 79 (List.mem_cons_of_mem _ mw_633)) (by decide) (List.mem_cons_of_mem _ mw_42) (List.mem_cons_of_mem _ mw_630) (by decide +kernel) rfl rfl (List.mem_cons_of_mem _ mw_632) (List.mem_cons_of_mem _ mw_30) rfl) <|
  am_fa (sn_ret (by decide +kernel) rfl) <|
  am_f0
set_option maxRecDepth 100000 in
theorem ct_86 : ∀ x ∈ am_c86, am_snd 86 x.1 x.2 :=
  am_fa (sn_iconst (n := 0) (by decide +kernel) (by decide +kernel) rfl) <|
  am_fa (sn_istore_n (k := 1) (by decide +kernel) rfl (by decide) rfl) <|
  am_fa (sn_iload_n (k := 1) (by decide +kernel) rfl rfl) <|
  am_fa (sn_bipush (n := 25) (by decide +kernel) (by decide +kernel) rfl) <|
  am_fa (sn_icmp_ge (off := 18) (by decide +kernel) (by decide) rfl) <|
  am_fa (sn_aload_n (k := 0) (by decide +kernel) rfl rfl) <|
  am_fa (sn_iload_n (k := 1) (by decide +kernel) rfl rfl) <|
  am_fa (sn_bipush (n := 25) (by decide +kernel) (by decide +kernel) rfl) <|
  am_fa (sn_iload_n (k := 1) (by decide +kernel) rfl rfl) <|
  am_fa (sn_iadd (by decide +kernel) rfl) <|
  am_fa (sn_callV (idx := 95) (ob := am_o50) (by decide +kernel) rfl (hG 74 (List.mem_cons_of_mem _ mw_629)) (by decide) (List.mem_cons_of_mem _ mw_42) (List.mem_cons_of_mem _ mw_626) (by decide +kernel) rfl rfl (List.mem_cons_of_mem _ mw_628) (List.mem_cons_of_mem _ mw_29) rfl) <|
  am_fa (sn_iinc (i := 1) (by decide +kernel) (by decide +kernel) (by decide) rfl) <|
  am_fa (sn_goto (off := (-18)) (by decide +kernel) (by decide)) <|
  am_fa (sn_iconst (n := 0) (by decide +kernel) (by decide +kernel) rfl) <|
  am_fa (sn_istore_n (k := 1) (by decide +kernel) rfl (by decide) rfl) <|
  am_fa (sn_iload_n (k := 1) (by decide +kernel) rfl rfl) <|
  am_fa (sn_bipush (n := 25) (by decide +kernel) (by decide +kernel) rfl) <|
  am_fa (sn_icmp_ge (off := 170) (by decide +kernel) (by decide) rfl) <|
  am_fa (sn_iconst (n := 0) (by decide +kernel) (by decide +kernel) rfl) <|
  am_fa (sn_istore_n (k := 2) (by decide +kernel) rfl (by decide) rfl) <|
  am_fa (sn_iconst (n := 0) (by decide +kernel) (by decide +kernel) rfl) <|
  am_fa (sn_istore_n (k := 3) (by decide +kernel) rfl (by decide) rfl) <|
  am_fa (sn_iload_n (k := 3) (by decide +kernel) rfl rfl) <|
  am_fa (sn_iconst (n := 5) (by decide +kernel) (by decide +kernel) rfl) <|
  am_fa (sn_icmp_ge (off := 112) (by decide +kernel) (by decide) rfl) <|
  am_fa (sn_iconst (n := 5) (by decide +kernel) (by decide +kernel) rfl) <|
  am_fa (sn_iload_n (k := 1) (by decide +kernel) rfl rfl) <|
  am_fa (sn_imul (by decide +kernel) rfl) <|
  am_fa (sn_iload_n (k := 3) (by decide +kernel) rfl rfl) <|
  am_fa (sn_iadd (by decide +kernel) rfl) <|
  am_fa (sn_istore (by decide +kernel) (by decide) rfl) <|
  am_fa (sn_aload_n (k := 0) (by decide +kernel) rfl rfl) <|
  am_fa (sn_getP (idx := 71) (ob := am_o50) (by decide +kernel) rfl (by decide) rfl hin_50 (List.mem_cons_of_mem _ mw_504) rfl) <|
  am_fa (sn_iload (by decide +kernel) rfl) <|
  am_fa (sn_aload_n (k := 0) (by decide +kernel) rfl rfl) <|
  am_fa (sn_getP (idx := 29) (ob := am_o50) (by decide +kernel) rfl (by decide) rfl hin_50 (List.mem_cons_of_mem _ mw_490) rfl) <|
  am_fa (sn_iload_n (k := 1) (by decide +kernel) rfl rfl) <|
  am_fa (sn_zald (by decide +kernel) rfl rfl rfl) <|
  am_fa (sn_if_eq (off := 33) (by decide +kernel) (by decide) rfl) <|
  am_fa (sn_aload_n (k := 0) (by decide +kernel) rfl rfl) <|
  am_fa (sn_getP (idx := 65) (ob := am_o50) (by decide +kernel) rfl (by decide) rfl hin_50 (List.mem_cons_of_mem _ mw_502) rfl) <|
  am_fa (sn_iload (by decide +kernel) rfl) <|
  am_fa (sn_zald (by decide +kernel) rfl rfl rfl) <|
  am_fa (sn_if_eq (off := 23) (by decide +kernel) (by decide) rfl) <|
  am_fa (sn_aload_n (k := 0) (by decide +kernel) rfl rfl) <|
  am_fa (sn_getP (idx := 68) (ob := am_o50) (by decide +kernel) rfl (by decide) rfl hin_50 (List.mem_cons_of_mem _ mw_503) rfl) <|
  am_fa (sn_iload (by decide +kernel) rfl) <|
  am_fa (sn_iald (by decide +kernel) rfl rfl rfl) <|
  am_fa (sn_aload_n (k := 0) (by decide +kernel) rfl rfl) <|
  am_fa (sn_getI (idx := 102) (ob := am_o50) (by decide +kernel) rfl (by decide) rfl hin_50 (List.mem_cons_of_mem _ mw_483) rfl) <|
  am_fa (sn_iconst (n := 3) (by decide +kernel) (by decide +kernel) rfl) <|
  am_fa (sn_isub (by decide +kernel) rfl) <|
  am_fa (sn_icmp_gt (off := 7) (by decide +kernel) (by decide) rfl) <|
  am_fa (sn_iconst (n := 1) (by decide +kernel) (by decide +kernel) rfl) <|
  am_fa (sn_goto (off := 4) (by decide +kernel) (by decide)) <|
  am_fa (sn_iconst (n := 0) (by decide +kernel) (by decide +kernel) rfl) <|
  am_fa (sn_zast (by decide +kernel) rfl rfl rfl) <|
  am_fa (sn_aload_n (k := 0) (by decide +kernel) rfl rfl) <|
  am_fa (sn_getP (idx := 68) (ob := am_o50) (by decide +kernel) rfl (by decide) rfl hin_50 (List.mem_cons_of_mem _ mw_503) rfl) <|
  am_fa (sn_iload (by decide +kernel) rfl) <|
  am_fa (sn_aload_n (k := 0) (by decide +kernel) rfl rfl) <|
  am_fa (sn_getP (idx := 71) (ob := am_o50) (by decide +kernel) rfl (by decide) rfl hin_50 (List.mem_cons_of_mem _ mw_504) rfl) <|
  am_fa (sn_iload (by decide +kernel) rfl) <|
  am_fa (sn_zald (by decide +kernel) rfl rfl rfl) <|
  am_fa (sn_if_eq (off := 10) (by decide +kernel) (by decide) rfl) <|
  am_fa (sn_aload_n (k := 0) (by decide +kernel) rfl rfl) <|
  am_fa (sn_getI (idx := 102) (ob := am_o50) (by decide +kernel) rfl (by decide) rfl hin_50 (List.mem_cons_of_mem _ mw_483) rfl) <|
  am_fa (sn_goto (off := 10) (by decide +kernel) (by decide)) <|
  am_fa (sn_aload_n (k := 0) (by decide +kernel) rfl rfl) <|
  am_fa (sn_getP (idx := 68) (ob := am_o50) (by decide +kernel) rfl (by decide) rfl hin_50 (List.mem_cons_of_mem _ mw_503) rfl) <|
  am_fa (sn_iload (by decide +kernel) rfl) <|
  am_fa (sn_iald (by decide +kernel) rfl rfl rfl) <|
  am_fa (sn_iast (by decide +kernel) rfl rfl rfl) <|
  am_fa (sn_aload_n (k := 0) (by decide +kernel) rfl rfl) <|
  am_fa (sn_getP (idx := 71) (ob := am_o50) (by decide +kernel) rfl (by decide) rfl hin_50 (List.mem_cons_of_mem _ mw_504) rfl) <|
  am_fa (sn_iload (by decide +kernel) rfl) <|
  am_fa (sn_zald (by decide +kernel) rfl rfl rfl) <|
  am_fa (sn_if_eq (off := 9) (by decide +kernel) (by decide) rfl) <|
  am_fa (sn_iload_n (k := 2) (by decide +kernel) rfl rfl) <|
  am_fa (sn_iconst (n := 1) (by decide +kernel) (by decide +kernel) rfl) <|
  am_fa (sn_iadd (by decide +kernel) rfl) <|
  am_fa (sn_goto (off := 4) (by decide +kernel) (by decide)) <|
  am_fa (sn_iload_n (k := 2) (by decide +kernel) rfl rfl) <|
  am_fa (sn_istore_n (k := 2) (by decide +kernel) rfl (by decide) rfl) <|
  am_fa (sn_iinc (i := 1) (by decide +kernel) (by decide +kernel) (by decide) rfl) <|
  am_fa (sn_goto (off := (-111)) (by decide +kernel) (by decide)) <|
  am_fa (sn_aload_n (k := 0) (by decide +kernel) rfl rfl) <|
  am_fa (sn_getP (idx := 38) (ob := am_o50) (by decide +kernel) rfl (by decide) rfl hin_50 (List.mem_cons_of_mem _ mw_493) rfl) <|
  am_fa (sn_iconst (n := 2) (by decide +kernel) (by decide +kernel) rfl) <|
  am_fa (sn_aload_n (k := 0) (by decide +kernel) rfl rfl) <|
  am_fa (sn_getP (idx := 38) (ob := am_o50) (by decide +kernel) rfl (by decide) rfl hin_50 (List.mem_cons_of_mem _ mw_493) rfl) <|
  am_fa (sn_iconst (n := 2) (by decide +kernel) (by decide +kernel) rfl) <|
  am_fa (sn_iald (by decide +kernel) rfl rfl rfl) <|
  am_fa (sn_iload_n (k := 2) (by decide +kernel) rfl rfl) <|
  am_fa (sn_iadd (by decide +kernel) rfl) <|
  am_fa (sn_iast (by decide +kernel) rfl rfl rfl) <|
  am_fa (sn_aload_n (k := 0) (by decide +kernel) rfl rfl) <|
  am_fa (sn_getP (idx := 74) (ob := am_o50) (by decide +kernel) rfl (by decide) rfl hin_50 (List.mem_cons_of_mem _ mw_505) rfl) <|
  am_fa (sn_iload_n (k := 1) (by decide +kernel) rfl rfl) <|
  am_fa (sn_iload_n (k := 2) (by decide +kernel) rfl rfl) <|
  am_fa (sn_if_le (off := 21) (by decide +kernel) (by decide) rfl) <|
  am_fa (sn_aload_n (k := 0) (by decide +kernel) rfl rfl) <|
  am_fa (sn_iload_n (k := 1) (by decide +kernel) rfl rfl) <|
  am_fa (sn_iconst (n := 5) (by decide +kernel) (by decide +kernel) rfl) <|
  am_fa (sn_idiv (by decide +kernel) rfl) <|
  am_fa (sn_iload_n (k := 1) (by decide +kernel) rfl rfl) <|
  am_fa (sn_iconst (n := 5) (by decide +kernel) (by decide +kernel) rfl) <|
  am_fa (sn_irem (by decide +kernel) rfl) <|
  am_fa (sn_iconst (n := 1) (by decide +kernel) (by decide +kernel) rfl) <|
  am_fa (sn_callV (idx := 106) (ob := am_o50) (by decide +kernel) rfl (hG 80 (List.mem_cons_of_mem _ mw_601)) (by decide) (List.mem_cons_of_mem _ mw_42) (List.mem_cons_of_mem _ mw_598) (by decide +kernel) rfl rfl (List.mem_cons_of_mem _ mw_600) (List.mem_cons_of_mem _ mw_22) rfl) <|
  am_fa (sn_if_eq (off := 7) (by decide +kernel) (by decide) rfl) <|
  am_fa (sn_iconst (n := 1) (by decide +kernel) (by decide +kernel) rfl) <|
  am_fa (sn_goto (off := 4) (by decide +kernel) (by decide)) <|
  am_fa (sn_iconst (n := 0) (by decide +kernel) (by decide +kernel) rfl) <|
  am_fa (sn_zast (by decide +kernel) rfl rfl rfl) <|
  am_fa (sn_iinc (i := 1) (by decide +kernel) (by decide +kernel) (by decide) rfl) <|
  am_fa (sn_goto (off := (-170)) (by decide +kernel) (by decide)) <|
  am_fa (sn_ret (by decide +kernel) rfl) <|
  am_f0
set_option maxRecDepth 100000 in
theorem ct_87 : ∀ x ∈ am_c87, am_snd 87 x.1 x.2 :=
  am_fa (sn_iconst (n := 0) (by decide +kernel) (by decide +kernel) rfl) <|
  am_fa (sn_istore_n (k := 3) (by decide +kernel) rfl (by decide) rfl) <|
  am_fa (sn_iconst (n := 0) (by decide +kernel) (by decide +kernel) rfl) <|
  am_fa (sn_istore (by decide +kernel) (by decide) rfl) <|
  am_fa (sn_iload (by decide +kernel) rfl) <|
  am_fa (sn_iconst (n := 5) (by decide +kernel) (by decide +kernel) rfl) <|
  am_fa (sn_icmp_ge (off := 241) (by decide +kernel) (by decide) rfl) <|
  am_fa (sn_bipush (n := 25) (by decide +kernel) (by decide +kernel) rfl) <|
  am_fa (sn_iconst (n := 5) (by decide +kernel) (by decide +kernel) rfl) <|
  am_fa (sn_iload_n (k := 1) (by decide +kernel) rfl rfl) <|
  am_fa (sn_imul (by decide +kernel) rfl) <|
  am_fa (sn_iadd (by decide +kernel) rfl) <|
  am_fa (sn_iload (by decide +kernel) rfl) <|
  am_fa (sn_iadd (by decide +kernel) rfl) <|
  am_fa (sn_istore (by decide +kernel) (by decide) rfl) <|
  am_fa (sn_iconst (n := 5) (by decide +kernel) (by decide +kernel) rfl) <|
  am_fa (sn_iload_n (k := 2) (by decide +kernel) rfl rfl) <|
  am_fa (sn_imul (by decide +kernel) rfl) <|
  am_fa (sn_iload (by decide +kernel) rfl) <|
  am_fa (sn_iadd (by decide +kernel) rfl) <|
  am_fa (sn_istore (by decide +kernel) (by decide) rfl) <|
  am_fa (sn_aload_n (k := 0) (by decide +kernel) rfl rfl) <|
  am_fa (sn_getP (idx := 77) (ob := am_o50) (by decide +kernel) rfl (by decide) rfl hin_50 (List.mem_cons_of_mem _ mw_506) rfl) <|
  am_fa (sn_iload (by decide +kernel) rfl) <|
  am_fa (sn_iconst (n := 0) (by decide +kernel) (by decide +kernel) rfl) <|
  am_fa (sn_zast (by decide +kernel) rfl rfl rfl) <|
  am_fa (sn_aload_n (k := 0) (by decide +kernel) rfl rfl) <|
  am_fa (sn_getP (idx := 71) (ob := am_o50) (by decide +kernel) rfl (by decide) rfl hin_50 (List.mem_cons_of_mem _ mw_504) rfl) <|
  am_fa (sn_iconst (n := 5) (by decide +kernel) (by decide +kernel) rfl) <|
  am_fa (sn_iconst (n := 5) (by decide +kernel) (by decide +kernel) rfl) <|
  am_fa (sn_iload_n (k := 1) (by decide +kernel) rfl rfl) <|
  am_fa (sn_imul (by decide +kernel) rfl) <|
  am_fa (sn_iload_n (k := 2) (by decide +kernel) rfl rfl) <|
  am_fa (sn_iadd (by decide +kernel) rfl) <|
  am_fa (sn_imul (by decide +kernel) rfl) <|
  am_fa (sn_iload (by decide +kernel) rfl) <|
  am_fa (sn_iadd (by decide +kernel) rfl) <|
  am_fa (sn_zald (by decide +kernel) rfl rfl rfl) <|
  am_fa (sn_if_eq (off := 190) (by decide +kernel) (by decide) rfl) <|
  am_fa (sn_aload_n (k := 0) (by decide +kernel) rfl rfl) <|
  am_fa (sn_iload (by decide +kernel) rfl) <|
  am_fa (sn_iload (by decide +kernel) rfl) <|
  am_fa (sn_callV (idx := 113) (ob := am_o50) (by decide +kernel) rfl (hG 76 (List.mem_cons_of_mem _ mw_613)) (by decide) (List.mem_cons_of_mem _ mw_42) (List.mem_cons_of_mem _ mw_610) (by decide +kernel) rfl rfl (List.mem_cons_of_mem _ mw_612) (List.mem_cons_of_mem _ mw_25) rfl) <|
  am_fa (sn_istore (by decide +kernel) (by decide) rfl) <|
  am_fa (sn_aload_n (k := 0) (by decide +kernel) rfl rfl) <|
  am_fa (sn_getP (idx := 77) (ob := am_o50) (by decide +kernel) rfl (by decide) rfl hin_50 (List.mem_cons_of_mem _ mw_506) rfl) <|
  am_fa (sn_iload (by decide +kernel) rfl) <|
  am_fa (sn_iload (by decide +kernel) rfl) <|
  am_fa (sn_if_ne (off := 14) (by decide +kernel) (by decide) rfl) <|
  am_fa (sn_aload_n (k := 0) (by decide +kernel) rfl rfl) <|
  am_fa (sn_iload (by decide +kernel) rfl) <|
  am_fa (sn_iload (by decide +kernel) rfl) <|
  am_fa (sn_callV (idx := 123) (ob := am_o50) (by decide +kernel) rfl (hG 77 (List.mem_cons_of_mem _ mw_645)) (by decide) (List.mem_cons_of_mem _ mw_42) (List.mem_cons_of_mem _ mw_642) (by decide +kernel) rfl rfl (List.mem_cons_of_mem _ mw_644) (List.mem_cons_of_mem _ mw_33) rfl) <|
  am_fa (sn_if_eq (off := 7) (by decide +kernel) (by decide) rfl) <|
  am_fa (sn_iconst (n := 1) (by decide +kernel) (by decide +kernel) rfl) <|
  am_fa (sn_goto (off := 4) (by decide +kernel) (by decide)) <|
  am_fa (sn_iconst (n := 0) (by decide +kernel) (by decide +kernel) rfl) <|
  am_fa (sn_zast (by decide +kernel) rfl rfl rfl) <|
  am_fa (sn_aload_n (k := 0) (by decide +kernel) rfl rfl) <|
  am_fa (sn_getP (idx := 77) (ob := am_o50) (by decide +kernel) rfl (by decide) rfl hin_50 (List.mem_cons_of_mem _ mw_506) rfl) <|
  am_fa (sn_iload (by decide +kernel) rfl) <|
  am_fa (sn_zald (by decide +kernel) rfl rfl rfl) <|
  am_fa (sn_if_eq (off := 9) (by decide +kernel) (by decide) rfl) <|
  am_fa (sn_iload_n (k := 3) (by decide +kernel) rfl rfl) <|
  am_fa (sn_iconst (n := 1) (by decide +kernel) (by decide +kernel) rfl) <|
  am_fa (sn_iadd (by decide +kernel) rfl) <|
  am_fa (sn_goto (off := 4) (by decide +kernel) (by decide)) <|
  am_fa (sn_iload_n (k := 3) (by decide +kernel) rfl rfl) <|
  am_fa (sn_istore_n (k := 3) (by decide +kernel) rfl (by decide) rfl) <|
  am_fa (sn_iload (by decide +kernel) rfl) <|
  am_fa (sn_if_eq (off := 57) (by decide +kernel) (by decide) rfl) <|
  am_fa (sn_iload (by decide +kernel) rfl) <|
  am_fa (sn_iload_n (k := 2) (by decide +kernel) rfl rfl) <|
  am_fa (sn_icmp_ne (off := 51) (by decide +kernel) (by decide) rfl) <|
  am_fa (sn_aload_n (k := 0) (by decide +kernel) rfl rfl) <|
  am_fa (sn_getP (idx := 59) (ob := am_o50) (by decide +kernel) rfl (by decide) rfl hin_50 (List.mem_cons_of_mem _ mw_500) rfl) <|
  am_fa (sn_iload_n (k := 2) (by decide +kernel) rfl rfl) <|
  am_fa (sn_aload_n (k := 0) (by decide +kernel) rfl rfl) <|
  am_fa (sn_getP (idx := 41) (ob := am_o50) (by decide +kernel) rfl (by decide) rfl hin_50 (List.mem_cons_of_mem _ mw_494) rfl) <|
  am_fa (sn_iload (by decide +kernel) rfl) <|
  am_fa (sn_iald (by decide +kernel) rfl rfl rfl) <|
  am_fa (sn_aload_n (k := 0) (by decide +kernel) rfl rfl) <|
  am_fa (sn_getP (idx := 59) (ob := am_o50) (by decide +kernel) rfl (by decide) rfl hin_50 (List.mem_cons_of_mem _ mw_500) rfl) <|
  am_fa (sn_iload_n (k := 2) (by decide +kernel) rfl rfl) <|
  am_fa (sn_iald (by decide +kernel) rfl rfl rfl) <|
  am_fa (sn_icmp_le (off := 13) (by decide +kernel) (by decide) rfl) <|
  am_fa (sn_aload_n (k := 0) (by decide +kernel) rfl rfl) <|
  am_fa (sn_getP (idx := 41) (ob := am_o50) (by decide +kernel) rfl (by decide) rfl hin_50 (List.mem_cons_of_mem _ mw_494) rfl) <|
  am_fa (sn_iload (by decide +kernel) rfl) <|
  am_fa (sn_iald (by decide +kernel) rfl rfl rfl) <|
  am_fa (sn_goto (off := 9) (by decide +kernel) (by decide)) <|
  am_fa (sn_aload_n (k := 0) (by decide +kernel) rfl rfl) <|
  am_fa (sn_getP (idx := 59) (ob := am_o50) (by decide +kernel) rfl (by decide) rfl hin_50 (List.mem_cons_of_mem _ mw_500) rfl) <|
  am_fa (sn_iload_n (k := 2) (by decide +kernel) rfl rfl) <|
  am_fa (sn_iald (by decide +kernel) rfl rfl rfl) <|
  am_fa (sn_iast (by decide +kernel) rfl rfl rfl) <|
  am_fa (sn_aload_n (k := 0) (by decide +kernel) rfl rfl) <|
  am_fa (sn_getP (idx := 62) (ob := am_o50) (by decide +kernel) rfl (by decide) rfl hin_50 (List.mem_cons_of_mem _ mw_501) rfl) <|
  am_fa (sn_iload_n (k := 2) (by decide +kernel) rfl rfl) <|
  am_fa (sn_iconst (n := 1) (by decide +kernel) (by decide +kernel) rfl) <|
  am_fa (sn_zast (by decide +kernel) rfl rfl rfl) <|
  am_fa (sn_goto (off := 75) (by decide +kernel) (by decide)) <|
  am_fa (sn_iload (by decide +kernel) rfl) <|
  am_fa (sn_if_eq (off := 32) (by decide +kernel) (by decide) rfl) <|
  am_fa (sn_aload_n (k := 0) (by decide +kernel) rfl rfl) <|
  am_fa (sn_getP (idx := 38) (ob := am_o50) (by decide +kernel) rfl (by decide) rfl hin_50 (List.mem_cons_of_mem _ mw_493) rfl) <|
  am_fa (sn_bipush (n := 6) (by decide +kernel) (by decide +kernel) rfl) <|
  am_fa (sn_aload_n (k := 0) (by decide +kernel) rfl rfl) <|
  am_fa (sn_getP (idx := 38) (ob := am_o50) (by decide +kernel) rfl (by decide) rfl hin_50 (List.mem_cons_of_mem _ mw_493) rfl) <|
  am_fa (sn_bipush (n := 6) (by decide +kernel) (by decide +kernel) rfl) <|
  am_fa (sn_iald (by decide +kernel) rfl rfl rfl) <|
  am_fa (sn_iconst (n := 1) (by decide +kernel) (by decide +kernel) rfl) <|
  am_fa (sn_iadd (by decide +kernel) rfl) <|
  am_fa (sn_iast (by decide +kernel) rfl rfl rfl) <|
  am_fa (sn_aload_n (k := 0) (by decide +kernel) rfl rfl) <|
  am_fa (sn_iload_n (k := 2) (by decide +kernel) rfl rfl) <|
  am_fa (sn_iload (by decide +kernel) rfl) <|
  am_fa (sn_iload (by decide +kernel) rfl) <|
  am_fa (sn_iload_n (k := 1) (by decide +kernel) rfl rfl) <|
  am_fa (sn_callV (idx := 119) (ob := am_o50) (by decide +kernel) rfl (hG 79 (List.mem_cons_of_mem _ mw_633)) (by decide) (List.mem_cons_of_mem _ mw_42) (List.mem_cons_of_mem _ mw_630) (by decide +kernel) rfl rfl (List.mem_cons_of_mem _ mw_632) (List.mem_cons_of_mem _ mw_30) rfl) <|
  am_fa (sn_goto (off := 41) (by decide +kernel) (by decide)) <|
  am_fa (sn_aload_n (k := 0) (by decide +kernel) rfl rfl) <|
  am_fa (sn_getP (idx := 77) (ob := am_o50) (by decide +kernel) rfl (by decide) rfl hin_50 (List.mem_cons_of_mem _ mw_506) rfl) <|
  am_fa (sn_iload (by decide +kernel) rfl) <|
  am_fa (sn_zald (by decide +kernel) rfl rfl rfl) <|
  am_fa (sn_if_eq (off := 22) (by decide +kernel) (by decide) rfl) <|
  am_fa (sn_aload_n (k := 0) (by decide +kernel) rfl rfl) <|
  am_fa (sn_getP (idx := 65) (ob := am_o50) (by decide +kernel) rfl (by decide) rfl hin_50 (List.mem_cons_of_mem _ mw_502) rfl) <|
  am_fa (sn_iconst (n := 5) (by decide +kernel) (by decide +kernel) rfl) <|
  am_fa (sn_iconst (n := 5) (by decide +kernel) (by decide +kernel) rfl) <|
  am_fa (sn_iload_n (k := 2) (by decide +kernel) rfl rfl) <|
  am_fa (sn_imul (by decide +kernel) rfl) <|
  am_fa (sn_iload_n (k := 1) (by decide +kernel) rfl rfl) <|
  am_fa (sn_iadd (by decide +kernel) rfl) <|
  am_fa (sn_imul (by decide +kernel) rfl) <|
  am_fa (sn_iload (by decide +kernel) rfl) <|
  am_fa (sn_iadd (by decide +kernel) rfl) <|
  am_fa (sn_iconst (n := 0) (by decide +kernel) (by decide +kernel) rfl) <|
  am_fa (sn_zast (by decide +kernel) rfl rfl rfl) <|
  am_fa (sn_goto (off := 12) (by decide +kernel) (by decide)) <|
  am_fa (sn_aload_n (k := 0) (by decide +kernel) rfl rfl) <|
  am_fa (sn_iload_n (k := 2) (by decide +kernel) rfl rfl) <|
  am_fa (sn_iload_n (k := 1) (by decide +kernel) rfl rfl) <|
  am_fa (sn_iload (by decide +kernel) rfl) <|
  am_fa (sn_iconst (n := 0) (by decide +kernel) (by decide +kernel) rfl) <|
  am_fa (sn_callV (idx := 98) (ob := am_o50) (by decide +kernel) rfl (hG 78 (List.mem_cons_of_mem _ mw_617)) (by decide) (List.mem_cons_of_mem _ mw_42) (List.mem_cons_of_mem _ mw_614) (by decide +kernel) rfl rfl (List.mem_cons_of_mem _ mw_616) (List.mem_cons_of_mem _ mw_26) rfl) <|
  am_fa (sn_iinc (i := 1) (by decide +kernel) (by decide +kernel) (by decide) rfl) <|
  am_fa (sn_goto (off := (-241)) (by decide +kernel) (by decide)) <|
  am_fa (sn_iload_n (k := 3) (by decide +kernel) rfl rfl) <|
  am_fa (sn_if_eq (off := 13) (by decide +kernel) (by decide) rfl) <|
  am_fa (sn_aload_n (k := 0) (by decide +kernel) rfl rfl) <|
  am_fa (sn_iload_n (k := 2) (by decide +kernel) rfl rfl) <|
  am_fa (sn_iload_n (k := 1) (by decide +kernel) rfl rfl) <|
  am_fa (sn_iconst (n := 3) (by decide +kernel) (by decide +kernel) rfl) <|
  am_fa (sn_callV (idx := 106) (ob := am_o50) (by decide +kernel) rfl (hG 80 (List.mem_cons_of_mem _ mw_601)) (by decide) (List.mem_cons_of_mem _ mw_42) (List.mem_cons_of_mem _ mw_598) (by decide +kernel) rfl rfl (List.mem_cons_of_mem _ mw_600) (List.mem_cons_of_mem _ mw_22) rfl) <|
  am_fa (sn_if_ne (off := 4) (by decide +kernel) (by decide) rfl) <|
  am_fa (sn_ret (by decide +kernel) rfl) <|
  am_fa (sn_iconst (n := 0) (by decide +kernel) (by decide +kernel) rfl) <|
  am_fa (sn_istore (by decide +kernel) (by decide) rfl) <|
  am_fa (sn_iload (by decide +kernel) rfl) <|
  am_fa (sn_iconst (n := 5) (by decide +kernel) (by decide +kernel) rfl) <|
  am_fa (sn_icmp_ge (off := 83) (by decide +kernel) (by decide) rfl) <|
  am_fa (sn_aload_n (k := 0) (by decide +kernel) rfl rfl) <|
  am_fa (sn_getP (idx := 41) (ob := am_o50) (by decide +kernel) rfl (by decide) rfl hin_50 (List.mem_cons_of_mem _ mw_494) rfl) <|
  am_fa (sn_iconst (n := 5) (by decide +kernel) (by decide +kernel) rfl) <|
  am_fa (sn_iload_n (k := 1) (by decide +kernel) rfl rfl) <|
  am_fa (sn_imul (by decide +kernel) rfl) <|
  am_fa (sn_iload (by decide +kernel) rfl) <|
  am_fa (sn_iadd (by decide +kernel) rfl) <|
  am_fa (sn_iald (by decide +kernel) rfl rfl rfl) <|
  am_fa (sn_if_le (off := 29) (by decide +kernel) (by decide) rfl) <|
  am_fa (sn_aload_n (k := 0) (by decide +kernel) rfl rfl) <|
  am_fa (sn_iconst (n := 5) (by decide +kernel) (by decide +kernel) rfl) <|
  am_fa (sn_iload_n (k := 1) (by decide +kernel) rfl rfl) <|
  am_fa (sn_imul (by decide +kernel) rfl) <|
  am_fa (sn_iload (by decide +kernel) rfl) <|
  am_fa (sn_iadd (by decide +kernel) rfl) <|
  am_fa (sn_bipush (n := 25) (by decide +kernel) (by decide +kernel) rfl) <|
  am_fa (sn_iconst (n := 5) (by decide +kernel) (by decide +kernel) rfl) <|
  am_fa (sn_iload_n (k := 1) (by decide +kernel) rfl rfl) <|
  am_fa (sn_imul (by decide +kernel) rfl) <|
  am_fa (sn_iadd (by decide +kernel) rfl) <|
  am_fa (sn_iload (by decide +kernel) rfl) <|
  am_fa (sn_iadd (by decide +kernel) rfl) <|
  am_fa (sn_callV (idx := 123) (ob := am_o50) (by decide +kernel) rfl (hG 77 (List.mem_cons_of_mem _ mw_645)) (by decide) (List.mem_cons_of_mem _ mw_42) (List.mem_cons_of_mem _ mw_642) (by decide +kernel) rfl rfl (List.mem_cons_of_mem _ mw_644) (List.mem_cons_of_mem _ mw_33) rfl) <|
  am_fa (sn_if_eq (off := 7) (by decide +kernel) (by decide) rfl) <|
  am_fa (sn_iconst (n := 1) (by decide +kernel) (by decide +kernel) rfl) <|
  am_fa (sn_goto (off := 4) (by decide +kernel) (by decide)) <|
  am_fa (sn_iconst (n := 0) (by decide +kernel) (by decide +kernel) rfl) <|
  am_fa (sn_istore (by decide +kernel) (by decide) rfl) <|
  am_fa (sn_aload_n (k := 0) (by decide +kernel) rfl rfl) <|
  am_fa (sn_getP (idx := 77) (ob := am_o50) (by decide +kernel) rfl (by decide) rfl hin_50 (List.mem_cons_of_mem _ mw_506) rfl) <|
  am_fa (sn_iload (by decide +kernel) rfl) <|
  am_fa (sn_zald (by decide +kernel) rfl rfl rfl) <|
  am_fa (sn_if_eq (off := 24) (by decide +kernel) (by decide) rfl) <|
  am_fa (sn_iload (by decide +kernel) rfl) <|
  am_fa (sn_if_eq (off := 19) (by decide +kernel) (by decide) rfl) <|
  am_fa (sn_aload_n (k := 0) (by decide +kernel) rfl rfl) <|
  am_fa (sn_getP (idx := 65) (ob := am_o50) (by decide +kernel) rfl (by decide) rfl hin_50 (List.mem_cons_of_mem _ mw_502) rfl) <|
  am_fa (sn_iconst (n := 5) (by decide +kernel) (by decide +kernel) rfl) <|
  am_fa (sn_iconst (n := 5) (by decide +kernel) (by decide +kernel) rfl) <|
  am_fa (sn_iload_n (k := 1) (by decide +kernel) rfl rfl) <|
  am_fa (sn_imul (by decide +kernel) rfl) <|
  am_fa (sn_iload_n (k := 2) (by decide +kernel) rfl rfl) <|
  am_fa (sn_iadd (by decide +kernel) rfl) <|
  am_fa (sn_imul (by decide +kernel) rfl) <|
  am_fa (sn_iload (by decide +kernel) rfl) <|
  am_fa (sn_iadd (by decide +kernel) rfl) <|
  am_fa (sn_iconst (n := 0) (by decide +kernel) (by decide +kernel) rfl) <|
  am_fa (sn_zast (by decide +kernel) rfl rfl rfl) <|
  am_fa (sn_iinc (i := 1) (by decide +kernel) (by decide +kernel) (by decide) rfl) <|
  am_fa (sn_goto (off := (-83)) (by decide +kernel) (by decide)) <|
  am_fa (sn_ret (by decide +kernel) rfl) <|
  am_f0
theorem ct_88 : ∀ x ∈ am_c88, am_snd 88 x.1 x.2 :=
  am_fa (sn_iload_n (k := 1) (by decide +kernel) rfl rfl) <|
  am_fa (sn_iconst (n := 1) (by decide +kernel) (by decide +kernel) rfl) <|
  am_fa (sn_icmp_lt (off := 8) (by decide +kernel) (by decide) rfl) <|
  am_fa (sn_iload_n (k := 1) (by decide +kernel) rfl rfl) <|
  am_fa (sn_iconst (n := 4) (by decide +kernel) (by decide +kernel) rfl) <|
  am_fa (sn_icmp_le (off := 5) (by decide +kernel) (by decide) rfl) <|
  am_fa (sn_iconst (n := 0) (by decide +kernel) (by decide +kernel) rfl) <|
  am_fa (sn_zret (by decide +kernel) rfl) <|
  am_fa (sn_iconst (n := 0) (by decide +kernel) (by decide +kernel) rfl) <|
  am_fa (sn_istore_n (k := 2) (by decide +kernel) rfl (by decide) rfl) <|
  am_fa (sn_iload_n (k := 2) (by decide +kernel) rfl rfl) <|
  am_fa (sn_iload_n (k := 1) (by decide +kernel) rfl rfl) <|
  am_fa (sn_icmp_ge (off := 112) (by decide +kernel) (by decide) rfl) <|
  am_fa (sn_aload_n (k := 0) (by decide +kernel) rfl rfl) <|
  am_fa (sn_aload_n (k := 0) (by decide +kernel) rfl rfl) <|
  am_fa (sn_getI (idx := 102) (ob := am_o50) (by decide +kernel) rfl (by decide) rfl hin_50 (List.mem_cons_of_mem _ mw_483) rfl) <|
  am_fa (sn_iconst (n := 1) (by decide +kernel) (by decide +kernel) rfl) <|
  am_fa (sn_iadd (by decide +kernel) rfl) <|
  am_fa (sn_putI (idx := 102) (ob := am_o50) (by decide +kernel) rfl (by decide) rfl hin_50 (List.mem_cons_of_mem _ mw_483) am_o50_ty am_o50_nm rfl rfl rfl) <|
  am_fa (sn_aload_n (k := 0) (by decide +kernel) rfl rfl) <|
  am_fa (sn_callV (idx := 126) (ob := am_o50) (by decide +kernel) rfl (hG 81 (List.mem_cons_of_mem _ mw_593)) (by decide) (List.mem_cons_of_mem _ mw_42) (List.mem_cons_of_mem _ mw_590) (by decide +kernel) rfl rfl (List.mem_cons_of_mem _ mw_592) (List.mem_cons_of_mem _ mw_20) rfl) <|
  am_fa (sn_aload_n (k := 0) (by decide +kernel) rfl rfl) <|
  am_fa (sn_getI (idx := 102) (ob := am_o50) (by decide +kernel) rfl (by decide) rfl hin_50 (List.mem_cons_of_mem _ mw_483) rfl) <|
  am_fa (sn_iconst (n := 2) (by decide +kernel) (by decide +kernel) rfl) <|
  am_fa (sn_irem (by decide +kernel) rfl) <|
  am_fa (sn_if_ne (off := 7) (by decide +kernel) (by decide) rfl) <|
  am_fa (sn_aload_n (k := 0) (by decide +kernel) rfl rfl) <|
  am_fa (sn_callV (idx := 129) (ob := am_o50) (by decide +kernel) rfl (hG 82 (List.mem_cons_of_mem _ mw_597)) (by decide) (List.mem_cons_of_mem _ mw_42) (List.mem_cons_of_mem _ mw_594) (by decide +kernel) rfl rfl (List.mem_cons_of_mem _ mw_596) (List.mem_cons_of_mem _ mw_21) rfl) <|
  am_fa (sn_aload_n (k := 0) (by decide +kernel) rfl rfl) <|
  am_fa (sn_callV (idx := 132) (ob := am_o50) (by decide +kernel) rfl (hG 83 (List.mem_cons_of_mem _ mw_605)) (by decide) (List.mem_cons_of_mem _ mw_42) (List.mem_cons_of_mem _ mw_602) (by decide +kernel) rfl rfl (List.mem_cons_of_mem _ mw_604) (List.mem_cons_of_mem _ mw_23) rfl) <|
  am_fa (sn_iconst (n := 0) (by decide +kernel) (by decide +kernel) rfl) <|
  am_fa (sn_istore_n (k := 3) (by decide +kernel) rfl (by decide) rfl) <|
  am_fa (sn_iload_n (k := 3) (by decide +kernel) rfl rfl) <|
  am_fa (sn_iconst (n := 5) (by decide +kernel) (by decide +kernel) rfl) <|
  am_fa (sn_icmp_ge (off := 14) (by decide +kernel) (by decide) rfl) <|
  am_fa (sn_aload_n (k := 0) (by decide +kernel) rfl rfl) <|
  am_fa (sn_iload_n (k := 3) (by decide +kernel) rfl rfl) <|
  am_fa (sn_callV (idx := 135) (ob := am_o50) (by decide +kernel) rfl (hG 85 (List.mem_cons_of_mem _ mw_621)) (by decide) (List.mem_cons_of_mem _ mw_42) (List.mem_cons_of_mem _ mw_618) (by decide +kernel) rfl rfl (List.mem_cons_of_mem _ mw_620) (List.mem_cons_of_mem _ mw_27) rfl) <|
  am_fa (sn_iinc (i := 1) (by decide +kernel) (by decide +kernel) (by decide) rfl) <|
  am_fa (sn_goto (off := (-13)) (by decide +kernel) (by decide)) <|
  am_fa (sn_aload_n (k := 0) (by decide +kernel) rfl rfl) <|
  am_fa (sn_callV (idx := 139) (ob := am_o50) (by decide +kernel) rfl (hG 86 (List.mem_cons_of_mem _ mw_637)) (by decide) (List.mem_cons_of_mem _ mw_42) (List.mem_cons_of_mem _ mw_634) (by decide +kernel) rfl rfl (List.mem_cons_of_mem _ mw_636) (List.mem_cons_of_mem _ mw_31) rfl) <|
  am_fa (sn_iconst (n := 0) (by decide +kernel) (by decide +kernel) rfl) <|
  am_fa (sn_istore_n (k := 3) (by decide +kernel) rfl (by decide) rfl) <|
  am_fa (sn_iload_n (k := 3) (by decide +kernel) rfl rfl) <|
  am_fa (sn_bipush (n := 25) (by decide +kernel) (by decide +kernel) rfl) <|
  am_fa (sn_icmp_ge (off := 45) (by decide +kernel) (by decide) rfl) <|
  am_fa (sn_aload_n (k := 0) (by decide +kernel) rfl rfl) <|
  am_fa (sn_getP (idx := 74) (ob := am_o50) (by decide +kernel) rfl (by decide) rfl hin_50 (List.mem_cons_of_mem _ mw_505) rfl) <|
  am_fa (sn_iload_n (k := 3) (by decide +kernel) rfl rfl) <|
  am_fa (sn_zald (by decide +kernel) rfl rfl rfl) <|
  am_fa (sn_if_eq (off := 30) (by decide +kernel) (by decide) rfl) <|
  am_fa (sn_aload_n (k := 0) (by decide +kernel) rfl rfl) <|
  am_fa (sn_getP (idx := 29) (ob := am_o50) (by decide +kernel) rfl (by decide) rfl hin_50 (List.mem_cons_of_mem _ mw_490) rfl) <|
  am_fa (sn_iconst (n := 5) (by decide +kernel) (by decide +kernel) rfl) <|
  am_fa (sn_iload_n (k := 3) (by decide +kernel) rfl rfl) <|
  am_fa (sn_iconst (n := 5) (by decide +kernel) (by decide +kernel) rfl) <|
  am_fa (sn_irem (by decide +kernel) rfl) <|
  am_fa (sn_imul (by decide +kernel) rfl) <|
  am_fa (sn_iload_n (k := 3) (by decide +kernel) rfl rfl) <|
  am_fa (sn_iconst (n := 5) (by decide +kernel) (by decide +kernel) rfl) <|
  am_fa (sn_idiv (by decide +kernel) rfl) <|
  am_fa (sn_iadd (by decide +kernel) rfl) <|
  am_fa (sn_zald (by decide +kernel) rfl rfl rfl) <|
  am_fa (sn_if_eq (off := 13) (by decide +kernel) (by decide) rfl) <|
  am_fa (sn_aload_n (k := 0) (by decide +kernel) rfl rfl) <|
  am_fa (sn_iload_n (k := 3) (by decide +kernel) rfl rfl) <|
  am_fa (sn_iconst (n := 5) (by decide +kernel) (by decide +kernel) rfl) <|
  am_fa (sn_idiv (by decide +kernel) rfl) <|
  am_fa (sn_iload_n (k := 3) (by decide +kernel) rfl rfl) <|
  am_fa (sn_iconst (n := 5) (by decide +kernel) (by decide +kernel) rfl) <|
  am_fa (sn_irem (by decide +kernel) rfl) <|
  am_fa (sn_callV (idx := 142) (ob := am_o50) (by decide +kernel) rfl (hG 87 (List.mem_cons_of_mem _ mw_641)) (by decide) (List.mem_cons_of_mem _ mw_42) (List.mem_cons_of_mem _ mw_638) (by decide +kernel) rfl rfl (List.mem_cons_of_mem _ mw_640) (List.mem_cons_of_mem _ mw_32) rfl) <|
  am_fa (sn_iinc (i := 1) (by decide +kernel) (by decide +kernel) (by decide) rfl) <|
  am_fa (sn_goto (off := (-45)) (by decide +kernel) (by decide)) <|
  am_fa (sn_iinc (i := 1) (by decide +kernel) (by decide +kernel) (by decide) rfl) <|
  am_fa (sn_goto (off := (-111)) (by decide +kernel) (by decide)) <|
  am_fa (sn_iconst (n := 1) (by decide +kernel) (by decide +kernel) rfl) <|
  am_fa (sn_zret (by decide +kernel) rfl) <|
  am_f0

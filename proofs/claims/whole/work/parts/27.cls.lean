theorem fc_dec (k : Nat) : nI (k + 1) + (-1) = nI k := by
  rw [← nI_1, Int32.add_assoc, show (1 : Int32) + (-1) = 0 from by decide, Int32.add_zero]
theorem fc_ds_of (γ : am_I) (π : am_P) (r : Nat) (y : Int32) : fc_ds γ π r y = -1 ∨ ∃ e, e < 5 ∧ fc_ds γ π r y = nI e := by
  unfold fc_ds
  refine am_it_keep (P := fun z : Int32 × Int32 × Int32 => z.1 = -1 ∨ ∃ e, e < 5 ∧ z.1 = nI e) (fun x hx z hz => ?_) (Or.inl rfl)
  refine am_it_keep (P := fun z : Int32 × Int32 × Int32 => z.1 = -1 ∨ ∃ e, e < 5 ∧ z.1 = nI e) (fun s hs z hz => ?_) hz
  unfold fc_ds_s
  cases π 500 (5 + 14 * r) x with
  | none => exact hz
  | some e =>
    show ((π 2100 (e + 2) s).elim z (fun q => fc_ds_q γ r y x q z)).1 = -1 ∨ ∃ i, i < 5 ∧ ((π 2100 (e + 2) s).elim z (fun q => fc_ds_q γ r y x q z)).1 = nI i
    cases π 2100 (e + 2) s with
    | none => exact hz
    | some q =>
      show (fc_ds_q γ r y x q z).1 = -1 ∨ ∃ i, i < 5 ∧ (fc_ds_q γ r y x q z).1 = nI i
      unfold fc_ds_q
      repeat' split
      all_goals first | exact hz | exact Or.inr ⟨x, hx, rfl⟩
def fc_sd (π : am_P) (y : Int32) : Nat → am_I → Nat → am_I × Int32
  | 0, γ, u => (γ, nI (200 + u))
  | k + 1, γ, u => if fc_ds (fc_wo γ π u) π u y = -1 then ((fc_wo γ π u), nI (300 + u)) else if fc_ds (fc_wo γ π u) π u y = nI u then ((fc_wo γ π u), nI (100 + u)) else if 1 < k + 1 then if fc_isl (fc_wo γ π u) (nI u) (fc_fhop (fc_wo γ π u) u (fc_ds (fc_wo γ π u) π u y).toNatClampNeg) = 0 then ((fc_wo γ π u), nI (400 + u)) else if fc_ison (fc_wo γ π u) (fc_fhop (fc_wo γ π u) u (fc_ds (fc_wo γ π u) π u y).toNatClampNeg) = 0 then ((fc_wo γ π u), nI (400 + u)) else fc_sd π y k (fc_wo γ π u) (fc_fhop (fc_wo γ π u) u (fc_ds (fc_wo γ π u) π u y).toNatClampNeg).toNatClampNeg else fc_sd π y k (fc_wo γ π u) u
def fc_send (γ : am_I) (π : am_P) (x y z : Int32) : am_I × Int32 := if fc_ison γ x = 0 then (γ, -1) else if fc_adr y = 0 then (γ, -1) else if z < 1 then (γ, -1) else if 15 < z then (γ, -1) else fc_sd π y z.toNatClampNeg γ x.toNatClampNeg
theorem c_send {d : Nat} {Q : am_Q} {K : am_K} {sc : am_Sc} {γ : am_I} {π : am_P} {m : am_M} {x y z : Int32} (hd : 4 ≤ d) (T : am_TC K π) (hH : am_HD K π) (hq : Q (K, sc, ((fc_send γ π x y z).1, π), m) (some (.inl ((fc_send γ π x y z).2)))) : am_call d 46 [.inr (some 1), .inl x, .inl y, .inl z] (K, sc, (γ, π), m) Q := by
  obtain ⟨d, rfl⟩ : ∃ d', d = d' + 1 := ⟨d - 1, by omega⟩
  refine r_enter (by decide) (Nat.le_of_ble_eq_true rfl) (ls := [some (.inr (some 1)), some (.inl x), some (.inl y), some (.inl z), none, none, none, none]) rfl ?_
  refine r_aload at_46_0 rfl <| r_iload at_46_1 rfl <| r_callV1i at_46_2 (T.lNet) (Nat.le_of_ble_eq_true rfl) (fun _ hq => c_isOn (by omega) T hq) <| r_ifeq at_46_5 (fun h5_1 => ?_) (fun h5_1 => ?_)
  · refine r_push at_46_26 <| ?_
    refine r_iret at_46_27 ?_
    have e : fc_send γ π x y z = (γ, (-1)) := by simp only [fc_send, if_pos h5_1]
    rw [e] at hq
    dsimp only at hq
    exact hq
  · refine r_iload at_46_8 rfl <| r_callS1i at_46_9 (Nat.le_of_ble_eq_true rfl) (fun _ hq => q_isAddress (by omega) hq) <| r_ifeq at_46_12 (fun h12_2 => ?_) (fun h12_2 => ?_)
    · refine r_push at_46_26 <| ?_
      refine r_iret at_46_27 ?_
      have e : fc_send γ π x y z = (γ, (-1)) := by simp only [fc_send, if_neg h5_1, if_pos h12_2]
      rw [e] at hq
      dsimp only at hq
      exact hq
    · refine r_iload at_46_15 rfl <| r_push at_46_16 <| r_cmlt at_46_17 (fun h17_3 => ?_) (fun h17_3 => ?_)
      · refine r_push at_46_26 <| ?_
        refine r_iret at_46_27 ?_
        have e : fc_send γ π x y z = (γ, (-1)) := by simp only [fc_send, if_neg h5_1, if_neg h12_2, if_pos h17_3]
        rw [e] at hq
        dsimp only at hq
        exact hq
      · refine r_iload at_46_20 rfl <| r_push at_46_21 <| r_cmle at_46_23 (fun h23_4 => ?_) (fun h23_4 => ?_)
        · refine r_push at_46_26 <| ?_
          refine r_iret at_46_27 ?_
          have e : fc_send γ π x y z = (γ, (-1)) := by simp only [fc_send, if_neg h5_1, if_neg h12_2, if_neg h17_3, if_pos h23_4]
          rw [e] at hq
          dsimp only at hq
          exact hq
        · obtain ⟨a, ha, rfl, hao⟩ := fc_ison_of h5_1
          obtain ⟨k0, hk0, rfl⟩ := nI_of2 (M := 15) (n := 15) (by decide) (fun q => h17_3 (Int32.lt_trans q (by decide))) (Int32.not_lt.mp h23_4)
          refine r_iload at_46_28 rfl <| r_istoreL (ls' := [_, _, _, _, _, _, _, _]) at_46_29 rfl <| r_iload at_46_31 rfl <| r_istoreL (ls' := [_, _, _, _, _, _, _, _]) at_46_32 rfl <| ?_
          have L : ∀ k, k < 16 → ∀ (γ : am_I) (u : Nat) (u6 u7 : Option am_V), u < 5 → Q (K, sc, ((fc_sd π y k γ u).1, π), m) (some (.inl (fc_sd π y k γ u).2)) → am_w d 46 Q 34 [some (.inr (some 1)), some (.inl (nI a)), some (.inl y), some (.inl (nI k0)), some (.inl (nI u)), some (.inl (nI k)), u6, u7] [] (K, sc, (γ, π), m) := by
            clear hq
            intro k
            induction k with
            | zero =>
              intro hk γ u u6 u7 hu hq
              refine r_iload at_46_34 rfl <| r_push at_46_36 <| r_cmltNT 0 1 at_46_37 rfl rfl (by omega) (by omega) (by omega) <| r_push at_46_161 <| r_iload at_46_164 rfl <| r_addN 200 u at_46_166 rfl rfl <| ?_
              refine r_iret at_46_167 ?_
              exact hq
            | succ k ih =>
              intro hk γ u u6 u7 hu hq
              refine r_iload at_46_34 rfl <| r_push at_46_36 <| r_cmltNF (k + 1) 1 at_46_37 rfl rfl (by omega) (by omega) (by omega) <| r_aload at_46_40 rfl <| c_getP 102 at_46_41 rfl (by decide) (T.lNet) T.2.1.2.2.1 <| r_aload at_46_44 rfl <| c_getP 100 at_46_45 rfl (by decide) (T.lNet) T.2.1.1 <| r_iload at_46_48 rfl <| c_aald 200 u at_46_50 rfl (by decide) (T.lRs) rfl (by omega) (by decide) ((T.2.2.1 u (by omega)).1) <| c_getP 306 at_46_51 rfl (by decide) (T.lR (r := u) (by omega)) ((T.2.2.1 u (by omega)).2.2.1) <| r_callV1v at_46_54 (T.lRo) (Nat.le_of_ble_eq_true rfl) (fun _ hq => c_workOut (by omega) T (by omega) hH hq) <| r_aload at_46_57 rfl <| c_getP 102 at_46_58 rfl (by decide) (T.lNet) T.2.1.2.2.1 <| r_iload at_46_61 rfl <| r_iload at_46_63 rfl <| r_aload at_46_64 rfl <| c_getP 100 at_46_65 rfl (by decide) (T.lNet) T.2.1.1 <| r_iload at_46_68 rfl <| c_aald 200 u at_46_70 rfl (by decide) (T.lRs) rfl (by omega) (by decide) ((T.2.2.1 u (by omega)).1) <| c_getP 306 at_46_71 rfl (by decide) (T.lR (r := u) (by omega)) ((T.2.2.1 u (by omega)).2.2.1) <| r_callV3i at_46_74 (T.lRo) (Nat.le_of_ble_eq_true rfl) (fun _ hq => c_destination (by omega) T (by omega) hH hq) <| r_istoreL (ls' := [_, _, _, _, _, _, _, _]) at_46_77 rfl <| r_iload at_46_79 rfl <| r_push at_46_81 <| r_cmne at_46_82 (fun h82_5 => ?_) (fun h82_5 => ?_)
              · refine r_push at_46_85 <| r_iload at_46_88 rfl <| r_addN 300 u at_46_90 rfl rfl <| ?_
                refine r_iret at_46_91 ?_
                have e9 : fc_sd π y (k + 1) γ u = (fc_wo γ π u, (nI (300 + u))) := by
                  rw [fc_sd]
                  simp only [if_pos h82_5]
                rw [e9] at hq
                dsimp only at hq
                exact hq
              · refine r_iload at_46_92 rfl <| r_iload at_46_94 rfl <| r_cmne at_46_96 (fun h96_6 => ?_) (fun h96_6 => ?_)
                · refine r_push at_46_99 <| r_iload at_46_101 rfl <| r_addN 100 u at_46_103 rfl rfl <| ?_
                  refine r_iret at_46_104 ?_
                  have e9 : fc_sd π y (k + 1) γ u = (fc_wo γ π u, (nI (100 + u))) := by
                    rw [fc_sd]
                    simp only [if_neg h82_5, if_pos h96_6]
                  rw [e9] at hq
                  dsimp only at hq
                  exact hq
                · refine r_iload at_46_105 rfl <| r_push at_46_107 <| r_cmleN (k + 1) 1 at_46_108 rfl rfl (by omega) (by omega) (fun h108_7 => ?_) (fun h108_7 => ?_)
                  · obtain ⟨e, he, h3⟩ := (fc_ds_of (fc_wo γ π u) π u y).resolve_left h82_5
                    rw [h3]
                    have h82' := h82_5
                    have h96' := h96_6
                    rw [h3] at h82' h96'
                    refine r_aload at_46_111 rfl <| c_getP 102 at_46_112 rfl (by decide) (T.lNet) T.2.1.2.2.1 <| r_iload at_46_115 rfl <| r_iload at_46_117 rfl <| r_callV2i at_46_119 (T.lRo) (Nat.le_of_ble_eq_true rfl) (fun _ hq => c_firstHop (by omega) T (by omega) (by omega) hq) <| r_istoreL (ls' := [_, _, _, _, _, _, _, _]) at_46_122 rfl <| r_aload at_46_124 rfl <| r_iload at_46_125 rfl <| r_iload at_46_127 rfl <| r_callV2i at_46_129 (T.lNet) (Nat.le_of_ble_eq_true rfl) (fun _ hq => c_isLink (by omega) T hq) <| r_ifeq at_46_132 (fun h132_8 => ?_) (fun h132_8 => ?_)
                    · refine r_push at_46_144 <| r_iload at_46_147 rfl <| r_addN 400 u at_46_149 rfl rfl <| ?_
                      refine r_iret at_46_150 ?_
                      have e9 : fc_sd π y (k + 1) γ u = (fc_wo γ π u, (nI (400 + u))) := by
                        rw [fc_sd]
                        simp only [if_neg h82', if_neg h96', if_pos h108_7, if_pos h132_8, h3, nI_clamp (show e < 2 ^ 31 by omega)]
                      rw [e9] at hq
                      dsimp only at hq
                      exact hq
                    · refine r_aload at_46_135 rfl <| r_iload at_46_136 rfl <| r_callV1i at_46_138 (T.lNet) (Nat.le_of_ble_eq_true rfl) (fun _ hq => c_isOn (by omega) T hq) <| r_ifne at_46_141 (fun h141_9 => ?_) (fun h141_9 => ?_)
                      · refine r_push at_46_144 <| r_iload at_46_147 rfl <| r_addN 400 u at_46_149 rfl rfl <| ?_
                        refine r_iret at_46_150 ?_
                        have e9 : fc_sd π y (k + 1) γ u = (fc_wo γ π u, (nI (400 + u))) := by
                          rw [fc_sd]
                          simp only [if_neg h82', if_neg h96', if_pos h108_7, if_neg h132_8, if_pos h141_9, h3, nI_clamp (show e < 2 ^ 31 by omega)]
                        rw [e9] at hq
                        dsimp only at hq
                        exact hq
                      · obtain ⟨a', b', ha', hb', e1, e2, hab⟩ := fc_isl_of h132_8
                        rw [e2]
                        refine r_iload at_46_151 rfl <| r_istoreL (ls' := [_, _, _, _, _, _, _, _]) at_46_153 rfl <| r_iincL (ls' := [_, _, _, _, _, _, _, _]) at_46_155 rfl rfl <| r_goto at_46_158 <| ?_
                        rw [fc_dec]
                        refine ih (by omega) _ _ _ _ hb' ?_
                        have e9 : fc_sd π y (k + 1) γ u = fc_sd π y k (fc_wo γ π u) b' := by
                          rw [fc_sd]
                          simp only [if_neg h82', if_neg h96', if_pos h108_7, if_neg h132_8, if_neg h141_9, h3, nI_clamp (show e < 2 ^ 31 by omega)]
                          rw [e2, nI_clamp (by omega)]
                        rw [e9] at hq
                        exact hq
                  · refine r_iincL (ls' := [_, _, _, _, _, _, _, _]) at_46_155 rfl rfl <| r_goto at_46_158 <| ?_
                    rw [fc_dec]
                    refine ih (by omega) _ _ _ _ hu ?_
                    have e9 : fc_sd π y (k + 1) γ u = fc_sd π y k (fc_wo γ π u) u := by
                      rw [fc_sd]
                      simp only [if_neg h82_5, if_neg h96_6, if_neg h108_7]
                    rw [e9] at hq
                    exact hq
          refine L k0 (by omega) γ a none none ha ?_
          have e : fc_send γ π (nI a) y (nI k0) = fc_sd π y k0 γ a := by simp only [fc_send, if_neg h5_1, if_neg h12_2, if_neg h17_3, if_neg h23_4, nI_clamp (show a < 2 ^ 31 by omega), nI_clamp (show k0 < 2 ^ 31 by omega)]
          rw [e] at hq
          exact hq

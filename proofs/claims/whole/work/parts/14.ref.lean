def fr_dn (i : Nat) : Int32 := 4 - nI i
theorem fr_dn_lt {i : Nat} (h : i < 5) : fr_dn i = nI (4 - i) := nI_sub (a := 4) (by omega)
theorem fr_dn_inc : ∀ {i : Nat}, i < 5 → nI (4 - i) + (-1) = fr_dn (i + 1) := by
  have h : ∀ i, i < 5 → nI (4 - i) + (-1) = fr_dn (i + 1) := by decide +kernel
  exact fun {i} hi => h i hi
def fr_hp_c (μ : am_I) (r i : Nat) : Int32 := if 4 - i = r then 1000 else fr_edge μ r r (4 - i)
def fr_hp_n (μ : am_I) (r v i : Nat) (z : Int32) : Int32 := if am_rd μ 23 (5 * r + v) < 1000 then if fr_hp_c μ r i < 1000 then if fr_hp_c μ r i + am_rd μ 23 (5 * (4 - i) + v) = am_rd μ 23 (5 * r + v) then nI (4 - i) else z else z else z
def fr_hop (μ : am_I) (x y : Int32) : am_I × Int32 := if fr_rtr x = 0 then (μ, -1) else if fr_rtr y = 0 then (μ, -1) else if am_rd μ 0 x.toNatClampNeg = 0 then if x.toNatClampNeg = y.toNatClampNeg then (μ, -1) else (fr_ms μ x.toNatClampNeg, am_it (fr_hp_n (fr_ms μ x.toNatClampNeg) x.toNatClampNeg y.toNatClampNeg) 5 (-1)) else (μ, -1)
def fr_rt_f (μ : am_I) (r : Nat) (y : Int32) (k : Nat) : Int32 := if 0 < am_rd μ 10 (5 * r + k / 2) then if am_rd μ 23 (5 * r + k / 2) < 1000 then if 0 < am_rd μ 15 (2 * (5 * r + k / 2) + k % 2) then if y >>> ((8 - am_rd μ 14 (2 * (5 * r + k / 2) + k % 2)) &&& 31) = am_rd μ 13 (2 * (5 * r + k / 2) + k % 2) >>> ((8 - am_rd μ 14 (2 * (5 * r + k / 2) + k % 2)) &&& 31) then 1 else 0 else 0 else 0 else 0
def fr_rt_k (μ : am_I) (r : Nat) (y : Int32) (k : Nat) (z : Int32 × Int32 × Int32) : Int32 × Int32 × Int32 := if fr_rt_f μ r y k = 0 then z else if z.2.1 < am_rd μ 14 (2 * (5 * r + k / 2) + k % 2) then (nI (k / 2), am_rd μ 14 (2 * (5 * r + k / 2) + k % 2), am_rd μ 23 (5 * r + k / 2) + am_rd μ 15 (2 * (5 * r + k / 2) + k % 2)) else if am_rd μ 14 (2 * (5 * r + k / 2) + k % 2) = z.2.1 then if am_rd μ 23 (5 * r + k / 2) + am_rd μ 15 (2 * (5 * r + k / 2) + k % 2) < z.2.2 then (nI (k / 2), am_rd μ 14 (2 * (5 * r + k / 2) + k % 2), am_rd μ 23 (5 * r + k / 2) + am_rd μ 15 (2 * (5 * r + k / 2) + k % 2)) else z else z
def fr_rt (μ : am_I) (x y : Int32) : am_I × Int32 := if fr_rtr x = 0 then (μ, -1) else if am_rd μ 0 x.toNatClampNeg = 0 then if y < 0 then (μ, -1) else if 255 < y then (μ, -1) else (fr_ms μ x.toNatClampNeg, (am_it (fr_rt_k (fr_ms μ x.toNatClampNeg) x.toNatClampNeg y) 10 (-1, -1, 0)).1) else (μ, -1)
def fr_sd (y : Int32) : Nat → am_I → Nat → Int32 → am_I × Int32
  | 0, μ, _, _ => (μ, -1)
  | n + 1, μ, u, t => if (fr_rt μ (nI u) y).2 < 0 then ((fr_rt μ (nI u) y).1, nI (300 + u)) else if (fr_rt μ (nI u) y).2 = nI u then ((fr_rt μ (nI u) y).1, nI (100 + u)) else if t = 1 then ((fr_rt μ (nI u) y).1, nI (200 + u)) else
    if fr_lnk (fr_hop (fr_rt μ (nI u) y).1 (nI u) (fr_rt μ (nI u) y).2).1 (nI u) (fr_hop (fr_rt μ (nI u) y).1 (nI u) (fr_rt μ (nI u) y).2).2 = 0 then ((fr_hop (fr_rt μ (nI u) y).1 (nI u) (fr_rt μ (nI u) y).2).1, nI (400 + u)) else
    if am_rd (fr_hop (fr_rt μ (nI u) y).1 (nI u) (fr_rt μ (nI u) y).2).1 0 (fr_hop (fr_rt μ (nI u) y).1 (nI u) (fr_rt μ (nI u) y).2).2.toNatClampNeg = 0 then fr_sd y n (fr_hop (fr_rt μ (nI u) y).1 (nI u) (fr_rt μ (nI u) y).2).1 (fr_hop (fr_rt μ (nI u) y).1 (nI u) (fr_rt μ (nI u) y).2).2.toNatClampNeg (t - 1) else ((fr_hop (fr_rt μ (nI u) y).1 (nI u) (fr_rt μ (nI u) y).2).1, nI (400 + u))
def fr_send (μ : am_I) (x y z : Int32) : am_I × Int32 := if fr_rtr x = 0 then (μ, -1) else if am_rd μ 0 x.toNatClampNeg = 0 then if y < 0 then (μ, -1) else if 255 < y then (μ, -1) else if z < 1 then (μ, -1) else if 15 < z then (μ, -1) else fr_sd y 16 μ x.toNatClampNeg z else (μ, -1)
theorem q_hop {d : Nat} {Q : am_Q} {K : am_K} {sc : am_Sc} {c : am_M} {μ : am_I} {p : am_P} {x y : Int32} (hd : 3 ≤ d) (T : am_TQ K p)  (hq : Q (K, sc, c, ((fr_hop μ x y).1, p)) (some (.inl ((fr_hop μ x y).2)))) : am_call d 97 [.inr (some 163), .inl x, .inl y] (K, sc, c, (μ, p)) Q := by
  obtain ⟨d, rfl⟩ : ∃ d', d = d' + 1 := ⟨d - 1, by omega⟩
  refine r_enter (by decide) (Nat.le_of_ble_eq_true rfl) (ls := [some (.inr (some 163)), some (.inl x), some (.inl y), none, none, none]) rfl ?_
  refine r_iload at_97_0 rfl <| r_callS1i at_97_1 (Nat.le_of_ble_eq_true rfl) (fun _ hq => q_router (by omega) hq) <| r_ifeq at_97_4 (fun h4_1 => ?_) (fun h4_1 => ?_)
  · refine r_push at_97_28 <| ?_
    refine r_iret at_97_29 ?_
    have e : fr_hop μ x y = (μ, (-1)) := by simp only [fr_hop, if_pos h4_1]
    rw [e] at hq
    dsimp only at hq
    exact hq
  · refine r_iload at_97_7 rfl <| r_callS1i at_97_8 (Nat.le_of_ble_eq_true rfl) (fun _ hq => q_router (by omega) hq) <| r_ifeq at_97_11 (fun h11_2 => ?_) (fun h11_2 => ?_)
    · refine r_push at_97_28 <| ?_
      refine r_iret at_97_29 ?_
      have e : fr_hop μ x y = (μ, (-1)) := by simp only [fr_hop, if_neg h4_1, if_pos h11_2]
      rw [e] at hq
      dsimp only at hq
      exact hq
    · obtain ⟨a, ha, rfl⟩ := fr_rtr_of h4_1
      obtain ⟨b, hb, rfl⟩ := fr_rtr_of h11_2
      refine r_aload at_97_14 rfl <| q_arr 0 T at_97_15 (by decide) <| r_iload at_97_18 rfl <| q_ald 0 a T at_97_19 (by decide) rfl (by omega) (by decide) <| r_ifne at_97_20 (fun h20_3 => ?_) (fun h20_3 => ?_)
      · refine r_iload at_97_23 rfl <| r_iload at_97_24 rfl <| r_cmneN a b at_97_25 rfl rfl (by omega) (by omega) (fun h25_4 => ?_) (fun h25_4 => ?_)
        · refine r_push at_97_28 <| ?_
          refine r_iret at_97_29 ?_
          have e : fr_hop μ (nI a) (nI b) = (μ, (-1)) := by simp only [fr_hop, if_neg h4_1, if_neg h11_2, if_pos h20_3, if_pos h25_4, nI_clamp (show a < 2 ^ 31 by omega), nI_clamp (show b < 2 ^ 31 by omega)]
          rw [e] at hq
          dsimp only at hq
          exact hq
        · refine r_aload at_97_30 rfl <| r_iload at_97_31 rfl <| r_callV1v at_97_32 (T.me) (Nat.le_of_ble_eq_true rfl) (fun _ hq => q_measure (by omega) T (by omega) hq) <| r_push at_97_35 <| r_istoreL (ls' := [_, _, _, _, _, _]) at_97_36 rfl <| r_push at_97_37 <| r_istoreL (ls' := [_, _, _, _, _, _]) at_97_38 rfl <| ?_
          refine am_for 5 (fun i z => ∀ u5 : Option am_V, am_w d 97 Q 40 [some (.inr (some 163)), some (.inl (nI a)), some (.inl (nI b)), some (.inl z), some (.inl (fr_dn i)), u5] [] (K, sc, c, (fr_ms μ a, p))) (fr_hp_n (fr_ms μ a) a b) (fun i hi_i z hk_i => ?_) (-1) ?_ none
          · intro u5
            rw [fr_dn_lt hi_i]
            refine r_iload at_97_40 rfl <| r_ifltF at_97_42 (nI_pos (by omega)) <| r_iload at_97_45 rfl <| r_iload at_97_47 rfl <| r_cmneN (4 - i) a at_97_48 rfl rfl (by omega) (by omega) (fun h48_5 => ?_) (fun h48_5 => ?_)
            · refine r_push at_97_51 <| r_goto at_97_54 <| r_istoreL (ls' := [_, _, _, _, _, _]) at_97_65 rfl <| r_aload at_97_67 rfl <| q_arr 23 T at_97_68 (by decide) <| r_push at_97_71 <| r_iload at_97_72 rfl <| r_mulN 5 a at_97_73 rfl rfl <| r_iload at_97_74 rfl <| r_addN (5 * a) b at_97_75 rfl rfl <| q_ald 23 (5 * a + b) T at_97_76 (by decide) rfl (by omega) (by decide) <| r_push at_97_77 <| r_cmge at_97_80 (fun h80_6 => ?_) (fun h80_6 => ?_)
              · refine r_iload at_97_83 rfl <| r_push at_97_85 <| r_cmgeF at_97_88 (by decide) <| r_iload at_97_123 rfl <| r_istoreL (ls' := [_, _, _, _, _, _]) at_97_124 rfl <| r_iincL (ls' := [_, _, _, _, _, _]) at_97_125 rfl rfl <| r_goto at_97_128 <| ?_
                rw [fr_dn_inc hi_i]
                have e : (fr_hp_n (fr_ms μ a) a b) i z = z := by simp only [fr_hp_n, fr_hp_c, if_pos h48_5, if_pos h80_6, if_neg (show ¬ (1000 : Int32) < 1000 by decide)]
                rw [e] at hk_i
                exact hk_i _
              · refine r_iload at_97_123 rfl <| r_istoreL (ls' := [_, _, _, _, _, _]) at_97_124 rfl <| r_iincL (ls' := [_, _, _, _, _, _]) at_97_125 rfl rfl <| r_goto at_97_128 <| ?_
                rw [fr_dn_inc hi_i]
                have e : (fr_hp_n (fr_ms μ a) a b) i z = z := by simp only [fr_hp_n, fr_hp_c, if_pos h48_5, if_neg h80_6, if_neg (show ¬ (1000 : Int32) < 1000 by decide)]
                rw [e] at hk_i
                exact hk_i _
            · refine r_aload at_97_57 rfl <| r_iload at_97_58 rfl <| r_iload at_97_59 rfl <| r_iload at_97_60 rfl <| r_callV3i at_97_62 (T.me) (Nat.le_of_ble_eq_true rfl) (fun _ hq => q_edge (by omega) T (by omega) (by omega) (by omega) hq) <| r_istoreL (ls' := [_, _, _, _, _, _]) at_97_65 rfl <| r_aload at_97_67 rfl <| q_arr 23 T at_97_68 (by decide) <| r_push at_97_71 <| r_iload at_97_72 rfl <| r_mulN 5 a at_97_73 rfl rfl <| r_iload at_97_74 rfl <| r_addN (5 * a) b at_97_75 rfl rfl <| q_ald 23 (5 * a + b) T at_97_76 (by decide) rfl (by omega) (by decide) <| r_push at_97_77 <| r_cmge at_97_80 (fun h80_7 => ?_) (fun h80_7 => ?_)
              · refine r_iload at_97_83 rfl <| r_push at_97_85 <| r_cmge at_97_88 (fun h88_8 => ?_) (fun h88_8 => ?_)
                · refine r_iload at_97_91 rfl <| r_aload at_97_93 rfl <| q_arr 23 T at_97_94 (by decide) <| r_push at_97_97 <| r_iload at_97_98 rfl <| r_mulN 5 (4 - i) at_97_100 rfl rfl <| r_iload at_97_101 rfl <| r_addN (5 * (4 - i)) b at_97_102 rfl rfl <| q_ald 23 (5 * (4 - i) + b) T at_97_103 (by decide) rfl (by omega) (by decide) <| r_bin at_97_104 <| r_aload at_97_105 rfl <| q_arr 23 T at_97_106 (by decide) <| r_push at_97_109 <| r_iload at_97_110 rfl <| r_mulN 5 a at_97_111 rfl rfl <| r_iload at_97_112 rfl <| r_addN (5 * a) b at_97_113 rfl rfl <| q_ald 23 (5 * a + b) T at_97_114 (by decide) rfl (by omega) (by decide) <| r_cmne at_97_115 (fun h115_9 => ?_) (fun h115_9 => ?_)
                  · refine r_iload at_97_118 rfl <| r_goto at_97_120 <| r_istoreL (ls' := [_, _, _, _, _, _]) at_97_124 rfl <| r_iincL (ls' := [_, _, _, _, _, _]) at_97_125 rfl rfl <| r_goto at_97_128 <| ?_
                    rw [fr_dn_inc hi_i]
                    have e : (fr_hp_n (fr_ms μ a) a b) i z = (nI (4 - i)) := by simp only [fr_hp_n, fr_hp_c, if_neg h48_5, if_pos h80_7, if_pos h88_8, if_pos h115_9, if_neg (show ¬ (1000 : Int32) < 1000 by decide)]
                    rw [e] at hk_i
                    exact hk_i _
                  · refine r_iload at_97_123 rfl <| r_istoreL (ls' := [_, _, _, _, _, _]) at_97_124 rfl <| r_iincL (ls' := [_, _, _, _, _, _]) at_97_125 rfl rfl <| r_goto at_97_128 <| ?_
                    rw [fr_dn_inc hi_i]
                    have e : (fr_hp_n (fr_ms μ a) a b) i z = z := by simp only [fr_hp_n, fr_hp_c, if_neg h48_5, if_pos h80_7, if_pos h88_8, if_neg h115_9, if_neg (show ¬ (1000 : Int32) < 1000 by decide)]
                    rw [e] at hk_i
                    exact hk_i _
                · refine r_iload at_97_123 rfl <| r_istoreL (ls' := [_, _, _, _, _, _]) at_97_124 rfl <| r_iincL (ls' := [_, _, _, _, _, _]) at_97_125 rfl rfl <| r_goto at_97_128 <| ?_
                  rw [fr_dn_inc hi_i]
                  have e : (fr_hp_n (fr_ms μ a) a b) i z = z := by simp only [fr_hp_n, fr_hp_c, if_neg h48_5, if_pos h80_7, if_neg h88_8, if_neg (show ¬ (1000 : Int32) < 1000 by decide)]
                  rw [e] at hk_i
                  exact hk_i _
              · refine r_iload at_97_123 rfl <| r_istoreL (ls' := [_, _, _, _, _, _]) at_97_124 rfl <| r_iincL (ls' := [_, _, _, _, _, _]) at_97_125 rfl rfl <| r_goto at_97_128 <| ?_
                rw [fr_dn_inc hi_i]
                have e : (fr_hp_n (fr_ms μ a) a b) i z = z := by simp only [fr_hp_n, fr_hp_c, if_neg h48_5, if_neg h80_7, if_neg (show ¬ (1000 : Int32) < 1000 by decide)]
                rw [e] at hk_i
                exact hk_i _
          · intro u5
            refine r_iload at_97_40 rfl <| r_ifltT at_97_42 (by decide) <| r_iload at_97_131 rfl <| ?_
            refine r_iret at_97_132 ?_
            have e : fr_hop μ (nI a) (nI b) = (fr_ms μ a, (am_it (fr_hp_n (fr_ms μ a) a b) 5 (-1))) := by simp only [fr_hop, if_neg h4_1, if_neg h11_2, if_pos h20_3, if_neg h25_4, nI_clamp (show a < 2 ^ 31 by omega), nI_clamp (show b < 2 ^ 31 by omega)]
            rw [e] at hq
            dsimp only at hq
            exact hq
      · refine r_push at_97_28 <| ?_
        refine r_iret at_97_29 ?_
        have e : fr_hop μ (nI a) (nI b) = (μ, (-1)) := by simp only [fr_hop, if_neg h4_1, if_neg h11_2, if_neg h20_3, nI_clamp (show a < 2 ^ 31 by omega), nI_clamp (show b < 2 ^ 31 by omega)]
        rw [e] at hq
        dsimp only at hq
        exact hq
set_option maxHeartbeats 20000000 in
theorem q_route {d : Nat} {Q : am_Q} {K : am_K} {sc : am_Sc} {c : am_M} {μ : am_I} {p : am_P} {x y : Int32} (hd : 3 ≤ d) (T : am_TQ K p)  (hq : Q (K, sc, c, ((fr_rt μ x y).1, p)) (some (.inl ((fr_rt μ x y).2)))) : am_call d 98 [.inr (some 163), .inl x, .inl y] (K, sc, c, (μ, p)) Q := by
  obtain ⟨d, rfl⟩ : ∃ d', d = d' + 1 := ⟨d - 1, by omega⟩
  refine r_enter (by decide) (Nat.le_of_ble_eq_true rfl) (ls := [some (.inr (some 163)), some (.inl x), some (.inl y), none, none, none, none, none, none, none, none]) rfl ?_
  refine r_iload at_98_0 rfl <| r_callS1i at_98_1 (Nat.le_of_ble_eq_true rfl) (fun _ hq => q_router (by omega) hq) <| r_ifeq at_98_4 (fun h4_1 => ?_) (fun h4_1 => ?_)
  · refine r_push at_98_27 <| ?_
    refine r_iret at_98_28 ?_
    have e : fr_rt μ x y = (μ, (-1)) := by simp only [fr_rt, if_pos h4_1]
    rw [e] at hq
    dsimp only at hq
    exact hq
  · obtain ⟨a, ha, rfl⟩ := fr_rtr_of h4_1
    refine r_aload at_98_7 rfl <| q_arr 0 T at_98_8 (by decide) <| r_iload at_98_11 rfl <| q_ald 0 a T at_98_12 (by decide) rfl (by omega) (by decide) <| r_ifne at_98_13 (fun h13_2 => ?_) (fun h13_2 => ?_)
    · refine r_iload at_98_16 rfl <| r_iflt at_98_17 (fun h17_3 => ?_) (fun h17_3 => ?_)
      · refine r_push at_98_27 <| ?_
        refine r_iret at_98_28 ?_
        have e : fr_rt μ (nI a) y = (μ, (-1)) := by simp only [fr_rt, if_neg h4_1, if_pos h13_2, if_pos h17_3, nI_clamp (show a < 2 ^ 31 by omega)]
        rw [e] at hq
        dsimp only at hq
        exact hq
      · refine r_iload at_98_20 rfl <| r_push at_98_21 <| r_cmle at_98_24 (fun h24_4 => ?_) (fun h24_4 => ?_)
        · refine r_push at_98_27 <| ?_
          refine r_iret at_98_28 ?_
          have e : fr_rt μ (nI a) y = (μ, (-1)) := by simp only [fr_rt, if_neg h4_1, if_pos h13_2, if_neg h17_3, if_pos h24_4, nI_clamp (show a < 2 ^ 31 by omega)]
          rw [e] at hq
          dsimp only at hq
          exact hq
        · refine r_aload at_98_29 rfl <| r_iload at_98_30 rfl <| r_callV1v at_98_31 (T.me) (Nat.le_of_ble_eq_true rfl) (fun _ hq => q_measure (by omega) T (by omega) hq) <| r_push at_98_34 <| r_istoreL (ls' := [_, _, _, _, _, _, _, _, _, _, _]) at_98_35 rfl <| r_push at_98_36 <| r_istoreL (ls' := [_, _, _, _, _, _, _, _, _, _, _]) at_98_37 rfl <| r_push at_98_39 <| r_istoreL (ls' := [_, _, _, _, _, _, _, _, _, _, _]) at_98_40 rfl <| r_push at_98_42 <| r_istoreL (ls' := [_, _, _, _, _, _, _, _, _, _, _]) at_98_43 rfl <| ?_
          refine am_for 10 (fun k z => ∀ u7 u8 u9 u10 : Option am_V, am_w d 98 Q 45 [some (.inr (some 163)), some (.inl (nI a)), some (.inl y), some (.inl z.1), some (.inl z.2.1), some (.inl z.2.2), some (.inl (nI k)), u7, u8, u9, u10] [] (K, sc, c, (fr_ms μ a, p))) (fr_rt_k (fr_ms μ a) a y) (fun k hi_k z hk_k => ?_) ((-1), (-1), 0) ?_ none none none none
          · obtain ⟨b, l, s⟩ := z
            dsimp only at hk_k ⊢
            intro u7 u8 u9 u10
            refine r_iload at_98_45 rfl <| r_push at_98_47 <| r_cmgeNT k 10 at_98_49 rfl rfl (by omega) (by omega) (by omega) <| ?_
            refine r_iload at_98_52 rfl <| r_push at_98_54 <| r_divN k 2 at_98_55 rfl rfl (by omega) (by decide) (by decide) <| r_istoreL (ls' := [_, _, _, _, _, _, _, _, _, _, _]) at_98_56 rfl <| r_push at_98_58 <| r_push at_98_59 <| r_iload at_98_60 rfl <| r_mulN 5 a at_98_61 rfl rfl <| r_iload at_98_62 rfl <| r_addN (5 * a) (k / 2) at_98_64 rfl rfl <| r_mulN 2 (5 * a + k / 2) at_98_65 rfl rfl <| r_iload at_98_66 rfl <| r_push at_98_68 <| r_remN k 2 at_98_69 rfl rfl (by omega) (by decide) (by decide) <| r_addN (2 * (5 * a + k / 2)) (k % 2) at_98_70 rfl rfl <| r_istoreL (ls' := [_, _, _, _, _, _, _, _, _, _, _]) at_98_71 rfl <| r_aload at_98_73 rfl <| q_arr 10 T at_98_74 (by decide) <| r_push at_98_77 <| r_iload at_98_78 rfl <| r_mulN 5 a at_98_79 rfl rfl <| r_iload at_98_80 rfl <| r_addN (5 * a) (k / 2) at_98_82 rfl rfl <| q_ald 10 (5 * a + k / 2) T at_98_83 (by decide) rfl (by omega) (by decide) <| r_ifle at_98_84 (fun h84_5 => ?_) (fun h84_5 => ?_)
            · refine r_aload at_98_87 rfl <| q_arr 23 T at_98_88 (by decide) <| r_push at_98_91 <| r_iload at_98_92 rfl <| r_mulN 5 a at_98_93 rfl rfl <| r_iload at_98_94 rfl <| r_addN (5 * a) (k / 2) at_98_96 rfl rfl <| q_ald 23 (5 * a + k / 2) T at_98_97 (by decide) rfl (by omega) (by decide) <| r_push at_98_98 <| r_cmge at_98_101 (fun h101_6 => ?_) (fun h101_6 => ?_)
              · refine r_aload at_98_104 rfl <| q_arr 15 T at_98_105 (by decide) <| r_iload at_98_108 rfl <| q_ald 15 (2 * (5 * a + k / 2) + k % 2) T at_98_110 (by decide) rfl (by omega) (by decide) <| r_ifle at_98_111 (fun h111_7 => ?_) (fun h111_7 => ?_)
                · refine r_iload at_98_114 rfl <| r_push at_98_115 <| r_aload at_98_117 rfl <| q_arr 14 T at_98_118 (by decide) <| r_iload at_98_121 rfl <| q_ald 14 (2 * (5 * a + k / 2) + k % 2) T at_98_123 (by decide) rfl (by omega) (by decide) <| r_bin at_98_124 <| r_bin at_98_125 <| r_aload at_98_126 rfl <| q_arr 13 T at_98_127 (by decide) <| r_iload at_98_130 rfl <| q_ald 13 (2 * (5 * a + k / 2) + k % 2) T at_98_132 (by decide) rfl (by omega) (by decide) <| r_push at_98_133 <| r_aload at_98_135 rfl <| q_arr 14 T at_98_136 (by decide) <| r_iload at_98_139 rfl <| q_ald 14 (2 * (5 * a + k / 2) + k % 2) T at_98_141 (by decide) rfl (by omega) (by decide) <| r_bin at_98_142 <| r_bin at_98_143 <| r_cmne at_98_144 (fun h144_8 => ?_) (fun h144_8 => ?_)
                  · refine r_push at_98_147 <| r_goto at_98_148 <| r_istoreL (ls' := [_, _, _, _, _, _, _, _, _, _, _]) at_98_152 rfl <| r_aload at_98_154 rfl <| q_arr 23 T at_98_155 (by decide) <| r_push at_98_158 <| r_iload at_98_159 rfl <| r_mulN 5 a at_98_160 rfl rfl <| r_iload at_98_161 rfl <| r_addN (5 * a) (k / 2) at_98_163 rfl rfl <| q_ald 23 (5 * a + k / 2) T at_98_164 (by decide) rfl (by omega) (by decide) <| r_aload at_98_165 rfl <| q_arr 15 T at_98_166 (by decide) <| r_iload at_98_169 rfl <| q_ald 15 (2 * (5 * a + k / 2) + k % 2) T at_98_171 (by decide) rfl (by omega) (by decide) <| r_bin at_98_172 <| r_istoreL (ls' := [_, _, _, _, _, _, _, _, _, _, _]) at_98_173 rfl <| r_iload at_98_175 rfl <| r_ifeqF at_98_177 (by decide) <| r_aload at_98_180 rfl <| q_arr 14 T at_98_181 (by decide) <| r_iload at_98_184 rfl <| q_ald 14 (2 * (5 * a + k / 2) + k % 2) T at_98_186 (by decide) rfl (by omega) (by decide) <| r_iload at_98_187 rfl <| r_cmgt at_98_189 (fun h189_9 => ?_) (fun h189_9 => ?_)
                    · refine r_iload at_98_211 rfl <| r_istoreL (ls' := [_, _, _, _, _, _, _, _, _, _, _]) at_98_213 rfl <| r_aload at_98_214 rfl <| q_arr 14 T at_98_215 (by decide) <| r_iload at_98_218 rfl <| q_ald 14 (2 * (5 * a + k / 2) + k % 2) T at_98_220 (by decide) rfl (by omega) (by decide) <| r_istoreL (ls' := [_, _, _, _, _, _, _, _, _, _, _]) at_98_221 rfl <| r_iload at_98_223 rfl <| r_istoreL (ls' := [_, _, _, _, _, _, _, _, _, _, _]) at_98_225 rfl <| r_iincNL (ls' := [_, _, _, _, _, _, _, _, _, _, _]) k at_98_227 rfl rfl <| r_goto at_98_230 <| ?_
                      have e : (fr_rt_k (fr_ms μ a) a y) k (b, l, s) = ((nI (k / 2)), (am_rd (fr_ms μ a) 14 (2 * (5 * a + k / 2) + k % 2)), ((am_rd (fr_ms μ a) 23 (5 * a + k / 2)) + (am_rd (fr_ms μ a) 15 (2 * (5 * a + k / 2) + k % 2)))) := by simp only [fr_rt_k, fr_rt_f, if_pos h84_5, if_pos h101_6, if_pos h111_7, if_pos h144_8, if_pos h189_9, if_true, if_neg (show ¬ (1 : Int32) = 0 by decide)]
                      rw [e] at hk_k
                      dsimp only at hk_k
                      exact hk_k _ _ _ _
                    · refine r_aload at_98_192 rfl <| q_arr 14 T at_98_193 (by decide) <| r_iload at_98_196 rfl <| q_ald 14 (2 * (5 * a + k / 2) + k % 2) T at_98_198 (by decide) rfl (by omega) (by decide) <| r_iload at_98_199 rfl <| r_cmne at_98_201 (fun h201_10 => ?_) (fun h201_10 => ?_)
                      · refine r_iload at_98_204 rfl <| r_iload at_98_206 rfl <| r_cmge at_98_208 (fun h208_11 => ?_) (fun h208_11 => ?_)
                        · refine r_iload at_98_211 rfl <| r_istoreL (ls' := [_, _, _, _, _, _, _, _, _, _, _]) at_98_213 rfl <| r_aload at_98_214 rfl <| q_arr 14 T at_98_215 (by decide) <| r_iload at_98_218 rfl <| q_ald 14 (2 * (5 * a + k / 2) + k % 2) T at_98_220 (by decide) rfl (by omega) (by decide) <| r_istoreL (ls' := [_, _, _, _, _, _, _, _, _, _, _]) at_98_221 rfl <| r_iload at_98_223 rfl <| r_istoreL (ls' := [_, _, _, _, _, _, _, _, _, _, _]) at_98_225 rfl <| r_iincNL (ls' := [_, _, _, _, _, _, _, _, _, _, _]) k at_98_227 rfl rfl <| r_goto at_98_230 <| ?_
                          have e : (fr_rt_k (fr_ms μ a) a y) k (b, l, s) = ((nI (k / 2)), (am_rd (fr_ms μ a) 14 (2 * (5 * a + k / 2) + k % 2)), ((am_rd (fr_ms μ a) 23 (5 * a + k / 2)) + (am_rd (fr_ms μ a) 15 (2 * (5 * a + k / 2) + k % 2)))) := by simp only [fr_rt_k, fr_rt_f, if_pos h84_5, if_pos h101_6, if_pos h111_7, if_pos h144_8, if_neg h189_9, if_pos h201_10, if_pos h208_11, if_true, if_neg (show ¬ (1 : Int32) = 0 by decide)]
                          rw [e] at hk_k
                          dsimp only at hk_k
                          exact hk_k _ _ _ _
                        · refine r_iincNL (ls' := [_, _, _, _, _, _, _, _, _, _, _]) k at_98_227 rfl rfl <| r_goto at_98_230 <| ?_
                          have e : (fr_rt_k (fr_ms μ a) a y) k (b, l, s) = (b, l, s) := by simp only [fr_rt_k, fr_rt_f, if_pos h84_5, if_pos h101_6, if_pos h111_7, if_pos h144_8, if_neg h189_9, if_pos h201_10, if_neg h208_11, if_true, if_neg (show ¬ (1 : Int32) = 0 by decide)]
                          rw [e] at hk_k
                          dsimp only at hk_k
                          exact hk_k _ _ _ _
                      · refine r_iincNL (ls' := [_, _, _, _, _, _, _, _, _, _, _]) k at_98_227 rfl rfl <| r_goto at_98_230 <| ?_
                        have e : (fr_rt_k (fr_ms μ a) a y) k (b, l, s) = (b, l, s) := by simp only [fr_rt_k, fr_rt_f, if_pos h84_5, if_pos h101_6, if_pos h111_7, if_pos h144_8, if_neg h189_9, if_neg h201_10, if_true, if_neg (show ¬ (1 : Int32) = 0 by decide)]
                        rw [e] at hk_k
                        dsimp only at hk_k
                        exact hk_k _ _ _ _
                  · refine r_push at_98_151 <| r_istoreL (ls' := [_, _, _, _, _, _, _, _, _, _, _]) at_98_152 rfl <| r_aload at_98_154 rfl <| q_arr 23 T at_98_155 (by decide) <| r_push at_98_158 <| r_iload at_98_159 rfl <| r_mulN 5 a at_98_160 rfl rfl <| r_iload at_98_161 rfl <| r_addN (5 * a) (k / 2) at_98_163 rfl rfl <| q_ald 23 (5 * a + k / 2) T at_98_164 (by decide) rfl (by omega) (by decide) <| r_aload at_98_165 rfl <| q_arr 15 T at_98_166 (by decide) <| r_iload at_98_169 rfl <| q_ald 15 (2 * (5 * a + k / 2) + k % 2) T at_98_171 (by decide) rfl (by omega) (by decide) <| r_bin at_98_172 <| r_istoreL (ls' := [_, _, _, _, _, _, _, _, _, _, _]) at_98_173 rfl <| r_iload at_98_175 rfl <| r_ifeqT at_98_177 (by decide) <| r_iincNL (ls' := [_, _, _, _, _, _, _, _, _, _, _]) k at_98_227 rfl rfl <| r_goto at_98_230 <| ?_
                    have e : (fr_rt_k (fr_ms μ a) a y) k (b, l, s) = (b, l, s) := by simp only [fr_rt_k, fr_rt_f, if_pos h84_5, if_pos h101_6, if_pos h111_7, if_neg h144_8, if_true, if_neg (show ¬ (1 : Int32) = 0 by decide)]
                    rw [e] at hk_k
                    dsimp only at hk_k
                    exact hk_k _ _ _ _
                · refine r_push at_98_151 <| r_istoreL (ls' := [_, _, _, _, _, _, _, _, _, _, _]) at_98_152 rfl <| r_aload at_98_154 rfl <| q_arr 23 T at_98_155 (by decide) <| r_push at_98_158 <| r_iload at_98_159 rfl <| r_mulN 5 a at_98_160 rfl rfl <| r_iload at_98_161 rfl <| r_addN (5 * a) (k / 2) at_98_163 rfl rfl <| q_ald 23 (5 * a + k / 2) T at_98_164 (by decide) rfl (by omega) (by decide) <| r_aload at_98_165 rfl <| q_arr 15 T at_98_166 (by decide) <| r_iload at_98_169 rfl <| q_ald 15 (2 * (5 * a + k / 2) + k % 2) T at_98_171 (by decide) rfl (by omega) (by decide) <| r_bin at_98_172 <| r_istoreL (ls' := [_, _, _, _, _, _, _, _, _, _, _]) at_98_173 rfl <| r_iload at_98_175 rfl <| r_ifeqT at_98_177 (by decide) <| r_iincNL (ls' := [_, _, _, _, _, _, _, _, _, _, _]) k at_98_227 rfl rfl <| r_goto at_98_230 <| ?_
                  have e : (fr_rt_k (fr_ms μ a) a y) k (b, l, s) = (b, l, s) := by simp only [fr_rt_k, fr_rt_f, if_pos h84_5, if_pos h101_6, if_neg h111_7, if_true, if_neg (show ¬ (1 : Int32) = 0 by decide)]
                  rw [e] at hk_k
                  dsimp only at hk_k
                  exact hk_k _ _ _ _
              · refine r_push at_98_151 <| r_istoreL (ls' := [_, _, _, _, _, _, _, _, _, _, _]) at_98_152 rfl <| r_aload at_98_154 rfl <| q_arr 23 T at_98_155 (by decide) <| r_push at_98_158 <| r_iload at_98_159 rfl <| r_mulN 5 a at_98_160 rfl rfl <| r_iload at_98_161 rfl <| r_addN (5 * a) (k / 2) at_98_163 rfl rfl <| q_ald 23 (5 * a + k / 2) T at_98_164 (by decide) rfl (by omega) (by decide) <| r_aload at_98_165 rfl <| q_arr 15 T at_98_166 (by decide) <| r_iload at_98_169 rfl <| q_ald 15 (2 * (5 * a + k / 2) + k % 2) T at_98_171 (by decide) rfl (by omega) (by decide) <| r_bin at_98_172 <| r_istoreL (ls' := [_, _, _, _, _, _, _, _, _, _, _]) at_98_173 rfl <| r_iload at_98_175 rfl <| r_ifeqT at_98_177 (by decide) <| r_iincNL (ls' := [_, _, _, _, _, _, _, _, _, _, _]) k at_98_227 rfl rfl <| r_goto at_98_230 <| ?_
                have e : (fr_rt_k (fr_ms μ a) a y) k (b, l, s) = (b, l, s) := by simp only [fr_rt_k, fr_rt_f, if_pos h84_5, if_neg h101_6, if_true, if_neg (show ¬ (1 : Int32) = 0 by decide)]
                rw [e] at hk_k
                dsimp only at hk_k
                exact hk_k _ _ _ _
            · refine r_push at_98_151 <| r_istoreL (ls' := [_, _, _, _, _, _, _, _, _, _, _]) at_98_152 rfl <| r_aload at_98_154 rfl <| q_arr 23 T at_98_155 (by decide) <| r_push at_98_158 <| r_iload at_98_159 rfl <| r_mulN 5 a at_98_160 rfl rfl <| r_iload at_98_161 rfl <| r_addN (5 * a) (k / 2) at_98_163 rfl rfl <| q_ald 23 (5 * a + k / 2) T at_98_164 (by decide) rfl (by omega) (by decide) <| r_aload at_98_165 rfl <| q_arr 15 T at_98_166 (by decide) <| r_iload at_98_169 rfl <| q_ald 15 (2 * (5 * a + k / 2) + k % 2) T at_98_171 (by decide) rfl (by omega) (by decide) <| r_bin at_98_172 <| r_istoreL (ls' := [_, _, _, _, _, _, _, _, _, _, _]) at_98_173 rfl <| r_iload at_98_175 rfl <| r_ifeqT at_98_177 (by decide) <| r_iincNL (ls' := [_, _, _, _, _, _, _, _, _, _, _]) k at_98_227 rfl rfl <| r_goto at_98_230 <| ?_
              have e : (fr_rt_k (fr_ms μ a) a y) k (b, l, s) = (b, l, s) := by simp only [fr_rt_k, fr_rt_f, if_neg h84_5, if_true, if_neg (show ¬ (1 : Int32) = 0 by decide)]
              rw [e] at hk_k
              dsimp only at hk_k
              exact hk_k _ _ _ _
          · intro u7 u8 u9 u10
            generalize hz45 : am_it (fr_rt_k (fr_ms μ a) a y) 10 ((-1), (-1), 0) = y45
            refine r_iload at_98_45 rfl <| r_push at_98_47 <| r_cmgeNF 10 10 at_98_49 rfl rfl (by omega) (by omega) (by omega) <| ?_
            refine r_iload at_98_233 rfl <| ?_
            refine r_iret at_98_234 ?_
            have e : fr_rt μ (nI a) y = (fr_ms μ a, y45.1) := by simp only [fr_rt, if_neg h4_1, if_pos h13_2, if_neg h17_3, if_neg h24_4, hz45, nI_clamp (show a < 2 ^ 31 by omega)]
            rw [e] at hq
            dsimp only at hq
            exact hq
    · refine r_push at_98_27 <| ?_
      refine r_iret at_98_28 ?_
      have e : fr_rt μ (nI a) y = (μ, (-1)) := by simp only [fr_rt, if_neg h4_1, if_neg h13_2, nI_clamp (show a < 2 ^ 31 by omega)]
      rw [e] at hq
      dsimp only at hq
      exact hq
theorem q_send {d : Nat} {Q : am_Q} {K : am_K} {sc : am_Sc} {c : am_M} {μ : am_I} {p : am_P} {x y z : Int32} (hd : 4 ≤ d) (T : am_TQ K p)  (hq : Q (K, sc, c, ((fr_send μ x y z).1, p)) (some (.inl ((fr_send μ x y z).2)))) : am_call d 99 [.inr (some 163), .inl x, .inl y, .inl z] (K, sc, c, (μ, p)) Q := by
  obtain ⟨d, rfl⟩ : ∃ d', d = d' + 1 := ⟨d - 1, by omega⟩
  refine r_enter (by decide) (Nat.le_of_ble_eq_true rfl) (ls := [some (.inr (some 163)), some (.inl x), some (.inl y), some (.inl z), none, none, none, none, none]) rfl ?_
  refine r_iload at_99_0 rfl <| r_callS1i at_99_1 (Nat.le_of_ble_eq_true rfl) (fun _ hq => q_router (by omega) hq) <| r_ifeq at_99_4 (fun h4_1 => ?_) (fun h4_1 => ?_)
  · refine r_push at_99_38 <| ?_
    refine r_iret at_99_39 ?_
    have e : fr_send μ x y z = (μ, (-1)) := by simp only [fr_send, if_pos h4_1]
    rw [e] at hq
    dsimp only at hq
    exact hq
  · obtain ⟨a, ha, rfl⟩ := fr_rtr_of h4_1
    refine r_aload at_99_7 rfl <| q_arr 0 T at_99_8 (by decide) <| r_iload at_99_11 rfl <| q_ald 0 a T at_99_12 (by decide) rfl (by omega) (by decide) <| r_ifne at_99_13 (fun h13_2 => ?_) (fun h13_2 => ?_)
    · refine r_iload at_99_16 rfl <| r_iflt at_99_17 (fun h17_3 => ?_) (fun h17_3 => ?_)
      · refine r_push at_99_38 <| ?_
        refine r_iret at_99_39 ?_
        have e : fr_send μ (nI a) y z = (μ, (-1)) := by simp only [fr_send, if_neg h4_1, if_pos h13_2, if_pos h17_3, nI_clamp (show a < 2 ^ 31 by omega)]
        rw [e] at hq
        dsimp only at hq
        exact hq
      · refine r_iload at_99_20 rfl <| r_push at_99_21 <| r_cmgt at_99_24 (fun h24_4 => ?_) (fun h24_4 => ?_)
        · refine r_push at_99_38 <| ?_
          refine r_iret at_99_39 ?_
          have e : fr_send μ (nI a) y z = (μ, (-1)) := by simp only [fr_send, if_neg h4_1, if_pos h13_2, if_neg h17_3, if_pos h24_4, nI_clamp (show a < 2 ^ 31 by omega)]
          rw [e] at hq
          dsimp only at hq
          exact hq
        · refine r_iload at_99_27 rfl <| r_push at_99_28 <| r_cmlt at_99_29 (fun h29_5 => ?_) (fun h29_5 => ?_)
          · refine r_push at_99_38 <| ?_
            refine r_iret at_99_39 ?_
            have e : fr_send μ (nI a) y z = (μ, (-1)) := by simp only [fr_send, if_neg h4_1, if_pos h13_2, if_neg h17_3, if_neg h24_4, if_pos h29_5, nI_clamp (show a < 2 ^ 31 by omega)]
            rw [e] at hq
            dsimp only at hq
            exact hq
          · refine r_iload at_99_32 rfl <| r_push at_99_33 <| r_cmle at_99_35 (fun h35_6 => ?_) (fun h35_6 => ?_)
            · refine r_push at_99_38 <| ?_
              refine r_iret at_99_39 ?_
              have e : fr_send μ (nI a) y z = (μ, (-1)) := by simp only [fr_send, if_neg h4_1, if_pos h13_2, if_neg h17_3, if_neg h24_4, if_neg h29_5, if_pos h35_6, nI_clamp (show a < 2 ^ 31 by omega)]
              rw [e] at hq
              dsimp only at hq
              exact hq
            · refine r_iload at_99_40 rfl <| r_istoreL (ls' := [_, _, _, _, _, _, _, _, _]) at_99_41 rfl <| r_iload at_99_43 rfl <| r_istoreL (ls' := [_, _, _, _, _, _, _, _, _]) at_99_44 rfl <| r_push at_99_46 <| r_istoreL (ls' := [_, _, _, _, _, _, _, _, _]) at_99_47 rfl <| ?_
              have L : ∀ n k, k + n = 16 → ∀ (μ : am_I) (u : Nat) (t : Int32) (u7 u8 : Option am_V), u < 5 → Q (K, sc, c, ((fr_sd y n μ u t).1, p)) (some (.inl (fr_sd y n μ u t).2)) → am_w d 99 Q 49 [some (.inr (some 163)), some (.inl (nI a)), some (.inl y), some (.inl z), some (.inl (nI u)), some (.inl t), some (.inl (nI k)), u7, u8] [] (K, sc, c, (μ, p)) := by
                clear hq
                intro n
                induction n with
                | zero =>
                  intro k hk μ u t u7 u8 hu hq
                  refine r_iload at_99_49 rfl <| r_push at_99_51 <| r_cmgeNF k 16 at_99_53 rfl rfl (by omega) (by omega) (by omega) <| r_push at_99_157 <| ?_
                  refine r_iret at_99_158 ?_
                  exact hq
                | succ n ih =>
                  intro k hk μ u t u7 u8 hu hq
                  refine r_iload at_99_49 rfl <| r_push at_99_51 <| r_cmgeNT k 16 at_99_53 rfl rfl (by omega) (by omega) (by omega) <| r_aload at_99_56 rfl <| r_iload at_99_57 rfl <| r_iload at_99_59 rfl <| r_callV2i at_99_60 (T.me) (Nat.le_of_ble_eq_true rfl) (fun _ hq => q_route (by omega) T hq) <| r_istoreL (ls' := [_, _, _, _, _, _, _, _, _]) at_99_63 rfl <| r_iload at_99_65 rfl <| r_ifge at_99_67 (fun h67_7 => ?_) (fun h67_7 => ?_)
                  · refine r_push at_99_70 <| r_iload at_99_73 rfl <| r_addN 300 u at_99_75 rfl rfl <| ?_
                    refine r_iret at_99_76 ?_
                    have e : fr_sd y (n + 1) μ u t = ((fr_rt μ (nI u) y).1, (nI (300 + u))) := by simp only [fr_sd, if_pos h67_7]
                    rw [e] at hq
                    exact hq
                  · refine r_iload at_99_77 rfl <| r_iload at_99_79 rfl <| r_cmne at_99_81 (fun h81_8 => ?_) (fun h81_8 => ?_)
                    · refine r_push at_99_84 <| r_iload at_99_86 rfl <| r_addN 100 u at_99_88 rfl rfl <| ?_
                      refine r_iret at_99_89 ?_
                      have e : fr_sd y (n + 1) μ u t = ((fr_rt μ (nI u) y).1, (nI (100 + u))) := by simp only [fr_sd, if_neg h67_7, if_pos h81_8]
                      rw [e] at hq
                      exact hq
                    · refine r_iload at_99_90 rfl <| r_push at_99_92 <| r_cmne at_99_93 (fun h93_9 => ?_) (fun h93_9 => ?_)
                      · refine r_push at_99_96 <| r_iload at_99_99 rfl <| r_addN 200 u at_99_101 rfl rfl <| ?_
                        refine r_iret at_99_102 ?_
                        have e : fr_sd y (n + 1) μ u t = ((fr_rt μ (nI u) y).1, (nI (200 + u))) := by simp only [fr_sd, if_neg h67_7, if_neg h81_8, if_pos h93_9]
                        rw [e] at hq
                        exact hq
                      · refine r_iload at_99_103 rfl <| r_push at_99_105 <| r_bin at_99_106 <| r_istoreL (ls' := [_, _, _, _, _, _, _, _, _]) at_99_107 rfl <| r_aload at_99_109 rfl <| r_iload at_99_110 rfl <| r_iload at_99_112 rfl <| r_callV2i at_99_114 (T.me) (Nat.le_of_ble_eq_true rfl) (fun _ hq => q_hop (by omega) T hq) <| r_istoreL (ls' := [_, _, _, _, _, _, _, _, _]) at_99_117 rfl <| r_aload at_99_119 rfl <| r_iload at_99_120 rfl <| r_iload at_99_122 rfl <| r_callV2i at_99_124 (T.me) (Nat.le_of_ble_eq_true rfl) (fun _ hq => q_linked (by omega) T hq) <| r_ifeq at_99_127 (fun h127_10 => ?_) (fun h127_10 => ?_)
                        · refine r_push at_99_140 <| r_iload at_99_143 rfl <| r_addN 400 u at_99_145 rfl rfl <| ?_
                          refine r_iret at_99_146 ?_
                          have e : fr_sd y (n + 1) μ u t = ((fr_hop ((fr_rt μ (nI u) y).1) (nI u) ((fr_rt μ (nI u) y).2)).1, (nI (400 + u))) := by simp only [fr_sd, if_neg h67_7, if_neg h81_8, if_neg h93_9, if_pos h127_10]
                          rw [e] at hq
                          exact hq
                        · obtain ⟨a', b', ha', hb', e1, e2, hab⟩ := fr_lnk_of h127_10
                          rw [e2] at h127_10 ⊢
                          refine r_aload at_99_130 rfl <| q_arr 0 T at_99_131 (by decide) <| r_iload at_99_134 rfl <| q_ald 0 b' T at_99_136 (by decide) rfl (by omega) (by decide) <| r_ifeq at_99_137 (fun h137_11 => ?_) (fun h137_11 => ?_)
                          · refine r_iload at_99_147 rfl <| r_istoreL (ls' := [_, _, _, _, _, _, _, _, _]) at_99_149 rfl <| r_iincNL (ls' := [_, _, _, _, _, _, _, _, _]) k at_99_151 rfl rfl <| r_goto at_99_154 <| ?_
                            refine ih (k + 1) (by omega) _ _ _ _ _ hb' ?_
                            have e : fr_sd y (n + 1) μ u t = fr_sd y n (fr_hop (fr_rt μ (nI u) y).1 (nI u) (fr_rt μ (nI u) y).2).1 b' (t - 1) := by simp only [fr_sd, if_neg h67_7, if_neg h81_8, if_neg h93_9, if_neg h127_10, if_pos h137_11, e2, nI_clamp (show b' < 2 ^ 31 by omega)]
                            rw [e] at hq
                            exact hq
                          · refine r_push at_99_140 <| r_iload at_99_143 rfl <| r_addN 400 u at_99_145 rfl rfl <| ?_
                            refine r_iret at_99_146 ?_
                            have e : fr_sd y (n + 1) μ u t = ((fr_hop ((fr_rt μ (nI u) y).1) (nI u) ((fr_rt μ (nI u) y).2)).1, (nI (400 + u))) := by simp only [fr_sd, if_neg h67_7, if_neg h81_8, if_neg h93_9, if_neg h127_10, if_neg h137_11, e2, nI_clamp (show b' < 2 ^ 31 by omega)]
                            rw [e] at hq
                            exact hq
              refine L 16 0 (by omega) μ a z none none ha ?_
              have e : fr_send μ (nI a) y z = fr_sd y 16 μ a z := by simp only [fr_send, if_neg h4_1, if_pos h13_2, if_neg h17_3, if_neg h24_4, if_neg h29_5, if_neg h35_6, nI_clamp (show a < 2 ^ 31 by omega)]
              rw [e] at hq
              exact hq
    · refine r_push at_99_38 <| ?_
      refine r_iret at_99_39 ?_
      have e : fr_send μ (nI a) y z = (μ, (-1)) := by simp only [fr_send, if_neg h4_1, if_neg h13_2, nI_clamp (show a < 2 ^ 31 by omega)]
      rw [e] at hq
      dsimp only at hq
      exact hq

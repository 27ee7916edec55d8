def fr_rtr (x : Int32) : Int32 := if x < 0 then 0 else if 4 < x then 0 else 1
theorem fr_rtr_of {x : Int32} (h : ¬ fr_rtr x = 0) : ∃ a, a < 5 ∧ x = nI a := by
  unfold fr_rtr at h
  by_cases h1 : x < 0
  · rw [if_pos h1] at h; exact absurd rfl h
  · by_cases h2 : 4 < x
    · rw [if_neg h1, if_pos h2] at h; exact absurd rfl h
    · obtain ⟨a, ha, e⟩ := nI_of2 (M := 4) (n := 4) (by decide) h1 (Int32.not_lt.mp h2)
      exact ⟨a, by omega, e⟩
theorem fr_rtr_nI {a : Nat} (h : a < 5) : fr_rtr (nI a) = 1 := by
  unfold fr_rtr
  rw [if_neg (nI_pos (by omega)), if_neg (show ¬ (4 : Int32) < nI a from nI_nlt (a := 4) (by omega) (by omega))]
theorem q_router {d : Nat} {Q : am_Q} {S : am_S} {x : Int32} (hd : 1 ≤ d)  (hq : Q S (some (.inl (fr_rtr x)))) : am_call d 67 [.inl x] S Q := by
  obtain ⟨d, rfl⟩ : ∃ d', d = d' + 1 := ⟨d - 1, by omega⟩
  refine r_enter (by decide) (Nat.le_of_ble_eq_true rfl) (ls := [some (.inl x)]) rfl ?_
  refine r_iload at_67_0 rfl <| r_iflt at_67_1 (fun h1_1 => ?_) (fun h1_1 => ?_)
  · refine r_push at_67_13 <| ?_
    refine r_zret at_67_14 (Or.inl rfl) ?_
    have e : fr_rtr x = 0 := by simp only [fr_rtr, if_pos h1_1]
    rw [e] at hq
    exact hq
  · refine r_iload at_67_4 rfl <| r_push at_67_5 <| r_cmgt at_67_6 (fun h6_2 => ?_) (fun h6_2 => ?_)
    · refine r_push at_67_13 <| ?_
      refine r_zret at_67_14 (Or.inl rfl) ?_
      have e : fr_rtr x = 0 := by simp only [fr_rtr, if_neg h1_1, if_pos h6_2]
      rw [e] at hq
      exact hq
    · refine r_push at_67_9 <| r_goto at_67_10 <| ?_
      refine r_zret at_67_14 (Or.inr rfl) ?_
      have e : fr_rtr x = 1 := by simp only [fr_rtr, if_neg h1_1, if_neg h6_2]
      rw [e] at hq
      exact hq
def fr_lnk (μ : am_I) (x y : Int32) : Int32 := if fr_rtr x = 0 then 0 else if fr_rtr y = 0 then 0 else if 0 < am_rd μ 1 (5 * x.toNatClampNeg + y.toNatClampNeg) then 1 else 0
theorem fr_lnk_of {μ : am_I} {x y : Int32} (h : ¬ fr_lnk μ x y = 0) : ∃ a b, a < 5 ∧ b < 5 ∧ x = nI a ∧ y = nI b ∧ 0 < am_rd μ 1 (5 * a + b) := by
  unfold fr_lnk at h
  by_cases h1 : fr_rtr x = 0
  · rw [if_pos h1] at h; exact absurd rfl h
  by_cases h2 : fr_rtr y = 0
  · rw [if_neg h1, if_pos h2] at h; exact absurd rfl h
  rw [if_neg h1, if_neg h2] at h
  obtain ⟨a, ha, rfl⟩ := fr_rtr_of h1
  obtain ⟨b, hb, rfl⟩ := fr_rtr_of h2
  rw [nI_clamp (by omega), nI_clamp (by omega)] at h
  by_cases h3 : 0 < am_rd μ 1 (5 * a + b)
  · exact ⟨a, b, ha, hb, rfl, rfl, h3⟩
  · rw [if_neg h3] at h; exact absurd rfl h
theorem q_linked {d : Nat} {Q : am_Q} {K : am_K} {sc : am_Sc} {c : am_M} {μ : am_I} {p : am_P} {x y : Int32} (hd : 2 ≤ d) (T : am_TQ K p)  (hq : Q (K, sc, c, (μ, p)) (some (.inl (fr_lnk μ x y)))) : am_call d 68 [.inr (some 163), .inl x, .inl y] (K, sc, c, (μ, p)) Q := by
  obtain ⟨d, rfl⟩ : ∃ d', d = d' + 1 := ⟨d - 1, by omega⟩
  refine r_enter (by decide) (Nat.le_of_ble_eq_true rfl) (ls := [some (.inr (some 163)), some (.inl x), some (.inl y)]) rfl ?_
  refine r_iload at_68_0 rfl <| r_callS1i at_68_1 (Nat.le_of_ble_eq_true rfl) (fun _ hq => q_router (by omega) hq) <| r_ifeq at_68_4 (fun h4_1 => ?_) (fun h4_1 => ?_)
  · refine r_push at_68_31 <| ?_
    refine r_zret at_68_32 (Or.inl rfl) ?_
    have e : fr_lnk μ x y = 0 := by simp only [fr_lnk, if_pos h4_1]
    rw [e] at hq
    exact hq
  · refine r_iload at_68_7 rfl <| r_callS1i at_68_8 (Nat.le_of_ble_eq_true rfl) (fun _ hq => q_router (by omega) hq) <| r_ifeq at_68_11 (fun h11_2 => ?_) (fun h11_2 => ?_)
    · refine r_push at_68_31 <| ?_
      refine r_zret at_68_32 (Or.inl rfl) ?_
      have e : fr_lnk μ x y = 0 := by simp only [fr_lnk, if_neg h4_1, if_pos h11_2]
      rw [e] at hq
      exact hq
    · obtain ⟨a, ha, rfl⟩ := fr_rtr_of h4_1
      obtain ⟨b, hb, rfl⟩ := fr_rtr_of h11_2
      refine r_aload at_68_14 rfl <| q_arr 1 T at_68_15 (by decide) <| r_push at_68_18 <| r_iload at_68_19 rfl <| r_mulN 5 a at_68_20 rfl rfl <| r_iload at_68_21 rfl <| r_addN (5 * a) b at_68_22 rfl rfl <| q_ald 1 (5 * a + b) T at_68_23 (by decide) rfl (by omega) (by decide) <| r_ifle at_68_24 (fun h24_3 => ?_) (fun h24_3 => ?_)
      · refine r_push at_68_27 <| r_goto at_68_28 <| ?_
        refine r_zret at_68_32 (Or.inr rfl) ?_
        have e : fr_lnk μ (nI a) (nI b) = 1 := by simp only [fr_lnk, if_neg h4_1, if_neg h11_2, if_pos h24_3, nI_clamp (show a < 2 ^ 31 by omega), nI_clamp (show b < 2 ^ 31 by omega)]
        rw [e] at hq
        exact hq
      · refine r_push at_68_31 <| ?_
        refine r_zret at_68_32 (Or.inl rfl) ?_
        have e : fr_lnk μ (nI a) (nI b) = 0 := by simp only [fr_lnk, if_neg h4_1, if_neg h11_2, if_neg h24_3, nI_clamp (show a < 2 ^ 31 by omega), nI_clamp (show b < 2 ^ 31 by omega)]
        rw [e] at hq
        exact hq
def fr_cut_b (a b x : Nat) (μ : am_I) : am_I := am_wr μ 18 (5 * (5 * a + b) + x) 0
def fr_cut (μ : am_I) (a b : Nat) : am_I := am_it (fr_cut_b a b) 5 (am_wr (am_wr (am_wr μ 3 (5 * a + b) 0) 5 (5 * a + b) 0) 6 (5 * a + b) 0)
theorem q_cutOff {d : Nat} {Q : am_Q} {K : am_K} {sc : am_Sc} {c : am_M} {μ : am_I} {p : am_P} {a b : Nat} (hd : 1 ≤ d) (T : am_TQ K p) (ha : a < 5) (hb : b < 5) (hq : Q (K, sc, c, (fr_cut μ a b, p)) none) : am_call d 69 [.inr (some 163), .inl (nI a), .inl (nI b)] (K, sc, c, (μ, p)) Q := by
  obtain ⟨d, rfl⟩ : ∃ d', d = d' + 1 := ⟨d - 1, by omega⟩
  refine r_enter (by decide) (Nat.le_of_ble_eq_true rfl) (ls := [some (.inr (some 163)), some (.inl (nI a)), some (.inl (nI b)), none]) rfl ?_
  refine r_aload at_69_0 rfl <| q_arr 3 T at_69_1 (by decide) <| r_push at_69_4 <| r_iload at_69_5 rfl <| r_mulN 5 a at_69_6 rfl rfl <| r_iload at_69_7 rfl <| r_addN (5 * a) b at_69_8 rfl rfl <| r_push at_69_9 <| q_zast 3 (5 * a + b) T at_69_10 (by decide) rfl (by omega) (by decide) (Or.inl rfl) <| r_aload at_69_11 rfl <| q_arr 5 T at_69_12 (by decide) <| r_push at_69_15 <| r_iload at_69_16 rfl <| r_mulN 5 a at_69_17 rfl rfl <| r_iload at_69_18 rfl <| r_addN (5 * a) b at_69_19 rfl rfl <| r_push at_69_20 <| q_zast 5 (5 * a + b) T at_69_21 (by decide) rfl (by omega) (by decide) (Or.inl rfl) <| r_aload at_69_22 rfl <| q_arr 6 T at_69_23 (by decide) <| r_push at_69_26 <| r_iload at_69_27 rfl <| r_mulN 5 a at_69_28 rfl rfl <| r_iload at_69_29 rfl <| r_addN (5 * a) b at_69_30 rfl rfl <| r_push at_69_31 <| q_zast 6 (5 * a + b) T at_69_32 (by decide) rfl (by omega) (by decide) (Or.inl rfl) <| r_push at_69_33 <| r_istoreL (ls' := [_, _, _, _]) at_69_34 rfl <| ?_
  refine am_for 5 (fun x z => am_w d 69 Q 35 [some (.inr (some 163)), some (.inl (nI a)), some (.inl (nI b)), some (.inl (nI x))] [] (K, sc, c, (z, p))) (fr_cut_b a b) (fun x hi_x z hk_x => ?_) (am_wr (am_wr (am_wr μ 3 (5 * a + b) 0) 5 (5 * a + b) 0) 6 (5 * a + b) 0) ?_
  · refine r_iload at_69_35 rfl <| r_push at_69_36 <| r_cmgeNT x 5 at_69_37 rfl rfl (by omega) (by omega) (by omega) <| ?_
    refine r_aload at_69_40 rfl <| q_arr 18 T at_69_41 (by decide) <| r_push at_69_44 <| r_push at_69_45 <| r_iload at_69_46 rfl <| r_mulN 5 a at_69_47 rfl rfl <| r_iload at_69_48 rfl <| r_addN (5 * a) b at_69_49 rfl rfl <| r_mulN 5 (5 * a + b) at_69_50 rfl rfl <| r_iload at_69_51 rfl <| r_addN (5 * (5 * a + b)) x at_69_52 rfl rfl <| r_push at_69_53 <| q_zast 18 (5 * (5 * a + b) + x) T at_69_54 (by decide) rfl (by omega) (by decide) (Or.inl rfl) <| r_iincNL (ls' := [_, _, _, _]) x at_69_55 rfl rfl <| r_goto at_69_58 <| ?_
    have e : (fr_cut_b a b) x z = am_wr z 18 (5 * (5 * a + b) + x) 0 := by simp only [fr_cut_b]
    rw [e] at hk_x
    exact hk_x
  · generalize hz35 : am_it (fr_cut_b a b) 5 (am_wr (am_wr (am_wr μ 3 (5 * a + b) 0) 5 (5 * a + b) 0) 6 (5 * a + b) 0) = y35
    refine r_iload at_69_35 rfl <| r_push at_69_36 <| r_cmgeNF 5 5 at_69_37 rfl rfl (by omega) (by omega) (by omega) <| ?_
    refine r_ret at_69_61 ?_
    have e : fr_cut μ a b = y35 := by simp only [fr_cut, hz35]
    rw [e] at hq
    exact hq
def fr_link4 (μ : am_I) (a b : Nat) (z : Int32) : am_I := am_wr (am_wr μ 1 (5 * a + b) z) 1 (5 * b + a) z
def fr_link3 (μ : am_I) (a b : Nat) (z : Int32) : am_I := fr_link4 (if am_rd μ 1 (5 * a + b) = 0 then am_wr (am_wr μ 2 (5 * a + b) 0) 2 (5 * b + a) 0 else μ) a b z
def fr_link2 (μ : am_I) (a b : Nat) (z : Int32) : am_I := fr_link3 (if z = 0 then fr_cut (fr_cut μ a b) b a else μ) a b z
def fr_link (μ : am_I) (x y z : Int32) : am_I × Int32 := if fr_rtr x = 0 then (μ, 0) else if fr_rtr y = 0 then (μ, 0) else if x = y then (μ, 0) else if z < 0 then (μ, 0) else if 9 < z then (μ, 0) else if am_rd μ 1 (5 * x.toNatClampNeg + y.toNatClampNeg) = z then (μ, 0) else (fr_link2 μ x.toNatClampNeg y.toNatClampNeg z, 1)
theorem q_link {d : Nat} {Q : am_Q} {K : am_K} {sc : am_Sc} {c : am_M} {μ : am_I} {p : am_P} {x y z : Int32} (hd : 2 ≤ d) (T : am_TQ K p)  (hq : Q (K, sc, c, ((fr_link μ x y z).1, p)) (some (.inl ((fr_link μ x y z).2)))) : am_call d 70 [.inr (some 163), .inl x, .inl y, .inl z] (K, sc, c, (μ, p)) Q := by
  obtain ⟨d, rfl⟩ : ∃ d', d = d' + 1 := ⟨d - 1, by omega⟩
  refine r_enter (by decide) (Nat.le_of_ble_eq_true rfl) (ls := [some (.inr (some 163)), some (.inl x), some (.inl y), some (.inl z)]) rfl ?_
  refine r_iload at_70_0 rfl <| r_callS1i at_70_1 (Nat.le_of_ble_eq_true rfl) (fun _ hq => q_router (by omega) hq) <| r_ifeq at_70_4 (fun h4_1 => ?_) (fun h4_1 => ?_)
  · refine r_push at_70_43 <| ?_
    refine r_zret at_70_44 (Or.inl rfl) ?_
    have e : fr_link μ x y z = (μ, 0) := by simp only [fr_link, fr_link2, fr_link3, fr_link4, if_pos h4_1]
    rw [e] at hq
    dsimp only at hq
    exact hq
  · refine r_iload at_70_7 rfl <| r_callS1i at_70_8 (Nat.le_of_ble_eq_true rfl) (fun _ hq => q_router (by omega) hq) <| r_ifeq at_70_11 (fun h11_2 => ?_) (fun h11_2 => ?_)
    · refine r_push at_70_43 <| ?_
      refine r_zret at_70_44 (Or.inl rfl) ?_
      have e : fr_link μ x y z = (μ, 0) := by simp only [fr_link, fr_link2, fr_link3, fr_link4, if_neg h4_1, if_pos h11_2]
      rw [e] at hq
      dsimp only at hq
      exact hq
    · refine r_iload at_70_14 rfl <| r_iload at_70_15 rfl <| r_cmeq at_70_16 (fun h16_3 => ?_) (fun h16_3 => ?_)
      · refine r_push at_70_43 <| ?_
        refine r_zret at_70_44 (Or.inl rfl) ?_
        have e : fr_link μ x y z = (μ, 0) := by simp only [fr_link, fr_link2, fr_link3, fr_link4, if_neg h4_1, if_neg h11_2, if_pos h16_3]
        rw [e] at hq
        dsimp only at hq
        exact hq
      · refine r_iload at_70_19 rfl <| r_iflt at_70_20 (fun h20_4 => ?_) (fun h20_4 => ?_)
        · refine r_push at_70_43 <| ?_
          refine r_zret at_70_44 (Or.inl rfl) ?_
          have e : fr_link μ x y z = (μ, 0) := by simp only [fr_link, fr_link2, fr_link3, fr_link4, if_neg h4_1, if_neg h11_2, if_neg h16_3, if_pos h20_4]
          rw [e] at hq
          dsimp only at hq
          exact hq
        · refine r_iload at_70_23 rfl <| r_push at_70_24 <| r_cmgt at_70_26 (fun h26_5 => ?_) (fun h26_5 => ?_)
          · refine r_push at_70_43 <| ?_
            refine r_zret at_70_44 (Or.inl rfl) ?_
            have e : fr_link μ x y z = (μ, 0) := by simp only [fr_link, fr_link2, fr_link3, fr_link4, if_neg h4_1, if_neg h11_2, if_neg h16_3, if_neg h20_4, if_pos h26_5]
            rw [e] at hq
            dsimp only at hq
            exact hq
          · obtain ⟨a, ha, rfl⟩ := fr_rtr_of h4_1
            obtain ⟨b, hb, rfl⟩ := fr_rtr_of h11_2
            refine r_aload at_70_29 rfl <| q_arr 1 T at_70_30 (by decide) <| r_push at_70_33 <| r_iload at_70_34 rfl <| r_mulN 5 a at_70_35 rfl rfl <| r_iload at_70_36 rfl <| r_addN (5 * a) b at_70_37 rfl rfl <| q_ald 1 (5 * a + b) T at_70_38 (by decide) rfl (by omega) (by decide) <| r_iload at_70_39 rfl <| r_cmne at_70_40 (fun h40_6 => ?_) (fun h40_6 => ?_)
            · refine r_push at_70_43 <| ?_
              refine r_zret at_70_44 (Or.inl rfl) ?_
              have e : fr_link μ (nI a) (nI b) z = (μ, 0) := by simp only [fr_link, fr_link2, fr_link3, fr_link4, if_neg h4_1, if_neg h11_2, if_neg h16_3, if_neg h20_4, if_neg h26_5, if_pos h40_6, nI_clamp (show a < 2 ^ 31 by omega), nI_clamp (show b < 2 ^ 31 by omega)]
              rw [e] at hq
              dsimp only at hq
              exact hq
            · refine r_iload at_70_45 rfl <| r_ifne at_70_46 (fun h46_7 => ?_) (fun h46_7 => ?_)
              · refine r_aload at_70_49 rfl <| r_iload at_70_50 rfl <| r_iload at_70_51 rfl <| r_callV2v at_70_52 (T.me) (Nat.le_of_ble_eq_true rfl) (fun _ hq => q_cutOff (by omega) T (by omega) (by omega) hq) <| r_aload at_70_55 rfl <| r_iload at_70_56 rfl <| r_iload at_70_57 rfl <| r_callV2v at_70_58 (T.me) (Nat.le_of_ble_eq_true rfl) (fun _ hq => q_cutOff (by omega) T (by omega) (by omega) hq) <| r_aload at_70_61 rfl <| q_arr 1 T at_70_62 (by decide) <| r_push at_70_65 <| r_iload at_70_66 rfl <| r_mulN 5 a at_70_67 rfl rfl <| r_iload at_70_68 rfl <| r_addN (5 * a) b at_70_69 rfl rfl <| q_ald 1 (5 * a + b) T at_70_70 (by decide) rfl (by omega) (by decide) <| r_ifne at_70_71 (fun h71_8 => ?_) (fun h71_8 => ?_)
                · refine r_aload at_70_74 rfl <| q_arr 2 T at_70_75 (by decide) <| r_push at_70_78 <| r_iload at_70_79 rfl <| r_mulN 5 a at_70_80 rfl rfl <| r_iload at_70_81 rfl <| r_addN (5 * a) b at_70_82 rfl rfl <| r_push at_70_83 <| q_ast 2 (5 * a + b) T at_70_84 (by decide) rfl (by omega) (by decide) <| r_aload at_70_85 rfl <| q_arr 2 T at_70_86 (by decide) <| r_push at_70_89 <| r_iload at_70_90 rfl <| r_mulN 5 b at_70_91 rfl rfl <| r_iload at_70_92 rfl <| r_addN (5 * b) a at_70_93 rfl rfl <| r_push at_70_94 <| q_ast 2 (5 * b + a) T at_70_95 (by decide) rfl (by omega) (by decide) <| r_aload at_70_96 rfl <| q_arr 1 T at_70_97 (by decide) <| r_push at_70_100 <| r_iload at_70_101 rfl <| r_mulN 5 a at_70_102 rfl rfl <| r_iload at_70_103 rfl <| r_addN (5 * a) b at_70_104 rfl rfl <| r_iload at_70_105 rfl <| q_ast 1 (5 * a + b) T at_70_106 (by decide) rfl (by omega) (by decide) <| r_aload at_70_107 rfl <| q_arr 1 T at_70_108 (by decide) <| r_push at_70_111 <| r_iload at_70_112 rfl <| r_mulN 5 b at_70_113 rfl rfl <| r_iload at_70_114 rfl <| r_addN (5 * b) a at_70_115 rfl rfl <| r_iload at_70_116 rfl <| q_ast 1 (5 * b + a) T at_70_117 (by decide) rfl (by omega) (by decide) <| r_push at_70_118 <| ?_
                  refine r_zret at_70_119 (Or.inr rfl) ?_
                  have e : fr_link μ (nI a) (nI b) z = (am_wr (am_wr (am_wr (am_wr (fr_cut (fr_cut μ a b) b a) 2 (5 * a + b) 0) 2 (5 * b + a) 0) 1 (5 * a + b) z) 1 (5 * b + a) z, 1) := by simp only [fr_link, fr_link2, fr_link3, fr_link4, if_neg h4_1, if_neg h11_2, if_neg h16_3, if_neg h20_4, if_neg h26_5, if_neg h40_6, if_pos h46_7, if_pos h71_8, nI_clamp (show a < 2 ^ 31 by omega), nI_clamp (show b < 2 ^ 31 by omega)]
                  rw [e] at hq
                  dsimp only at hq
                  exact hq
                · refine r_aload at_70_96 rfl <| q_arr 1 T at_70_97 (by decide) <| r_push at_70_100 <| r_iload at_70_101 rfl <| r_mulN 5 a at_70_102 rfl rfl <| r_iload at_70_103 rfl <| r_addN (5 * a) b at_70_104 rfl rfl <| r_iload at_70_105 rfl <| q_ast 1 (5 * a + b) T at_70_106 (by decide) rfl (by omega) (by decide) <| r_aload at_70_107 rfl <| q_arr 1 T at_70_108 (by decide) <| r_push at_70_111 <| r_iload at_70_112 rfl <| r_mulN 5 b at_70_113 rfl rfl <| r_iload at_70_114 rfl <| r_addN (5 * b) a at_70_115 rfl rfl <| r_iload at_70_116 rfl <| q_ast 1 (5 * b + a) T at_70_117 (by decide) rfl (by omega) (by decide) <| r_push at_70_118 <| ?_
                  refine r_zret at_70_119 (Or.inr rfl) ?_
                  have e : fr_link μ (nI a) (nI b) z = (am_wr (am_wr (fr_cut (fr_cut μ a b) b a) 1 (5 * a + b) z) 1 (5 * b + a) z, 1) := by simp only [fr_link, fr_link2, fr_link3, fr_link4, if_neg h4_1, if_neg h11_2, if_neg h16_3, if_neg h20_4, if_neg h26_5, if_neg h40_6, if_pos h46_7, if_neg h71_8, nI_clamp (show a < 2 ^ 31 by omega), nI_clamp (show b < 2 ^ 31 by omega)]
                  rw [e] at hq
                  dsimp only at hq
                  exact hq
              · refine r_aload at_70_61 rfl <| q_arr 1 T at_70_62 (by decide) <| r_push at_70_65 <| r_iload at_70_66 rfl <| r_mulN 5 a at_70_67 rfl rfl <| r_iload at_70_68 rfl <| r_addN (5 * a) b at_70_69 rfl rfl <| q_ald 1 (5 * a + b) T at_70_70 (by decide) rfl (by omega) (by decide) <| r_ifne at_70_71 (fun h71_9 => ?_) (fun h71_9 => ?_)
                · refine r_aload at_70_74 rfl <| q_arr 2 T at_70_75 (by decide) <| r_push at_70_78 <| r_iload at_70_79 rfl <| r_mulN 5 a at_70_80 rfl rfl <| r_iload at_70_81 rfl <| r_addN (5 * a) b at_70_82 rfl rfl <| r_push at_70_83 <| q_ast 2 (5 * a + b) T at_70_84 (by decide) rfl (by omega) (by decide) <| r_aload at_70_85 rfl <| q_arr 2 T at_70_86 (by decide) <| r_push at_70_89 <| r_iload at_70_90 rfl <| r_mulN 5 b at_70_91 rfl rfl <| r_iload at_70_92 rfl <| r_addN (5 * b) a at_70_93 rfl rfl <| r_push at_70_94 <| q_ast 2 (5 * b + a) T at_70_95 (by decide) rfl (by omega) (by decide) <| r_aload at_70_96 rfl <| q_arr 1 T at_70_97 (by decide) <| r_push at_70_100 <| r_iload at_70_101 rfl <| r_mulN 5 a at_70_102 rfl rfl <| r_iload at_70_103 rfl <| r_addN (5 * a) b at_70_104 rfl rfl <| r_iload at_70_105 rfl <| q_ast 1 (5 * a + b) T at_70_106 (by decide) rfl (by omega) (by decide) <| r_aload at_70_107 rfl <| q_arr 1 T at_70_108 (by decide) <| r_push at_70_111 <| r_iload at_70_112 rfl <| r_mulN 5 b at_70_113 rfl rfl <| r_iload at_70_114 rfl <| r_addN (5 * b) a at_70_115 rfl rfl <| r_iload at_70_116 rfl <| q_ast 1 (5 * b + a) T at_70_117 (by decide) rfl (by omega) (by decide) <| r_push at_70_118 <| ?_
                  refine r_zret at_70_119 (Or.inr rfl) ?_
                  have e : fr_link μ (nI a) (nI b) z = (am_wr (am_wr (am_wr (am_wr μ 2 (5 * a + b) 0) 2 (5 * b + a) 0) 1 (5 * a + b) z) 1 (5 * b + a) z, 1) := by simp only [fr_link, fr_link2, fr_link3, fr_link4, if_neg h4_1, if_neg h11_2, if_neg h16_3, if_neg h20_4, if_neg h26_5, if_neg h40_6, if_neg h46_7, if_pos h71_9, nI_clamp (show a < 2 ^ 31 by omega), nI_clamp (show b < 2 ^ 31 by omega)]
                  rw [e] at hq
                  dsimp only at hq
                  exact hq
                · refine r_aload at_70_96 rfl <| q_arr 1 T at_70_97 (by decide) <| r_push at_70_100 <| r_iload at_70_101 rfl <| r_mulN 5 a at_70_102 rfl rfl <| r_iload at_70_103 rfl <| r_addN (5 * a) b at_70_104 rfl rfl <| r_iload at_70_105 rfl <| q_ast 1 (5 * a + b) T at_70_106 (by decide) rfl (by omega) (by decide) <| r_aload at_70_107 rfl <| q_arr 1 T at_70_108 (by decide) <| r_push at_70_111 <| r_iload at_70_112 rfl <| r_mulN 5 b at_70_113 rfl rfl <| r_iload at_70_114 rfl <| r_addN (5 * b) a at_70_115 rfl rfl <| r_iload at_70_116 rfl <| q_ast 1 (5 * b + a) T at_70_117 (by decide) rfl (by omega) (by decide) <| r_push at_70_118 <| ?_
                  refine r_zret at_70_119 (Or.inr rfl) ?_
                  have e : fr_link μ (nI a) (nI b) z = (am_wr (am_wr μ 1 (5 * a + b) z) 1 (5 * b + a) z, 1) := by simp only [fr_link, fr_link2, fr_link3, fr_link4, if_neg h4_1, if_neg h11_2, if_neg h16_3, if_neg h20_4, if_neg h26_5, if_neg h40_6, if_neg h46_7, if_neg h71_9, nI_clamp (show a < 2 ^ 31 by omega), nI_clamp (show b < 2 ^ 31 by omega)]
                  rw [e] at hq
                  dsimp only at hq
                  exact hq
def fr_stub2 (μ : am_I) (k : Nat) (v l z : Int32) : am_I := am_wr (am_wr (am_wr μ 13 k (if 0 < z then v else 0)) 14 k (if 0 < z then l else 0)) 15 k z
def fr_stub (μ : am_I) (x s v l z : Int32) : am_I × Int32 := if fr_rtr x = 0 then (μ, 0) else if s < 0 then (μ, 0) else if 1 < s then (μ, 0) else if l < 0 then (μ, 0) else if 8 < l then (μ, 0) else if v < 0 then (μ, 0) else if 255 < v then (μ, 0) else if z < 0 then (μ, 0) else if 9 < z then (μ, 0) else if v &&& (1 <<< ((8 - l) &&& 31) - 1) = 0 then (fr_stub2 μ (2 * (55 + x.toNatClampNeg) + s.toNatClampNeg) v l z, 1) else (μ, 0)
theorem q_stub {d : Nat} {Q : am_Q} {K : am_K} {sc : am_Sc} {c : am_M} {μ : am_I} {p : am_P} {x s v l z : Int32} (hd : 2 ≤ d) (T : am_TQ K p)  (hq : Q (K, sc, c, ((fr_stub μ x s v l z).1, p)) (some (.inl ((fr_stub μ x s v l z).2)))) : am_call d 71 [.inr (some 163), .inl x, .inl s, .inl v, .inl l, .inl z] (K, sc, c, (μ, p)) Q := by
  obtain ⟨d, rfl⟩ : ∃ d', d = d' + 1 := ⟨d - 1, by omega⟩
  refine r_enter (by decide) (Nat.le_of_ble_eq_true rfl) (ls := [some (.inr (some 163)), some (.inl x), some (.inl s), some (.inl v), some (.inl l), some (.inl z), none]) rfl ?_
  refine r_iload at_71_0 rfl <| r_callS1i at_71_1 (Nat.le_of_ble_eq_true rfl) (fun _ hq => q_router (by omega) hq) <| r_ifeq at_71_4 (fun h4_1 => ?_) (fun h4_1 => ?_)
  · refine r_push at_71_51 <| ?_
    refine r_zret at_71_52 (Or.inl rfl) ?_
    have e : fr_stub μ x s v l z = (μ, 0) := by simp only [fr_stub, fr_stub2, if_pos h4_1]
    rw [e] at hq
    dsimp only at hq
    exact hq
  · refine r_iload at_71_7 rfl <| r_iflt at_71_8 (fun h8_2 => ?_) (fun h8_2 => ?_)
    · refine r_push at_71_51 <| ?_
      refine r_zret at_71_52 (Or.inl rfl) ?_
      have e : fr_stub μ x s v l z = (μ, 0) := by simp only [fr_stub, fr_stub2, if_neg h4_1, if_pos h8_2]
      rw [e] at hq
      dsimp only at hq
      exact hq
    · refine r_iload at_71_11 rfl <| r_push at_71_12 <| r_cmgt at_71_13 (fun h13_3 => ?_) (fun h13_3 => ?_)
      · refine r_push at_71_51 <| ?_
        refine r_zret at_71_52 (Or.inl rfl) ?_
        have e : fr_stub μ x s v l z = (μ, 0) := by simp only [fr_stub, fr_stub2, if_neg h4_1, if_neg h8_2, if_pos h13_3]
        rw [e] at hq
        dsimp only at hq
        exact hq
      · refine r_iload at_71_16 rfl <| r_iflt at_71_18 (fun h18_4 => ?_) (fun h18_4 => ?_)
        · refine r_push at_71_51 <| ?_
          refine r_zret at_71_52 (Or.inl rfl) ?_
          have e : fr_stub μ x s v l z = (μ, 0) := by simp only [fr_stub, fr_stub2, if_neg h4_1, if_neg h8_2, if_neg h13_3, if_pos h18_4]
          rw [e] at hq
          dsimp only at hq
          exact hq
        · refine r_iload at_71_21 rfl <| r_push at_71_23 <| r_cmgt at_71_25 (fun h25_5 => ?_) (fun h25_5 => ?_)
          · refine r_push at_71_51 <| ?_
            refine r_zret at_71_52 (Or.inl rfl) ?_
            have e : fr_stub μ x s v l z = (μ, 0) := by simp only [fr_stub, fr_stub2, if_neg h4_1, if_neg h8_2, if_neg h13_3, if_neg h18_4, if_pos h25_5]
            rw [e] at hq
            dsimp only at hq
            exact hq
          · refine r_iload at_71_28 rfl <| r_iflt at_71_29 (fun h29_6 => ?_) (fun h29_6 => ?_)
            · refine r_push at_71_51 <| ?_
              refine r_zret at_71_52 (Or.inl rfl) ?_
              have e : fr_stub μ x s v l z = (μ, 0) := by simp only [fr_stub, fr_stub2, if_neg h4_1, if_neg h8_2, if_neg h13_3, if_neg h18_4, if_neg h25_5, if_pos h29_6]
              rw [e] at hq
              dsimp only at hq
              exact hq
            · refine r_iload at_71_32 rfl <| r_push at_71_33 <| r_cmgt at_71_36 (fun h36_7 => ?_) (fun h36_7 => ?_)
              · refine r_push at_71_51 <| ?_
                refine r_zret at_71_52 (Or.inl rfl) ?_
                have e : fr_stub μ x s v l z = (μ, 0) := by simp only [fr_stub, fr_stub2, if_neg h4_1, if_neg h8_2, if_neg h13_3, if_neg h18_4, if_neg h25_5, if_neg h29_6, if_pos h36_7]
                rw [e] at hq
                dsimp only at hq
                exact hq
              · refine r_iload at_71_39 rfl <| r_iflt at_71_41 (fun h41_8 => ?_) (fun h41_8 => ?_)
                · refine r_push at_71_51 <| ?_
                  refine r_zret at_71_52 (Or.inl rfl) ?_
                  have e : fr_stub μ x s v l z = (μ, 0) := by simp only [fr_stub, fr_stub2, if_neg h4_1, if_neg h8_2, if_neg h13_3, if_neg h18_4, if_neg h25_5, if_neg h29_6, if_neg h36_7, if_pos h41_8]
                  rw [e] at hq
                  dsimp only at hq
                  exact hq
                · refine r_iload at_71_44 rfl <| r_push at_71_46 <| r_cmle at_71_48 (fun h48_9 => ?_) (fun h48_9 => ?_)
                  · refine r_push at_71_51 <| ?_
                    refine r_zret at_71_52 (Or.inl rfl) ?_
                    have e : fr_stub μ x s v l z = (μ, 0) := by simp only [fr_stub, fr_stub2, if_neg h4_1, if_neg h8_2, if_neg h13_3, if_neg h18_4, if_neg h25_5, if_neg h29_6, if_neg h36_7, if_neg h41_8, if_pos h48_9]
                    rw [e] at hq
                    dsimp only at hq
                    exact hq
                  · refine r_iload at_71_53 rfl <| r_push at_71_54 <| r_push at_71_55 <| r_iload at_71_57 rfl <| r_bin at_71_59 <| r_bin at_71_60 <| r_push at_71_61 <| r_bin at_71_62 <| r_bin at_71_63 <| r_ifeq at_71_64 (fun h64_10 => ?_) (fun h64_10 => ?_)
                    · obtain ⟨a, ha, rfl⟩ := fr_rtr_of h4_1
                      obtain ⟨s, hs, rfl⟩ := nI_of2 (M := 1) (n := 1) (by decide) h8_2 (Int32.not_lt.mp h13_3)
                      refine r_push at_71_69 <| r_push at_71_70 <| r_iload at_71_72 rfl <| r_addN 55 a at_71_73 rfl rfl <| r_mulN 2 (55 + a) at_71_74 rfl rfl <| r_iload at_71_75 rfl <| r_addN (2 * (55 + a)) s at_71_76 rfl rfl <| r_istoreL (ls' := [_, _, _, _, _, _, _]) at_71_77 rfl <| r_aload at_71_79 rfl <| q_arr 13 T at_71_80 (by decide) <| r_iload at_71_83 rfl <| r_iload at_71_85 rfl <| r_ifle at_71_87 (fun h87_11 => ?_) (fun h87_11 => ?_)
                      · refine r_iload at_71_90 rfl <| r_goto at_71_91 <| q_ast 13 (2 * (55 + a) + s) T at_71_95 (by decide) rfl (by omega) (by decide) <| r_aload at_71_96 rfl <| q_arr 14 T at_71_97 (by decide) <| r_iload at_71_100 rfl <| r_iload at_71_102 rfl <| r_ifleT at_71_104 h87_11 <| r_iload at_71_107 rfl <| r_goto at_71_109 <| q_ast 14 (2 * (55 + a) + s) T at_71_113 (by decide) rfl (by omega) (by decide) <| r_aload at_71_114 rfl <| q_arr 15 T at_71_115 (by decide) <| r_iload at_71_118 rfl <| r_iload at_71_120 rfl <| q_ast 15 (2 * (55 + a) + s) T at_71_122 (by decide) rfl (by omega) (by decide) <| r_push at_71_123 <| ?_
                        refine r_zret at_71_124 (Or.inr rfl) ?_
                        have e : fr_stub μ (nI a) (nI s) v l z = (am_wr (am_wr (am_wr μ 13 (2 * (55 + a) + s) v) 14 (2 * (55 + a) + s) l) 15 (2 * (55 + a) + s) z, 1) := by simp only [fr_stub, fr_stub2, if_neg h4_1, if_neg h8_2, if_neg h13_3, if_neg h18_4, if_neg h25_5, if_neg h29_6, if_neg h36_7, if_neg h41_8, if_neg h48_9, if_pos h64_10, if_pos h87_11, nI_clamp (show a < 2 ^ 31 by omega), nI_clamp (show s < 2 ^ 31 by omega)]
                        rw [e] at hq
                        dsimp only at hq
                        exact hq
                      · refine r_push at_71_94 <| q_ast 13 (2 * (55 + a) + s) T at_71_95 (by decide) rfl (by omega) (by decide) <| r_aload at_71_96 rfl <| q_arr 14 T at_71_97 (by decide) <| r_iload at_71_100 rfl <| r_iload at_71_102 rfl <| r_ifleF at_71_104 h87_11 <| r_push at_71_112 <| q_ast 14 (2 * (55 + a) + s) T at_71_113 (by decide) rfl (by omega) (by decide) <| r_aload at_71_114 rfl <| q_arr 15 T at_71_115 (by decide) <| r_iload at_71_118 rfl <| r_iload at_71_120 rfl <| q_ast 15 (2 * (55 + a) + s) T at_71_122 (by decide) rfl (by omega) (by decide) <| r_push at_71_123 <| ?_
                        refine r_zret at_71_124 (Or.inr rfl) ?_
                        have e : fr_stub μ (nI a) (nI s) v l z = (am_wr (am_wr (am_wr μ 13 (2 * (55 + a) + s) 0) 14 (2 * (55 + a) + s) 0) 15 (2 * (55 + a) + s) z, 1) := by simp only [fr_stub, fr_stub2, if_neg h4_1, if_neg h8_2, if_neg h13_3, if_neg h18_4, if_neg h25_5, if_neg h29_6, if_neg h36_7, if_neg h41_8, if_neg h48_9, if_pos h64_10, if_neg h87_11, nI_clamp (show a < 2 ^ 31 by omega), nI_clamp (show s < 2 ^ 31 by omega)]
                        rw [e] at hq
                        dsimp only at hq
                        exact hq
                    · refine r_push at_71_67 <| ?_
                      refine r_zret at_71_68 (Or.inl rfl) ?_
                      have e : fr_stub μ x s v l z = (μ, 0) := by simp only [fr_stub, fr_stub2, if_neg h4_1, if_neg h8_2, if_neg h13_3, if_neg h18_4, if_neg h25_5, if_neg h29_6, if_neg h36_7, if_neg h41_8, if_neg h48_9, if_neg h64_10]
                      rw [e] at hq
                      dsimp only at hq
                      exact hq
def fr_pw_b (a k : Nat) (μ : am_I) : am_I := am_wr (fr_cut μ a k) 10 (5 * a + k) 0
def fr_power2 (μ : am_I) (a : Nat) (o : Int32) : am_I := if o = 0 then am_wr (am_wr (am_wr (am_it (fr_pw_b a) 5 (am_wr μ 0 a 1)) 10 (50 + a) 0) 16 a 0) 17 a 0 else am_wr μ 0 a 0
def fr_power (μ : am_I) (x o : Int32) : am_I × Int32 := if fr_rtr x = 0 then (μ, 0) else if am_rd μ 0 x.toNatClampNeg = o then (fr_power2 μ x.toNatClampNeg o, 1) else (μ, 0)
theorem q_power {d : Nat} {Q : am_Q} {K : am_K} {sc : am_Sc} {c : am_M} {μ : am_I} {p : am_P} {x o : Int32} (hd : 2 ≤ d) (T : am_TQ K p)  (hq : Q (K, sc, c, ((fr_power μ x o).1, p)) (some (.inl ((fr_power μ x o).2)))) : am_call d 72 [.inr (some 163), .inl x, .inl o] (K, sc, c, (μ, p)) Q := by
  obtain ⟨d, rfl⟩ : ∃ d', d = d' + 1 := ⟨d - 1, by omega⟩
  refine r_enter (by decide) (Nat.le_of_ble_eq_true rfl) (ls := [some (.inr (some 163)), some (.inl x), some (.inl o), none]) rfl ?_
  refine r_iload at_72_0 rfl <| r_callS1i at_72_1 (Nat.le_of_ble_eq_true rfl) (fun _ hq => q_router (by omega) hq) <| r_ifeq at_72_4 (fun h4_1 => ?_) (fun h4_1 => ?_)
  · refine r_push at_72_17 <| ?_
    refine r_zret at_72_18 (Or.inl rfl) ?_
    have e : fr_power μ x o = (μ, 0) := by simp only [fr_power, fr_power2, if_pos h4_1]
    rw [e] at hq
    dsimp only at hq
    exact hq
  · obtain ⟨a, ha, rfl⟩ := fr_rtr_of h4_1
    refine r_aload at_72_7 rfl <| q_arr 0 T at_72_8 (by decide) <| r_iload at_72_11 rfl <| q_ald 0 a T at_72_12 (by decide) rfl (by omega) (by decide) <| r_iload at_72_13 rfl <| r_cmeq at_72_14 (fun h14_2 => ?_) (fun h14_2 => ?_)
    · refine r_aload at_72_19 rfl <| q_arr 0 T at_72_20 (by decide) <| r_iload at_72_23 rfl <| r_iload at_72_24 rfl <| r_ifne at_72_25 (fun h25_3 => ?_) (fun h25_3 => ?_)
      · refine r_push at_72_28 <| r_goto at_72_29 <| q_zast 0 a T at_72_33 (by decide) rfl (by omega) (by decide) (Or.inr rfl) <| r_push at_72_34 <| r_istoreL (ls' := [_, _, _, _]) at_72_35 rfl <| ?_
        refine am_for 5 (fun k z => am_w d 72 Q 36 [some (.inr (some 163)), some (.inl (nI a)), some (.inl o), some (.inl (nI k))] [] (K, sc, c, (z, p))) (fr_pw_b a) (fun k hi_k z hk_k => ?_) (am_wr μ 0 a 1) ?_
        · refine r_iload at_72_36 rfl <| r_push at_72_37 <| r_cmgeNT k 5 at_72_38 rfl rfl (by omega) (by omega) (by omega) <| ?_
          refine r_iload at_72_41 rfl <| r_ifneT at_72_42 h25_3 <| r_aload at_72_45 rfl <| r_iload at_72_46 rfl <| r_iload at_72_47 rfl <| r_callV2v at_72_48 (T.me) (Nat.le_of_ble_eq_true rfl) (fun _ hq => q_cutOff (by omega) T (by omega) (by omega) hq) <| r_aload at_72_51 rfl <| q_arr 10 T at_72_52 (by decide) <| r_push at_72_55 <| r_iload at_72_56 rfl <| r_mulN 5 a at_72_57 rfl rfl <| r_iload at_72_58 rfl <| r_addN (5 * a) k at_72_59 rfl rfl <| r_push at_72_60 <| q_ast 10 (5 * a + k) T at_72_61 (by decide) rfl (by omega) (by decide) <| r_iincNL (ls' := [_, _, _, _]) k at_72_62 rfl rfl <| r_goto at_72_65 <| ?_
          have e : (fr_pw_b a) k z = am_wr (fr_cut z a k) 10 (5 * a + k) 0 := by simp only [fr_pw_b]
          rw [e] at hk_k
          exact hk_k
        · generalize hz36 : am_it (fr_pw_b a) 5 (am_wr μ 0 a 1) = y36
          refine r_iload at_72_36 rfl <| r_push at_72_37 <| r_cmgeNF 5 5 at_72_38 rfl rfl (by omega) (by omega) (by omega) <| ?_
          refine r_iload at_72_68 rfl <| r_ifneT at_72_69 h25_3 <| r_aload at_72_72 rfl <| q_arr 10 T at_72_73 (by decide) <| r_push at_72_76 <| r_iload at_72_78 rfl <| r_addN 50 a at_72_79 rfl rfl <| r_push at_72_80 <| q_ast 10 (50 + a) T at_72_81 (by decide) rfl (by omega) (by decide) <| r_aload at_72_82 rfl <| q_arr 16 T at_72_83 (by decide) <| r_iload at_72_86 rfl <| r_push at_72_87 <| q_ast 16 a T at_72_88 (by decide) rfl (by omega) (by decide) <| r_aload at_72_89 rfl <| q_arr 17 T at_72_90 (by decide) <| r_iload at_72_93 rfl <| r_push at_72_94 <| q_zast 17 a T at_72_95 (by decide) rfl (by omega) (by decide) (Or.inl rfl) <| r_push at_72_96 <| ?_
          refine r_zret at_72_97 (Or.inr rfl) ?_
          have e : fr_power μ (nI a) o = (am_wr (am_wr (am_wr y36 10 (50 + a) 0) 16 a 0) 17 a 0, 1) := by simp only [fr_power, fr_power2, if_neg h4_1, if_pos h14_2, if_pos h25_3, hz36, nI_clamp (show a < 2 ^ 31 by omega)]
          rw [e] at hq
          dsimp only at hq
          exact hq
      · refine r_push at_72_32 <| q_zast 0 a T at_72_33 (by decide) rfl (by omega) (by decide) (Or.inl rfl) <| r_push at_72_34 <| r_istoreL (ls' := [_, _, _, _]) at_72_35 rfl <| r_iload at_72_36 rfl <| r_push at_72_37 <| r_cmgeT at_72_38 (by decide) <| r_iload at_72_41 rfl <| r_ifneF at_72_42 h25_3 <| r_iload at_72_68 rfl <| r_ifneF at_72_69 h25_3 <| r_push at_72_96 <| ?_
        refine r_zret at_72_97 (Or.inr rfl) ?_
        have e : fr_power μ (nI a) o = (am_wr μ 0 a 0, 1) := by simp only [fr_power, fr_power2, if_neg h4_1, if_pos h14_2, if_neg h25_3, nI_clamp (show a < 2 ^ 31 by omega)]
        rw [e] at hq
        dsimp only at hq
        exact hq
    · refine r_push at_72_17 <| ?_
      refine r_zret at_72_18 (Or.inl rfl) ?_
      have e : fr_power μ (nI a) o = (μ, 0) := by simp only [fr_power, fr_power2, if_neg h4_1, if_neg h14_2, nI_clamp (show a < 2 ^ 31 by omega)]
      rw [e] at hq
      dsimp only at hq
      exact hq
def fr_lose (μ : am_I) (x y z : Int32) : am_I × Int32 := if fr_lnk μ x y = 0 then (μ, 0) else if z < 0 then (μ, 0) else if 9 < z then (μ, 0) else (am_wr μ 2 (5 * x.toNatClampNeg + y.toNatClampNeg) z, 1)
theorem q_lose {d : Nat} {Q : am_Q} {K : am_K} {sc : am_Sc} {c : am_M} {μ : am_I} {p : am_P} {x y z : Int32} (hd : 3 ≤ d) (T : am_TQ K p)  (hq : Q (K, sc, c, ((fr_lose μ x y z).1, p)) (some (.inl ((fr_lose μ x y z).2)))) : am_call d 73 [.inr (some 163), .inl x, .inl y, .inl z] (K, sc, c, (μ, p)) Q := by
  obtain ⟨d, rfl⟩ : ∃ d', d = d' + 1 := ⟨d - 1, by omega⟩
  refine r_enter (by decide) (Nat.le_of_ble_eq_true rfl) (ls := [some (.inr (some 163)), some (.inl x), some (.inl y), some (.inl z)]) rfl ?_
  refine r_aload at_73_0 rfl <| r_iload at_73_1 rfl <| r_iload at_73_2 rfl <| r_callV2i at_73_3 (T.me) (Nat.le_of_ble_eq_true rfl) (fun _ hq => q_linked (by omega) T hq) <| r_ifeq at_73_6 (fun h6_1 => ?_) (fun h6_1 => ?_)
  · refine r_push at_73_19 <| ?_
    refine r_zret at_73_20 (Or.inl rfl) ?_
    have e : fr_lose μ x y z = (μ, 0) := by simp only [fr_lose, if_pos h6_1]
    rw [e] at hq
    dsimp only at hq
    exact hq
  · refine r_iload at_73_9 rfl <| r_iflt at_73_10 (fun h10_2 => ?_) (fun h10_2 => ?_)
    · refine r_push at_73_19 <| ?_
      refine r_zret at_73_20 (Or.inl rfl) ?_
      have e : fr_lose μ x y z = (μ, 0) := by simp only [fr_lose, if_neg h6_1, if_pos h10_2]
      rw [e] at hq
      dsimp only at hq
      exact hq
    · refine r_iload at_73_13 rfl <| r_push at_73_14 <| r_cmle at_73_16 (fun h16_3 => ?_) (fun h16_3 => ?_)
      · refine r_push at_73_19 <| ?_
        refine r_zret at_73_20 (Or.inl rfl) ?_
        have e : fr_lose μ x y z = (μ, 0) := by simp only [fr_lose, if_neg h6_1, if_neg h10_2, if_pos h16_3]
        rw [e] at hq
        dsimp only at hq
        exact hq
      · obtain ⟨a, b, ha, hb, rfl, rfl, hab⟩ := fr_lnk_of h6_1
        refine r_aload at_73_21 rfl <| q_arr 2 T at_73_22 (by decide) <| r_push at_73_25 <| r_iload at_73_26 rfl <| r_mulN 5 a at_73_27 rfl rfl <| r_iload at_73_28 rfl <| r_addN (5 * a) b at_73_29 rfl rfl <| r_iload at_73_30 rfl <| q_ast 2 (5 * a + b) T at_73_31 (by decide) rfl (by omega) (by decide) <| r_push at_73_32 <| ?_
        refine r_zret at_73_33 (Or.inr rfl) ?_
        have e : fr_lose μ (nI a) (nI b) z = (am_wr μ 2 (5 * a + b) z, 1) := by simp only [fr_lose, if_neg h6_1, if_neg h10_2, if_neg h16_3, nI_clamp (show a < 2 ^ 31 by omega), nI_clamp (show b < 2 ^ 31 by omega)]
        rw [e] at hq
        dsimp only at hq
        exact hq
def fr_cp (μ : am_I) (k f t : Nat) : am_I := am_wr μ k t (am_rd μ k f)
def fr_copy_n (f t n : Nat) (μ : am_I) : am_I := fr_cp μ 12 (5 * f + n) (5 * t + n)
def fr_copy_s (f t s : Nat) (μ : am_I) : am_I := fr_cp (fr_cp (fr_cp μ 13 (2 * f + s) (2 * t + s)) 14 (2 * f + s) (2 * t + s)) 15 (2 * f + s) (2 * t + s)
def fr_copy (μ : am_I) (f t : Nat) : am_I := am_it (fr_copy_s f t) 2 (am_it (fr_copy_n f t) 5 (fr_cp (fr_cp μ 10 f t) 11 f t))
theorem q_copy {d : Nat} {Q : am_Q} {K : am_K} {sc : am_Sc} {c : am_M} {μ : am_I} {p : am_P} {f t : Nat} (hd : 1 ≤ d) (T : am_TQ K p) (hf : f < 60) (ht : t < 60) (hq : Q (K, sc, c, (fr_copy μ f t, p)) none) : am_call d 74 [.inr (some 163), .inl (nI f), .inl (nI t)] (K, sc, c, (μ, p)) Q := by
  obtain ⟨d, rfl⟩ : ∃ d', d = d' + 1 := ⟨d - 1, by omega⟩
  refine r_enter (by decide) (Nat.le_of_ble_eq_true rfl) (ls := [some (.inr (some 163)), some (.inl (nI f)), some (.inl (nI t)), none]) rfl ?_
  refine r_aload at_74_0 rfl <| q_arr 10 T at_74_1 (by decide) <| r_iload at_74_4 rfl <| r_aload at_74_5 rfl <| q_arr 10 T at_74_6 (by decide) <| r_iload at_74_9 rfl <| q_ald 10 f T at_74_10 (by decide) rfl (by omega) (by decide) <| q_ast 10 t T at_74_11 (by decide) rfl (by omega) (by decide) <| r_aload at_74_12 rfl <| q_arr 11 T at_74_13 (by decide) <| r_iload at_74_16 rfl <| r_aload at_74_17 rfl <| q_arr 11 T at_74_18 (by decide) <| r_iload at_74_21 rfl <| q_ald 11 f T at_74_22 (by decide) rfl (by omega) (by decide) <| q_ast 11 t T at_74_23 (by decide) rfl (by omega) (by decide) <| r_push at_74_24 <| r_istoreL (ls' := [_, _, _, _]) at_74_25 rfl <| ?_
  refine am_for 5 (fun n z => am_w d 74 Q 26 [some (.inr (some 163)), some (.inl (nI f)), some (.inl (nI t)), some (.inl (nI n))] [] (K, sc, c, (z, p))) (fr_copy_n f t) (fun n hi_n z hk_n => ?_) (am_wr (am_wr μ 10 t (am_rd μ 10 f)) 11 t (am_rd (am_wr μ 10 t (am_rd μ 10 f)) 11 f)) ?_
  · refine r_iload at_74_26 rfl <| r_push at_74_27 <| r_cmgeNT n 5 at_74_28 rfl rfl (by omega) (by omega) (by omega) <| ?_
    refine r_aload at_74_31 rfl <| q_arr 12 T at_74_32 (by decide) <| r_push at_74_35 <| r_iload at_74_36 rfl <| r_mulN 5 t at_74_37 rfl rfl <| r_iload at_74_38 rfl <| r_addN (5 * t) n at_74_39 rfl rfl <| r_aload at_74_40 rfl <| q_arr 12 T at_74_41 (by decide) <| r_push at_74_44 <| r_iload at_74_45 rfl <| r_mulN 5 f at_74_46 rfl rfl <| r_iload at_74_47 rfl <| r_addN (5 * f) n at_74_48 rfl rfl <| q_ald 12 (5 * f + n) T at_74_49 (by decide) rfl (by omega) (by decide) <| q_ast 12 (5 * t + n) T at_74_50 (by decide) rfl (by omega) (by decide) <| r_iincNL (ls' := [_, _, _, _]) n at_74_51 rfl rfl <| r_goto at_74_54 <| ?_
    have e : (fr_copy_n f t) n z = am_wr z 12 (5 * t + n) (am_rd z 12 (5 * f + n)) := by simp only [fr_copy_n, fr_cp]
    rw [e] at hk_n
    exact hk_n
  · generalize hz26 : am_it (fr_copy_n f t) 5 (am_wr (am_wr μ 10 t (am_rd μ 10 f)) 11 t (am_rd (am_wr μ 10 t (am_rd μ 10 f)) 11 f)) = y26
    refine r_iload at_74_26 rfl <| r_push at_74_27 <| r_cmgeNF 5 5 at_74_28 rfl rfl (by omega) (by omega) (by omega) <| ?_
    refine r_push at_74_57 <| r_istoreL (ls' := [_, _, _, _]) at_74_58 rfl <| ?_
    refine am_for 2 (fun s z => am_w d 74 Q 59 [some (.inr (some 163)), some (.inl (nI f)), some (.inl (nI t)), some (.inl (nI s))] [] (K, sc, c, (z, p))) (fr_copy_s f t) (fun s hi_s z hk_s => ?_) y26 ?_
    · refine r_iload at_74_59 rfl <| r_push at_74_60 <| r_cmgeNT s 2 at_74_61 rfl rfl (by omega) (by omega) (by omega) <| ?_
      refine r_aload at_74_64 rfl <| q_arr 13 T at_74_65 (by decide) <| r_push at_74_68 <| r_iload at_74_69 rfl <| r_mulN 2 t at_74_70 rfl rfl <| r_iload at_74_71 rfl <| r_addN (2 * t) s at_74_72 rfl rfl <| r_aload at_74_73 rfl <| q_arr 13 T at_74_74 (by decide) <| r_push at_74_77 <| r_iload at_74_78 rfl <| r_mulN 2 f at_74_79 rfl rfl <| r_iload at_74_80 rfl <| r_addN (2 * f) s at_74_81 rfl rfl <| q_ald 13 (2 * f + s) T at_74_82 (by decide) rfl (by omega) (by decide) <| q_ast 13 (2 * t + s) T at_74_83 (by decide) rfl (by omega) (by decide) <| r_aload at_74_84 rfl <| q_arr 14 T at_74_85 (by decide) <| r_push at_74_88 <| r_iload at_74_89 rfl <| r_mulN 2 t at_74_90 rfl rfl <| r_iload at_74_91 rfl <| r_addN (2 * t) s at_74_92 rfl rfl <| r_aload at_74_93 rfl <| q_arr 14 T at_74_94 (by decide) <| r_push at_74_97 <| r_iload at_74_98 rfl <| r_mulN 2 f at_74_99 rfl rfl <| r_iload at_74_100 rfl <| r_addN (2 * f) s at_74_101 rfl rfl <| q_ald 14 (2 * f + s) T at_74_102 (by decide) rfl (by omega) (by decide) <| q_ast 14 (2 * t + s) T at_74_103 (by decide) rfl (by omega) (by decide) <| r_aload at_74_104 rfl <| q_arr 15 T at_74_105 (by decide) <| r_push at_74_108 <| r_iload at_74_109 rfl <| r_mulN 2 t at_74_110 rfl rfl <| r_iload at_74_111 rfl <| r_addN (2 * t) s at_74_112 rfl rfl <| r_aload at_74_113 rfl <| q_arr 15 T at_74_114 (by decide) <| r_push at_74_117 <| r_iload at_74_118 rfl <| r_mulN 2 f at_74_119 rfl rfl <| r_iload at_74_120 rfl <| r_addN (2 * f) s at_74_121 rfl rfl <| q_ald 15 (2 * f + s) T at_74_122 (by decide) rfl (by omega) (by decide) <| q_ast 15 (2 * t + s) T at_74_123 (by decide) rfl (by omega) (by decide) <| r_iincNL (ls' := [_, _, _, _]) s at_74_124 rfl rfl <| r_goto at_74_127 <| ?_
      have e : (fr_copy_s f t) s z = am_wr (am_wr (am_wr z 13 (2 * t + s) (am_rd z 13 (2 * f + s))) 14 (2 * t + s) (am_rd (am_wr z 13 (2 * t + s) (am_rd z 13 (2 * f + s))) 14 (2 * f + s))) 15 (2 * t + s) (am_rd (am_wr (am_wr z 13 (2 * t + s) (am_rd z 13 (2 * f + s))) 14 (2 * t + s) (am_rd (am_wr z 13 (2 * t + s) (am_rd z 13 (2 * f + s))) 14 (2 * f + s))) 15 (2 * f + s)) := by simp only [fr_copy_s, fr_cp]
      rw [e] at hk_s
      exact hk_s
    · generalize hz59 : am_it (fr_copy_s f t) 2 y26 = y59
      refine r_iload at_74_59 rfl <| r_push at_74_60 <| r_cmgeNF 2 2 at_74_61 rfl rfl (by omega) (by omega) (by omega) <| ?_
      refine r_ret at_74_130 ?_
      have e : fr_copy μ f t = y59 := by simp only [fr_copy, fr_cp, hz26, hz59]
      rw [e] at hq
      exact hq
def fr_sb_n (μ : am_I) (f t n : Nat) (v : Int32) : Int32 := if v = 0 then 0 else if am_rd μ 12 (5 * f + n) = am_rd μ 12 (5 * t + n) then 1 else 0
def fr_sb_s (μ : am_I) (f t s : Nat) (v : Int32) : Int32 := if v = 0 then 0 else if am_rd μ 13 (2 * f + s) = am_rd μ 13 (2 * t + s) then if am_rd μ 14 (2 * f + s) = am_rd μ 14 (2 * t + s) then if am_rd μ 15 (2 * f + s) = am_rd μ 15 (2 * t + s) then 1 else 0 else 0 else 0
def fr_sb (μ : am_I) (f t : Nat) : Int32 := am_it (fr_sb_s μ f t) 2 (am_it (fr_sb_n μ f t) 5 1)
theorem fr_sb_s_01 (μ : am_I) (f t s : Nat) (v : Int32) : fr_sb_s μ f t s v = 0 ∨ fr_sb_s μ f t s v = 1 := by
  unfold fr_sb_s
  repeat' split
  all_goals first | exact Or.inl rfl | exact Or.inr rfl
theorem am_it_2 {α : Type} (f : Nat → α → α) (s : α) : am_it f 2 s = f 1 (am_it f 1 s) := rfl
theorem fr_sb_01 (μ : am_I) (f t : Nat) : fr_sb μ f t = 0 ∨ fr_sb μ f t = 1 := by
  unfold fr_sb
  rw [am_it_2]
  exact fr_sb_s_01 μ f t 1 _
theorem q_sameBody {d : Nat} {Q : am_Q} {K : am_K} {sc : am_Sc} {c : am_M} {μ : am_I} {p : am_P} {f t : Nat} (hd : 1 ≤ d) (T : am_TQ K p) (hf : f < 60) (ht : t < 60) (hq : Q (K, sc, c, (μ, p)) (some (.inl (fr_sb μ f t)))) : am_call d 75 [.inr (some 163), .inl (nI f), .inl (nI t)] (K, sc, c, (μ, p)) Q := by
  obtain ⟨d, rfl⟩ : ∃ d', d = d' + 1 := ⟨d - 1, by omega⟩
  refine r_enter (by decide) (Nat.le_of_ble_eq_true rfl) (ls := [some (.inr (some 163)), some (.inl (nI f)), some (.inl (nI t)), none, none]) rfl ?_
  refine r_push at_75_0 <| r_istoreL (ls' := [_, _, _, _, _]) at_75_1 rfl <| r_push at_75_2 <| r_istoreL (ls' := [_, _, _, _, _]) at_75_3 rfl <| ?_
  refine am_for 5 (fun n z => am_w d 75 Q 5 [some (.inr (some 163)), some (.inl (nI f)), some (.inl (nI t)), some (.inl z), some (.inl (nI n))] [] (K, sc, c, (μ, p))) (fr_sb_n μ f t) (fun n hi_n z hk_n => ?_) 1 ?_
  · refine r_iload at_75_5 rfl <| r_push at_75_7 <| r_cmgeNT n 5 at_75_8 rfl rfl (by omega) (by omega) (by omega) <| ?_
    refine r_iload at_75_11 rfl <| r_ifeq at_75_12 (fun h12_1 => ?_) (fun h12_1 => ?_)
    · refine r_push at_75_44 <| r_istoreL (ls' := [_, _, _, _, _]) at_75_45 rfl <| r_iincNL (ls' := [_, _, _, _, _]) n at_75_46 rfl rfl <| r_goto at_75_49 <| ?_
      have e : (fr_sb_n μ f t) n z = 0 := by simp only [fr_sb_n, if_pos h12_1]
      rw [e] at hk_n
      exact hk_n
    · refine r_aload at_75_15 rfl <| q_arr 12 T at_75_16 (by decide) <| r_push at_75_19 <| r_iload at_75_20 rfl <| r_mulN 5 f at_75_21 rfl rfl <| r_iload at_75_22 rfl <| r_addN (5 * f) n at_75_24 rfl rfl <| q_ald 12 (5 * f + n) T at_75_25 (by decide) rfl (by omega) (by decide) <| r_aload at_75_26 rfl <| q_arr 12 T at_75_27 (by decide) <| r_push at_75_30 <| r_iload at_75_31 rfl <| r_mulN 5 t at_75_32 rfl rfl <| r_iload at_75_33 rfl <| r_addN (5 * t) n at_75_35 rfl rfl <| q_ald 12 (5 * t + n) T at_75_36 (by decide) rfl (by omega) (by decide) <| r_cmne at_75_37 (fun h37_2 => ?_) (fun h37_2 => ?_)
      · refine r_push at_75_40 <| r_goto at_75_41 <| r_istoreL (ls' := [_, _, _, _, _]) at_75_45 rfl <| r_iincNL (ls' := [_, _, _, _, _]) n at_75_46 rfl rfl <| r_goto at_75_49 <| ?_
        have e : (fr_sb_n μ f t) n z = 1 := by simp only [fr_sb_n, if_neg h12_1, if_pos h37_2]
        rw [e] at hk_n
        exact hk_n
      · refine r_push at_75_44 <| r_istoreL (ls' := [_, _, _, _, _]) at_75_45 rfl <| r_iincNL (ls' := [_, _, _, _, _]) n at_75_46 rfl rfl <| r_goto at_75_49 <| ?_
        have e : (fr_sb_n μ f t) n z = 0 := by simp only [fr_sb_n, if_neg h12_1, if_neg h37_2]
        rw [e] at hk_n
        exact hk_n
  · generalize hz5 : am_it (fr_sb_n μ f t) 5 1 = y5
    refine r_iload at_75_5 rfl <| r_push at_75_7 <| r_cmgeNF 5 5 at_75_8 rfl rfl (by omega) (by omega) (by omega) <| ?_
    refine r_push at_75_52 <| r_istoreL (ls' := [_, _, _, _, _]) at_75_53 rfl <| ?_
    refine am_for 2 (fun s z => am_w d 75 Q 55 [some (.inr (some 163)), some (.inl (nI f)), some (.inl (nI t)), some (.inl z), some (.inl (nI s))] [] (K, sc, c, (μ, p))) (fr_sb_s μ f t) (fun s hi_s z hk_s => ?_) y5 ?_
    · refine r_iload at_75_55 rfl <| r_push at_75_57 <| r_cmgeNT s 2 at_75_58 rfl rfl (by omega) (by omega) (by omega) <| ?_
      refine r_iload at_75_61 rfl <| r_ifeq at_75_62 (fun h62_3 => ?_) (fun h62_3 => ?_)
      · refine r_push at_75_144 <| r_istoreL (ls' := [_, _, _, _, _]) at_75_145 rfl <| r_iincNL (ls' := [_, _, _, _, _]) s at_75_146 rfl rfl <| r_goto at_75_149 <| ?_
        have e : (fr_sb_s μ f t) s z = 0 := by simp only [fr_sb_s, if_pos h62_3]
        rw [e] at hk_s
        exact hk_s
      · refine r_aload at_75_65 rfl <| q_arr 13 T at_75_66 (by decide) <| r_push at_75_69 <| r_iload at_75_70 rfl <| r_mulN 2 f at_75_71 rfl rfl <| r_iload at_75_72 rfl <| r_addN (2 * f) s at_75_74 rfl rfl <| q_ald 13 (2 * f + s) T at_75_75 (by decide) rfl (by omega) (by decide) <| r_aload at_75_76 rfl <| q_arr 13 T at_75_77 (by decide) <| r_push at_75_80 <| r_iload at_75_81 rfl <| r_mulN 2 t at_75_82 rfl rfl <| r_iload at_75_83 rfl <| r_addN (2 * t) s at_75_85 rfl rfl <| q_ald 13 (2 * t + s) T at_75_86 (by decide) rfl (by omega) (by decide) <| r_cmne at_75_87 (fun h87_4 => ?_) (fun h87_4 => ?_)
        · refine r_aload at_75_90 rfl <| q_arr 14 T at_75_91 (by decide) <| r_push at_75_94 <| r_iload at_75_95 rfl <| r_mulN 2 f at_75_96 rfl rfl <| r_iload at_75_97 rfl <| r_addN (2 * f) s at_75_99 rfl rfl <| q_ald 14 (2 * f + s) T at_75_100 (by decide) rfl (by omega) (by decide) <| r_aload at_75_101 rfl <| q_arr 14 T at_75_102 (by decide) <| r_push at_75_105 <| r_iload at_75_106 rfl <| r_mulN 2 t at_75_107 rfl rfl <| r_iload at_75_108 rfl <| r_addN (2 * t) s at_75_110 rfl rfl <| q_ald 14 (2 * t + s) T at_75_111 (by decide) rfl (by omega) (by decide) <| r_cmne at_75_112 (fun h112_5 => ?_) (fun h112_5 => ?_)
          · refine r_aload at_75_115 rfl <| q_arr 15 T at_75_116 (by decide) <| r_push at_75_119 <| r_iload at_75_120 rfl <| r_mulN 2 f at_75_121 rfl rfl <| r_iload at_75_122 rfl <| r_addN (2 * f) s at_75_124 rfl rfl <| q_ald 15 (2 * f + s) T at_75_125 (by decide) rfl (by omega) (by decide) <| r_aload at_75_126 rfl <| q_arr 15 T at_75_127 (by decide) <| r_push at_75_130 <| r_iload at_75_131 rfl <| r_mulN 2 t at_75_132 rfl rfl <| r_iload at_75_133 rfl <| r_addN (2 * t) s at_75_135 rfl rfl <| q_ald 15 (2 * t + s) T at_75_136 (by decide) rfl (by omega) (by decide) <| r_cmne at_75_137 (fun h137_6 => ?_) (fun h137_6 => ?_)
            · refine r_push at_75_140 <| r_goto at_75_141 <| r_istoreL (ls' := [_, _, _, _, _]) at_75_145 rfl <| r_iincNL (ls' := [_, _, _, _, _]) s at_75_146 rfl rfl <| r_goto at_75_149 <| ?_
              have e : (fr_sb_s μ f t) s z = 1 := by simp only [fr_sb_s, if_neg h62_3, if_pos h87_4, if_pos h112_5, if_pos h137_6]
              rw [e] at hk_s
              exact hk_s
            · refine r_push at_75_144 <| r_istoreL (ls' := [_, _, _, _, _]) at_75_145 rfl <| r_iincNL (ls' := [_, _, _, _, _]) s at_75_146 rfl rfl <| r_goto at_75_149 <| ?_
              have e : (fr_sb_s μ f t) s z = 0 := by simp only [fr_sb_s, if_neg h62_3, if_pos h87_4, if_pos h112_5, if_neg h137_6]
              rw [e] at hk_s
              exact hk_s
          · refine r_push at_75_144 <| r_istoreL (ls' := [_, _, _, _, _]) at_75_145 rfl <| r_iincNL (ls' := [_, _, _, _, _]) s at_75_146 rfl rfl <| r_goto at_75_149 <| ?_
            have e : (fr_sb_s μ f t) s z = 0 := by simp only [fr_sb_s, if_neg h62_3, if_pos h87_4, if_neg h112_5]
            rw [e] at hk_s
            exact hk_s
        · refine r_push at_75_144 <| r_istoreL (ls' := [_, _, _, _, _]) at_75_145 rfl <| r_iincNL (ls' := [_, _, _, _, _]) s at_75_146 rfl rfl <| r_goto at_75_149 <| ?_
          have e : (fr_sb_s μ f t) s z = 0 := by simp only [fr_sb_s, if_neg h62_3, if_neg h87_4]
          rw [e] at hk_s
          exact hk_s
    · generalize hz55 : am_it (fr_sb_s μ f t) 2 y5 = y55
      refine r_iload at_75_55 rfl <| r_push at_75_57 <| r_cmgeNF 2 2 at_75_58 rfl rfl (by omega) (by omega) (by omega) <| ?_
      refine r_iload at_75_152 rfl <| ?_
      refine r_zret at_75_153 (by have h := fr_sb_01 μ f t; unfold fr_sb at h; rw [hz5, hz55] at h; exact h) ?_
      have e : fr_sb μ f t = y55 := by simp only [fr_sb, hz5, hz55]
      rw [e] at hq
      exact hq
def fr_old (μ : am_I) (f t : Nat) : Int32 := if am_rd μ 10 f < am_rd μ 10 t then 1 else if am_rd μ 10 f = am_rd μ 10 t then if am_rd μ 11 f < am_rd μ 11 t then 1 else 0 else 0
def fr_same (μ : am_I) (f t : Nat) : Int32 := if am_rd μ 10 f = am_rd μ 10 t then if am_rd μ 11 f = am_rd μ 11 t then 1 else 0 else 0
theorem q_older {d : Nat} {Q : am_Q} {K : am_K} {sc : am_Sc} {c : am_M} {μ : am_I} {p : am_P} {f t : Nat} (hd : 1 ≤ d) (T : am_TQ K p) (hf : f < 60) (ht : t < 60) (hq : Q (K, sc, c, (μ, p)) (some (.inl (fr_old μ f t)))) : am_call d 76 [.inr (some 163), .inl (nI f), .inl (nI t)] (K, sc, c, (μ, p)) Q := by
  obtain ⟨d, rfl⟩ : ∃ d', d = d' + 1 := ⟨d - 1, by omega⟩
  refine r_enter (by decide) (Nat.le_of_ble_eq_true rfl) (ls := [some (.inr (some 163)), some (.inl (nI f)), some (.inl (nI t))]) rfl ?_
  refine r_aload at_76_0 rfl <| q_arr 10 T at_76_1 (by decide) <| r_iload at_76_4 rfl <| q_ald 10 f T at_76_5 (by decide) rfl (by omega) (by decide) <| r_aload at_76_6 rfl <| q_arr 10 T at_76_7 (by decide) <| r_iload at_76_10 rfl <| q_ald 10 t T at_76_11 (by decide) rfl (by omega) (by decide) <| r_cmlt at_76_12 (fun h12_1 => ?_) (fun h12_1 => ?_)
  · refine r_push at_76_45 <| r_goto at_76_46 <| ?_
    refine r_zret at_76_50 (Or.inr rfl) ?_
    have e : fr_old μ f t = 1 := by simp only [fr_old, if_pos h12_1]
    rw [e] at hq
    exact hq
  · refine r_aload at_76_15 rfl <| q_arr 10 T at_76_16 (by decide) <| r_iload at_76_19 rfl <| q_ald 10 f T at_76_20 (by decide) rfl (by omega) (by decide) <| r_aload at_76_21 rfl <| q_arr 10 T at_76_22 (by decide) <| r_iload at_76_25 rfl <| q_ald 10 t T at_76_26 (by decide) rfl (by omega) (by decide) <| r_cmne at_76_27 (fun h27_2 => ?_) (fun h27_2 => ?_)
    · refine r_aload at_76_30 rfl <| q_arr 11 T at_76_31 (by decide) <| r_iload at_76_34 rfl <| q_ald 11 f T at_76_35 (by decide) rfl (by omega) (by decide) <| r_aload at_76_36 rfl <| q_arr 11 T at_76_37 (by decide) <| r_iload at_76_40 rfl <| q_ald 11 t T at_76_41 (by decide) rfl (by omega) (by decide) <| r_cmge at_76_42 (fun h42_3 => ?_) (fun h42_3 => ?_)
      · refine r_push at_76_45 <| r_goto at_76_46 <| ?_
        refine r_zret at_76_50 (Or.inr rfl) ?_
        have e : fr_old μ f t = 1 := by simp only [fr_old, if_neg h12_1, if_pos h27_2, if_pos h42_3]
        rw [e] at hq
        exact hq
      · refine r_push at_76_49 <| ?_
        refine r_zret at_76_50 (Or.inl rfl) ?_
        have e : fr_old μ f t = 0 := by simp only [fr_old, if_neg h12_1, if_pos h27_2, if_neg h42_3]
        rw [e] at hq
        exact hq
    · refine r_push at_76_49 <| ?_
      refine r_zret at_76_50 (Or.inl rfl) ?_
      have e : fr_old μ f t = 0 := by simp only [fr_old, if_neg h12_1, if_neg h27_2]
      rw [e] at hq
      exact hq
theorem q_same {d : Nat} {Q : am_Q} {K : am_K} {sc : am_Sc} {c : am_M} {μ : am_I} {p : am_P} {f t : Nat} (hd : 1 ≤ d) (T : am_TQ K p) (hf : f < 60) (ht : t < 60) (hq : Q (K, sc, c, (μ, p)) (some (.inl (fr_same μ f t)))) : am_call d 77 [.inr (some 163), .inl (nI f), .inl (nI t)] (K, sc, c, (μ, p)) Q := by
  obtain ⟨d, rfl⟩ : ∃ d', d = d' + 1 := ⟨d - 1, by omega⟩
  refine r_enter (by decide) (Nat.le_of_ble_eq_true rfl) (ls := [some (.inr (some 163)), some (.inl (nI f)), some (.inl (nI t))]) rfl ?_
  refine r_aload at_77_0 rfl <| q_arr 10 T at_77_1 (by decide) <| r_iload at_77_4 rfl <| q_ald 10 f T at_77_5 (by decide) rfl (by omega) (by decide) <| r_aload at_77_6 rfl <| q_arr 10 T at_77_7 (by decide) <| r_iload at_77_10 rfl <| q_ald 10 t T at_77_11 (by decide) rfl (by omega) (by decide) <| r_cmne at_77_12 (fun h12_1 => ?_) (fun h12_1 => ?_)
  · refine r_aload at_77_15 rfl <| q_arr 11 T at_77_16 (by decide) <| r_iload at_77_19 rfl <| q_ald 11 f T at_77_20 (by decide) rfl (by omega) (by decide) <| r_aload at_77_21 rfl <| q_arr 11 T at_77_22 (by decide) <| r_iload at_77_25 rfl <| q_ald 11 t T at_77_26 (by decide) rfl (by omega) (by decide) <| r_cmne at_77_27 (fun h27_2 => ?_) (fun h27_2 => ?_)
    · refine r_push at_77_30 <| r_goto at_77_31 <| ?_
      refine r_zret at_77_35 (Or.inr rfl) ?_
      have e : fr_same μ f t = 1 := by simp only [fr_same, if_pos h12_1, if_pos h27_2]
      rw [e] at hq
      exact hq
    · refine r_push at_77_34 <| ?_
      refine r_zret at_77_35 (Or.inl rfl) ?_
      have e : fr_same μ f t = 0 := by simp only [fr_same, if_pos h12_1, if_neg h27_2]
      rw [e] at hq
      exact hq
  · refine r_push at_77_34 <| ?_
    refine r_zret at_77_35 (Or.inl rfl) ?_
    have e : fr_same μ f t = 0 := by simp only [fr_same, if_neg h12_1]
    rw [e] at hq
    exact hq
def fr_owe (μ : am_I) (k : Nat) (z : Int32) : am_I := am_wr (am_wr μ 19 k (if z = 0 then if am_rd μ 18 k = 0 then -1000 else am_rd μ 19 k else -1000)) 18 k 1
theorem q_owe {d : Nat} {Q : am_Q} {K : am_K} {sc : am_Sc} {c : am_M} {μ : am_I} {p : am_P} {a b x : Nat} {z : Int32} (hd : 1 ≤ d) (T : am_TQ K p) (ha : a < 5) (hb : b < 5) (hx : x < 5) (hq : Q (K, sc, c, (fr_owe μ (5 * (5 * a + b) + x) z, p)) none) : am_call d 78 [.inr (some 163), .inl (nI a), .inl (nI b), .inl (nI x), .inl z] (K, sc, c, (μ, p)) Q := by
  obtain ⟨d, rfl⟩ : ∃ d', d = d' + 1 := ⟨d - 1, by omega⟩
  refine r_enter (by decide) (Nat.le_of_ble_eq_true rfl) (ls := [some (.inr (some 163)), some (.inl (nI a)), some (.inl (nI b)), some (.inl (nI x)), some (.inl z), none]) rfl ?_
  refine r_push at_78_0 <| r_push at_78_1 <| r_iload at_78_2 rfl <| r_mulN 5 a at_78_3 rfl rfl <| r_iload at_78_4 rfl <| r_addN (5 * a) b at_78_5 rfl rfl <| r_mulN 5 (5 * a + b) at_78_6 rfl rfl <| r_iload at_78_7 rfl <| r_addN (5 * (5 * a + b)) x at_78_8 rfl rfl <| r_istoreL (ls' := [_, _, _, _, _, _]) at_78_9 rfl <| r_aload at_78_11 rfl <| q_arr 19 T at_78_12 (by decide) <| r_iload at_78_15 rfl <| r_iload at_78_17 rfl <| r_ifne at_78_19 (fun h19_1 => ?_) (fun h19_1 => ?_)
  · refine r_aload at_78_22 rfl <| q_arr 18 T at_78_23 (by decide) <| r_iload at_78_26 rfl <| q_ald 18 (5 * (5 * a + b) + x) T at_78_28 (by decide) rfl (by omega) (by decide) <| r_ifne at_78_29 (fun h29_2 => ?_) (fun h29_2 => ?_)
    · refine r_push at_78_32 <| r_goto at_78_35 <| q_ast 19 (5 * (5 * a + b) + x) T at_78_45 (by decide) rfl (by omega) (by decide) <| r_aload at_78_46 rfl <| q_arr 18 T at_78_47 (by decide) <| r_iload at_78_50 rfl <| r_push at_78_52 <| q_zast 18 (5 * (5 * a + b) + x) T at_78_53 (by decide) rfl (by omega) (by decide) (Or.inr rfl) <| ?_
      refine r_ret at_78_54 ?_
      have e : fr_owe μ (5 * (5 * a + b) + x) z = am_wr (am_wr μ 19 (5 * (5 * a + b) + x) (-1000)) 18 (5 * (5 * a + b) + x) 1 := by simp only [fr_owe, if_pos h19_1, if_pos h29_2]
      rw [e] at hq
      exact hq
    · refine r_aload at_78_38 rfl <| q_arr 19 T at_78_39 (by decide) <| r_iload at_78_42 rfl <| q_ald 19 (5 * (5 * a + b) + x) T at_78_44 (by decide) rfl (by omega) (by decide) <| q_ast 19 (5 * (5 * a + b) + x) T at_78_45 (by decide) rfl (by omega) (by decide) <| r_aload at_78_46 rfl <| q_arr 18 T at_78_47 (by decide) <| r_iload at_78_50 rfl <| r_push at_78_52 <| q_zast 18 (5 * (5 * a + b) + x) T at_78_53 (by decide) rfl (by omega) (by decide) (Or.inr rfl) <| ?_
      refine r_ret at_78_54 ?_
      have e : fr_owe μ (5 * (5 * a + b) + x) z = am_wr (am_wr μ 19 (5 * (5 * a + b) + x) (am_rd μ 19 (5 * (5 * a + b) + x))) 18 (5 * (5 * a + b) + x) 1 := by simp only [fr_owe, if_pos h19_1, if_neg h29_2]
      rw [e] at hq
      exact hq
  · refine r_push at_78_32 <| r_goto at_78_35 <| q_ast 19 (5 * (5 * a + b) + x) T at_78_45 (by decide) rfl (by omega) (by decide) <| r_aload at_78_46 rfl <| q_arr 18 T at_78_47 (by decide) <| r_iload at_78_50 rfl <| r_push at_78_52 <| q_zast 18 (5 * (5 * a + b) + x) T at_78_53 (by decide) rfl (by omega) (by decide) (Or.inr rfl) <| ?_
    refine r_ret at_78_54 ?_
    have e : fr_owe μ (5 * (5 * a + b) + x) z = am_wr (am_wr μ 19 (5 * (5 * a + b) + x) (-1000)) 18 (5 * (5 * a + b) + x) 1 := by simp only [fr_owe, if_neg h19_1]
    rw [e] at hq
    exact hq
def fr_in_c (r x m n : Nat) (μ : am_I) : am_I := if am_rd μ 6 (5 * r + n) = 0 then μ else if n = m then μ else fr_owe μ (5 * (5 * r + n) + x) 1
def fr_in_b (r x m n : Nat) (μ : am_I) : am_I := fr_in_c r x m n (am_wr μ 18 (5 * (5 * r + n) + x) 0)
def fr_inst (μ : am_I) (r x f m : Nat) : am_I := am_it (fr_in_b r x m) 5 (fr_copy μ f (5 * r + x))
theorem q_install {d : Nat} {Q : am_Q} {K : am_K} {sc : am_Sc} {c : am_M} {μ : am_I} {p : am_P} {r x f m : Nat} (hd : 2 ≤ d) (T : am_TQ K p) (hr : r < 5) (hx : x < 5) (hf : f < 60) (hm : m < 5) (hq : Q (K, sc, c, (fr_inst μ r x f m, p)) none) : am_call d 79 [.inr (some 163), .inl (nI r), .inl (nI x), .inl (nI f), .inl (nI m)] (K, sc, c, (μ, p)) Q := by
  obtain ⟨d, rfl⟩ : ∃ d', d = d' + 1 := ⟨d - 1, by omega⟩
  refine r_enter (by decide) (Nat.le_of_ble_eq_true rfl) (ls := [some (.inr (some 163)), some (.inl (nI r)), some (.inl (nI x)), some (.inl (nI f)), some (.inl (nI m)), none]) rfl ?_
  refine r_aload at_79_0 rfl <| r_iload at_79_1 rfl <| r_push at_79_2 <| r_iload at_79_3 rfl <| r_mulN 5 r at_79_4 rfl rfl <| r_iload at_79_5 rfl <| r_addN (5 * r) x at_79_6 rfl rfl <| r_callV2v at_79_7 (T.me) (Nat.le_of_ble_eq_true rfl) (fun _ hq => q_copy (by omega) T (by omega) (by omega) hq) <| r_push at_79_10 <| r_istoreL (ls' := [_, _, _, _, _, _]) at_79_11 rfl <| ?_
  refine am_for 5 (fun n z => am_w d 79 Q 13 [some (.inr (some 163)), some (.inl (nI r)), some (.inl (nI x)), some (.inl (nI f)), some (.inl (nI m)), some (.inl (nI n))] [] (K, sc, c, (z, p))) (fr_in_b r x m) (fun n hi_n z hk_n => ?_) (fr_copy μ f (5 * r + x)) ?_
  · refine r_iload at_79_13 rfl <| r_push at_79_15 <| r_cmgeNT n 5 at_79_16 rfl rfl (by omega) (by omega) (by omega) <| ?_
    refine r_aload at_79_19 rfl <| q_arr 18 T at_79_20 (by decide) <| r_push at_79_23 <| r_push at_79_24 <| r_iload at_79_25 rfl <| r_mulN 5 r at_79_26 rfl rfl <| r_iload at_79_27 rfl <| r_addN (5 * r) n at_79_29 rfl rfl <| r_mulN 5 (5 * r + n) at_79_30 rfl rfl <| r_iload at_79_31 rfl <| r_addN (5 * (5 * r + n)) x at_79_32 rfl rfl <| r_push at_79_33 <| q_zast 18 (5 * (5 * r + n) + x) T at_79_34 (by decide) rfl (by omega) (by decide) (Or.inl rfl) <| r_aload at_79_35 rfl <| q_arr 6 T at_79_36 (by decide) <| r_push at_79_39 <| r_iload at_79_40 rfl <| r_mulN 5 r at_79_41 rfl rfl <| r_iload at_79_42 rfl <| r_addN (5 * r) n at_79_44 rfl rfl <| q_ald 6 (5 * r + n) T at_79_45 (by decide) rfl (by omega) (by decide) <| r_ifeq at_79_46 (fun h46_1 => ?_) (fun h46_1 => ?_)
    · refine r_iincNL (ls' := [_, _, _, _, _, _]) n at_79_65 rfl rfl <| r_goto at_79_68 <| ?_
      have e : (fr_in_b r x m) n z = am_wr z 18 (5 * (5 * r + n) + x) 0 := by simp only [fr_in_b, fr_in_c, if_pos h46_1]
      rw [e] at hk_n
      exact hk_n
    · refine r_iload at_79_49 rfl <| r_iload at_79_51 rfl <| r_cmeqN n m at_79_53 rfl rfl (by omega) (by omega) (fun h53_2 => ?_) (fun h53_2 => ?_)
      · refine r_iincNL (ls' := [_, _, _, _, _, _]) n at_79_65 rfl rfl <| r_goto at_79_68 <| ?_
        have e : (fr_in_b r x m) n z = am_wr z 18 (5 * (5 * r + n) + x) 0 := by simp only [fr_in_b, fr_in_c, if_neg h46_1, if_pos h53_2]
        rw [e] at hk_n
        exact hk_n
      · refine r_aload at_79_56 rfl <| r_iload at_79_57 rfl <| r_iload at_79_58 rfl <| r_iload at_79_60 rfl <| r_push at_79_61 <| r_callV4v at_79_62 (T.me) (Nat.le_of_ble_eq_true rfl) (fun _ hq => q_owe (by omega) T (by omega) (by omega) (by omega) hq) <| r_iincNL (ls' := [_, _, _, _, _, _]) n at_79_65 rfl rfl <| r_goto at_79_68 <| ?_
        have e : (fr_in_b r x m) n z = fr_owe (am_wr z 18 (5 * (5 * r + n) + x) 0) (5 * (5 * r + n) + x) 1 := by simp only [fr_in_b, fr_in_c, if_neg h46_1, if_neg h53_2]
        rw [e] at hk_n
        exact hk_n
  · generalize hz13 : am_it (fr_in_b r x m) 5 (fr_copy μ f (5 * r + x)) = y13
    refine r_iload at_79_13 rfl <| r_push at_79_15 <| r_cmgeNF 5 5 at_79_16 rfl rfl (by omega) (by omega) (by omega) <| ?_
    refine r_ret at_79_71 ?_
    have e : fr_inst μ r x f m = y13 := by simp only [fr_inst, hz13]
    rw [e] at hq
    exact hq
def fr_ov4 (μ : am_I) (l : Int32) : am_I := am_wr μ 9 4 (if l = 0 then am_rd μ 9 4 else am_rd μ 9 4 + 1)
def fr_ov1 (μ : am_I) (m n : Nat) : am_I × Int32 := if 0 < am_rd μ 2 (5 * m + n) then (fr_ov4 (am_wr μ 2 (5 * m + n) (am_rd μ 2 (5 * m + n) - 1)) 1, 0) else if am_rd μ 0 n = 0 then (fr_ov4 (am_wr μ 2 (5 * m + n) 0) 0, 1) else (fr_ov4 (am_wr μ 2 (5 * m + n) 0) 1, 0)
def fr_over (μ : am_I) (m n k : Nat) : am_I × Int32 := fr_ov1 (am_wr μ 9 k (am_rd μ 9 k + 1)) m n
theorem q_over {d : Nat} {Q : am_Q} {K : am_K} {sc : am_Sc} {c : am_M} {μ : am_I} {p : am_P} {m n k : Nat} (hd : 1 ≤ d) (T : am_TQ K p) (hm : m < 5) (hn : n < 5) (hk : k < 7) (hq : Q (K, sc, c, ((fr_over μ m n k).1, p)) (some (.inl ((fr_over μ m n k).2)))) : am_call d 80 [.inr (some 163), .inl (nI m), .inl (nI n), .inl (nI k)] (K, sc, c, (μ, p)) Q := by
  obtain ⟨d, rfl⟩ : ∃ d', d = d' + 1 := ⟨d - 1, by omega⟩
  refine r_enter (by decide) (Nat.le_of_ble_eq_true rfl) (ls := [some (.inr (some 163)), some (.inl (nI m)), some (.inl (nI n)), some (.inl (nI k)), none]) rfl ?_
  refine r_aload at_80_0 rfl <| q_arr 9 T at_80_1 (by decide) <| r_iload at_80_4 rfl <| r_aload at_80_5 rfl <| q_arr 9 T at_80_6 (by decide) <| r_iload at_80_9 rfl <| q_ald 9 k T at_80_10 (by decide) rfl (by omega) (by decide) <| r_push at_80_11 <| r_bin at_80_12 <| q_ast 9 k T at_80_13 (by decide) rfl (by omega) (by decide) <| r_aload at_80_14 rfl <| q_arr 2 T at_80_15 (by decide) <| r_push at_80_18 <| r_iload at_80_19 rfl <| r_mulN 5 m at_80_20 rfl rfl <| r_iload at_80_21 rfl <| r_addN (5 * m) n at_80_22 rfl rfl <| q_ald 2 (5 * m + n) T at_80_23 (by decide) rfl (by omega) (by decide) <| r_ifgt at_80_24 (fun h24_1 => ?_) (fun h24_1 => ?_)
  · refine r_push at_80_36 <| r_goto at_80_37 <| r_istoreL (ls' := [_, _, _, _, _]) at_80_41 rfl <| r_aload at_80_43 rfl <| q_arr 2 T at_80_44 (by decide) <| r_push at_80_47 <| r_iload at_80_48 rfl <| r_mulN 5 m at_80_49 rfl rfl <| r_iload at_80_50 rfl <| r_addN (5 * m) n at_80_51 rfl rfl <| r_aload at_80_52 rfl <| q_arr 2 T at_80_53 (by decide) <| r_push at_80_56 <| r_iload at_80_57 rfl <| r_mulN 5 m at_80_58 rfl rfl <| r_iload at_80_59 rfl <| r_addN (5 * m) n at_80_60 rfl rfl <| q_ald 2 (5 * m + n) T at_80_61 (by decide) rfl (by omega) (by decide) <| r_ifleT at_80_62 h24_1 <| r_aload at_80_65 rfl <| q_arr 2 T at_80_66 (by decide) <| r_push at_80_69 <| r_iload at_80_70 rfl <| r_mulN 5 m at_80_71 rfl rfl <| r_iload at_80_72 rfl <| r_addN (5 * m) n at_80_73 rfl rfl <| q_ald 2 (5 * m + n) T at_80_74 (by decide) rfl (by omega) (by decide) <| r_push at_80_75 <| r_bin at_80_76 <| r_goto at_80_77 <| q_ast 2 (5 * m + n) T at_80_81 (by decide) rfl (by omega) (by decide) <| r_aload at_80_82 rfl <| q_arr 9 T at_80_83 (by decide) <| r_push at_80_86 <| r_iload at_80_87 rfl <| r_ifeqF at_80_89 (by decide) <| r_aload at_80_92 rfl <| q_arr 9 T at_80_93 (by decide) <| r_push at_80_96 <| q_ald 9 4 T at_80_97 (by decide) rfl (by omega) (by decide) <| r_push at_80_98 <| r_bin at_80_99 <| r_goto at_80_100 <| q_ast 9 4 T at_80_109 (by decide) rfl (by omega) (by decide) <| r_iload at_80_110 rfl <| r_ifneF at_80_112 (by decide) <| r_push at_80_119 <| ?_
    refine r_zret at_80_120 (Or.inl rfl) ?_
    have e : fr_over μ m n k = (am_wr (am_wr (am_wr μ 9 k ((am_rd μ 9 k) + 1)) 2 (5 * m + n) ((am_rd (am_wr μ 9 k ((am_rd μ 9 k) + 1)) 2 (5 * m + n)) - 1)) 9 4 ((am_rd (am_wr (am_wr μ 9 k ((am_rd μ 9 k) + 1)) 2 (5 * m + n) ((am_rd (am_wr μ 9 k ((am_rd μ 9 k) + 1)) 2 (5 * m + n)) - 1)) 9 4) + 1), 0) := by simp only [fr_over, fr_ov1, fr_ov4, if_pos h24_1, if_true, if_neg (show ¬ (1 : Int32) = 0 by decide)]
    rw [e] at hq
    dsimp only at hq
    exact hq
  · refine r_aload at_80_27 rfl <| q_arr 0 T at_80_28 (by decide) <| r_iload at_80_31 rfl <| q_ald 0 n T at_80_32 (by decide) rfl (by omega) (by decide) <| r_ifeq at_80_33 (fun h33_2 => ?_) (fun h33_2 => ?_)
    · refine r_push at_80_40 <| r_istoreL (ls' := [_, _, _, _, _]) at_80_41 rfl <| r_aload at_80_43 rfl <| q_arr 2 T at_80_44 (by decide) <| r_push at_80_47 <| r_iload at_80_48 rfl <| r_mulN 5 m at_80_49 rfl rfl <| r_iload at_80_50 rfl <| r_addN (5 * m) n at_80_51 rfl rfl <| r_aload at_80_52 rfl <| q_arr 2 T at_80_53 (by decide) <| r_push at_80_56 <| r_iload at_80_57 rfl <| r_mulN 5 m at_80_58 rfl rfl <| r_iload at_80_59 rfl <| r_addN (5 * m) n at_80_60 rfl rfl <| q_ald 2 (5 * m + n) T at_80_61 (by decide) rfl (by omega) (by decide) <| r_ifleF at_80_62 h24_1 <| r_push at_80_80 <| q_ast 2 (5 * m + n) T at_80_81 (by decide) rfl (by omega) (by decide) <| r_aload at_80_82 rfl <| q_arr 9 T at_80_83 (by decide) <| r_push at_80_86 <| r_iload at_80_87 rfl <| r_ifeqT at_80_89 (by decide) <| r_aload at_80_103 rfl <| q_arr 9 T at_80_104 (by decide) <| r_push at_80_107 <| q_ald 9 4 T at_80_108 (by decide) rfl (by omega) (by decide) <| q_ast 9 4 T at_80_109 (by decide) rfl (by omega) (by decide) <| r_iload at_80_110 rfl <| r_ifneT at_80_112 (by decide) <| r_push at_80_115 <| r_goto at_80_116 <| ?_
      refine r_zret at_80_120 (Or.inr rfl) ?_
      have e : fr_over μ m n k = (am_wr (am_wr (am_wr μ 9 k ((am_rd μ 9 k) + 1)) 2 (5 * m + n) 0) 9 4 (am_rd (am_wr (am_wr μ 9 k ((am_rd μ 9 k) + 1)) 2 (5 * m + n) 0) 9 4), 1) := by simp only [fr_over, fr_ov1, fr_ov4, if_neg h24_1, if_pos h33_2, if_true, if_neg (show ¬ (1 : Int32) = 0 by decide)]
      rw [e] at hq
      dsimp only at hq
      exact hq
    · refine r_push at_80_36 <| r_goto at_80_37 <| r_istoreL (ls' := [_, _, _, _, _]) at_80_41 rfl <| r_aload at_80_43 rfl <| q_arr 2 T at_80_44 (by decide) <| r_push at_80_47 <| r_iload at_80_48 rfl <| r_mulN 5 m at_80_49 rfl rfl <| r_iload at_80_50 rfl <| r_addN (5 * m) n at_80_51 rfl rfl <| r_aload at_80_52 rfl <| q_arr 2 T at_80_53 (by decide) <| r_push at_80_56 <| r_iload at_80_57 rfl <| r_mulN 5 m at_80_58 rfl rfl <| r_iload at_80_59 rfl <| r_addN (5 * m) n at_80_60 rfl rfl <| q_ald 2 (5 * m + n) T at_80_61 (by decide) rfl (by omega) (by decide) <| r_ifleF at_80_62 h24_1 <| r_push at_80_80 <| q_ast 2 (5 * m + n) T at_80_81 (by decide) rfl (by omega) (by decide) <| r_aload at_80_82 rfl <| q_arr 9 T at_80_83 (by decide) <| r_push at_80_86 <| r_iload at_80_87 rfl <| r_ifeqF at_80_89 (by decide) <| r_aload at_80_92 rfl <| q_arr 9 T at_80_93 (by decide) <| r_push at_80_96 <| q_ald 9 4 T at_80_97 (by decide) rfl (by omega) (by decide) <| r_push at_80_98 <| r_bin at_80_99 <| r_goto at_80_100 <| q_ast 9 4 T at_80_109 (by decide) rfl (by omega) (by decide) <| r_iload at_80_110 rfl <| r_ifneF at_80_112 (by decide) <| r_push at_80_119 <| ?_
      refine r_zret at_80_120 (Or.inl rfl) ?_
      have e : fr_over μ m n k = (am_wr (am_wr (am_wr μ 9 k ((am_rd μ 9 k) + 1)) 2 (5 * m + n) 0) 9 4 ((am_rd (am_wr (am_wr μ 9 k ((am_rd μ 9 k) + 1)) 2 (5 * m + n) 0) 9 4) + 1), 0) := by simp only [fr_over, fr_ov1, fr_ov4, if_neg h24_1, if_neg h33_2, if_true, if_neg (show ¬ (1 : Int32) = 0 by decide)]
      rw [e] at hq
      dsimp only at hq
      exact hq

def fc_ison (γ : am_I) (x : Int32) : Int32 := if fr_rtr x = 0 then 0 else if γ 301 (3 + 14 * x.toNatClampNeg) 0 = 0 then 0 else 1
def fc_isl (γ : am_I) (x y : Int32) : Int32 := if fr_rtr x = 0 then 0 else if fr_rtr y = 0 then 0 else if γ 700 (7 + 14 * x.toNatClampNeg + 2 * y.toNatClampNeg) 0 = 0 then 0 else 1
theorem fc_ison_of {γ : am_I} {x : Int32} (h : ¬ fc_ison γ x = 0) : ∃ a, a < 5 ∧ x = nI a ∧ ¬ γ 301 (3 + 14 * a) 0 = 0 := by
  unfold fc_ison at h
  by_cases h1 : fr_rtr x = 0
  · rw [if_pos h1] at h; exact absurd rfl h
  rw [if_neg h1] at h
  obtain ⟨a, ha, rfl⟩ := fr_rtr_of h1
  rw [nI_clamp (by omega)] at h
  by_cases h3 : γ 301 (3 + 14 * a) 0 = 0
  · rw [if_pos h3] at h; exact absurd rfl h
  · exact ⟨a, ha, rfl, h3⟩
theorem fc_isl_of {γ : am_I} {x y : Int32} (h : ¬ fc_isl γ x y = 0) : ∃ a b, a < 5 ∧ b < 5 ∧ x = nI a ∧ y = nI b ∧ ¬ γ 700 (7 + 14 * a + 2 * b) 0 = 0 := by
  unfold fc_isl at h
  by_cases h1 : fr_rtr x = 0
  · rw [if_pos h1] at h; exact absurd rfl h
  by_cases h2 : fr_rtr y = 0
  · rw [if_neg h1, if_pos h2] at h; exact absurd rfl h
  rw [if_neg h1, if_neg h2] at h
  obtain ⟨a, ha, rfl⟩ := fr_rtr_of h1
  obtain ⟨b, hb, rfl⟩ := fr_rtr_of h2
  rw [nI_clamp (by omega), nI_clamp (by omega)] at h
  by_cases h3 : γ 700 (7 + 14 * a + 2 * b) 0 = 0
  · rw [if_pos h3] at h; exact absurd rfl h
  · exact ⟨a, b, ha, hb, rfl, rfl, h3⟩
def fc_ct (γ : am_I) (i : Nat) (v : Int32) : am_I := am_u γ 1800 162 i (γ 1800 162 i + v)
def fc_arr (γ : am_I) (p n : Nat) : am_I × Int32 := if 0 < γ 701 (7 + 14 * p + 2 * n) 0 then (fc_ct (am_u γ 701 (7 + 14 * p + 2 * n) 0 (γ 701 (7 + 14 * p + 2 * n) 0 - 1)) 4 1, 0) else if γ 301 (3 + 14 * n) 0 = 0 then (fc_ct γ 4 1, 0) else (γ, 1)
def fc_nei (γ : am_I) (x y : Int32) : Int32 := if fc_isl γ x y = 0 then -1 else if γ 706 (7 + 14 * x.toNatClampNeg + 2 * y.toNatClampNeg) 0 = 0 then if γ 702 (7 + 14 * x.toNatClampNeg + 2 * y.toNatClampNeg) 0 = 0 then 0 else 1 else 2
def fc_link (γ : am_I) (x y z : Int32) : am_I × Int32 := if fr_rtr x = 0 then (γ, 0) else if fr_rtr y = 0 then (γ, 0) else if x = y then (γ, 0) else if z < 0 then (γ, 0) else if 9 < z then (γ, 0) else if γ 700 (7 + 14 * x.toNatClampNeg + 2 * y.toNatClampNeg) 0 = z then (γ, 0) else (fc_sc (fc_sc γ x.toNatClampNeg y.toNatClampNeg z) y.toNatClampNeg x.toNatClampNeg z, 1)
def fc_lose (γ : am_I) (x y z : Int32) : am_I × Int32 := if fc_isl γ x y = 0 then (γ, 0) else if z < 0 then (γ, 0) else if 9 < z then (γ, 0) else (am_u γ 701 (7 + 14 * x.toNatClampNeg + 2 * y.toNatClampNeg) 0 z, 1)
def fc_pw2 (γ : am_I) (π : am_P) (a : Nat) (o : Int32) : am_I × am_P := if o = 0 then fc_fa (am_u γ 301 (3 + 14 * a) 0 o) π a else (am_u γ 301 (3 + 14 * a) 0 o, π)
def fc_power (γ : am_I) (π : am_P) (x o : Int32) : (am_I × am_P) × Int32 := if fr_rtr x = 0 then ((γ, π), 0) else if γ 301 (3 + 14 * x.toNatClampNeg) 0 = o then ((γ, π), 0) else (fc_pw2 γ π x.toNatClampNeg o, 1)
def fc_owd_x (γ : am_I) (a b x : Nat) (v : Int32) : Int32 := if γ 800 (8 + 14 * a + 2 * b) x = -2 then v else v + 1
def fc_owd (γ : am_I) (x y : Int32) : Int32 := if fc_isl γ x y = 0 then -1 else am_it (fc_owd_x γ x.toNatClampNeg y.toNatClampNeg) 5 0
def fc_cnt (γ : am_I) (x : Int32) : Int32 := if x < 0 then -1 else if x < 7 then γ 1800 162 x.toNatClampNeg else -1
def fc_num (γ : am_I) (π : am_P) (x y : Int32) : Int32 := if fr_rtr x = 0 then -1 else if fr_rtr y = 0 then -1 else (π 500 (5 + 14 * x.toNatClampNeg) y.toNatClampNeg).elim 0 (fun e => γ 1901 e 0)
def fc_age (γ : am_I) (π : am_P) (x y : Int32) : Int32 := if fr_rtr x = 0 then -1 else if fr_rtr y = 0 then -1 else (π 500 (5 + 14 * x.toNatClampNeg) y.toNatClampNeg).elim (-1) (fun e => γ 104 1 0 - γ 1902 e 0)
def fc_lis (γ : am_I) (π : am_P) (x y z : Int32) : Int32 := if fr_rtr x = 0 then -1 else if fr_rtr y = 0 then -1 else if fr_rtr z = 0 then -1 else (π 500 (5 + 14 * x.toNatClampNeg) y.toNatClampNeg).elim (-1) (fun e => γ 2000 (e + 1) z.toNatClampNeg)
def am_HD (K : am_K) (π : am_P) : Prop := ∀ r, r < 5 → ∀ x, x < 5 → ∀ e, π 500 (5 + 14 * r) x = some e → am_De K π e
theorem c_isOn {d : Nat} {Q : am_Q} {K : am_K} {sc : am_Sc} {γ : am_I} {π : am_P} {m : am_M} {x : Int32} (hd : 2 ≤ d) (T : am_TC K π)  (hq : Q (K, sc, (γ, π), m) (some (.inl (fc_ison γ x)))) : am_call d 51 [.inr (some 1), .inl x] (K, sc, (γ, π), m) Q := by
  obtain ⟨d, rfl⟩ : ∃ d', d = d' + 1 := ⟨d - 1, by omega⟩
  refine r_enter (by decide) (Nat.le_of_ble_eq_true rfl) (ls := [some (.inr (some 1)), some (.inl x)]) rfl ?_
  refine r_iload at_51_0 rfl <| r_callS1i at_51_1 (Nat.le_of_ble_eq_true rfl) (fun _ hq => q_isRouter (by omega) hq) <| r_ifeq at_51_4 (fun h4_1 => ?_) (fun h4_1 => ?_)
  · refine r_push at_51_23 <| ?_
    refine r_zret at_51_24 (Or.inl rfl) ?_
    have e : fc_ison γ x = 0 := by simp only [fc_ison, if_pos h4_1]
    rw [e] at hq
    exact hq
  · obtain ⟨a, ha, rfl⟩ := fr_rtr_of h4_1
    refine r_aload at_51_7 rfl <| c_getP 100 at_51_8 rfl (by decide) (T.lNet) T.2.1.1 <| r_iload at_51_11 rfl <| c_aald 200 a at_51_12 rfl (by decide) (T.lRs) rfl (by omega) (by decide) ((T.2.2.1 a (by omega)).1) <| c_getI 301 at_51_13 rfl (by decide) (T.lR (r := a) (by omega)) <| r_ifeq at_51_16 (fun h16_2 => ?_) (fun h16_2 => ?_)
    · refine r_push at_51_23 <| ?_
      refine r_zret at_51_24 (Or.inl rfl) ?_
      have e : fc_ison γ (nI a) = 0 := by simp only [fc_ison, if_neg h4_1, if_pos h16_2, nI_clamp (show a < 2 ^ 31 by omega)]
      rw [e] at hq
      exact hq
    · refine r_push at_51_19 <| r_goto at_51_20 <| ?_
      refine r_zret at_51_24 (Or.inr rfl) ?_
      have e : fc_ison γ (nI a) = 1 := by simp only [fc_ison, if_neg h4_1, if_neg h16_2, nI_clamp (show a < 2 ^ 31 by omega)]
      rw [e] at hq
      exact hq
theorem c_isLink {d : Nat} {Q : am_Q} {K : am_K} {sc : am_Sc} {γ : am_I} {π : am_P} {m : am_M} {x y : Int32} (hd : 2 ≤ d) (T : am_TC K π)  (hq : Q (K, sc, (γ, π), m) (some (.inl (fc_isl γ x y)))) : am_call d 52 [.inr (some 1), .inl x, .inl y] (K, sc, (γ, π), m) Q := by
  obtain ⟨d, rfl⟩ : ∃ d', d = d' + 1 := ⟨d - 1, by omega⟩
  refine r_enter (by decide) (Nat.le_of_ble_eq_true rfl) (ls := [some (.inr (some 1)), some (.inl x), some (.inl y)]) rfl ?_
  refine r_iload at_52_0 rfl <| r_callS1i at_52_1 (Nat.le_of_ble_eq_true rfl) (fun _ hq => q_isRouter (by omega) hq) <| r_ifeq at_52_4 (fun h4_1 => ?_) (fun h4_1 => ?_)
  · refine r_push at_52_35 <| ?_
    refine r_zret at_52_36 (Or.inl rfl) ?_
    have e : fc_isl γ x y = 0 := by simp only [fc_isl, if_pos h4_1]
    rw [e] at hq
    exact hq
  · refine r_iload at_52_7 rfl <| r_callS1i at_52_8 (Nat.le_of_ble_eq_true rfl) (fun _ hq => q_isRouter (by omega) hq) <| r_ifeq at_52_11 (fun h11_2 => ?_) (fun h11_2 => ?_)
    · refine r_push at_52_35 <| ?_
      refine r_zret at_52_36 (Or.inl rfl) ?_
      have e : fc_isl γ x y = 0 := by simp only [fc_isl, if_neg h4_1, if_pos h11_2]
      rw [e] at hq
      exact hq
    · obtain ⟨a, ha, rfl⟩ := fr_rtr_of h4_1
      obtain ⟨b, hb, rfl⟩ := fr_rtr_of h11_2
      refine r_aload at_52_14 rfl <| c_getP 100 at_52_15 rfl (by decide) (T.lNet) T.2.1.1 <| r_iload at_52_18 rfl <| c_aald 200 a at_52_19 rfl (by decide) (T.lRs) rfl (by omega) (by decide) ((T.2.2.1 a (by omega)).1) <| c_getP 307 at_52_20 rfl (by decide) (T.lR (r := a) (by omega)) ((T.2.2.1 a (by omega)).2.2.2) <| r_iload at_52_23 rfl <| c_aald 600 b at_52_24 rfl (by decide) (T.lEs (r := a) (by omega)) rfl (by omega) (by decide) ((T.2.2.2.1 a (by omega) b (by omega)).1) <| c_getI 700 at_52_25 rfl (by decide) (T.lE (r := a) (n := b) (by omega) (by omega)) <| r_ifeq at_52_28 (fun h28_3 => ?_) (fun h28_3 => ?_)
      · refine r_push at_52_35 <| ?_
        refine r_zret at_52_36 (Or.inl rfl) ?_
        have e : fc_isl γ (nI a) (nI b) = 0 := by simp only [fc_isl, if_neg h4_1, if_neg h11_2, if_pos h28_3, nI_clamp (show a < 2 ^ 31 by omega), nI_clamp (show b < 2 ^ 31 by omega)]
        rw [e] at hq
        exact hq
      · refine r_push at_52_31 <| r_goto at_52_32 <| ?_
        refine r_zret at_52_36 (Or.inr rfl) ?_
        have e : fc_isl γ (nI a) (nI b) = 1 := by simp only [fc_isl, if_neg h4_1, if_neg h11_2, if_neg h28_3, nI_clamp (show a < 2 ^ 31 by omega), nI_clamp (show b < 2 ^ 31 by omega)]
        rw [e] at hq
        exact hq
theorem c_arrives {d : Nat} {Q : am_Q} {K : am_K} {sc : am_Sc} {γ : am_I} {π : am_P} {m : am_M} {q n : Nat} (hd : 1 ≤ d) (T : am_TC K π) (hq5 : q < 5) (hn : n < 5) (hq : Q (K, sc, ((fc_arr γ q n).1, π), m) (some (.inl ((fc_arr γ q n).2)))) : am_call d 54 [.inr (some 1), .inl (nI q), .inl (nI n)] (K, sc, (γ, π), m) Q := by
  obtain ⟨d, rfl⟩ : ∃ d', d = d' + 1 := ⟨d - 1, by omega⟩
  refine r_enter (by decide) (Nat.le_of_ble_eq_true rfl) (ls := [some (.inr (some 1)), some (.inl (nI q)), some (.inl (nI n)), none]) rfl ?_
  refine r_aload at_54_0 rfl <| c_getP 100 at_54_1 rfl (by decide) (T.lNet) T.2.1.1 <| r_iload at_54_4 rfl <| c_aald 200 q at_54_5 rfl (by decide) (T.lRs) rfl (by omega) (by decide) ((T.2.2.1 q (by omega)).1) <| c_getP 307 at_54_6 rfl (by decide) (T.lR (r := q) (by omega)) ((T.2.2.1 q (by omega)).2.2.2) <| r_iload at_54_9 rfl <| c_aald 600 n at_54_10 rfl (by decide) (T.lEs (r := q) (by omega)) rfl (by omega) (by decide) ((T.2.2.2.1 q (by omega) n (by omega)).1) <| r_astoreL (ls' := [_, _, _, _]) at_54_11 rfl <| r_aload at_54_12 rfl <| c_getI 701 at_54_13 rfl (by decide) (T.lE (r := q) (n := n) (by omega) (by omega)) <| r_ifle at_54_16 (fun h16_1 => ?_) (fun h16_1 => ?_)
  · refine r_aload at_54_19 rfl <| r_dup at_54_20 <| c_getI 701 at_54_21 rfl (by decide) (T.lE (r := q) (n := n) (by omega) (by omega)) <| r_push at_54_24 <| r_bin at_54_25 <| c_putI 701 at_54_26 rfl (by decide) (T.lE (r := q) (n := n) (by omega) (by omega)) <| r_aload at_54_29 rfl <| c_getP 103 at_54_30 rfl (by decide) (T.lNet) T.2.1.2.2.2 <| r_push at_54_33 <| r_dup2 at_54_34 <| c_ald 1800 4 at_54_35 rfl (by decide) (T.lCn) rfl (by omega) (by decide) <| r_push at_54_36 <| r_bin at_54_37 <| c_ast 1800 4 at_54_38 rfl (by decide) (T.lCn) rfl (by omega) (by decide) <| r_push at_54_39 <| ?_
    refine r_zret at_54_40 (Or.inl rfl) ?_
    have e : fc_arr γ q n = (am_u (am_u γ 701 (7 + 14 * q + 2 * n) 0 ((γ 701 (7 + 14 * q + 2 * n) 0) - 1)) 1800 162 4 (((am_u γ 701 (7 + 14 * q + 2 * n) 0 ((γ 701 (7 + 14 * q + 2 * n) 0) - 1)) 1800 162 4) + 1), 0) := by simp only [fc_arr, fc_ct, if_pos h16_1]
    rw [e] at hq
    dsimp only at hq
    exact hq
  · refine r_aload at_54_41 rfl <| c_getP 100 at_54_42 rfl (by decide) (T.lNet) T.2.1.1 <| r_iload at_54_45 rfl <| c_aald 200 n at_54_46 rfl (by decide) (T.lRs) rfl (by omega) (by decide) ((T.2.2.1 n (by omega)).1) <| c_getI 301 at_54_47 rfl (by decide) (T.lR (r := n) (by omega)) <| r_ifne at_54_50 (fun h50_2 => ?_) (fun h50_2 => ?_)
    · refine r_aload at_54_53 rfl <| c_getP 103 at_54_54 rfl (by decide) (T.lNet) T.2.1.2.2.2 <| r_push at_54_57 <| r_dup2 at_54_58 <| c_ald 1800 4 at_54_59 rfl (by decide) (T.lCn) rfl (by omega) (by decide) <| r_push at_54_60 <| r_bin at_54_61 <| c_ast 1800 4 at_54_62 rfl (by decide) (T.lCn) rfl (by omega) (by decide) <| r_push at_54_63 <| ?_
      refine r_zret at_54_64 (Or.inl rfl) ?_
      have e : fc_arr γ q n = (am_u γ 1800 162 4 ((γ 1800 162 4) + 1), 0) := by simp only [fc_arr, fc_ct, if_neg h16_1, if_pos h50_2]
      rw [e] at hq
      dsimp only at hq
      exact hq
    · refine r_push at_54_65 <| ?_
      refine r_zret at_54_66 (Or.inr rfl) ?_
      have e : fc_arr γ q n = (γ, 1) := by simp only [fc_arr, fc_ct, if_neg h16_1, if_neg h50_2]
      rw [e] at hq
      dsimp only at hq
      exact hq
theorem c_neighbour {d : Nat} {Q : am_Q} {K : am_K} {sc : am_Sc} {γ : am_I} {π : am_P} {m : am_M} {x y : Int32} (hd : 3 ≤ d) (T : am_TC K π)  (hq : Q (K, sc, (γ, π), m) (some (.inl (fc_nei γ x y)))) : am_call d 38 [.inr (some 1), .inl x, .inl y] (K, sc, (γ, π), m) Q := by
  obtain ⟨d, rfl⟩ : ∃ d', d = d' + 1 := ⟨d - 1, by omega⟩
  refine r_enter (by decide) (Nat.le_of_ble_eq_true rfl) (ls := [some (.inr (some 1)), some (.inl x), some (.inl y), none]) rfl ?_
  refine r_aload at_38_0 rfl <| r_iload at_38_1 rfl <| r_iload at_38_2 rfl <| r_callV2i at_38_3 (T.lNet) (Nat.le_of_ble_eq_true rfl) (fun _ hq => c_isLink (by omega) T hq) <| r_ifne at_38_6 (fun h6_1 => ?_) (fun h6_1 => ?_)
  · refine r_push at_38_9 <| ?_
    refine r_iret at_38_10 ?_
    have e : fc_nei γ x y = (-1) := by simp only [fc_nei, if_pos h6_1]
    rw [e] at hq
    exact hq
  · obtain ⟨a, b, ha, hb, rfl, rfl, hab⟩ := fc_isl_of h6_1
    refine r_aload at_38_11 rfl <| c_getP 100 at_38_12 rfl (by decide) (T.lNet) T.2.1.1 <| r_iload at_38_15 rfl <| c_aald 200 a at_38_16 rfl (by decide) (T.lRs) rfl (by omega) (by decide) ((T.2.2.1 a (by omega)).1) <| c_getP 307 at_38_17 rfl (by decide) (T.lR (r := a) (by omega)) ((T.2.2.1 a (by omega)).2.2.2) <| r_iload at_38_20 rfl <| c_aald 600 b at_38_21 rfl (by decide) (T.lEs (r := a) (by omega)) rfl (by omega) (by decide) ((T.2.2.2.1 a (by omega) b (by omega)).1) <| r_astoreL (ls' := [_, _, _, _]) at_38_22 rfl <| r_aload at_38_23 rfl <| c_getI 706 at_38_24 rfl (by decide) (T.lE (r := a) (n := b) (by omega) (by omega)) <| r_ifeq at_38_27 (fun h27_2 => ?_) (fun h27_2 => ?_)
    · refine r_aload at_38_32 rfl <| c_getI 702 at_38_33 rfl (by decide) (T.lE (r := a) (n := b) (by omega) (by omega)) <| r_ifeq at_38_36 (fun h36_3 => ?_) (fun h36_3 => ?_)
      · refine r_push at_38_43 <| ?_
        refine r_iret at_38_44 ?_
        have e : fc_nei γ (nI a) (nI b) = 0 := by simp only [fc_nei, if_neg h6_1, if_pos h27_2, if_pos h36_3, nI_clamp (show a < 2 ^ 31 by omega), nI_clamp (show b < 2 ^ 31 by omega)]
        rw [e] at hq
        exact hq
      · refine r_push at_38_39 <| r_goto at_38_40 <| ?_
        refine r_iret at_38_44 ?_
        have e : fc_nei γ (nI a) (nI b) = 1 := by simp only [fc_nei, if_neg h6_1, if_pos h27_2, if_neg h36_3, nI_clamp (show a < 2 ^ 31 by omega), nI_clamp (show b < 2 ^ 31 by omega)]
        rw [e] at hq
        exact hq
    · refine r_push at_38_30 <| ?_
      refine r_iret at_38_31 ?_
      have e : fc_nei γ (nI a) (nI b) = 2 := by simp only [fc_nei, if_neg h6_1, if_neg h27_2, nI_clamp (show a < 2 ^ 31 by omega), nI_clamp (show b < 2 ^ 31 by omega)]
      rw [e] at hq
      exact hq
theorem c_link {d : Nat} {Q : am_Q} {K : am_K} {sc : am_Sc} {γ : am_I} {π : am_P} {m : am_M} {x y z : Int32} (hd : 4 ≤ d) (T : am_TC K π)  (hq : Q (K, sc, ((fc_link γ x y z).1, π), m) (some (.inl ((fc_link γ x y z).2)))) : am_call d 33 [.inr (some 1), .inl x, .inl y, .inl z] (K, sc, (γ, π), m) Q := by
  obtain ⟨d, rfl⟩ : ∃ d', d = d' + 1 := ⟨d - 1, by omega⟩
  refine r_enter (by decide) (Nat.le_of_ble_eq_true rfl) (ls := [some (.inr (some 1)), some (.inl x), some (.inl y), some (.inl z)]) rfl ?_
  refine r_iload at_33_0 rfl <| r_callS1i at_33_1 (Nat.le_of_ble_eq_true rfl) (fun _ hq => q_isRouter (by omega) hq) <| r_ifeq at_33_4 (fun h4_1 => ?_) (fun h4_1 => ?_)
  · refine r_push at_33_29 <| ?_
    refine r_zret at_33_30 (Or.inl rfl) ?_
    have e : fc_link γ x y z = (γ, 0) := by simp only [fc_link, if_pos h4_1]
    rw [e] at hq
    dsimp only at hq
    exact hq
  · refine r_iload at_33_7 rfl <| r_callS1i at_33_8 (Nat.le_of_ble_eq_true rfl) (fun _ hq => q_isRouter (by omega) hq) <| r_ifeq at_33_11 (fun h11_2 => ?_) (fun h11_2 => ?_)
    · refine r_push at_33_29 <| ?_
      refine r_zret at_33_30 (Or.inl rfl) ?_
      have e : fc_link γ x y z = (γ, 0) := by simp only [fc_link, if_neg h4_1, if_pos h11_2]
      rw [e] at hq
      dsimp only at hq
      exact hq
    · refine r_iload at_33_14 rfl <| r_iload at_33_15 rfl <| r_cmeq at_33_16 (fun h16_3 => ?_) (fun h16_3 => ?_)
      · refine r_push at_33_29 <| ?_
        refine r_zret at_33_30 (Or.inl rfl) ?_
        have e : fc_link γ x y z = (γ, 0) := by simp only [fc_link, if_neg h4_1, if_neg h11_2, if_pos h16_3]
        rw [e] at hq
        dsimp only at hq
        exact hq
      · refine r_iload at_33_19 rfl <| r_iflt at_33_20 (fun h20_4 => ?_) (fun h20_4 => ?_)
        · refine r_push at_33_29 <| ?_
          refine r_zret at_33_30 (Or.inl rfl) ?_
          have e : fc_link γ x y z = (γ, 0) := by simp only [fc_link, if_neg h4_1, if_neg h11_2, if_neg h16_3, if_pos h20_4]
          rw [e] at hq
          dsimp only at hq
          exact hq
        · refine r_iload at_33_23 rfl <| r_push at_33_24 <| r_cmle at_33_26 (fun h26_5 => ?_) (fun h26_5 => ?_)
          · refine r_push at_33_29 <| ?_
            refine r_zret at_33_30 (Or.inl rfl) ?_
            have e : fc_link γ x y z = (γ, 0) := by simp only [fc_link, if_neg h4_1, if_neg h11_2, if_neg h16_3, if_neg h20_4, if_pos h26_5]
            rw [e] at hq
            dsimp only at hq
            exact hq
          · obtain ⟨a, ha, rfl⟩ := fr_rtr_of h4_1
            obtain ⟨b, hb, rfl⟩ := fr_rtr_of h11_2
            refine r_aload at_33_31 rfl <| c_getP 100 at_33_32 rfl (by decide) (T.lNet) T.2.1.1 <| r_iload at_33_35 rfl <| c_aald 200 a at_33_36 rfl (by decide) (T.lRs) rfl (by omega) (by decide) ((T.2.2.1 a (by omega)).1) <| c_getP 307 at_33_37 rfl (by decide) (T.lR (r := a) (by omega)) ((T.2.2.1 a (by omega)).2.2.2) <| r_iload at_33_40 rfl <| c_aald 600 b at_33_41 rfl (by decide) (T.lEs (r := a) (by omega)) rfl (by omega) (by decide) ((T.2.2.2.1 a (by omega) b (by omega)).1) <| c_getI 700 at_33_42 rfl (by decide) (T.lE (r := a) (n := b) (by omega) (by omega)) <| r_iload at_33_45 rfl <| r_cmne at_33_46 (fun h46_6 => ?_) (fun h46_6 => ?_)
            · refine r_push at_33_49 <| ?_
              refine r_zret at_33_50 (Or.inl rfl) ?_
              have e : fc_link γ (nI a) (nI b) z = (γ, 0) := by simp only [fc_link, if_neg h4_1, if_neg h11_2, if_neg h16_3, if_neg h20_4, if_neg h26_5, if_pos h46_6, nI_clamp (show a < 2 ^ 31 by omega), nI_clamp (show b < 2 ^ 31 by omega)]
              rw [e] at hq
              dsimp only at hq
              exact hq
            · refine r_aload at_33_51 rfl <| c_getP 100 at_33_52 rfl (by decide) (T.lNet) T.2.1.1 <| r_iload at_33_55 rfl <| c_aald 200 a at_33_56 rfl (by decide) (T.lRs) rfl (by omega) (by decide) ((T.2.2.1 a (by omega)).1) <| c_getP 307 at_33_57 rfl (by decide) (T.lR (r := a) (by omega)) ((T.2.2.1 a (by omega)).2.2.2) <| r_iload at_33_60 rfl <| c_aald 600 b at_33_61 rfl (by decide) (T.lEs (r := a) (by omega)) rfl (by omega) (by decide) ((T.2.2.2.1 a (by omega) b (by omega)).1) <| r_iload at_33_62 rfl <| r_callV1v at_33_63 (T.lE (r := a) (n := b) (by omega) (by omega)) (Nat.le_of_ble_eq_true rfl) (fun _ hq => c_setCost (by omega) T (by omega) (by omega) hq) <| r_aload at_33_66 rfl <| c_getP 100 at_33_67 rfl (by decide) (T.lNet) T.2.1.1 <| r_iload at_33_70 rfl <| c_aald 200 b at_33_71 rfl (by decide) (T.lRs) rfl (by omega) (by decide) ((T.2.2.1 b (by omega)).1) <| c_getP 307 at_33_72 rfl (by decide) (T.lR (r := b) (by omega)) ((T.2.2.1 b (by omega)).2.2.2) <| r_iload at_33_75 rfl <| c_aald 600 a at_33_76 rfl (by decide) (T.lEs (r := b) (by omega)) rfl (by omega) (by decide) ((T.2.2.2.1 b (by omega) a (by omega)).1) <| r_iload at_33_77 rfl <| r_callV1v at_33_78 (T.lE (r := b) (n := a) (by omega) (by omega)) (Nat.le_of_ble_eq_true rfl) (fun _ hq => c_setCost (by omega) T (by omega) (by omega) hq) <| r_push at_33_81 <| ?_
              refine r_zret at_33_82 (Or.inr rfl) ?_
              have e : fc_link γ (nI a) (nI b) z = (fc_sc (fc_sc γ a b z) b a z, 1) := by simp only [fc_link, if_neg h4_1, if_neg h11_2, if_neg h16_3, if_neg h20_4, if_neg h26_5, if_neg h46_6, nI_clamp (show a < 2 ^ 31 by omega), nI_clamp (show b < 2 ^ 31 by omega)]
              rw [e] at hq
              dsimp only at hq
              exact hq
theorem c_lose {d : Nat} {Q : am_Q} {K : am_K} {sc : am_Sc} {γ : am_I} {π : am_P} {m : am_M} {x y z : Int32} (hd : 3 ≤ d) (T : am_TC K π)  (hq : Q (K, sc, ((fc_lose γ x y z).1, π), m) (some (.inl ((fc_lose γ x y z).2)))) : am_call d 36 [.inr (some 1), .inl x, .inl y, .inl z] (K, sc, (γ, π), m) Q := by
  obtain ⟨d, rfl⟩ : ∃ d', d = d' + 1 := ⟨d - 1, by omega⟩
  refine r_enter (by decide) (Nat.le_of_ble_eq_true rfl) (ls := [some (.inr (some 1)), some (.inl x), some (.inl y), some (.inl z)]) rfl ?_
  refine r_aload at_36_0 rfl <| r_iload at_36_1 rfl <| r_iload at_36_2 rfl <| r_callV2i at_36_3 (T.lNet) (Nat.le_of_ble_eq_true rfl) (fun _ hq => c_isLink (by omega) T hq) <| r_ifeq at_36_6 (fun h6_1 => ?_) (fun h6_1 => ?_)
  · refine r_push at_36_19 <| ?_
    refine r_zret at_36_20 (Or.inl rfl) ?_
    have e : fc_lose γ x y z = (γ, 0) := by simp only [fc_lose, if_pos h6_1]
    rw [e] at hq
    dsimp only at hq
    exact hq
  · refine r_iload at_36_9 rfl <| r_iflt at_36_10 (fun h10_2 => ?_) (fun h10_2 => ?_)
    · refine r_push at_36_19 <| ?_
      refine r_zret at_36_20 (Or.inl rfl) ?_
      have e : fc_lose γ x y z = (γ, 0) := by simp only [fc_lose, if_neg h6_1, if_pos h10_2]
      rw [e] at hq
      dsimp only at hq
      exact hq
    · refine r_iload at_36_13 rfl <| r_push at_36_14 <| r_cmle at_36_16 (fun h16_3 => ?_) (fun h16_3 => ?_)
      · refine r_push at_36_19 <| ?_
        refine r_zret at_36_20 (Or.inl rfl) ?_
        have e : fc_lose γ x y z = (γ, 0) := by simp only [fc_lose, if_neg h6_1, if_neg h10_2, if_pos h16_3]
        rw [e] at hq
        dsimp only at hq
        exact hq
      · obtain ⟨a, b, ha, hb, rfl, rfl, hab⟩ := fc_isl_of h6_1
        refine r_aload at_36_21 rfl <| c_getP 100 at_36_22 rfl (by decide) (T.lNet) T.2.1.1 <| r_iload at_36_25 rfl <| c_aald 200 a at_36_26 rfl (by decide) (T.lRs) rfl (by omega) (by decide) ((T.2.2.1 a (by omega)).1) <| c_getP 307 at_36_27 rfl (by decide) (T.lR (r := a) (by omega)) ((T.2.2.1 a (by omega)).2.2.2) <| r_iload at_36_30 rfl <| c_aald 600 b at_36_31 rfl (by decide) (T.lEs (r := a) (by omega)) rfl (by omega) (by decide) ((T.2.2.2.1 a (by omega) b (by omega)).1) <| r_iload at_36_32 rfl <| c_putI 701 at_36_33 rfl (by decide) (T.lE (r := a) (n := b) (by omega) (by omega)) <| r_push at_36_36 <| ?_
        refine r_zret at_36_37 (Or.inr rfl) ?_
        have e : fc_lose γ (nI a) (nI b) z = (am_u γ 701 (7 + 14 * a + 2 * b) 0 z, 1) := by simp only [fc_lose, if_neg h6_1, if_neg h10_2, if_neg h16_3, nI_clamp (show a < 2 ^ 31 by omega), nI_clamp (show b < 2 ^ 31 by omega)]
        rw [e] at hq
        dsimp only at hq
        exact hq
theorem c_power {d : Nat} {Q : am_Q} {K : am_K} {sc : am_Sc} {γ : am_I} {π : am_P} {m : am_M} {x o : Int32} (hd : 4 ≤ d) (T : am_TC K π) (ho : o = 0 ∨ o = 1) (hq : Q (K, sc, ((fc_power γ π x o).1.1, (fc_power γ π x o).1.2), m) (some (.inl ((fc_power γ π x o).2)))) : am_call d 35 [.inr (some 1), .inl x, .inl o] (K, sc, (γ, π), m) Q := by
  obtain ⟨d, rfl⟩ : ∃ d', d = d' + 1 := ⟨d - 1, by omega⟩
  refine r_enter (by decide) (Nat.le_of_ble_eq_true rfl) (ls := [some (.inr (some 1)), some (.inl x), some (.inl o)]) rfl ?_
  refine r_iload at_35_0 rfl <| r_callS1i at_35_1 (Nat.le_of_ble_eq_true rfl) (fun _ hq => q_isRouter (by omega) hq) <| r_ifeq at_35_4 (fun h4_1 => ?_) (fun h4_1 => ?_)
  · refine r_push at_35_20 <| ?_
    refine r_zret at_35_21 (Or.inl rfl) ?_
    have e : fc_power γ π x o = ((γ, π), 0) := by simp only [fc_power, fc_pw2, if_pos h4_1]
    rw [e] at hq
    exact hq
  · obtain ⟨a, ha, rfl⟩ := fr_rtr_of h4_1
    refine r_aload at_35_7 rfl <| c_getP 100 at_35_8 rfl (by decide) (T.lNet) T.2.1.1 <| r_iload at_35_11 rfl <| c_aald 200 a at_35_12 rfl (by decide) (T.lRs) rfl (by omega) (by decide) ((T.2.2.1 a (by omega)).1) <| c_getI 301 at_35_13 rfl (by decide) (T.lR (r := a) (by omega)) <| r_iload at_35_16 rfl <| r_cmne at_35_17 (fun h17_2 => ?_) (fun h17_2 => ?_)
    · refine r_push at_35_20 <| ?_
      refine r_zret at_35_21 (Or.inl rfl) ?_
      have e : fc_power γ π (nI a) o = ((γ, π), 0) := by simp only [fc_power, fc_pw2, if_neg h4_1, if_pos h17_2, nI_clamp (show a < 2 ^ 31 by omega)]
      rw [e] at hq
      exact hq
    · refine r_aload at_35_22 rfl <| c_getP 100 at_35_23 rfl (by decide) (T.lNet) T.2.1.1 <| r_iload at_35_26 rfl <| c_aald 200 a at_35_27 rfl (by decide) (T.lRs) rfl (by omega) (by decide) ((T.2.2.1 a (by omega)).1) <| r_iload at_35_28 rfl <| c_putZ 301 at_35_29 rfl (by decide) (T.lR (r := a) (by omega)) ho <| r_iload at_35_32 rfl <| r_ifne at_35_33 (fun h33_3 => ?_) (fun h33_3 => ?_)
      · refine r_aload at_35_36 rfl <| c_getP 100 at_35_37 rfl (by decide) (T.lNet) T.2.1.1 <| r_iload at_35_40 rfl <| c_aald 200 a at_35_41 rfl (by decide) (T.lRs) rfl (by omega) (by decide) ((T.2.2.1 a (by omega)).1) <| r_callV0v at_35_42 (T.lR (r := a) (by omega)) (Nat.le_of_ble_eq_true rfl) (fun _ hq => c_forgetAll (by omega) T (by omega) hq) <| r_push at_35_45 <| ?_
        refine r_zret at_35_46 (Or.inr rfl) ?_
        have e : fc_power γ π (nI a) o = (((fc_fa (am_u γ 301 (3 + 14 * a) 0 o) π a).1, (fc_fa (am_u γ 301 (3 + 14 * a) 0 o) π a).2), 1) := by simp only [fc_power, fc_pw2, if_neg h4_1, if_neg h17_2, if_pos h33_3, nI_clamp (show a < 2 ^ 31 by omega)]
        rw [e] at hq
        exact hq
      · refine r_push at_35_45 <| ?_
        refine r_zret at_35_46 (Or.inr rfl) ?_
        have e : fc_power γ π (nI a) o = ((am_u γ 301 (3 + 14 * a) 0 o, π), 1) := by simp only [fc_power, fc_pw2, if_neg h4_1, if_neg h17_2, if_neg h33_3, nI_clamp (show a < 2 ^ 31 by omega)]
        rw [e] at hq
        exact hq
theorem c_owed {d : Nat} {Q : am_Q} {K : am_K} {sc : am_Sc} {γ : am_I} {π : am_P} {m : am_M} {x y : Int32} (hd : 3 ≤ d) (T : am_TC K π)  (hq : Q (K, sc, (γ, π), m) (some (.inl (fc_owd γ x y)))) : am_call d 42 [.inr (some 1), .inl x, .inl y] (K, sc, (γ, π), m) Q := by
  obtain ⟨d, rfl⟩ : ∃ d', d = d' + 1 := ⟨d - 1, by omega⟩
  refine r_enter (by decide) (Nat.le_of_ble_eq_true rfl) (ls := [some (.inr (some 1)), some (.inl x), some (.inl y), none, none, none]) rfl ?_
  refine r_aload at_42_0 rfl <| r_iload at_42_1 rfl <| r_iload at_42_2 rfl <| r_callV2i at_42_3 (T.lNet) (Nat.le_of_ble_eq_true rfl) (fun _ hq => c_isLink (by omega) T hq) <| r_ifne at_42_6 (fun h6_1 => ?_) (fun h6_1 => ?_)
  · refine r_push at_42_9 <| ?_
    refine r_iret at_42_10 ?_
    have e : fc_owd γ x y = (-1) := by simp only [fc_owd, if_pos h6_1]
    rw [e] at hq
    exact hq
  · obtain ⟨a, b, ha, hb, rfl, rfl, hab⟩ := fc_isl_of h6_1
    refine r_aload at_42_11 rfl <| c_getP 100 at_42_12 rfl (by decide) (T.lNet) T.2.1.1 <| r_iload at_42_15 rfl <| c_aald 200 a at_42_16 rfl (by decide) (T.lRs) rfl (by omega) (by decide) ((T.2.2.1 a (by omega)).1) <| c_getP 307 at_42_17 rfl (by decide) (T.lR (r := a) (by omega)) ((T.2.2.1 a (by omega)).2.2.2) <| r_iload at_42_20 rfl <| c_aald 600 b at_42_21 rfl (by decide) (T.lEs (r := a) (by omega)) rfl (by omega) (by decide) ((T.2.2.2.1 a (by omega) b (by omega)).1) <| r_astoreL (ls' := [_, _, _, _, _, _]) at_42_22 rfl <| r_push at_42_23 <| r_istoreL (ls' := [_, _, _, _, _, _]) at_42_24 rfl <| r_push at_42_26 <| r_istoreL (ls' := [_, _, _, _, _, _]) at_42_27 rfl <| ?_
    refine am_for 5 (fun x z => am_w d 42 Q 29 [some (.inr (some 1)), some (.inl (nI a)), some (.inl (nI b)), some (.inr (some (7 + 14 * a + 2 * b))), some (.inl z), some (.inl (nI x))] [] (K, sc, (γ, π), m)) (fc_owd_x γ a b) (fun x hi_x z hk_x => ?_) 0 ?_
    · refine r_iload at_42_29 rfl <| r_push at_42_31 <| r_cmgeNT x 5 at_42_32 rfl rfl (by omega) (by omega) (by omega) <| ?_
      refine r_aload at_42_35 rfl <| c_getP 708 at_42_36 rfl (by decide) (T.lE (r := a) (n := b) (by omega) (by omega)) ((T.2.2.2.1 a (by omega) b (by omega)).2) <| r_iload at_42_39 rfl <| c_ald 800 x at_42_41 rfl (by decide) (T.lX (r := a) (n := b) (by omega) (by omega)) rfl (by omega) (by decide) <| r_push at_42_42 <| r_cmeq at_42_44 (fun h44_2 => ?_) (fun h44_2 => ?_)
      · refine r_iincNL (ls' := [_, _, _, _, _, _]) x at_42_50 rfl rfl <| r_goto at_42_53 <| ?_
        have e : (fc_owd_x γ a b) x z = z := by simp only [fc_owd_x, if_pos h44_2]
        rw [e] at hk_x
        exact hk_x
      · refine r_iincL (ls' := [_, _, _, _, _, _]) at_42_47 rfl rfl <| r_iincNL (ls' := [_, _, _, _, _, _]) x at_42_50 rfl rfl <| r_goto at_42_53 <| ?_
        have e : (fc_owd_x γ a b) x z = (z + 1) := by simp only [fc_owd_x, if_neg h44_2]
        rw [e] at hk_x
        exact hk_x
    · generalize hz29 : am_it (fc_owd_x γ a b) 5 0 = y29
      refine r_iload at_42_29 rfl <| r_push at_42_31 <| r_cmgeNF 5 5 at_42_32 rfl rfl (by omega) (by omega) (by omega) <| ?_
      refine r_iload at_42_56 rfl <| ?_
      refine r_iret at_42_58 ?_
      have e : fc_owd γ (nI a) (nI b) = y29 := by simp only [fc_owd, if_neg h6_1, hz29, nI_clamp (show a < 2 ^ 31 by omega), nI_clamp (show b < 2 ^ 31 by omega)]
      rw [e] at hq
      exact hq
theorem fc_lt7 {x : Int32} (h : x < 7) : x ≤ 6 := by
  rw [Int32.lt_iff_toInt_lt, show (7 : Int32).toInt = 7 from by decide] at h
  rw [Int32.le_iff_toInt_le, show (6 : Int32).toInt = 6 from by decide]
  omega
theorem c_count {d : Nat} {Q : am_Q} {K : am_K} {sc : am_Sc} {γ : am_I} {π : am_P} {m : am_M} {x : Int32} (hd : 1 ≤ d) (T : am_TC K π)  (hq : Q (K, sc, (γ, π), m) (some (.inl (fc_cnt γ x)))) : am_call d 47 [.inr (some 1), .inl x] (K, sc, (γ, π), m) Q := by
  obtain ⟨d, rfl⟩ : ∃ d', d = d' + 1 := ⟨d - 1, by omega⟩
  refine r_enter (by decide) (Nat.le_of_ble_eq_true rfl) (ls := [some (.inr (some 1)), some (.inl x)]) rfl ?_
  refine r_iload at_47_0 rfl <| r_iflt at_47_1 (fun h1_1 => ?_) (fun h1_1 => ?_)
  · refine r_push at_47_10 <| r_goto at_47_11 <| ?_
    refine r_iret at_47_20 ?_
    have e : fc_cnt γ x = (-1) := by simp only [fc_cnt, if_pos h1_1]
    rw [e] at hq
    exact hq
  · refine r_iload at_47_4 rfl <| r_push at_47_5 <| r_cmlt at_47_7 (fun h7_2 => ?_) (fun h7_2 => ?_)
    · obtain ⟨a, ha, rfl⟩ := nI_of2 (M := 6) (n := 6) (by decide) h1_1 (fc_lt7 h7_2)
      refine r_aload at_47_14 rfl <| c_getP 103 at_47_15 rfl (by decide) (T.lNet) T.2.1.2.2.2 <| r_iload at_47_18 rfl <| c_ald 1800 a at_47_19 rfl (by decide) (T.lCn) rfl (by omega) (by decide) <| ?_
      refine r_iret at_47_20 ?_
      have e : fc_cnt γ (nI a) = (γ 1800 162 a) := by simp only [fc_cnt, if_neg h1_1, if_pos h7_2, nI_clamp (show a < 2 ^ 31 by omega)]
      rw [e] at hq
      exact hq
    · refine r_push at_47_10 <| r_goto at_47_11 <| ?_
      refine r_iret at_47_20 ?_
      have e : fc_cnt γ x = (-1) := by simp only [fc_cnt, if_neg h1_1, if_neg h7_2]
      rw [e] at hq
      exact hq
theorem c_number {d : Nat} {Q : am_Q} {K : am_K} {sc : am_Sc} {γ : am_I} {π : am_P} {m : am_M} {x y : Int32} (hd : 2 ≤ d) (T : am_TC K π) (hH : am_HD K π) (hq : Q (K, sc, (γ, π), m) (some (.inl (fc_num γ π x y)))) : am_call d 39 [.inr (some 1), .inl x, .inl y] (K, sc, (γ, π), m) Q := by
  obtain ⟨d, rfl⟩ : ∃ d', d = d' + 1 := ⟨d - 1, by omega⟩
  refine r_enter (by decide) (Nat.le_of_ble_eq_true rfl) (ls := [some (.inr (some 1)), some (.inl x), some (.inl y), none]) rfl ?_
  refine r_iload at_39_0 rfl <| r_callS1i at_39_1 (Nat.le_of_ble_eq_true rfl) (fun _ hq => q_isRouter (by omega) hq) <| r_ifeq at_39_4 (fun h4_1 => ?_) (fun h4_1 => ?_)
  · refine r_push at_39_14 <| ?_
    refine r_iret at_39_15 ?_
    have e : fc_num γ π x y = (-1) := by simp only [fc_num, if_pos h4_1, Option.elim]
    rw [e] at hq
    exact hq
  · refine r_iload at_39_7 rfl <| r_callS1i at_39_8 (Nat.le_of_ble_eq_true rfl) (fun _ hq => q_isRouter (by omega) hq) <| r_ifne at_39_11 (fun h11_2 => ?_) (fun h11_2 => ?_)
    · refine r_push at_39_14 <| ?_
      refine r_iret at_39_15 ?_
      have e : fc_num γ π x y = (-1) := by simp only [fc_num, if_neg h4_1, if_pos h11_2, Option.elim]
      rw [e] at hq
      exact hq
    · obtain ⟨a, ha, rfl⟩ := fr_rtr_of h4_1
      obtain ⟨b, hb, rfl⟩ := fr_rtr_of h11_2
      refine r_aload at_39_16 rfl <| c_getP 100 at_39_17 rfl (by decide) (T.lNet) T.2.1.1 <| r_iload at_39_20 rfl <| c_aald 200 a at_39_21 rfl (by decide) (T.lRs) rfl (by omega) (by decide) ((T.2.2.1 a (by omega)).1) <| c_getP 306 at_39_22 rfl (by decide) (T.lR (r := a) (by omega)) ((T.2.2.1 a (by omega)).2.2.1) <| r_iload at_39_25 rfl <| c_aald 500 b at_39_26 rfl (by decide) (T.lHe (r := a) (by omega)) rfl (by omega) (by decide) rfl <| r_astoreL (ls' := [_, _, _, _]) at_39_27 rfl <| r_aload at_39_28 rfl <| r_ifnonnull at_39_29 (fun h29_3 => ?_) (fun a29_3 h29_3 => ?_)
      · refine r_push at_39_32 <| r_goto at_39_33 <| ?_
        refine r_iret at_39_40 ?_
        have e : fc_num γ π (nI a) (nI b) = 0 := by simp only [fc_num, if_neg h4_1, if_neg h11_2, h29_3, nI_clamp (show a < 2 ^ 31 by omega), nI_clamp (show b < 2 ^ 31 by omega), Option.elim]
        rw [e] at hq
        exact hq
      · have hD := hH a (by omega) b (by omega) _ h29_3
        rw [h29_3]
        refine r_aload at_39_36 rfl <| c_getI 1901 at_39_37 rfl (by decide) (hD.2.1.lv) <| ?_
        refine r_iret at_39_40 ?_
        have e : fc_num γ π (nI a) (nI b) = (γ 1901 a29_3 0) := by simp only [fc_num, if_neg h4_1, if_neg h11_2, h29_3, nI_clamp (show a < 2 ^ 31 by omega), nI_clamp (show b < 2 ^ 31 by omega), Option.elim]
        rw [e] at hq
        exact hq
theorem c_age {d : Nat} {Q : am_Q} {K : am_K} {sc : am_Sc} {γ : am_I} {π : am_P} {m : am_M} {x y : Int32} (hd : 2 ≤ d) (T : am_TC K π) (hH : am_HD K π) (hq : Q (K, sc, (γ, π), m) (some (.inl (fc_age γ π x y)))) : am_call d 40 [.inr (some 1), .inl x, .inl y] (K, sc, (γ, π), m) Q := by
  obtain ⟨d, rfl⟩ : ∃ d', d = d' + 1 := ⟨d - 1, by omega⟩
  refine r_enter (by decide) (Nat.le_of_ble_eq_true rfl) (ls := [some (.inr (some 1)), some (.inl x), some (.inl y), none]) rfl ?_
  refine r_iload at_40_0 rfl <| r_callS1i at_40_1 (Nat.le_of_ble_eq_true rfl) (fun _ hq => q_isRouter (by omega) hq) <| r_ifeq at_40_4 (fun h4_1 => ?_) (fun h4_1 => ?_)
  · refine r_push at_40_14 <| ?_
    refine r_iret at_40_15 ?_
    have e : fc_age γ π x y = (-1) := by simp only [fc_age, if_pos h4_1, Option.elim]
    rw [e] at hq
    exact hq
  · refine r_iload at_40_7 rfl <| r_callS1i at_40_8 (Nat.le_of_ble_eq_true rfl) (fun _ hq => q_isRouter (by omega) hq) <| r_ifne at_40_11 (fun h11_2 => ?_) (fun h11_2 => ?_)
    · refine r_push at_40_14 <| ?_
      refine r_iret at_40_15 ?_
      have e : fc_age γ π x y = (-1) := by simp only [fc_age, if_neg h4_1, if_pos h11_2, Option.elim]
      rw [e] at hq
      exact hq
    · obtain ⟨a, ha, rfl⟩ := fr_rtr_of h4_1
      obtain ⟨b, hb, rfl⟩ := fr_rtr_of h11_2
      refine r_aload at_40_16 rfl <| c_getP 100 at_40_17 rfl (by decide) (T.lNet) T.2.1.1 <| r_iload at_40_20 rfl <| c_aald 200 a at_40_21 rfl (by decide) (T.lRs) rfl (by omega) (by decide) ((T.2.2.1 a (by omega)).1) <| c_getP 306 at_40_22 rfl (by decide) (T.lR (r := a) (by omega)) ((T.2.2.1 a (by omega)).2.2.1) <| r_iload at_40_25 rfl <| c_aald 500 b at_40_26 rfl (by decide) (T.lHe (r := a) (by omega)) rfl (by omega) (by decide) rfl <| r_astoreL (ls' := [_, _, _, _]) at_40_27 rfl <| r_aload at_40_28 rfl <| r_ifnonnull at_40_29 (fun h29_3 => ?_) (fun a29_3 h29_3 => ?_)
      · refine r_push at_40_32 <| r_goto at_40_33 <| ?_
        refine r_iret at_40_45 ?_
        have e : fc_age γ π (nI a) (nI b) = (-1) := by simp only [fc_age, if_neg h4_1, if_neg h11_2, h29_3, nI_clamp (show a < 2 ^ 31 by omega), nI_clamp (show b < 2 ^ 31 by omega), Option.elim]
        rw [e] at hq
        exact hq
      · have hD := hH a (by omega) b (by omega) _ h29_3
        rw [h29_3]
        refine r_aload at_40_36 rfl <| c_getI 104 at_40_37 rfl (by decide) (T.lNet) <| r_aload at_40_40 rfl <| c_getI 1902 at_40_41 rfl (by decide) (hD.2.1.lv) <| r_bin at_40_44 <| ?_
        refine r_iret at_40_45 ?_
        have e : fc_age γ π (nI a) (nI b) = ((γ 104 1 0) - (γ 1902 a29_3 0)) := by simp only [fc_age, if_neg h4_1, if_neg h11_2, h29_3, nI_clamp (show a < 2 ^ 31 by omega), nI_clamp (show b < 2 ^ 31 by omega), Option.elim]
        rw [e] at hq
        exact hq
theorem c_listed {d : Nat} {Q : am_Q} {K : am_K} {sc : am_Sc} {γ : am_I} {π : am_P} {m : am_M} {x y z : Int32} (hd : 2 ≤ d) (T : am_TC K π) (hH : am_HD K π) (hq : Q (K, sc, (γ, π), m) (some (.inl (fc_lis γ π x y z)))) : am_call d 41 [.inr (some 1), .inl x, .inl y, .inl z] (K, sc, (γ, π), m) Q := by
  obtain ⟨d, rfl⟩ : ∃ d', d = d' + 1 := ⟨d - 1, by omega⟩
  refine r_enter (by decide) (Nat.le_of_ble_eq_true rfl) (ls := [some (.inr (some 1)), some (.inl x), some (.inl y), some (.inl z), none]) rfl ?_
  refine r_iload at_41_0 rfl <| r_callS1i at_41_1 (Nat.le_of_ble_eq_true rfl) (fun _ hq => q_isRouter (by omega) hq) <| r_ifeq at_41_4 (fun h4_1 => ?_) (fun h4_1 => ?_)
  · refine r_push at_41_21 <| ?_
    refine r_iret at_41_22 ?_
    have e : fc_lis γ π x y z = (-1) := by simp only [fc_lis, if_pos h4_1, Option.elim]
    rw [e] at hq
    exact hq
  · refine r_iload at_41_7 rfl <| r_callS1i at_41_8 (Nat.le_of_ble_eq_true rfl) (fun _ hq => q_isRouter (by omega) hq) <| r_ifeq at_41_11 (fun h11_2 => ?_) (fun h11_2 => ?_)
    · refine r_push at_41_21 <| ?_
      refine r_iret at_41_22 ?_
      have e : fc_lis γ π x y z = (-1) := by simp only [fc_lis, if_neg h4_1, if_pos h11_2, Option.elim]
      rw [e] at hq
      exact hq
    · refine r_iload at_41_14 rfl <| r_callS1i at_41_15 (Nat.le_of_ble_eq_true rfl) (fun _ hq => q_isRouter (by omega) hq) <| r_ifne at_41_18 (fun h18_3 => ?_) (fun h18_3 => ?_)
      · refine r_push at_41_21 <| ?_
        refine r_iret at_41_22 ?_
        have e : fc_lis γ π x y z = (-1) := by simp only [fc_lis, if_neg h4_1, if_neg h11_2, if_pos h18_3, Option.elim]
        rw [e] at hq
        exact hq
      · obtain ⟨a, ha, rfl⟩ := fr_rtr_of h4_1
        obtain ⟨b, hb, rfl⟩ := fr_rtr_of h11_2
        obtain ⟨e, he, rfl⟩ := fr_rtr_of h18_3
        refine r_aload at_41_23 rfl <| c_getP 100 at_41_24 rfl (by decide) (T.lNet) T.2.1.1 <| r_iload at_41_27 rfl <| c_aald 200 a at_41_28 rfl (by decide) (T.lRs) rfl (by omega) (by decide) ((T.2.2.1 a (by omega)).1) <| c_getP 306 at_41_29 rfl (by decide) (T.lR (r := a) (by omega)) ((T.2.2.1 a (by omega)).2.2.1) <| r_iload at_41_32 rfl <| c_aald 500 b at_41_33 rfl (by decide) (T.lHe (r := a) (by omega)) rfl (by omega) (by decide) rfl <| r_astoreL (ls' := [_, _, _, _, _]) at_41_34 rfl <| r_aload at_41_36 rfl <| r_ifnonnull at_41_38 (fun h38_4 => ?_) (fun a38_4 h38_4 => ?_)
        · refine r_push at_41_41 <| r_goto at_41_42 <| ?_
          refine r_iret at_41_52 ?_
          have e : fc_lis γ π (nI a) (nI b) (nI e) = (-1) := by simp only [fc_lis, if_neg h4_1, if_neg h11_2, if_neg h18_3, h38_4, nI_clamp (show a < 2 ^ 31 by omega), nI_clamp (show b < 2 ^ 31 by omega), nI_clamp (show e < 2 ^ 31 by omega), Option.elim]
          rw [e] at hq
          exact hq
        · have hD := hH a (by omega) b (by omega) _ h38_4
          rw [h38_4]
          refine r_aload at_41_45 rfl <| c_getP 1903 at_41_47 rfl (by decide) (hD.2.1.lv) hD.2.2.2.2.1 <| r_iload at_41_50 rfl <| c_ald 2000 e at_41_51 rfl (by decide) (hD.2.2.1.lv) rfl (by omega) (by decide) <| ?_
          refine r_iret at_41_52 ?_
          have e : fc_lis γ π (nI a) (nI b) (nI e) = (γ 2000 (a38_4 + 1) e) := by simp only [fc_lis, if_neg h4_1, if_neg h11_2, if_neg h18_3, h38_4, nI_clamp (show a < 2 ^ 31 by omega), nI_clamp (show b < 2 ^ 31 by omega), nI_clamp (show e < 2 ^ 31 by omega), Option.elim]
          rw [e] at hq
          exact hq

def fc_edge (γ : am_I) : Option Nat → Option Nat → Nat → Nat → Int32
  | some a, some b, u, v => if γ 2000 (a + 1) v = 0 then 1000 else if γ 2000 (b + 1) u = 0 then 1000 else γ 2000 (a + 1) v
  | _, _, _, _ => 1000
def fc_wo2 (u v : Nat) (γ : am_I) : am_I := am_u γ 1700 (157 + u) v (if u = v then 0 else γ 1500 (151 + u) v)
def fc_wo_v (π : am_P) (r u v : Nat) (γ : am_I) : am_I := fc_wo2 u v (am_u γ 1500 (151 + u) v (fc_edge γ (π 500 (5 + 14 * r) u) (π 500 (5 + 14 * r) v) u v))
def fc_wo_u (π : am_P) (r u : Nat) (γ : am_I) : am_I := am_it (fc_wo_v π r u) 5 γ
def fc_st_v (w u v : Nat) (γ : am_I) : am_I := if γ 1700 (157 + u) w + γ 1700 (157 + w) v < γ 1700 (157 + u) v then am_u γ 1700 (157 + u) v (γ 1700 (157 + u) w + γ 1700 (157 + w) v) else γ
def fc_st_u (w u : Nat) (γ : am_I) : am_I := am_it (fc_st_v w u) 5 γ
def fc_st (w : Nat) (γ : am_I) : am_I := am_it (fc_st_u w) 5 γ
def fc_wo (γ : am_I) (π : am_P) (r : Nat) : am_I := am_it fc_st 5 (am_it (fc_wo_u π r) 5 γ)
def fc_fh (γ : am_I) (r v : Nat) : Nat → Nat → Int32
  | 0, _ => -1
  | k + 1, n => if γ 1500 (151 + r) n + γ 1700 (157 + n) v = γ 1700 (157 + r) v then nI n else fc_fh γ r v k (n + 1)
def fc_fhop (γ : am_I) (r v : Nat) : Int32 := if r = v then -1 else if γ 1700 (157 + r) v = 1000 then -1 else fc_fh γ r v 5 0
def fc_ds_q (γ : am_I) (r : Nat) (y : Int32) (x q : Nat) (z : Int32 × Int32 × Int32) : Int32 × Int32 × Int32 := if γ 1700 (157 + r) x = 1000 then z else if fc_ft γ q y = 0 then z else if z.2.1 < γ 2201 q 0 then (nI x, γ 2201 q 0, γ 1700 (157 + r) x + γ 2202 q 0) else if γ 2201 q 0 = z.2.1 then if γ 1700 (157 + r) x + γ 2202 q 0 < z.2.2 then (nI x, γ 2201 q 0, γ 1700 (157 + r) x + γ 2202 q 0) else z else z
def fc_ds_s (γ : am_I) (π : am_P) (r : Nat) (y : Int32) (x s : Nat) (z : Int32 × Int32 × Int32) : Int32 × Int32 × Int32 := (π 500 (5 + 14 * r) x).elim z (fun e => (π 2100 (e + 2) s).elim z (fun q => fc_ds_q γ r y x q z))
def fc_ds_x (γ : am_I) (π : am_P) (r : Nat) (y : Int32) (x : Nat) (z : Int32 × Int32 × Int32) : Int32 × Int32 × Int32 := am_it (fc_ds_s γ π r y x) 2 z
def fc_ds (γ : am_I) (π : am_P) (r : Nat) (y : Int32) : Int32 := (am_it (fc_ds_x γ π r y) 5 (-1, -1, 0)).1
def fc_dst (γ : am_I) (π : am_P) (x y : Int32) : am_I × Int32 := if fc_ison γ x = 0 then (γ, -1) else if fr_rtr y = 0 then (γ, -1) else (fc_wo γ π x.toNatClampNeg, if (fc_wo γ π x.toNatClampNeg) 1700 (157 + x.toNatClampNeg) y.toNatClampNeg = 1000 then -1 else (fc_wo γ π x.toNatClampNeg) 1700 (157 + x.toNatClampNeg) y.toNatClampNeg)
def fc_hop (γ : am_I) (π : am_P) (x y : Int32) : am_I × Int32 := if fc_ison γ x = 0 then (γ, -1) else if fr_rtr y = 0 then (γ, -1) else (fc_wo γ π x.toNatClampNeg, fc_fhop (fc_wo γ π x.toNatClampNeg) x.toNatClampNeg y.toNatClampNeg)
def fc_rt (γ : am_I) (π : am_P) (x y : Int32) : am_I × Int32 := if fc_ison γ x = 0 then (γ, -1) else if fc_adr y = 0 then (γ, -1) else (fc_wo γ π x.toNatClampNeg, fc_ds (fc_wo γ π x.toNatClampNeg) π x.toNatClampNeg y)
theorem c_edge0 {d : Nat} {Q : am_Q} {K : am_K} {sc : am_Sc} {γ : am_I} {π : am_P} {m : am_M} {q : Option Nat} {u v : Nat} (hd : 1 ≤ d)  (hu : u < 5) (hv : v < 5) (hq : Q (K, sc, (γ, π), m) (some (.inl (fc_edge γ none q u v)))) : am_call d 28 [.inr none, .inr q, .inl (nI u), .inl (nI v)] (K, sc, (γ, π), m) Q := by
  obtain ⟨d, rfl⟩ : ∃ d', d = d' + 1 := ⟨d - 1, by omega⟩
  refine r_enter (by decide) (Nat.le_of_ble_eq_true rfl) (ls := [some (.inr none), some (.inr q), some (.inl (nI u)), some (.inl (nI v))]) rfl ?_
  refine r_aload at_28_0 rfl <| r_ifnullT at_28_1 <| r_push at_28_26 <| ?_
  refine r_iret at_28_29 ?_
  have e : fc_edge γ none q u v = 1000 := by simp only [fc_edge]
  rw [e] at hq
  exact hq
theorem c_edge1 {d : Nat} {Q : am_Q} {K : am_K} {sc : am_Sc} {γ : am_I} {π : am_P} {m : am_M} {a : Nat} {u v : Nat} (hd : 1 ≤ d) (hA : am_De K π a) (hu : u < 5) (hv : v < 5) (hq : Q (K, sc, (γ, π), m) (some (.inl (fc_edge γ (some a) none u v)))) : am_call d 28 [.inr (some a), .inr none, .inl (nI u), .inl (nI v)] (K, sc, (γ, π), m) Q := by
  obtain ⟨d, rfl⟩ : ∃ d', d = d' + 1 := ⟨d - 1, by omega⟩
  refine r_enter (by decide) (Nat.le_of_ble_eq_true rfl) (ls := [some (.inr (some a)), some (.inr none), some (.inl (nI u)), some (.inl (nI v))]) rfl ?_
  refine r_aload at_28_0 rfl <| r_ifnullF at_28_1 <| r_aload at_28_4 rfl <| r_ifnullT at_28_5 <| r_push at_28_26 <| ?_
  refine r_iret at_28_29 ?_
  have e : fc_edge γ (some a) none u v = 1000 := by simp only [fc_edge]
  rw [e] at hq
  exact hq
theorem c_edge2 {d : Nat} {Q : am_Q} {K : am_K} {sc : am_Sc} {γ : am_I} {π : am_P} {m : am_M} {a b : Nat} {u v : Nat} (hd : 1 ≤ d) (hA : am_De K π a) (hB : am_De K π b) (hu : u < 5) (hv : v < 5) (hq : Q (K, sc, (γ, π), m) (some (.inl (fc_edge γ (some a) (some b) u v)))) : am_call d 28 [.inr (some a), .inr (some b), .inl (nI u), .inl (nI v)] (K, sc, (γ, π), m) Q := by
  obtain ⟨d, rfl⟩ : ∃ d', d = d' + 1 := ⟨d - 1, by omega⟩
  refine r_enter (by decide) (Nat.le_of_ble_eq_true rfl) (ls := [some (.inr (some a)), some (.inr (some b)), some (.inl (nI u)), some (.inl (nI v))]) rfl ?_
  refine r_aload at_28_0 rfl <| r_ifnullF at_28_1 <| r_aload at_28_4 rfl <| r_ifnullF at_28_5 <| r_aload at_28_8 rfl <| c_getP 1903 at_28_9 rfl (by decide) (hA.2.1.lv) hA.2.2.2.2.1 <| r_iload at_28_12 rfl <| c_ald 2000 v at_28_13 rfl (by decide) (hA.2.2.1.lv) rfl (by omega) (by decide) <| r_ifeq at_28_14 (fun h14_1 => ?_) (fun h14_1 => ?_)
  · refine r_push at_28_26 <| ?_
    refine r_iret at_28_29 ?_
    have e : fc_edge γ (some a) (some b) u v = 1000 := by simp only [fc_edge, if_pos h14_1]
    rw [e] at hq
    exact hq
  · refine r_aload at_28_17 rfl <| c_getP 1903 at_28_18 rfl (by decide) (hB.2.1.lv) hB.2.2.2.2.1 <| r_iload at_28_21 rfl <| c_ald 2000 u at_28_22 rfl (by decide) (hB.2.2.1.lv) rfl (by omega) (by decide) <| r_ifne at_28_23 (fun h23_2 => ?_) (fun h23_2 => ?_)
    · refine r_push at_28_26 <| ?_
      refine r_iret at_28_29 ?_
      have e : fc_edge γ (some a) (some b) u v = 1000 := by simp only [fc_edge, if_neg h14_1, if_pos h23_2]
      rw [e] at hq
      exact hq
    · refine r_aload at_28_30 rfl <| c_getP 1903 at_28_31 rfl (by decide) (hA.2.1.lv) hA.2.2.2.2.1 <| r_iload at_28_34 rfl <| c_ald 2000 v at_28_35 rfl (by decide) (hA.2.2.1.lv) rfl (by omega) (by decide) <| ?_
      refine r_iret at_28_36 ?_
      have e : fc_edge γ (some a) (some b) u v = (γ 2000 (a + 1) v) := by simp only [fc_edge, if_neg h14_1, if_neg h23_2]
      rw [e] at hq
      exact hq
theorem c_edge {d : Nat} {Q : am_Q} {K : am_K} {sc : am_Sc} {γ : am_I} {π : am_P} {m : am_M} {o q : Option Nat} {u v : Nat} (hd : 1 ≤ d) (ho : ∀ a, o = some a → am_De K π a) (hq' : ∀ a, q = some a → am_De K π a) (hu : u < 5) (hv : v < 5) (hq : Q (K, sc, (γ, π), m) (some (.inl (fc_edge γ o q u v)))) : am_call d 28 [.inr o, .inr q, .inl (nI u), .inl (nI v)] (K, sc, (γ, π), m) Q := by
  cases o with
  | none => exact c_edge0 hd hu hv hq
  | some a => cases q with
    | none => exact c_edge1 hd (ho a rfl) hu hv hq
    | some b => exact c_edge2 hd (ho a rfl) (hq' b rfl) hu hv hq
theorem c_shorten {d : Nat} {Q : am_Q} {K : am_K} {sc : am_Sc} {γ : am_I} {π : am_P} {m : am_M} {w : Nat} (hd : 1 ≤ d) (T : am_TC K π) (hw : w < 5) (hq : Q (K, sc, (fc_st w γ, π), m) none) : am_call d 29 [.inr (some 149), .inl (nI w)] (K, sc, (γ, π), m) Q := by
  obtain ⟨d, rfl⟩ : ∃ d', d = d' + 1 := ⟨d - 1, by omega⟩
  refine r_enter (by decide) (Nat.le_of_ble_eq_true rfl) (ls := [some (.inr (some 149)), some (.inl (nI w)), none, none, none]) rfl ?_
  refine r_push at_29_0 <| r_istoreL (ls' := [_, _, _, _, _]) at_29_1 rfl <| ?_
  refine am_for 5 (fun u z => ∀ u3 u4 : Option am_V, am_w d 29 Q 2 [some (.inr (some 149)), some (.inl (nI w)), some (.inl (nI u)), u3, u4] [] (K, sc, (z, π), m)) (fc_st_u w) (fun u hi_u z hk_u => ?_) γ ?_ none none
  · intro u3 u4
    refine r_iload at_29_2 rfl <| r_push at_29_3 <| r_cmgeNT u 5 at_29_4 rfl rfl (by omega) (by omega) (by omega) <| ?_
    refine r_push at_29_7 <| r_istoreL (ls' := [_, _, _, _, _]) at_29_8 rfl <| ?_
    refine am_for 5 (fun v z => ∀ u4 : Option am_V, am_w d 29 Q 9 [some (.inr (some 149)), some (.inl (nI w)), some (.inl (nI u)), some (.inl (nI v)), u4] [] (K, sc, (z, π), m)) (fc_st_v w u) (fun v hi_v z hk_v => ?_) z ?_ u4
    · intro u4
      refine r_iload at_29_9 rfl <| r_push at_29_10 <| r_cmgeNT v 5 at_29_11 rfl rfl (by omega) (by omega) (by omega) <| ?_
      refine r_aload at_29_14 rfl <| c_getP 1301 at_29_15 rfl (by decide) (T.lRo) T.2.2.2.2.2.1.2 <| r_iload at_29_18 rfl <| c_aald 1600 u at_29_19 rfl (by decide) (T.lDs) rfl (by omega) (by decide) ((T.2.2.2.2.2.2 u (by omega)).2) <| r_iload at_29_20 rfl <| c_ald 1700 w at_29_21 rfl (by decide) (T.lDr (u := u) (by omega)) rfl (by omega) (by decide) <| r_aload at_29_22 rfl <| c_getP 1301 at_29_23 rfl (by decide) (T.lRo) T.2.2.2.2.2.1.2 <| r_iload at_29_26 rfl <| c_aald 1600 w at_29_27 rfl (by decide) (T.lDs) rfl (by omega) (by decide) ((T.2.2.2.2.2.2 w (by omega)).2) <| r_iload at_29_28 rfl <| c_ald 1700 v at_29_29 rfl (by decide) (T.lDr (u := w) (by omega)) rfl (by omega) (by decide) <| r_bin at_29_30 <| r_istoreL (ls' := [_, _, _, _, _]) at_29_31 rfl <| r_iload at_29_33 rfl <| r_aload at_29_35 rfl <| c_getP 1301 at_29_36 rfl (by decide) (T.lRo) T.2.2.2.2.2.1.2 <| r_iload at_29_39 rfl <| c_aald 1600 u at_29_40 rfl (by decide) (T.lDs) rfl (by omega) (by decide) ((T.2.2.2.2.2.2 u (by omega)).2) <| r_iload at_29_41 rfl <| c_ald 1700 v at_29_42 rfl (by decide) (T.lDr (u := u) (by omega)) rfl (by omega) (by decide) <| r_cmge at_29_43 (fun h43_1 => ?_) (fun h43_1 => ?_)
      · refine r_aload at_29_46 rfl <| c_getP 1301 at_29_47 rfl (by decide) (T.lRo) T.2.2.2.2.2.1.2 <| r_iload at_29_50 rfl <| c_aald 1600 u at_29_51 rfl (by decide) (T.lDs) rfl (by omega) (by decide) ((T.2.2.2.2.2.2 u (by omega)).2) <| r_iload at_29_52 rfl <| r_iload at_29_53 rfl <| c_ast 1700 v at_29_55 rfl (by decide) (T.lDr (u := u) (by omega)) rfl (by omega) (by decide) <| r_iincNL (ls' := [_, _, _, _, _]) v at_29_56 rfl rfl <| r_goto at_29_59 <| ?_
        have e : (fc_st_v w u) v z = am_u z 1700 (157 + u) v ((z 1700 (157 + u) w) + (z 1700 (157 + w) v)) := by simp only [fc_st_v, if_pos h43_1]
        rw [e] at hk_v
        exact hk_v _
      · refine r_iincNL (ls' := [_, _, _, _, _]) v at_29_56 rfl rfl <| r_goto at_29_59 <| ?_
        have e : (fc_st_v w u) v z = z := by simp only [fc_st_v, if_neg h43_1]
        rw [e] at hk_v
        exact hk_v _
    · intro u4
      generalize hz9 : am_it (fc_st_v w u) 5 z = y9
      refine r_iload at_29_9 rfl <| r_push at_29_10 <| r_cmgeNF 5 5 at_29_11 rfl rfl (by omega) (by omega) (by omega) <| ?_
      refine r_iincNL (ls' := [_, _, _, _, _]) u at_29_62 rfl rfl <| r_goto at_29_65 <| ?_
      have e : (fc_st_u w) u z = y9 := by simp only [fc_st_u, hz9]
      rw [e] at hk_u
      exact hk_u _ _
  · intro u3 u4
    generalize hz2 : am_it (fc_st_u w) 5 γ = y2
    refine r_iload at_29_2 rfl <| r_push at_29_3 <| r_cmgeNF 5 5 at_29_4 rfl rfl (by omega) (by omega) (by omega) <| ?_
    refine r_ret at_29_68 ?_
    have e : fc_st w γ = y2 := by simp only [fc_st, hz2]
    rw [e] at hq
    exact hq
theorem c_workOut {d : Nat} {Q : am_Q} {K : am_K} {sc : am_Sc} {γ : am_I} {π : am_P} {m : am_M} {r : Nat} (hd : 2 ≤ d) (T : am_TC K π) (hr : r < 5) (hH : am_HD K π) (hq : Q (K, sc, (fc_wo γ π r, π), m) none) : am_call d 27 [.inr (some 149), .inr (some (5 + 14 * r))] (K, sc, (γ, π), m) Q := by
  obtain ⟨d, rfl⟩ : ∃ d', d = d' + 1 := ⟨d - 1, by omega⟩
  refine r_enter (by decide) (Nat.le_of_ble_eq_true rfl) (ls := [some (.inr (some 149)), some (.inr (some (5 + 14 * r))), none, none]) rfl ?_
  refine r_push at_27_0 <| r_istoreL (ls' := [_, _, _, _]) at_27_1 rfl <| ?_
  refine am_for 5 (fun u z => ∀ u3 : Option am_V, am_w d 27 Q 2 [some (.inr (some 149)), some (.inr (some (5 + 14 * r))), some (.inl (nI u)), u3] [] (K, sc, (z, π), m)) (fc_wo_u π r) (fun u hi_u z hk_u => ?_) γ ?_ none
  · intro u3
    refine r_iload at_27_2 rfl <| r_push at_27_3 <| r_cmgeNT u 5 at_27_4 rfl rfl (by omega) (by omega) (by omega) <| ?_
    refine r_push at_27_7 <| r_istoreL (ls' := [_, _, _, _]) at_27_8 rfl <| ?_
    refine am_for 5 (fun v z => am_w d 27 Q 9 [some (.inr (some 149)), some (.inr (some (5 + 14 * r))), some (.inl (nI u)), some (.inl (nI v))] [] (K, sc, (z, π), m)) (fc_wo_v π r u) (fun v hi_v z hk_v => ?_) z ?_
    · refine r_iload at_27_9 rfl <| r_push at_27_10 <| r_cmgeNT v 5 at_27_11 rfl rfl (by omega) (by omega) (by omega) <| ?_
      refine r_aload at_27_14 rfl <| c_getP 1300 at_27_15 rfl (by decide) (T.lRo) T.2.2.2.2.2.1.1 <| r_iload at_27_18 rfl <| c_aald 1400 u at_27_19 rfl (by decide) (T.lEd) rfl (by omega) (by decide) ((T.2.2.2.2.2.2 u (by omega)).1) <| r_iload at_27_20 rfl <| r_aload at_27_21 rfl <| r_iload at_27_22 rfl <| c_aald 500 u at_27_23 rfl (by decide) (T.lHe (r := r) (by omega)) rfl (by omega) (by decide) rfl <| r_aload at_27_24 rfl <| r_iload at_27_25 rfl <| c_aald 500 v at_27_26 rfl (by decide) (T.lHe (r := r) (by omega)) rfl (by omega) (by decide) rfl <| r_iload at_27_27 rfl <| r_iload at_27_28 rfl <| r_callS4i at_27_29 (Nat.le_of_ble_eq_true rfl) (fun _ hq => c_edge (by omega) (fun _ e => hH r (by omega) _ (by omega) _ e) (fun _ e => hH r (by omega) _ (by omega) _ e) (by omega) (by omega) hq) <| c_ast 1500 v at_27_32 rfl (by decide) (T.lEr (u := u) (by omega)) rfl (by omega) (by decide) <| r_aload at_27_33 rfl <| c_getP 1301 at_27_34 rfl (by decide) (T.lRo) T.2.2.2.2.2.1.2 <| r_iload at_27_37 rfl <| c_aald 1600 u at_27_38 rfl (by decide) (T.lDs) rfl (by omega) (by decide) ((T.2.2.2.2.2.2 u (by omega)).2) <| r_iload at_27_39 rfl <| r_iload at_27_40 rfl <| r_iload at_27_41 rfl <| r_cmneN u v at_27_42 rfl rfl (by omega) (by omega) (fun h42_1 => ?_) (fun h42_1 => ?_)
      · refine r_push at_27_45 <| r_goto at_27_46 <| c_ast 1700 v at_27_57 rfl (by decide) (T.lDr (u := u) (by omega)) rfl (by omega) (by decide) <| r_iincNL (ls' := [_, _, _, _]) v at_27_58 rfl rfl <| r_goto at_27_61 <| ?_
        have e : (fc_wo_v π r u) v z = am_u (am_u z 1500 (151 + u) v (fc_edge z (π 500 (5 + 14 * r) u) (π 500 (5 + 14 * r) v) u v)) 1700 (157 + u) v 0 := by simp only [fc_wo_v, fc_wo2, if_pos h42_1]
        rw [e] at hk_v
        exact hk_v
      · refine r_aload at_27_49 rfl <| c_getP 1300 at_27_50 rfl (by decide) (T.lRo) T.2.2.2.2.2.1.1 <| r_iload at_27_53 rfl <| c_aald 1400 u at_27_54 rfl (by decide) (T.lEd) rfl (by omega) (by decide) ((T.2.2.2.2.2.2 u (by omega)).1) <| r_iload at_27_55 rfl <| c_ald 1500 v at_27_56 rfl (by decide) (T.lEr (u := u) (by omega)) rfl (by omega) (by decide) <| c_ast 1700 v at_27_57 rfl (by decide) (T.lDr (u := u) (by omega)) rfl (by omega) (by decide) <| r_iincNL (ls' := [_, _, _, _]) v at_27_58 rfl rfl <| r_goto at_27_61 <| ?_
        have e : (fc_wo_v π r u) v z = am_u (am_u z 1500 (151 + u) v (fc_edge z (π 500 (5 + 14 * r) u) (π 500 (5 + 14 * r) v) u v)) 1700 (157 + u) v ((am_u z 1500 (151 + u) v (fc_edge z (π 500 (5 + 14 * r) u) (π 500 (5 + 14 * r) v) u v)) 1500 (151 + u) v) := by simp only [fc_wo_v, fc_wo2, if_neg h42_1]
        rw [e] at hk_v
        exact hk_v
    · generalize hz9 : am_it (fc_wo_v π r u) 5 z = y9
      refine r_iload at_27_9 rfl <| r_push at_27_10 <| r_cmgeNF 5 5 at_27_11 rfl rfl (by omega) (by omega) (by omega) <| ?_
      refine r_iincNL (ls' := [_, _, _, _]) u at_27_64 rfl rfl <| r_goto at_27_67 <| ?_
      have e : (fc_wo_u π r) u z = y9 := by simp only [fc_wo_u, hz9]
      rw [e] at hk_u
      exact hk_u _
  · intro u3
    generalize hz2 : am_it (fc_wo_u π r) 5 γ = y2
    refine r_iload at_27_2 rfl <| r_push at_27_3 <| r_cmgeNF 5 5 at_27_4 rfl rfl (by omega) (by omega) (by omega) <| ?_
    refine r_push at_27_70 <| r_istoreL (ls' := [_, _, _, _]) at_27_71 rfl <| ?_
    refine am_for 5 (fun w z => ∀ u3 : Option am_V, am_w d 27 Q 72 [some (.inr (some 149)), some (.inr (some (5 + 14 * r))), some (.inl (nI w)), u3] [] (K, sc, (z, π), m)) (fc_st) (fun w hi_w z hk_w => ?_) y2 ?_ u3
    · intro u3
      refine r_iload at_27_72 rfl <| r_push at_27_73 <| r_cmgeNT w 5 at_27_74 rfl rfl (by omega) (by omega) (by omega) <| ?_
      refine r_aload at_27_77 rfl <| r_iload at_27_78 rfl <| r_callV1v at_27_79 (T.lRo) (Nat.le_of_ble_eq_true rfl) (fun _ hq => c_shorten (by omega) T (by omega) hq) <| r_iincNL (ls' := [_, _, _, _]) w at_27_82 rfl rfl <| r_goto at_27_85 <| ?_
      have e : (fc_st) w z = fc_st w z := by simp only []
      rw [e] at hk_w
      exact hk_w _
    · intro u3
      generalize hz72 : am_it (fc_st) 5 y2 = y72
      refine r_iload at_27_72 rfl <| r_push at_27_73 <| r_cmgeNF 5 5 at_27_74 rfl rfl (by omega) (by omega) (by omega) <| ?_
      refine r_ret at_27_88 ?_
      have e : fc_wo γ π r = y72 := by simp only [fc_wo, hz2, hz72]
      rw [e] at hq
      exact hq
theorem c_firstHop {d : Nat} {Q : am_Q} {K : am_K} {sc : am_Sc} {γ : am_I} {π : am_P} {m : am_M} {r v : Nat} (hd : 1 ≤ d) (T : am_TC K π) (hr : r < 5) (hv : v < 5) (hq : Q (K, sc, (γ, π), m) (some (.inl (fc_fhop γ r v)))) : am_call d 30 [.inr (some 149), .inl (nI r), .inl (nI v)] (K, sc, (γ, π), m) Q := by
  obtain ⟨d, rfl⟩ : ∃ d', d = d' + 1 := ⟨d - 1, by omega⟩
  refine r_enter (by decide) (Nat.le_of_ble_eq_true rfl) (ls := [some (.inr (some 149)), some (.inl (nI r)), some (.inl (nI v)), none]) rfl ?_
  refine r_iload at_30_0 rfl <| r_iload at_30_1 rfl <| r_cmeqN r v at_30_2 rfl rfl (by omega) (by omega) (fun h2_1 => ?_) (fun h2_1 => ?_)
  · refine r_push at_30_19 <| ?_
    refine r_iret at_30_20 ?_
    have e : fc_fhop γ r v = (-1) := by simp only [fc_fhop, if_pos h2_1]
    rw [e] at hq
    exact hq
  · refine r_aload at_30_5 rfl <| c_getP 1301 at_30_6 rfl (by decide) (T.lRo) T.2.2.2.2.2.1.2 <| r_iload at_30_9 rfl <| c_aald 1600 r at_30_10 rfl (by decide) (T.lDs) rfl (by omega) (by decide) ((T.2.2.2.2.2.2 r (by omega)).2) <| r_iload at_30_11 rfl <| c_ald 1700 v at_30_12 rfl (by decide) (T.lDr (u := r) (by omega)) rfl (by omega) (by decide) <| r_push at_30_13 <| r_cmne at_30_16 (fun h16_2 => ?_) (fun h16_2 => ?_)
    · refine r_push at_30_19 <| ?_
      refine r_iret at_30_20 ?_
      have e : fc_fhop γ r v = (-1) := by simp only [fc_fhop, if_neg h2_1, if_pos h16_2]
      rw [e] at hq
      exact hq
    · refine r_push at_30_21 <| r_istoreL (ls' := [_, _, _, _]) at_30_22 rfl <| ?_
      have L : ∀ k n, n + k = 5 → Q (K, sc, (γ, π), m) (some (.inl (fc_fh γ r v k n))) → am_w d 30 Q 23 [some (.inr (some 149)), some (.inl (nI r)), some (.inl (nI v)), some (.inl (nI n))] [] (K, sc, (γ, π), m) := by
        clear hq
        intro k
        induction k with
        | zero =>
          intro n hn hq
          refine r_iload at_30_23 rfl <| r_push at_30_24 <| r_cmgeNF n 5 at_30_25 rfl rfl (by omega) (by omega) (by omega) <| r_push at_30_64 <| ?_
          refine r_iret at_30_65 ?_
          exact hq
        | succ k ih =>
          intro n hn hq
          refine r_iload at_30_23 rfl <| r_push at_30_24 <| r_cmgeNT n 5 at_30_25 rfl rfl (by omega) (by omega) (by omega) <| r_aload at_30_28 rfl <| c_getP 1300 at_30_29 rfl (by decide) (T.lRo) T.2.2.2.2.2.1.1 <| r_iload at_30_32 rfl <| c_aald 1400 r at_30_33 rfl (by decide) (T.lEd) rfl (by omega) (by decide) ((T.2.2.2.2.2.2 r (by omega)).1) <| r_iload at_30_34 rfl <| c_ald 1500 n at_30_35 rfl (by decide) (T.lEr (u := r) (by omega)) rfl (by omega) (by decide) <| r_aload at_30_36 rfl <| c_getP 1301 at_30_37 rfl (by decide) (T.lRo) T.2.2.2.2.2.1.2 <| r_iload at_30_40 rfl <| c_aald 1600 n at_30_41 rfl (by decide) (T.lDs) rfl (by omega) (by decide) ((T.2.2.2.2.2.2 n (by omega)).2) <| r_iload at_30_42 rfl <| c_ald 1700 v at_30_43 rfl (by decide) (T.lDr (u := n) (by omega)) rfl (by omega) (by decide) <| r_bin at_30_44 <| r_aload at_30_45 rfl <| c_getP 1301 at_30_46 rfl (by decide) (T.lRo) T.2.2.2.2.2.1.2 <| r_iload at_30_49 rfl <| c_aald 1600 r at_30_50 rfl (by decide) (T.lDs) rfl (by omega) (by decide) ((T.2.2.2.2.2.2 r (by omega)).2) <| r_iload at_30_51 rfl <| c_ald 1700 v at_30_52 rfl (by decide) (T.lDr (u := r) (by omega)) rfl (by omega) (by decide) <| r_cmne at_30_53 (fun h53_3 => ?_) (fun h53_3 => ?_)
          · refine r_iload at_30_56 rfl <| ?_
            refine r_iret at_30_57 ?_
            have e : fc_fh γ r v (k + 1) n = (nI n) := by simp only [fc_fh, if_pos h53_3]
            rw [e] at hq
            exact hq
          · refine r_iincNL (ls' := [_, _, _, _]) n at_30_58 rfl rfl <| r_goto at_30_61 <| ?_
            refine ih (n + 1) (by omega) ?_
            have e : fc_fh γ r v (k + 1) n = fc_fh γ r v k (n + 1) := by simp only [fc_fh, if_neg h53_3]
            rw [e] at hq
            exact hq
      refine L 5 0 (by omega) ?_
      have e : fc_fhop γ r v = fc_fh γ r v 5 0 := by simp only [fc_fhop, if_neg h2_1, if_neg h16_2]
      rw [e] at hq
      exact hq
theorem c_destination {d : Nat} {Q : am_Q} {K : am_K} {sc : am_Sc} {γ : am_I} {π : am_P} {m : am_M} {r : Nat} {y : Int32} (hd : 2 ≤ d) (T : am_TC K π) (hr : r < 5) (hH : am_HD K π) (hq : Q (K, sc, (γ, π), m) (some (.inl (fc_ds γ π r y)))) : am_call d 31 [.inr (some 149), .inl (nI r), .inl y, .inr (some (5 + 14 * r))] (K, sc, (γ, π), m) Q := by
  obtain ⟨d, rfl⟩ : ∃ d', d = d' + 1 := ⟨d - 1, by omega⟩
  refine r_enter (by decide) (Nat.le_of_ble_eq_true rfl) (ls := [some (.inr (some 149)), some (.inl (nI r)), some (.inl y), some (.inr (some (5 + 14 * r))), none, none, none, none, none, none, none]) rfl ?_
  refine r_push at_31_0 <| r_istoreL (ls' := [_, _, _, _, _, _, _, _, _, _, _]) at_31_1 rfl <| r_push at_31_3 <| r_istoreL (ls' := [_, _, _, _, _, _, _, _, _, _, _]) at_31_4 rfl <| r_push at_31_6 <| r_istoreL (ls' := [_, _, _, _, _, _, _, _, _, _, _]) at_31_7 rfl <| r_push at_31_9 <| r_istoreL (ls' := [_, _, _, _, _, _, _, _, _, _, _]) at_31_10 rfl <| ?_
  refine am_for 5 (fun x z => ∀ u8 u9 u10 : Option am_V, am_w d 31 Q 12 [some (.inr (some 149)), some (.inl (nI r)), some (.inl y), some (.inr (some (5 + 14 * r))), some (.inl z.1), some (.inl z.2.1), some (.inl z.2.2), some (.inl (nI x)), u8, u9, u10] [] (K, sc, (γ, π), m)) (fc_ds_x γ π r y) (fun x hi_x z hk_x => ?_) ((-1), (-1), 0) ?_ none none none
  · obtain ⟨b, l, c⟩ := z
    dsimp only at hk_x ⊢
    intro u8 u9 u10
    refine r_iload at_31_12 rfl <| r_push at_31_14 <| r_cmgeNT x 5 at_31_15 rfl rfl (by omega) (by omega) (by omega) <| ?_
    refine r_push at_31_18 <| r_istoreL (ls' := [_, _, _, _, _, _, _, _, _, _, _]) at_31_19 rfl <| ?_
    refine am_for 2 (fun s z => ∀ u9 u10 : Option am_V, am_w d 31 Q 21 [some (.inr (some 149)), some (.inl (nI r)), some (.inl y), some (.inr (some (5 + 14 * r))), some (.inl z.1), some (.inl z.2.1), some (.inl z.2.2), some (.inl (nI x)), some (.inl (nI s)), u9, u10] [] (K, sc, (γ, π), m)) (fc_ds_s γ π r y x) (fun s hi_s z hk_s => ?_) (b, l, c) ?_ u9 u10
    · obtain ⟨b, l, c⟩ := z
      dsimp only at hk_s ⊢
      intro u9 u10
      refine r_iload at_31_21 rfl <| r_push at_31_23 <| r_cmgeNT s 2 at_31_24 rfl rfl (by omega) (by omega) (by omega) <| ?_
      refine r_aload at_31_27 rfl <| r_iload at_31_28 rfl <| c_aald 500 x at_31_30 rfl (by decide) (T.lHe (r := r) (by omega)) rfl (by omega) (by decide) rfl <| r_ifnonnull at_31_31 (fun h31_1 => ?_) (fun a31_1 h31_1 => ?_)
      · refine r_null at_31_34 <| r_goto at_31_35 <| r_astoreL (ls' := [_, _, _, _, _, _, _, _, _, _, _]) at_31_48 rfl <| r_aload at_31_50 rfl <| r_ifnullT at_31_52 <| r_iincNL (ls' := [_, _, _, _, _, _, _, _, _, _, _]) s at_31_141 rfl rfl <| r_goto at_31_144 <| ?_
        have e : (fc_ds_s γ π r y x) s (b, l, c) = (b, l, c) := by simp only [fc_ds_s, fc_ds_q, Option.elim, h31_1]
        rw [e] at hk_s
        dsimp only at hk_s
        exact hk_s _ _
      · have hD := hH r (by omega) x (by omega) _ h31_1
        refine r_aload at_31_38 rfl <| r_iload at_31_39 rfl <| c_aald 500 x at_31_41 rfl (by decide) (T.lHe (r := r) (by omega)) rfl (by omega) (by decide) h31_1 <| c_getP 1904 at_31_42 rfl (by decide) (hD.2.1.lv) hD.2.2.2.2.2.1 <| r_iload at_31_45 rfl <| c_aald 2100 s at_31_47 rfl (by decide) (hD.2.2.2.1.lv) rfl (by omega) (by decide) rfl <| r_astoreL (ls' := [_, _, _, _, _, _, _, _, _, _, _]) at_31_48 rfl <| r_aload at_31_50 rfl <| r_ifnull at_31_52 (fun h52_2 => ?_) (fun a52_2 h52_2 => ?_)
        · refine r_iincNL (ls' := [_, _, _, _, _, _, _, _, _, _, _]) s at_31_141 rfl rfl <| r_goto at_31_144 <| ?_
          have e : (fc_ds_s γ π r y x) s (b, l, c) = (b, l, c) := by simp only [fc_ds_s, fc_ds_q, Option.elim, h31_1, h52_2]
          rw [e] at hk_s
          dsimp only at hk_s
          exact hk_s _ _
        · have hS := hD.2.2.2.2.2.2 s (by omega) _ h52_2
          rw [h52_2]
          refine r_aload at_31_55 rfl <| c_getP 1301 at_31_56 rfl (by decide) (T.lRo) T.2.2.2.2.2.1.2 <| r_iload at_31_59 rfl <| c_aald 1600 r at_31_60 rfl (by decide) (T.lDs) rfl (by omega) (by decide) ((T.2.2.2.2.2.2 r (by omega)).2) <| r_iload at_31_61 rfl <| c_ald 1700 x at_31_63 rfl (by decide) (T.lDr (u := r) (by omega)) rfl (by omega) (by decide) <| r_push at_31_64 <| r_cmeq at_31_67 (fun h67_3 => ?_) (fun h67_3 => ?_)
          · refine r_iincNL (ls' := [_, _, _, _, _, _, _, _, _, _, _]) s at_31_141 rfl rfl <| r_goto at_31_144 <| ?_
            have e : (fc_ds_s γ π r y x) s (b, l, c) = (b, l, c) := by simp only [fc_ds_s, fc_ds_q, Option.elim, h31_1, h52_2, if_pos h67_3]
            rw [e] at hk_s
            dsimp only at hk_s
            exact hk_s _ _
          · refine r_aload at_31_70 rfl <| r_iload at_31_72 rfl <| r_callV1i at_31_73 (hS.2.lv) (Nat.le_of_ble_eq_true rfl) (fun _ hq => c_fits (by omega) hS.2 hq) <| r_ifne at_31_76 (fun h76_4 => ?_) (fun h76_4 => ?_)
            · refine r_goto at_31_79 <| r_iincNL (ls' := [_, _, _, _, _, _, _, _, _, _, _]) s at_31_141 rfl rfl <| r_goto at_31_144 <| ?_
              have e : (fc_ds_s γ π r y x) s (b, l, c) = (b, l, c) := by simp only [fc_ds_s, fc_ds_q, Option.elim, h31_1, h52_2, if_neg h67_3, if_pos h76_4]
              rw [e] at hk_s
              dsimp only at hk_s
              exact hk_s _ _
            · refine r_aload at_31_82 rfl <| c_getP 1301 at_31_83 rfl (by decide) (T.lRo) T.2.2.2.2.2.1.2 <| r_iload at_31_86 rfl <| c_aald 1600 r at_31_87 rfl (by decide) (T.lDs) rfl (by omega) (by decide) ((T.2.2.2.2.2.2 r (by omega)).2) <| r_iload at_31_88 rfl <| c_ald 1700 x at_31_90 rfl (by decide) (T.lDr (u := r) (by omega)) rfl (by omega) (by decide) <| r_aload at_31_91 rfl <| c_getI 2202 at_31_93 rfl (by decide) (hS.2.lv) <| r_bin at_31_96 <| r_istoreL (ls' := [_, _, _, _, _, _, _, _, _, _, _]) at_31_97 rfl <| r_aload at_31_99 rfl <| c_getI 2201 at_31_101 rfl (by decide) (hS.2.lv) <| r_iload at_31_104 rfl <| r_cmgt at_31_106 (fun h106_5 => ?_) (fun h106_5 => ?_)
              · refine r_iload at_31_126 rfl <| r_istoreL (ls' := [_, _, _, _, _, _, _, _, _, _, _]) at_31_128 rfl <| r_aload at_31_130 rfl <| c_getI 2201 at_31_132 rfl (by decide) (hS.2.lv) <| r_istoreL (ls' := [_, _, _, _, _, _, _, _, _, _, _]) at_31_135 rfl <| r_iload at_31_137 rfl <| r_istoreL (ls' := [_, _, _, _, _, _, _, _, _, _, _]) at_31_139 rfl <| r_iincNL (ls' := [_, _, _, _, _, _, _, _, _, _, _]) s at_31_141 rfl rfl <| r_goto at_31_144 <| ?_
                have e : (fc_ds_s γ π r y x) s (b, l, c) = ((nI x), (γ 2201 a52_2 0), ((γ 1700 (157 + r) x) + (γ 2202 a52_2 0))) := by simp only [fc_ds_s, fc_ds_q, Option.elim, h31_1, h52_2, if_neg h67_3, if_neg h76_4, if_pos h106_5]
                rw [e] at hk_s
                dsimp only at hk_s
                exact hk_s _ _
              · refine r_aload at_31_109 rfl <| c_getI 2201 at_31_111 rfl (by decide) (hS.2.lv) <| r_iload at_31_114 rfl <| r_cmne at_31_116 (fun h116_6 => ?_) (fun h116_6 => ?_)
                · refine r_iload at_31_119 rfl <| r_iload at_31_121 rfl <| r_cmge at_31_123 (fun h123_7 => ?_) (fun h123_7 => ?_)
                  · refine r_iload at_31_126 rfl <| r_istoreL (ls' := [_, _, _, _, _, _, _, _, _, _, _]) at_31_128 rfl <| r_aload at_31_130 rfl <| c_getI 2201 at_31_132 rfl (by decide) (hS.2.lv) <| r_istoreL (ls' := [_, _, _, _, _, _, _, _, _, _, _]) at_31_135 rfl <| r_iload at_31_137 rfl <| r_istoreL (ls' := [_, _, _, _, _, _, _, _, _, _, _]) at_31_139 rfl <| r_iincNL (ls' := [_, _, _, _, _, _, _, _, _, _, _]) s at_31_141 rfl rfl <| r_goto at_31_144 <| ?_
                    have e : (fc_ds_s γ π r y x) s (b, l, c) = ((nI x), (γ 2201 a52_2 0), ((γ 1700 (157 + r) x) + (γ 2202 a52_2 0))) := by simp only [fc_ds_s, fc_ds_q, Option.elim, h31_1, h52_2, if_neg h67_3, if_neg h76_4, if_neg h106_5, if_pos h116_6, if_pos h123_7]
                    rw [e] at hk_s
                    dsimp only at hk_s
                    exact hk_s _ _
                  · refine r_iincNL (ls' := [_, _, _, _, _, _, _, _, _, _, _]) s at_31_141 rfl rfl <| r_goto at_31_144 <| ?_
                    have e : (fc_ds_s γ π r y x) s (b, l, c) = (b, l, c) := by simp only [fc_ds_s, fc_ds_q, Option.elim, h31_1, h52_2, if_neg h67_3, if_neg h76_4, if_neg h106_5, if_pos h116_6, if_neg h123_7]
                    rw [e] at hk_s
                    dsimp only at hk_s
                    exact hk_s _ _
                · refine r_iincNL (ls' := [_, _, _, _, _, _, _, _, _, _, _]) s at_31_141 rfl rfl <| r_goto at_31_144 <| ?_
                  have e : (fc_ds_s γ π r y x) s (b, l, c) = (b, l, c) := by simp only [fc_ds_s, fc_ds_q, Option.elim, h31_1, h52_2, if_neg h67_3, if_neg h76_4, if_neg h106_5, if_neg h116_6]
                  rw [e] at hk_s
                  dsimp only at hk_s
                  exact hk_s _ _
    · intro u9 u10
      generalize hz21 : am_it (fc_ds_s γ π r y x) 2 (b, l, c) = y21
      refine r_iload at_31_21 rfl <| r_push at_31_23 <| r_cmgeNF 2 2 at_31_24 rfl rfl (by omega) (by omega) (by omega) <| ?_
      refine r_iincNL (ls' := [_, _, _, _, _, _, _, _, _, _, _]) x at_31_147 rfl rfl <| r_goto at_31_150 <| ?_
      have e : (fc_ds_x γ π r y) x (b, l, c) = (y21.1, y21.2.1, y21.2.2) := by simp only [fc_ds_x, hz21]
      rw [e] at hk_x
      dsimp only at hk_x
      exact hk_x _ _ _
  · intro u8 u9 u10
    generalize hz12 : am_it (fc_ds_x γ π r y) 5 ((-1), (-1), 0) = y12
    refine r_iload at_31_12 rfl <| r_push at_31_14 <| r_cmgeNF 5 5 at_31_15 rfl rfl (by omega) (by omega) (by omega) <| ?_
    refine r_iload at_31_153 rfl <| ?_
    refine r_iret at_31_155 ?_
    have e : fc_ds γ π r y = y12.1 := by simp only [fc_ds, hz12]
    rw [e] at hq
    exact hq
theorem c_distance {d : Nat} {Q : am_Q} {K : am_K} {sc : am_Sc} {γ : am_I} {π : am_P} {m : am_M} {x y : Int32} (hd : 3 ≤ d) (T : am_TC K π) (hH : am_HD K π) (hq : Q (K, sc, ((fc_dst γ π x y).1, π), m) (some (.inl ((fc_dst γ π x y).2)))) : am_call d 43 [.inr (some 1), .inl x, .inl y] (K, sc, (γ, π), m) Q := by
  obtain ⟨d, rfl⟩ : ∃ d', d = d' + 1 := ⟨d - 1, by omega⟩
  refine r_enter (by decide) (Nat.le_of_ble_eq_true rfl) (ls := [some (.inr (some 1)), some (.inl x), some (.inl y)]) rfl ?_
  refine r_aload at_43_0 rfl <| r_iload at_43_1 rfl <| r_callV1i at_43_2 (T.lNet) (Nat.le_of_ble_eq_true rfl) (fun _ hq => c_isOn (by omega) T hq) <| r_ifeq at_43_5 (fun h5_1 => ?_) (fun h5_1 => ?_)
  · refine r_push at_43_15 <| ?_
    refine r_iret at_43_16 ?_
    have e : fc_dst γ π x y = (γ, (-1)) := by simp only [fc_dst, if_pos h5_1]
    rw [e] at hq
    dsimp only at hq
    exact hq
  · refine r_iload at_43_8 rfl <| r_callS1i at_43_9 (Nat.le_of_ble_eq_true rfl) (fun _ hq => q_isRouter (by omega) hq) <| r_ifne at_43_12 (fun h12_2 => ?_) (fun h12_2 => ?_)
    · refine r_push at_43_15 <| ?_
      refine r_iret at_43_16 ?_
      have e : fc_dst γ π x y = (γ, (-1)) := by simp only [fc_dst, if_neg h5_1, if_pos h12_2]
      rw [e] at hq
      dsimp only at hq
      exact hq
    · obtain ⟨a, ha, rfl, hao⟩ := fc_ison_of h5_1
      obtain ⟨b, hb, rfl⟩ := fr_rtr_of h12_2
      refine r_aload at_43_17 rfl <| c_getP 102 at_43_18 rfl (by decide) (T.lNet) T.2.1.2.2.1 <| r_aload at_43_21 rfl <| c_getP 100 at_43_22 rfl (by decide) (T.lNet) T.2.1.1 <| r_iload at_43_25 rfl <| c_aald 200 a at_43_26 rfl (by decide) (T.lRs) rfl (by omega) (by decide) ((T.2.2.1 a (by omega)).1) <| c_getP 306 at_43_27 rfl (by decide) (T.lR (r := a) (by omega)) ((T.2.2.1 a (by omega)).2.2.1) <| r_callV1v at_43_30 (T.lRo) (Nat.le_of_ble_eq_true rfl) (fun _ hq => c_workOut (by omega) T (by omega) hH hq) <| r_aload at_43_33 rfl <| c_getP 102 at_43_34 rfl (by decide) (T.lNet) T.2.1.2.2.1 <| c_getP 1301 at_43_37 rfl (by decide) (T.lRo) T.2.2.2.2.2.1.2 <| r_iload at_43_40 rfl <| c_aald 1600 a at_43_41 rfl (by decide) (T.lDs) rfl (by omega) (by decide) ((T.2.2.2.2.2.2 a (by omega)).2) <| r_iload at_43_42 rfl <| c_ald 1700 b at_43_43 rfl (by decide) (T.lDr (u := a) (by omega)) rfl (by omega) (by decide) <| r_push at_43_44 <| r_cmne at_43_47 (fun h47_3 => ?_) (fun h47_3 => ?_)
      · refine r_push at_43_50 <| r_goto at_43_51 <| ?_
        refine r_iret at_43_65 ?_
        have e : fc_dst γ π (nI a) (nI b) = (fc_wo γ π a, (-1)) := by simp only [fc_dst, if_neg h5_1, if_neg h12_2, if_pos h47_3, nI_clamp (show a < 2 ^ 31 by omega), nI_clamp (show b < 2 ^ 31 by omega)]
        rw [e] at hq
        dsimp only at hq
        exact hq
      · refine r_aload at_43_54 rfl <| c_getP 102 at_43_55 rfl (by decide) (T.lNet) T.2.1.2.2.1 <| c_getP 1301 at_43_58 rfl (by decide) (T.lRo) T.2.2.2.2.2.1.2 <| r_iload at_43_61 rfl <| c_aald 1600 a at_43_62 rfl (by decide) (T.lDs) rfl (by omega) (by decide) ((T.2.2.2.2.2.2 a (by omega)).2) <| r_iload at_43_63 rfl <| c_ald 1700 b at_43_64 rfl (by decide) (T.lDr (u := a) (by omega)) rfl (by omega) (by decide) <| ?_
        refine r_iret at_43_65 ?_
        have e : fc_dst γ π (nI a) (nI b) = (fc_wo γ π a, ((fc_wo γ π a) 1700 (157 + a) b)) := by simp only [fc_dst, if_neg h5_1, if_neg h12_2, if_neg h47_3, nI_clamp (show a < 2 ^ 31 by omega), nI_clamp (show b < 2 ^ 31 by omega)]
        rw [e] at hq
        dsimp only at hq
        exact hq
theorem c_hop {d : Nat} {Q : am_Q} {K : am_K} {sc : am_Sc} {γ : am_I} {π : am_P} {m : am_M} {x y : Int32} (hd : 3 ≤ d) (T : am_TC K π) (hH : am_HD K π) (hq : Q (K, sc, ((fc_hop γ π x y).1, π), m) (some (.inl ((fc_hop γ π x y).2)))) : am_call d 44 [.inr (some 1), .inl x, .inl y] (K, sc, (γ, π), m) Q := by
  obtain ⟨d, rfl⟩ : ∃ d', d = d' + 1 := ⟨d - 1, by omega⟩
  refine r_enter (by decide) (Nat.le_of_ble_eq_true rfl) (ls := [some (.inr (some 1)), some (.inl x), some (.inl y)]) rfl ?_
  refine r_aload at_44_0 rfl <| r_iload at_44_1 rfl <| r_callV1i at_44_2 (T.lNet) (Nat.le_of_ble_eq_true rfl) (fun _ hq => c_isOn (by omega) T hq) <| r_ifeq at_44_5 (fun h5_1 => ?_) (fun h5_1 => ?_)
  · refine r_push at_44_15 <| ?_
    refine r_iret at_44_16 ?_
    have e : fc_hop γ π x y = (γ, (-1)) := by simp only [fc_hop, if_pos h5_1]
    rw [e] at hq
    dsimp only at hq
    exact hq
  · refine r_iload at_44_8 rfl <| r_callS1i at_44_9 (Nat.le_of_ble_eq_true rfl) (fun _ hq => q_isRouter (by omega) hq) <| r_ifne at_44_12 (fun h12_2 => ?_) (fun h12_2 => ?_)
    · refine r_push at_44_15 <| ?_
      refine r_iret at_44_16 ?_
      have e : fc_hop γ π x y = (γ, (-1)) := by simp only [fc_hop, if_neg h5_1, if_pos h12_2]
      rw [e] at hq
      dsimp only at hq
      exact hq
    · obtain ⟨a, ha, rfl, hao⟩ := fc_ison_of h5_1
      obtain ⟨b, hb, rfl⟩ := fr_rtr_of h12_2
      refine r_aload at_44_17 rfl <| c_getP 102 at_44_18 rfl (by decide) (T.lNet) T.2.1.2.2.1 <| r_aload at_44_21 rfl <| c_getP 100 at_44_22 rfl (by decide) (T.lNet) T.2.1.1 <| r_iload at_44_25 rfl <| c_aald 200 a at_44_26 rfl (by decide) (T.lRs) rfl (by omega) (by decide) ((T.2.2.1 a (by omega)).1) <| c_getP 306 at_44_27 rfl (by decide) (T.lR (r := a) (by omega)) ((T.2.2.1 a (by omega)).2.2.1) <| r_callV1v at_44_30 (T.lRo) (Nat.le_of_ble_eq_true rfl) (fun _ hq => c_workOut (by omega) T (by omega) hH hq) <| r_aload at_44_33 rfl <| c_getP 102 at_44_34 rfl (by decide) (T.lNet) T.2.1.2.2.1 <| r_iload at_44_37 rfl <| r_iload at_44_38 rfl <| r_callV2i at_44_39 (T.lRo) (Nat.le_of_ble_eq_true rfl) (fun _ hq => c_firstHop (by omega) T (by omega) (by omega) hq) <| ?_
      refine r_iret at_44_42 ?_
      have e : fc_hop γ π (nI a) (nI b) = (fc_wo γ π a, (fc_fhop (fc_wo γ π a) a b)) := by simp only [fc_hop, if_neg h5_1, if_neg h12_2, nI_clamp (show a < 2 ^ 31 by omega), nI_clamp (show b < 2 ^ 31 by omega)]
      rw [e] at hq
      dsimp only at hq
      exact hq
theorem c_route {d : Nat} {Q : am_Q} {K : am_K} {sc : am_Sc} {γ : am_I} {π : am_P} {m : am_M} {x y : Int32} (hd : 3 ≤ d) (T : am_TC K π) (hH : am_HD K π) (hq : Q (K, sc, ((fc_rt γ π x y).1, π), m) (some (.inl ((fc_rt γ π x y).2)))) : am_call d 45 [.inr (some 1), .inl x, .inl y] (K, sc, (γ, π), m) Q := by
  obtain ⟨d, rfl⟩ : ∃ d', d = d' + 1 := ⟨d - 1, by omega⟩
  refine r_enter (by decide) (Nat.le_of_ble_eq_true rfl) (ls := [some (.inr (some 1)), some (.inl x), some (.inl y)]) rfl ?_
  refine r_aload at_45_0 rfl <| r_iload at_45_1 rfl <| r_callV1i at_45_2 (T.lNet) (Nat.le_of_ble_eq_true rfl) (fun _ hq => c_isOn (by omega) T hq) <| r_ifeq at_45_5 (fun h5_1 => ?_) (fun h5_1 => ?_)
  · refine r_push at_45_15 <| ?_
    refine r_iret at_45_16 ?_
    have e : fc_rt γ π x y = (γ, (-1)) := by simp only [fc_rt, if_pos h5_1]
    rw [e] at hq
    dsimp only at hq
    exact hq
  · refine r_iload at_45_8 rfl <| r_callS1i at_45_9 (Nat.le_of_ble_eq_true rfl) (fun _ hq => q_isAddress (by omega) hq) <| r_ifne at_45_12 (fun h12_2 => ?_) (fun h12_2 => ?_)
    · refine r_push at_45_15 <| ?_
      refine r_iret at_45_16 ?_
      have e : fc_rt γ π x y = (γ, (-1)) := by simp only [fc_rt, if_neg h5_1, if_pos h12_2]
      rw [e] at hq
      dsimp only at hq
      exact hq
    · obtain ⟨a, ha, rfl, hao⟩ := fc_ison_of h5_1
      refine r_aload at_45_17 rfl <| c_getP 102 at_45_18 rfl (by decide) (T.lNet) T.2.1.2.2.1 <| r_aload at_45_21 rfl <| c_getP 100 at_45_22 rfl (by decide) (T.lNet) T.2.1.1 <| r_iload at_45_25 rfl <| c_aald 200 a at_45_26 rfl (by decide) (T.lRs) rfl (by omega) (by decide) ((T.2.2.1 a (by omega)).1) <| c_getP 306 at_45_27 rfl (by decide) (T.lR (r := a) (by omega)) ((T.2.2.1 a (by omega)).2.2.1) <| r_callV1v at_45_30 (T.lRo) (Nat.le_of_ble_eq_true rfl) (fun _ hq => c_workOut (by omega) T (by omega) hH hq) <| r_aload at_45_33 rfl <| c_getP 102 at_45_34 rfl (by decide) (T.lNet) T.2.1.2.2.1 <| r_iload at_45_37 rfl <| r_iload at_45_38 rfl <| r_aload at_45_39 rfl <| c_getP 100 at_45_40 rfl (by decide) (T.lNet) T.2.1.1 <| r_iload at_45_43 rfl <| c_aald 200 a at_45_44 rfl (by decide) (T.lRs) rfl (by omega) (by decide) ((T.2.2.1 a (by omega)).1) <| c_getP 306 at_45_45 rfl (by decide) (T.lR (r := a) (by omega)) ((T.2.2.1 a (by omega)).2.2.1) <| r_callV3i at_45_48 (T.lRo) (Nat.le_of_ble_eq_true rfl) (fun _ hq => c_destination (by omega) T (by omega) hH hq) <| ?_
      refine r_iret at_45_51 ?_
      have e : fc_rt γ π (nI a) y = (fc_wo γ π a, (fc_ds (fc_wo γ π a) π a y)) := by simp only [fc_rt, if_neg h5_1, if_neg h12_2, nI_clamp (show a < 2 ^ 31 by omega)]
      rw [e] at hq
      dsimp only at hq
      exact hq

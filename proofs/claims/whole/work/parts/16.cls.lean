theorem am_u_at {α : Type} {m : Nat → Nat → Nat → α} {f a i : Nat} {v : α} : am_u m f a i v f a i = v := if_pos ⟨rfl, rfl, rfl⟩
theorem am_De.wP {K : am_K} {π : am_P} {e : Nat} (h : am_De K π e) {F a i : Nat} {v : Option Nat} (hF : F = 304 ∨ F = 400 ∨ F = 500 ∨ F = 1100) : am_De K (am_u π F a i v) e := by
  obtain ⟨h0, h1, h2, h3, h4, h5, h6⟩ := h
  refine ⟨h0, h1, h2, h3, ?_, ?_, fun s hs q hq => h6 s hs q ?_⟩
  · rw [am_u_ne (by omega)]; exact h4
  · rw [am_u_ne (by omega)]; exact h5
  · rw [am_u_ne (by omega)] at hq; exact hq
def fc_max (x y : Int32) : Int32 := if x < y then y else x
def fc_adr (x : Int32) : Int32 := if x < 0 then 0 else if 255 < x then 0 else 1
def fc_pfx (v l : Int32) : Int32 := if fc_adr v = 0 then 0 else if l < 0 then 0 else if 8 < l then 0 else if v &&& (1 <<< ((8 - l) &&& 31) - 1) = 0 then 1 else 0
theorem fc_rtr5 {x : Int32} : (x < 5) ↔ ¬ 4 < x := by
  rw [Int32.lt_iff_toInt_lt, Int32.lt_iff_toInt_lt, show (5 : Int32).toInt = 5 from by decide, show (4 : Int32).toInt = 4 from by decide]
  omega
theorem q_isRouter {d : Nat} {Q : am_Q} {S : am_S} {x : Int32} (hd : 1 ≤ d)  (hq : Q S (some (.inl (fr_rtr x)))) : am_call d 48 [.inl x] S Q := by
  obtain ⟨d, rfl⟩ : ∃ d', d = d' + 1 := ⟨d - 1, by omega⟩
  refine r_enter (by decide) (Nat.le_of_ble_eq_true rfl) (ls := [some (.inl x)]) rfl ?_
  refine r_iload at_48_0 rfl <| r_iflt at_48_1 (fun h1_1 => ?_) (fun h1_1 => ?_)
  · refine r_push at_48_13 <| ?_
    refine r_zret at_48_14 (Or.inl rfl) ?_
    have e : fr_rtr x = 0 := by simp only [fr_rtr, if_pos h1_1]
    rw [e] at hq
    exact hq
  · refine r_iload at_48_4 rfl <| r_push at_48_5 <| r_cmge at_48_6 (fun h6_2 => ?_) (fun h6_2 => ?_)
    · refine r_push at_48_9 <| r_goto at_48_10 <| ?_
      refine r_zret at_48_14 (Or.inr rfl) ?_
      have g6 := fc_rtr5.mp h6_2
      have e : fr_rtr x = 1 := by simp only [fr_rtr, if_neg h1_1, if_neg g6]
      rw [e] at hq
      exact hq
    · refine r_push at_48_13 <| ?_
      refine r_zret at_48_14 (Or.inl rfl) ?_
      have g6 := fun q : ¬ 4 < x => h6_2 (fc_rtr5.mpr q)
      have g7 : 4 < x := Classical.not_not.mp g6
      have e : fr_rtr x = 0 := by simp only [fr_rtr, if_neg h1_1, if_pos g7]
      rw [e] at hq
      exact hq
theorem q_isAddress {d : Nat} {Q : am_Q} {S : am_S} {x : Int32} (hd : 1 ≤ d)  (hq : Q S (some (.inl (fc_adr x)))) : am_call d 49 [.inl x] S Q := by
  obtain ⟨d, rfl⟩ : ∃ d', d = d' + 1 := ⟨d - 1, by omega⟩
  refine r_enter (by decide) (Nat.le_of_ble_eq_true rfl) (ls := [some (.inl x)]) rfl ?_
  refine r_iload at_49_0 rfl <| r_iflt at_49_1 (fun h1_1 => ?_) (fun h1_1 => ?_)
  · refine r_push at_49_15 <| ?_
    refine r_zret at_49_16 (Or.inl rfl) ?_
    have e : fc_adr x = 0 := by simp only [fc_adr, if_pos h1_1]
    rw [e] at hq
    exact hq
  · refine r_iload at_49_4 rfl <| r_push at_49_5 <| r_cmgt at_49_8 (fun h8_2 => ?_) (fun h8_2 => ?_)
    · refine r_push at_49_15 <| ?_
      refine r_zret at_49_16 (Or.inl rfl) ?_
      have e : fc_adr x = 0 := by simp only [fc_adr, if_neg h1_1, if_pos h8_2]
      rw [e] at hq
      exact hq
    · refine r_push at_49_11 <| r_goto at_49_12 <| ?_
      refine r_zret at_49_16 (Or.inr rfl) ?_
      have e : fc_adr x = 1 := by simp only [fc_adr, if_neg h1_1, if_neg h8_2]
      rw [e] at hq
      exact hq
theorem q_isPrefix {d : Nat} {Q : am_Q} {S : am_S} {v l : Int32} (hd : 2 ≤ d)  (hq : Q S (some (.inl (fc_pfx v l)))) : am_call d 50 [.inl v, .inl l] S Q := by
  obtain ⟨d, rfl⟩ : ∃ d', d = d' + 1 := ⟨d - 1, by omega⟩
  refine r_enter (by decide) (Nat.le_of_ble_eq_true rfl) (ls := [some (.inl v), some (.inl l), none]) rfl ?_
  refine r_iload at_50_0 rfl <| r_callS1i at_50_1 (Nat.le_of_ble_eq_true rfl) (fun _ hq => q_isAddress (by omega) hq) <| r_ifeq at_50_4 (fun h4_1 => ?_) (fun h4_1 => ?_)
  · refine r_push at_50_17 <| ?_
    refine r_zret at_50_18 (Or.inl rfl) ?_
    have e : fc_pfx v l = 0 := by simp only [fc_pfx, if_pos h4_1]
    rw [e] at hq
    exact hq
  · refine r_iload at_50_7 rfl <| r_iflt at_50_8 (fun h8_2 => ?_) (fun h8_2 => ?_)
    · refine r_push at_50_17 <| ?_
      refine r_zret at_50_18 (Or.inl rfl) ?_
      have e : fc_pfx v l = 0 := by simp only [fc_pfx, if_neg h4_1, if_pos h8_2]
      rw [e] at hq
      exact hq
    · refine r_iload at_50_11 rfl <| r_push at_50_12 <| r_cmle at_50_14 (fun h14_3 => ?_) (fun h14_3 => ?_)
      · refine r_push at_50_17 <| ?_
        refine r_zret at_50_18 (Or.inl rfl) ?_
        have e : fc_pfx v l = 0 := by simp only [fc_pfx, if_neg h4_1, if_neg h8_2, if_pos h14_3]
        rw [e] at hq
        exact hq
      · refine r_push at_50_19 <| r_push at_50_20 <| r_iload at_50_22 rfl <| r_bin at_50_23 <| r_bin at_50_24 <| r_push at_50_25 <| r_bin at_50_26 <| r_istoreL (ls' := [_, _, _]) at_50_27 rfl <| r_iload at_50_28 rfl <| r_iload at_50_29 rfl <| r_bin at_50_30 <| r_ifne at_50_31 (fun h31_4 => ?_) (fun h31_4 => ?_)
        · refine r_push at_50_34 <| r_goto at_50_35 <| ?_
          refine r_zret at_50_39 (Or.inr rfl) ?_
          have e : fc_pfx v l = 1 := by simp only [fc_pfx, if_neg h4_1, if_neg h8_2, if_neg h14_3, if_pos h31_4]
          rw [e] at hq
          exact hq
        · refine r_push at_50_38 <| ?_
          refine r_zret at_50_39 (Or.inl rfl) ?_
          have e : fc_pfx v l = 0 := by simp only [fc_pfx, if_neg h4_1, if_neg h8_2, if_neg h14_3, if_neg h31_4]
          rw [e] at hq
          exact hq
def fc_on_b (r n x : Nat) (γ : am_I) : am_I := am_u γ 800 (8 + 14 * r + 2 * n) x (-2)
def fc_on (γ : am_I) (r n : Nat) : am_I := am_it (fc_on_b r n) 5 γ
def fc_fg (γ : am_I) (r n : Nat) : am_I := fc_on (am_u (am_u (am_u (am_u γ 702 (7 + 14 * r + 2 * n) 0 0) 704 (7 + 14 * r + 2 * n) 0 0) 705 (7 + 14 * r + 2 * n) 0 0) 706 (7 + 14 * r + 2 * n) 0 0) r n
def fc_sc (γ : am_I) (r n : Nat) (z : Int32) : am_I := if z = 0 then fc_fg (am_u (am_u γ 700 (7 + 14 * r + 2 * n) 0 z) 701 (7 + 14 * r + 2 * n) 0 0) r n else am_u γ 700 (7 + 14 * r + 2 * n) 0 z
def fc_ow (γ : am_I) (r n x : Nat) : am_I := if γ 800 (8 + 14 * r + 2 * n) x = -2 then am_u γ 800 (8 + 14 * r + 2 * n) x (-1) else γ
def fc_jd1 (γ : am_I) (r n : Nat) (t : Int32) : am_I := if t - 5 < γ 704 (7 + 14 * r + 2 * n) 0 then γ else am_u (am_u γ 702 (7 + 14 * r + 2 * n) 0 0) 705 (7 + 14 * r + 2 * n) 0 0
def fc_now (γ : am_I) (r n : Nat) : Int32 := if γ 702 (7 + 14 * r + 2 * n) 0 = 0 then 0 else if γ 705 (7 + 14 * r + 2 * n) 0 = 0 then 0 else 1
def fc_jd3 (γ : am_I) (r n : Nat) (w : Int32) : am_I := if w = 0 then fc_on γ r n else γ
def fc_jd2 (γ : am_I) (r n : Nat) (w : Int32) : am_I := fc_jd3 (am_u (am_u γ 706 (7 + 14 * r + 2 * n) 0 w) 707 (7 + 14 * r + 2 * n) 0 (if w = 0 then 0 else if γ 706 (7 + 14 * r + 2 * n) 0 = 0 then 1 else 0)) r n w
def fc_jd4 (γ : am_I) (r n : Nat) : am_I := fc_jd2 γ r n (fc_now γ r n)
def fc_jd (γ : am_I) (r n : Nat) (t : Int32) : am_I := fc_jd4 (fc_jd1 γ r n t) r n
def fc_cl (γ : am_I) (r n : Nat) : Int32 := if γ 706 (7 + 14 * r + 2 * n) 0 = 0 then 0 else γ 700 (7 + 14 * r + 2 * n) 0
theorem c_oweNothing {d : Nat} {Q : am_Q} {K : am_K} {sc : am_Sc} {γ : am_I} {π : am_P} {m : am_M} {r n : Nat} (hd : 1 ≤ d) (T : am_TC K π) (hr : r < 5) (hn : n < 5) (hq : Q (K, sc, (fc_on γ r n, π), m) none) : am_call d 10 [.inr (some (7 + 14 * r + 2 * n))] (K, sc, (γ, π), m) Q := by
  obtain ⟨d, rfl⟩ : ∃ d', d = d' + 1 := ⟨d - 1, by omega⟩
  refine r_enter (by decide) (Nat.le_of_ble_eq_true rfl) (ls := [some (.inr (some (7 + 14 * r + 2 * n))), none]) rfl ?_
  refine r_push at_10_0 <| r_istoreL (ls' := [_, _]) at_10_1 rfl <| ?_
  refine am_for 5 (fun x z => am_w d 10 Q 2 [some (.inr (some (7 + 14 * r + 2 * n))), some (.inl (nI x))] [] (K, sc, (z, π), m)) (fc_on_b r n) (fun x hi_x z hk_x => ?_) γ ?_
  · refine r_iload at_10_2 rfl <| r_push at_10_3 <| r_cmgeNT x 5 at_10_4 rfl rfl (by omega) (by omega) (by omega) <| ?_
    refine r_aload at_10_7 rfl <| c_getP 708 at_10_8 rfl (by decide) (T.lE (r := r) (n := n) (by omega) (by omega)) ((T.2.2.2.1 r (by omega) n (by omega)).2) <| r_iload at_10_11 rfl <| r_push at_10_12 <| c_ast 800 x at_10_14 rfl (by decide) (T.lX (r := r) (n := n) (by omega) (by omega)) rfl (by omega) (by decide) <| r_iincNL (ls' := [_, _]) x at_10_15 rfl rfl <| r_goto at_10_18 <| ?_
    have e : (fc_on_b r n) x z = am_u z 800 (8 + 14 * r + 2 * n) x (-2) := by simp only [fc_on_b]
    rw [e] at hk_x
    exact hk_x
  · generalize hz2 : am_it (fc_on_b r n) 5 γ = y2
    refine r_iload at_10_2 rfl <| r_push at_10_3 <| r_cmgeNF 5 5 at_10_4 rfl rfl (by omega) (by omega) (by omega) <| ?_
    refine r_ret at_10_21 ?_
    have e : fc_on γ r n = y2 := by simp only [fc_on, hz2]
    rw [e] at hq
    exact hq
theorem c_forget {d : Nat} {Q : am_Q} {K : am_K} {sc : am_Sc} {γ : am_I} {π : am_P} {m : am_M} {r n : Nat} (hd : 2 ≤ d) (T : am_TC K π) (hr : r < 5) (hn : n < 5) (hq : Q (K, sc, (fc_fg γ r n, π), m) none) : am_call d 9 [.inr (some (7 + 14 * r + 2 * n))] (K, sc, (γ, π), m) Q := by
  obtain ⟨d, rfl⟩ : ∃ d', d = d' + 1 := ⟨d - 1, by omega⟩
  refine r_enter (by decide) (Nat.le_of_ble_eq_true rfl) (ls := [some (.inr (some (7 + 14 * r + 2 * n)))]) rfl ?_
  refine r_aload at_9_0 rfl <| r_push at_9_1 <| c_putZ 702 at_9_2 rfl (by decide) (T.lE (r := r) (n := n) (by omega) (by omega)) (Or.inl rfl) <| r_aload at_9_5 rfl <| r_push at_9_6 <| c_putI 704 at_9_7 rfl (by decide) (T.lE (r := r) (n := n) (by omega) (by omega)) <| r_aload at_9_10 rfl <| r_push at_9_11 <| c_putZ 705 at_9_12 rfl (by decide) (T.lE (r := r) (n := n) (by omega) (by omega)) (Or.inl rfl) <| r_aload at_9_15 rfl <| r_push at_9_16 <| c_putZ 706 at_9_17 rfl (by decide) (T.lE (r := r) (n := n) (by omega) (by omega)) (Or.inl rfl) <| r_aload at_9_20 rfl <| r_callV0v at_9_21 (T.lE (r := r) (n := n) (by omega) (by omega)) (Nat.le_of_ble_eq_true rfl) (fun _ hq => c_oweNothing (by omega) T (by omega) (by omega) hq) <| ?_
  refine r_ret at_9_24 ?_
  have e : fc_fg γ r n = fc_on (am_u (am_u (am_u (am_u γ 702 (7 + 14 * r + 2 * n) 0 0) 704 (7 + 14 * r + 2 * n) 0 0) 705 (7 + 14 * r + 2 * n) 0 0) 706 (7 + 14 * r + 2 * n) 0 0) r n := by simp only [fc_fg]
  rw [e] at hq
  exact hq
theorem c_setCost {d : Nat} {Q : am_Q} {K : am_K} {sc : am_Sc} {γ : am_I} {π : am_P} {m : am_M} {r n : Nat} {z : Int32} (hd : 3 ≤ d) (T : am_TC K π) (hr : r < 5) (hn : n < 5) (hq : Q (K, sc, (fc_sc γ r n z, π), m) none) : am_call d 8 [.inr (some (7 + 14 * r + 2 * n)), .inl z] (K, sc, (γ, π), m) Q := by
  obtain ⟨d, rfl⟩ : ∃ d', d = d' + 1 := ⟨d - 1, by omega⟩
  refine r_enter (by decide) (Nat.le_of_ble_eq_true rfl) (ls := [some (.inr (some (7 + 14 * r + 2 * n))), some (.inl z)]) rfl ?_
  refine r_aload at_8_0 rfl <| r_iload at_8_1 rfl <| c_putI 700 at_8_2 rfl (by decide) (T.lE (r := r) (n := n) (by omega) (by omega)) <| r_iload at_8_5 rfl <| r_ifne at_8_6 (fun h6_1 => ?_) (fun h6_1 => ?_)
  · refine r_aload at_8_9 rfl <| r_push at_8_10 <| c_putI 701 at_8_11 rfl (by decide) (T.lE (r := r) (n := n) (by omega) (by omega)) <| r_aload at_8_14 rfl <| r_callV0v at_8_15 (T.lE (r := r) (n := n) (by omega) (by omega)) (Nat.le_of_ble_eq_true rfl) (fun _ hq => c_forget (by omega) T (by omega) (by omega) hq) <| ?_
    refine r_ret at_8_18 ?_
    have e : fc_sc γ r n z = fc_fg (am_u (am_u γ 700 (7 + 14 * r + 2 * n) 0 z) 701 (7 + 14 * r + 2 * n) 0 0) r n := by simp only [fc_sc, if_pos h6_1]
    rw [e] at hq
    exact hq
  · refine r_ret at_8_18 ?_
    have e : fc_sc γ r n z = am_u γ 700 (7 + 14 * r + 2 * n) 0 z := by simp only [fc_sc, if_neg h6_1]
    rw [e] at hq
    exact hq
theorem c_owe {d : Nat} {Q : am_Q} {K : am_K} {sc : am_Sc} {γ : am_I} {π : am_P} {m : am_M} {r n x : Nat} (hd : 1 ≤ d) (T : am_TC K π) (hr : r < 5) (hn : n < 5) (hx : x < 5) (hq : Q (K, sc, (fc_ow γ r n x, π), m) none) : am_call d 11 [.inr (some (7 + 14 * r + 2 * n)), .inl (nI x)] (K, sc, (γ, π), m) Q := by
  obtain ⟨d, rfl⟩ : ∃ d', d = d' + 1 := ⟨d - 1, by omega⟩
  refine r_enter (by decide) (Nat.le_of_ble_eq_true rfl) (ls := [some (.inr (some (7 + 14 * r + 2 * n))), some (.inl (nI x))]) rfl ?_
  refine r_aload at_11_0 rfl <| c_getP 708 at_11_1 rfl (by decide) (T.lE (r := r) (n := n) (by omega) (by omega)) ((T.2.2.2.1 r (by omega) n (by omega)).2) <| r_iload at_11_4 rfl <| c_ald 800 x at_11_5 rfl (by decide) (T.lX (r := r) (n := n) (by omega) (by omega)) rfl (by omega) (by decide) <| r_push at_11_6 <| r_cmne at_11_8 (fun h8_1 => ?_) (fun h8_1 => ?_)
  · refine r_aload at_11_11 rfl <| c_getP 708 at_11_12 rfl (by decide) (T.lE (r := r) (n := n) (by omega) (by omega)) ((T.2.2.2.1 r (by omega) n (by omega)).2) <| r_iload at_11_15 rfl <| r_push at_11_16 <| c_ast 800 x at_11_17 rfl (by decide) (T.lX (r := r) (n := n) (by omega) (by omega)) rfl (by omega) (by decide) <| ?_
    refine r_ret at_11_18 ?_
    have e : fc_ow γ r n x = am_u γ 800 (8 + 14 * r + 2 * n) x (-1) := by simp only [fc_ow, if_pos h8_1]
    rw [e] at hq
    exact hq
  · refine r_ret at_11_18 ?_
    have e : fc_ow γ r n x = γ := by simp only [fc_ow, if_neg h8_1]
    rw [e] at hq
    exact hq
theorem c_judge {d : Nat} {Q : am_Q} {K : am_K} {sc : am_Sc} {γ : am_I} {π : am_P} {m : am_M} {r n : Nat} {t : Int32} (hd : 2 ≤ d) (T : am_TC K π) (hr : r < 5) (hn : n < 5) (hq : Q (K, sc, (fc_jd γ r n t, π), m) none) : am_call d 12 [.inr (some (7 + 14 * r + 2 * n)), .inl t] (K, sc, (γ, π), m) Q := by
  obtain ⟨d, rfl⟩ : ∃ d', d = d' + 1 := ⟨d - 1, by omega⟩
  refine r_enter (by decide) (Nat.le_of_ble_eq_true rfl) (ls := [some (.inr (some (7 + 14 * r + 2 * n))), some (.inl t), none]) rfl ?_
  refine r_aload at_12_0 rfl <| c_getI 704 at_12_1 rfl (by decide) (T.lE (r := r) (n := n) (by omega) (by omega)) <| r_iload at_12_4 rfl <| r_push at_12_5 <| r_bin at_12_6 <| r_cmgt at_12_7 (fun h7_1 => ?_) (fun h7_1 => ?_)
  · refine r_aload at_12_20 rfl <| c_getI 706 at_12_21 rfl (by decide) (T.lE (r := r) (n := n) (by omega) (by omega)) <| r_istoreL (ls' := [_, _, _]) at_12_24 rfl <| r_aload at_12_25 rfl <| r_aload at_12_26 rfl <| c_getI 702 at_12_27 rfl (by decide) (T.lE (r := r) (n := n) (by omega) (by omega)) <| r_ifeq at_12_30 (fun h30_2 => ?_) (fun h30_2 => ?_)
    · refine r_push at_12_44 <| c_putZ 706 at_12_45 rfl (by decide) (T.lE (r := r) (n := n) (by omega) (by omega)) (Or.inl rfl) <| r_aload at_12_48 rfl <| r_aload at_12_49 rfl <| c_getI 706 at_12_50 rfl (by decide) (T.lE (r := r) (n := n) (by omega) (by omega)) <| r_ifeqT at_12_53 (by rw [am_u_at]) <| r_push at_12_64 <| c_putZ 707 at_12_65 rfl (by decide) (T.lE (r := r) (n := n) (by omega) (by omega)) (Or.inl rfl) <| r_aload at_12_68 rfl <| c_getI 706 at_12_69 rfl (by decide) (T.lE (r := r) (n := n) (by omega) (by omega)) <| r_ifneT at_12_72 (by rw [am_u_ne (by decide), am_u_at]) <| r_aload at_12_75 rfl <| r_callV0v at_12_76 (T.lE (r := r) (n := n) (by omega) (by omega)) (Nat.le_of_ble_eq_true rfl) (fun _ hq => c_oweNothing (by omega) T (by omega) (by omega) hq) <| ?_
      refine r_ret at_12_79 ?_
      have e : fc_jd γ r n t = fc_on (am_u (am_u γ 706 (7 + 14 * r + 2 * n) 0 0) 707 (7 + 14 * r + 2 * n) 0 0) r n := by simp only [fc_jd, fc_jd1, fc_jd4, fc_now, fc_jd2, fc_jd3, if_pos h7_1, if_pos h30_2, if_true, if_neg (show ¬ (1 : Int32) = 0 by decide)]
      rw [e] at hq
      exact hq
    · refine r_aload at_12_33 rfl <| c_getI 705 at_12_34 rfl (by decide) (T.lE (r := r) (n := n) (by omega) (by omega)) <| r_ifeq at_12_37 (fun h37_3 => ?_) (fun h37_3 => ?_)
      · refine r_push at_12_44 <| c_putZ 706 at_12_45 rfl (by decide) (T.lE (r := r) (n := n) (by omega) (by omega)) (Or.inl rfl) <| r_aload at_12_48 rfl <| r_aload at_12_49 rfl <| c_getI 706 at_12_50 rfl (by decide) (T.lE (r := r) (n := n) (by omega) (by omega)) <| r_ifeqT at_12_53 (by rw [am_u_at]) <| r_push at_12_64 <| c_putZ 707 at_12_65 rfl (by decide) (T.lE (r := r) (n := n) (by omega) (by omega)) (Or.inl rfl) <| r_aload at_12_68 rfl <| c_getI 706 at_12_69 rfl (by decide) (T.lE (r := r) (n := n) (by omega) (by omega)) <| r_ifneT at_12_72 (by rw [am_u_ne (by decide), am_u_at]) <| r_aload at_12_75 rfl <| r_callV0v at_12_76 (T.lE (r := r) (n := n) (by omega) (by omega)) (Nat.le_of_ble_eq_true rfl) (fun _ hq => c_oweNothing (by omega) T (by omega) (by omega) hq) <| ?_
        refine r_ret at_12_79 ?_
        have e : fc_jd γ r n t = fc_on (am_u (am_u γ 706 (7 + 14 * r + 2 * n) 0 0) 707 (7 + 14 * r + 2 * n) 0 0) r n := by simp only [fc_jd, fc_jd1, fc_jd4, fc_now, fc_jd2, fc_jd3, if_pos h7_1, if_neg h30_2, if_pos h37_3, if_true, if_neg (show ¬ (1 : Int32) = 0 by decide)]
        rw [e] at hq
        exact hq
      · refine r_push at_12_40 <| r_goto at_12_41 <| c_putZ 706 at_12_45 rfl (by decide) (T.lE (r := r) (n := n) (by omega) (by omega)) (Or.inr rfl) <| r_aload at_12_48 rfl <| r_aload at_12_49 rfl <| c_getI 706 at_12_50 rfl (by decide) (T.lE (r := r) (n := n) (by omega) (by omega)) <| r_ifeqF at_12_53 (by rw [am_u_at]; decide) <| r_iload at_12_56 rfl <| r_ifne at_12_57 (fun h57_4 => ?_) (fun h57_4 => ?_)
        · refine r_push at_12_60 <| r_goto at_12_61 <| c_putZ 707 at_12_65 rfl (by decide) (T.lE (r := r) (n := n) (by omega) (by omega)) (Or.inr rfl) <| r_aload at_12_68 rfl <| c_getI 706 at_12_69 rfl (by decide) (T.lE (r := r) (n := n) (by omega) (by omega)) <| r_ifneF at_12_72 (by rw [am_u_ne (by decide), am_u_at]; decide) <| ?_
          refine r_ret at_12_79 ?_
          have e : fc_jd γ r n t = am_u (am_u γ 706 (7 + 14 * r + 2 * n) 0 1) 707 (7 + 14 * r + 2 * n) 0 1 := by simp only [fc_jd, fc_jd1, fc_jd4, fc_now, fc_jd2, fc_jd3, if_pos h7_1, if_neg h30_2, if_neg h37_3, if_pos h57_4, if_true, if_neg (show ¬ (1 : Int32) = 0 by decide)]
          rw [e] at hq
          exact hq
        · refine r_push at_12_64 <| c_putZ 707 at_12_65 rfl (by decide) (T.lE (r := r) (n := n) (by omega) (by omega)) (Or.inl rfl) <| r_aload at_12_68 rfl <| c_getI 706 at_12_69 rfl (by decide) (T.lE (r := r) (n := n) (by omega) (by omega)) <| r_ifneF at_12_72 (by rw [am_u_ne (by decide), am_u_at]; decide) <| ?_
          refine r_ret at_12_79 ?_
          have e : fc_jd γ r n t = am_u (am_u γ 706 (7 + 14 * r + 2 * n) 0 1) 707 (7 + 14 * r + 2 * n) 0 0 := by simp only [fc_jd, fc_jd1, fc_jd4, fc_now, fc_jd2, fc_jd3, if_pos h7_1, if_neg h30_2, if_neg h37_3, if_neg h57_4, if_true, if_neg (show ¬ (1 : Int32) = 0 by decide)]
          rw [e] at hq
          exact hq
  · refine r_aload at_12_10 rfl <| r_push at_12_11 <| c_putZ 702 at_12_12 rfl (by decide) (T.lE (r := r) (n := n) (by omega) (by omega)) (Or.inl rfl) <| r_aload at_12_15 rfl <| r_push at_12_16 <| c_putZ 705 at_12_17 rfl (by decide) (T.lE (r := r) (n := n) (by omega) (by omega)) (Or.inl rfl) <| r_aload at_12_20 rfl <| c_getI 706 at_12_21 rfl (by decide) (T.lE (r := r) (n := n) (by omega) (by omega)) <| r_istoreL (ls' := [_, _, _]) at_12_24 rfl <| r_aload at_12_25 rfl <| r_aload at_12_26 rfl <| c_getI 702 at_12_27 rfl (by decide) (T.lE (r := r) (n := n) (by omega) (by omega)) <| r_ifeq at_12_30 (fun h30_5 => ?_) (fun h30_5 => ?_)
    · refine r_push at_12_44 <| c_putZ 706 at_12_45 rfl (by decide) (T.lE (r := r) (n := n) (by omega) (by omega)) (Or.inl rfl) <| r_aload at_12_48 rfl <| r_aload at_12_49 rfl <| c_getI 706 at_12_50 rfl (by decide) (T.lE (r := r) (n := n) (by omega) (by omega)) <| r_ifeqT at_12_53 (by rw [am_u_at]) <| r_push at_12_64 <| c_putZ 707 at_12_65 rfl (by decide) (T.lE (r := r) (n := n) (by omega) (by omega)) (Or.inl rfl) <| r_aload at_12_68 rfl <| c_getI 706 at_12_69 rfl (by decide) (T.lE (r := r) (n := n) (by omega) (by omega)) <| r_ifneT at_12_72 (by rw [am_u_ne (by decide), am_u_at]) <| r_aload at_12_75 rfl <| r_callV0v at_12_76 (T.lE (r := r) (n := n) (by omega) (by omega)) (Nat.le_of_ble_eq_true rfl) (fun _ hq => c_oweNothing (by omega) T (by omega) (by omega) hq) <| ?_
      refine r_ret at_12_79 ?_
      have e : fc_jd γ r n t = fc_on (am_u (am_u (am_u (am_u γ 702 (7 + 14 * r + 2 * n) 0 0) 705 (7 + 14 * r + 2 * n) 0 0) 706 (7 + 14 * r + 2 * n) 0 0) 707 (7 + 14 * r + 2 * n) 0 0) r n := by simp only [fc_jd, fc_jd1, fc_jd4, fc_now, fc_jd2, fc_jd3, if_neg h7_1, if_pos h30_5, if_true, if_neg (show ¬ (1 : Int32) = 0 by decide)]
      rw [e] at hq
      exact hq
    · refine r_aload at_12_33 rfl <| c_getI 705 at_12_34 rfl (by decide) (T.lE (r := r) (n := n) (by omega) (by omega)) <| r_ifeq at_12_37 (fun h37_6 => ?_) (fun h37_6 => ?_)
      · refine r_push at_12_44 <| c_putZ 706 at_12_45 rfl (by decide) (T.lE (r := r) (n := n) (by omega) (by omega)) (Or.inl rfl) <| r_aload at_12_48 rfl <| r_aload at_12_49 rfl <| c_getI 706 at_12_50 rfl (by decide) (T.lE (r := r) (n := n) (by omega) (by omega)) <| r_ifeqT at_12_53 (by rw [am_u_at]) <| r_push at_12_64 <| c_putZ 707 at_12_65 rfl (by decide) (T.lE (r := r) (n := n) (by omega) (by omega)) (Or.inl rfl) <| r_aload at_12_68 rfl <| c_getI 706 at_12_69 rfl (by decide) (T.lE (r := r) (n := n) (by omega) (by omega)) <| r_ifneT at_12_72 (by rw [am_u_ne (by decide), am_u_at]) <| r_aload at_12_75 rfl <| r_callV0v at_12_76 (T.lE (r := r) (n := n) (by omega) (by omega)) (Nat.le_of_ble_eq_true rfl) (fun _ hq => c_oweNothing (by omega) T (by omega) (by omega) hq) <| ?_
        refine r_ret at_12_79 ?_
        have e : fc_jd γ r n t = fc_on (am_u (am_u (am_u (am_u γ 702 (7 + 14 * r + 2 * n) 0 0) 705 (7 + 14 * r + 2 * n) 0 0) 706 (7 + 14 * r + 2 * n) 0 0) 707 (7 + 14 * r + 2 * n) 0 0) r n := by simp only [fc_jd, fc_jd1, fc_jd4, fc_now, fc_jd2, fc_jd3, if_neg h7_1, if_neg h30_5, if_pos h37_6, if_true, if_neg (show ¬ (1 : Int32) = 0 by decide)]
        rw [e] at hq
        exact hq
      · refine r_push at_12_40 <| r_goto at_12_41 <| c_putZ 706 at_12_45 rfl (by decide) (T.lE (r := r) (n := n) (by omega) (by omega)) (Or.inr rfl) <| r_aload at_12_48 rfl <| r_aload at_12_49 rfl <| c_getI 706 at_12_50 rfl (by decide) (T.lE (r := r) (n := n) (by omega) (by omega)) <| r_ifeqF at_12_53 (by rw [am_u_at]; decide) <| r_iload at_12_56 rfl <| r_ifne at_12_57 (fun h57_7 => ?_) (fun h57_7 => ?_)
        · refine r_push at_12_60 <| r_goto at_12_61 <| c_putZ 707 at_12_65 rfl (by decide) (T.lE (r := r) (n := n) (by omega) (by omega)) (Or.inr rfl) <| r_aload at_12_68 rfl <| c_getI 706 at_12_69 rfl (by decide) (T.lE (r := r) (n := n) (by omega) (by omega)) <| r_ifneF at_12_72 (by rw [am_u_ne (by decide), am_u_at]; decide) <| ?_
          refine r_ret at_12_79 ?_
          have e : fc_jd γ r n t = am_u (am_u (am_u (am_u γ 702 (7 + 14 * r + 2 * n) 0 0) 705 (7 + 14 * r + 2 * n) 0 0) 706 (7 + 14 * r + 2 * n) 0 1) 707 (7 + 14 * r + 2 * n) 0 1 := by simp only [fc_jd, fc_jd1, fc_jd4, fc_now, fc_jd2, fc_jd3, if_neg h7_1, if_neg h30_5, if_neg h37_6, if_pos h57_7, if_true, if_neg (show ¬ (1 : Int32) = 0 by decide)]
          rw [e] at hq
          exact hq
        · refine r_push at_12_64 <| c_putZ 707 at_12_65 rfl (by decide) (T.lE (r := r) (n := n) (by omega) (by omega)) (Or.inl rfl) <| r_aload at_12_68 rfl <| c_getI 706 at_12_69 rfl (by decide) (T.lE (r := r) (n := n) (by omega) (by omega)) <| r_ifneF at_12_72 (by rw [am_u_ne (by decide), am_u_at]; decide) <| ?_
          refine r_ret at_12_79 ?_
          have e : fc_jd γ r n t = am_u (am_u (am_u (am_u γ 702 (7 + 14 * r + 2 * n) 0 0) 705 (7 + 14 * r + 2 * n) 0 0) 706 (7 + 14 * r + 2 * n) 0 1) 707 (7 + 14 * r + 2 * n) 0 0 := by simp only [fc_jd, fc_jd1, fc_jd4, fc_now, fc_jd2, fc_jd3, if_neg h7_1, if_neg h30_5, if_neg h37_6, if_neg h57_7, if_true, if_neg (show ¬ (1 : Int32) = 0 by decide)]
          rw [e] at hq
          exact hq
theorem c_costToList {d : Nat} {Q : am_Q} {K : am_K} {sc : am_Sc} {γ : am_I} {π : am_P} {m : am_M} {r n : Nat} (hd : 1 ≤ d) (T : am_TC K π) (hr : r < 5) (hn : n < 5) (hq : Q (K, sc, (γ, π), m) (some (.inl (fc_cl γ r n)))) : am_call d 13 [.inr (some (7 + 14 * r + 2 * n))] (K, sc, (γ, π), m) Q := by
  obtain ⟨d, rfl⟩ : ∃ d', d = d' + 1 := ⟨d - 1, by omega⟩
  refine r_enter (by decide) (Nat.le_of_ble_eq_true rfl) (ls := [some (.inr (some (7 + 14 * r + 2 * n)))]) rfl ?_
  refine r_aload at_13_0 rfl <| c_getI 706 at_13_1 rfl (by decide) (T.lE (r := r) (n := n) (by omega) (by omega)) <| r_ifeq at_13_4 (fun h4_1 => ?_) (fun h4_1 => ?_)
  · refine r_push at_13_14 <| ?_
    refine r_iret at_13_15 ?_
    have e : fc_cl γ r n = 0 := by simp only [fc_cl, if_pos h4_1]
    rw [e] at hq
    exact hq
  · refine r_aload at_13_7 rfl <| c_getI 700 at_13_8 rfl (by decide) (T.lE (r := r) (n := n) (by omega) (by omega)) <| r_goto at_13_11 <| ?_
    refine r_iret at_13_15 ?_
    have e : fc_cl γ r n = (γ 700 (7 + 14 * r + 2 * n) 0) := by simp only [fc_cl, if_neg h4_1]
    rw [e] at hq
    exact hq
def fc_nw (γ : am_I) (a b : Nat) : Int32 := if γ 1901 b 0 < γ 1901 a 0 then 1 else if γ 1901 a 0 = γ 1901 b 0 then if γ 1902 b 0 < γ 1902 a 0 then 1 else 0 else 0
def fc_sm (γ : am_I) (a b : Nat) : Int32 := if γ 1901 a 0 = γ 1901 b 0 then if γ 1902 a 0 = γ 1902 b 0 then 1 else 0 else 0
def fc_ft (γ : am_I) (q : Nat) (y : Int32) : Int32 := if y >>> ((8 - γ 2201 q 0) &&& 31) = γ 2200 q 0 >>> ((8 - γ 2201 q 0) &&& 31) then 1 else 0
def fc_as (γ : am_I) (a b : Nat) : Int32 := if γ 2200 a 0 = γ 2200 b 0 then if γ 2201 a 0 = γ 2201 b 0 then if γ 2202 a 0 = γ 2202 b 0 then 1 else 0 else 0 else 0
def fc_al (γ : am_I) : Option Nat → Option Nat → Int32
  | none, none => 1
  | some a, some b => fc_as γ a b
  | _, _ => 0
theorem c_isNewer {d : Nat} {Q : am_Q} {K : am_K} {sc : am_Sc} {γ : am_I} {π : am_P} {m : am_M} {a b : Nat} (hd : 1 ≤ d) (hA : am_De K π a) (hB : am_De K π b) (hq : Q (K, sc, (γ, π), m) (some (.inl (fc_nw γ a b)))) : am_call d 5 [.inr (some a), .inr (some b)] (K, sc, (γ, π), m) Q := by
  obtain ⟨d, rfl⟩ : ∃ d', d = d' + 1 := ⟨d - 1, by omega⟩
  refine r_enter (by decide) (Nat.le_of_ble_eq_true rfl) (ls := [some (.inr (some a)), some (.inr (some b))]) rfl ?_
  refine r_aload at_5_0 rfl <| c_getI 1901 at_5_1 rfl (by decide) (hA.2.1.lv) <| r_aload at_5_4 rfl <| c_getI 1901 at_5_5 rfl (by decide) (hB.2.1.lv) <| r_cmgt at_5_8 (fun h8_1 => ?_) (fun h8_1 => ?_)
  · refine r_push at_5_33 <| r_goto at_5_34 <| ?_
    refine r_zret at_5_38 (Or.inr rfl) ?_
    have e : fc_nw γ a b = 1 := by simp only [fc_nw, if_pos h8_1]
    rw [e] at hq
    exact hq
  · refine r_aload at_5_11 rfl <| c_getI 1901 at_5_12 rfl (by decide) (hA.2.1.lv) <| r_aload at_5_15 rfl <| c_getI 1901 at_5_16 rfl (by decide) (hB.2.1.lv) <| r_cmne at_5_19 (fun h19_2 => ?_) (fun h19_2 => ?_)
    · refine r_aload at_5_22 rfl <| c_getI 1902 at_5_23 rfl (by decide) (hA.2.1.lv) <| r_aload at_5_26 rfl <| c_getI 1902 at_5_27 rfl (by decide) (hB.2.1.lv) <| r_cmle at_5_30 (fun h30_3 => ?_) (fun h30_3 => ?_)
      · refine r_push at_5_33 <| r_goto at_5_34 <| ?_
        refine r_zret at_5_38 (Or.inr rfl) ?_
        have e : fc_nw γ a b = 1 := by simp only [fc_nw, if_neg h8_1, if_pos h19_2, if_pos h30_3]
        rw [e] at hq
        exact hq
      · refine r_push at_5_37 <| ?_
        refine r_zret at_5_38 (Or.inl rfl) ?_
        have e : fc_nw γ a b = 0 := by simp only [fc_nw, if_neg h8_1, if_pos h19_2, if_neg h30_3]
        rw [e] at hq
        exact hq
    · refine r_push at_5_37 <| ?_
      refine r_zret at_5_38 (Or.inl rfl) ?_
      have e : fc_nw γ a b = 0 := by simp only [fc_nw, if_neg h8_1, if_neg h19_2]
      rw [e] at hq
      exact hq
theorem c_isSame {d : Nat} {Q : am_Q} {K : am_K} {sc : am_Sc} {γ : am_I} {π : am_P} {m : am_M} {a b : Nat} (hd : 1 ≤ d) (hA : am_De K π a) (hB : am_De K π b) (hq : Q (K, sc, (γ, π), m) (some (.inl (fc_sm γ a b)))) : am_call d 6 [.inr (some a), .inr (some b)] (K, sc, (γ, π), m) Q := by
  obtain ⟨d, rfl⟩ : ∃ d', d = d' + 1 := ⟨d - 1, by omega⟩
  refine r_enter (by decide) (Nat.le_of_ble_eq_true rfl) (ls := [some (.inr (some a)), some (.inr (some b))]) rfl ?_
  refine r_aload at_6_0 rfl <| c_getI 1901 at_6_1 rfl (by decide) (hA.2.1.lv) <| r_aload at_6_4 rfl <| c_getI 1901 at_6_5 rfl (by decide) (hB.2.1.lv) <| r_cmne at_6_8 (fun h8_1 => ?_) (fun h8_1 => ?_)
  · refine r_aload at_6_11 rfl <| c_getI 1902 at_6_12 rfl (by decide) (hA.2.1.lv) <| r_aload at_6_15 rfl <| c_getI 1902 at_6_16 rfl (by decide) (hB.2.1.lv) <| r_cmne at_6_19 (fun h19_2 => ?_) (fun h19_2 => ?_)
    · refine r_push at_6_22 <| r_goto at_6_23 <| ?_
      refine r_zret at_6_27 (Or.inr rfl) ?_
      have e : fc_sm γ a b = 1 := by simp only [fc_sm, if_pos h8_1, if_pos h19_2]
      rw [e] at hq
      exact hq
    · refine r_push at_6_26 <| ?_
      refine r_zret at_6_27 (Or.inl rfl) ?_
      have e : fc_sm γ a b = 0 := by simp only [fc_sm, if_pos h8_1, if_neg h19_2]
      rw [e] at hq
      exact hq
  · refine r_push at_6_26 <| ?_
    refine r_zret at_6_27 (Or.inl rfl) ?_
    have e : fc_sm γ a b = 0 := by simp only [fc_sm, if_neg h8_1]
    rw [e] at hq
    exact hq
theorem c_fits {d : Nat} {Q : am_Q} {K : am_K} {sc : am_Sc} {γ : am_I} {π : am_P} {m : am_M} {q : Nat} {y : Int32} (hd : 1 ≤ d) (hB : am_lq K q 22) (hq : Q (K, sc, (γ, π), m) (some (.inl (fc_ft γ q y)))) : am_call d 2 [.inr (some q), .inl y] (K, sc, (γ, π), m) Q := by
  obtain ⟨d, rfl⟩ : ∃ d', d = d' + 1 := ⟨d - 1, by omega⟩
  refine r_enter (by decide) (Nat.le_of_ble_eq_true rfl) (ls := [some (.inr (some q)), some (.inl y), none]) rfl ?_
  refine r_push at_2_0 <| r_aload at_2_2 rfl <| c_getI 2201 at_2_3 rfl (by decide) (hB.lv) <| r_bin at_2_6 <| r_istoreL (ls' := [_, _, _]) at_2_7 rfl <| r_iload at_2_8 rfl <| r_iload at_2_9 rfl <| r_bin at_2_10 <| r_aload at_2_11 rfl <| c_getI 2200 at_2_12 rfl (by decide) (hB.lv) <| r_iload at_2_15 rfl <| r_bin at_2_16 <| r_cmne at_2_17 (fun h17_1 => ?_) (fun h17_1 => ?_)
  · refine r_push at_2_20 <| r_goto at_2_21 <| ?_
    refine r_zret at_2_25 (Or.inr rfl) ?_
    have e : fc_ft γ q y = 1 := by simp only [fc_ft, if_pos h17_1]
    rw [e] at hq
    exact hq
  · refine r_push at_2_24 <| ?_
    refine r_zret at_2_25 (Or.inl rfl) ?_
    have e : fc_ft γ q y = 0 := by simp only [fc_ft, if_neg h17_1]
    rw [e] at hq
    exact hq
theorem c_al00 {d : Nat} {Q : am_Q} {K : am_K} {sc : am_Sc} {γ : am_I} {π : am_P} {m : am_M} {a b : Nat} (hd : 1 ≤ d)  (hq : Q (K, sc, (γ, π), m) (some (.inl (fc_al γ none none)))) : am_call d 3 [.inr none, .inr none] (K, sc, (γ, π), m) Q := by
  obtain ⟨d, rfl⟩ : ∃ d', d = d' + 1 := ⟨d - 1, by omega⟩
  refine r_enter (by decide) (Nat.le_of_ble_eq_true rfl) (ls := [some (.inr none), some (.inr none)]) rfl ?_
  refine r_aload at_3_0 rfl <| r_ifnullT at_3_1 <| r_aload at_3_8 rfl <| r_ifnonnullT at_3_9 <| r_aload at_3_12 rfl <| r_ifnonnullT at_3_13 <| r_push at_3_16 <| r_goto at_3_17 <| ?_
  refine r_zret at_3_21 (Or.inr rfl) ?_
  have e : fc_al γ none none = 1 := by simp only [fc_al, fc_as]
  rw [e] at hq
  exact hq
theorem c_al01 {d : Nat} {Q : am_Q} {K : am_K} {sc : am_Sc} {γ : am_I} {π : am_P} {m : am_M} {a b : Nat} (hd : 1 ≤ d) (hB : am_lq K b 22) (hq : Q (K, sc, (γ, π), m) (some (.inl (fc_al γ none (some b))))) : am_call d 3 [.inr none, .inr (some b)] (K, sc, (γ, π), m) Q := by
  obtain ⟨d, rfl⟩ : ∃ d', d = d' + 1 := ⟨d - 1, by omega⟩
  refine r_enter (by decide) (Nat.le_of_ble_eq_true rfl) (ls := [some (.inr none), some (.inr (some b))]) rfl ?_
  refine r_aload at_3_0 rfl <| r_ifnullT at_3_1 <| r_aload at_3_8 rfl <| r_ifnonnullT at_3_9 <| r_aload at_3_12 rfl <| r_ifnonnullF at_3_13 <| r_push at_3_20 <| ?_
  refine r_zret at_3_21 (Or.inl rfl) ?_
  have e : fc_al γ none (some b) = 0 := by simp only [fc_al, fc_as]
  rw [e] at hq
  exact hq
theorem c_al10 {d : Nat} {Q : am_Q} {K : am_K} {sc : am_Sc} {γ : am_I} {π : am_P} {m : am_M} {a b : Nat} (hd : 1 ≤ d) (hA : am_lq K a 22) (hq : Q (K, sc, (γ, π), m) (some (.inl (fc_al γ (some a) none)))) : am_call d 3 [.inr (some a), .inr none] (K, sc, (γ, π), m) Q := by
  obtain ⟨d, rfl⟩ : ∃ d', d = d' + 1 := ⟨d - 1, by omega⟩
  refine r_enter (by decide) (Nat.le_of_ble_eq_true rfl) (ls := [some (.inr (some a)), some (.inr none)]) rfl ?_
  refine r_aload at_3_0 rfl <| r_ifnullF at_3_1 <| r_aload at_3_4 rfl <| r_ifnonnullT at_3_5 <| r_aload at_3_8 rfl <| r_ifnonnullF at_3_9 <| r_push at_3_20 <| ?_
  refine r_zret at_3_21 (Or.inl rfl) ?_
  have e : fc_al γ (some a) none = 0 := by simp only [fc_al, fc_as]
  rw [e] at hq
  exact hq
theorem c_al11 {d : Nat} {Q : am_Q} {K : am_K} {sc : am_Sc} {γ : am_I} {π : am_P} {m : am_M} {a b : Nat} (hd : 1 ≤ d) (hA : am_lq K a 22) (hB : am_lq K b 22) (hq : Q (K, sc, (γ, π), m) (some (.inl (fc_al γ (some a) (some b))))) : am_call d 3 [.inr (some a), .inr (some b)] (K, sc, (γ, π), m) Q := by
  obtain ⟨d, rfl⟩ : ∃ d', d = d' + 1 := ⟨d - 1, by omega⟩
  refine r_enter (by decide) (Nat.le_of_ble_eq_true rfl) (ls := [some (.inr (some a)), some (.inr (some b))]) rfl ?_
  refine r_aload at_3_0 rfl <| r_ifnullF at_3_1 <| r_aload at_3_4 rfl <| r_ifnonnullF at_3_5 <| r_aload at_3_22 rfl <| c_getI 2200 at_3_23 rfl (by decide) (hA.lv) <| r_aload at_3_26 rfl <| c_getI 2200 at_3_27 rfl (by decide) (hB.lv) <| r_cmne at_3_30 (fun h30_1 => ?_) (fun h30_1 => ?_)
  · refine r_aload at_3_33 rfl <| c_getI 2201 at_3_34 rfl (by decide) (hA.lv) <| r_aload at_3_37 rfl <| c_getI 2201 at_3_38 rfl (by decide) (hB.lv) <| r_cmne at_3_41 (fun h41_2 => ?_) (fun h41_2 => ?_)
    · refine r_aload at_3_44 rfl <| c_getI 2202 at_3_45 rfl (by decide) (hA.lv) <| r_aload at_3_48 rfl <| c_getI 2202 at_3_49 rfl (by decide) (hB.lv) <| r_cmne at_3_52 (fun h52_3 => ?_) (fun h52_3 => ?_)
      · refine r_push at_3_55 <| r_goto at_3_56 <| ?_
        refine r_zret at_3_60 (Or.inr rfl) ?_
        have e : fc_al γ (some a) (some b) = 1 := by simp only [fc_al, fc_as, if_pos h30_1, if_pos h41_2, if_pos h52_3]
        rw [e] at hq
        exact hq
      · refine r_push at_3_59 <| ?_
        refine r_zret at_3_60 (Or.inl rfl) ?_
        have e : fc_al γ (some a) (some b) = 0 := by simp only [fc_al, fc_as, if_pos h30_1, if_pos h41_2, if_neg h52_3]
        rw [e] at hq
        exact hq
    · refine r_push at_3_59 <| ?_
      refine r_zret at_3_60 (Or.inl rfl) ?_
      have e : fc_al γ (some a) (some b) = 0 := by simp only [fc_al, fc_as, if_pos h30_1, if_neg h41_2]
      rw [e] at hq
      exact hq
  · refine r_push at_3_59 <| ?_
    refine r_zret at_3_60 (Or.inl rfl) ?_
    have e : fc_al γ (some a) (some b) = 0 := by simp only [fc_al, fc_as, if_neg h30_1]
    rw [e] at hq
    exact hq
theorem c_alike {d : Nat} {Q : am_Q} {K : am_K} {sc : am_Sc} {γ : am_I} {π : am_P} {m : am_M} {o q : Option Nat} (hd : 1 ≤ d) (ho : ∀ a, o = some a → am_lq K a 22) (hq' : ∀ a, q = some a → am_lq K a 22) (hq : Q (K, sc, (γ, π), m) (some (.inl (fc_al γ o q)))) : am_call d 3 [.inr o, .inr q] (K, sc, (γ, π), m) Q := by
  cases o with
  | none => cases q with
    | none => exact c_al00 (a := 0) (b := 0) hd hq
    | some b => exact c_al01 (a := 0) hd (hq' b rfl) hq
  | some a => cases q with
    | none => exact c_al10 (b := 0) hd (ho a rfl) hq
    | some b => exact c_al11 hd (ho a rfl) (hq' b rfl) hq
def fc_fa_b (r n : Nat) (z : am_I × am_P) : am_I × am_P := (fc_fg z.1 r n, am_u z.2 500 (5 + 14 * r) n none)
def fc_fa (γ : am_I) (π : am_P) (r : Nat) : am_I × am_P := am_it (fc_fa_b r) 5 (am_u (am_u γ 302 (3 + 14 * r) 0 0) 303 (3 + 14 * r) 0 0, am_u π 304 (3 + 14 * r) 0 none)
def fc_dr_b (r x n : Nat) (γ : am_I) : am_I := am_u γ 800 (8 + 14 * r + 2 * n) x (-2)
def fc_dr (γ : am_I) (r x : Nat) : am_I := am_it (fc_dr_b r x) 5 γ
def fc_nh_b (r n : Nat) (γ : am_I) : am_I := am_u γ 703 (7 + 14 * r + 2 * n) 0 (γ 702 (7 + 14 * r + 2 * n) 0)
def fc_nh (γ : am_I) (r : Nat) : am_I := am_it (fc_nh_b r) 5 γ
def fc_in_b (r x f n : Nat) (γ : am_I) : am_I := am_u γ 800 (8 + 14 * r + 2 * n) x (if γ 706 (7 + 14 * r + 2 * n) 0 = 0 then -2 else if n = f then -2 else -1)
def fc_in (γ : am_I) (r x f : Nat) : am_I := am_it (fc_in_b r x f) 5 γ
def fc_od (γ : am_I) (r : Nat) (v : Int32) : am_I := am_u (am_u γ 302 (3 + 14 * r) 0 (fc_max (γ 302 (3 + 14 * r) 0) v)) 303 (3 + 14 * r) 0 1
theorem c_forgetAll {d : Nat} {Q : am_Q} {K : am_K} {sc : am_Sc} {γ : am_I} {π : am_P} {m : am_M} {r : Nat} (hd : 3 ≤ d) (T : am_TC K π) (hr : r < 5) (hq : Q (K, sc, ((fc_fa γ π r).1, (fc_fa γ π r).2), m) none) : am_call d 15 [.inr (some (3 + 14 * r))] (K, sc, (γ, π), m) Q := by
  obtain ⟨d, rfl⟩ : ∃ d', d = d' + 1 := ⟨d - 1, by omega⟩
  refine r_enter (by decide) (Nat.le_of_ble_eq_true rfl) (ls := [some (.inr (some (3 + 14 * r))), none]) rfl ?_
  refine r_aload at_15_0 rfl <| r_push at_15_1 <| c_putI 302 at_15_2 rfl (by decide) (T.lR (r := r) (by omega)) <| r_aload at_15_5 rfl <| r_push at_15_6 <| c_putZ 303 at_15_7 rfl (by decide) (T.lR (r := r) (by omega)) (Or.inl rfl) <| r_aload at_15_10 rfl <| r_null at_15_11 <| c_putP 304 at_15_12 rfl (by decide) (T.lR (r := r) (by omega)) <| r_push at_15_15 <| r_istoreL (ls' := [_, _]) at_15_16 rfl <| ?_
  refine am_forI 5 (fun n z => am_w d 15 Q 17 [some (.inr (some (3 + 14 * r))), some (.inl (nI n))] [] (K, sc, (z.1, z.2), m)) (fc_fa_b r) (fun _ z => am_TC K z.2) (fun n _ z h => h.wP (F := 500) (by omega)) (fun n hi_n z hI_n hk_n => ?_) (am_u (am_u γ 302 (3 + 14 * r) 0 0) 303 (3 + 14 * r) 0 0, am_u π 304 (3 + 14 * r) 0 none) (T.wP (F := 304) (by omega)) ?_
  · obtain ⟨γn, πn⟩ := z
    dsimp only at hk_n ⊢
    try dsimp only at hI_n
    refine r_iload at_15_17 rfl <| r_push at_15_18 <| r_cmgeNT n 5 at_15_19 rfl rfl (by omega) (by omega) (by omega) <| ?_
    refine r_aload at_15_22 rfl <| c_getP 306 at_15_23 rfl (by decide) (hI_n.lR (r := r) (by omega)) ((hI_n.2.2.1 r (by omega)).2.2.1) <| r_iload at_15_26 rfl <| r_null at_15_27 <| c_aast 500 n at_15_28 rfl (by decide) (hI_n.lHe (r := r) (by omega)) rfl (by omega) (by decide) (fun _ q => by cases q) <| r_aload at_15_29 rfl <| c_getP 307 at_15_30 rfl (by decide) ((hI_n.wP (F := 500) (a := 5 + 14 * r) (i := n) (v := none) (by omega)).lR (r := r) (by omega)) (((hI_n.wP (F := 500) (a := 5 + 14 * r) (i := n) (v := none) (by omega)).2.2.1 r (by omega)).2.2.2) <| r_iload at_15_33 rfl <| c_aald 600 n at_15_34 rfl (by decide) ((hI_n.wP (F := 500) (a := 5 + 14 * r) (i := n) (v := none) (by omega)).lEs (r := r) (by omega)) rfl (by omega) (by decide) (((hI_n.wP (F := 500) (a := 5 + 14 * r) (i := n) (v := none) (by omega)).2.2.2.1 r (by omega) n (by omega)).1) <| r_callV0v at_15_35 ((hI_n.wP (F := 500) (a := 5 + 14 * r) (i := n) (v := none) (by omega)).lE (r := r) (n := n) (by omega) (by omega)) (Nat.le_of_ble_eq_true rfl) (fun _ hq => c_forget (by omega) (hI_n.wP (F := 500) (a := 5 + 14 * r) (i := n) (v := none) (by omega)) (by omega) (by omega) hq) <| r_iincNL (ls' := [_, _]) n at_15_38 rfl rfl <| r_goto at_15_41 <| ?_
    have e : (fc_fa_b r) n (γn, πn) = (fc_fg γn r n, am_u πn 500 (5 + 14 * r) n none) := by simp only [fc_fa_b]
    rw [e] at hk_n
    dsimp only at hk_n
    exact hk_n
  · generalize hz17 : am_it (fc_fa_b r) 5 (am_u (am_u γ 302 (3 + 14 * r) 0 0) 303 (3 + 14 * r) 0 0, am_u π 304 (3 + 14 * r) 0 none) = y17
    refine r_iload at_15_17 rfl <| r_push at_15_18 <| r_cmgeNF 5 5 at_15_19 rfl rfl (by omega) (by omega) (by omega) <| ?_
    refine r_ret at_15_44 ?_
    rw [show fc_fa γ π r = y17 from by simp only [fc_fa, hz17]] at hq
    exact hq
theorem c_drop {d : Nat} {Q : am_Q} {K : am_K} {sc : am_Sc} {γ : am_I} {π : am_P} {m : am_M} {r x : Nat} (hd : 1 ≤ d) (T : am_TC K π) (hr : r < 5) (hx : x < 5) (hq : Q (K, sc, (fc_dr γ r x, am_u π 500 (5 + 14 * r) x none), m) none) : am_call d 16 [.inr (some (3 + 14 * r)), .inl (nI x)] (K, sc, (γ, π), m) Q := by
  obtain ⟨d, rfl⟩ : ∃ d', d = d' + 1 := ⟨d - 1, by omega⟩
  refine r_enter (by decide) (Nat.le_of_ble_eq_true rfl) (ls := [some (.inr (some (3 + 14 * r))), some (.inl (nI x)), none]) rfl ?_
  refine r_aload at_16_0 rfl <| c_getP 306 at_16_1 rfl (by decide) (T.lR (r := r) (by omega)) ((T.2.2.1 r (by omega)).2.2.1) <| r_iload at_16_4 rfl <| r_null at_16_5 <| c_aast 500 x at_16_6 rfl (by decide) (T.lHe (r := r) (by omega)) rfl (by omega) (by decide) (fun _ q => by cases q) <| r_push at_16_7 <| r_istoreL (ls' := [_, _, _]) at_16_8 rfl <| ?_
  refine am_for 5 (fun n z => am_w d 16 Q 9 [some (.inr (some (3 + 14 * r))), some (.inl (nI x)), some (.inl (nI n))] [] (K, sc, (z, am_u π 500 (5 + 14 * r) x none), m)) (fc_dr_b r x) (fun n hi_n z hk_n => ?_) γ ?_
  · refine r_iload at_16_9 rfl <| r_push at_16_10 <| r_cmgeNT n 5 at_16_11 rfl rfl (by omega) (by omega) (by omega) <| ?_
    refine r_aload at_16_14 rfl <| c_getP 307 at_16_15 rfl (by decide) ((T.wP (F := 500) (a := 5 + 14 * r) (i := x) (v := none) (by omega)).lR (r := r) (by omega)) (((T.wP (F := 500) (a := 5 + 14 * r) (i := x) (v := none) (by omega)).2.2.1 r (by omega)).2.2.2) <| r_iload at_16_18 rfl <| c_aald 600 n at_16_19 rfl (by decide) ((T.wP (F := 500) (a := 5 + 14 * r) (i := x) (v := none) (by omega)).lEs (r := r) (by omega)) rfl (by omega) (by decide) (((T.wP (F := 500) (a := 5 + 14 * r) (i := x) (v := none) (by omega)).2.2.2.1 r (by omega) n (by omega)).1) <| c_getP 708 at_16_20 rfl (by decide) ((T.wP (F := 500) (a := 5 + 14 * r) (i := x) (v := none) (by omega)).lE (r := r) (n := n) (by omega) (by omega)) (((T.wP (F := 500) (a := 5 + 14 * r) (i := x) (v := none) (by omega)).2.2.2.1 r (by omega) n (by omega)).2) <| r_iload at_16_23 rfl <| r_push at_16_24 <| c_ast 800 x at_16_26 rfl (by decide) ((T.wP (F := 500) (a := 5 + 14 * r) (i := x) (v := none) (by omega)).lX (r := r) (n := n) (by omega) (by omega)) rfl (by omega) (by decide) <| r_iincNL (ls' := [_, _, _]) n at_16_27 rfl rfl <| r_goto at_16_30 <| ?_
    have e : (fc_dr_b r x) n z = am_u z 800 (8 + 14 * r + 2 * n) x (-2) := by simp only [fc_dr_b]
    rw [e] at hk_n
    exact hk_n
  · generalize hz9 : am_it (fc_dr_b r x) 5 γ = y9
    refine r_iload at_16_9 rfl <| r_push at_16_10 <| r_cmgeNF 5 5 at_16_11 rfl rfl (by omega) (by omega) (by omega) <| ?_
    refine r_ret at_16_33 ?_
    have e : fc_dr γ r x = y9 := by simp only [fc_dr, hz9]
    rw [e] at hq
    exact hq
theorem c_noteWho {d : Nat} {Q : am_Q} {K : am_K} {sc : am_Sc} {γ : am_I} {π : am_P} {m : am_M} {r : Nat} (hd : 1 ≤ d) (T : am_TC K π) (hr : r < 5) (hB : ∀ n, n < 5 → γ 702 (7 + 14 * r + 2 * n) 0 = 0 ∨ γ 702 (7 + 14 * r + 2 * n) 0 = 1) (hq : Q (K, sc, (fc_nh γ r, π), m) none) : am_call d 17 [.inr (some (3 + 14 * r))] (K, sc, (γ, π), m) Q := by
  obtain ⟨d, rfl⟩ : ∃ d', d = d' + 1 := ⟨d - 1, by omega⟩
  refine r_enter (by decide) (Nat.le_of_ble_eq_true rfl) (ls := [some (.inr (some (3 + 14 * r))), none]) rfl ?_
  refine r_push at_17_0 <| r_istoreL (ls' := [_, _]) at_17_1 rfl <| ?_
  refine am_forI 5 (fun n z => am_w d 17 Q 2 [some (.inr (some (3 + 14 * r))), some (.inl (nI n))] [] (K, sc, (z, π), m)) (fc_nh_b r) (fun _ z => ∀ n, n < 5 → z 702 (7 + 14 * r + 2 * n) 0 = 0 ∨ z 702 (7 + 14 * r + 2 * n) 0 = 1) (fun n _ z h k hk => by unfold fc_nh_b; rw [am_u_ne (by decide)]; exact h k hk) (fun n hi_n z hI_n hk_n => ?_) γ hB ?_
  · refine r_iload at_17_2 rfl <| r_push at_17_3 <| r_cmgeNT n 5 at_17_4 rfl rfl (by omega) (by omega) (by omega) <| ?_
    refine r_aload at_17_7 rfl <| c_getP 307 at_17_8 rfl (by decide) (T.lR (r := r) (by omega)) ((T.2.2.1 r (by omega)).2.2.2) <| r_iload at_17_11 rfl <| c_aald 600 n at_17_12 rfl (by decide) (T.lEs (r := r) (by omega)) rfl (by omega) (by decide) ((T.2.2.2.1 r (by omega) n (by omega)).1) <| r_aload at_17_13 rfl <| c_getP 307 at_17_14 rfl (by decide) (T.lR (r := r) (by omega)) ((T.2.2.1 r (by omega)).2.2.2) <| r_iload at_17_17 rfl <| c_aald 600 n at_17_18 rfl (by decide) (T.lEs (r := r) (by omega)) rfl (by omega) (by decide) ((T.2.2.2.1 r (by omega) n (by omega)).1) <| c_getI 702 at_17_19 rfl (by decide) (T.lE (r := r) (n := n) (by omega) (by omega)) <| c_putZ 703 at_17_22 rfl (by decide) (T.lE (r := r) (n := n) (by omega) (by omega)) (hI_n n hi_n) <| r_iincNL (ls' := [_, _]) n at_17_25 rfl rfl <| r_goto at_17_28 <| ?_
    have e : (fc_nh_b r) n z = am_u z 703 (7 + 14 * r + 2 * n) 0 (z 702 (7 + 14 * r + 2 * n) 0) := by simp only [fc_nh_b]
    rw [e] at hk_n
    exact hk_n
  · generalize hz2 : am_it (fc_nh_b r) 5 γ = y2
    refine r_iload at_17_2 rfl <| r_push at_17_3 <| r_cmgeNF 5 5 at_17_4 rfl rfl (by omega) (by omega) (by omega) <| ?_
    refine r_ret at_17_31 ?_
    have e : fc_nh γ r = y2 := by simp only [fc_nh, hz2]
    rw [e] at hq
    exact hq
theorem c_install {d : Nat} {Q : am_Q} {K : am_K} {sc : am_Sc} {γ : am_I} {π : am_P} {m : am_M} {r a x f : Nat} (hd : 1 ≤ d) (T : am_TC K π) (hr : r < 5) (hA : am_De K π a) (ho : γ 1900 a 0 = nI x) (hx : x < 5) (hf : f < 5) (hq : Q (K, sc, (fc_in γ r x f, am_u π 500 (5 + 14 * r) x (some a)), m) none) : am_call d 21 [.inr (some (3 + 14 * r)), .inr (some a), .inl (nI f)] (K, sc, (γ, π), m) Q := by
  obtain ⟨d, rfl⟩ : ∃ d', d = d' + 1 := ⟨d - 1, by omega⟩
  refine r_enter (by decide) (Nat.le_of_ble_eq_true rfl) (ls := [some (.inr (some (3 + 14 * r))), some (.inr (some a)), some (.inl (nI f)), none, none]) rfl ?_
  refine r_aload at_21_0 rfl <| c_getI 1900 at_21_1 rfl (by decide) (hA.2.1.lv) <| r_istoreL (ls' := [_, _, _, _, _]) at_21_4 rfl <| ?_
  rw [ho]
  refine r_aload at_21_5 rfl <| c_getP 306 at_21_6 rfl (by decide) (T.lR (r := r) (by omega)) ((T.2.2.1 r (by omega)).2.2.1) <| r_iload at_21_9 rfl <| r_aload at_21_10 rfl <| c_aast 500 x at_21_11 rfl (by decide) (T.lHe (r := r) (by omega)) rfl (by omega) (by decide) (fun _ q => by cases q; exact hA.2.1.lv) <| r_push at_21_12 <| r_istoreL (ls' := [_, _, _, _, _]) at_21_13 rfl <| ?_
  refine am_for 5 (fun n z => am_w d 21 Q 15 [some (.inr (some (3 + 14 * r))), some (.inr (some a)), some (.inl (nI f)), some (.inl (nI x)), some (.inl (nI n))] [] (K, sc, (z, am_u π 500 (5 + 14 * r) x (some a)), m)) (fc_in_b r x f) (fun n hi_n z hk_n => ?_) γ ?_
  · refine r_iload at_21_15 rfl <| r_push at_21_17 <| r_cmgeNT n 5 at_21_18 rfl rfl (by omega) (by omega) (by omega) <| ?_
    refine r_aload at_21_21 rfl <| c_getP 307 at_21_22 rfl (by decide) ((T.wP (F := 500) (a := 5 + 14 * r) (i := x) (v := (some a)) (by omega)).lR (r := r) (by omega)) (((T.wP (F := 500) (a := 5 + 14 * r) (i := x) (v := (some a)) (by omega)).2.2.1 r (by omega)).2.2.2) <| r_iload at_21_25 rfl <| c_aald 600 n at_21_27 rfl (by decide) ((T.wP (F := 500) (a := 5 + 14 * r) (i := x) (v := (some a)) (by omega)).lEs (r := r) (by omega)) rfl (by omega) (by decide) (((T.wP (F := 500) (a := 5 + 14 * r) (i := x) (v := (some a)) (by omega)).2.2.2.1 r (by omega) n (by omega)).1) <| c_getP 708 at_21_28 rfl (by decide) ((T.wP (F := 500) (a := 5 + 14 * r) (i := x) (v := (some a)) (by omega)).lE (r := r) (n := n) (by omega) (by omega)) (((T.wP (F := 500) (a := 5 + 14 * r) (i := x) (v := (some a)) (by omega)).2.2.2.1 r (by omega) n (by omega)).2) <| r_iload at_21_31 rfl <| r_aload at_21_32 rfl <| c_getP 307 at_21_33 rfl (by decide) ((T.wP (F := 500) (a := 5 + 14 * r) (i := x) (v := (some a)) (by omega)).lR (r := r) (by omega)) (((T.wP (F := 500) (a := 5 + 14 * r) (i := x) (v := (some a)) (by omega)).2.2.1 r (by omega)).2.2.2) <| r_iload at_21_36 rfl <| c_aald 600 n at_21_38 rfl (by decide) ((T.wP (F := 500) (a := 5 + 14 * r) (i := x) (v := (some a)) (by omega)).lEs (r := r) (by omega)) rfl (by omega) (by decide) (((T.wP (F := 500) (a := 5 + 14 * r) (i := x) (v := (some a)) (by omega)).2.2.2.1 r (by omega) n (by omega)).1) <| c_getI 706 at_21_39 rfl (by decide) ((T.wP (F := 500) (a := 5 + 14 * r) (i := x) (v := (some a)) (by omega)).lE (r := r) (n := n) (by omega) (by omega)) <| r_ifeq at_21_42 (fun h42_1 => ?_) (fun h42_1 => ?_)
    · refine r_push at_21_55 <| c_ast 800 x at_21_57 rfl (by decide) ((T.wP (F := 500) (a := 5 + 14 * r) (i := x) (v := (some a)) (by omega)).lX (r := r) (n := n) (by omega) (by omega)) rfl (by omega) (by decide) <| r_iincNL (ls' := [_, _, _, _, _]) n at_21_58 rfl rfl <| r_goto at_21_61 <| ?_
      have e : (fc_in_b r x f) n z = am_u z 800 (8 + 14 * r + 2 * n) x (-2) := by simp only [fc_in_b, if_pos h42_1]
      rw [e] at hk_n
      exact hk_n
    · refine r_iload at_21_45 rfl <| r_iload at_21_47 rfl <| r_cmeqN n f at_21_48 rfl rfl (by omega) (by omega) (fun h48_2 => ?_) (fun h48_2 => ?_)
      · refine r_push at_21_55 <| c_ast 800 x at_21_57 rfl (by decide) ((T.wP (F := 500) (a := 5 + 14 * r) (i := x) (v := (some a)) (by omega)).lX (r := r) (n := n) (by omega) (by omega)) rfl (by omega) (by decide) <| r_iincNL (ls' := [_, _, _, _, _]) n at_21_58 rfl rfl <| r_goto at_21_61 <| ?_
        have e : (fc_in_b r x f) n z = am_u z 800 (8 + 14 * r + 2 * n) x (-2) := by simp only [fc_in_b, if_neg h42_1, if_pos h48_2]
        rw [e] at hk_n
        exact hk_n
      · refine r_push at_21_51 <| r_goto at_21_52 <| c_ast 800 x at_21_57 rfl (by decide) ((T.wP (F := 500) (a := 5 + 14 * r) (i := x) (v := (some a)) (by omega)).lX (r := r) (n := n) (by omega) (by omega)) rfl (by omega) (by decide) <| r_iincNL (ls' := [_, _, _, _, _]) n at_21_58 rfl rfl <| r_goto at_21_61 <| ?_
        have e : (fc_in_b r x f) n z = am_u z 800 (8 + 14 * r + 2 * n) x (-1) := by simp only [fc_in_b, if_neg h42_1, if_neg h48_2]
        rw [e] at hk_n
        exact hk_n
  · generalize hz15 : am_it (fc_in_b r x f) 5 γ = y15
    refine r_iload at_21_15 rfl <| r_push at_21_17 <| r_cmgeNF 5 5 at_21_18 rfl rfl (by omega) (by omega) (by omega) <| ?_
    refine r_ret at_21_64 ?_
    have e : fc_in γ r x f = y15 := by simp only [fc_in, hz15]
    rw [e] at hq
    exact hq
theorem c_outdo {d : Nat} {Q : am_Q} {K : am_K} {sc : am_Sc} {γ : am_I} {π : am_P} {m : am_M} {r : Nat} {v : Int32} (hd : 1 ≤ d) (T : am_TC K π) (hr : r < 5) (hq : Q (K, sc, (fc_od γ r v, π), m) none) : am_call d 22 [.inr (some (3 + 14 * r)), .inl v] (K, sc, (γ, π), m) Q := by
  obtain ⟨d, rfl⟩ : ∃ d', d = d' + 1 := ⟨d - 1, by omega⟩
  refine r_enter (by decide) (Nat.le_of_ble_eq_true rfl) (ls := [some (.inr (some (3 + 14 * r))), some (.inl v)]) rfl ?_
  refine r_aload at_22_0 rfl <| r_aload at_22_1 rfl <| c_getI 302 at_22_2 rfl (by decide) (T.lR (r := r) (by omega)) <| r_iload at_22_5 rfl <| r_max at_22_6 (Nat.le_of_ble_eq_true rfl) <| c_putI 302 at_22_9 rfl (by decide) (T.lR (r := r) (by omega)) <| r_aload at_22_12 rfl <| r_push at_22_13 <| c_putZ 303 at_22_14 rfl (by decide) (T.lR (r := r) (by omega)) (Or.inr rfl) <| ?_
  refine r_ret at_22_17 ?_
  have e : fc_od γ r v = am_u (am_u γ 302 (3 + 14 * r) 0 (if (γ 302 (3 + 14 * r) 0) < v then v else (γ 302 (3 + 14 * r) 0))) 303 (3 + 14 * r) 0 1 := by simp only [fc_od, fc_max]
  rw [e] at hq
  exact hq
def fc_du (s t : Int32) : Int32 := if s = -2 then 0 else if s = -1 then 1 else if t - 3 < s then 0 else 1
theorem q_isDue {d : Nat} {Q : am_Q} {S : am_S} {s t : Int32} (hd : 1 ≤ d)  (hq : Q S (some (.inl (fc_du s t)))) : am_call d 25 [.inl s, .inl t] S Q := by
  obtain ⟨d, rfl⟩ : ∃ d', d = d' + 1 := ⟨d - 1, by omega⟩
  refine r_enter (by decide) (Nat.le_of_ble_eq_true rfl) (ls := [some (.inl s), some (.inl t)]) rfl ?_
  refine r_iload at_25_0 rfl <| r_push at_25_1 <| r_cmne at_25_3 (fun h3_1 => ?_) (fun h3_1 => ?_)
  · refine r_push at_25_6 <| ?_
    refine r_zret at_25_7 (Or.inl rfl) ?_
    have e : fc_du s t = 0 := by simp only [fc_du, if_pos h3_1]
    rw [e] at hq
    exact hq
  · refine r_iload at_25_8 rfl <| r_push at_25_9 <| r_cmeq at_25_10 (fun h10_2 => ?_) (fun h10_2 => ?_)
    · refine r_push at_25_20 <| r_goto at_25_21 <| ?_
      refine r_zret at_25_25 (Or.inr rfl) ?_
      have e : fc_du s t = 1 := by simp only [fc_du, if_neg h3_1, if_pos h10_2]
      rw [e] at hq
      exact hq
    · refine r_iload at_25_13 rfl <| r_iload at_25_14 rfl <| r_push at_25_15 <| r_bin at_25_16 <| r_cmgt at_25_17 (fun h17_3 => ?_) (fun h17_3 => ?_)
      · refine r_push at_25_24 <| ?_
        refine r_zret at_25_25 (Or.inl rfl) ?_
        have e : fc_du s t = 0 := by simp only [fc_du, if_neg h3_1, if_neg h10_2, if_pos h17_3]
        rw [e] at hq
        exact hq
      · refine r_push at_25_20 <| r_goto at_25_21 <| ?_
        refine r_zret at_25_25 (Or.inr rfl) ?_
        have e : fc_du s t = 1 := by simp only [fc_du, if_neg h3_1, if_neg h10_2, if_neg h17_3]
        rw [e] at hq
        exact hq

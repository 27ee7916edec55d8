theorem c_pass {d : Nat} {Q : am_Q} {K : am_K} {sc : am_Sc} {γ : am_I} {π : am_P} {m : am_M} {B C : Nat} {x : Int32} (hd : 6 ≤ d) (hW : am_Wf K γ π) (hB : K.1 ≤ B) (hC : K.2.1 ≤ C) (hBl : B + 60 ≤ am_limC) (hCl : C + 240 ≤ am_limS) (hq : Q ((fc_pass (K, γ, π) x).1.1, sc, ((fc_pass (K, γ, π) x).1.2.1, (fc_pass (K, γ, π) x).1.2.2), m) (some (.inl (fc_pass (K, γ, π) x).2))) : am_call d 37 [.inr (some 1), .inl x] (K, sc, (γ, π), m) Q := by
  obtain ⟨d, rfl⟩ : ∃ d', d = d' + 1 := ⟨d - 1, by omega⟩
  refine r_enter (by decide) (Nat.le_of_ble_eq_true rfl) (ls := [some (.inr (some 1)), some (.inl x), none]) rfl ?_
  refine r_iload at_37_0 rfl <| r_push at_37_1 <| r_cmlt at_37_2 (fun h2_1 => ?_) (fun h2_1 => ?_)
  · refine r_push at_37_10 <| ?_
    refine r_zret at_37_11 (Or.inl rfl) ?_
    have e : fc_pass (K, γ, π) x = ((K, γ, π), 0) := by simp only [fc_pass, if_pos h2_1]
    rw [e] at hq
    dsimp only at hq
    exact hq
  · refine r_iload at_37_5 rfl <| r_push at_37_6 <| r_cmle at_37_7 (fun h7_2 => ?_) (fun h7_2 => ?_)
    · refine r_push at_37_10 <| ?_
      refine r_zret at_37_11 (Or.inl rfl) ?_
      have e : fc_pass (K, γ, π) x = ((K, γ, π), 0) := by simp only [fc_pass, if_neg h2_1, if_pos h7_2]
      rw [e] at hq
      dsimp only at hq
      exact hq
    · obtain ⟨t0, ht0, rfl⟩ := nI_of2 (M := 4) (n := 4) (by decide) (fun q => h2_1 (Int32.lt_trans q (by decide))) (Int32.not_lt.mp h7_2)
      refine r_push at_37_12 <| r_istoreL (ls' := [_, _, _]) at_37_13 rfl <| ?_
      refine am_forI t0 (fun t z => am_w d 37 Q 14 [some (.inr (some 1)), some (.inl (nI t0)), some (.inl (nI t))] [] (z.1, sc, (z.2.1, z.2.2), m)) fc_tick (fun i z => am_Bd (B + 15 * i) (C + 60 * i) z) (fun i hi z h => by have q := wf_tick h i; rw [show B + 15 * i + 15 = B + 15 * (i + 1) by omega, show C + 60 * i + 60 = C + 60 * (i + 1) by omega] at q; exact q) (fun t ht z hI hk => ?_) (K, γ, π) (am_Bd.mk hW hB hC) ?_
      · obtain ⟨K', γ', π'⟩ := z
        obtain ⟨hW', hB', hC'⟩ := hI
        dsimp only at hk hW' hB' hC' ⊢
        refine r_iload at_37_14 rfl <| r_iload at_37_15 rfl <| r_cmgeNT t t0 at_37_16 rfl rfl (by omega) (by omega) (by omega) <| r_aload at_37_19 rfl <| r_callV0v at_37_20 (hW'.1.lNet) (Nat.le_of_ble_eq_true rfl) (fun _ hq => c_tick (B := B + 15 * t) (C := C + 60 * t) (t := t) (by omega) hW' hB' hC' (by omega) (by omega) hq) <| r_iincNL (ls' := [_, _, _]) t at_37_23 rfl rfl <| r_goto at_37_26 <| ?_
        exact hk
      · generalize hz : am_it fc_tick t0 (K, γ, π) = y
        refine r_iload at_37_14 rfl <| r_iload at_37_15 rfl <| r_cmgeNF t0 t0 at_37_16 rfl rfl (by omega) (by omega) (by omega) <| r_push at_37_29 <| ?_
        refine r_zret at_37_30 (Or.inr rfl) ?_
        have e : fc_pass (K, γ, π) (nI t0) = (y, 1) := by simp only [fc_pass, if_neg h2_1, if_neg h7_2, nI_clamp (show t0 < 2 ^ 31 by omega), hz]
        rw [e] at hq
        dsimp only at hq
        exact hq
def fc_si (γ : am_I) (a : Nat) (v l z : Int32) : am_I := am_u (am_u (am_u γ 2200 a 0 v) 2201 a 0 l) 2202 a 0 z
theorem c_sinit {d : Nat} {Q : am_Q} {K : am_K} {sc : am_Sc} {γ : am_I} {π : am_P} {m : am_M} {a : Nat} {v l z : Int32} (hd : 1 ≤ d) (hl : am_lq K a 22) (hq : Q (K, sc, (fc_si γ a v l z, π), m) none) : am_call d 1 [.inr (some a), .inl v, .inl l, .inl z] (K, sc, (γ, π), m) Q := by
  obtain ⟨d, rfl⟩ : ∃ d', d = d' + 1 := ⟨d - 1, by omega⟩
  refine r_enter (by decide) (Nat.le_of_ble_eq_true rfl) (ls := [some (.inr (some a)), some (.inl v), some (.inl l), some (.inl z)]) rfl ?_
  refine r_aload at_1_0 rfl <| r_oinit at_1_1 (Nat.le_of_ble_eq_true rfl) <| r_aload at_1_4 rfl <| r_iload at_1_5 rfl <| c_putI 2200 at_1_6 rfl (by decide) (hl.lv) <| r_aload at_1_9 rfl <| r_iload at_1_10 rfl <| c_putI 2201 at_1_11 rfl (by decide) (hl.lv) <| r_aload at_1_14 rfl <| r_iload at_1_15 rfl <| c_putI 2202 at_1_16 rfl (by decide) (hl.lv) <| ?_
  refine r_ret at_1_19 ?_
  have e : fc_si γ a v l z = am_u (am_u (am_u γ 2200 a 0 v) 2201 a 0 l) 2202 a 0 z := by simp only [fc_si]
  rw [e] at hq
  exact hq
def fc_sb2 (K : am_K) (γ : am_I) (π : am_P) (a s : Nat) (v l z : Int32) : am_K × am_I × am_P := if z = 0 then (K, γ, am_u π 400 (4 + 14 * a) s none) else (am_kw K 22 3, fc_si (am_zg γ (K.1 + 1)) (K.1 + 1) v l z, am_u (am_zp π (K.1 + 1)) 400 (4 + 14 * a) s (some (K.1 + 1)))
def fc_stub (S : am_K × am_I × am_P) (x s v l z : Int32) : (am_K × am_I × am_P) × Int32 := if fr_rtr x = 0 then (S, 0) else if s < 0 then (S, 0) else if s < 2 then if fc_pfx v l = 0 then (S, 0) else if z < 0 then (S, 0) else if 9 < z then (S, 0) else (fc_sb2 S.1 S.2.1 S.2.2 x.toNatClampNeg s.toNatClampNeg v l z, 1) else (S, 0)
theorem fc_lt2 {x : Int32} (h : x < 2) : x ≤ 1 := by
  rw [Int32.lt_iff_toInt_lt, show (2 : Int32).toInt = 2 from by decide] at h
  rw [Int32.le_iff_toInt_le, show (1 : Int32).toInt = 1 from by decide]
  omega
theorem c_stub {d : Nat} {Q : am_Q} {K : am_K} {sc : am_Sc} {γ : am_I} {π : am_P} {m : am_M} {x s v l z : Int32} (hd : 3 ≤ d) (hW : am_Wf K γ π) (hC : K.1 + 1 ≤ am_limC) (hS : K.2.1 + 3 ≤ am_limS) (hq : Q ((fc_stub (K, γ, π) x s v l z).1.1, sc, ((fc_stub (K, γ, π) x s v l z).1.2.1, (fc_stub (K, γ, π) x s v l z).1.2.2), m) (some (.inl (fc_stub (K, γ, π) x s v l z).2))) : am_call d 34 [.inr (some 1), .inl x, .inl s, .inl v, .inl l, .inl z] (K, sc, (γ, π), m) Q := by
  obtain ⟨d, rfl⟩ : ∃ d', d = d' + 1 := ⟨d - 1, by omega⟩
  refine r_enter (by decide) (Nat.le_of_ble_eq_true rfl) (ls := [some (.inr (some 1)), some (.inl x), some (.inl s), some (.inl v), some (.inl l), some (.inl z)]) rfl ?_
  refine r_iload at_34_0 rfl <| r_callS1i at_34_1 (Nat.le_of_ble_eq_true rfl) (fun _ hq => q_isRouter (by omega) hq) <| r_ifeq at_34_4 (fun h4_1 => ?_) (fun h4_1 => ?_)
  · refine r_push at_34_25 <| ?_
    refine r_zret at_34_26 (Or.inl rfl) ?_
    have e : fc_stub (K, γ, π) x s v l z = ((K, γ, π), 0) := by simp only [fc_stub, fc_sb2, if_pos h4_1]
    rw [e] at hq
    dsimp only at hq
    exact hq
  · refine r_iload at_34_7 rfl <| r_iflt at_34_8 (fun h8_2 => ?_) (fun h8_2 => ?_)
    · refine r_push at_34_25 <| ?_
      refine r_zret at_34_26 (Or.inl rfl) ?_
      have e : fc_stub (K, γ, π) x s v l z = ((K, γ, π), 0) := by simp only [fc_stub, fc_sb2, if_neg h4_1, if_pos h8_2]
      rw [e] at hq
      dsimp only at hq
      exact hq
    · refine r_iload at_34_11 rfl <| r_push at_34_12 <| r_cmge at_34_13 (fun h13_3 => ?_) (fun h13_3 => ?_)
      · refine r_iload at_34_16 rfl <| r_iload at_34_17 rfl <| r_callS2i at_34_19 (Nat.le_of_ble_eq_true rfl) (fun _ hq => q_isPrefix (by omega) hq) <| r_ifne at_34_22 (fun h22_4 => ?_) (fun h22_4 => ?_)
        · refine r_push at_34_25 <| ?_
          refine r_zret at_34_26 (Or.inl rfl) ?_
          have e : fc_stub (K, γ, π) x s v l z = ((K, γ, π), 0) := by simp only [fc_stub, fc_sb2, if_neg h4_1, if_neg h8_2, if_pos h13_3, if_pos h22_4]
          rw [e] at hq
          dsimp only at hq
          exact hq
        · refine r_iload at_34_27 rfl <| r_iflt at_34_29 (fun h29_5 => ?_) (fun h29_5 => ?_)
          · refine r_push at_34_39 <| ?_
            refine r_zret at_34_40 (Or.inl rfl) ?_
            have e : fc_stub (K, γ, π) x s v l z = ((K, γ, π), 0) := by simp only [fc_stub, fc_sb2, if_neg h4_1, if_neg h8_2, if_pos h13_3, if_neg h22_4, if_pos h29_5]
            rw [e] at hq
            dsimp only at hq
            exact hq
          · refine r_iload at_34_32 rfl <| r_push at_34_34 <| r_cmle at_34_36 (fun h36_6 => ?_) (fun h36_6 => ?_)
            · refine r_push at_34_39 <| ?_
              refine r_zret at_34_40 (Or.inl rfl) ?_
              have e : fc_stub (K, γ, π) x s v l z = ((K, γ, π), 0) := by simp only [fc_stub, fc_sb2, if_neg h4_1, if_neg h8_2, if_pos h13_3, if_neg h22_4, if_neg h29_5, if_pos h36_6]
              rw [e] at hq
              dsimp only at hq
              exact hq
            · obtain ⟨a, ha, rfl⟩ := fr_rtr_of h4_1
              obtain ⟨s, hs, rfl⟩ := nI_of2 (M := 1) (n := 1) (by decide) h8_2 (fc_lt2 h13_3)
              refine r_aload at_34_41 rfl <| c_getP 100 at_34_42 rfl (by decide) (hW.1.lNet) hW.1.2.1.1 <| r_iload at_34_45 rfl <| c_aald 200 a at_34_46 rfl (by decide) (hW.1.lRs) rfl (by omega) (by decide) ((hW.1.2.2.1 a (by omega)).1) <| c_getP 305 at_34_47 rfl (by decide) (hW.1.lR (r := a) (by omega)) ((hW.1.2.2.1 a (by omega)).2.1) <| r_iload at_34_50 rfl <| r_iload at_34_51 rfl <| r_ifne at_34_53 (fun h53_7 => ?_) (fun h53_7 => ?_)
              · refine r_null at_34_56 <| r_goto at_34_57 <| c_aast 400 s at_34_72 rfl (by decide) (hW.1.lSt (r := a) (by omega)) rfl (by omega) (by decide) (fun _ q => by cases q) <| r_push at_34_73 <| ?_
                refine r_zret at_34_74 (Or.inr rfl) ?_
                have e : fc_stub (K, γ, π) (nI a) (nI s) v l z = ((K, γ, am_u π 400 (4 + 14 * a) s none), 1) := by simp only [fc_stub, fc_sb2, if_neg h4_1, if_neg h8_2, if_pos h13_3, if_neg h22_4, if_neg h29_5, if_neg h36_6, if_pos h53_7, nI_clamp (show a < 2 ^ 31 by omega), nI_clamp (show s < 2 ^ 31 by omega)]
                rw [e] at hq
                dsimp only at hq
                exact hq
              · refine c_new (K.1 + 1) at_34_60 (by decide) rfl (by omega) (by show K.2.1 + 3 ≤ am_limS; omega) <| r_dup at_34_63 <| r_iload at_34_64 rfl <| r_iload at_34_65 rfl <| r_iload at_34_67 rfl <| r_callV3v at_34_69 ((am_lq.self (K := K) (k := 22) (n := 3)).lv) (Nat.le_of_ble_eq_true rfl) (fun _ hq => c_sinit (by omega) (am_lq.self (K := K) (k := 22) (n := 3)) hq) <| c_aast 400 s at_34_72 rfl (by decide) ((hW.1.nw (k := 22) (n := 3)).lSt (r := a) (by omega)) rfl (by omega) (by decide) (fun q hq => by cases hq; exact am_lq.self.lv) <| r_push at_34_73 <| ?_
                refine r_zret at_34_74 (Or.inr rfl) ?_
                have e : fc_stub (K, γ, π) (nI a) (nI s) v l z = ((am_kw K 22 3, fc_si (am_zg γ (K.1 + 1)) (K.1 + 1) v l z, am_u (am_zp π (K.1 + 1)) 400 (4 + 14 * a) s (some (K.1 + 1))), 1) := by simp only [fc_stub, fc_sb2, if_neg h4_1, if_neg h8_2, if_pos h13_3, if_neg h22_4, if_neg h29_5, if_neg h36_6, if_neg h53_7, nI_clamp (show a < 2 ^ 31 by omega), nI_clamp (show s < 2 ^ 31 by omega)]
                rw [e] at hq
                dsimp only at hq
                exact hq
      · refine r_push at_34_25 <| ?_
        refine r_zret at_34_26 (Or.inl rfl) ?_
        have e : fc_stub (K, γ, π) x s v l z = ((K, γ, π), 0) := by simp only [fc_stub, fc_sb2, if_neg h4_1, if_neg h8_2, if_neg h13_3]
        rw [e] at hq
        dsimp only at hq
        exact hq

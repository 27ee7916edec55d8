def fc_is2 (γ : am_I) (π : am_P) (r a : Nat) : Nat → Nat → Int32
  | 0, _ => 1
  | k + 1, s => if fc_al γ (π 2100 (a + 2) s) (π 400 (4 + 14 * r) s) = 0 then 0 else fc_is2 γ π r a k (s + 1)
def fc_is1 (γ : am_I) (π : am_P) (r a : Nat) : Nat → Nat → Int32
  | 0, _ => fc_is2 γ π r a 2 0
  | k + 1, n => if γ 2000 (a + 1) n = fc_cl γ r n then fc_is1 γ π r a k (n + 1) else 0
def fc_ist (γ : am_I) (π : am_P) (r a : Nat) : Int32 := fc_is1 γ π r a 5 0
def fc_md_e (γ : am_I) (π : am_P) (r : Nat) (t : Int32) (a : Nat) : Int32 := if t - 2 < γ 1902 a 0 then 0 else if γ 303 (3 + 14 * r) 0 = 0 then if t - 20 < γ 1902 a 0 then if fc_ist γ π r a = 0 then 1 else 0 else 1 else 1
def fc_md (γ : am_I) (π : am_P) (r : Nat) (t : Int32) : Int32 := (π 304 (3 + 14 * r) 0).elim 1 (fc_md_e γ π r t)
theorem c_dinitA {d : Nat} {Q : am_Q} {K : am_K} {sc : am_Sc} {γ : am_I} {π : am_P} {m : am_M} {r a : Nat} {o u t : Int32} (ha : K.1 = a) (hd : 2 ≤ d) (hW : am_Wf K γ π) (hl : am_lq K a 19) (h187 : 187 < a) (hr : r < 5) (hC : a + 2 ≤ am_limC) (hS : K.2.1 + 7 ≤ am_limS) (hq : Q ((am_kw (am_kw K 20 5) 21 2), sc, (fc_di1 γ a r o u t, fc_di2 π a r), m) none) : am_call d 4 [.inr (some a), .inl o, .inl u, .inl t, .inr (some (6 + 14 * r)), .inr (some (4 + 14 * r))] (K, sc, (γ, π), m) Q := by
  subst ha
  exact c_dinit hd hW hl h187 hr hC hS hq
theorem di_wfA {K : am_K} {γ : am_I} {π : am_P} {a : Nat} (ha : K.1 = a) (hW : am_Wf K γ π) (hl : am_lq K a 19) (h187 : 187 < a) (r : Nat) (o u t : Int32) : am_Wf (am_kw (am_kw K 20 5) 21 2) (fc_di1 γ a r o u t) (fc_di2 π a r) := by
  subst ha
  exact di_wf hW hl h187 r o u t
theorem di_deA {K : am_K} {γ : am_I} {π : am_P} {a : Nat} (ha : K.1 = a) (hW : am_Wf K γ π) (hl : am_lq K a 19) (h187 : 187 < a) {r : Nat} (hr : r < 5) : am_De (am_kw (am_kw K 20 5) 21 2) (fc_di2 π a r) a := by
  subst ha
  exact di_de hW hl h187 hr
def fc_dc1 (γ : am_I) (r : Nat) : am_I := am_u γ 302 (3 + 14 * r) 0 (γ 302 (3 + 14 * r) 0 + 1)
def fc_dc2 (γ : am_I) (a r : Nat) (t : Int32) : am_I := fc_in (am_u (fc_di1 γ a r (γ 300 (3 + 14 * r) 0) (γ 302 (3 + 14 * r) 0) t) 303 (3 + 14 * r) 0 0) r r r
def fc_dc_g (γ : am_I) (a r : Nat) (t : Int32) : am_I := fc_dc2 (am_zg (fc_dc1 γ r) a) a r t
def fc_dc_p (π : am_P) (a r : Nat) : am_P := am_u (am_u (fc_di2 (am_zp π a) a r) 304 (3 + 14 * r) 0 (some a)) 500 (5 + 14 * r) r (some a)
theorem c_isStillTrue {d : Nat} {Q : am_Q} {K : am_K} {sc : am_Sc} {γ : am_I} {π : am_P} {m : am_M} {r a : Nat} (hd : 2 ≤ d) (hW : am_Wf K γ π) (hr : r < 5) (hA : am_De K π a) (hq : Q (K, sc, (γ, π), m) (some (.inl (fc_ist γ π r a)))) : am_call d 19 [.inr (some (3 + 14 * r)), .inr (some a)] (K, sc, (γ, π), m) Q := by
  obtain ⟨d, rfl⟩ : ∃ d', d = d' + 1 := ⟨d - 1, by omega⟩
  refine r_enter (by decide) (Nat.le_of_ble_eq_true rfl) (ls := [some (.inr (some (3 + 14 * r))), some (.inr (some a)), none]) rfl ?_
  refine r_push at_19_0 <| r_istoreL (ls' := [_, _, _]) at_19_1 rfl <| ?_
  have L2 : ∀ k n, n + k = 5 → Q (K, sc, (γ, π), m) (some (.inl (fc_is1 γ π r a k n))) → am_w d 19 Q 2 [some (.inr (some (3 + 14 * r))), some (.inr (some a)), some (.inl (nI n))] [] (K, sc, (γ, π), m) := by
    clear hq
    intro k
    induction k with
    | zero =>
      intro n hn hq
      refine r_iload at_19_2 rfl <| r_push at_19_3 <| r_cmgeNF n 5 at_19_4 rfl rfl (by omega) (by omega) (by omega) <| r_push at_19_33 <| r_istoreL (ls' := [_, _, _]) at_19_34 rfl <| ?_
      have L35 : ∀ k s, s + k = 2 → Q (K, sc, (γ, π), m) (some (.inl (fc_is2 γ π r a k s))) → am_w d 19 Q 35 [some (.inr (some (3 + 14 * r))), some (.inr (some a)), some (.inl (nI s))] [] (K, sc, (γ, π), m) := by
        clear hq
        intro k
        induction k with
        | zero =>
          intro s hs hq
          refine r_iload at_19_35 rfl <| r_push at_19_36 <| r_cmgeNF s 2 at_19_37 rfl rfl (by omega) (by omega) (by omega) <| r_push at_19_66 <| ?_
          refine r_zret at_19_67 (Or.inr rfl) ?_
          exact hq
        | succ k ih =>
          intro s hs hq
          refine r_iload at_19_35 rfl <| r_push at_19_36 <| r_cmgeNT s 2 at_19_37 rfl rfl (by omega) (by omega) (by omega) <| r_aload at_19_40 rfl <| c_getP 1904 at_19_41 rfl (by decide) (hA.2.1.lv) hA.2.2.2.2.2.1 <| r_iload at_19_44 rfl <| c_aald 2100 s at_19_45 rfl (by decide) (hA.2.2.2.1.lv) rfl (by omega) (by decide) rfl <| r_aload at_19_46 rfl <| c_getP 305 at_19_47 rfl (by decide) (hW.1.lR (r := r) (by omega)) ((hW.1.2.2.1 r (by omega)).2.1) <| r_iload at_19_50 rfl <| c_aald 400 s at_19_51 rfl (by decide) (hW.1.lSt (r := r) (by omega)) rfl (by omega) (by decide) rfl <| r_callS2i at_19_52 (Nat.le_of_ble_eq_true rfl) (fun _ hq => c_alike (by omega) (fun q hq => (hA.2.2.2.2.2.2 s (by omega) q hq).2) (fun q hq => (hW.2.2.2.1 r hr s (by omega) q hq).2) hq) <| r_ifne at_19_55 (fun h55_1 => ?_) (fun h55_1 => ?_)
          · refine r_push at_19_58 <| ?_
            refine r_zret at_19_59 (Or.inl rfl) ?_
            have e : fc_is2 γ π r a (k + 1) s = 0 := by simp only [fc_is2, if_pos h55_1]
            rw [e] at hq
            exact hq
          · refine r_iincNL (ls' := [_, _, _]) s at_19_60 rfl rfl <| r_goto at_19_63 <| ?_
            refine ih (s + 1) (by omega) ?_
            have e : fc_is2 γ π r a (k + 1) s = fc_is2 γ π r a k (s + 1) := by simp only [fc_is2, if_neg h55_1]
            rw [e] at hq
            exact hq
      exact L35 2 0 (by omega) hq
    | succ k ih =>
      intro n hn hq
      refine r_iload at_19_2 rfl <| r_push at_19_3 <| r_cmgeNT n 5 at_19_4 rfl rfl (by omega) (by omega) (by omega) <| r_aload at_19_7 rfl <| c_getP 1903 at_19_8 rfl (by decide) (hA.2.1.lv) hA.2.2.2.2.1 <| r_iload at_19_11 rfl <| c_ald 2000 n at_19_12 rfl (by decide) (hA.2.2.1.lv) rfl (by omega) (by decide) <| r_aload at_19_13 rfl <| c_getP 307 at_19_14 rfl (by decide) (hW.1.lR (r := r) (by omega)) ((hW.1.2.2.1 r (by omega)).2.2.2) <| r_iload at_19_17 rfl <| c_aald 600 n at_19_18 rfl (by decide) (hW.1.lEs (r := r) (by omega)) rfl (by omega) (by decide) ((hW.1.2.2.2.1 r (by omega) n (by omega)).1) <| r_callV0i at_19_19 (hW.1.lE (r := r) (n := n) (by omega) (by omega)) (Nat.le_of_ble_eq_true rfl) (fun _ hq => c_costToList (by omega) hW.1 (by omega) (by omega) hq) <| r_cmeq at_19_22 (fun h22_2 => ?_) (fun h22_2 => ?_)
      · refine r_iincNL (ls' := [_, _, _]) n at_19_27 rfl rfl <| r_goto at_19_30 <| ?_
        refine ih (n + 1) (by omega) ?_
        have e : fc_is1 γ π r a (k + 1) n = fc_is1 γ π r a k (n + 1) := by simp only [fc_is1, if_pos h22_2]
        rw [e] at hq
        exact hq
      · refine r_push at_19_25 <| ?_
        refine r_zret at_19_26 (Or.inl rfl) ?_
        have e : fc_is1 γ π r a (k + 1) n = 0 := by simp only [fc_is1, if_neg h22_2]
        rw [e] at hq
        exact hq
  exact L2 5 0 (by omega) hq
theorem c_mustDescribe {d : Nat} {Q : am_Q} {K : am_K} {sc : am_Sc} {γ : am_I} {π : am_P} {m : am_M} {r : Nat} {t : Int32} (hd : 3 ≤ d) (hW : am_Wf K γ π) (hr : r < 5) (hq : Q (K, sc, (γ, π), m) (some (.inl (fc_md γ π r t)))) : am_call d 18 [.inr (some (3 + 14 * r)), .inl t] (K, sc, (γ, π), m) Q := by
  obtain ⟨d, rfl⟩ : ∃ d', d = d' + 1 := ⟨d - 1, by omega⟩
  refine r_enter (by decide) (Nat.le_of_ble_eq_true rfl) (ls := [some (.inr (some (3 + 14 * r))), some (.inl t)]) rfl ?_
  refine r_aload at_18_0 rfl <| c_getP 304 at_18_1 rfl (by decide) (hW.1.lR (r := r) (by omega)) rfl <| r_ifnonnull at_18_4 (fun h4_1 => ?_) (fun a4_1 h4_1 => ?_)
  · refine r_push at_18_7 <| ?_
    refine r_zret at_18_8 (Or.inr rfl) ?_
    have e : fc_md γ π r t = 1 := by simp only [fc_md, fc_md_e, Option.elim, h4_1]
    rw [e] at hq
    exact hq
  · have hD := hW.2.2.1 r hr _ h4_1
    refine r_aload at_18_9 rfl <| c_getP 304 at_18_10 rfl (by decide) (hW.1.lR (r := r) (by omega)) h4_1 <| c_getI 1902 at_18_13 rfl (by decide) (hD.1.2.1.lv) <| r_iload at_18_16 rfl <| r_push at_18_17 <| r_bin at_18_18 <| r_cmle at_18_19 (fun h19_2 => ?_) (fun h19_2 => ?_)
    · refine r_push at_18_22 <| ?_
      refine r_zret at_18_23 (Or.inl rfl) ?_
      have e : fc_md γ π r t = 0 := by simp only [fc_md, fc_md_e, Option.elim, h4_1, if_pos h19_2]
      rw [e] at hq
      exact hq
    · refine r_aload at_18_24 rfl <| c_getI 303 at_18_25 rfl (by decide) (hW.1.lR (r := r) (by omega)) <| r_ifne at_18_28 (fun h28_3 => ?_) (fun h28_3 => ?_)
      · refine r_aload at_18_31 rfl <| c_getP 304 at_18_32 rfl (by decide) (hW.1.lR (r := r) (by omega)) h4_1 <| c_getI 1902 at_18_35 rfl (by decide) (hD.1.2.1.lv) <| r_iload at_18_38 rfl <| r_push at_18_39 <| r_bin at_18_41 <| r_cmle at_18_42 (fun h42_4 => ?_) (fun h42_4 => ?_)
        · refine r_aload at_18_45 rfl <| r_aload at_18_46 rfl <| c_getP 304 at_18_47 rfl (by decide) (hW.1.lR (r := r) (by omega)) h4_1 <| r_callV1i at_18_50 (hW.1.lR (r := r) (by omega)) (Nat.le_of_ble_eq_true rfl) (fun _ hq => c_isStillTrue (by omega) hW (by omega) hD.1 hq) <| r_ifne at_18_53 (fun h53_5 => ?_) (fun h53_5 => ?_)
          · refine r_push at_18_56 <| r_goto at_18_57 <| ?_
            refine r_zret at_18_61 (Or.inr rfl) ?_
            have e : fc_md γ π r t = 1 := by simp only [fc_md, fc_md_e, Option.elim, h4_1, if_neg h19_2, if_pos h28_3, if_pos h42_4, if_pos h53_5]
            rw [e] at hq
            exact hq
          · refine r_push at_18_60 <| ?_
            refine r_zret at_18_61 (Or.inl rfl) ?_
            have e : fc_md γ π r t = 0 := by simp only [fc_md, fc_md_e, Option.elim, h4_1, if_neg h19_2, if_pos h28_3, if_pos h42_4, if_neg h53_5]
            rw [e] at hq
            exact hq
        · refine r_push at_18_56 <| r_goto at_18_57 <| ?_
          refine r_zret at_18_61 (Or.inr rfl) ?_
          have e : fc_md γ π r t = 1 := by simp only [fc_md, fc_md_e, Option.elim, h4_1, if_neg h19_2, if_pos h28_3, if_neg h42_4]
          rw [e] at hq
          exact hq
      · refine r_push at_18_56 <| r_goto at_18_57 <| ?_
        refine r_zret at_18_61 (Or.inr rfl) ?_
        have e : fc_md γ π r t = 1 := by simp only [fc_md, fc_md_e, Option.elim, h4_1, if_neg h19_2, if_neg h28_3]
        rw [e] at hq
        exact hq
theorem c_describe {d : Nat} {Q : am_Q} {K : am_K} {sc : am_Sc} {γ : am_I} {π : am_P} {m : am_M} {r : Nat} {t : Int32} (hd : 3 ≤ d) (hW : am_Wf K γ π) (hr : r < 5) (hC : K.1 + 3 ≤ am_limC) (hS : K.2.1 + 12 ≤ am_limS) (hq : Q ((am_kw (am_kw (am_kw K 19 5) 20 5) 21 2), sc, (fc_dc_g γ (K.1 + 1) r t, fc_dc_p π (K.1 + 1) r), m) none) : am_call d 20 [.inr (some (3 + 14 * r)), .inl t] (K, sc, (γ, π), m) Q := by
  obtain ⟨d, rfl⟩ : ∃ d', d = d' + 1 := ⟨d - 1, by omega⟩
  refine r_enter (by decide) (Nat.le_of_ble_eq_true rfl) (ls := [some (.inr (some (3 + 14 * r))), some (.inl t)]) rfl ?_
  refine r_aload at_20_0 rfl <| r_dup at_20_1 <| c_getI 302 at_20_2 rfl (by decide) (hW.1.lR (r := r) (by omega)) <| r_push at_20_5 <| r_bin at_20_6 <| c_putI 302 at_20_7 rfl (by decide) (hW.1.lR (r := r) (by omega)) <| ?_
  have hWn : am_Wf (am_kw K 19 5) (am_zg (am_u γ 302 (3 + 14 * r) 0 (γ 302 (3 + 14 * r) 0 + 1)) (K.1 + 1)) (am_zp π (K.1 + 1)) := (hW.g (by decide)).nw
  have h187 : 187 ≤ K.1 := hW.1.1.1
  have hW3 := fun o u t => di_wfA (a := K.1 + 1) rfl hWn am_lq.self (by omega) r o u t
  have hD3 := di_deA (a := K.1 + 1) rfl hWn am_lq.self (by omega) hr
  refine r_aload at_20_10 rfl <| c_new (K.1 + 1) at_20_11 (by decide) rfl (by omega) (by show K.2.1 + 5 ≤ am_limS; omega) <| r_dup at_20_14 <| r_aload at_20_15 rfl <| c_getI 300 at_20_16 rfl (by decide) ((hW.1.nw (k := 19) (n := 5)).lR (r := r) (by omega)) <| r_aload at_20_19 rfl <| c_getI 302 at_20_20 rfl (by decide) ((hW.1.nw (k := 19) (n := 5)).lR (r := r) (by omega)) <| r_iload at_20_23 rfl <| r_aload at_20_24 rfl <| c_getP 307 at_20_25 rfl (by decide) ((hW.1.nw (k := 19) (n := 5)).lR (r := r) (by omega)) (((hW.1.nw (k := 19) (n := 5)).2.2.1 r (by omega)).2.2.2) <| r_aload at_20_28 rfl <| c_getP 305 at_20_29 rfl (by decide) ((hW.1.nw (k := 19) (n := 5)).lR (r := r) (by omega)) (((hW.1.nw (k := 19) (n := 5)).2.2.1 r (by omega)).2.1) <| r_callV5v at_20_32 (am_lq.self.lv) (Nat.le_of_ble_eq_true rfl) (fun _ hq => c_dinitA rfl (by omega) hWn am_lq.self (by omega) hr (by omega) (by show K.2.1 + 5 + 7 ≤ am_limS; omega) hq) <| ?_
  replace hW3 := hW3 ((am_zg (am_u γ 302 (3 + 14 * r) 0 (γ 302 (3 + 14 * r) 0 + 1)) (K.1 + 1)) 300 (3 + 14 * r) 0) ((am_zg (am_u γ 302 (3 + 14 * r) 0 (γ 302 (3 + 14 * r) 0 + 1)) (K.1 + 1)) 302 (3 + 14 * r) 0) t
  refine c_putP 304 at_20_35 rfl (by decide) (hW3.1.lR (r := r) (by omega)) <| r_aload at_20_38 rfl <| r_push at_20_39 <| c_putZ 303 at_20_40 rfl (by decide) ((hW3.1.wP (F := 304) (a := 3 + 14 * r) (i := 0) (v := (some (K.1 + 1))) (by omega)).lR (r := r) (by omega)) (Or.inl rfl) <| r_aload at_20_43 rfl <| r_aload at_20_44 rfl <| c_getP 304 at_20_45 rfl (by decide) ((hW3.1.wP (F := 304) (a := 3 + 14 * r) (i := 0) (v := (some (K.1 + 1))) (by omega)).lR (r := r) (by omega)) am_u_at <| r_aload at_20_48 rfl <| c_getI 300 at_20_49 rfl (by decide) ((hW3.1.wP (F := 304) (a := 3 + 14 * r) (i := 0) (v := (some (K.1 + 1))) (by omega)).lR (r := r) (by omega)) <| ?_
  have hid : (am_u (fc_di1 (am_zg (am_u γ 302 (3 + 14 * r) 0 ((γ 302 (3 + 14 * r) 0) + 1)) (K.1 + 1)) (K.1 + 1) r ((am_zg (am_u γ 302 (3 + 14 * r) 0 ((γ 302 (3 + 14 * r) 0) + 1)) (K.1 + 1)) 300 (3 + 14 * r) 0) ((am_zg (am_u γ 302 (3 + 14 * r) 0 ((γ 302 (3 + 14 * r) 0) + 1)) (K.1 + 1)) 302 (3 + 14 * r) 0) t) 303 (3 + 14 * r) 0 0) 300 (3 + 14 * r) 0 = nI r := (hW3.g (F := 303) (a := 3 + 14 * r) (i := 0) (v := 0) (by decide)).2.2.2.2.2.1 r hr
  have hor : (am_u (fc_di1 (am_zg (am_u γ 302 (3 + 14 * r) 0 ((γ 302 (3 + 14 * r) 0) + 1)) (K.1 + 1)) (K.1 + 1) r ((am_zg (am_u γ 302 (3 + 14 * r) 0 ((γ 302 (3 + 14 * r) 0) + 1)) (K.1 + 1)) 300 (3 + 14 * r) 0) ((am_zg (am_u γ 302 (3 + 14 * r) 0 ((γ 302 (3 + 14 * r) 0) + 1)) (K.1 + 1)) 302 (3 + 14 * r) 0) t) 303 (3 + 14 * r) 0 0) 1900 (K.1 + 1) 0 = nI r := by rw [am_u_ne (by decide), (di_at1 _ _ _ _ _ _).1]; exact hWn.2.2.2.2.2.1 r hr
  rw [hid]
  refine r_callV2v at_20_52 ((hW3.1.wP (F := 304) (a := 3 + 14 * r) (i := 0) (v := (some (K.1 + 1))) (by omega)).lR (r := r) (by omega)) (Nat.le_of_ble_eq_true rfl) (fun _ hq => c_install (by omega) (hW3.1.wP (F := 304) (a := 3 + 14 * r) (i := 0) (v := (some (K.1 + 1))) (by omega)) (by omega) (hD3.wP (F := 304) (a := 3 + 14 * r) (i := 0) (v := (some (K.1 + 1))) (by omega)) hor (by omega) (by omega) hq) <| ?_
  refine r_ret at_20_55 ?_
  exact hq
theorem wf_dc {K : am_K} {γ : am_I} {π : am_P} (hW : am_Wf K γ π) {r : Nat} (hr : r < 5) (t : Int32) : am_Wf (am_kw (am_kw (am_kw K 19 5) 20 5) 21 2) (fc_dc_g γ (K.1 + 1) r t) (fc_dc_p π (K.1 + 1) r) := by
  have hWn : am_Wf (am_kw K 19 5) (am_zg (fc_dc1 γ r) (K.1 + 1)) (am_zp π (K.1 + 1)) := (hW.g (by decide)).nw
  have h187 : 187 ≤ K.1 := hW.1.1.1
  have hW3 := di_wfA (a := K.1 + 1) rfl hWn am_lq.self (by omega) r (am_zg (fc_dc1 γ r) (K.1 + 1) 300 (3 + 14 * r) 0) (am_zg (fc_dc1 γ r) (K.1 + 1) 302 (3 + 14 * r) 0) t
  have hD3 := di_deA (a := K.1 + 1) rfl hWn am_lq.self (by omega) hr
  have ho : am_zg (fc_dc1 γ r) (K.1 + 1) 300 (3 + 14 * r) 0 = nI r := hWn.2.2.2.2.2.1 r hr
  have hW4 : am_Wf (am_kw (am_kw (am_kw K 19 5) 20 5) 21 2) (fc_dc2 (am_zg (fc_dc1 γ r) (K.1 + 1)) (K.1 + 1) r t) (fc_di2 (am_zp π (K.1 + 1)) (K.1 + 1) r) := wf_in (hW3.g (F := 303) (by decide)) r r r
  have hor : fc_dc2 (am_zg (fc_dc1 γ r) (K.1 + 1)) (K.1 + 1) r t 1900 (K.1 + 1) 0 = nI r := by
    refine am_it_keep (P := fun g : am_I => g 1900 (K.1 + 1) 0 = nI r) (fun i _ g hg => ?_) ?_
    · unfold fc_in_b
      rw [am_u_ne (by decide)]
      exact hg
    · rw [am_u_ne (by decide), (di_at1 _ _ _ _ _ _).1]
      exact ho
  have hW5 : am_Wf (am_kw (am_kw (am_kw K 19 5) 20 5) 21 2) (fc_dc2 (am_zg (fc_dc1 γ r) (K.1 + 1)) (K.1 + 1) r t) (am_u (fc_di2 (am_zp π (K.1 + 1)) (K.1 + 1) r) 304 (3 + 14 * r) 0 (some (K.1 + 1))) := by
    obtain ⟨h0, h1, h2, h3, h4, h5, h6⟩ := hW4
    have k : ∀ {e y : Nat}, am_De (am_kw (am_kw (am_kw K 19 5) 20 5) 21 2) (fc_di2 (am_zp π (K.1 + 1)) (K.1 + 1) r) e ∧ fc_dc2 (am_zg (fc_dc1 γ r) (K.1 + 1)) (K.1 + 1) r t 1900 e 0 = nI y → am_De (am_kw (am_kw (am_kw K 19 5) 20 5) 21 2) (am_u (fc_di2 (am_zp π (K.1 + 1)) (K.1 + 1) r) 304 (3 + 14 * r) 0 (some (K.1 + 1))) e ∧ fc_dc2 (am_zg (fc_dc1 γ r) (K.1 + 1)) (K.1 + 1) r t 1900 e 0 = nI y := fun q => ⟨q.1.wP (by omega), q.2⟩
    refine ⟨h0.wP (by omega), fun r' hr' x hx e he => k ?_, fun r' hr' e he => k ?_, fun r' hr' s hs q hq => ?_, fun i hi x hx e he => k ?_, h5, h6⟩
    · rw [am_u_ne (by decide)] at he; exact h1 r' hr' x hx e he
    · unfold am_u at he
      split at he
      next c =>
        cases he
        have er : r' = r := by omega
        subst er
        exact ⟨hD3, hor⟩
      next => exact h2 r' hr' e he
    · rw [am_u_ne (by decide)] at hq; exact h3 r' hr' s hs q hq
    · rw [am_u_ne (by decide)] at he; exact h4 i hi x hx e he
  exact hW5.p (Or.inl rfl) (fun e he => by
    cases he
    exact ⟨hD3.wP (by omega), hor⟩)

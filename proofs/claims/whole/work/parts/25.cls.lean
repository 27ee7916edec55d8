def fc_mk_r (r : Nat) (z : am_K × am_I × am_P) : am_K × am_I × am_P := if z.2.1 301 (3 + 14 * r) 0 = 0 then z else if fc_md z.2.1 z.2.2 r (z.2.1 104 1 0) = 0 then z else ((am_kw (am_kw (am_kw z.1 19 5) 20 5) 21 2), fc_ct (fc_dc_g z.2.1 (z.1.1 + 1) r (z.2.1 104 1 0)) 5 1, fc_dc_p z.2.2 (z.1.1 + 1) r)
def fc_mk (K : am_K) (γ : am_I) (π : am_P) : am_K × am_I × am_P := am_it fc_mk_r 5 (K, γ, π)
def am_Bd (B C : Nat) (z : am_K × am_I × am_P) : Prop := am_Wf z.1 z.2.1 z.2.2 ∧ z.1.1 ≤ B ∧ z.1.2.1 ≤ C
theorem am_Bd.mk {B C : Nat} {K : am_K} {γ : am_I} {π : am_P} (h : am_Wf K γ π) (hB : K.1 ≤ B) (hC : K.2.1 ≤ C) : am_Bd B C (K, γ, π) := ⟨h, hB, hC⟩
theorem am_Bd.mk2 {B C : Nat} {K : am_K} {p : am_I × am_P} (h : am_Wf K p.1 p.2) (hB : K.1 ≤ B) (hC : K.2.1 ≤ C) : am_Bd B C (K, p) := ⟨h, hB, hC⟩
theorem wf_mk_r {B C : Nat} {z : am_K × am_I × am_P} (h : am_Bd B C z) {r : Nat} (hr : r < 5) : am_Bd (B + 3) (C + 12) (fc_mk_r r z) := by
  obtain ⟨h1, h2, h3⟩ := h
  unfold fc_mk_r
  split
  · exact ⟨h1, by omega, by omega⟩
  split
  · exact ⟨h1, by omega, by omega⟩
  · refine ⟨wf_ct (wf_dc h1 hr _) 5 1, ?_, ?_⟩
    · show z.1.1 + 1 + 1 + 1 ≤ B + 3
      omega
    · show z.1.2.1 + 5 + 5 + 2 ≤ C + 12
      omega
theorem wf_mk {B C : Nat} {K : am_K} {γ : am_I} {π : am_P} (h : am_Bd B C (K, γ, π)) : am_Bd (B + 15) (C + 60) (fc_mk K γ π) := by
  have g : ∀ i, i ≤ 5 → am_Bd (B + 3 * i) (C + 12 * i) (am_it fc_mk_r i (K, γ, π)) := by
    intro i
    induction i with
    | zero =>
      intro _
      exact h
    | succ i ih =>
      intro hi
      have q := wf_mk_r (ih (by omega)) (r := i) (by omega)
      rw [show B + 3 * i + 3 = B + 3 * (i + 1) by omega, show C + 12 * i + 12 = C + 12 * (i + 1) by omega] at q
      exact q
  exact g 5 (by decide)
theorem c_make {d : Nat} {Q : am_Q} {K : am_K} {sc : am_Sc} {γ : am_I} {π : am_P} {m : am_M} {B C : Nat} (hd : 4 ≤ d) (hW : am_Wf K γ π) (hB : K.1 ≤ B) (hC : K.2.1 ≤ C) (hBl : B + 15 ≤ am_limC) (hCl : C + 60 ≤ am_limS) (hq : Q ((fc_mk K γ π).1, sc, ((fc_mk K γ π).2.1, (fc_mk K γ π).2.2), m) none) : am_call d 60 [.inr (some 1)] (K, sc, (γ, π), m) Q := by
  obtain ⟨d, rfl⟩ : ∃ d', d = d' + 1 := ⟨d - 1, by omega⟩
  refine r_enter (by decide) (Nat.le_of_ble_eq_true rfl) (ls := [some (.inr (some 1)), none]) rfl ?_
  refine r_push at_60_0 <| r_istoreL (ls' := [_, _]) at_60_1 rfl <| ?_
  refine am_forI 5 (fun r z => am_w d 60 Q 2 [some (.inr (some 1)), some (.inl (nI r))] [] (z.1, sc, (z.2.1, z.2.2), m)) fc_mk_r (fun i z => am_Bd (B + 3 * i) (C + 12 * i) z) (fun i hi z h => by have q := wf_mk_r h (r := i) hi; rw [show B + 3 * i + 3 = B + 3 * (i + 1) by omega, show C + 12 * i + 12 = C + 12 * (i + 1) by omega] at q; exact q) (fun r hr z hI hk => ?_) (K, γ, π) ⟨hW, hB, hC⟩ ?_
  · obtain ⟨K', γ', π'⟩ := z
    obtain ⟨hW', hB', hC'⟩ := hI
    dsimp only at hk hW' hB' hC' ⊢
    refine r_iload at_60_2 rfl <| r_push at_60_3 <| r_cmgeNT r 5 at_60_4 rfl rfl (by omega) (by omega) (by omega) <| r_aload at_60_7 rfl <| c_getP 100 at_60_8 rfl (by decide) (hW'.1.lNet) hW'.1.2.1.1 <| r_iload at_60_11 rfl <| c_aald 200 r at_60_12 rfl (by decide) (hW'.1.lRs) rfl (by omega) (by decide) ((hW'.1.2.2.1 r (by omega)).1) <| c_getI 301 at_60_13 rfl (by decide) (hW'.1.lR (r := r) (by omega)) <| r_ifeq at_60_16 (fun h16_1 => ?_) (fun h16_1 => ?_)
    · refine r_iincNL (ls' := [_, _]) r at_60_58 rfl rfl <| r_goto at_60_61 <| ?_
      have e : fc_mk_r r (K', γ', π') = (K', γ', π') := by simp only [fc_mk_r, fc_ct, if_pos h16_1]
      rw [e] at hk
      exact hk
    · refine r_aload at_60_19 rfl <| c_getP 100 at_60_20 rfl (by decide) (hW'.1.lNet) hW'.1.2.1.1 <| r_iload at_60_23 rfl <| c_aald 200 r at_60_24 rfl (by decide) (hW'.1.lRs) rfl (by omega) (by decide) ((hW'.1.2.2.1 r (by omega)).1) <| r_aload at_60_25 rfl <| c_getI 104 at_60_26 rfl (by decide) (hW'.1.lNet) <| r_callV1i at_60_29 (hW'.1.lR (r := r) (by omega)) (Nat.le_of_ble_eq_true rfl) (fun _ hq => c_mustDescribe (by omega) hW' (by omega) hq) <| r_ifeq at_60_32 (fun h32_2 => ?_) (fun h32_2 => ?_)
      · refine r_iincNL (ls' := [_, _]) r at_60_58 rfl rfl <| r_goto at_60_61 <| ?_
        have e : fc_mk_r r (K', γ', π') = (K', γ', π') := by simp only [fc_mk_r, fc_ct, if_neg h16_1, if_pos h32_2]
        rw [e] at hk
        exact hk
      · refine r_aload at_60_35 rfl <| c_getP 100 at_60_36 rfl (by decide) (hW'.1.lNet) hW'.1.2.1.1 <| r_iload at_60_39 rfl <| c_aald 200 r at_60_40 rfl (by decide) (hW'.1.lRs) rfl (by omega) (by decide) ((hW'.1.2.2.1 r (by omega)).1) <| r_aload at_60_41 rfl <| c_getI 104 at_60_42 rfl (by decide) (hW'.1.lNet) <| r_callV1v at_60_45 (hW'.1.lR (r := r) (by omega)) (Nat.le_of_ble_eq_true rfl) (fun _ hq => c_describe (by omega) hW' (by omega) (by omega) (by omega) hq) <| r_aload at_60_48 rfl <| c_getP 103 at_60_49 rfl (by decide) ((wf_dc hW' (r := r) (by omega) (γ' 104 1 0)).1.lNet) ((wf_dc hW' (r := r) (by omega) (γ' 104 1 0)).1.2.1.2.2.2) <| r_push at_60_52 <| r_dup2 at_60_53 <| c_ald 1800 5 at_60_54 rfl (by decide) ((wf_dc hW' (r := r) (by omega) (γ' 104 1 0)).1.lCn) rfl (by omega) (by decide) <| r_push at_60_55 <| r_bin at_60_56 <| c_ast 1800 5 at_60_57 rfl (by decide) ((wf_dc hW' (r := r) (by omega) (γ' 104 1 0)).1.lCn) rfl (by omega) (by decide) <| r_iincNL (ls' := [_, _]) r at_60_58 rfl rfl <| r_goto at_60_61 <| ?_
        have e : fc_mk_r r (K', γ', π') = (am_kw (am_kw (am_kw K' 19 5) 20 5) 21 2, am_u (fc_dc_g γ' (K'.1 + 1) r (γ' 104 1 0)) 1800 162 5 (((fc_dc_g γ' (K'.1 + 1) r (γ' 104 1 0)) 1800 162 5) + 1), fc_dc_p π' (K'.1 + 1) r) := by simp only [fc_mk_r, fc_ct, if_neg h16_1, if_neg h32_2]
        rw [e] at hk
        exact hk
  · generalize hz : am_it fc_mk_r 5 (K, γ, π) = y
    rw [show fc_mk K γ π = y from hz] at hq
    refine r_iload at_60_2 rfl <| r_push at_60_3 <| r_cmgeNF 5 5 at_60_4 rfl rfl (by omega) (by omega) (by omega) <| ?_
    refine r_ret at_60_64 ?_
    exact hq
def fc_tk5 (z : am_K × am_I × am_P) : am_K × am_I × am_P := (z.1, fc_dd (fc_su z.2.1 z.2.2).1 (fc_su z.2.1 z.2.2).2)
def fc_tk4 (K : am_K) (γ : am_I) (π : am_P) : am_K × am_I × am_P := fc_tk5 (fc_mk K (fc_jn γ π) π)
def fc_tk3 (K : am_K) (γ : am_I) (π : am_P) : am_K × am_I × am_P := if γ 104 1 0 - γ 104 1 0 / 2 * 2 = 0 then fc_tk4 K (fc_eh γ) π else fc_tk4 K γ π
def fc_tk2 (K : am_K) (z : am_I × am_P) : am_K × am_I × am_P := fc_tk3 K z.1 z.2
def fc_tick (t : Nat) (z : am_K × am_I × am_P) : am_K × am_I × am_P := fc_tk2 z.1 (fc_de (am_u z.2.1 104 1 0 (z.2.1 104 1 0 + 1)) z.2.2)
theorem wf_tk5 {B C : Nat} {z : am_K × am_I × am_P} (h : am_Bd B C z) : am_Bd B C (fc_tk5 z) := am_Bd.mk2 (wf_dd (wf_su h.1)) h.2.1 h.2.2
theorem wf_tk4 {B C : Nat} {K : am_K} {γ : am_I} {π : am_P} (hw : am_Wf K γ π) (hB : K.1 ≤ B) (hC : K.2.1 ≤ C) : am_Bd (B + 15) (C + 60) (fc_tk4 K γ π) := by
  have h : am_Bd B C (K, fc_jn γ π, π) := am_Bd.mk (wf_jn hw) hB hC
  exact wf_tk5 (wf_mk h)
theorem wf_tk3 {B C : Nat} {K : am_K} {γ : am_I} {π : am_P} (hw : am_Wf K γ π) (hB : K.1 ≤ B) (hC : K.2.1 ≤ C) : am_Bd (B + 15) (C + 60) (fc_tk3 K γ π) := by
  unfold fc_tk3
  split
  · exact wf_tk4 (wf_eh hw) hB hC
  · exact wf_tk4 hw hB hC
theorem wf_tick {B C : Nat} {z : am_K × am_I × am_P} (h : am_Bd B C z) (t : Nat) : am_Bd (B + 15) (C + 60) (fc_tick t z) := by
  have h1 := wf_de (h.1.g (F := 104) (a := 1) (i := 0) (v := z.2.1 104 1 0 + 1) (by decide))
  unfold fc_tick fc_tk2
  exact wf_tk3 h1 h.2.1 h.2.2
def fc_pass (z : am_K × am_I × am_P) (x : Int32) : (am_K × am_I × am_P) × Int32 := if x < 1 then (z, 0) else if 4 < x then (z, 0) else (am_it fc_tick x.toNatClampNeg z, 1)
theorem c_tick {d : Nat} {Q : am_Q} {K : am_K} {sc : am_Sc} {γ : am_I} {π : am_P} {m : am_M} {B C t : Nat} (hd : 5 ≤ d) (hW : am_Wf K γ π) (hB : K.1 ≤ B) (hC : K.2.1 ≤ C) (hBl : B + 15 ≤ am_limC) (hCl : C + 60 ≤ am_limS) (hq : Q ((fc_tick t (K, γ, π)).1, sc, ((fc_tick t (K, γ, π)).2.1, (fc_tick t (K, γ, π)).2.2), m) none) : am_call d 53 [.inr (some 1)] (K, sc, (γ, π), m) Q := by
  obtain ⟨d, rfl⟩ : ∃ d', d = d' + 1 := ⟨d - 1, by omega⟩
  refine r_enter (by decide) (Nat.le_of_ble_eq_true rfl) (ls := [some (.inr (some 1))]) rfl ?_
  refine r_aload at_53_0 rfl <| r_dup at_53_1 <| c_getI 104 at_53_2 rfl (by decide) (hW.1.lNet) <| r_push at_53_5 <| r_bin at_53_6 <| c_putI 104 at_53_7 rfl (by decide) (hW.1.lNet) <| ?_
  have h1 : am_Wf K (fc_de (am_u γ 104 1 0 (γ 104 1 0 + 1)) π).1 (fc_de (am_u γ 104 1 0 (γ 104 1 0 + 1)) π).2 := wf_de (hW.g (by decide))
  refine r_aload at_53_10 rfl <| r_callV0v at_53_11 (hW.1.lNet) (Nat.le_of_ble_eq_true rfl) (fun _ hq => c_dropExpired (by omega) (hW.g (by decide)) hq) <| r_aload at_53_14 rfl <| c_getI 104 at_53_15 rfl (by decide) (h1.1.lNet) <| r_push at_53_18 <| r_div at_53_19 (by decide) <| r_ifne at_53_20 (fun h20_1 => ?_) (fun h20_1 => ?_)
  · have h1e := wf_eh h1
    have h2 := wf_jn h1e
    have h3 := wf_mk (B := B) (C := C) (K := K) (γ := fc_jn (fc_eh ((fc_de (am_u γ 104 1 0 ((γ 104 1 0) + 1)) π).1)) ((fc_de (am_u γ 104 1 0 ((γ 104 1 0) + 1)) π).2)) (π := (fc_de (am_u γ 104 1 0 ((γ 104 1 0) + 1)) π).2) (am_Bd.mk h2 hB hC)
    refine r_aload at_53_23 rfl <| r_callV0v at_53_24 (h1.1.lNet) (Nat.le_of_ble_eq_true rfl) (fun _ hq => c_exchangeHellos (by omega) h1 hq) <| r_aload at_53_27 rfl <| r_callV0v at_53_28 (h1e.1.lNet) (Nat.le_of_ble_eq_true rfl) (fun _ hq => c_judgeNeighbours (by omega) h1e.1 h1e.hd hq) <| r_aload at_53_31 rfl <| r_callV0v at_53_32 (h1e.1.lNet) (Nat.le_of_ble_eq_true rfl) (fun _ hq => c_make (by omega) h2 hB hC hBl hCl hq) <| r_aload at_53_35 rfl <| r_callV0v at_53_36 (h3.1.1.lNet) (Nat.le_of_ble_eq_true rfl) (fun _ hq => c_sendUpdates (by omega) h3.1 hq) <| r_aload at_53_39 rfl <| r_callV0v at_53_40 ((wf_su h3.1).1.lNet) (Nat.le_of_ble_eq_true rfl) (fun _ hq => c_deliverUpdates (by omega) (wf_su h3.1) hq) <| ?_
    refine r_ret at_53_43 ?_
    have e : fc_tick t (K, γ, π) = ((fc_mk K (fc_jn (fc_eh ((fc_de (am_u γ 104 1 0 ((γ 104 1 0) + 1)) π).1)) ((fc_de (am_u γ 104 1 0 ((γ 104 1 0) + 1)) π).2)) ((fc_de (am_u γ 104 1 0 ((γ 104 1 0) + 1)) π).2)).1, (fc_dd ((fc_su ((fc_mk K (fc_jn (fc_eh ((fc_de (am_u γ 104 1 0 ((γ 104 1 0) + 1)) π).1)) ((fc_de (am_u γ 104 1 0 ((γ 104 1 0) + 1)) π).2)) ((fc_de (am_u γ 104 1 0 ((γ 104 1 0) + 1)) π).2)).2.1) ((fc_mk K (fc_jn (fc_eh ((fc_de (am_u γ 104 1 0 ((γ 104 1 0) + 1)) π).1)) ((fc_de (am_u γ 104 1 0 ((γ 104 1 0) + 1)) π).2)) ((fc_de (am_u γ 104 1 0 ((γ 104 1 0) + 1)) π).2)).2.2)).1) ((fc_su ((fc_mk K (fc_jn (fc_eh ((fc_de (am_u γ 104 1 0 ((γ 104 1 0) + 1)) π).1)) ((fc_de (am_u γ 104 1 0 ((γ 104 1 0) + 1)) π).2)) ((fc_de (am_u γ 104 1 0 ((γ 104 1 0) + 1)) π).2)).2.1) ((fc_mk K (fc_jn (fc_eh ((fc_de (am_u γ 104 1 0 ((γ 104 1 0) + 1)) π).1)) ((fc_de (am_u γ 104 1 0 ((γ 104 1 0) + 1)) π).2)) ((fc_de (am_u γ 104 1 0 ((γ 104 1 0) + 1)) π).2)).2.2)).2)).1, (fc_dd ((fc_su ((fc_mk K (fc_jn (fc_eh ((fc_de (am_u γ 104 1 0 ((γ 104 1 0) + 1)) π).1)) ((fc_de (am_u γ 104 1 0 ((γ 104 1 0) + 1)) π).2)) ((fc_de (am_u γ 104 1 0 ((γ 104 1 0) + 1)) π).2)).2.1) ((fc_mk K (fc_jn (fc_eh ((fc_de (am_u γ 104 1 0 ((γ 104 1 0) + 1)) π).1)) ((fc_de (am_u γ 104 1 0 ((γ 104 1 0) + 1)) π).2)) ((fc_de (am_u γ 104 1 0 ((γ 104 1 0) + 1)) π).2)).2.2)).1) ((fc_su ((fc_mk K (fc_jn (fc_eh ((fc_de (am_u γ 104 1 0 ((γ 104 1 0) + 1)) π).1)) ((fc_de (am_u γ 104 1 0 ((γ 104 1 0) + 1)) π).2)) ((fc_de (am_u γ 104 1 0 ((γ 104 1 0) + 1)) π).2)).2.1) ((fc_mk K (fc_jn (fc_eh ((fc_de (am_u γ 104 1 0 ((γ 104 1 0) + 1)) π).1)) ((fc_de (am_u γ 104 1 0 ((γ 104 1 0) + 1)) π).2)) ((fc_de (am_u γ 104 1 0 ((γ 104 1 0) + 1)) π).2)).2.2)).2)).2) := by simp only [fc_tick, fc_tk2, fc_tk3, fc_tk4, fc_tk5, if_pos h20_1]
    rw [e] at hq
    dsimp only at hq
    exact hq
  · have h2 := wf_jn h1
    have h3 := wf_mk (B := B) (C := C) (K := K) (γ := fc_jn ((fc_de (am_u γ 104 1 0 ((γ 104 1 0) + 1)) π).1) ((fc_de (am_u γ 104 1 0 ((γ 104 1 0) + 1)) π).2)) (π := (fc_de (am_u γ 104 1 0 ((γ 104 1 0) + 1)) π).2) (am_Bd.mk h2 hB hC)
    refine r_aload at_53_27 rfl <| r_callV0v at_53_28 (h1.1.lNet) (Nat.le_of_ble_eq_true rfl) (fun _ hq => c_judgeNeighbours (by omega) h1.1 h1.hd hq) <| r_aload at_53_31 rfl <| r_callV0v at_53_32 (h1.1.lNet) (Nat.le_of_ble_eq_true rfl) (fun _ hq => c_make (by omega) h2 hB hC hBl hCl hq) <| r_aload at_53_35 rfl <| r_callV0v at_53_36 (h3.1.1.lNet) (Nat.le_of_ble_eq_true rfl) (fun _ hq => c_sendUpdates (by omega) h3.1 hq) <| r_aload at_53_39 rfl <| r_callV0v at_53_40 ((wf_su h3.1).1.lNet) (Nat.le_of_ble_eq_true rfl) (fun _ hq => c_deliverUpdates (by omega) (wf_su h3.1) hq) <| ?_
    refine r_ret at_53_43 ?_
    have e : fc_tick t (K, γ, π) = ((fc_mk K (fc_jn ((fc_de (am_u γ 104 1 0 ((γ 104 1 0) + 1)) π).1) ((fc_de (am_u γ 104 1 0 ((γ 104 1 0) + 1)) π).2)) ((fc_de (am_u γ 104 1 0 ((γ 104 1 0) + 1)) π).2)).1, (fc_dd ((fc_su ((fc_mk K (fc_jn ((fc_de (am_u γ 104 1 0 ((γ 104 1 0) + 1)) π).1) ((fc_de (am_u γ 104 1 0 ((γ 104 1 0) + 1)) π).2)) ((fc_de (am_u γ 104 1 0 ((γ 104 1 0) + 1)) π).2)).2.1) ((fc_mk K (fc_jn ((fc_de (am_u γ 104 1 0 ((γ 104 1 0) + 1)) π).1) ((fc_de (am_u γ 104 1 0 ((γ 104 1 0) + 1)) π).2)) ((fc_de (am_u γ 104 1 0 ((γ 104 1 0) + 1)) π).2)).2.2)).1) ((fc_su ((fc_mk K (fc_jn ((fc_de (am_u γ 104 1 0 ((γ 104 1 0) + 1)) π).1) ((fc_de (am_u γ 104 1 0 ((γ 104 1 0) + 1)) π).2)) ((fc_de (am_u γ 104 1 0 ((γ 104 1 0) + 1)) π).2)).2.1) ((fc_mk K (fc_jn ((fc_de (am_u γ 104 1 0 ((γ 104 1 0) + 1)) π).1) ((fc_de (am_u γ 104 1 0 ((γ 104 1 0) + 1)) π).2)) ((fc_de (am_u γ 104 1 0 ((γ 104 1 0) + 1)) π).2)).2.2)).2)).1, (fc_dd ((fc_su ((fc_mk K (fc_jn ((fc_de (am_u γ 104 1 0 ((γ 104 1 0) + 1)) π).1) ((fc_de (am_u γ 104 1 0 ((γ 104 1 0) + 1)) π).2)) ((fc_de (am_u γ 104 1 0 ((γ 104 1 0) + 1)) π).2)).2.1) ((fc_mk K (fc_jn ((fc_de (am_u γ 104 1 0 ((γ 104 1 0) + 1)) π).1) ((fc_de (am_u γ 104 1 0 ((γ 104 1 0) + 1)) π).2)) ((fc_de (am_u γ 104 1 0 ((γ 104 1 0) + 1)) π).2)).2.2)).1) ((fc_su ((fc_mk K (fc_jn ((fc_de (am_u γ 104 1 0 ((γ 104 1 0) + 1)) π).1) ((fc_de (am_u γ 104 1 0 ((γ 104 1 0) + 1)) π).2)) ((fc_de (am_u γ 104 1 0 ((γ 104 1 0) + 1)) π).2)).2.1) ((fc_mk K (fc_jn ((fc_de (am_u γ 104 1 0 ((γ 104 1 0) + 1)) π).1) ((fc_de (am_u γ 104 1 0 ((γ 104 1 0) + 1)) π).2)) ((fc_de (am_u γ 104 1 0 ((γ 104 1 0) + 1)) π).2)).2.2)).2)).2) := by simp only [fc_tick, fc_tk2, fc_tk3, fc_tk4, fc_tk5, if_neg h20_1]
    rw [e] at hq
    dsimp only at hq
    exact hq

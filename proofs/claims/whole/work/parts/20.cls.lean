def fc_ld_e (i r n : Nat) (t : Int32) (x : Nat) (γ : am_I) (π : am_P) (v : Int32) (e : Nat) : am_I × am_P × Int32 := if fc_du (γ 800 (8 + 14 * r + 2 * n) x) t = 0 then (γ, π, v) else (am_u γ 800 (8 + 14 * r + 2 * n) x t, am_u π 1100 (75 + 3 * i) x (some e), v + 1)
def fc_ld_y (i r n : Nat) (t : Int32) (x : Nat) (γ : am_I) (π : am_P) (v : Int32) : am_I × am_P × Int32 := (π 500 (5 + 14 * r) x).elim (γ, π, v) (fc_ld_e i r n t x γ π v)
def fc_ld_x (i r n : Nat) (t : Int32) (x : Nat) (z : am_I × am_P × Int32) : am_I × am_P × Int32 := fc_ld_y i r n t x (am_u z.1 1200 (76 + 3 * i) x 0) (am_u z.2.1 1100 (75 + 3 * i) x none) z.2.2
def fc_ld (γ : am_I) (π : am_P) (i r n : Nat) (t : Int32) : am_I × am_P × Int32 := am_it (fc_ld_x i r n t) 5 (γ, π, 0)
theorem wf_ld_x {K : am_K} {z : am_I × am_P × Int32} (h : am_Wf K z.1 z.2.1) (i r n : Nat) (hr : r < 5) (t : Int32) (x : Nat) (hx : x < 5) : am_Wf K (fc_ld_x i r n t x z).1 (fc_ld_x i r n t x z).2.1 := by
  have h1 : am_Wf K (am_u z.1 1200 (76 + 3 * i) x 0) (am_u z.2.1 1100 (75 + 3 * i) x none) := (h.g (by decide)).p (Or.inr rfl) (fun e he => by cases he)
  unfold fc_ld_x fc_ld_y
  revert h1
  generalize am_u z.1 1200 (76 + 3 * i) x 0 = γ
  generalize am_u z.2.1 1100 (75 + 3 * i) x none = π
  intro h1
  cases he : π 500 (5 + 14 * r) x with
  | none => exact h1
  | some e =>
    simp only [Option.elim]
    unfold fc_ld_e
    split
    · exact h1
    · exact (h1.g (by decide)).p (Or.inr rfl) (fun f hf => by
        cases hf
        rw [am_u_ne (by decide)]
        exact h1.2.1 r hr x hx e he)
theorem wf_ld {K : am_K} {γ : am_I} {π : am_P} (h : am_Wf K γ π) (i r n : Nat) (hr : r < 5) (t : Int32) : am_Wf K (fc_ld γ π i r n t).1 (fc_ld γ π i r n t).2.1 := am_it_keep (P := fun z : am_I × am_P × Int32 => am_Wf K z.1 z.2.1) (fun x hx z hz => wf_ld_x hz i r n hr t x hx) h
theorem fc_arr_01 (γ : am_I) (q n : Nat) : (fc_arr γ q n).2 = 0 ∨ (fc_arr γ q n).2 = 1 := by
  unfold fc_arr
  repeat' split
  · exact Or.inl rfl
  · exact Or.inl rfl
  · exact Or.inr rfl
def fc_su_b (i : Nat) (π : am_P) (w : am_I × Int32) : am_I × am_P := (am_u w.1 1000 (74 + 3 * i) 0 w.2, π)
def fc_su_c (i q n : Nat) (γ : am_I) (π : am_P) (v : Int32) : am_I × am_P := if 0 < v then fc_su_b i π (fc_arr (fc_ct (fc_ct γ 1 1) 2 v) q n) else (γ, π)
def fc_su_a (i q n : Nat) (z : am_I × am_P × Int32) : am_I × am_P := fc_su_c i q n (am_u z.1 1000 (74 + 3 * i) 0 0) z.2.1 z.2.2
def fc_su_n (q n : Nat) (z : am_I × am_P) : am_I × am_P := fc_su_a (q * 5 + n) q n (fc_ld z.1 z.2 (q * 5 + n) q n (z.1 104 1 0))
def fc_su_q (q : Nat) (z : am_I × am_P) : am_I × am_P := am_it (fc_su_n q) 5 z
def fc_su (γ : am_I) (π : am_P) : am_I × am_P := am_it fc_su_q 5 (γ, π)
theorem wf_su_n {K : am_K} {z : am_I × am_P} (h : am_Wf K z.1 z.2) (q n : Nat) (hq : q < 5) : am_Wf K (fc_su_n q n z).1 (fc_su_n q n z).2 := by
  have h1 := wf_ld h (q * 5 + n) q n hq (z.1 104 1 0)
  unfold fc_su_n fc_su_a fc_su_c
  split
  · exact (wf_arr (wf_ct (wf_ct (h1.g (by decide)) _ _) _ _) _ _).g (by decide)
  · exact h1.g (by decide)
theorem wf_su_q {K : am_K} {z : am_I × am_P} (h : am_Wf K z.1 z.2) (q : Nat) (hq : q < 5) : am_Wf K (fc_su_q q z).1 (fc_su_q q z).2 := wf_it2 (fun n _ _ h => wf_su_n h q n hq) h
theorem wf_su {K : am_K} {γ : am_I} {π : am_P} (h : am_Wf K γ π) : am_Wf K (fc_su γ π).1 (fc_su γ π).2 := wf_it2 (z := (γ, π)) (fun q hq _ h => wf_su_q h q hq) h
def fc_tk_n (γ : am_I) (π : am_P) (a q n x : Nat) : (am_I × am_P) × Int32 := if x = n then ((fc_od γ n (γ 1901 a 0), π), 1) else ((fc_ct (fc_in γ n x q) 6 1, am_u π 500 (5 + 14 * n) x (some a)), 1)
def fc_tk_e (γ : am_I) (π : am_P) (a q n x e : Nat) : (am_I × am_P) × Int32 := if fc_nw γ a e = 0 then if fc_nw γ e a = 0 then ((am_u γ 800 (8 + 14 * n + 2 * q) x (-2), π), 1) else ((fc_ow γ n q x, π), 0) else fc_tk_n γ π a q n x
def fc_tk (γ : am_I) (π : am_P) (a q n x : Nat) : (am_I × am_P) × Int32 := (π 500 (5 + 14 * n) x).elim (fc_tk_n γ π a q n x) (fc_tk_e γ π a q n x)
theorem wf_tk_n {K : am_K} {γ : am_I} {π : am_P} (h : am_Wf K γ π) (a q n x : Nat) (ha : am_De K π a) (ho : γ 1900 a 0 = nI x) : am_Wf K (fc_tk_n γ π a q n x).1.1 (fc_tk_n γ π a q n x).1.2 := by
  unfold fc_tk_n
  split
  · exact wf_od h _ _
  · refine (wf_ct (wf_in h _ _ _) _ _).p (Or.inl rfl) (fun e he => ?_)
    cases he
    refine ⟨ha, ?_⟩
    show am_u _ 1800 162 6 _ 1900 a 0 = _
    rw [am_u_ne (by decide)]
    refine am_it_keep (P := fun g : am_I => g 1900 a 0 = nI x) (fun i _ g hg => ?_) ho
    show am_u _ 800 _ _ _ 1900 a 0 = _
    rw [am_u_ne (by decide)]
    exact hg
theorem wf_tk {K : am_K} {γ : am_I} {π : am_P} (h : am_Wf K γ π) (a q n x : Nat) (ha : am_De K π a) (ho : γ 1900 a 0 = nI x) : am_Wf K (fc_tk γ π a q n x).1.1 (fc_tk γ π a q n x).1.2 := by
  unfold fc_tk
  cases π 500 (5 + 14 * n) x with
  | none => exact wf_tk_n h a q n x ha ho
  | some e =>
    simp only [Option.elim]
    unfold fc_tk_e
    repeat' split
    · exact h.g (by decide)
    · exact wf_ow h _ _ _
    · exact wf_tk_n h a q n x ha ho
def fc_ak_x (π : am_P) (i q n x : Nat) (γ : am_I) : am_I := if γ 1200 (76 + 3 * i) x = 0 then γ else (π 500 (5 + 14 * q) x).elim γ (fun e => (π 1100 (75 + 3 * i) x).elim γ (fun f => if fc_sm γ e f = 0 then γ else am_u γ 800 (8 + 14 * q + 2 * n) x (-2)))
def fc_ak2 (π : am_P) (i q n : Nat) (w : am_I × Int32) : am_I := if w.2 = 0 then w.1 else am_it (fc_ak_x π i q n) 5 w.1
def fc_ak (γ : am_I) (π : am_P) (i q n : Nat) : am_I := fc_ak2 π i q n (fc_arr (fc_ct γ 3 1) n q)
theorem wf_ak {K : am_K} {γ : am_I} {π : am_P} (h : am_Wf K γ π) (i q n : Nat) : am_Wf K (fc_ak γ π i q n) π := by
  have h1 := wf_arr (wf_ct h 3 1) n q
  unfold fc_ak fc_ak2
  split
  · exact h1
  · refine h1.it (fun x _ γ h => ?_)
    unfold fc_ak_x
    split
    · exact h
    · cases π 500 (5 + 14 * q) x with
      | none => exact h
      | some e => cases π 1100 (75 + 3 * i) x with
        | none => exact h
        | some f =>
          simp only [Option.elim]
          split
          · exact h
          · exact h.g (by decide)
def fc_dv_t (i x : Nat) (s : Int32) (t : (am_I × am_P) × Int32) : am_I × am_P × Int32 := if t.2 = 0 then (t.1.1, t.1.2, s) else (am_u t.1.1 1200 (76 + 3 * i) x 1, t.1.2, 1)
def fc_dv_x (i q n x : Nat) (z : am_I × am_P × Int32) : am_I × am_P × Int32 := (z.2.1 1100 (75 + 3 * i) x).elim z (fun e => fc_dv_t i x z.2.2 (fc_tk z.1 z.2.1 e q n x))
def fc_dv2 (i q n : Nat) (z : am_I × am_P × Int32) : am_I × am_P := if z.2.2 = 0 then (z.1, z.2.1) else (fc_ak z.1 z.2.1 i q n, z.2.1)
def fc_dv (γ : am_I) (π : am_P) (i q n : Nat) : am_I × am_P := fc_dv2 i q n (am_it (fc_dv_x i q n) 5 (γ, π, 0))
theorem wf_dv_x {K : am_K} {z : am_I × am_P × Int32} (h : am_Wf K z.1 z.2.1) (i q n x : Nat) (hi : i < 25) (hx : x < 5) : am_Wf K (fc_dv_x i q n x z).1 (fc_dv_x i q n x z).2.1 := by
  unfold fc_dv_x
  cases he : z.2.1 1100 (75 + 3 * i) x with
  | none => exact h
  | some e =>
    have hw := h.2.2.2.2.1 i hi x hx e he
    simp only [Option.elim]
    unfold fc_dv_t
    split
    · exact wf_tk h e q n x hw.1 hw.2
    · exact (wf_tk h e q n x hw.1 hw.2).g (by decide)
theorem wf_dvs {K : am_K} {γ : am_I} {π : am_P} (h : am_Wf K γ π) (i q n : Nat) (hi : i < 25) : am_Wf K (am_it (fc_dv_x i q n) 5 (γ, π, 0)).1 (am_it (fc_dv_x i q n) 5 (γ, π, 0)).2.1 := am_it_keep (P := fun z : am_I × am_P × Int32 => am_Wf K z.1 z.2.1) (fun x hx z hz => wf_dv_x hz i q n x hi hx) h
theorem wf_dv {K : am_K} {γ : am_I} {π : am_P} (h : am_Wf K γ π) (i q n : Nat) (hi : i < 25) : am_Wf K (fc_dv γ π i q n).1 (fc_dv γ π i q n).2 := by
  have h1 := wf_dvs h i q n hi
  unfold fc_dv fc_dv2
  split
  · exact h1
  · exact wf_ak h1 i q n
def fc_dd_n (q n : Nat) (z : am_I × am_P) : am_I × am_P := if z.1 1000 (74 + 3 * (q * 5 + n)) 0 = 0 then z else if z.1 706 (7 + 14 * n + 2 * q) 0 = 0 then z else fc_dv z.1 z.2 (q * 5 + n) q n
def fc_dd_q (q : Nat) (z : am_I × am_P) : am_I × am_P := am_it (fc_dd_n q) 5 z
def fc_dd (γ : am_I) (π : am_P) : am_I × am_P := am_it fc_dd_q 5 (γ, π)
theorem wf_dd_n {K : am_K} {z : am_I × am_P} (h : am_Wf K z.1 z.2) (q n : Nat) (hq : q < 5) (hn : n < 5) : am_Wf K (fc_dd_n q n z).1 (fc_dd_n q n z).2 := by
  unfold fc_dd_n
  repeat' split
  · exact h
  · exact h
  · exact wf_dv h _ _ _ (by omega)
theorem wf_dd_q {K : am_K} {z : am_I × am_P} (h : am_Wf K z.1 z.2) (q : Nat) (hq : q < 5) : am_Wf K (fc_dd_q q z).1 (fc_dd_q q z).2 := wf_it2 (fun n hn _ h => wf_dd_n h q n hq hn) h
theorem wf_dd {K : am_K} {γ : am_I} {π : am_P} (h : am_Wf K γ π) : am_Wf K (fc_dd γ π).1 (fc_dd γ π).2 := wf_it2 (z := (γ, π)) (fun q hq _ h => wf_dd_q h q hq) h
theorem c_load {d : Nat} {Q : am_Q} {K : am_K} {sc : am_Sc} {γ : am_I} {π : am_P} {m : am_M} {i r n : Nat} {t : Int32} (hd : 2 ≤ d) (hW : am_Wf K γ π) (hi : i < 25) (hr : r < 5) (hn : n < 5) (hq : Q (K, sc, ((fc_ld γ π i r n t).1, (fc_ld γ π i r n t).2.1), m) (some (.inl ((fc_ld γ π i r n t).2.2)))) : am_call d 24 [.inr (some (74 + 3 * i)), .inr (some (5 + 14 * r)), .inr (some (8 + 14 * r + 2 * n)), .inl t] (K, sc, (γ, π), m) Q := by
  obtain ⟨d, rfl⟩ : ∃ d', d = d' + 1 := ⟨d - 1, by omega⟩
  refine r_enter (by decide) (Nat.le_of_ble_eq_true rfl) (ls := [some (.inr (some (74 + 3 * i))), some (.inr (some (5 + 14 * r))), some (.inr (some (8 + 14 * r + 2 * n))), some (.inl t), none, none]) rfl ?_
  refine r_push at_24_0 <| r_istoreL (ls' := [_, _, _, _, _, _]) at_24_1 rfl <| r_push at_24_3 <| r_istoreL (ls' := [_, _, _, _, _, _]) at_24_4 rfl <| ?_
  refine am_forI 5 (fun x z => am_w d 24 Q 6 [some (.inr (some (74 + 3 * i))), some (.inr (some (5 + 14 * r))), some (.inr (some (8 + 14 * r + 2 * n))), some (.inl t), some (.inl z.2.2), some (.inl (nI x))] [] (K, sc, (z.1, z.2.1), m)) (fc_ld_x i r n t) (fun _ z => am_Wf K z.1 z.2.1) (fun x hx _ h => wf_ld_x h i r n hr t x hx) (fun x hi_x z hI_x hk_x => ?_) (γ, π, 0) hW ?_
  · obtain ⟨γx, πx, v⟩ := z
    dsimp only at hk_x ⊢
    try dsimp only at hI_x
    refine r_iload at_24_6 rfl <| r_push at_24_8 <| r_cmgeNT x 5 at_24_9 rfl rfl (by omega) (by omega) (by omega) <| ?_
    refine r_aload at_24_12 rfl <| c_getP 1001 at_24_13 rfl (by decide) (hI_x.1.lU (i := i) (by omega)) ((hI_x.1.2.2.2.2.1 i (by omega)).2.1) <| r_iload at_24_16 rfl <| r_null at_24_18 <| c_aast 1100 x at_24_19 rfl (by decide) (hI_x.1.lUc (i := i) (by omega)) rfl (by omega) (by decide) (fun _ q => by cases q) <| r_aload at_24_20 rfl <| c_getP 1002 at_24_21 rfl (by decide) ((hI_x.1.wP (F := 1100) (a := 75 + 3 * i) (i := x) (v := none) (by omega)).lU (i := i) (by omega)) (((hI_x.1.wP (F := 1100) (a := 75 + 3 * i) (i := x) (v := none) (by omega)).2.2.2.2.1 i (by omega)).2.2) <| r_iload at_24_24 rfl <| r_push at_24_26 <| c_zast 1200 x at_24_27 rfl (by decide) ((hI_x.1.wP (F := 1100) (a := 75 + 3 * i) (i := x) (v := none) (by omega)).lUt (i := i) (by omega)) rfl (by omega) (by decide) (Or.inl rfl) <| r_aload at_24_28 rfl <| r_iload at_24_29 rfl <| c_aald 500 x at_24_31 rfl (by decide) ((hI_x.1.wP (F := 1100) (a := 75 + 3 * i) (i := x) (v := none) (by omega)).lHe (r := r) (by omega)) rfl (by omega) (by decide) rfl <| r_ifnull at_24_32 (fun h32_1 => ?_) (fun a32_1 h32_1 => ?_)
    · refine r_iincNL (ls' := [_, _, _, _, _, _]) x at_24_65 rfl rfl <| r_goto at_24_68 <| ?_
      have e : (fc_ld_x i r n t) x (γx, πx, v) = (am_u γx 1200 (76 + 3 * i) x 0, am_u πx 1100 (75 + 3 * i) x none, v) := by simp only [fc_ld_x, fc_ld_y, fc_ld_e, Option.elim, h32_1]
      rw [e] at hk_x
      dsimp only at hk_x
      exact hk_x
    · have g := h32_1
      rw [am_u_ne (by decide)] at g
      have hD := hI_x.2.1 r (by omega) x (by omega) _ g
      refine r_aload at_24_35 rfl <| r_iload at_24_36 rfl <| c_ald 800 x at_24_38 rfl (by decide) ((hI_x.1.wP (F := 1100) (a := 75 + 3 * i) (i := x) (v := none) (by omega)).lX (r := r) (n := n) (by omega) (by omega)) rfl (by omega) (by decide) <| r_iload at_24_39 rfl <| r_callS2i at_24_40 (Nat.le_of_ble_eq_true rfl) (fun _ hq => q_isDue (by omega) hq) <| r_ifeq at_24_43 (fun h43_2 => ?_) (fun h43_2 => ?_)
      · refine r_iincNL (ls' := [_, _, _, _, _, _]) x at_24_65 rfl rfl <| r_goto at_24_68 <| ?_
        have e : (fc_ld_x i r n t) x (γx, πx, v) = (am_u γx 1200 (76 + 3 * i) x 0, am_u πx 1100 (75 + 3 * i) x none, v) := by simp only [fc_ld_x, fc_ld_y, fc_ld_e, Option.elim, h32_1, if_pos h43_2]
        rw [e] at hk_x
        dsimp only at hk_x
        exact hk_x
      · refine r_aload at_24_46 rfl <| c_getP 1001 at_24_47 rfl (by decide) ((hI_x.1.wP (F := 1100) (a := 75 + 3 * i) (i := x) (v := none) (by omega)).lU (i := i) (by omega)) (((hI_x.1.wP (F := 1100) (a := 75 + 3 * i) (i := x) (v := none) (by omega)).2.2.2.2.1 i (by omega)).2.1) <| r_iload at_24_50 rfl <| r_aload at_24_52 rfl <| r_iload at_24_53 rfl <| c_aald 500 x at_24_55 rfl (by decide) ((hI_x.1.wP (F := 1100) (a := 75 + 3 * i) (i := x) (v := none) (by omega)).lHe (r := r) (by omega)) rfl (by omega) (by decide) h32_1 <| c_aast 1100 x at_24_56 rfl (by decide) ((hI_x.1.wP (F := 1100) (a := 75 + 3 * i) (i := x) (v := none) (by omega)).lUc (i := i) (by omega)) rfl (by omega) (by decide) (fun _ q => by cases q; exact (hD.1.wP (F := 1100) (a := 75 + 3 * i) (i := x) (v := none) (by omega)).2.1.lv) <| r_aload at_24_57 rfl <| r_iload at_24_58 rfl <| r_iload at_24_60 rfl <| c_ast 800 x at_24_61 rfl (by decide) (((hI_x.1.wP (F := 1100) (a := 75 + 3 * i) (i := x) (v := none) (by omega)).wP (F := 1100) (a := 75 + 3 * i) (i := x) (v := (some a32_1)) (by omega)).lX (r := r) (n := n) (by omega) (by omega)) rfl (by omega) (by decide) <| r_iincL (ls' := [_, _, _, _, _, _]) at_24_62 rfl rfl <| r_iincNL (ls' := [_, _, _, _, _, _]) x at_24_65 rfl rfl <| r_goto at_24_68 <| ?_
        have e : (fc_ld_x i r n t) x (γx, πx, v) = (am_u (am_u γx 1200 (76 + 3 * i) x 0) 800 (8 + 14 * r + 2 * n) x t, am_u (am_u πx 1100 (75 + 3 * i) x none) 1100 (75 + 3 * i) x (some a32_1), (v + 1)) := by simp only [fc_ld_x, fc_ld_y, fc_ld_e, Option.elim, h32_1, if_neg h43_2]
        rw [e] at hk_x
        dsimp only at hk_x
        exact hk_x
  · generalize hz6 : am_it (fc_ld_x i r n t) 5 (γ, π, 0) = y6
    refine r_iload at_24_6 rfl <| r_push at_24_8 <| r_cmgeNF 5 5 at_24_9 rfl rfl (by omega) (by omega) (by omega) <| ?_
    refine r_iload at_24_71 rfl <| ?_
    refine r_iret at_24_73 ?_
    rw [show fc_ld γ π i r n t = y6 from by simp only [fc_ld, hz6]] at hq
    exact hq
theorem c_sendUpdates {d : Nat} {Q : am_Q} {K : am_K} {sc : am_Sc} {γ : am_I} {π : am_P} {m : am_M}  (hd : 3 ≤ d) (hW : am_Wf K γ π)  (hq : Q (K, sc, ((fc_su γ π).1, (fc_su γ π).2), m) none) : am_call d 61 [.inr (some 1)] (K, sc, (γ, π), m) Q := by
  obtain ⟨d, rfl⟩ : ∃ d', d = d' + 1 := ⟨d - 1, by omega⟩
  refine r_enter (by decide) (Nat.le_of_ble_eq_true rfl) (ls := [some (.inr (some 1)), none, none, none, none]) rfl ?_
  refine r_push at_61_0 <| r_istoreL (ls' := [_, _, _, _, _]) at_61_1 rfl <| ?_
  refine am_forI 5 (fun q z => ∀ u2 u3 u4 : Option am_V, am_w d 61 Q 2 [some (.inr (some 1)), some (.inl (nI q)), u2, u3, u4] [] (K, sc, (z.1, z.2), m)) (fc_su_q) (fun _ z => am_Wf K z.1 z.2) (fun q hq _ h => wf_su_q h q hq) (fun q hi_q z hI_q hk_q => ?_) (γ, π) hW ?_ none none none
  · obtain ⟨γq, πq⟩ := z
    dsimp only at hk_q ⊢
    try dsimp only at hI_q
    intro u2 u3 u4
    refine r_iload at_61_2 rfl <| r_push at_61_3 <| r_cmgeNT q 5 at_61_4 rfl rfl (by omega) (by omega) (by omega) <| ?_
    refine r_push at_61_7 <| r_istoreL (ls' := [_, _, _, _, _]) at_61_8 rfl <| ?_
    refine am_forI 5 (fun n z => ∀ u3 u4 : Option am_V, am_w d 61 Q 9 [some (.inr (some 1)), some (.inl (nI q)), some (.inl (nI n)), u3, u4] [] (K, sc, (z.1, z.2), m)) (fc_su_n q) (fun _ z => am_Wf K z.1 z.2) (fun n _ _ h => wf_su_n h q n hi_q) (fun n hi_n z hI_n hk_n => ?_) (γq, πq) hI_q ?_ u3 u4
    · obtain ⟨γn, πn⟩ := z
      dsimp only at hk_n ⊢
      try dsimp only at hI_n
      intro u3 u4
      refine r_iload at_61_9 rfl <| r_push at_61_10 <| r_cmgeNT n 5 at_61_11 rfl rfl (by omega) (by omega) (by omega) <| ?_
      refine r_aload at_61_14 rfl <| c_getP 101 at_61_15 rfl (by decide) (hI_n.1.lNet) hI_n.1.2.1.2.1 <| r_iload at_61_18 rfl <| r_push at_61_19 <| r_mulN q 5 at_61_20 rfl rfl <| r_iload at_61_21 rfl <| r_addN (q * 5) n at_61_22 rfl rfl <| c_aald 900 (q * 5 + n) at_61_23 rfl (by decide) (hI_n.1.lUs) rfl (by omega) (by decide) ((hI_n.1.2.2.2.2.1 (q * 5 + n) (by omega)).1) <| r_astoreL (ls' := [_, _, _, _, _]) at_61_24 rfl <| r_aload at_61_25 rfl <| r_aload at_61_26 rfl <| c_getP 100 at_61_27 rfl (by decide) (hI_n.1.lNet) hI_n.1.2.1.1 <| r_iload at_61_30 rfl <| c_aald 200 q at_61_31 rfl (by decide) (hI_n.1.lRs) rfl (by omega) (by decide) ((hI_n.1.2.2.1 q (by omega)).1) <| c_getP 306 at_61_32 rfl (by decide) (hI_n.1.lR (r := q) (by omega)) ((hI_n.1.2.2.1 q (by omega)).2.2.1) <| r_aload at_61_35 rfl <| c_getP 100 at_61_36 rfl (by decide) (hI_n.1.lNet) hI_n.1.2.1.1 <| r_iload at_61_39 rfl <| c_aald 200 q at_61_40 rfl (by decide) (hI_n.1.lRs) rfl (by omega) (by decide) ((hI_n.1.2.2.1 q (by omega)).1) <| c_getP 307 at_61_41 rfl (by decide) (hI_n.1.lR (r := q) (by omega)) ((hI_n.1.2.2.1 q (by omega)).2.2.2) <| r_iload at_61_44 rfl <| c_aald 600 n at_61_45 rfl (by decide) (hI_n.1.lEs (r := q) (by omega)) rfl (by omega) (by decide) ((hI_n.1.2.2.2.1 q (by omega) n (by omega)).1) <| c_getP 708 at_61_46 rfl (by decide) (hI_n.1.lE (r := q) (n := n) (by omega) (by omega)) ((hI_n.1.2.2.2.1 q (by omega) n (by omega)).2) <| r_aload at_61_49 rfl <| c_getI 104 at_61_50 rfl (by decide) (hI_n.1.lNet) <| r_callV3i at_61_53 (hI_n.1.lU (i := q * 5 + n) (by omega)) (Nat.le_of_ble_eq_true rfl) (fun _ hq => c_load (by omega) hI_n (by omega) (by omega) (by omega) hq) <| r_istoreL (ls' := [_, _, _, _, _]) at_61_56 rfl <| r_aload at_61_58 rfl <| r_push at_61_59 <| c_putZ 1000 at_61_60 rfl (by decide) ((wf_ld hI_n (q * 5 + n) q n (by omega) (γn 104 1 0)).1.lU (i := q * 5 + n) (by omega)) (Or.inl rfl) <| r_iload at_61_63 rfl <| r_ifle at_61_65 (fun h65_1 => ?_) (fun h65_1 => ?_)
      · refine r_aload at_61_68 rfl <| c_getP 103 at_61_69 rfl (by decide) ((wf_ld hI_n (q * 5 + n) q n (by omega) (γn 104 1 0)).1.lNet) ((wf_ld hI_n (q * 5 + n) q n (by omega) (γn 104 1 0)).1.2.1.2.2.2) <| r_push at_61_72 <| r_dup2 at_61_73 <| c_ald 1800 1 at_61_74 rfl (by decide) ((wf_ld hI_n (q * 5 + n) q n (by omega) (γn 104 1 0)).1.lCn) rfl (by omega) (by decide) <| r_push at_61_75 <| r_bin at_61_76 <| c_ast 1800 1 at_61_77 rfl (by decide) ((wf_ld hI_n (q * 5 + n) q n (by omega) (γn 104 1 0)).1.lCn) rfl (by omega) (by decide) <| r_aload at_61_78 rfl <| c_getP 103 at_61_79 rfl (by decide) ((wf_ld hI_n (q * 5 + n) q n (by omega) (γn 104 1 0)).1.lNet) ((wf_ld hI_n (q * 5 + n) q n (by omega) (γn 104 1 0)).1.2.1.2.2.2) <| r_push at_61_82 <| r_dup2 at_61_83 <| c_ald 1800 2 at_61_84 rfl (by decide) ((wf_ld hI_n (q * 5 + n) q n (by omega) (γn 104 1 0)).1.lCn) rfl (by omega) (by decide) <| r_iload at_61_85 rfl <| r_bin at_61_87 <| c_ast 1800 2 at_61_88 rfl (by decide) ((wf_ld hI_n (q * 5 + n) q n (by omega) (γn 104 1 0)).1.lCn) rfl (by omega) (by decide) <| r_aload at_61_89 rfl <| r_aload at_61_90 rfl <| r_iload at_61_91 rfl <| r_iload at_61_92 rfl <| r_callV2i at_61_93 ((wf_ld hI_n (q * 5 + n) q n (by omega) (γn 104 1 0)).1.lNet) (Nat.le_of_ble_eq_true rfl) (fun _ hq => c_arrives (by omega) (wf_ld hI_n (q * 5 + n) q n (by omega) (γn 104 1 0)).1 (by omega) (by omega) hq) <| c_putZ 1000 at_61_96 rfl (by decide) ((wf_ld hI_n (q * 5 + n) q n (by omega) (γn 104 1 0)).1.lU (i := q * 5 + n) (by omega)) (fc_arr_01 _ _ _) <| r_iincNL (ls' := [_, _, _, _, _]) n at_61_99 rfl rfl <| r_goto at_61_102 <| ?_
        have e : (fc_su_n q) n (γn, πn) = (am_u ((fc_arr (am_u (am_u (am_u ((fc_ld γn πn (q * 5 + n) q n (γn 104 1 0)).1) 1000 (74 + 3 * (q * 5 + n)) 0 0) 1800 162 1 (((am_u ((fc_ld γn πn (q * 5 + n) q n (γn 104 1 0)).1) 1000 (74 + 3 * (q * 5 + n)) 0 0) 1800 162 1) + 1)) 1800 162 2 (((am_u (am_u ((fc_ld γn πn (q * 5 + n) q n (γn 104 1 0)).1) 1000 (74 + 3 * (q * 5 + n)) 0 0) 1800 162 1 (((am_u ((fc_ld γn πn (q * 5 + n) q n (γn 104 1 0)).1) 1000 (74 + 3 * (q * 5 + n)) 0 0) 1800 162 1) + 1)) 1800 162 2) + ((fc_ld γn πn (q * 5 + n) q n (γn 104 1 0)).2.2))) q n).1) 1000 (74 + 3 * (q * 5 + n)) 0 ((fc_arr (am_u (am_u (am_u ((fc_ld γn πn (q * 5 + n) q n (γn 104 1 0)).1) 1000 (74 + 3 * (q * 5 + n)) 0 0) 1800 162 1 (((am_u ((fc_ld γn πn (q * 5 + n) q n (γn 104 1 0)).1) 1000 (74 + 3 * (q * 5 + n)) 0 0) 1800 162 1) + 1)) 1800 162 2 (((am_u (am_u ((fc_ld γn πn (q * 5 + n) q n (γn 104 1 0)).1) 1000 (74 + 3 * (q * 5 + n)) 0 0) 1800 162 1 (((am_u ((fc_ld γn πn (q * 5 + n) q n (γn 104 1 0)).1) 1000 (74 + 3 * (q * 5 + n)) 0 0) 1800 162 1) + 1)) 1800 162 2) + ((fc_ld γn πn (q * 5 + n) q n (γn 104 1 0)).2.2))) q n).2), (fc_ld γn πn (q * 5 + n) q n (γn 104 1 0)).2.1) := by simp only [fc_su_n, fc_su_a, fc_su_c, fc_su_b, fc_ct, if_pos h65_1]
        rw [e] at hk_n
        dsimp only at hk_n
        exact hk_n _ _
      · refine r_iincNL (ls' := [_, _, _, _, _]) n at_61_99 rfl rfl <| r_goto at_61_102 <| ?_
        have e : (fc_su_n q) n (γn, πn) = (am_u ((fc_ld γn πn (q * 5 + n) q n (γn 104 1 0)).1) 1000 (74 + 3 * (q * 5 + n)) 0 0, (fc_ld γn πn (q * 5 + n) q n (γn 104 1 0)).2.1) := by simp only [fc_su_n, fc_su_a, fc_su_c, fc_su_b, fc_ct, if_neg h65_1]
        rw [e] at hk_n
        dsimp only at hk_n
        exact hk_n _ _
    · intro u3 u4
      generalize hz9 : am_it (fc_su_n q) 5 (γq, πq) = y9
      refine r_iload at_61_9 rfl <| r_push at_61_10 <| r_cmgeNF 5 5 at_61_11 rfl rfl (by omega) (by omega) (by omega) <| ?_
      refine r_iincNL (ls' := [_, _, _, _, _]) q at_61_105 rfl rfl <| r_goto at_61_108 <| ?_
      have e : (fc_su_q) q (γq, πq) = (y9.1, y9.2) := by simp only [fc_su_q, hz9]
      rw [e] at hk_q
      dsimp only at hk_q
      exact hk_q _ _ _
  · intro u2 u3 u4
    generalize hz2 : am_it (fc_su_q) 5 (γ, π) = y2
    refine r_iload at_61_2 rfl <| r_push at_61_3 <| r_cmgeNF 5 5 at_61_4 rfl rfl (by omega) (by omega) (by omega) <| ?_
    refine r_ret at_61_111 ?_
    rw [show fc_su γ π = y2 from by simp only [fc_su, hz2]] at hq
    exact hq
theorem c_take {d : Nat} {Q : am_Q} {K : am_K} {sc : am_Sc} {γ : am_I} {π : am_P} {m : am_M} {a q n x : Nat} (hd : 2 ≤ d) (T : am_TC K π) (hH : am_HD K π) (hA : am_De K π a) (ho : γ 1900 a 0 = nI x) (hx : x < 5) (hq5 : q < 5) (hn : n < 5) (hq : Q (K, sc, ((fc_tk γ π a q n x).1.1, (fc_tk γ π a q n x).1.2), m) (some (.inl ((fc_tk γ π a q n x).2)))) : am_call d 64 [.inr (some 1), .inr (some a), .inl (nI q), .inl (nI n)] (K, sc, (γ, π), m) Q := by
  obtain ⟨d, rfl⟩ : ∃ d', d = d' + 1 := ⟨d - 1, by omega⟩
  refine r_enter (by decide) (Nat.le_of_ble_eq_true rfl) (ls := [some (.inr (some 1)), some (.inr (some a)), some (.inl (nI q)), some (.inl (nI n)), none, none, none]) rfl ?_
  refine r_aload at_64_0 rfl <| c_getP 100 at_64_1 rfl (by decide) (T.lNet) T.2.1.1 <| r_iload at_64_4 rfl <| c_aald 200 n at_64_5 rfl (by decide) (T.lRs) rfl (by omega) (by decide) ((T.2.2.1 n (by omega)).1) <| r_astoreL (ls' := [_, _, _, _, _, _, _]) at_64_6 rfl <| r_aload at_64_8 rfl <| c_getI 1900 at_64_9 rfl (by decide) (hA.2.1.lv) <| r_istoreL (ls' := [_, _, _, _, _, _, _]) at_64_12 rfl <| ?_
  rw [ho]
  refine r_aload at_64_14 rfl <| c_getP 306 at_64_16 rfl (by decide) (T.lR (r := n) (by omega)) ((T.2.2.1 n (by omega)).2.2.1) <| r_iload at_64_19 rfl <| c_aald 500 x at_64_21 rfl (by decide) (T.lHe (r := n) (by omega)) rfl (by omega) (by decide) rfl <| r_astoreL (ls' := [_, _, _, _, _, _, _]) at_64_22 rfl <| r_aload at_64_24 rfl <| r_ifnull at_64_26 (fun h26_1 => ?_) (fun a26_1 h26_1 => ?_)
  · refine r_iload at_64_38 rfl <| r_iload at_64_40 rfl <| r_cmneN x n at_64_41 rfl rfl (by omega) (by omega) (fun h41_2 => ?_) (fun h41_2 => ?_)
    · refine r_aload at_64_44 rfl <| r_aload at_64_46 rfl <| c_getI 1901 at_64_47 rfl (by decide) (hA.2.1.lv) <| r_callV1v at_64_50 (T.lR (r := n) (by omega)) (Nat.le_of_ble_eq_true rfl) (fun _ hq => c_outdo (by omega) T (by omega) hq) <| r_goto at_64_53 <| r_push at_64_74 <| ?_
      refine r_zret at_64_75 (Or.inr rfl) ?_
      have e : fc_tk γ π a q n x = ((fc_od γ n (γ 1901 a 0), π), 1) := by simp only [fc_tk, fc_tk_e, fc_tk_n, fc_ct, Option.elim, h26_1, if_pos h41_2]
      rw [e] at hq
      exact hq
    · refine r_aload at_64_56 rfl <| r_aload at_64_58 rfl <| r_iload at_64_59 rfl <| r_callV2v at_64_60 (T.lR (r := n) (by omega)) (Nat.le_of_ble_eq_true rfl) (fun _ hq => c_install (by omega) T (by omega) hA ho (by omega) (by omega) hq) <| r_aload at_64_63 rfl <| c_getP 103 at_64_64 rfl (by decide) ((T.wP (F := 500) (a := 5 + 14 * n) (i := x) (v := some a) (by omega)).lNet) ((T.wP (F := 500) (a := 5 + 14 * n) (i := x) (v := some a) (by omega)).2.1.2.2.2) <| r_push at_64_67 <| r_dup2 at_64_69 <| c_ald 1800 6 at_64_70 rfl (by decide) ((T.wP (F := 500) (a := 5 + 14 * n) (i := x) (v := some a) (by omega)).lCn) rfl (by omega) (by decide) <| r_push at_64_71 <| r_bin at_64_72 <| c_ast 1800 6 at_64_73 rfl (by decide) ((T.wP (F := 500) (a := 5 + 14 * n) (i := x) (v := some a) (by omega)).lCn) rfl (by omega) (by decide) <| r_push at_64_74 <| ?_
      refine r_zret at_64_75 (Or.inr rfl) ?_
      have e : fc_tk γ π a q n x = ((am_u (fc_in γ n x q) 1800 162 6 (((fc_in γ n x q) 1800 162 6) + 1), am_u π 500 (5 + 14 * n) x (some a)), 1) := by simp only [fc_tk, fc_tk_e, fc_tk_n, fc_ct, Option.elim, h26_1, if_neg h41_2]
      rw [e] at hq
      exact hq
  · have hE := hH n (by omega) x (by omega) _ h26_1
    rw [h26_1]
    refine r_aload at_64_29 rfl <| r_aload at_64_30 rfl <| r_callV1i at_64_32 (hA.2.1.lv) (Nat.le_of_ble_eq_true rfl) (fun _ hq => c_isNewer (by omega) hA hE hq) <| r_ifeq at_64_35 (fun h35_3 => ?_) (fun h35_3 => ?_)
    · refine r_aload at_64_76 rfl <| r_aload at_64_78 rfl <| r_callV1i at_64_79 (hE.2.1.lv) (Nat.le_of_ble_eq_true rfl) (fun _ hq => c_isNewer (by omega) hE hA hq) <| r_ifeq at_64_82 (fun h82_4 => ?_) (fun h82_4 => ?_)
      · refine r_aload at_64_99 rfl <| c_getP 307 at_64_101 rfl (by decide) (T.lR (r := n) (by omega)) ((T.2.2.1 n (by omega)).2.2.2) <| r_iload at_64_104 rfl <| c_aald 600 q at_64_105 rfl (by decide) (T.lEs (r := n) (by omega)) rfl (by omega) (by decide) ((T.2.2.2.1 n (by omega) q (by omega)).1) <| c_getP 708 at_64_106 rfl (by decide) (T.lE (r := n) (n := q) (by omega) (by omega)) ((T.2.2.2.1 n (by omega) q (by omega)).2) <| r_iload at_64_109 rfl <| r_push at_64_111 <| c_ast 800 x at_64_113 rfl (by decide) (T.lX (r := n) (n := q) (by omega) (by omega)) rfl (by omega) (by decide) <| r_push at_64_114 <| ?_
        refine r_zret at_64_115 (Or.inr rfl) ?_
        have e : fc_tk γ π a q n x = ((am_u γ 800 (8 + 14 * n + 2 * q) x (-2), π), 1) := by simp only [fc_tk, fc_tk_e, fc_tk_n, fc_ct, Option.elim, h26_1, if_pos h35_3, if_pos h82_4]
        rw [e] at hq
        exact hq
      · refine r_aload at_64_85 rfl <| c_getP 307 at_64_87 rfl (by decide) (T.lR (r := n) (by omega)) ((T.2.2.1 n (by omega)).2.2.2) <| r_iload at_64_90 rfl <| c_aald 600 q at_64_91 rfl (by decide) (T.lEs (r := n) (by omega)) rfl (by omega) (by decide) ((T.2.2.2.1 n (by omega) q (by omega)).1) <| r_iload at_64_92 rfl <| r_callV1v at_64_94 (T.lE (r := n) (n := q) (by omega) (by omega)) (Nat.le_of_ble_eq_true rfl) (fun _ hq => c_owe (by omega) T (by omega) (by omega) (by omega) hq) <| r_push at_64_97 <| ?_
        refine r_zret at_64_98 (Or.inl rfl) ?_
        have e : fc_tk γ π a q n x = ((fc_ow γ n q x, π), 0) := by simp only [fc_tk, fc_tk_e, fc_tk_n, fc_ct, Option.elim, h26_1, if_pos h35_3, if_neg h82_4]
        rw [e] at hq
        exact hq
    · refine r_iload at_64_38 rfl <| r_iload at_64_40 rfl <| r_cmneN x n at_64_41 rfl rfl (by omega) (by omega) (fun h41_5 => ?_) (fun h41_5 => ?_)
      · refine r_aload at_64_44 rfl <| r_aload at_64_46 rfl <| c_getI 1901 at_64_47 rfl (by decide) (hA.2.1.lv) <| r_callV1v at_64_50 (T.lR (r := n) (by omega)) (Nat.le_of_ble_eq_true rfl) (fun _ hq => c_outdo (by omega) T (by omega) hq) <| r_goto at_64_53 <| r_push at_64_74 <| ?_
        refine r_zret at_64_75 (Or.inr rfl) ?_
        have e : fc_tk γ π a q n x = ((fc_od γ n (γ 1901 a 0), π), 1) := by simp only [fc_tk, fc_tk_e, fc_tk_n, fc_ct, Option.elim, h26_1, if_neg h35_3, if_pos h41_5]
        rw [e] at hq
        exact hq
      · refine r_aload at_64_56 rfl <| r_aload at_64_58 rfl <| r_iload at_64_59 rfl <| r_callV2v at_64_60 (T.lR (r := n) (by omega)) (Nat.le_of_ble_eq_true rfl) (fun _ hq => c_install (by omega) T (by omega) hA ho (by omega) (by omega) hq) <| r_aload at_64_63 rfl <| c_getP 103 at_64_64 rfl (by decide) ((T.wP (F := 500) (a := 5 + 14 * n) (i := x) (v := some a) (by omega)).lNet) ((T.wP (F := 500) (a := 5 + 14 * n) (i := x) (v := some a) (by omega)).2.1.2.2.2) <| r_push at_64_67 <| r_dup2 at_64_69 <| c_ald 1800 6 at_64_70 rfl (by decide) ((T.wP (F := 500) (a := 5 + 14 * n) (i := x) (v := some a) (by omega)).lCn) rfl (by omega) (by decide) <| r_push at_64_71 <| r_bin at_64_72 <| c_ast 1800 6 at_64_73 rfl (by decide) ((T.wP (F := 500) (a := 5 + 14 * n) (i := x) (v := some a) (by omega)).lCn) rfl (by omega) (by decide) <| r_push at_64_74 <| ?_
        refine r_zret at_64_75 (Or.inr rfl) ?_
        have e : fc_tk γ π a q n x = ((am_u (fc_in γ n x q) 1800 162 6 (((fc_in γ n x q) 1800 162 6) + 1), am_u π 500 (5 + 14 * n) x (some a)), 1) := by simp only [fc_tk, fc_tk_e, fc_tk_n, fc_ct, Option.elim, h26_1, if_neg h35_3, if_neg h41_5]
        rw [e] at hq
        exact hq
theorem c_acknowledge {d : Nat} {Q : am_Q} {K : am_K} {sc : am_Sc} {γ : am_I} {π : am_P} {m : am_M} {i q n : Nat} (hd : 2 ≤ d) (hW : am_Wf K γ π) (hi : i < 25) (hq5 : q < 5) (hn : n < 5) (hq : Q (K, sc, (fc_ak γ π i q n, π), m) none) : am_call d 65 [.inr (some 1), .inr (some (74 + 3 * i)), .inl (nI q), .inl (nI n)] (K, sc, (γ, π), m) Q := by
  obtain ⟨d, rfl⟩ : ∃ d', d = d' + 1 := ⟨d - 1, by omega⟩
  refine r_enter (by decide) (Nat.le_of_ble_eq_true rfl) (ls := [some (.inr (some 1)), some (.inr (some (74 + 3 * i))), some (.inl (nI q)), some (.inl (nI n)), none, none, none]) rfl ?_
  refine r_aload at_65_0 rfl <| c_getP 103 at_65_1 rfl (by decide) (hW.1.lNet) hW.1.2.1.2.2.2 <| r_push at_65_4 <| r_dup2 at_65_5 <| c_ald 1800 3 at_65_6 rfl (by decide) (hW.1.lCn) rfl (by omega) (by decide) <| r_push at_65_7 <| r_bin at_65_8 <| c_ast 1800 3 at_65_9 rfl (by decide) (hW.1.lCn) rfl (by omega) (by decide) <| r_aload at_65_10 rfl <| r_iload at_65_11 rfl <| r_iload at_65_12 rfl <| r_callV2i at_65_13 (hW.1.lNet) (Nat.le_of_ble_eq_true rfl) (fun _ hq => c_arrives (by omega) hW.1 (by omega) (by omega) hq) <| r_ifne at_65_16 (fun h16_1 => ?_) (fun h16_1 => ?_)
  · refine r_ret at_65_19 ?_
    have e : fc_ak γ π i q n = (fc_arr (am_u γ 1800 162 3 ((γ 1800 162 3) + 1)) n q).1 := by
      unfold fc_ak fc_ak2
      rw [if_pos (show (fc_arr (fc_ct γ 3 1) n q).2 = 0 from h16_1)]
      rfl
    rw [e] at hq
    exact hq
  · refine r_push at_65_20 <| r_istoreL (ls' := [_, _, _, _, _, _, _]) at_65_21 rfl <| ?_
    refine am_for 5 (fun x z => ∀ u5 u6 : Option am_V, am_w d 65 Q 23 [some (.inr (some 1)), some (.inr (some (74 + 3 * i))), some (.inl (nI q)), some (.inl (nI n)), some (.inl (nI x)), u5, u6] [] (K, sc, (z, π), m)) (fc_ak_x π i q n) (fun x hi_x z hk_x => ?_) ((fc_arr (am_u γ 1800 162 3 ((γ 1800 162 3) + 1)) n q).1) ?_ none none
    · intro u5 u6
      refine r_iload at_65_23 rfl <| r_push at_65_25 <| r_cmgeNT x 5 at_65_26 rfl rfl (by omega) (by omega) (by omega) <| ?_
      refine r_aload at_65_29 rfl <| c_getP 100 at_65_30 rfl (by decide) (hW.1.lNet) hW.1.2.1.1 <| r_iload at_65_33 rfl <| c_aald 200 q at_65_34 rfl (by decide) (hW.1.lRs) rfl (by omega) (by decide) ((hW.1.2.2.1 q (by omega)).1) <| c_getP 306 at_65_35 rfl (by decide) (hW.1.lR (r := q) (by omega)) ((hW.1.2.2.1 q (by omega)).2.2.1) <| r_iload at_65_38 rfl <| c_aald 500 x at_65_40 rfl (by decide) (hW.1.lHe (r := q) (by omega)) rfl (by omega) (by decide) rfl <| r_astoreL (ls' := [_, _, _, _, _, _, _]) at_65_41 rfl <| r_aload at_65_43 rfl <| c_getP 1001 at_65_44 rfl (by decide) (hW.1.lU (i := i) (by omega)) ((hW.1.2.2.2.2.1 i (by omega)).2.1) <| r_iload at_65_47 rfl <| c_aald 1100 x at_65_49 rfl (by decide) (hW.1.lUc (i := i) (by omega)) rfl (by omega) (by decide) rfl <| r_astoreL (ls' := [_, _, _, _, _, _, _]) at_65_50 rfl <| r_aload at_65_52 rfl <| c_getP 1002 at_65_53 rfl (by decide) (hW.1.lU (i := i) (by omega)) ((hW.1.2.2.2.2.1 i (by omega)).2.2) <| r_iload at_65_56 rfl <| c_ald 1200 x at_65_58 rfl (by decide) (hW.1.lUt (i := i) (by omega)) rfl (by omega) (by decide) <| r_ifeq at_65_59 (fun h59_2 => ?_) (fun h59_2 => ?_)
      · refine r_iincNL (ls' := [_, _, _, _, _, _, _]) x at_65_101 rfl rfl <| r_goto at_65_104 <| ?_
        have e : (fc_ak_x π i q n) x z = z := by simp only [fc_ak_x, Option.elim, if_pos h59_2]
        rw [e] at hk_x
        exact hk_x _ _
      · refine r_aload at_65_62 rfl <| r_ifnull at_65_64 (fun h64_3 => ?_) (fun a64_3 h64_3 => ?_)
        · refine r_iincNL (ls' := [_, _, _, _, _, _, _]) x at_65_101 rfl rfl <| r_goto at_65_104 <| ?_
          have e : (fc_ak_x π i q n) x z = z := by simp only [fc_ak_x, Option.elim, if_neg h59_2, h64_3]
          rw [e] at hk_x
          exact hk_x _ _
        · have hD := hW.2.1 q (by omega) x (by omega) _ h64_3
          rw [h64_3]
          refine r_aload at_65_67 rfl <| r_ifnull at_65_69 (fun h69_4 => ?_) (fun a69_4 h69_4 => ?_)
          · refine r_iincNL (ls' := [_, _, _, _, _, _, _]) x at_65_101 rfl rfl <| r_goto at_65_104 <| ?_
            have e : (fc_ak_x π i q n) x z = z := by simp only [fc_ak_x, Option.elim, if_neg h59_2, h64_3, h69_4]
            rw [e] at hk_x
            exact hk_x _ _
          · have hE := hW.2.2.2.2.1 i (by omega) x (by omega) _ h69_4
            rw [h69_4]
            refine r_aload at_65_72 rfl <| r_aload at_65_74 rfl <| r_callV1i at_65_76 (hD.1.2.1.lv) (Nat.le_of_ble_eq_true rfl) (fun _ hq => c_isSame (by omega) hD.1 hE.1 hq) <| r_ifeq at_65_79 (fun h79_5 => ?_) (fun h79_5 => ?_)
            · refine r_iincNL (ls' := [_, _, _, _, _, _, _]) x at_65_101 rfl rfl <| r_goto at_65_104 <| ?_
              have e : (fc_ak_x π i q n) x z = z := by simp only [fc_ak_x, Option.elim, if_neg h59_2, h64_3, h69_4, if_pos h79_5]
              rw [e] at hk_x
              exact hk_x _ _
            · refine r_aload at_65_82 rfl <| c_getP 100 at_65_83 rfl (by decide) (hW.1.lNet) hW.1.2.1.1 <| r_iload at_65_86 rfl <| c_aald 200 q at_65_87 rfl (by decide) (hW.1.lRs) rfl (by omega) (by decide) ((hW.1.2.2.1 q (by omega)).1) <| c_getP 307 at_65_88 rfl (by decide) (hW.1.lR (r := q) (by omega)) ((hW.1.2.2.1 q (by omega)).2.2.2) <| r_iload at_65_91 rfl <| c_aald 600 n at_65_92 rfl (by decide) (hW.1.lEs (r := q) (by omega)) rfl (by omega) (by decide) ((hW.1.2.2.2.1 q (by omega) n (by omega)).1) <| c_getP 708 at_65_93 rfl (by decide) (hW.1.lE (r := q) (n := n) (by omega) (by omega)) ((hW.1.2.2.2.1 q (by omega) n (by omega)).2) <| r_iload at_65_96 rfl <| r_push at_65_98 <| c_ast 800 x at_65_100 rfl (by decide) (hW.1.lX (r := q) (n := n) (by omega) (by omega)) rfl (by omega) (by decide) <| r_iincNL (ls' := [_, _, _, _, _, _, _]) x at_65_101 rfl rfl <| r_goto at_65_104 <| ?_
              have e : (fc_ak_x π i q n) x z = am_u z 800 (8 + 14 * q + 2 * n) x (-2) := by simp only [fc_ak_x, Option.elim, if_neg h59_2, h64_3, h69_4, if_neg h79_5]
              rw [e] at hk_x
              exact hk_x _ _
    · intro u5 u6
      generalize hz23 : am_it (fc_ak_x π i q n) 5 ((fc_arr (am_u γ 1800 162 3 ((γ 1800 162 3) + 1)) n q).1) = y23
      refine r_iload at_65_23 rfl <| r_push at_65_25 <| r_cmgeNF 5 5 at_65_26 rfl rfl (by omega) (by omega) (by omega) <| ?_
      refine r_ret at_65_107 ?_
      have e : fc_ak γ π i q n = y23 := by
        unfold fc_ak fc_ak2
        rw [if_neg (show ¬ (fc_arr (fc_ct γ 3 1) n q).2 = 0 from h16_1)]
        exact hz23
      rw [e] at hq
      exact hq
theorem c_deliver {d : Nat} {Q : am_Q} {K : am_K} {sc : am_Sc} {γ : am_I} {π : am_P} {m : am_M} {i q n : Nat} (hd : 3 ≤ d) (hW : am_Wf K γ π) (hi : i < 25) (hq5 : q < 5) (hn : n < 5) (hq : Q (K, sc, ((fc_dv γ π i q n).1, (fc_dv γ π i q n).2), m) none) : am_call d 63 [.inr (some 1), .inr (some (74 + 3 * i)), .inl (nI q), .inl (nI n)] (K, sc, (γ, π), m) Q := by
  obtain ⟨d, rfl⟩ : ∃ d', d = d' + 1 := ⟨d - 1, by omega⟩
  refine r_enter (by decide) (Nat.le_of_ble_eq_true rfl) (ls := [some (.inr (some 1)), some (.inr (some (74 + 3 * i))), some (.inl (nI q)), some (.inl (nI n)), none, none, none]) rfl ?_
  refine r_push at_63_0 <| r_istoreL (ls' := [_, _, _, _, _, _, _]) at_63_1 rfl <| r_push at_63_3 <| r_istoreL (ls' := [_, _, _, _, _, _, _]) at_63_4 rfl <| ?_
  refine am_forI 5 (fun x z => ∀ u6 : Option am_V, am_w d 63 Q 6 [some (.inr (some 1)), some (.inr (some (74 + 3 * i))), some (.inl (nI q)), some (.inl (nI n)), some (.inl z.2.2), some (.inl (nI x)), u6] [] (K, sc, (z.1, z.2.1), m)) (fc_dv_x i q n) (fun _ z => am_Wf K z.1 z.2.1) (fun x hx _ h => wf_dv_x h i q n x hi hx) (fun x hi_x z hI_x hk_x => ?_) (γ, π, 0) hW ?_ none
  · obtain ⟨γx, πx, s⟩ := z
    dsimp only at hk_x ⊢
    try dsimp only at hI_x
    intro u6
    refine r_iload at_63_6 rfl <| r_push at_63_8 <| r_cmgeNT x 5 at_63_9 rfl rfl (by omega) (by omega) (by omega) <| ?_
    refine r_aload at_63_12 rfl <| c_getP 1001 at_63_13 rfl (by decide) (hI_x.1.lU (i := i) (by omega)) ((hI_x.1.2.2.2.2.1 i (by omega)).2.1) <| r_iload at_63_16 rfl <| c_aald 1100 x at_63_18 rfl (by decide) (hI_x.1.lUc (i := i) (by omega)) rfl (by omega) (by decide) rfl <| r_astoreL (ls' := [_, _, _, _, _, _, _]) at_63_19 rfl <| r_aload at_63_21 rfl <| r_ifnull at_63_23 (fun h23_1 => ?_) (fun a23_1 h23_1 => ?_)
    · refine r_iincNL (ls' := [_, _, _, _, _, _, _]) x at_63_48 rfl rfl <| r_goto at_63_51 <| ?_
      have e : (fc_dv_x i q n) x (γx, πx, s) = (γx, πx, s) := by simp only [fc_dv_x, fc_dv_t, Option.elim, h23_1]
      rw [e] at hk_x
      dsimp only at hk_x
      exact hk_x _
    · have hD := hI_x.2.2.2.2.1 i (by omega) x (by omega) _ h23_1
      rw [h23_1]
      refine r_aload at_63_26 rfl <| r_aload at_63_27 rfl <| r_iload at_63_29 rfl <| r_iload at_63_30 rfl <| r_callV3i at_63_31 (hI_x.1.lNet) (Nat.le_of_ble_eq_true rfl) (fun _ hq => c_take (by omega) hI_x.1 hI_x.hd hD.1 hD.2 (by omega) (by omega) (by omega) hq) <| r_ifeq at_63_34 (fun h34_2 => ?_) (fun h34_2 => ?_)
      · refine r_iincNL (ls' := [_, _, _, _, _, _, _]) x at_63_48 rfl rfl <| r_goto at_63_51 <| ?_
        have e : (fc_dv_x i q n) x (γx, πx, s) = ((fc_tk γx πx a23_1 q n x).1.1, (fc_tk γx πx a23_1 q n x).1.2, s) := by simp only [fc_dv_x, fc_dv_t, Option.elim, h23_1, if_pos h34_2]
        rw [e] at hk_x
        dsimp only at hk_x
        exact hk_x _
      · refine r_aload at_63_37 rfl <| c_getP 1002 at_63_38 rfl (by decide) ((wf_tk hI_x a23_1 q n x hD.1 hD.2).1.lU (i := i) (by omega)) (((wf_tk hI_x a23_1 q n x hD.1 hD.2).1.2.2.2.2.1 i (by omega)).2.2) <| r_iload at_63_41 rfl <| r_push at_63_43 <| c_zast 1200 x at_63_44 rfl (by decide) ((wf_tk hI_x a23_1 q n x hD.1 hD.2).1.lUt (i := i) (by omega)) rfl (by omega) (by decide) (Or.inr rfl) <| r_push at_63_45 <| r_istoreL (ls' := [_, _, _, _, _, _, _]) at_63_46 rfl <| r_iincNL (ls' := [_, _, _, _, _, _, _]) x at_63_48 rfl rfl <| r_goto at_63_51 <| ?_
        have e : (fc_dv_x i q n) x (γx, πx, s) = (am_u ((fc_tk γx πx a23_1 q n x).1.1) 1200 (76 + 3 * i) x 1, (fc_tk γx πx a23_1 q n x).1.2, 1) := by simp only [fc_dv_x, fc_dv_t, Option.elim, h23_1, if_neg h34_2]
        rw [e] at hk_x
        dsimp only at hk_x
        exact hk_x _
  · intro u6
    generalize hz6 : am_it (fc_dv_x i q n) 5 (γ, π, 0) = y6
    have hY : am_Wf K y6.1 y6.2.1 := by rw [← hz6]; exact wf_dvs hW i q n hi
    refine r_iload at_63_6 rfl <| r_push at_63_8 <| r_cmgeNF 5 5 at_63_9 rfl rfl (by omega) (by omega) (by omega) <| ?_
    refine r_iload at_63_54 rfl <| r_ifeq at_63_56 (fun h56_3 => ?_) (fun h56_3 => ?_)
    · refine r_ret at_63_66 ?_
      have e : fc_dv γ π i q n = (y6.1, y6.2.1) := by simp only [fc_dv, fc_dv2, hz6, if_pos h56_3]
      rw [e] at hq
      exact hq
    · refine r_aload at_63_59 rfl <| r_aload at_63_60 rfl <| r_iload at_63_61 rfl <| r_iload at_63_62 rfl <| r_callV3v at_63_63 (hY.1.lNet) (Nat.le_of_ble_eq_true rfl) (fun _ hq => c_acknowledge (by omega) hY (by omega) (by omega) (by omega) hq) <| ?_
      refine r_ret at_63_66 ?_
      have e : fc_dv γ π i q n = (fc_ak y6.1 y6.2.1 i q n, y6.2.1) := by simp only [fc_dv, fc_dv2, hz6, if_neg h56_3]
      rw [e] at hq
      exact hq
theorem c_deliverUpdates {d : Nat} {Q : am_Q} {K : am_K} {sc : am_Sc} {γ : am_I} {π : am_P} {m : am_M}  (hd : 4 ≤ d) (hW : am_Wf K γ π)  (hq : Q (K, sc, ((fc_dd γ π).1, (fc_dd γ π).2), m) none) : am_call d 62 [.inr (some 1)] (K, sc, (γ, π), m) Q := by
  obtain ⟨d, rfl⟩ : ∃ d', d = d' + 1 := ⟨d - 1, by omega⟩
  refine r_enter (by decide) (Nat.le_of_ble_eq_true rfl) (ls := [some (.inr (some 1)), none, none, none]) rfl ?_
  refine r_push at_62_0 <| r_istoreL (ls' := [_, _, _, _]) at_62_1 rfl <| ?_
  refine am_forI 5 (fun q z => ∀ u2 u3 : Option am_V, am_w d 62 Q 2 [some (.inr (some 1)), some (.inl (nI q)), u2, u3] [] (K, sc, (z.1, z.2), m)) (fc_dd_q) (fun _ z => am_Wf K z.1 z.2) (fun q hq _ h => wf_dd_q h q hq) (fun q hi_q z hI_q hk_q => ?_) (γ, π) hW ?_ none none
  · obtain ⟨γq, πq⟩ := z
    dsimp only at hk_q ⊢
    try dsimp only at hI_q
    intro u2 u3
    refine r_iload at_62_2 rfl <| r_push at_62_3 <| r_cmgeNT q 5 at_62_4 rfl rfl (by omega) (by omega) (by omega) <| ?_
    refine r_push at_62_7 <| r_istoreL (ls' := [_, _, _, _]) at_62_8 rfl <| ?_
    refine am_forI 5 (fun n z => ∀ u3 : Option am_V, am_w d 62 Q 9 [some (.inr (some 1)), some (.inl (nI q)), some (.inl (nI n)), u3] [] (K, sc, (z.1, z.2), m)) (fc_dd_n q) (fun _ z => am_Wf K z.1 z.2) (fun n hn _ h => wf_dd_n h q n hi_q hn) (fun n hi_n z hI_n hk_n => ?_) (γq, πq) hI_q ?_ u3
    · obtain ⟨γn, πn⟩ := z
      dsimp only at hk_n ⊢
      try dsimp only at hI_n
      intro u3
      refine r_iload at_62_9 rfl <| r_push at_62_10 <| r_cmgeNT n 5 at_62_11 rfl rfl (by omega) (by omega) (by omega) <| ?_
      refine r_aload at_62_14 rfl <| c_getP 101 at_62_15 rfl (by decide) (hI_n.1.lNet) hI_n.1.2.1.2.1 <| r_iload at_62_18 rfl <| r_push at_62_19 <| r_mulN q 5 at_62_20 rfl rfl <| r_iload at_62_21 rfl <| r_addN (q * 5) n at_62_22 rfl rfl <| c_aald 900 (q * 5 + n) at_62_23 rfl (by decide) (hI_n.1.lUs) rfl (by omega) (by decide) ((hI_n.1.2.2.2.2.1 (q * 5 + n) (by omega)).1) <| r_astoreL (ls' := [_, _, _, _]) at_62_24 rfl <| r_aload at_62_25 rfl <| c_getI 1000 at_62_26 rfl (by decide) (hI_n.1.lU (i := q * 5 + n) (by omega)) <| r_ifeq at_62_29 (fun h29_1 => ?_) (fun h29_1 => ?_)
      · refine r_iincNL (ls' := [_, _, _, _]) n at_62_56 rfl rfl <| r_goto at_62_59 <| ?_
        have e : (fc_dd_n q) n (γn, πn) = (γn, πn) := by simp only [fc_dd_n, if_pos h29_1]
        rw [e] at hk_n
        dsimp only at hk_n
        exact hk_n _
      · refine r_aload at_62_32 rfl <| c_getP 100 at_62_33 rfl (by decide) (hI_n.1.lNet) hI_n.1.2.1.1 <| r_iload at_62_36 rfl <| c_aald 200 n at_62_37 rfl (by decide) (hI_n.1.lRs) rfl (by omega) (by decide) ((hI_n.1.2.2.1 n (by omega)).1) <| c_getP 307 at_62_38 rfl (by decide) (hI_n.1.lR (r := n) (by omega)) ((hI_n.1.2.2.1 n (by omega)).2.2.2) <| r_iload at_62_41 rfl <| c_aald 600 q at_62_42 rfl (by decide) (hI_n.1.lEs (r := n) (by omega)) rfl (by omega) (by decide) ((hI_n.1.2.2.2.1 n (by omega) q (by omega)).1) <| c_getI 706 at_62_43 rfl (by decide) (hI_n.1.lE (r := n) (n := q) (by omega) (by omega)) <| r_ifeq at_62_46 (fun h46_2 => ?_) (fun h46_2 => ?_)
        · refine r_iincNL (ls' := [_, _, _, _]) n at_62_56 rfl rfl <| r_goto at_62_59 <| ?_
          have e : (fc_dd_n q) n (γn, πn) = (γn, πn) := by simp only [fc_dd_n, if_neg h29_1, if_pos h46_2]
          rw [e] at hk_n
          dsimp only at hk_n
          exact hk_n _
        · refine r_aload at_62_49 rfl <| r_aload at_62_50 rfl <| r_iload at_62_51 rfl <| r_iload at_62_52 rfl <| r_callV3v at_62_53 (hI_n.1.lNet) (Nat.le_of_ble_eq_true rfl) (fun _ hq => c_deliver (by omega) hI_n (by omega) (by omega) (by omega) hq) <| r_iincNL (ls' := [_, _, _, _]) n at_62_56 rfl rfl <| r_goto at_62_59 <| ?_
          have e : (fc_dd_n q) n (γn, πn) = ((fc_dv γn πn (q * 5 + n) q n).1, (fc_dv γn πn (q * 5 + n) q n).2) := by simp only [fc_dd_n, if_neg h29_1, if_neg h46_2]
          rw [e] at hk_n
          dsimp only at hk_n
          exact hk_n _
    · intro u3
      generalize hz9 : am_it (fc_dd_n q) 5 (γq, πq) = y9
      refine r_iload at_62_9 rfl <| r_push at_62_10 <| r_cmgeNF 5 5 at_62_11 rfl rfl (by omega) (by omega) (by omega) <| ?_
      refine r_iincNL (ls' := [_, _, _, _]) q at_62_62 rfl rfl <| r_goto at_62_65 <| ?_
      have e : (fc_dd_q) q (γq, πq) = (y9.1, y9.2) := by simp only [fc_dd_q, hz9]
      rw [e] at hk_q
      dsimp only at hk_q
      exact hk_q _ _
  · intro u2 u3
    generalize hz2 : am_it (fc_dd_q) 5 (γ, π) = y2
    refine r_iload at_62_2 rfl <| r_push at_62_3 <| r_cmgeNF 5 5 at_62_4 rfl rfl (by omega) (by omega) (by omega) <| ?_
    refine r_ret at_62_68 ?_
    rw [show fc_dd γ π = y2 from by simp only [fc_dd, hz2]] at hq
    exact hq

def am_Wf (K : am_K) (γ : am_I) (π : am_P) : Prop := am_TC K π ∧ (∀ r, r < 5 → ∀ x, x < 5 → ∀ e, π 500 (5 + 14 * r) x = some e → am_De K π e ∧ γ 1900 e 0 = nI x) ∧ (∀ r, r < 5 → ∀ e, π 304 (3 + 14 * r) 0 = some e → am_De K π e ∧ γ 1900 e 0 = nI r) ∧ (∀ r, r < 5 → ∀ s, s < 2 → ∀ q, π 400 (4 + 14 * r) s = some q → 187 < q ∧ am_lq K q 22) ∧ (∀ i, i < 25 → ∀ x, x < 5 → ∀ e, π 1100 (75 + 3 * i) x = some e → am_De K π e ∧ γ 1900 e 0 = nI x) ∧ (∀ r, r < 5 → γ 300 (3 + 14 * r) 0 = nI r) ∧ ∀ a, (γ 702 a 0 = 0 ∨ γ 702 a 0 = 1) ∧ (γ 703 a 0 = 0 ∨ γ 703 a 0 = 1)
theorem am_Wf.g {K : am_K} {γ : am_I} {π : am_P} (h : am_Wf K γ π) {F a i : Nat} {v : Int32} (hF : ¬ F = 1900 ∧ ¬ F = 300 ∧ ¬ F = 702 ∧ ¬ F = 703) : am_Wf K (am_u γ F a i v) π := by
  obtain ⟨h0, h1, h2, h3, h4, h5, h6⟩ := h
  refine ⟨h0, fun r hr x hx e he => ?_, fun r hr e he => ?_, h3, fun i hi x hx e he => ?_, fun r hr => ?_, fun a => ?_⟩
  · rw [am_u_ne (by omega)]; exact h1 r hr x hx e he
  · rw [am_u_ne (by omega)]; exact h2 r hr e he
  · rw [am_u_ne (by omega)]; exact h4 i hi x hx e he
  · rw [am_u_ne (by omega)]; exact h5 r hr
  · rw [am_u_ne (by omega), am_u_ne (by omega)]; exact h6 a
theorem am_u_cs {m : am_I} {f a i : Nat} {v : Int32} (P : Int32 → Prop) (hv : P v) {f' a' i' : Nat} (h : P (m f' a' i')) : P (am_u m f a i v f' a' i') := by
  unfold am_u
  split
  · exact hv
  · exact h
theorem am_Wf.z {K : am_K} {γ : am_I} {π : am_P} (h : am_Wf K γ π) {F a i : Nat} {v : Int32} (hF : F = 702 ∨ F = 703) (hv : v = 0 ∨ v = 1) : am_Wf K (am_u γ F a i v) π := by
  obtain ⟨h0, h1, h2, h3, h4, h5, h6⟩ := h
  refine ⟨h0, fun r hr x hx e he => ?_, fun r hr e he => ?_, h3, fun i hi x hx e he => ?_, fun r hr => ?_, fun a => ⟨am_u_cs (fun w => w = 0 ∨ w = 1) hv (h6 a).1, am_u_cs (fun w => w = 0 ∨ w = 1) hv (h6 a).2⟩⟩
  · rw [am_u_ne (by omega)]; exact h1 r hr x hx e he
  · rw [am_u_ne (by omega)]; exact h2 r hr e he
  · rw [am_u_ne (by omega)]; exact h4 i hi x hx e he
  · rw [am_u_ne (by omega)]; exact h5 r hr
theorem am_Wf.p {K : am_K} {γ : am_I} {π : am_P} (h : am_Wf K γ π) {F a x : Nat} {v : Option Nat} (hF : F = 500 ∨ F = 1100) (hv : ∀ e, v = some e → am_De K π e ∧ γ 1900 e 0 = nI x) : am_Wf K γ (am_u π F a x v) := by
  obtain ⟨h0, h1, h2, h3, h4, h5, h6⟩ := h
  have k : ∀ {e y : Nat}, am_De K π e ∧ γ 1900 e 0 = nI y → am_De K (am_u π F a x v) e ∧ γ 1900 e 0 = nI y := fun q => ⟨q.1.wP (by omega), q.2⟩
  refine ⟨h0.wP (by omega), fun r hr y hy e he => k ?_, fun r hr e he => k ?_, fun r hr s hs q hq => ?_, fun i hi y hy e he => k ?_, h5, h6⟩
  · unfold am_u at he
    split at he
    next c => rw [c.2.2]; exact hv e he
    next => exact h1 r hr y hy e he
  · rw [am_u_ne (by omega)] at he; exact h2 r hr e he
  · rw [am_u_ne (by omega)] at hq; exact h3 r hr s hs q hq
  · unfold am_u at he
    split at he
    next c => rw [c.2.2]; exact hv e he
    next => exact h4 i hi y hy e he
theorem am_Wf.hd {K : am_K} {γ : am_I} {π : am_P} (h : am_Wf K γ π) : am_HD K π := fun r hr x hx e he => (h.2.1 r hr x hx e he).1
theorem am_Wf.it {K : am_K} {π : am_P} {f : Nat → am_I → am_I} {n : Nat} {γ : am_I} (hf : ∀ i, i < n → ∀ γ, am_Wf K γ π → am_Wf K (f i γ) π) (h : am_Wf K γ π) : am_Wf K (am_it f n γ) π := am_it_keep (P := fun γ => am_Wf K γ π) hf h
theorem wf_on {K : am_K} {γ : am_I} {π : am_P} (h : am_Wf K γ π) (r n : Nat) : am_Wf K (fc_on γ r n) π := h.it (fun _ _ _ h => h.g (by decide))
theorem wf_dr {K : am_K} {γ : am_I} {π : am_P} (h : am_Wf K γ π) (r x : Nat) : am_Wf K (fc_dr γ r x) π := h.it (fun _ _ _ h => h.g (by decide))
theorem wf_in {K : am_K} {γ : am_I} {π : am_P} (h : am_Wf K γ π) (r x f : Nat) : am_Wf K (fc_in γ r x f) π := h.it (fun _ _ _ h => h.g (by decide))
theorem wf_nh {K : am_K} {γ : am_I} {π : am_P} (h : am_Wf K γ π) (r : Nat) : am_Wf K (fc_nh γ r) π := h.it (fun _ _ _ h => h.z (Or.inr rfl) (h.2.2.2.2.2.2 _).1)
theorem wf_ow {K : am_K} {γ : am_I} {π : am_P} (h : am_Wf K γ π) (r n x : Nat) : am_Wf K (fc_ow γ r n x) π := by
  unfold fc_ow
  split
  · exact h.g (by decide)
  · exact h
theorem wf_ct {K : am_K} {γ : am_I} {π : am_P} (h : am_Wf K γ π) (i : Nat) (v : Int32) : am_Wf K (fc_ct γ i v) π := h.g (by decide)
theorem wf_arr {K : am_K} {γ : am_I} {π : am_P} (h : am_Wf K γ π) (q n : Nat) : am_Wf K (fc_arr γ q n).1 π := by
  unfold fc_arr
  repeat' split
  · exact wf_ct (h.g (by decide)) _ _
  · exact wf_ct h _ _
  · exact h
theorem wf_od {K : am_K} {γ : am_I} {π : am_P} (h : am_Wf K γ π) (r : Nat) (v : Int32) : am_Wf K (fc_od γ r v) π := (h.g (by decide)).g (by decide)
theorem wf_jd {K : am_K} {γ : am_I} {π : am_P} (h : am_Wf K γ π) (r n : Nat) (t : Int32) : am_Wf K (fc_jd γ r n t) π := by
  have h1 : am_Wf K (fc_jd1 γ r n t) π := by
    unfold fc_jd1
    split
    · exact h
    · exact (h.z (Or.inl rfl) (Or.inl rfl)).g (by decide)
  unfold fc_jd fc_jd4 fc_jd2 fc_jd3
  have h2 := fun (w : Int32) (v : Int32) => ((h1.g (F := 706) (a := 7 + 14 * r + 2 * n) (i := 0) (v := w) (by decide)).g (F := 707) (a := 7 + 14 * r + 2 * n) (i := 0) (v := v) (by decide))
  split
  · exact wf_on (h2 _ _) _ _
  · exact h2 _ _
def fc_de_x (r x : Nat) (z : am_I × am_P) : am_I × am_P := (z.2 500 (5 + 14 * r) x).elim z (fun e => if z.1 104 1 0 - 40 < z.1 1902 e 0 then z else (fc_dr z.1 r x, am_u z.2 500 (5 + 14 * r) x none))
def fc_de_r (r : Nat) (z : am_I × am_P) : am_I × am_P := am_it (fc_de_x r) 5 z
def fc_de (γ : am_I) (π : am_P) : am_I × am_P := am_it fc_de_r 5 (γ, π)
theorem wf_de_x {K : am_K} {z : am_I × am_P} (h : am_Wf K z.1 z.2) (r x : Nat) : am_Wf K (fc_de_x r x z).1 (fc_de_x r x z).2 := by
  unfold fc_de_x
  cases z.2 500 (5 + 14 * r) x with
  | none => exact h
  | some e =>
    simp only [Option.elim]
    split
    · exact h
    · exact (wf_dr h r x).p (Or.inl rfl) (fun e he => by cases he)
theorem wf_it2 {K : am_K} {f : Nat → am_I × am_P → am_I × am_P} {n : Nat} {z : am_I × am_P} (hf : ∀ i, i < n → ∀ z, am_Wf K z.1 z.2 → am_Wf K (f i z).1 (f i z).2) (h : am_Wf K z.1 z.2) : am_Wf K (am_it f n z).1 (am_it f n z).2 := am_it_keep (P := fun z : am_I × am_P => am_Wf K z.1 z.2) hf h
theorem wf_de_r {K : am_K} {z : am_I × am_P} (h : am_Wf K z.1 z.2) (r : Nat) : am_Wf K (fc_de_r r z).1 (fc_de_r r z).2 := wf_it2 (fun x _ _ h => wf_de_x h r x) h
theorem wf_de {K : am_K} {γ : am_I} {π : am_P} (h : am_Wf K γ π) : am_Wf K (fc_de γ π).1 (fc_de γ π).2 := wf_it2 (z := (γ, π)) (fun r _ _ h => wf_de_r h r) h
def fc_sh3 (γ : am_I) (q n : Nat) : am_I := am_u γ 705 (7 + 14 * n + 2 * q) 0 (γ 703 (7 + 14 * q + 2 * n) 0)
def fc_sh2 (γ : am_I) (q n : Nat) : am_I := fc_sh3 (am_u γ 704 (7 + 14 * n + 2 * q) 0 (γ 104 1 0)) q n
def fc_sh1 (z : am_I × Int32) (q n : Nat) : am_I := if z.2 = 0 then z.1 else fc_sh2 (am_u z.1 702 (7 + 14 * n + 2 * q) 0 1) q n
def fc_sh (γ : am_I) (q n : Nat) : am_I := fc_sh1 (fc_arr (fc_ct γ 0 1) q n) q n
theorem wf_sh {K : am_K} {γ : am_I} {π : am_P} (h : am_Wf K γ π) (q n : Nat) : am_Wf K (fc_sh γ q n) π := by
  unfold fc_sh fc_sh1
  split
  · exact wf_arr (wf_ct h _ _) _ _
  · unfold fc_sh2 fc_sh3
    exact (((wf_arr (wf_ct h _ _) _ _).z (Or.inl rfl) (Or.inr rfl)).g (by decide)).g (by decide)
def fc_eh_n (q n : Nat) (γ : am_I) : am_I := if γ 301 (3 + 14 * q) 0 = 0 then γ else if fc_isl γ (nI q) (nI n) = 0 then γ else fc_sh γ q n
def fc_eh_q (q : Nat) (γ : am_I) : am_I := am_it (fc_eh_n q) 5 γ
def fc_nhr (r : Nat) (γ : am_I) : am_I := fc_nh γ r
def fc_eh (γ : am_I) : am_I := am_it fc_eh_q 5 (am_it fc_nhr 5 γ)
theorem wf_eh_n {K : am_K} {γ : am_I} {π : am_P} (h : am_Wf K γ π) (q n : Nat) : am_Wf K (fc_eh_n q n γ) π := by
  unfold fc_eh_n
  repeat' split
  · exact h
  · exact h
  · exact wf_sh h _ _
theorem wf_eh_q {K : am_K} {γ : am_I} {π : am_P} (h : am_Wf K γ π) (q : Nat) : am_Wf K (fc_eh_q q γ) π := h.it (fun n _ _ h => wf_eh_n h q n)
theorem wf_nhs {K : am_K} {γ : am_I} {π : am_P} (h : am_Wf K γ π) : am_Wf K (am_it fc_nhr 5 γ) π := h.it (fun r _ _ h => wf_nh h r)
theorem wf_eh {K : am_K} {γ : am_I} {π : am_P} (h : am_Wf K γ π) : am_Wf K (fc_eh γ) π := (wf_nhs h).it (fun q _ _ h => wf_eh_q h q)
def fc_ol_x (π : am_P) (n q x : Nat) (γ : am_I) : am_I := (π 500 (5 + 14 * n) x).elim γ (fun e => (π 500 (5 + 14 * q) x).elim (fc_ow γ n q x) (fun f => if fc_nw γ e f = 0 then γ else fc_ow γ n q x))
def fc_ol (γ : am_I) (π : am_P) (n q : Nat) : am_I := am_it (fc_ol_x π n q) 5 γ
theorem wf_ol {K : am_K} {γ : am_I} {π : am_P} (h : am_Wf K γ π) (n q : Nat) : am_Wf K (fc_ol γ π n q) π := h.it (fun x _ γ h => by
  unfold fc_ol_x
  cases π 500 (5 + 14 * n) x with
  | none => exact h
  | some e =>
    cases π 500 (5 + 14 * q) x with
    | none => exact wf_ow h _ _ _
    | some f =>
      simp only [Option.elim]
      split
      · exact h
      · exact wf_ow h _ _ _)
def fc_jn_m (n q : Nat) (γ : am_I) : am_I := fc_jd γ n q (γ 104 1 0)
def fc_jn_n (n : Nat) (γ : am_I) : am_I := am_it (fc_jn_m n) 5 γ
def fc_jo_2 (π : am_P) (n q : Nat) (γ : am_I) : am_I := if γ 706 (7 + 14 * q + 2 * n) 0 = 0 then γ else fc_ol γ π q n
def fc_jo_m (π : am_P) (n q : Nat) (γ : am_I) : am_I := if γ 707 (7 + 14 * n + 2 * q) 0 = 0 then γ else fc_jo_2 π n q (fc_ol γ π n q)
def fc_jo_n (π : am_P) (n : Nat) (γ : am_I) : am_I := am_it (fc_jo_m π n) 5 γ
def fc_jn (γ : am_I) (π : am_P) : am_I := am_it (fc_jo_n π) 5 (am_it fc_jn_n 5 γ)
theorem wf_jns {K : am_K} {γ : am_I} {π : am_P} (h : am_Wf K γ π) : am_Wf K (am_it fc_jn_n 5 γ) π := h.it (fun n _ _ h => h.it (fun q _ _ h => wf_jd h n q _))
theorem wf_jo_m {K : am_K} {γ : am_I} {π : am_P} (h : am_Wf K γ π) (n q : Nat) : am_Wf K (fc_jo_m π n q γ) π := by
  unfold fc_jo_m fc_jo_2
  repeat' split
  · exact h
  · exact wf_ol h _ _
  · exact wf_ol (wf_ol h _ _) _ _
theorem wf_jo_n {K : am_K} {γ : am_I} {π : am_P} (h : am_Wf K γ π) (n : Nat) : am_Wf K (fc_jo_n π n γ) π := h.it (fun q _ _ h => wf_jo_m h n q)
theorem wf_jn {K : am_K} {γ : am_I} {π : am_P} (h : am_Wf K γ π) : am_Wf K (fc_jn γ π) π := (wf_jns h).it (fun n _ _ h => wf_jo_n h n)
theorem c_dropExpired {d : Nat} {Q : am_Q} {K : am_K} {sc : am_Sc} {γ : am_I} {π : am_P} {m : am_M}  (hd : 2 ≤ d) (hW : am_Wf K γ π)  (hq : Q (K, sc, ((fc_de γ π).1, (fc_de γ π).2), m) none) : am_call d 55 [.inr (some 1)] (K, sc, (γ, π), m) Q := by
  obtain ⟨d, rfl⟩ : ∃ d', d = d' + 1 := ⟨d - 1, by omega⟩
  refine r_enter (by decide) (Nat.le_of_ble_eq_true rfl) (ls := [some (.inr (some 1)), none, none, none]) rfl ?_
  refine r_push at_55_0 <| r_istoreL (ls' := [_, _, _, _]) at_55_1 rfl <| ?_
  refine am_forI 5 (fun r z => ∀ u2 u3 : Option am_V, am_w d 55 Q 2 [some (.inr (some 1)), some (.inl (nI r)), u2, u3] [] (K, sc, (z.1, z.2), m)) (fc_de_r) (fun _ z => am_Wf K z.1 z.2) (fun r _ _ h => wf_de_r h r) (fun r hi_r z hI_r hk_r => ?_) (γ, π) hW ?_ none none
  · obtain ⟨γr, πr⟩ := z
    dsimp only at hk_r ⊢
    try dsimp only at hI_r
    intro u2 u3
    refine r_iload at_55_2 rfl <| r_push at_55_3 <| r_cmgeNT r 5 at_55_4 rfl rfl (by omega) (by omega) (by omega) <| ?_
    refine r_push at_55_7 <| r_istoreL (ls' := [_, _, _, _]) at_55_8 rfl <| ?_
    refine am_forI 5 (fun x z => ∀ u3 : Option am_V, am_w d 55 Q 9 [some (.inr (some 1)), some (.inl (nI r)), some (.inl (nI x)), u3] [] (K, sc, (z.1, z.2), m)) (fc_de_x r) (fun _ z => am_Wf K z.1 z.2) (fun x _ _ h => wf_de_x h r x) (fun x hi_x z hI_x hk_x => ?_) (γr, πr) hI_r ?_ u3
    · obtain ⟨γx, πx⟩ := z
      dsimp only at hk_x ⊢
      try dsimp only at hI_x
      intro u3
      refine r_iload at_55_9 rfl <| r_push at_55_10 <| r_cmgeNT x 5 at_55_11 rfl rfl (by omega) (by omega) (by omega) <| ?_
      refine r_aload at_55_14 rfl <| c_getP 100 at_55_15 rfl (by decide) (hI_x.1.lNet) hI_x.1.2.1.1 <| r_iload at_55_18 rfl <| c_aald 200 r at_55_19 rfl (by decide) (hI_x.1.lRs) rfl (by omega) (by decide) ((hI_x.1.2.2.1 r (by omega)).1) <| c_getP 306 at_55_20 rfl (by decide) (hI_x.1.lR (r := r) (by omega)) ((hI_x.1.2.2.1 r (by omega)).2.2.1) <| r_iload at_55_23 rfl <| c_aald 500 x at_55_24 rfl (by decide) (hI_x.1.lHe (r := r) (by omega)) rfl (by omega) (by decide) rfl <| r_astoreL (ls' := [_, _, _, _]) at_55_25 rfl <| r_aload at_55_26 rfl <| r_ifnull at_55_27 (fun h27_1 => ?_) (fun a27_1 h27_1 => ?_)
      · refine r_iincNL (ls' := [_, _, _, _]) x at_55_54 rfl rfl <| r_goto at_55_57 <| ?_
        have e : (fc_de_x r) x (γx, πx) = (γx, πx) := by simp only [fc_de_x, Option.elim, h27_1]
        rw [e] at hk_x
        dsimp only at hk_x
        exact hk_x _
      · have hD := hI_x.2.1 r (by omega) x (by omega) _ h27_1
        rw [h27_1]
        refine r_aload at_55_30 rfl <| c_getI 1902 at_55_31 rfl (by decide) (hD.1.2.1.lv) <| r_aload at_55_34 rfl <| c_getI 104 at_55_35 rfl (by decide) (hI_x.1.lNet) <| r_push at_55_38 <| r_bin at_55_40 <| r_cmgt at_55_41 (fun h41_2 => ?_) (fun h41_2 => ?_)
        · refine r_iincNL (ls' := [_, _, _, _]) x at_55_54 rfl rfl <| r_goto at_55_57 <| ?_
          have e : (fc_de_x r) x (γx, πx) = (γx, πx) := by simp only [fc_de_x, Option.elim, h27_1, if_pos h41_2]
          rw [e] at hk_x
          dsimp only at hk_x
          exact hk_x _
        · refine r_aload at_55_44 rfl <| c_getP 100 at_55_45 rfl (by decide) (hI_x.1.lNet) hI_x.1.2.1.1 <| r_iload at_55_48 rfl <| c_aald 200 r at_55_49 rfl (by decide) (hI_x.1.lRs) rfl (by omega) (by decide) ((hI_x.1.2.2.1 r (by omega)).1) <| r_iload at_55_50 rfl <| r_callV1v at_55_51 (hI_x.1.lR (r := r) (by omega)) (Nat.le_of_ble_eq_true rfl) (fun _ hq => c_drop (by omega) hI_x.1 (by omega) (by omega) hq) <| r_iincNL (ls' := [_, _, _, _]) x at_55_54 rfl rfl <| r_goto at_55_57 <| ?_
          have e : (fc_de_x r) x (γx, πx) = (fc_dr γx r x, am_u πx 500 (5 + 14 * r) x none) := by simp only [fc_de_x, Option.elim, h27_1, if_neg h41_2]
          rw [e] at hk_x
          dsimp only at hk_x
          exact hk_x _
    · intro u3
      generalize hz9 : am_it (fc_de_x r) 5 (γr, πr) = y9
      refine r_iload at_55_9 rfl <| r_push at_55_10 <| r_cmgeNF 5 5 at_55_11 rfl rfl (by omega) (by omega) (by omega) <| ?_
      refine r_iincNL (ls' := [_, _, _, _]) r at_55_60 rfl rfl <| r_goto at_55_63 <| ?_
      have e : (fc_de_r) r (γr, πr) = (y9.1, y9.2) := by simp only [fc_de_r, hz9]
      rw [e] at hk_r
      dsimp only at hk_r
      exact hk_r _ _
  · intro u2 u3
    generalize hz2 : am_it (fc_de_r) 5 (γ, π) = y2
    refine r_iload at_55_2 rfl <| r_push at_55_3 <| r_cmgeNF 5 5 at_55_4 rfl rfl (by omega) (by omega) (by omega) <| ?_
    refine r_ret at_55_66 ?_
    rw [show fc_de γ π = y2 from by simp only [fc_de, hz2]] at hq
    exact hq
theorem c_sayHello {d : Nat} {Q : am_Q} {K : am_K} {sc : am_Sc} {γ : am_I} {π : am_P} {m : am_M} {q n : Nat} (hd : 2 ≤ d) (hW : am_Wf K γ π) (hq5 : q < 5) (hn : n < 5) (hq : Q (K, sc, (fc_sh γ q n, π), m) none) : am_call d 57 [.inr (some 1), .inl (nI q), .inl (nI n)] (K, sc, (γ, π), m) Q := by
  obtain ⟨d, rfl⟩ : ∃ d', d = d' + 1 := ⟨d - 1, by omega⟩
  refine r_enter (by decide) (Nat.le_of_ble_eq_true rfl) (ls := [some (.inr (some 1)), some (.inl (nI q)), some (.inl (nI n)), none]) rfl ?_
  refine r_aload at_57_0 rfl <| c_getP 103 at_57_1 rfl (by decide) (hW.1.lNet) hW.1.2.1.2.2.2 <| r_push at_57_4 <| r_dup2 at_57_5 <| c_ald 1800 0 at_57_6 rfl (by decide) (hW.1.lCn) rfl (by omega) (by decide) <| r_push at_57_7 <| r_bin at_57_8 <| c_ast 1800 0 at_57_9 rfl (by decide) (hW.1.lCn) rfl (by omega) (by decide) <| r_aload at_57_10 rfl <| r_iload at_57_11 rfl <| r_iload at_57_12 rfl <| r_callV2i at_57_13 (hW.1.lNet) (Nat.le_of_ble_eq_true rfl) (fun _ hq => c_arrives (by omega) hW.1 (by omega) (by omega) hq) <| r_ifeq at_57_16 (fun h16_1 => ?_) (fun h16_1 => ?_)
  · refine r_ret at_57_62 ?_
    have e : fc_sh γ q n = (fc_arr (am_u γ 1800 162 0 ((γ 1800 162 0) + 1)) q n).1 := by
      unfold fc_sh fc_sh1
      rw [if_pos (show (fc_arr (fc_ct γ 0 1) q n).2 = 0 from h16_1)]
      rfl
    rw [e] at hq
    exact hq
  · refine r_aload at_57_19 rfl <| c_getP 100 at_57_20 rfl (by decide) (hW.1.lNet) hW.1.2.1.1 <| r_iload at_57_23 rfl <| c_aald 200 n at_57_24 rfl (by decide) (hW.1.lRs) rfl (by omega) (by decide) ((hW.1.2.2.1 n (by omega)).1) <| c_getP 307 at_57_25 rfl (by decide) (hW.1.lR (r := n) (by omega)) ((hW.1.2.2.1 n (by omega)).2.2.2) <| r_iload at_57_28 rfl <| c_aald 600 q at_57_29 rfl (by decide) (hW.1.lEs (r := n) (by omega)) rfl (by omega) (by decide) ((hW.1.2.2.2.1 n (by omega) q (by omega)).1) <| r_astoreL (ls' := [_, _, _, _]) at_57_30 rfl <| r_aload at_57_31 rfl <| r_push at_57_32 <| c_putZ 702 at_57_33 rfl (by decide) (hW.1.lE (r := n) (n := q) (by omega) (by omega)) (Or.inr rfl) <| r_aload at_57_36 rfl <| r_aload at_57_37 rfl <| c_getI 104 at_57_38 rfl (by decide) (hW.1.lNet) <| c_putI 704 at_57_41 rfl (by decide) (hW.1.lE (r := n) (n := q) (by omega) (by omega)) <| r_aload at_57_44 rfl <| r_aload at_57_45 rfl <| c_getP 100 at_57_46 rfl (by decide) (hW.1.lNet) hW.1.2.1.1 <| r_iload at_57_49 rfl <| c_aald 200 q at_57_50 rfl (by decide) (hW.1.lRs) rfl (by omega) (by decide) ((hW.1.2.2.1 q (by omega)).1) <| c_getP 307 at_57_51 rfl (by decide) (hW.1.lR (r := q) (by omega)) ((hW.1.2.2.1 q (by omega)).2.2.2) <| r_iload at_57_54 rfl <| c_aald 600 n at_57_55 rfl (by decide) (hW.1.lEs (r := q) (by omega)) rfl (by omega) (by decide) ((hW.1.2.2.2.1 q (by omega) n (by omega)).1) <| c_getI 703 at_57_56 rfl (by decide) (hW.1.lE (r := q) (n := n) (by omega) (by omega)) <| c_putZ 705 at_57_59 rfl (by decide) (hW.1.lE (r := n) (n := q) (by omega) (by omega)) ((((wf_arr (wf_ct hW 0 1) q n).z (F := 702) (a := 7 + 14 * n + 2 * q) (i := 0) (v := 1) (Or.inl rfl) (Or.inr rfl)).g (F := 704) (a := 7 + 14 * n + 2 * q) (i := 0) (v := _) (by decide)).2.2.2.2.2.2 _).2 <| ?_
    refine r_ret at_57_62 ?_
    have e : fc_sh γ q n = am_u (am_u (am_u ((fc_arr (am_u γ 1800 162 0 ((γ 1800 162 0) + 1)) q n).1) 702 (7 + 14 * n + 2 * q) 0 1) 704 (7 + 14 * n + 2 * q) 0 ((am_u ((fc_arr (am_u γ 1800 162 0 ((γ 1800 162 0) + 1)) q n).1) 702 (7 + 14 * n + 2 * q) 0 1) 104 1 0)) 705 (7 + 14 * n + 2 * q) 0 ((am_u (am_u ((fc_arr (am_u γ 1800 162 0 ((γ 1800 162 0) + 1)) q n).1) 702 (7 + 14 * n + 2 * q) 0 1) 704 (7 + 14 * n + 2 * q) 0 ((am_u ((fc_arr (am_u γ 1800 162 0 ((γ 1800 162 0) + 1)) q n).1) 702 (7 + 14 * n + 2 * q) 0 1) 104 1 0)) 703 (7 + 14 * q + 2 * n) 0) := by
      unfold fc_sh fc_sh1
      rw [if_neg (show ¬ (fc_arr (fc_ct γ 0 1) q n).2 = 0 from h16_1)]
      rfl
    rw [e] at hq
    exact hq
theorem c_exchangeHellos {d : Nat} {Q : am_Q} {K : am_K} {sc : am_Sc} {γ : am_I} {π : am_P} {m : am_M}  (hd : 3 ≤ d) (hW : am_Wf K γ π)  (hq : Q (K, sc, (fc_eh γ, π), m) none) : am_call d 56 [.inr (some 1)] (K, sc, (γ, π), m) Q := by
  obtain ⟨d, rfl⟩ : ∃ d', d = d' + 1 := ⟨d - 1, by omega⟩
  refine r_enter (by decide) (Nat.le_of_ble_eq_true rfl) (ls := [some (.inr (some 1)), none, none]) rfl ?_
  refine r_push at_56_0 <| r_istoreL (ls' := [_, _, _]) at_56_1 rfl <| ?_
  refine am_forI 5 (fun r z => ∀ u2 : Option am_V, am_w d 56 Q 2 [some (.inr (some 1)), some (.inl (nI r)), u2] [] (K, sc, (z, π), m)) (fc_nhr) (fun _ z => am_Wf K z π) (fun r _ _ h => wf_nh h r) (fun r hi_r z hI_r hk_r => ?_) γ hW ?_ none
  · intro u2
    refine r_iload at_56_2 rfl <| r_push at_56_3 <| r_cmgeNT r 5 at_56_4 rfl rfl (by omega) (by omega) (by omega) <| ?_
    refine r_aload at_56_7 rfl <| c_getP 100 at_56_8 rfl (by decide) (hW.1.lNet) hW.1.2.1.1 <| r_iload at_56_11 rfl <| c_aald 200 r at_56_12 rfl (by decide) (hW.1.lRs) rfl (by omega) (by decide) ((hW.1.2.2.1 r (by omega)).1) <| r_callV0v at_56_13 (hW.1.lR (r := r) (by omega)) (Nat.le_of_ble_eq_true rfl) (fun _ hq => c_noteWho (by omega) hW.1 (by omega) (fun _ _ => (hI_r.2.2.2.2.2.2 _).1) hq) <| r_iincNL (ls' := [_, _, _]) r at_56_16 rfl rfl <| r_goto at_56_19 <| ?_
    have e : (fc_nhr) r z = fc_nh z r := by simp only [fc_nhr]
    rw [e] at hk_r
    exact hk_r _
  · intro u2
    generalize hz2 : am_it (fc_nhr) 5 γ = y2
    refine r_iload at_56_2 rfl <| r_push at_56_3 <| r_cmgeNF 5 5 at_56_4 rfl rfl (by omega) (by omega) (by omega) <| ?_
    refine r_push at_56_22 <| r_istoreL (ls' := [_, _, _]) at_56_23 rfl <| ?_
    refine am_forI 5 (fun q z => ∀ u2 : Option am_V, am_w d 56 Q 24 [some (.inr (some 1)), some (.inl (nI q)), u2] [] (K, sc, (z, π), m)) (fc_eh_q) (fun _ z => am_Wf K z π) (fun q _ _ h => wf_eh_q h q) (fun q hi_q z hI_q hk_q => ?_) y2 (by rw [← hz2]; exact wf_nhs hW) ?_ u2
    · intro u2
      refine r_iload at_56_24 rfl <| r_push at_56_25 <| r_cmgeNT q 5 at_56_26 rfl rfl (by omega) (by omega) (by omega) <| ?_
      refine r_push at_56_29 <| r_istoreL (ls' := [_, _, _]) at_56_30 rfl <| ?_
      refine am_forI 5 (fun n z => am_w d 56 Q 31 [some (.inr (some 1)), some (.inl (nI q)), some (.inl (nI n))] [] (K, sc, (z, π), m)) (fc_eh_n q) (fun _ z => am_Wf K z π) (fun n _ _ h => wf_eh_n h q n) (fun n hi_n z hI_n hk_n => ?_) z hI_q ?_
      · refine r_iload at_56_31 rfl <| r_push at_56_32 <| r_cmgeNT n 5 at_56_33 rfl rfl (by omega) (by omega) (by omega) <| ?_
        refine r_aload at_56_36 rfl <| c_getP 100 at_56_37 rfl (by decide) (hW.1.lNet) hW.1.2.1.1 <| r_iload at_56_40 rfl <| c_aald 200 q at_56_41 rfl (by decide) (hW.1.lRs) rfl (by omega) (by decide) ((hW.1.2.2.1 q (by omega)).1) <| c_getI 301 at_56_42 rfl (by decide) (hW.1.lR (r := q) (by omega)) <| r_ifeq at_56_45 (fun h45_1 => ?_) (fun h45_1 => ?_)
        · refine r_iincNL (ls' := [_, _, _]) n at_56_63 rfl rfl <| r_goto at_56_66 <| ?_
          have e : (fc_eh_n q) n z = z := by simp only [fc_eh_n, if_pos h45_1]
          rw [e] at hk_n
          exact hk_n
        · refine r_aload at_56_48 rfl <| r_iload at_56_49 rfl <| r_iload at_56_50 rfl <| r_callV2i at_56_51 (hW.1.lNet) (Nat.le_of_ble_eq_true rfl) (fun _ hq => c_isLink (by omega) hW.1 hq) <| r_ifeq at_56_54 (fun h54_2 => ?_) (fun h54_2 => ?_)
          · refine r_iincNL (ls' := [_, _, _]) n at_56_63 rfl rfl <| r_goto at_56_66 <| ?_
            have e : (fc_eh_n q) n z = z := by simp only [fc_eh_n, if_neg h45_1, if_pos h54_2]
            rw [e] at hk_n
            exact hk_n
          · refine r_aload at_56_57 rfl <| r_iload at_56_58 rfl <| r_iload at_56_59 rfl <| r_callV2v at_56_60 (hW.1.lNet) (Nat.le_of_ble_eq_true rfl) (fun _ hq => c_sayHello (by omega) hI_n (by omega) (by omega) hq) <| r_iincNL (ls' := [_, _, _]) n at_56_63 rfl rfl <| r_goto at_56_66 <| ?_
            have e : (fc_eh_n q) n z = fc_sh z q n := by simp only [fc_eh_n, if_neg h45_1, if_neg h54_2]
            rw [e] at hk_n
            exact hk_n
      · generalize hz31 : am_it (fc_eh_n q) 5 z = y31
        refine r_iload at_56_31 rfl <| r_push at_56_32 <| r_cmgeNF 5 5 at_56_33 rfl rfl (by omega) (by omega) (by omega) <| ?_
        refine r_iincNL (ls' := [_, _, _]) q at_56_69 rfl rfl <| r_goto at_56_72 <| ?_
        have e : (fc_eh_q) q z = y31 := by simp only [fc_eh_q, hz31]
        rw [e] at hk_q
        exact hk_q _
    · intro u2
      generalize hz24 : am_it (fc_eh_q) 5 y2 = y24
      refine r_iload at_56_24 rfl <| r_push at_56_25 <| r_cmgeNF 5 5 at_56_26 rfl rfl (by omega) (by omega) (by omega) <| ?_
      refine r_ret at_56_75 ?_
      have e : fc_eh γ = y24 := by simp only [fc_eh, hz2, hz24]
      rw [e] at hq
      exact hq
theorem c_oweWhatLacks {d : Nat} {Q : am_Q} {K : am_K} {sc : am_Sc} {γ : am_I} {π : am_P} {m : am_M} {n q : Nat} (hd : 2 ≤ d) (T : am_TC K π) (hH : am_HD K π) (hn : n < 5) (hq5 : q < 5) (hq : Q (K, sc, (fc_ol γ π n q, π), m) none) : am_call d 59 [.inr (some 1), .inl (nI n), .inl (nI q)] (K, sc, (γ, π), m) Q := by
  obtain ⟨d, rfl⟩ : ∃ d', d = d' + 1 := ⟨d - 1, by omega⟩
  refine r_enter (by decide) (Nat.le_of_ble_eq_true rfl) (ls := [some (.inr (some 1)), some (.inl (nI n)), some (.inl (nI q)), none, none, none]) rfl ?_
  refine r_push at_59_0 <| r_istoreL (ls' := [_, _, _, _, _, _]) at_59_1 rfl <| ?_
  refine am_for 5 (fun x z => ∀ u4 u5 : Option am_V, am_w d 59 Q 2 [some (.inr (some 1)), some (.inl (nI n)), some (.inl (nI q)), some (.inl (nI x)), u4, u5] [] (K, sc, (z, π), m)) (fc_ol_x π n q) (fun x hi_x z hk_x => ?_) γ ?_ none none
  · intro u4 u5
    refine r_iload at_59_2 rfl <| r_push at_59_3 <| r_cmgeNT x 5 at_59_4 rfl rfl (by omega) (by omega) (by omega) <| ?_
    refine r_aload at_59_7 rfl <| c_getP 100 at_59_8 rfl (by decide) (T.lNet) T.2.1.1 <| r_iload at_59_11 rfl <| c_aald 200 n at_59_12 rfl (by decide) (T.lRs) rfl (by omega) (by decide) ((T.2.2.1 n (by omega)).1) <| c_getP 306 at_59_13 rfl (by decide) (T.lR (r := n) (by omega)) ((T.2.2.1 n (by omega)).2.2.1) <| r_iload at_59_16 rfl <| c_aald 500 x at_59_17 rfl (by decide) (T.lHe (r := n) (by omega)) rfl (by omega) (by decide) rfl <| r_astoreL (ls' := [_, _, _, _, _, _]) at_59_18 rfl <| r_aload at_59_20 rfl <| c_getP 100 at_59_21 rfl (by decide) (T.lNet) T.2.1.1 <| r_iload at_59_24 rfl <| c_aald 200 q at_59_25 rfl (by decide) (T.lRs) rfl (by omega) (by decide) ((T.2.2.1 q (by omega)).1) <| c_getP 306 at_59_26 rfl (by decide) (T.lR (r := q) (by omega)) ((T.2.2.1 q (by omega)).2.2.1) <| r_iload at_59_29 rfl <| c_aald 500 x at_59_30 rfl (by decide) (T.lHe (r := q) (by omega)) rfl (by omega) (by decide) rfl <| r_astoreL (ls' := [_, _, _, _, _, _]) at_59_31 rfl <| r_aload at_59_33 rfl <| r_ifnull at_59_35 (fun h35_1 => ?_) (fun a35_1 h35_1 => ?_)
    · refine r_iincNL (ls' := [_, _, _, _, _, _]) x at_59_68 rfl rfl <| r_goto at_59_71 <| ?_
      have e : (fc_ol_x π n q) x z = z := by simp only [fc_ol_x, Option.elim, h35_1]
      rw [e] at hk_x
      exact hk_x _ _
    · have hD := hH n (by omega) x (by omega) _ h35_1
      rw [h35_1]
      refine r_aload at_59_38 rfl <| r_ifnull at_59_40 (fun h40_2 => ?_) (fun a40_2 h40_2 => ?_)
      · refine r_aload at_59_53 rfl <| c_getP 100 at_59_54 rfl (by decide) (T.lNet) T.2.1.1 <| r_iload at_59_57 rfl <| c_aald 200 n at_59_58 rfl (by decide) (T.lRs) rfl (by omega) (by decide) ((T.2.2.1 n (by omega)).1) <| c_getP 307 at_59_59 rfl (by decide) (T.lR (r := n) (by omega)) ((T.2.2.1 n (by omega)).2.2.2) <| r_iload at_59_62 rfl <| c_aald 600 q at_59_63 rfl (by decide) (T.lEs (r := n) (by omega)) rfl (by omega) (by decide) ((T.2.2.2.1 n (by omega) q (by omega)).1) <| r_iload at_59_64 rfl <| r_callV1v at_59_65 (T.lE (r := n) (n := q) (by omega) (by omega)) (Nat.le_of_ble_eq_true rfl) (fun _ hq => c_owe (by omega) T (by omega) (by omega) (by omega) hq) <| r_iincNL (ls' := [_, _, _, _, _, _]) x at_59_68 rfl rfl <| r_goto at_59_71 <| ?_
        have e : (fc_ol_x π n q) x z = fc_ow z n q x := by simp only [fc_ol_x, Option.elim, h35_1, h40_2]
        rw [e] at hk_x
        exact hk_x _ _
      · have hE := hH q (by omega) x (by omega) _ h40_2
        rw [h40_2]
        refine r_aload at_59_43 rfl <| r_aload at_59_45 rfl <| r_callV1i at_59_47 (hD.2.1.lv) (Nat.le_of_ble_eq_true rfl) (fun _ hq => c_isNewer (by omega) hD hE hq) <| r_ifeq at_59_50 (fun h50_3 => ?_) (fun h50_3 => ?_)
        · refine r_iincNL (ls' := [_, _, _, _, _, _]) x at_59_68 rfl rfl <| r_goto at_59_71 <| ?_
          have e : (fc_ol_x π n q) x z = z := by simp only [fc_ol_x, Option.elim, h35_1, h40_2, if_pos h50_3]
          rw [e] at hk_x
          exact hk_x _ _
        · refine r_aload at_59_53 rfl <| c_getP 100 at_59_54 rfl (by decide) (T.lNet) T.2.1.1 <| r_iload at_59_57 rfl <| c_aald 200 n at_59_58 rfl (by decide) (T.lRs) rfl (by omega) (by decide) ((T.2.2.1 n (by omega)).1) <| c_getP 307 at_59_59 rfl (by decide) (T.lR (r := n) (by omega)) ((T.2.2.1 n (by omega)).2.2.2) <| r_iload at_59_62 rfl <| c_aald 600 q at_59_63 rfl (by decide) (T.lEs (r := n) (by omega)) rfl (by omega) (by decide) ((T.2.2.2.1 n (by omega) q (by omega)).1) <| r_iload at_59_64 rfl <| r_callV1v at_59_65 (T.lE (r := n) (n := q) (by omega) (by omega)) (Nat.le_of_ble_eq_true rfl) (fun _ hq => c_owe (by omega) T (by omega) (by omega) (by omega) hq) <| r_iincNL (ls' := [_, _, _, _, _, _]) x at_59_68 rfl rfl <| r_goto at_59_71 <| ?_
          have e : (fc_ol_x π n q) x z = fc_ow z n q x := by simp only [fc_ol_x, Option.elim, h35_1, h40_2, if_neg h50_3]
          rw [e] at hk_x
          exact hk_x _ _
  · intro u4 u5
    generalize hz2 : am_it (fc_ol_x π n q) 5 γ = y2
    refine r_iload at_59_2 rfl <| r_push at_59_3 <| r_cmgeNF 5 5 at_59_4 rfl rfl (by omega) (by omega) (by omega) <| ?_
    refine r_ret at_59_74 ?_
    have e : fc_ol γ π n q = y2 := by simp only [fc_ol, hz2]
    rw [e] at hq
    exact hq
theorem c_judgeNeighbours {d : Nat} {Q : am_Q} {K : am_K} {sc : am_Sc} {γ : am_I} {π : am_P} {m : am_M}  (hd : 3 ≤ d) (T : am_TC K π) (hH : am_HD K π) (hq : Q (K, sc, (fc_jn γ π, π), m) none) : am_call d 58 [.inr (some 1)] (K, sc, (γ, π), m) Q := by
  obtain ⟨d, rfl⟩ : ∃ d', d = d' + 1 := ⟨d - 1, by omega⟩
  refine r_enter (by decide) (Nat.le_of_ble_eq_true rfl) (ls := [some (.inr (some 1)), none, none]) rfl ?_
  refine r_push at_58_0 <| r_istoreL (ls' := [_, _, _]) at_58_1 rfl <| ?_
  refine am_for 5 (fun n z => ∀ u2 : Option am_V, am_w d 58 Q 2 [some (.inr (some 1)), some (.inl (nI n)), u2] [] (K, sc, (z, π), m)) (fc_jn_n) (fun n hi_n z hk_n => ?_) γ ?_ none
  · intro u2
    refine r_iload at_58_2 rfl <| r_push at_58_3 <| r_cmgeNT n 5 at_58_4 rfl rfl (by omega) (by omega) (by omega) <| ?_
    refine r_push at_58_7 <| r_istoreL (ls' := [_, _, _]) at_58_8 rfl <| ?_
    refine am_for 5 (fun q z => am_w d 58 Q 9 [some (.inr (some 1)), some (.inl (nI n)), some (.inl (nI q))] [] (K, sc, (z, π), m)) (fc_jn_m n) (fun q hi_q z hk_q => ?_) z ?_
    · refine r_iload at_58_9 rfl <| r_push at_58_10 <| r_cmgeNT q 5 at_58_11 rfl rfl (by omega) (by omega) (by omega) <| ?_
      refine r_aload at_58_14 rfl <| c_getP 100 at_58_15 rfl (by decide) (T.lNet) T.2.1.1 <| r_iload at_58_18 rfl <| c_aald 200 n at_58_19 rfl (by decide) (T.lRs) rfl (by omega) (by decide) ((T.2.2.1 n (by omega)).1) <| c_getP 307 at_58_20 rfl (by decide) (T.lR (r := n) (by omega)) ((T.2.2.1 n (by omega)).2.2.2) <| r_iload at_58_23 rfl <| c_aald 600 q at_58_24 rfl (by decide) (T.lEs (r := n) (by omega)) rfl (by omega) (by decide) ((T.2.2.2.1 n (by omega) q (by omega)).1) <| r_aload at_58_25 rfl <| c_getI 104 at_58_26 rfl (by decide) (T.lNet) <| r_callV1v at_58_29 (T.lE (r := n) (n := q) (by omega) (by omega)) (Nat.le_of_ble_eq_true rfl) (fun _ hq => c_judge (by omega) T (by omega) (by omega) hq) <| r_iincNL (ls' := [_, _, _]) q at_58_32 rfl rfl <| r_goto at_58_35 <| ?_
      have e : (fc_jn_m n) q z = fc_jd z n q (z 104 1 0) := by simp only [fc_jn_m]
      rw [e] at hk_q
      exact hk_q
    · generalize hz9 : am_it (fc_jn_m n) 5 z = y9
      refine r_iload at_58_9 rfl <| r_push at_58_10 <| r_cmgeNF 5 5 at_58_11 rfl rfl (by omega) (by omega) (by omega) <| ?_
      refine r_iincNL (ls' := [_, _, _]) n at_58_38 rfl rfl <| r_goto at_58_41 <| ?_
      have e : (fc_jn_n) n z = y9 := by simp only [fc_jn_n, hz9]
      rw [e] at hk_n
      exact hk_n _
  · intro u2
    generalize hz2 : am_it (fc_jn_n) 5 γ = y2
    refine r_iload at_58_2 rfl <| r_push at_58_3 <| r_cmgeNF 5 5 at_58_4 rfl rfl (by omega) (by omega) (by omega) <| ?_
    refine r_push at_58_44 <| r_istoreL (ls' := [_, _, _]) at_58_45 rfl <| ?_
    refine am_for 5 (fun n z => ∀ u2 : Option am_V, am_w d 58 Q 46 [some (.inr (some 1)), some (.inl (nI n)), u2] [] (K, sc, (z, π), m)) (fc_jo_n π) (fun n hi_n z hk_n => ?_) y2 ?_ u2
    · intro u2
      refine r_iload at_58_46 rfl <| r_push at_58_47 <| r_cmgeNT n 5 at_58_48 rfl rfl (by omega) (by omega) (by omega) <| ?_
      refine r_push at_58_51 <| r_istoreL (ls' := [_, _, _]) at_58_52 rfl <| ?_
      refine am_for 5 (fun q z => am_w d 58 Q 53 [some (.inr (some 1)), some (.inl (nI n)), some (.inl (nI q))] [] (K, sc, (z, π), m)) (fc_jo_m π n) (fun q hi_q z hk_q => ?_) z ?_
      · refine r_iload at_58_53 rfl <| r_push at_58_54 <| r_cmgeNT q 5 at_58_55 rfl rfl (by omega) (by omega) (by omega) <| ?_
        refine r_aload at_58_58 rfl <| c_getP 100 at_58_59 rfl (by decide) (T.lNet) T.2.1.1 <| r_iload at_58_62 rfl <| c_aald 200 n at_58_63 rfl (by decide) (T.lRs) rfl (by omega) (by decide) ((T.2.2.1 n (by omega)).1) <| c_getP 307 at_58_64 rfl (by decide) (T.lR (r := n) (by omega)) ((T.2.2.1 n (by omega)).2.2.2) <| r_iload at_58_67 rfl <| c_aald 600 q at_58_68 rfl (by decide) (T.lEs (r := n) (by omega)) rfl (by omega) (by decide) ((T.2.2.2.1 n (by omega) q (by omega)).1) <| c_getI 707 at_58_69 rfl (by decide) (T.lE (r := n) (n := q) (by omega) (by omega)) <| r_ifeq at_58_72 (fun h72_1 => ?_) (fun h72_1 => ?_)
        · refine r_iincNL (ls' := [_, _, _]) q at_58_104 rfl rfl <| r_goto at_58_107 <| ?_
          have e : (fc_jo_m π n) q z = z := by simp only [fc_jo_m, fc_jo_2, if_pos h72_1]
          rw [e] at hk_q
          exact hk_q
        · refine r_aload at_58_75 rfl <| r_iload at_58_76 rfl <| r_iload at_58_77 rfl <| r_callV2v at_58_78 (T.lNet) (Nat.le_of_ble_eq_true rfl) (fun _ hq => c_oweWhatLacks (by omega) T hH (by omega) (by omega) hq) <| r_aload at_58_81 rfl <| c_getP 100 at_58_82 rfl (by decide) (T.lNet) T.2.1.1 <| r_iload at_58_85 rfl <| c_aald 200 q at_58_86 rfl (by decide) (T.lRs) rfl (by omega) (by decide) ((T.2.2.1 q (by omega)).1) <| c_getP 307 at_58_87 rfl (by decide) (T.lR (r := q) (by omega)) ((T.2.2.1 q (by omega)).2.2.2) <| r_iload at_58_90 rfl <| c_aald 600 n at_58_91 rfl (by decide) (T.lEs (r := q) (by omega)) rfl (by omega) (by decide) ((T.2.2.2.1 q (by omega) n (by omega)).1) <| c_getI 706 at_58_92 rfl (by decide) (T.lE (r := q) (n := n) (by omega) (by omega)) <| r_ifeq at_58_95 (fun h95_2 => ?_) (fun h95_2 => ?_)
          · refine r_iincNL (ls' := [_, _, _]) q at_58_104 rfl rfl <| r_goto at_58_107 <| ?_
            have e : (fc_jo_m π n) q z = fc_ol z π n q := by simp only [fc_jo_m, fc_jo_2, if_neg h72_1, if_pos h95_2]
            rw [e] at hk_q
            exact hk_q
          · refine r_aload at_58_98 rfl <| r_iload at_58_99 rfl <| r_iload at_58_100 rfl <| r_callV2v at_58_101 (T.lNet) (Nat.le_of_ble_eq_true rfl) (fun _ hq => c_oweWhatLacks (by omega) T hH (by omega) (by omega) hq) <| r_iincNL (ls' := [_, _, _]) q at_58_104 rfl rfl <| r_goto at_58_107 <| ?_
            have e : (fc_jo_m π n) q z = fc_ol (fc_ol z π n q) π q n := by simp only [fc_jo_m, fc_jo_2, if_neg h72_1, if_neg h95_2]
            rw [e] at hk_q
            exact hk_q
      · generalize hz53 : am_it (fc_jo_m π n) 5 z = y53
        refine r_iload at_58_53 rfl <| r_push at_58_54 <| r_cmgeNF 5 5 at_58_55 rfl rfl (by omega) (by omega) (by omega) <| ?_
        refine r_iincNL (ls' := [_, _, _]) n at_58_110 rfl rfl <| r_goto at_58_113 <| ?_
        have e : (fc_jo_n π) n z = y53 := by simp only [fc_jo_n, hz53]
        rw [e] at hk_n
        exact hk_n _
    · intro u2
      generalize hz46 : am_it (fc_jo_n π) 5 y2 = y46
      refine r_iload at_58_46 rfl <| r_push at_58_47 <| r_cmgeNF 5 5 at_58_48 rfl rfl (by omega) (by omega) (by omega) <| ?_
      refine r_ret at_58_116 ?_
      have e : fc_jn γ π = y46 := by simp only [fc_jn, hz2, hz46]
      rw [e] at hq
      exact hq

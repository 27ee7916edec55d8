theorem wr_self {μ : am_I} {k x : Nat} {v : Int32} (h : am_rd μ k x = v) : am_wr μ k x v = μ := by
  funext f a i
  unfold am_wr am_u
  split
  · next q =>
    obtain ⟨rfl, rfl, rfl⟩ := q
    exact h.symm
  · rfl
theorem u_self {α : Type} {m : Nat → Nat → Nat → α} {f a i : Nat} {v : α} (h : m f a i = v) : am_u m f a i v = m := by
  funext f' a' i'
  unfold am_u
  split
  · next q =>
    obtain ⟨rfl, rfl, rfl⟩ := q
    exact h.symm
  · rfl
theorem one_ne : ¬ (1 : Int32) = 0 := by decide
theorem fg_i_eq {r x n : Nat} (hx : x < 5) (μ : am_I) : fr_fg_i (5 * r + x) n μ = am_wr μ 18 (5 * (5 * r + n) + x) 0 := by
  unfold fr_fg_i
  rw [show (5 * r + x) / 5 = r from by omega, show (5 * r + x) % 5 = x from by omega]
theorem Iv_fg {b c : Nat} {μ : am_I} (hI : am_Iv b c μ) {r x : Nat} (hr : r < 5) (hx : x < 5) : am_Iv b c (am_it (fr_fg_i (5 * r + x)) 5 (am_wr μ 10 (5 * r + x) 0)) := by
  refine ⟨am_it_keep (P := am_Ia b c) (fun n hn s hs => ?_) (hI.1.w10 (am_lb.z _)), am_it_keep (P := am_Ib) (fun n hn s hs => ?_) (hI.2.1.f (by decide)), fun r' hr' n' hn' y hy q => ?_⟩
  · rw [fg_i_eq hx]; exact hs.f (by decide)
  · rw [fg_i_eq hx]; exact hs.f (by decide)
  · by_cases e : r' = r ∧ y = x
    · obtain ⟨rfl, rfl⟩ := e
      refine absurd ?_ q
      refine it_set (j := n') (I := fun _ => True) (Q := fun s => am_rd s 18 (5 * (5 * r' + n') + y) = 0) hn' trivial (fun _ _ _ _ => trivial) (fun s _ => ?_) (fun i hi hne s _ hq => ?_)
      · rw [fg_i_eq hx]; exact rd_at
      · rw [fg_i_eq hx, rd_ne (by omega)]; exact hq
    · have g18 : am_rd (am_it (fr_fg_i (5 * r + x)) 5 (am_wr μ 10 (5 * r + x) 0)) 18 (5 * (5 * r' + n') + y) = am_rd μ 18 (5 * (5 * r' + n') + y) := by
        rw [it_rd _ (fun n hn s => by rw [fg_i_eq hx, rd_ne (by omega)]), rd_nk (by decide)]
      have g6 : am_rd (am_it (fr_fg_i (5 * r + x)) 5 (am_wr μ 10 (5 * r + x) 0)) 6 (5 * r' + n') = am_rd μ 6 (5 * r' + n') := by
        rw [it_rd _ (fun n hn s => by rw [fg_i_eq hx, rd_nk (by decide)]), rd_nk (by decide)]
      have g10 : am_rd (am_it (fr_fg_i (5 * r + x)) 5 (am_wr μ 10 (5 * r + x) 0)) 10 (5 * r' + y) = am_rd μ 10 (5 * r' + y) := by
        rw [it_rd _ (fun n hn s => by rw [fg_i_eq hx, rd_nk (by decide)]), rd_ne (by omega)]
      rw [g18] at q
      rw [g6, g10]
      exact hI.2.2 r' hr' n' hn' y hy q
theorem s_de_x {b c : Nat} {z : am_I × am_P} {μ : am_I} (h : am_T0 z.1 z.2 μ) (hI : am_Iv b c μ) {r x : Nat} (hr : r < 5) (hx : x < 5) : am_T0 (fc_de_x r x z).1 (fc_de_x r x z).2 (fr_fg_b (5 * r + x) μ) ∧ am_Iv b c (fr_fg_b (5 * r + x) μ) := by
  unfold fc_de_x fr_fg_b
  rcases tD_pos (h.2.2.2.2 r hr x hx) with ⟨e1, e2⟩ | ⟨d, e1, -, e3, e4, -⟩
  · rw [e1, if_neg e2]; exact ⟨h, hI⟩
  rw [e1, if_pos e3]
  dsimp only [Option.elim]
  rw [h.1, e4]
  by_cases q : am_ck μ - 40 < am_rd μ 11 (5 * r + x)
  · rw [if_pos q, if_pos q]; exact ⟨h, hI⟩
  rw [if_neg q, if_neg q]
  refine ⟨?_, Iv_fg hI hr hx⟩
  show am_T0 (am_it (fc_dr_b r x) 5 z.1) (am_u z.2 500 (5 + 14 * r) x none) (am_it (fr_fg_i (5 * r + x)) 5 (am_wr μ 10 (5 * r + x) 0))
  refine am_it2 (R := fun _ γ μ => am_T0 γ (am_u z.2 500 (5 + 14 * r) x none) μ) (fun n hn γ μ hR => ?_) ?_
  · rw [fg_i_eq hx]
    exact T0_x0 hR hr hn hx
  · exact T0_hd h hr hx (fun f a i q => u_ne q) (fun k y q1 q2 q3 => rd_ne (by omega)) (am_ck_wr _ _ _ _) (Or.inl ⟨am_u_at, rd_at⟩)
theorem s_de {b c : Nat} {γ : am_I} {π : am_P} {μ : am_I} (h : am_T0 γ π μ) (hI : am_Iv b c μ) : am_T0 (fc_de γ π).1 (fc_de γ π).2 (fr_fg μ) ∧ am_Iv b c (fr_fg μ) := am_it25 (R := fun _ (z : am_I × am_P) μ => am_T0 z.1 z.2 μ ∧ am_Iv b c μ) (f := fc_de_x) (g := fr_fg_b) (s := (γ, π)) (fun q hq n hn s t hR => s_de_x hR.1 hR.2 hq hn) ⟨h, hI⟩
theorem isl_nI {γ : am_I} {q n : Nat} (hq : q < 5) (hn : n < 5) : fc_isl γ (nI q) (nI n) = if γ 700 (7 + 14 * q + 2 * n) 0 = 0 then 0 else 1 := by
  unfold fc_isl
  rw [fr_rtr_nI hq, fr_rtr_nI hn, if_neg one_ne, if_neg one_ne, nI_clamp (by omega), nI_clamp (by omega)]
theorem T0_ls {γ : am_I} {π : am_P} {μ : am_I} (h : am_T0 γ π μ) {r n : Nat} (hr : r < 5) (hn : n < 5) (hc : ¬ am_rd μ 1 (5 * r + n) = 0) (v : Int32) : am_T0 (am_u γ 701 (7 + 14 * r + 2 * n) 0 v) π (am_wr μ 2 (5 * r + n) v) := by
  refine T0_e1 h hr hn (fun f a i q1 q2 q3 q4 q5 => u_ne (by omega)) (fun _ _ _ _ => rfl) (fun k x q1 q2 q3 q4 => rd_ne (by omega)) (am_ck_wr _ _ _ _) (fun i hi => ?_) ?_
  · rw [am_u_ne (by decide), rd_nk (by decide)]; exact h.2.1 i hi
  · obtain ⟨b1, b2, b3, b4, b5, b6, b7, b8⟩ := h.2.2.2.1 r hr n hn
    refine ⟨?_, ?_, ?_, ?_, fun q => ?_, fun q => ?_, fun q => ?_, fun x hx => ?_⟩
    · rw [am_u_ne (by decide), rd_nk (by decide)]; exact b1
    · rw [am_u_ne (by decide), rd_nk (by decide)]; exact b2
    · rw [am_u_ne (by decide), rd_nk (by decide)]; exact b3
    · rw [am_u_ne (by decide), rd_nk (by decide)]; exact b4
    · rw [rd_nk (by decide)] at q; exact absurd q hc
    · rw [am_u_at, rd_at]
    · rw [rd_nk (by decide)] at q
      rw [am_u_ne (by decide), rd_nk (by decide)]; exact b7 q
    · rw [am_u_ne (by decide), rd_nk (by decide), rd_nk (by decide)]; exact b8 x hx
theorem s_arr {b c : Nat} {γ : am_I} {π : am_P} {μ : am_I} (h : am_T0 γ π μ) (hI : am_Iv b c μ) {q n : Nat} (hq : q < 5) (hn : n < 5) (hc : ¬ am_rd μ 1 (5 * q + n) = 0) : am_T0 (fc_arr γ q n).1 π (fr_ov1 μ q n).1 ∧ (fc_arr γ q n).2 = (fr_ov1 μ q n).2 := by
  have e := (h.2.2.2.1 q hq n hn).2.2.2.2.2.1 hc
  have hnn := am_lb.nn (hI.1.2.2.1 (5 * q + n)) (by decide)
  unfold fc_arr fr_ov1
  rw [e]
  by_cases p : 0 < am_rd μ 2 (5 * q + n)
  · rw [if_pos p, if_pos p]
    refine ⟨?_, rfl⟩
    dsimp only
    have h1 := T0_ls h hq hn hc (am_rd μ 2 (5 * q + n) - 1)
    unfold fr_ov4
    rw [if_neg one_ne]
    exact T0_ct h1 4 1
  rw [if_neg p, if_neg p]
  have h0 : am_rd μ 2 (5 * q + n) = 0 := Decidable.byContradiction (fun w => p ((lt_ne hnn).mpr w))
  rw [wr_self h0]
  rcases (h.2.2.1 n hn).1 with ⟨o1, o2⟩ | ⟨o1, o2⟩
  · rw [if_pos o2, o1, if_neg one_ne]
    refine ⟨?_, rfl⟩
    dsimp only
    unfold fr_ov4
    rw [if_pos rfl, wr_self rfl]
    exact h
  · rw [if_pos o1, o2, if_neg one_ne]
    refine ⟨?_, rfl⟩
    dsimp only
    unfold fr_ov4
    rw [if_neg one_ne]
    exact T0_ct h 4 1
theorem arr_g {γ : am_I} {q n f a i : Nat} (h1 : ¬ f = 701) (h2 : ¬ f = 1800) : (fc_arr γ q n).1 f a i = γ f a i := by
  unfold fc_arr fc_ct
  split
  · dsimp only
    rw [am_u_ne h2, am_u_ne h1]
  · split
    · dsimp only
      rw [am_u_ne h2]
    · rfl
theorem ov1_rd {μ : am_I} {q n k y : Nat} (h1 : ¬ k = 2) (h2 : ¬ k = 9) : am_rd (fr_ov1 μ q n).1 k y = am_rd μ k y := by
  unfold fr_ov1
  by_cases p : 0 < am_rd μ 2 (5 * q + n)
  · rw [if_pos p]
    dsimp only
    unfold fr_ov4
    rw [rd_nk h2, rd_nk h1]
  rw [if_neg p]
  by_cases o : am_rd μ 0 n = 0
  · rw [if_pos o]
    dsimp only
    unfold fr_ov4
    rw [rd_nk h2, rd_nk h1]
  · rw [if_neg o]
    dsimp only
    unfold fr_ov4
    rw [rd_nk h2, rd_nk h1]
theorem ov1_ck {μ : am_I} {q n : Nat} : am_ck (fr_ov1 μ q n).1 = am_ck μ := by
  unfold fr_ov1
  by_cases p : 0 < am_rd μ 2 (5 * q + n)
  · rw [if_pos p]
    dsimp only
    unfold fr_ov4
    rw [am_ck_wr, am_ck_wr]
  rw [if_neg p]
  by_cases o : am_rd μ 0 n = 0
  · rw [if_pos o]
    dsimp only
    unfold fr_ov4
    rw [am_ck_wr, am_ck_wr]
  · rw [if_neg o]
    dsimp only
    unfold fr_ov4
    rw [am_ck_wr, am_ck_wr]
def tH (γ μ : am_I) : Prop := ∀ r, r < 5 → ∀ n, n < 5 → γ 703 (7 + 14 * r + 2 * n) 0 = am_rd μ 8 (5 * r + n)
theorem s_sh2 {γ : am_I} {π : am_P} {μ : am_I} (h : am_T0 γ π μ) (hH : tH γ μ) {q n : Nat} (hq : q < 5) (hn : n < 5) : am_T0 (fc_sh2 (am_u γ 702 (7 + 14 * n + 2 * q) 0 1) q n) π (fr_he2 μ (5 * n + q) (5 * q + n)) := by
  unfold fc_sh2 fc_sh3 fr_he2 fr_he3 fr_he4
  refine T0_e1 h hn hq (fun f a i q1 q2 q3 q4 q5 => ?_) (fun _ _ _ _ => rfl) (fun k x q1 q2 q3 q4 => ?_) ?_ (fun i hi => ?_) ?_
  · rw [u_ne (by omega), u_ne (by omega), u_ne (by omega)]
  · rw [rd_ne (by omega), rd_ne (by omega), rd_ne (by omega)]
  · rw [am_ck_wr, am_ck_wr, am_ck_wr]
  · rw [am_u_ne (by decide), am_u_ne (by decide), am_u_ne (by decide), rd_nk (by decide), rd_nk (by decide), rd_nk (by decide)]; exact h.2.1 i hi
  · obtain ⟨b1, b2, b3, b4, b5, b6, b7, b8⟩ := h.2.2.2.1 n hn q hq
    refine ⟨?_, ?_, ?_, ?_, fun w => ?_, fun w => ?_, fun w => ?_, fun x hx => ?_⟩
    · rw [am_u_ne (by decide), am_u_ne (by decide), am_u_ne (by decide), rd_nk (by decide), rd_nk (by decide), rd_nk (by decide)]; exact b1
    · rw [am_u_ne (by decide), am_u_ne (by decide), am_u_at, rd_nk (by decide), rd_nk (by decide), rd_at]
    · rw [am_u_at, am_u_ne (by decide), am_u_ne (by decide), rd_at, rd_nk (by decide), rd_nk (by decide)]
      exact hH q hq n hn
    · rw [am_u_ne (by decide), am_u_ne (by decide), am_u_ne (by decide), rd_nk (by decide), rd_nk (by decide), rd_nk (by decide)]; exact b4
    · rw [rd_nk (by decide), rd_nk (by decide), rd_nk (by decide)] at w
      rw [am_u_ne (by decide), am_u_ne (by decide), am_u_ne (by decide)]; exact b5 w
    · rw [rd_nk (by decide), rd_nk (by decide), rd_nk (by decide)] at w
      rw [am_u_ne (by decide), am_u_ne (by decide), am_u_ne (by decide), rd_nk (by decide), rd_nk (by decide), rd_nk (by decide)]; exact b6 w
    · rw [am_u_ne (by decide), am_u_at, am_u_ne (by decide), rd_nk (by decide), rd_at, am_ck_wr]
      exact h.1
    · rw [am_u_ne (by decide), am_u_ne (by decide), am_u_ne (by decide), rd_nk (by decide), rd_nk (by decide), rd_nk (by decide), rd_nk (by decide), rd_nk (by decide), rd_nk (by decide)]; exact b8 x hx
theorem Iv_he2 {b c : Nat} {μ : am_I} (h : am_Iv b c μ) {i k : Nat} (hc : ¬ am_rd μ 1 i = 0) : am_Iv b c (fr_he2 μ i k) := by
  unfold fr_he2 fr_he3 fr_he4
  refine ⟨((h.1.f (by decide)).f (by decide)).f (by decide), fun y hy => ?_, ((h.2.2.f (by decide)).f (by decide)).f (by decide)⟩
  obtain ⟨g1, g2, g3⟩ := h.2.1 y hy
  have e1 : ∀ v w u, am_rd (am_wr (am_wr (am_wr μ 3 i v) 4 i w) 5 i u) 1 y = am_rd μ 1 y := fun v w u => by rw [rd_nk (by decide), rd_nk (by decide), rd_nk (by decide)]
  have e6 : ∀ v w u, am_rd (am_wr (am_wr (am_wr μ 3 i v) 4 i w) 5 i u) 6 y = am_rd μ 6 y := fun v w u => by rw [rd_nk (by decide), rd_nk (by decide), rd_nk (by decide)]
  rw [e1, e6]
  by_cases e : y = i
  · subst e
    refine ⟨fun _ => hc, fun _ => ?_, g3⟩
    rw [rd_nk (by decide), rd_nk (by decide), rd_at]
    exact one_ne
  · refine ⟨fun w => ?_, fun w => ?_, g3⟩
    · rw [rd_nk (by decide), rd_nk (by decide), rd_ne (by omega)] at w
      exact g1 w
    · rw [rd_ne (by omega), rd_nk (by decide), rd_nk (by decide)] at w
      rw [rd_nk (by decide), rd_nk (by decide), rd_ne (by omega)]
      exact g2 w
theorem s_eh_n {b c : Nat} {γ : am_I} {π : am_P} {μ : am_I} (h : am_T0 γ π μ) (hI : am_Iv b c μ) (hH : tH γ μ) {q n : Nat} (hq : q < 5) (hn : n < 5) : am_T0 (fc_eh_n q n γ) π (fr_he_b (5 * q + n) μ) ∧ am_Iv b c (fr_he_b (5 * q + n) μ) ∧ tH (fc_eh_n q n γ) (fr_he_b (5 * q + n) μ) := by
  have k1 : (5 * q + n) / 5 = q := by omega
  have k2 : (5 * q + n) % 5 = n := by omega
  have b1 := (h.2.2.2.1 q hq n hn).1
  have hcn := am_lb.nn (hI.1.2.1 (5 * q + n)) (by decide)
  have z0 : (0 : Int32) = 0 := rfl
  unfold fc_eh_n fr_he_b
  rw [k1, k2, isl_nI hq hn, b1]
  by_cases hc : am_rd μ 1 (5 * q + n) = 0
  · rw [if_neg (fun w => (lt_ne hcn).mp w hc), if_pos hc, if_pos z0, ite_self]
    exact ⟨h, hI, hH⟩
  rw [if_pos ((lt_ne hcn).mpr hc), if_neg hc, if_neg one_ne]
  rcases (h.2.2.1 q hq).1 with ⟨o1, o2⟩ | ⟨o1, o2⟩
  · rw [o1, if_neg one_ne, if_pos o2]
    have h1 := T0_ct h 0 1
    have hI1 : am_Iv b c (am_wr μ 9 0 (am_rd μ 9 0 + 1)) := hI.f (by decide) (by decide) (by decide)
    have hc1 : ¬ am_rd (am_wr μ 9 0 (am_rd μ 9 0 + 1)) 1 (5 * q + n) = 0 := by rw [rd_nk (by decide)]; exact hc
    obtain ⟨h2, e2⟩ := s_arr h1 hI1 hq hn hc1
    have hI2 := Iv_ov1 hI1 q n
    have gg : ∀ a i, (fc_arr (fc_ct γ 0 1) q n).1 703 a i = γ 703 a i := fun a i => by
      rw [arr_g (by decide) (by decide)]
      exact am_u_ne (by decide)
    have mm : ∀ k y, ¬ k = 2 → ¬ k = 9 → am_rd (fr_ov1 (am_wr μ 9 0 (am_rd μ 9 0 + 1)) q n).1 k y = am_rd μ k y := fun k y p1 p2 => by rw [ov1_rd p1 p2, rd_nk p2]
    unfold fc_sh fc_sh1 fr_he1 fr_over
    generalize fc_arr (fc_ct γ 0 1) q n = A at h2 e2 gg ⊢
    generalize fr_ov1 (am_wr μ 9 0 (am_rd μ 9 0 + 1)) q n = B at h2 e2 hI2 mm ⊢
    have hH2 : tH A.1 B.1 := fun r hr m hm => by rw [gg, mm _ _ (by decide) (by decide)]; exact hH r hr m hm
    rw [e2]
    by_cases w : B.2 = 0
    · rw [if_pos w, if_pos w]
      exact ⟨h2, hI2, hH2⟩
    rw [if_neg w, if_neg w]
    refine ⟨s_sh2 h2 hH2 hq hn, Iv_he2 hI2 ?_, fun r hr m hm => ?_⟩
    · rw [mm _ _ (by decide) (by decide), hI.1.2.2.2.2.2.2.1 n hn q hq]
      exact hc
    · unfold fc_sh2 fc_sh3 fr_he2 fr_he3 fr_he4
      rw [am_u_ne (by decide), am_u_ne (by decide), am_u_ne (by decide), rd_nk (by decide), rd_nk (by decide), rd_nk (by decide)]
      exact hH2 r hr m hm
  · rw [if_pos o1, o2, if_neg one_ne]
    exact ⟨h, hI, hH⟩
theorem s_eh {b c : Nat} {γ : am_I} {π : am_P} {μ : am_I} (h : am_T0 γ π μ) (hI : am_Iv b c μ) : am_T0 (fc_eh γ) π (fr_he μ) ∧ am_Iv b c (fr_he μ) := by
  have g : am_T0 (am_it fc_nhr 5 γ) π (am_it fr_he_s 25 μ) ∧ am_Iv b c (am_it fr_he_s 25 μ) ∧ ∀ r, r < 5 → ∀ n, n < 5 → 5 * r + n < 25 → (am_it fc_nhr 5 γ) 703 (7 + 14 * r + 2 * n) 0 = am_rd (am_it fr_he_s 25 μ) 8 (5 * r + n) := by
    refine am_it25 (R := fun i γ μ => am_T0 γ π μ ∧ am_Iv b c μ ∧ ∀ r, r < 5 → ∀ n, n < 5 → 5 * r + n < i → γ 703 (7 + 14 * r + 2 * n) 0 = am_rd μ 8 (5 * r + n)) (f := fc_nh_b) (g := fr_he_s) (fun q hq n hn s t hR => ?_) ⟨h, hI, fun r _ n _ w => absurd w (Nat.not_lt_zero _)⟩
    obtain ⟨r1, r2, r3⟩ := hR
    unfold fc_nh_b fr_he_s
    refine ⟨T0_fr r1 (fun f a i q1 q2 q3 => am_u_ne q1) (fun _ _ _ _ => rfl) (fun k y q1 q2 q3 => rd_nk q2) (am_ck_wr _ _ _ _), r2.f (by decide) (by decide) (by decide), fun r hr m hm w => ?_⟩
    by_cases e : r = q ∧ m = n
    · obtain ⟨rfl, rfl⟩ := e
      rw [am_u_at, rd_at]
      exact (r1.2.2.2.1 r hr m hm).2.1
    · rw [u_ne (by omega), rd_ne (by omega)]
      exact r3 r hr m hm (by omega)
  unfold fc_eh fr_he
  generalize am_it fc_nhr 5 γ = γ1 at g ⊢
  generalize am_it fr_he_s 25 μ = μ1 at g ⊢
  obtain ⟨g1, g2, g3⟩ := g
  have k := am_it25 (R := fun _ γ μ => am_T0 γ π μ ∧ am_Iv b c μ ∧ tH γ μ) (f := fc_eh_n) (g := fr_he_b) (s := γ1) (t := μ1) (fun q hq n hn s t hR => s_eh_n hR.1 hR.2.1 hR.2.2 hq hn) ⟨g1, g2, fun r hr n hn => g3 r hr n hn (by omega)⟩
  exact ⟨k.1, k.2.1⟩

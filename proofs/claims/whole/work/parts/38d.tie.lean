theorem Iv_c {b c : Nat} {μ : am_I} (h : am_Iv b c μ) : iv_c μ := fun k _ => am_lb.nn (h.1.2.1 k) (by decide)
theorem nI_one {k : Nat} (h : k < 2 ^ 30) : nI (k + 1) = 1 ↔ k = 0 := by
  constructor
  · intro q
    have z := congrArg Int32.toInt q
    rw [nI_toInt (by omega), show (1 : Int32).toInt = 1 from by decide] at z
    omega
  · intro q
    rw [q]; rfl
theorem nI_inj5 {a b : Nat} (ha : a < 5) (hb : b < 5) (h : nI a = nI b) : a = b := by
  have z := congrArg Int32.toInt h
  rw [nI_toInt (by omega), nI_toInt (by omega)] at z
  omega
theorem s_sd {b c : Nat} {π : am_P} {y : Int32} (hy : ¬ fc_adr y = 0) : ∀ k m γ μ u, 0 < k → k ≤ m → k ≤ 15 → u < 5 → am_T0 γ π μ → am_Iv b c μ → am_rd μ 0 u = 0 → (am_T0 (fc_sd π y k γ u).1 π (fr_sd y m μ u (nI k)).1 ∧ am_Iv b c (fr_sd y m μ u (nI k)).1) ∧ (fc_sd π y k γ u).2 = (fr_sd y m μ u (nI k)).2 := by
  intro k
  induction k with
  | zero => intro m γ μ u h0; omega
  | succ k ih =>
    intro m γ μ u _ hm hk hu h hI ho
    obtain ⟨m, rfl⟩ : ∃ m', m = m' + 1 := ⟨m - 1, by omega⟩
    have W := s_wo h hI hu
    have T1 := wo_T0 h W
    have I1 := ms_Iv hI u
    have hD := s_ds T1 hu W y
    have hA := rt_ans (μ := fr_ms μ u) (r := u) y
    have hR := fr_rt_eq hu ho hy
    have T2 : am_T0 γ π (fr_ms μ u) := T0_fr h (fun _ _ _ _ _ _ => rfl) (fun _ _ _ _ => rfl) (fun k y q1 q2 q3 => W.2.1 k y (by omega)) W.2.2.1
    have W2 := s_wo T2 I1 hu
    have o1 : am_rd (fr_ms μ u) 0 u = 0 := by rw [W.2.1 _ _ (by decide)]; exact ho
    unfold fc_sd fr_sd
    rw [hR, hD]
    generalize (am_it (fr_rt_k (fr_ms μ u) u y) 10 (-1, -1, 0)).1 = D at hA ⊢
    dsimp only
    obtain ⟨d, hA⟩ := hA
    rcases hA with rfl | ⟨hd, rfl⟩
    · rw [if_pos rfl, if_pos (show (-1 : Int32) < 0 from by decide)]
      generalize fc_wo γ π u = κ at T1 ⊢
      generalize fr_ms μ u = ν at T1 I1 ⊢
      exact ⟨⟨T1, I1⟩, rfl⟩
    have n0 : ¬ nI d < 0 := am_lb.nn ⟨d, Nat.le_refl d, rfl⟩ (by omega)
    have n1 : ¬ nI d = -1 := (nn_ne n0).2
    rw [if_neg n0, if_neg n1]
    by_cases du : nI d = nI u
    · rw [if_pos du, if_pos du]
      generalize fc_wo γ π u = κ at T1 ⊢
      generalize fr_ms μ u = ν at T1 I1 ⊢
      exact ⟨⟨T1, I1⟩, rfl⟩
    rw [if_neg du, if_neg du, nI_clamp (by omega)]
    have nud : ¬ u = d := fun e => du (by rw [e])
    by_cases k0 : k = 0
    · subst k0
      rw [if_neg (show ¬ 1 < 0 + 1 from by omega), if_pos ((nI_one (by omega)).mpr rfl)]
      generalize fc_wo γ π u = κ at T1 ⊢
      generalize fr_ms μ u = ν at T1 I1 ⊢
      exact ⟨⟨T1, I1⟩, rfl⟩
    rw [if_pos (show 1 < k + 1 from by omega), if_neg (fun q => k0 ((nI_one (by omega)).mp q))]
    have hH : fr_hop (fr_ms μ u) (nI u) (nI d) = (fr_ms (fr_ms μ u) u, am_it (fr_hp_n (fr_ms (fr_ms μ u) u) u d) 5 (-1)) := by
      unfold fr_hop
      rw [fr_rtr_nI hu, fr_rtr_nI hd, if_neg one_ne, if_neg one_ne, nI_clamp (by omega), nI_clamp (by omega), if_pos o1, if_neg nud]
    rw [hH, s_fh I1 hu hd W2 nud]
    have T3 := wo_T0 T2 W2
    have I3 := ms_Iv I1 u
    generalize am_it (fr_hp_n (fr_ms (fr_ms μ u) u) u d) 5 (-1) = N
    generalize fr_ms (fr_ms μ u) u = ν at T3 I3 ⊢
    generalize fc_wo γ π u = κ at T3 ⊢
    dsimp only
    rw [s_lnk T3 (Iv_c I3)]
    by_cases l0 : fr_lnk ν (nI u) N = 0
    · rw [if_pos l0, if_pos l0]
      exact ⟨⟨T3, I3⟩, rfl⟩
    rw [if_neg l0, if_neg l0]
    obtain ⟨p, n, hp, hn, -, rfl, -⟩ := fr_lnk_of l0
    have io := s_ison T3 hn
    rw [nI_clamp (by omega)]
    have et : nI (k + 1) - 1 = nI k := nI_sub (a := k + 1) (b := 1) (by omega)
    by_cases on : am_rd ν 0 n = 0
    · rw [if_neg (fun q => io.mp q on), if_pos on, et]
      exact ih m κ ν n (by omega) (by omega) (by omega) hn T3 I3 on
    · rw [if_pos (io.mpr on), if_neg on]
      exact ⟨⟨T3, I3⟩, rfl⟩
theorem s_send {b c : Nat} {γ : am_I} {π : am_P} {μ : am_I} (h : am_T0 γ π μ) (hI : am_Iv b c μ) (x y z : Int32) : (am_T0 (fc_send γ π x y z).1 π (fr_send μ x y z).1 ∧ am_Iv b c (fr_send μ x y z).1) ∧ (fc_send γ π x y z).2 = (fr_send μ x y z).2 := by
  unfold fc_send fr_send
  by_cases c1 : fr_rtr x = 0
  · have z : fc_ison γ x = 0 := by unfold fc_ison; rw [if_pos c1]
    rw [if_pos z, if_pos c1]; exact ⟨⟨h, hI⟩, rfl⟩
  rw [if_neg c1]
  obtain ⟨r, hr, rfl⟩ := fr_rtr_of c1
  have io := s_ison h hr
  rw [nI_clamp (by omega)]
  by_cases c3 : am_rd μ 0 r = 0
  · rw [if_neg (fun q => io.mp q c3), if_pos c3]
    by_cases c4 : y < 0
    · rw [if_pos (s_adr.mpr (Or.inl c4)), if_pos c4]; exact ⟨⟨h, hI⟩, rfl⟩
    by_cases c5 : 255 < y
    · rw [if_pos (s_adr.mpr (Or.inr c5)), if_neg c4, if_pos c5]; exact ⟨⟨h, hI⟩, rfl⟩
    have hy : ¬ fc_adr y = 0 := fun q => by rcases s_adr.mp q with q | q; exact c4 q; exact c5 q
    rw [if_neg hy, if_neg c4, if_neg c5]
    by_cases c6 : z < 1
    · rw [if_pos c6, if_pos c6]; exact ⟨⟨h, hI⟩, rfl⟩
    rw [if_neg c6, if_neg c6]
    by_cases c7 : 15 < z
    · rw [if_pos c7, if_pos c7]; exact ⟨⟨h, hI⟩, rfl⟩
    rw [if_neg c7, if_neg c7]
    obtain ⟨k, hk, rfl⟩ := nI_of2 (M := 15) (n := 15) (by decide) (fun q => c6 (Int32.lt_trans q (by decide))) (Int32.not_lt.mp c7)
    rw [nI_clamp (by omega)]
    have k0 : 0 < k := by
      refine Nat.pos_of_ne_zero (fun e => c6 ?_)
      subst e
      decide
    exact s_sd hy k 16 γ μ r k0 (by omega) (by omega) hr h hI c3
  · rw [if_pos (io.mpr c3), if_neg c3]
    exact ⟨⟨h, hI⟩, rfl⟩

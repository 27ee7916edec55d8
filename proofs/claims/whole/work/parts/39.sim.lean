def am_RR : am_RT := fun n K γ π μ => am_Wf K γ π ∧ K.1 ≤ 187 + 60 * n ∧ K.2.1 ≤ 6000 + 240 * n ∧ fr_BB μ ∧ am_T0 γ π μ ∧ ∃ c, c ≤ 4 * n ∧ am_Iv c c μ
theorem in_Iv : am_Iv 0 0 am_u3 := by
  have z : ∀ k x, am_rd am_u3 k x = 0 := in_rd
  refine ⟨⟨in_u _ _ _, fun x => ?_, fun x => ?_, fun x => ?_, fun x => ?_, fun x => ?_, fun r _ n _ => ?_, fun r _ => z _ _, fun r _ => z _ _⟩, fun k _ => ⟨fun w => absurd (z _ _) w, fun w => absurd (z _ _) w, fun w => absurd (z _ _) w⟩, fun r _ n _ x _ w => absurd (z _ _) w⟩
  · rw [z]; exact am_lb.z _
  · rw [z]; exact am_lb.z _
  · rw [z]; exact am_lb.z _
  · rw [z]; exact am_lb.z _
  · rw [z]; exact am_lb.z _
  · rw [z, z]
theorem RR_q {n : Nat} {K : am_K} {γ : am_I} {π : am_P} {μ : am_I} (h : am_RR n K γ π μ) : am_RR (n + 1) K γ π μ := by
  obtain ⟨h1, h2, h3, h4, h5, c, hc, h6⟩ := h
  exact ⟨h1, by omega, by omega, h4, h5, c, by omega, h6⟩
theorem RR_w {n : Nat} {K : am_K} {γ γ' : am_I} {π : am_P} {μ μ' : am_I} (h : am_RR n K γ π μ) (hW : am_Wf K γ' π) (hB : fr_BB μ') (hT : ∀ c, am_Iv c c μ → am_T0 γ' π μ' ∧ am_Iv c c μ') : am_RR (n + 1) K γ' π μ' := by
  obtain ⟨h1, h2, h3, h4, h5, c, hc, h6⟩ := h
  exact ⟨hW, by omega, by omega, hB, (hT c h6).1, c, by omega, (hT c h6).2⟩
theorem RR_pass {n : Nat} {K : am_K} {γ : am_I} {π : am_P} {μ : am_I} (x : Int32) (hn : n < 512) (h : am_RR n K γ π μ) : am_RR (n + 1) (fc_pass (K, γ, π) x).1.1 (fc_pass (K, γ, π) x).1.2.1 (fc_pass (K, γ, π) x).1.2.2 (fr_pass μ x).1 ∧ (fc_pass (K, γ, π) x).2 = (fr_pass μ x).2 := by
  have h0 := RR_q h
  obtain ⟨h1, h2, h3, h4, h5, c, hc, h6⟩ := h
  unfold fc_pass fr_pass
  by_cases c1 : x < 1
  · rw [if_pos c1, if_pos c1]; exact ⟨h0, rfl⟩
  rw [if_neg c1, if_neg c1]
  by_cases c2 : 4 < x
  · rw [if_pos c2, if_pos c2]; exact ⟨h0, rfl⟩
  rw [if_neg c2, if_neg c2]
  refine ⟨?_, rfl⟩
  dsimp only
  obtain ⟨m, hm, rfl⟩ := nI_of2 (M := 4) (n := 4) (by decide) (fun q => c1 (Int32.lt_trans q (by decide))) (Int32.not_lt.mp c2)
  rw [nI_clamp (by omega)]
  have k := am_it2 (R := fun i (z : am_K × am_I × am_P) ν => i ≤ m → am_Bd (187 + 60 * n + 15 * i) (6000 + 240 * n + 60 * i) z ∧ fr_BB ν ∧ am_T0 z.2.1 z.2.2 ν ∧ am_Iv (c + i) (c + i) ν) (f := fc_tick) (g := fr_tick) (n := m) (s := (K, γ, π)) (t := μ) (fun i hi z ν hR => ?step) (fun _ => ⟨am_Bd.mk h1 (by omega) (by omega), h4, h5, h6⟩)
  case step =>
    intro hi'
    obtain ⟨r1, r2, r3, r4⟩ := hR (by omega)
    have t := s_tick r3 r4 r1.1 (by omega) (by omega) i
    have w := wf_tick r1 i
    rw [show 187 + 60 * n + 15 * i + 15 = 187 + 60 * n + 15 * (i + 1) from by omega, show 6000 + 240 * n + 60 * i + 60 = 6000 + 240 * n + 60 * (i + 1) from by omega] at w
    exact ⟨w, fr_tick_BB r2 i, t.1, t.2⟩
  obtain ⟨⟨b1, b2, b3⟩, k2, k3, k4⟩ := k (Nat.le_refl m)
  exact ⟨b1, by omega, by omega, k2, k3, c + m, by omega, k4⟩
theorem wf_dst {K : am_K} {γ : am_I} {π : am_P} (h : am_Wf K γ π) (x y : Int32) : am_Wf K (fc_dst γ π x y).1 π := by
  unfold fc_dst
  by_cases c1 : fc_ison γ x = 0
  · rw [if_pos c1]; exact h
  rw [if_neg c1]
  by_cases c2 : fr_rtr y = 0
  · rw [if_pos c2]; exact h
  · rw [if_neg c2]; dsimp only; exact wf_wo h _ _
theorem wf_hop {K : am_K} {γ : am_I} {π : am_P} (h : am_Wf K γ π) (x y : Int32) : am_Wf K (fc_hop γ π x y).1 π := by
  unfold fc_hop
  by_cases c1 : fc_ison γ x = 0
  · rw [if_pos c1]; exact h
  rw [if_neg c1]
  by_cases c2 : fr_rtr y = 0
  · rw [if_pos c2]; exact h
  · rw [if_neg c2]; dsimp only; exact wf_wo h _ _
theorem wf_rt {K : am_K} {γ : am_I} {π : am_P} (h : am_Wf K γ π) (x y : Int32) : am_Wf K (fc_rt γ π x y).1 π := by
  unfold fc_rt
  by_cases c1 : fc_ison γ x = 0
  · rw [if_pos c1]; exact h
  rw [if_neg c1]
  by_cases c2 : fc_adr y = 0
  · rw [if_pos c2]; exact h
  · rw [if_neg c2]; dsimp only; exact wf_wo h _ _
theorem wf_sd {K : am_K} {π : am_P} {y : Int32} : ∀ k γ u, am_Wf K γ π → am_Wf K (fc_sd π y k γ u).1 π := by
  intro k
  induction k with
  | zero => intro γ u h; exact h
  | succ k ih =>
    intro γ u h
    unfold fc_sd
    have h1 := wf_wo h π u
    generalize fc_wo γ π u = κ at h1 ⊢
    generalize fc_ds κ π u y = D
    generalize fc_fhop κ u D.toNatClampNeg = N
    by_cases c1 : D = -1
    · rw [if_pos c1]; exact h1
    rw [if_neg c1]
    by_cases c2 : D = nI u
    · rw [if_pos c2]; exact h1
    rw [if_neg c2]
    by_cases c3 : 1 < k + 1
    · rw [if_pos c3]
      by_cases c4 : fc_isl κ (nI u) N = 0
      · rw [if_pos c4]; exact h1
      rw [if_neg c4]
      by_cases c5 : fc_ison κ N = 0
      · rw [if_pos c5]; exact h1
      · rw [if_neg c5]; exact ih _ _ h1
    · rw [if_neg c3]; exact ih _ _ h1
theorem wf_send {K : am_K} {γ : am_I} {π : am_P} (h : am_Wf K γ π) (x y z : Int32) : am_Wf K (fc_send γ π x y z).1 π := by
  unfold fc_send
  by_cases c1 : fc_ison γ x = 0
  · rw [if_pos c1]; exact h
  rw [if_neg c1]
  by_cases c2 : fc_adr y = 0
  · rw [if_pos c2]; exact h
  rw [if_neg c2]
  by_cases c3 : z < 1
  · rw [if_pos c3]; exact h
  rw [if_neg c3]
  by_cases c4 : 15 < z
  · rw [if_pos c4]; exact h
  rw [if_neg c4]
  exact wf_sd _ _ _ h
theorem am_sim : am_Sim am_RR := by
  refine ⟨⟨in_Wf, by rw [in_k3.1]; omega, Nat.le_trans in_k3.2 (by omega), in_BB, in_T0, 0, Nat.le_refl _, in_Iv⟩, fun n K γ π μ hn h => ⟨h.1, h.2.1, h.2.2.1, h.2.2.2.1⟩, ?_, ?_, ?_, ?_, ?_, ?_, ?_, ?_, ?_, ?_, ?_, ?_, ?_, ?_, ?_⟩
  · intro n K γ π μ x y z hn h
    obtain ⟨c, hc, hI⟩ := h.2.2.2.2.2
    exact ⟨RR_w h (wf_link h.1 x y z) (BB_link h.2.2.2.1 x y z) (fun c hI => (s_link h.2.2.2.2.1 hI x y z).1), (s_link h.2.2.2.2.1 hI x y z).2⟩
  · intro n K γ π μ x s v l z hn h
    obtain ⟨h1, h2, h3, h4, h5, c, hc, hI⟩ := h
    have k := s_stub h5 hI h1 x s v l z
    have w := wf_stub h1 x s v l z
    exact ⟨⟨w.1, by omega, by omega, BB_stub h4 x s v l z, k.1.1, c, by omega, k.1.2⟩, k.2⟩
  · intro n K γ π μ x y ho hn h
    obtain ⟨h1, h2, h3, h4, h5, c, hc, hI⟩ := h
    have k := s_power h5 hI x y ho
    exact ⟨⟨wf_power h1 x y, by omega, by omega, BB_power h4 x y, k.1.1, c, by omega, k.1.2⟩, k.2⟩
  · intro n K γ π μ x y z hn h
    obtain ⟨c, hc, hI⟩ := h.2.2.2.2.2
    exact ⟨RR_w h (wf_lose h.1 x y z) (BB_lose h.2.2.2.1 x y z) (fun c hI => ⟨(s_lose h.2.2.2.2.1 (Iv_c hI) x y z).1, Iv_lose hI x y z⟩), (s_lose h.2.2.2.2.1 (Iv_c hI) x y z).2⟩
  · intro n K γ π μ x hn h
    exact RR_pass x hn h
  · intro n K γ π μ x y hn h
    obtain ⟨c, hc, hI⟩ := h.2.2.2.2.2
    exact ⟨RR_q h, s_nei h.2.2.2.2.1 (Iv_c hI) x y⟩
  · intro n K γ π μ x y hn h
    exact ⟨RR_q h, s_num h.2.2.2.2.1 x y⟩
  · intro n K γ π μ x y hn h
    exact ⟨RR_q h, s_age h.2.2.2.2.1 x y⟩
  · intro n K γ π μ x y z hn h
    exact ⟨RR_q h, s_lis h.2.2.2.2.1 x y z⟩
  · intro n K γ π μ x y hn h
    obtain ⟨c, hc, hI⟩ := h.2.2.2.2.2
    exact ⟨RR_q h, s_owd h.2.2.2.2.1 (Iv_c hI) x y⟩
  · intro n K γ π μ x y hn h
    obtain ⟨c, hc, hI⟩ := h.2.2.2.2.2
    exact ⟨RR_w h (wf_dst h.1 x y) (BB_dst h.2.2.2.1 x y) (fun c hI => (s_dst h.2.2.2.2.1 hI x y).1), (s_dst h.2.2.2.2.1 hI x y).2⟩
  · intro n K γ π μ x y hn h
    obtain ⟨c, hc, hI⟩ := h.2.2.2.2.2
    exact ⟨RR_w h (wf_hop h.1 x y) (BB_hop h.2.2.2.1 x y) (fun c hI => (s_hop h.2.2.2.2.1 hI x y).1), (s_hop h.2.2.2.2.1 hI x y).2⟩
  · intro n K γ π μ x y hn h
    obtain ⟨c, hc, hI⟩ := h.2.2.2.2.2
    exact ⟨RR_w h (wf_rt h.1 x y) (BB_rt h.2.2.2.1 x y) (fun c hI => (s_rt h.2.2.2.2.1 hI x y).1), (s_rt h.2.2.2.2.1 hI x y).2⟩
  · intro n K γ π μ x y z hn h
    obtain ⟨c, hc, hI⟩ := h.2.2.2.2.2
    exact ⟨RR_w h (wf_send h.1 x y z) (BB_send h.2.2.2.1 x y z) (fun c hI => (s_send h.2.2.2.2.1 hI x y z).1), (s_send h.2.2.2.2.1 hI x y z).2⟩
  · intro n K γ π μ x hn h
    exact ⟨RR_q h, s_cnt h.2.2.2.2.1 x⟩

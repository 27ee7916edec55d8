theorem zg_le {γ : am_I} {K f a i : Nat} (h : a ≤ K) : am_zg γ (K + 1) f a i = γ f a i := am_zg_ne (by omega)
theorem zp_le {π : am_P} {K f a i : Nat} (h : a ≤ K) : am_zp π (K + 1) f a i = π f a i := am_zp_ne (by omega)
theorem s_mk3 {K : am_K} {γ : am_I} {π : am_P} {μ : am_I} (h : am_T0 γ π μ) (hW : am_Wf K γ π) {r : Nat} (hr : r < 5) (hc : ∀ n, n < 5 → am_rd μ 12 (5 * (55 + r) + n) = fc_cl γ r n) (hpos : 0 < am_rd μ 16 r + 1) : am_T0 (fc_ct (fc_dc_g γ (K.1 + 1) r (am_ck μ)) 5 1) (fc_dc_p π (K.1 + 1) r) (fr_mk3 r μ) := by
  have h187 : 187 ≤ K.1 := hW.1.1.1
  obtain ⟨a1, a2, a3, -, -⟩ := h.2.2.1 r hr
  have h2 : am_T0 (fc_dc1 γ r) π (am_wr μ 16 r (am_rd μ 16 r + 1)) := by
    unfold fc_dc1
    refine T0_rt h hr (fun f a i q => u_ne (by omega)) (fun k y q => rd_ne (by omega)) (am_ck_wr _ _ _ _) ?_ ?_ ?_
    · rw [am_u_ne (by decide), rd_nk (by decide)]; exact a1
    · rw [am_u_at, rd_at, a2]
    · rw [am_u_ne (by decide), rd_nk (by decide)]; exact a3
  have hW2 : am_Wf K (fc_dc1 γ r) π := hW.g (by decide)
  have c2 : ∀ n, fc_cl (fc_dc1 γ r) r n = fc_cl γ r n := fun n => by
    unfold fc_cl fc_dc1
    rw [am_u_ne (by decide), am_u_ne (by decide)]
  have r2 : fc_dc1 γ r 302 (3 + 14 * r) 0 = am_rd (am_wr μ 16 r (am_rd μ 16 r + 1)) 16 r := (h2.2.2.1 r hr).2.1
  have m2 : ∀ k y, ¬ k = 16 → am_rd (am_wr μ 16 r (am_rd μ 16 r + 1)) k y = am_rd μ k y := fun k y q => rd_nk q
  have p2 : 0 < am_rd (am_wr μ 16 r (am_rd μ 16 r + 1)) 16 r := by rw [rd_at]; exact hpos
  have k2 : am_ck (am_wr μ 16 r (am_rd μ 16 r + 1)) = am_ck μ := am_ck_wr _ _ _ _
  unfold fr_mk3 fc_dc_g fc_dc_p fc_dc2
  generalize fc_dc1 γ r = γ2 at h2 hW2 c2 r2 ⊢
  generalize am_wr μ 16 r (am_rd μ 16 r + 1) = μ2 at h2 r2 m2 p2 k2 ⊢
  have z302 : am_zg γ2 (K.1 + 1) 302 (3 + 14 * r) 0 = γ2 302 (3 + 14 * r) 0 := zg_le (by omega)
  rw [z302, r2]
  generalize am_zg γ2 (K.1 + 1) 300 (3 + 14 * r) 0 = o
  have h3 : am_T0 (fc_di1 (am_zg γ2 (K.1 + 1)) (K.1 + 1) r o (am_rd μ2 16 r) (am_ck μ)) (fc_di2 (am_zp π (K.1 + 1)) (K.1 + 1) r) μ2 := by
    refine T0_al h2 hW2 (fun f a i ha => ?_) (fun f a i ha => ?_)
    · rw [di_fr1 _ _ _ _ _ _ _ _ _ (by omega), zg_le ha]
    · rw [di_fr2 _ _ _ _ _ _ (by omega), zp_le ha]
  have d1 := di_at1 (am_zg γ2 (K.1 + 1)) (K.1 + 1) r o (am_rd μ2 16 r) (am_ck μ)
  have d2 : ∀ n, n < 5 → fc_di1 (am_zg γ2 (K.1 + 1)) (K.1 + 1) r o (am_rd μ2 16 r) (am_ck μ) 2000 (K.1 + 1 + 1) n = am_rd μ2 12 (5 * (55 + r) + n) := fun n hn => by
    rw [di_co hr (by omega) hn, m2 _ _ (by decide), hc n hn, ← c2 n]
    unfold fc_cl
    rw [zg_le (by omega), zg_le (by omega)]
  have d3 : ∀ s, s < 2 → fc_di2 (am_zp π (K.1 + 1)) (K.1 + 1) r 2100 (K.1 + 1 + 2) s = fc_di2 (am_zp π (K.1 + 1)) (K.1 + 1) r 400 (4 + 14 * r) s := fun s hs => by
    rw [di_st hr (by omega) hs, di_fr2 _ _ _ _ _ _ (by omega)]
  generalize fc_di1 (am_zg γ2 (K.1 + 1)) (K.1 + 1) r o (am_rd μ2 16 r) (am_ck μ) = γ3 at h3 d1 d2 ⊢
  generalize fc_di2 (am_zp π (K.1 + 1)) (K.1 + 1) r = π3 at h3 d3 ⊢
  generalize K.1 + 1 = a at d1 d2 d3 ⊢
  unfold fr_mk4 fr_mk5
  have k3 : am_ck (am_wr μ2 10 (55 + r) (am_rd μ2 16 r)) = am_ck μ := by rw [am_ck_wr]; exact k2
  rw [k3]
  have h4 : am_T0 γ3 π3 (am_wr (am_wr μ2 10 (55 + r) (am_rd μ2 16 r)) 11 (55 + r) (am_ck μ)) := by
    refine T0_m h3 (fun k y q1 q2 q3 q4 => ?_) ?_
    · rw [rd_ne (by omega), rd_ne (by omega)]
    · rw [am_ck_wr, am_ck_wr]
  have t4 : tD γ3 π3 (some a) (am_wr (am_wr μ2 10 (55 + r) (am_rd μ2 16 r)) 11 (55 + r) (am_ck μ)) (55 + r) := by
    refine Or.inr ⟨a, rfl, ?_, ?_, ?_, fun n hn => ?_, fun s hs => ?_⟩
    · rw [rd_nk (by decide), rd_at]; exact d1.2.1
    · rw [rd_nk (by decide), rd_at]; exact p2
    · rw [rd_at]; exact d1.2.2
    · rw [rd_nk (by decide), rd_nk (by decide)]; exact d2 n hn
    · rw [d3 s hs]
      exact (h4.2.2.1 r hr).2.2.2.2 s hs
  generalize am_wr (am_wr μ2 10 (55 + r) (am_rd μ2 16 r)) 11 (55 + r) (am_ck μ) = μ4 at h4 t4 ⊢
  unfold fr_mk6
  have h5 : am_T0 γ3 (am_u π3 304 (3 + 14 * r) 0 (some a)) (fr_copy μ4 (55 + r) (50 + r)) := by
    refine T0_lt h4 hr (fun f a i q => u_ne (by omega)) (fun k y q1 q2 q3 => cp_ne q1 q2 q3) (cp_ck _ _ _) ?_
    rw [am_u_at]
    exact tD_cg (tD_cp t4 (by omega)) (fun _ _ _ _ _ => rfl) (fun a i => am_u_ne (by decide)) rfl rfl (fun _ _ => rfl) (fun _ _ _ _ _ => rfl)
  have t5 : tD γ3 (am_u π3 304 (3 + 14 * r) 0 (some a)) (some a) (fr_copy μ4 (55 + r) (50 + r)) (55 + r) := tD_cg t4 (fun _ _ _ _ _ => rfl) (fun a i => am_u_ne (by decide)) (cp_ne (by omega) (by omega) (by omega)) (cp_ne (by omega) (by omega) (by omega)) (fun n hn => cp_ne (by omega) (by omega) (by omega)) (fun s hs q q1 q2 => cp_ne (by omega) (by omega) (by omega))
  generalize am_u π3 304 (3 + 14 * r) 0 (some a) = π5 at h5 t5 ⊢
  generalize fr_copy μ4 (55 + r) (50 + r) = μ5 at h5 t5 ⊢
  have h6 : am_T0 (am_u γ3 303 (3 + 14 * r) 0 0) π5 (am_wr μ5 17 r 0) := by
    obtain ⟨x1, x2, x3, -, -⟩ := h5.2.2.1 r hr
    refine T0_rt h5 hr (fun f a i q => u_ne (by omega)) (fun k y q => rd_ne (by omega)) (am_ck_wr _ _ _ _) ?_ ?_ ?_
    · rw [am_u_ne (by decide), rd_nk (by decide)]; exact x1
    · rw [am_u_ne (by decide), rd_nk (by decide)]; exact x2
    · rw [am_u_at, rd_at]
  have t6 : tD (am_u γ3 303 (3 + 14 * r) 0 0) π5 (some a) (am_wr μ5 17 r 0) (55 + r) := tD_cg t5 (fun f a i f1 f2 => u_ne (by omega)) (fun a i => rfl) (rd_nk (by decide)) (rd_nk (by decide)) (fun n hn => rd_nk (by decide)) (fun s hs q q1 q2 => rd_nk (by omega))
  generalize am_u γ3 303 (3 + 14 * r) 0 0 = γ6 at h6 t6 ⊢
  generalize am_wr μ5 17 r 0 = μ6 at h6 t6 ⊢
  unfold fr_mk7
  rw [ct_in]
  refine s_inst (T0_ct h6 5 1) r hr hr (by omega) (tD_cg t6 (fun f a i f1 f2 => u_ne (by omega)) (fun a i => rfl) (rd_nk (by decide)) (rd_nk (by decide)) (fun n hn => rd_nk (by decide)) (fun s hs q q1 q2 => rd_nk (by omega)))
theorem Iv_mk {b c : Nat} {μ : am_I} (h : am_Iv (b + 1) c μ) {r : Nat} (hr : r < 5) (hb : b < 2 ^ 30) (hl : am_lb (am_rd μ 16 r) b) : am_Iv (b + 1) c (fr_make μ r) := by
  unfold fr_make
  have h1 : am_Iv (b + 1) c (am_it (fr_mk_n r) 5 μ) := by
    refine am_it_keep (P := fun s => am_Iv (b + 1) c s) (fun n hn s hs => ?_) h
    refine hs.w12 ?_ (fun q hq e => by omega)
    split
    · exact am_lb.z _
    · exact hs.1.2.1 _
  have d1 : am_rd (am_it (fr_mk_n r) 5 μ) 12 (5 * (55 + r) + r) = 0 := by
    rw [mkn_at hr, h.1.2.2.2.2.2.2.2.1 r hr, ite_self]
  have l1 : am_lb (am_rd (am_it (fr_mk_n r) 5 μ) 16 r) b := by rw [mkn_ne (by omega)]; exact hl
  generalize am_it (fr_mk_n r) 5 μ = μ1 at h1 d1 l1 ⊢
  unfold fr_mk2
  split
  · split
    · exact h1
    · unfold fr_mk3 fr_mk4 fr_mk5 fr_mk6 fr_mk7
      have s1 := l1.succ hb
      have h2 : am_Iv (b + 1) c (am_wr μ1 16 r (am_rd μ1 16 r + 1)) := h1.w16 s1.1
      have e2 : am_rd (am_wr μ1 16 r (am_rd μ1 16 r + 1)) 16 r = am_rd μ1 16 r + 1 := rd_at
      have f2 : am_rd (am_wr μ1 16 r (am_rd μ1 16 r + 1)) 12 (5 * (55 + r) + r) = 0 := by rw [rd_nk (by decide)]; exact d1
      rw [e2]
      generalize am_wr μ1 16 r (am_rd μ1 16 r + 1) = μ2 at h2 f2 ⊢
      have h3 : am_Iv (b + 1) c (am_wr (am_wr μ2 10 (55 + r) (am_rd μ1 16 r + 1)) 11 (55 + r) (am_ck (am_wr μ2 10 (55 + r) (am_rd μ1 16 r + 1)))) := (h2.w10 s1.1 (Or.inl (by omega))).f (by decide) (by decide) (by decide)
      have e3 : am_rd (am_wr (am_wr μ2 10 (55 + r) (am_rd μ1 16 r + 1)) 11 (55 + r) (am_ck (am_wr μ2 10 (55 + r) (am_rd μ1 16 r + 1)))) 10 (55 + r) = am_rd μ1 16 r + 1 := by rw [rd_nk (by decide), rd_at]
      have f3 : am_rd (am_wr (am_wr μ2 10 (55 + r) (am_rd μ1 16 r + 1)) 11 (55 + r) (am_ck (am_wr μ2 10 (55 + r) (am_rd μ1 16 r + 1)))) 12 (5 * (55 + r) + r) = 0 := by rw [rd_nk (by decide), rd_nk (by decide)]; exact f2
      generalize am_wr (am_wr μ2 10 (55 + r) (am_rd μ1 16 r + 1)) 11 (55 + r) (am_ck (am_wr μ2 10 (55 + r) (am_rd μ1 16 r + 1))) = μ3 at h3 e3 f3 ⊢
      have h4 := Iv_copy h3 (f := 55 + r) (t := 50 + r) (by omega) (Or.inl (by omega)) (fun q hq e => by omega)
      have e4 : am_rd (fr_copy μ3 (55 + r) (50 + r)) 10 (55 + r) = am_rd μ1 16 r + 1 := by rw [cp_ne (by omega) (by omega) (by omega)]; exact e3
      have f4 : am_rd (fr_copy μ3 (55 + r) (50 + r)) 12 (5 * (55 + r) + r) = 0 := by rw [cp_ne (by omega) (by omega) (by omega)]; exact f3
      generalize fr_copy μ3 (55 + r) (50 + r) = μ4 at h4 e4 f4 ⊢
      have h5 : am_Iv (b + 1) c (am_wr (am_wr μ4 17 r 0) 9 5 (am_rd (am_wr μ4 17 r 0) 9 5 + 1)) := (h4.f (by decide) (by decide) (by decide)).f (by decide) (by decide) (by decide)
      refine Iv_inst h5 hr hr (by omega) ?_ (fun q hq e => ?_)
      · rw [rd_nk (by decide), rd_nk (by decide), e4]; exact s1.2
      · have eq : q = r := by omega
        subst eq
        rw [rd_nk (by decide), rd_nk (by decide)]; exact f4
  · exact h1
theorem mk_16 {μ : am_I} {r x : Nat} (hx : ¬ x = r) : am_rd (fr_make μ r) 16 x = am_rd μ 16 x := by
  unfold fr_make
  rw [← mkn_ne (μ := μ) (r := r) (k := 16) (y := x) (by omega)]
  generalize am_it (fr_mk_n r) 5 μ = μ1
  unfold fr_mk2
  split
  · split
    · rfl
    · unfold fr_mk3 fr_mk4 fr_mk5 fr_mk6 fr_mk7
      rw [inst_rd (by omega) (by omega) (by omega) (by omega), rd_nk (by decide), rd_nk (by decide), cp_ne (by omega) (by omega) (by omega), rd_nk (by decide), rd_nk (by decide), rd_ne (by omega)]
  · rfl
theorem s_mk_r {b c : Nat} {z : am_K × am_I × am_P} {μ : am_I} (h : am_T0 z.2.1 z.2.2 μ) (hI : am_Iv (b + 1) c μ) (hW : am_Wf z.1 z.2.1 z.2.2) {r : Nat} (hr : r < 5) (hb : b < 2 ^ 30) (hl : am_lb (am_rd μ 16 r) b) : am_T0 (fc_mk_r r z).2.1 (fc_mk_r r z).2.2 (fr_make μ r) := by
  unfold fr_make
  have h1 : am_T0 z.2.1 z.2.2 (am_it (fr_mk_n r) 5 μ) := T0_m h (fun k y q1 q2 q3 q4 => mkn_ne (by omega)) (it_ck _ (fun n hn μ => am_ck_wr _ _ _ _))
  have c1 : ∀ n, n < 5 → am_rd (am_it (fr_mk_n r) 5 μ) 12 (5 * (55 + r) + n) = fc_cl z.2.1 r n := fun n hn => by
    obtain ⟨b1, -, -, b4, -⟩ := h.2.2.2.1 r hr n hn
    rw [mkn_at hn]
    unfold fc_cl
    rw [b1, b4]
  have l1 : 0 < am_rd (am_it (fr_mk_n r) 5 μ) 16 r + 1 := by rw [mkn_ne (by omega)]; exact (hl.succ hb).2
  generalize am_it (fr_mk_n r) 5 μ = μ1 at h1 c1 l1 ⊢
  have i := s_md h1 hr c1
  unfold fc_mk_r fr_mk2
  rw [h1.1]
  rcases (h1.2.2.1 r hr).1 with ⟨o1, o2⟩ | ⟨o1, o2⟩
  · rw [o1, if_neg one_ne, if_pos o2]
    by_cases D : fr_due r μ1 = 0
    · rw [if_pos D, if_pos (i.mpr D)]; exact h1
    · rw [if_neg D, if_neg (fun q => D (i.mp q))]
      exact s_mk3 h1 hW hr c1 l1
  · rw [if_pos o1, o2, if_neg one_ne]; exact h1
theorem s_mk {b c : Nat} {K : am_K} {γ : am_I} {π : am_P} {μ : am_I} (h : am_T0 γ π μ) (hI : am_Iv b c μ) (hW : am_Wf K γ π) (hb : b < 2 ^ 30) : am_T0 (fc_mk K γ π).2.1 (fc_mk K γ π).2.2 (am_it fr_mkr 5 μ) ∧ am_Iv (b + 1) c (am_it fr_mkr 5 μ) := by
  unfold fc_mk
  have hI1 : am_Iv (b + 1) c μ := by
    obtain ⟨⟨i1, i2, i3, i4, i5, i6, i7⟩, hB, hC⟩ := hI
    exact ⟨⟨i1, i2, i3, fun x => (i4 x).mono (by omega), i5, fun x => (i6 x).mono (by omega), i7⟩, hB, hC⟩
  have k := am_it2 (R := fun i (z : am_K × am_I × am_P) μ => am_T0 z.2.1 z.2.2 μ ∧ am_Iv (b + 1) c μ ∧ am_Wf z.1 z.2.1 z.2.2 ∧ ∀ x, i ≤ x → am_lb (am_rd μ 16 x) b) (f := fc_mk_r) (g := fr_mkr) (n := 5) (s := (K, γ, π)) (t := μ) (fun r hr z μ hR => ?step) ⟨h, hI1, hW, fun x _ => hI.1.2.2.2.2.2.1 x⟩
  case step =>
    obtain ⟨r1, r2, r3, r4⟩ := hR
    unfold fr_mkr
    refine ⟨s_mk_r r1 r2 r3 hr hb (r4 r (Nat.le_refl r)), Iv_mk r2 hr hb (r4 r (Nat.le_refl r)), ?_, fun x hx => ?_⟩
    · exact (wf_mk_r (B := z.1.1) (C := z.1.2.1) ⟨r3, Nat.le_refl _, Nat.le_refl _⟩ hr).1
    · rw [mk_16 (by omega)]; exact r4 x (by omega)
  exact ⟨k.1, k.2.1⟩

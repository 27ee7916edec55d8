theorem am_Wf.p4 {K : am_K} {γ : am_I} {π : am_P} (h : am_Wf K γ π) {a s : Nat} {v : Option Nat} (hv : ∀ q, v = some q → 187 < q ∧ am_lq K q 22) : am_Wf K γ (am_u π 400 a s v) := by
  obtain ⟨h0, h1, h2, h3, h4, h5, h6⟩ := h
  have k : ∀ {e y : Nat}, am_De K π e ∧ γ 1900 e 0 = nI y → am_De K (am_u π 400 a s v) e ∧ γ 1900 e 0 = nI y := fun q => ⟨q.1.wP (by omega), q.2⟩
  refine ⟨h0.wP (by omega), fun r' hr' x hx e he => k ?_, fun r' hr' e he => k ?_, fun r' hr' s' hs q hq => ?_, fun i hi x hx e he => k ?_, h5, h6⟩
  · rw [am_u_ne (by decide)] at he; exact h1 r' hr' x hx e he
  · rw [am_u_ne (by decide)] at he; exact h2 r' hr' e he
  · unfold am_u at hq
    split at hq
    · exact hv q hq
    · exact h3 r' hr' s' hs q hq
  · rw [am_u_ne (by decide)] at he; exact h4 i hi x hx e he
theorem am_Wf.p3 {K : am_K} {γ : am_I} {π : am_P} (h : am_Wf K γ π) {a s : Nat} : am_Wf K γ (am_u π 304 a s none) := by
  obtain ⟨h0, h1, h2, h3, h4, h5, h6⟩ := h
  have k : ∀ {e y : Nat}, am_De K π e ∧ γ 1900 e 0 = nI y → am_De K (am_u π 304 a s none) e ∧ γ 1900 e 0 = nI y := fun q => ⟨q.1.wP (by omega), q.2⟩
  refine ⟨h0.wP (by omega), fun r' hr' x hx e he => k ?_, fun r' hr' e he => k ?_, fun r' hr' s' hs q hq => ?_, fun i hi x hx e he => k ?_, h5, h6⟩
  · rw [am_u_ne (by decide)] at he; exact h1 r' hr' x hx e he
  · unfold am_u at he
    split at he
    · cases he
    · exact h2 r' hr' e he
  · rw [am_u_ne (by decide)] at hq; exact h3 r' hr' s' hs q hq
  · rw [am_u_ne (by decide)] at he; exact h4 i hi x hx e he
theorem wf_sb2 {K : am_K} {γ : am_I} {π : am_P} (h : am_Wf K γ π) (a s : Nat) (v l z : Int32) : am_Wf (fc_sb2 K γ π a s v l z).1 (fc_sb2 K γ π a s v l z).2.1 (fc_sb2 K γ π a s v l z).2.2 ∧ (fc_sb2 K γ π a s v l z).1.1 ≤ K.1 + 1 ∧ (fc_sb2 K γ π a s v l z).1.2.1 ≤ K.2.1 + 3 := by
  have h187 : 187 ≤ K.1 := h.1.1.1
  unfold fc_sb2
  split
  · exact ⟨h.p4 (fun q e => by cases e), Nat.le_succ _, Nat.le_add_right _ _⟩
  · refine ⟨?_, Nat.le_refl _, Nat.le_refl _⟩
    have k : am_Wf (am_kw K 22 3) (am_zg γ (K.1 + 1)) (am_zp π (K.1 + 1)) := h.nw
    refine am_Wf.p4 (((k.g (by decide)).g (by decide)).g (by decide)) (fun q e => ?_)
    cases e
    exact ⟨by omega, am_lq.self⟩
theorem wf_stub {K : am_K} {γ : am_I} {π : am_P} (h : am_Wf K γ π) (x s v l z : Int32) : am_Wf (fc_stub (K, γ, π) x s v l z).1.1 (fc_stub (K, γ, π) x s v l z).1.2.1 (fc_stub (K, γ, π) x s v l z).1.2.2 ∧ (fc_stub (K, γ, π) x s v l z).1.1.1 ≤ K.1 + 1 ∧ (fc_stub (K, γ, π) x s v l z).1.1.2.1 ≤ K.2.1 + 3 := by
  have t : am_Wf K γ π ∧ K.1 ≤ K.1 + 1 ∧ K.2.1 ≤ K.2.1 + 3 := ⟨h, Nat.le_succ _, Nat.le_add_right _ _⟩
  unfold fc_stub
  by_cases h1 : fr_rtr x = 0
  · rw [if_pos h1]; exact t
  rw [if_neg h1]
  by_cases h2 : s < 0
  · rw [if_pos h2]; exact t
  rw [if_neg h2]
  by_cases h3 : s < 2
  · rw [if_pos h3]
    by_cases h4 : fc_pfx v l = 0
    · rw [if_pos h4]; exact t
    rw [if_neg h4]
    by_cases h5 : z < 0
    · rw [if_pos h5]; exact t
    rw [if_neg h5]
    by_cases h6 : 9 < z
    · rw [if_pos h6]; exact t
    rw [if_neg h6]
    exact wf_sb2 h _ _ v l z
  · rw [if_neg h3]; exact t
theorem T0_st {γ : am_I} {π π' : am_P} {μ μ' : am_I} (h : am_T0 γ π μ) {r0 s0 : Nat} (hr0 : r0 < 5) (hs0 : s0 < 2) (hp : ∀ f a i, ¬ (f = 400 ∧ a = 4 + 14 * r0 ∧ i = s0) → π' f a i = π f a i) (hm : ∀ k y, ¬ (13 ≤ k ∧ k ≤ 15 ∧ y = 2 * (55 + r0) + s0) → am_rd μ' k y = am_rd μ k y) (hck : am_ck μ' = am_ck μ) (ht : tS γ (π' 400 (4 + 14 * r0) s0) μ' (2 * (55 + r0) + s0)) : am_T0 γ π' μ' := by
  have hD : ∀ o e, e < 55 → tD γ π o μ e → tD γ π' o μ' e := fun o e he q => tD_cg q (fun _ _ _ _ _ => rfl) (fun a i => hp _ _ _ (by omega)) (hm _ _ (by omega)) (hm _ _ (by omega)) (fun n _ => hm _ _ (by omega)) (fun s _ k k1 k2 => hm _ _ (by omega))
  refine T0_d h (fun _ _ _ _ => rfl) (fun k x q => hm k x (by omega)) hck (fun r hr => ?_) (fun r hr x hx => ?_)
  · have q := h.2.2.1 r hr
    refine tR_cg q (fun _ _ _ => rfl) (fun k e => hm _ _ (by omega)) ?_ (fun s hs => ?_)
    · rw [hp _ _ _ (by omega)]; exact hD _ _ (by omega) q.2.2.2.1
    · by_cases e : r = r0 ∧ s = s0
      · obtain ⟨rfl, rfl⟩ := e
        exact ht
      · rw [hp _ _ _ (by omega)]
        exact tS_cg (q.2.2.2.2 s hs) (fun f f1 f2 q _ => rfl) (fun q q1 q2 => hm _ _ (by omega))
  · rw [hp _ _ _ (by omega)]
    exact hD _ _ (by omega) (h.2.2.2.2 r hr x hx)
theorem s_sb2 {K : am_K} {γ : am_I} {π : am_P} {μ : am_I} (h : am_T0 γ π μ) (hW : am_Wf K γ π) {r s : Nat} (hr : r < 5) (hs : s < 2) {v l z : Int32} (hz : ¬ z < 0) : am_T0 (fc_sb2 K γ π r s v l z).2.1 (fc_sb2 K γ π r s v l z).2.2 (fr_stub2 μ (2 * (55 + r) + s) v l z) := by
  unfold fc_sb2 fr_stub2
  have hk : ∀ a b' d k y, ¬ (13 ≤ k ∧ k ≤ 15 ∧ y = 2 * (55 + r) + s) → am_rd (am_wr (am_wr (am_wr μ 13 (2 * (55 + r) + s) a) 14 (2 * (55 + r) + s) b') 15 (2 * (55 + r) + s) d) k y = am_rd μ k y := fun a b' d k y q => by
    rw [rd_ne (by omega), rd_ne (by omega), rd_ne (by omega)]
  have hc : ∀ a b' d, am_ck (am_wr (am_wr (am_wr μ 13 (2 * (55 + r) + s) a) 14 (2 * (55 + r) + s) b') 15 (2 * (55 + r) + s) d) = am_ck μ := fun a b' d => by
    rw [am_ck_wr, am_ck_wr, am_ck_wr]
  by_cases z0 : z = 0
  · subst z0
    rw [if_pos rfl, if_neg (show ¬ (0 : Int32) < 0 from by decide), if_neg (show ¬ (0 : Int32) < 0 from by decide)]
    refine T0_st h hr hs (fun f a i q => u_ne q) (hk _ _ _) (hc _ _ _) (Or.inl ⟨am_u_at, ?_, ?_, ?_⟩)
    · rw [rd_nk (by decide), rd_nk (by decide), rd_at]
    · rw [rd_nk (by decide), rd_at]
    · rw [rd_at]
  · have zp := (lt_ne hz).mpr z0
    rw [if_neg z0, if_pos zp, if_pos zp]
    dsimp only
    have h1 : am_T0 (fc_si (am_zg γ (K.1 + 1)) (K.1 + 1) v l z) (am_zp π (K.1 + 1)) μ := by
      refine T0_al h hW (fun f a i ha => ?_) (fun f a i ha => zp_le ha)
      unfold fc_si
      rw [u_ne (by omega), u_ne (by omega), u_ne (by omega), zg_le ha]
    refine T0_st h1 hr hs (fun f a i q => u_ne q) (hk _ _ _) (hc _ _ _) (Or.inr ⟨K.1 + 1, am_u_at, ?_, ?_, ?_, ?_⟩)
    · unfold fc_si
      rw [am_u_ne (by decide), am_u_ne (by decide), am_u_at, rd_nk (by decide), rd_nk (by decide), rd_at]
    · unfold fc_si
      rw [am_u_ne (by decide), am_u_at, rd_nk (by decide), rd_at]
    · unfold fc_si
      rw [am_u_at, rd_at]
    · rw [rd_at]; exact zp
theorem Iv_sb2 {b c : Nat} {μ : am_I} (h : am_Iv b c μ) (k : Nat) (v l z : Int32) : am_Iv b c (fr_stub2 μ k v l z) := ((h.f (by decide) (by decide) (by decide)).f (by decide) (by decide) (by decide)).f (by decide) (by decide) (by decide)
theorem BB_stub {μ : am_I} (h : fr_BB μ) (x s v l z : Int32) : fr_BB (fr_stub μ x s v l z).1 := by
  unfold fr_stub fr_stub2
  by_cases c1 : fr_rtr x = 0
  · rw [if_pos c1]; exact h
  rw [if_neg c1]
  by_cases c2 : s < 0
  · rw [if_pos c2]; exact h
  rw [if_neg c2]
  by_cases c3 : 1 < s
  · rw [if_pos c3]; exact h
  rw [if_neg c3]
  by_cases c4 : l < 0
  · rw [if_pos c4]; exact h
  rw [if_neg c4]
  by_cases c5 : 8 < l
  · rw [if_pos c5]; exact h
  rw [if_neg c5]
  by_cases c6 : v < 0
  · rw [if_pos c6]; exact h
  rw [if_neg c6]
  by_cases c7 : 255 < v
  · rw [if_pos c7]; exact h
  rw [if_neg c7]
  by_cases c8 : z < 0
  · rw [if_pos c8]; exact h
  rw [if_neg c8]
  by_cases c9 : 9 < z
  · rw [if_pos c9]; exact h
  rw [if_neg c9]
  by_cases c10 : v &&& (1 <<< ((8 - l) &&& 31) - 1) = 0
  · rw [if_pos c10]; exact ((h.wo (by decide) (by decide)).wo (by decide) (by decide)).wo (by decide) (by decide)
  · rw [if_neg c10]; exact h
theorem lt2 {s : Int32} : s < 2 ↔ ¬ 1 < s := by
  rw [Int32.lt_iff_toInt_lt, Int32.lt_iff_toInt_lt, show (1 : Int32).toInt = 1 from by decide, show (2 : Int32).toInt = 2 from by decide]
  omega
theorem pfx_iff {v l : Int32} : fc_pfx v l = 0 ↔ l < 0 ∨ 8 < l ∨ v < 0 ∨ 255 < v ∨ ¬ v &&& (1 <<< ((8 - l) &&& 31) - 1) = 0 := by
  unfold fc_pfx fc_adr
  by_cases c6 : v < 0
  · rw [if_pos c6, if_pos rfl]
    exact ⟨fun _ => Or.inr (Or.inr (Or.inl c6)), fun _ => rfl⟩
  rw [if_neg c6]
  by_cases c7 : 255 < v
  · rw [if_pos c7, if_pos rfl]
    exact ⟨fun _ => Or.inr (Or.inr (Or.inr (Or.inl c7))), fun _ => rfl⟩
  rw [if_neg c7, if_neg one_ne]
  by_cases c4 : l < 0
  · rw [if_pos c4]
    exact ⟨fun _ => Or.inl c4, fun _ => rfl⟩
  rw [if_neg c4]
  by_cases c5 : 8 < l
  · rw [if_pos c5]
    exact ⟨fun _ => Or.inr (Or.inl c5), fun _ => rfl⟩
  rw [if_neg c5]
  by_cases c10 : v &&& (1 <<< ((8 - l) &&& 31) - 1) = 0
  · rw [if_pos c10]
    refine ⟨fun q => absurd q one_ne, fun q => ?_⟩
    rcases q with q | q | q | q | q
    · exact absurd q c4
    · exact absurd q c5
    · exact absurd q c6
    · exact absurd q c7
    · exact absurd c10 q
  · rw [if_neg c10]
    exact ⟨fun _ => Or.inr (Or.inr (Or.inr (Or.inr c10))), fun _ => rfl⟩
theorem s_stub {b c : Nat} {K : am_K} {γ : am_I} {π : am_P} {μ : am_I} (h : am_T0 γ π μ) (hI : am_Iv b c μ) (hW : am_Wf K γ π) (x s v l z : Int32) : (am_T0 (fc_stub (K, γ, π) x s v l z).1.2.1 (fc_stub (K, γ, π) x s v l z).1.2.2 (fr_stub μ x s v l z).1 ∧ am_Iv b c (fr_stub μ x s v l z).1) ∧ (fc_stub (K, γ, π) x s v l z).2 = (fr_stub μ x s v l z).2 := by
  unfold fc_stub fr_stub
  by_cases c1 : fr_rtr x = 0
  · rw [if_pos c1, if_pos c1]; exact ⟨⟨h, hI⟩, rfl⟩
  rw [if_neg c1, if_neg c1]
  by_cases c2 : s < 0
  · rw [if_pos c2, if_pos c2]; exact ⟨⟨h, hI⟩, rfl⟩
  rw [if_neg c2, if_neg c2]
  by_cases c3 : 1 < s
  · rw [if_neg (fun q => lt2.mp q c3), if_pos c3]; exact ⟨⟨h, hI⟩, rfl⟩
  rw [if_pos (lt2.mpr c3), if_neg c3]
  by_cases c4 : l < 0
  · rw [if_pos (pfx_iff.mpr (Or.inl c4)), if_pos c4]; exact ⟨⟨h, hI⟩, rfl⟩
  rw [if_neg c4]
  by_cases c5 : 8 < l
  · rw [if_pos (pfx_iff.mpr (Or.inr (Or.inl c5))), if_pos c5]; exact ⟨⟨h, hI⟩, rfl⟩
  rw [if_neg c5]
  by_cases c6 : v < 0
  · rw [if_pos (pfx_iff.mpr (Or.inr (Or.inr (Or.inl c6)))), if_pos c6]; exact ⟨⟨h, hI⟩, rfl⟩
  rw [if_neg c6]
  by_cases c7 : 255 < v
  · rw [if_pos (pfx_iff.mpr (Or.inr (Or.inr (Or.inr (Or.inl c7))))), if_pos c7]; exact ⟨⟨h, hI⟩, rfl⟩
  rw [if_neg c7]
  by_cases c10 : v &&& (1 <<< ((8 - l) &&& 31) - 1) = 0
  · have np : ¬ fc_pfx v l = 0 := fun q => by
      rcases pfx_iff.mp q with q | q | q | q | q
      · exact absurd q c4
      · exact absurd q c5
      · exact absurd q c6
      · exact absurd q c7
      · exact absurd c10 q
    rw [if_neg np]
    by_cases c8 : z < 0
    · rw [if_pos c8, if_pos c8]; exact ⟨⟨h, hI⟩, rfl⟩
    rw [if_neg c8, if_neg c8]
    by_cases c9 : 9 < z
    · rw [if_pos c9, if_pos c9]; exact ⟨⟨h, hI⟩, rfl⟩
    rw [if_neg c9, if_neg c9, if_pos c10]
    obtain ⟨r, hr, rfl⟩ := fr_rtr_of c1
    obtain ⟨k, hk, rfl⟩ := nI_of2 (M := 1) (n := 1) (by decide) c2 (Int32.not_lt.mp c3)
    rw [nI_clamp (by omega), nI_clamp (by omega)]
    dsimp only
    exact ⟨⟨s_sb2 h hW hr (by omega) c8, Iv_sb2 hI _ _ _ _⟩, rfl⟩
  · rw [if_pos (pfx_iff.mpr (Or.inr (Or.inr (Or.inr (Or.inr c10)))))]
    by_cases c8 : z < 0
    · rw [if_pos c8]; exact ⟨⟨h, hI⟩, rfl⟩
    rw [if_neg c8]
    by_cases c9 : 9 < z
    · rw [if_pos c9]; exact ⟨⟨h, hI⟩, rfl⟩
    rw [if_neg c9, if_neg c10]
    exact ⟨⟨h, hI⟩, rfl⟩
theorem pw_cm {μ : am_I} {a k x : Nat} {v : Int32} (hk : ¬ k = 3 ∧ ¬ k = 5 ∧ ¬ k = 6 ∧ ¬ k = 18) (hx : ¬ k = 10 ∨ 5 * a + 5 ≤ x) : am_wr (am_it (fr_pw_b a) 5 μ) k x v = am_it (fr_pw_b a) 5 (am_wr μ k x v) := by
  refine am_it_cm (f := fr_pw_b a) (g := fun ν => am_wr ν k x v) (fun j hj s => ?_) μ
  unfold fr_pw_b
  rw [← cut_cm hk]
  by_cases e : k = 10
  · subst e
    exact wr_cmx (by omega)
  · exact wr_cm (by omega)
theorem s_off {γ : am_I} {π : am_P} {μ : am_I} (h : am_T0 γ π μ) {r : Nat} (hr : r < 5) : am_T0 (fc_pw2 γ π r 0).1 (fc_pw2 γ π r 0).2 (fr_power2 μ r 0) := by
  unfold fc_pw2 fr_power2 fc_fa
  rw [if_pos rfl, if_pos rfl, pw_cm (by decide) (Or.inr (by omega)), pw_cm (by decide) (Or.inl (by decide)), pw_cm (by decide) (Or.inl (by decide))]
  refine am_it2 (R := fun _ (z : am_I × am_P) μ => am_T0 z.1 z.2 μ) (f := fc_fa_b r) (g := fr_pw_b r) (fun n hn z ν hR => ?_) ?_
  · unfold fc_fa_b fr_pw_b
    exact T0_hd (s_fg hR hr hn) hr hn (fun f a i q => u_ne q) (fun k y q1 q2 q3 => rd_ne (by omega)) (am_ck_wr _ _ _ _) (Or.inl ⟨am_u_at, rd_at⟩)
  · have h1 : am_T0 γ (am_u π 304 (3 + 14 * r) 0 none) (am_wr μ 10 (50 + r) 0) := T0_lt h hr (fun f a i q => u_ne (by omega)) (fun k y q1 q2 q3 => rd_ne (by omega)) (am_ck_wr _ _ _ _) (Or.inl ⟨am_u_at, rd_at⟩)
    dsimp only
    refine T0_rt h1 hr (fun f a i q => ?_) (fun k y q => ?_) ?_ (Or.inr ⟨?_, ?_⟩) ?_ ?_
    · rw [u_ne (by omega), u_ne (by omega), u_ne (by omega)]
    · rw [rd_ne (by omega), rd_ne (by omega)]
      by_cases e : k = 10 ∧ y = 50 + r
      · rw [e.1, e.2, rd_at, rd_at]
      · rw [rd_ne (by omega), rd_ne (by omega), rd_ne (by omega)]
    · rw [am_ck_wr, am_ck_wr, am_ck_wr, am_ck_wr, am_ck_wr]
    · rw [am_u_ne (by decide), am_u_ne (by decide), am_u_at]
    · rw [rd_nk (by decide), rd_nk (by decide), rd_nk (by decide), rd_at]
    · rw [am_u_ne (by decide), am_u_at, rd_nk (by decide), rd_at]
    · rw [am_u_at, rd_at]
theorem s_on {γ : am_I} {π : am_P} {μ : am_I} (h : am_T0 γ π μ) {r : Nat} (hr : r < 5) : am_T0 (fc_pw2 γ π r 1).1 (fc_pw2 γ π r 1).2 (fr_power2 μ r 1) := by
  unfold fc_pw2 fr_power2
  rw [if_neg one_ne, if_neg one_ne]
  dsimp only
  obtain ⟨a1, a2, a3, -, -⟩ := h.2.2.1 r hr
  refine T0_rt h hr (fun f a i q => u_ne (by omega)) (fun k y q => rd_ne (by omega)) (am_ck_wr _ _ _ _) (Or.inl ⟨am_u_at, rd_at⟩) ?_ ?_
  · rw [am_u_ne (by decide), rd_nk (by decide)]; exact a2
  · rw [am_u_ne (by decide), rd_nk (by decide)]; exact a3
theorem Ib_cut {μ : am_I} (h : am_Ib μ) {a b : Nat} : am_Ib (fr_cut μ a b) := by
  intro y hy
  obtain ⟨g1, g2, g3⟩ := h y hy
  rw [cut_ne (k := 1) (by omega) (by omega)]
  by_cases e : y = 5 * a + b
  · rw [e, cut_at (by omega), cut_at (by omega), cut_at (by omega)]
    exact ⟨fun w => absurd rfl w, fun w => absurd rfl w, fun w => absurd rfl w⟩
  · rw [cut_ne (k := 3) (by omega) (by omega), cut_ne (k := 5) (by omega) (by omega), cut_ne (k := 6) (by omega) (by omega)]
    exact ⟨g1, g2, g3⟩
theorem Ia_cut {b' c' : Nat} {μ : am_I} (h : am_Ia b' c' μ) {a b : Nat} : am_Ia b' c' (fr_cut μ a b) := by
  unfold fr_cut
  exact am_it_keep (P := am_Ia b' c') (fun n hn s hs => hs.f (by decide)) (((h.f (by decide)).f (by decide)).f (by decide))
theorem Iv_power2 {b c : Nat} {μ : am_I} (h : am_Iv b c μ) {r : Nat} (hr : r < 5) (o : Int32) : am_Iv b c (fr_power2 μ r o) := by
  unfold fr_power2
  by_cases o0 : o = 0
  · rw [if_pos o0]
    have k := am_it2 (α := Unit) (R := fun m _ ν => am_Ia b c ν ∧ am_Ib ν ∧ (∀ n, n < m → ∀ x, x < 5 → am_rd ν 18 (5 * (5 * r + n) + x) = 0) ∧ ∀ p, p < 5 → ¬ p = r → ∀ n, n < 5 → ∀ x, x < 5 → ¬ am_rd ν 18 (5 * (5 * p + n) + x) = 0 → ¬ am_rd ν 6 (5 * p + n) = 0 ∧ 0 < am_rd ν 10 (5 * p + x)) (f := fun _ s => s) (g := fr_pw_b r) (n := 5) (s := ()) (t := am_wr μ 0 r 1) (fun k hk _ ν hR => ?step) ⟨h.1.f (by decide), h.2.1.f (by decide), fun n hn => absurd hn (Nat.not_lt_zero _), fun p hp _ n hn x hx w => ?init⟩
    case step =>
      obtain ⟨r1, r2, r3, r4⟩ := hR
      unfold fr_pw_b
      refine ⟨(Ia_cut r1).w10 (am_lb.z _), (Ib_cut r2).f (by decide), fun n hn x hx => ?_, fun p hp e n hn x hx w => ?_⟩
      · rw [rd_nk (by decide)]
        by_cases e : n = k
        · subst e
          exact cut_18 hx
        · rw [cut_ne (by omega) (by omega)]
          exact r3 n (by omega) x hx
      · rw [rd_nk (by decide), cut_ne (by omega) (by omega)] at w
        rw [rd_nk (by decide), cut_ne (by omega) (by omega), rd_ne (by omega), cut_ne (by omega) (by omega)]
        exact r4 p hp e n hn x hx w
    case init =>
      rw [rd_nk (by decide)] at w
      rw [rd_nk (by decide), rd_nk (by decide)]
      exact h.2.2 p hp n hn x hx w
    generalize am_it (fr_pw_b r) 5 (am_wr μ 0 r 1) = ν at k ⊢
    obtain ⟨k1, k2, k3, k4⟩ := k
    have kv : am_Iv b c ν := ⟨k1, k2, fun p hp n hn x hx w => by
      by_cases e : p = r
      · subst e
        exact absurd (k3 n hn x hx) w
      · exact k4 p hp e n hn x hx w⟩
    exact ((kv.w10 (am_lb.z _) (Or.inl (by omega))).w16 (am_lb.z _)).f (by decide) (by decide) (by decide)
  · rw [if_neg o0]
    exact h.f (by decide) (by decide) (by decide)
theorem s_power {b c : Nat} {γ : am_I} {π : am_P} {μ : am_I} (h : am_T0 γ π μ) (hI : am_Iv b c μ) (x o : Int32) (ho : o = 0 ∨ o = 1) : (am_T0 (fc_power γ π x o).1.1 (fc_power γ π x o).1.2 (fr_power μ x o).1 ∧ am_Iv b c (fr_power μ x o).1) ∧ (fc_power γ π x o).2 = (fr_power μ x o).2 := by
  unfold fc_power fr_power
  by_cases c1 : fr_rtr x = 0
  · rw [if_pos c1, if_pos c1]; exact ⟨⟨h, hI⟩, rfl⟩
  rw [if_neg c1, if_neg c1]
  obtain ⟨r, hr, rfl⟩ := fr_rtr_of c1
  rw [nI_clamp (by omega)]
  have zn : ¬ (0 : Int32) = 1 := by decide
  rcases ho with rfl | rfl <;> rcases (h.2.2.1 r hr).1 with ⟨o1, o2⟩ | ⟨o1, o2⟩
  · rw [o1, o2, if_neg one_ne, if_pos rfl]
    exact ⟨⟨s_off h hr, Iv_power2 hI hr 0⟩, rfl⟩
  · rw [o1, o2, if_pos rfl, if_neg one_ne]
    exact ⟨⟨h, hI⟩, rfl⟩
  · rw [o1, o2, if_pos rfl, if_neg zn]
    exact ⟨⟨h, hI⟩, rfl⟩
  · rw [o1, o2, if_neg zn, if_pos rfl]
    exact ⟨⟨s_on h hr, Iv_power2 hI hr 1⟩, rfl⟩
theorem BB_power {μ : am_I} (h : fr_BB μ) (x o : Int32) : fr_BB (fr_power μ x o).1 := by
  have k : ∀ a, fr_BB (fr_power2 μ a o) := fun a => by
    unfold fr_power2
    by_cases o0 : o = 0
    · rw [if_pos o0]
      refine (((fr_it_BB (fun i ν hν => ?_) (h.wo (by decide) (by decide))).wo (by decide) (by decide)).wo (by decide) (by decide)).wo (by decide) (by decide)
      unfold fr_pw_b
      exact (BB_cut hν _ _).wo (by decide) (by decide)
    · rw [if_neg o0]
      exact h.wo (by decide) (by decide)
  unfold fr_power
  by_cases c1 : fr_rtr x = 0
  · rw [if_pos c1]; exact h
  rw [if_neg c1]
  split
  · exact k _
  · exact h
theorem wf_power {K : am_K} {γ : am_I} {π : am_P} (h : am_Wf K γ π) (x o : Int32) : am_Wf K (fc_power γ π x o).1.1 (fc_power γ π x o).1.2 := by
  have k : ∀ a, am_Wf K (fc_pw2 γ π a o).1 (fc_pw2 γ π a o).2 := fun a => by
    unfold fc_pw2
    by_cases o0 : o = 0
    · rw [if_pos o0]
      unfold fc_fa
      refine wf_it2 (z := (am_u (am_u (am_u γ 301 (3 + 14 * a) 0 o) 302 (3 + 14 * a) 0 0) 303 (3 + 14 * a) 0 0, am_u π 304 (3 + 14 * a) 0 none)) (fun n hn z hz => ?_) ((((h.g (by decide)).g (by decide)).g (by decide)).p3)
      unfold fc_fa_b
      exact (wf_fg hz a n).p (F := 500) (Or.inl rfl) (fun e he => by cases he)
    · rw [if_neg o0]
      exact h.g (by decide)
  unfold fc_power
  by_cases c1 : fr_rtr x = 0
  · rw [if_pos c1]; exact h
  rw [if_neg c1]
  split
  · exact h
  · exact k _

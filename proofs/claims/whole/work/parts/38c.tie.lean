theorem am_it_2k {α : Type} (f : Nat → α → α) (k : Nat) (s : α) : am_it f (2 * k) s = am_it (fun r => am_it (fun x => f (2 * r + x)) 2) k s := by
  induction k with
  | zero => rfl
  | succ k ih =>
    show am_it f (2 * k + 2) s = am_it (fun x => f (2 * k + x)) 2 (am_it (fun r => am_it (fun x => f (2 * r + x)) 2) k s)
    rw [← ih]
    rfl
theorem s_edge {b c : Nat} {γ : am_I} {π : am_P} {μ : am_I} (hI : am_Iv b c μ) {o1 o2 : Option Nat} {r u v : Nat} (hu : u < 5) (hv : v < 5) (h1 : tD γ π o1 μ (5 * r + u)) (h2 : tD γ π o2 μ (5 * r + v)) : fc_edge γ o1 o2 u v = fr_edge μ r u v := by
  unfold fr_edge fr_bth
  rcases tD_pos h1 with ⟨e1, e2⟩ | ⟨a, e1, -, e3, -, e5, -⟩
  · rw [e1, if_neg e2, if_pos rfl]; rfl
  rw [if_pos e3]
  rcases tD_pos h2 with ⟨f1, f2⟩ | ⟨d, f1, -, f3, -, f5, -⟩
  · rw [e1, f1, if_neg f2, if_pos rfl]; rfl
  rw [if_pos f3, e1, f1]
  show (if γ 2000 (a + 1) v = 0 then (1000 : Int32) else if γ 2000 (d + 1) u = 0 then 1000 else γ 2000 (a + 1) v) = _
  rw [e5 v hv, f5 u hu]
  have n1 := lt_ne (am_lb.nn (hI.1.2.2.2.2.1 (5 * (5 * r + u) + v)) (by decide))
  have n2 := lt_ne (am_lb.nn (hI.1.2.2.2.2.1 (5 * (5 * r + v) + u)) (by decide))
  by_cases c2 : am_rd μ 12 (5 * (5 * r + v) + u) = 0
  · rw [if_neg (fun q => n2.mp q c2), if_pos rfl, if_pos c2, ite_self]
  · rw [if_pos (n2.mpr c2), if_neg one_ne, if_neg c2]
    by_cases c1 : am_rd μ 12 (5 * (5 * r + u) + v) = 0
    · rw [if_neg (fun q => n1.mp q c1), if_pos c1]
    · rw [if_pos (n1.mpr c1), if_neg c1]
theorem lb_edge {b c : Nat} {μ : am_I} (hI : am_Iv b c μ) (r u v : Nat) : fr_edge μ r u v = 1000 ∨ am_lb (fr_edge μ r u v) 9 := by
  unfold fr_edge
  split
  · exact Or.inl rfl
  · split
    · exact Or.inr (hI.1.2.2.2.2.1 _)
    · exact Or.inl rfl
theorem lb_edge2 {b c : Nat} {μ : am_I} (hI : am_Iv b c μ) (r u v : Nat) : am_lb (fr_edge μ r u v) 1000 := by
  rcases lb_edge hI r u v with e | e
  · rw [e]; exact ⟨1000, Nat.le_refl _, rfl⟩
  · exact e.mono (by omega)
def woR (γ0 : am_I) (π : am_P) (μ0 : am_I) (r i : Nat) (γ μ : am_I) : Prop := (∀ f a j, ¬ f = 1500 → ¬ f = 1700 → γ f a j = γ0 f a j) ∧ (∀ k y, ¬ k = 23 → am_rd μ k y = am_rd μ0 k y) ∧ am_ck μ = am_ck μ0 ∧ ∀ u, u < 5 → ∀ v, v < 5 → 5 * u + v < i → γ 1700 (157 + u) v = am_rd μ 23 (5 * u + v) ∧ am_lb (am_rd μ 23 (5 * u + v)) 1000 ∧ γ 1500 (151 + u) v = fr_edge μ0 r u v
theorem fr_edge_cg {μ μ0 : am_I} {r u v : Nat} (h : ∀ k y, ¬ k = 23 → am_rd μ k y = am_rd μ0 k y) : fr_edge μ r u v = fr_edge μ0 r u v := by
  unfold fr_edge fr_bth
  rw [h _ _ (by decide), h _ _ (by decide), h _ _ (by decide), h _ _ (by decide)]
theorem fc_edge_cg {γ γ0 : am_I} {o1 o2 : Option Nat} {u v : Nat} (h : ∀ f a j, ¬ f = 1500 → ¬ f = 1700 → γ f a j = γ0 f a j) : fc_edge γ o1 o2 u v = fc_edge γ0 o1 o2 u v := by
  cases o1 with
  | none => rfl
  | some a =>
    cases o2 with
    | none => rfl
    | some d =>
      show (if γ 2000 (a + 1) v = 0 then (1000 : Int32) else if γ 2000 (d + 1) u = 0 then 1000 else γ 2000 (a + 1) v) = (if γ0 2000 (a + 1) v = 0 then (1000 : Int32) else if γ0 2000 (d + 1) u = 0 then 1000 else γ0 2000 (a + 1) v)
      rw [h _ _ _ (by decide) (by decide), h _ _ _ (by decide) (by decide)]
theorem nI_z {m : Nat} (h : m < 2 ^ 31) : nI m = 0 ↔ m = 0 := by
  constructor
  · intro q
    have z := congrArg Int32.toInt q
    rw [nI_toInt h, show (0 : Int32).toInt = 0 from by decide] at z
    omega
  · intro q
    rw [q]; rfl
theorem s_wo1 {b c : Nat} {γ0 : am_I} {π : am_P} {μ0 : am_I} (h0 : am_T0 γ0 π μ0) (hI : am_Iv b c μ0) {r : Nat} (hr : r < 5) : woR γ0 π μ0 r 25 (am_it (fc_wo_u π r) 5 γ0) (am_it (fr_ms_i r) 25 μ0) := by
  refine am_it25 (R := fun i γ μ => woR γ0 π μ0 r i γ μ) (f := fc_wo_v π r) (g := fr_ms_i r) (s := γ0) (t := μ0) (fun u hu v hv γ μ hR => ?_) ⟨fun _ _ _ _ _ => rfl, fun _ _ _ => rfl, rfl, fun u _ v _ w => absurd w (Nat.not_lt_zero _)⟩
  obtain ⟨r1, r2, r3, r4⟩ := hR
  have k1 : (5 * u + v) / 5 = u := by omega
  have k2 : (5 * u + v) % 5 = v := by omega
  have ee : fc_edge γ (π 500 (5 + 14 * r) u) (π 500 (5 + 14 * r) v) u v = fr_edge μ0 r u v := by
    rw [fc_edge_cg r1]
    exact s_edge hI hu hv (h0.2.2.2.2 r hr u hu) (h0.2.2.2.2 r hr v hv)
  unfold fc_wo_v fc_wo2 fr_ms_i
  rw [k1, k2, fr_edge_cg r2, ee, am_u_at]
  have hif : (if nI ((5 * u + v) % 6) = 0 then (0 : Int32) else fr_edge μ0 r u v) = if u = v then 0 else fr_edge μ0 r u v := by
    by_cases e : u = v
    · rw [if_pos e, if_pos ((nI_z (by omega)).mpr (by omega))]
    · rw [if_neg e, if_neg (fun q => e (by have := (nI_z (by omega)).mp q; omega))]
  rw [hif]
  refine ⟨fun f a j q1 q2 => ?_, fun k y q => ?_, ?_, fun u' hu' v' hv' lt => ?_⟩
  · rw [am_u_ne q2, am_u_ne q1]; exact r1 f a j q1 q2
  · rw [rd_nk q]; exact r2 k y q
  · rw [am_ck_wr]; exact r3
  · by_cases e : u' = u ∧ v' = v
    · obtain ⟨rfl, rfl⟩ := e
      rw [am_u_at, rd_at, am_u_ne (by decide), am_u_at]
      refine ⟨rfl, ?_, rfl⟩
      split
      · exact am_lb.z _
      · exact lb_edge2 hI r u' v'
    · rw [u_ne (by omega), u_ne (by omega), u_ne (by omega), u_ne (by omega), rd_ne (by omega)]
      exact r4 u' hu' v' hv' (by omega)
theorem s_st_v {γ0 : am_I} {π : am_P} {μ0 : am_I} {r w u v : Nat} {γ μ : am_I} (hw : w < 5) (hu : u < 5) (hv : v < 5) (h : woR γ0 π μ0 r 25 γ μ) : woR γ0 π μ0 r 25 (fc_st_v w u v γ) (fr_ms_k w (5 * u + v) μ) := by
  have h' := h
  obtain ⟨r1, r2, r3, r4⟩ := h
  have k1 : (5 * u + v) / 5 * 5 + w = 5 * u + w := by omega
  have k2 : (5 * u + v) % 5 = v := by omega
  obtain ⟨x1, ⟨m1, y1, z1⟩, -⟩ := r4 u hu w hw (by omega)
  obtain ⟨x2, ⟨m2, y2, z2⟩, -⟩ := r4 w hw v hv (by omega)
  obtain ⟨x3, ⟨m3, y3, z3⟩, -⟩ := r4 u hu v hv (by omega)
  unfold fc_st_v fr_ms_k
  rw [k1, k2, x1, x2, x3]
  by_cases d : am_rd μ 23 (5 * u + w) + am_rd μ 23 (5 * w + v) < am_rd μ 23 (5 * u + v)
  · rw [if_pos d, if_pos d]
    refine ⟨fun f a j q1 q2 => ?_, fun k y q => ?_, ?_, fun u' hu' v' hv' lt => ?_⟩
    · rw [am_u_ne q2]; exact r1 f a j q1 q2
    · rw [rd_nk q]; exact r2 k y q
    · rw [am_ck_wr]; exact r3
    · obtain ⟨s1, s2, s3⟩ := r4 u' hu' v' hv' lt
      rw [am_u_ne (by decide : (1500 : Nat) ≠ 1700)]
      by_cases e : u' = u ∧ v' = v
      · obtain ⟨rfl, rfl⟩ := e
        rw [am_u_at, rd_at]
        refine ⟨rfl, ?_, s3⟩
        rw [z1, z2, z3] at d
        rw [z1, z2]
        have ea : nI m1 + nI m2 = nI (m1 + m2) := nI_add m1 m2
        rw [ea] at d ⊢
        rw [nI_ltI (by omega) (by omega)] at d
        exact ⟨m1 + m2, by omega, rfl⟩
      · rw [u_ne (by omega), rd_ne (by omega)]
        exact ⟨s1, s2, s3⟩
  · rw [if_neg d, if_neg d, wr_self rfl]
    exact h'
theorem s_wo {b c : Nat} {γ : am_I} {π : am_P} {μ : am_I} (h : am_T0 γ π μ) (hI : am_Iv b c μ) {r : Nat} (hr : r < 5) : woR γ π μ r 25 (fc_wo γ π r) (fr_ms μ r) := by
  unfold fc_wo fr_ms
  refine am_it2 (R := fun _ γ' μ' => woR γ π μ r 25 γ' μ') (f := fc_st) (g := fr_ms_w) (n := 5) (fun w hw γ' μ' hR => ?_) (s_wo1 h hI hr)
  exact am_it25 (R := fun _ γ' μ' => woR γ π μ r 25 γ' μ') (f := fc_st_v w) (g := fr_ms_k w) (s := γ') (t := μ') (fun u hu v hv a b hR => s_st_v hw hu hv hR) hR
theorem wo_T0 {γ γ' : am_I} {π : am_P} {μ μ' : am_I} {r i : Nat} (h : am_T0 γ π μ) (hw : woR γ π μ r i γ' μ') : am_T0 γ' π μ' := T0_fr h (fun f a j q1 q2 q3 => hw.1 f a j (by omega) (by omega)) (fun _ _ _ _ => rfl) (fun k y q1 q2 q3 => hw.2.1 k y (by omega)) hw.2.2.1
theorem wo_T1 {γ γ' : am_I} {π : am_P} {μ μ' : am_I} {r i : Nat} (h : am_T0 γ π μ) (hw : woR γ π μ r i γ' μ') : am_T0 γ' π μ := T0_fr h (fun f a j q1 q2 q3 => hw.1 f a j (by omega) (by omega)) (fun _ _ _ _ => rfl) (fun _ _ _ _ _ => rfl) rfl
theorem ms_Iv {b c : Nat} {μ : am_I} (h : am_Iv b c μ) (r : Nat) : am_Iv b c (fr_ms μ r) := am_it_keep (P := fun s => am_Iv b c s) (fun w hw s hs => am_it_keep (P := fun s => am_Iv b c s) (fun k hk s hs => hs.f (by decide) (by decide) (by decide)) hs) (am_it_keep (P := fun s => am_Iv b c s) (fun k hk s hs => hs.f (by decide) (by decide) (by decide)) h)
theorem ms_BB {μ : am_I} (h : fr_BB μ) (r : Nat) : fr_BB (fr_ms μ r) := fr_it_BB (fun w s hs => fr_it_BB (fun k s hs => hs.wo (by decide) (by decide)) hs) (fr_it_BB (fun k s hs => hs.wo (by decide) (by decide)) h)
theorem lt_1000 {x : Int32} (h : am_lb x 1000) : x < 1000 ↔ ¬ x = 1000 := by
  obtain ⟨m, hm, rfl⟩ := h
  have e : (1000 : Int32) = nI 1000 := rfl
  rw [e, nI_ltI (by omega) (by omega)]
  constructor
  · intro q w
    have z := congrArg Int32.toInt w
    rw [nI_toInt (by omega), nI_toInt (by omega)] at z
    omega
  · intro q
    have : ¬ m = 1000 := fun w => q (by rw [w])
    omega
theorem s_ison {γ : am_I} {π : am_P} {μ : am_I} (h : am_T0 γ π μ) {r : Nat} (hr : r < 5) : fc_ison γ (nI r) = 0 ↔ ¬ am_rd μ 0 r = 0 := by
  unfold fc_ison
  rw [fr_rtr_nI hr, if_neg one_ne, nI_clamp (by omega)]
  rcases (h.2.2.1 r hr).1 with ⟨o1, o2⟩ | ⟨o1, o2⟩
  · rw [o1, o2, if_neg one_ne]
    exact ⟨fun q => absurd q one_ne, fun q => absurd rfl q⟩
  · rw [o1, o2, if_pos rfl]
    exact ⟨fun _ => one_ne, fun _ => rfl⟩
theorem s_dst {b c : Nat} {γ : am_I} {π : am_P} {μ : am_I} (h : am_T0 γ π μ) (hI : am_Iv b c μ) (x y : Int32) : (am_T0 (fc_dst γ π x y).1 π (fr_dst μ x y).1 ∧ am_Iv b c (fr_dst μ x y).1) ∧ (fc_dst γ π x y).2 = (fr_dst μ x y).2 := by
  unfold fc_dst fr_dst
  by_cases c1 : fr_rtr x = 0
  · have z : fc_ison γ x = 0 := by unfold fc_ison; rw [if_pos c1]
    rw [if_pos z, if_pos c1]; exact ⟨⟨h, hI⟩, rfl⟩
  rw [if_neg c1]
  obtain ⟨r, hr, rfl⟩ := fr_rtr_of c1
  have io := s_ison h hr
  rw [nI_clamp (by omega)]
  by_cases c3 : am_rd μ 0 r = 0
  · rw [if_neg (fun q => io.mp q c3), if_pos c3]
    by_cases c2 : fr_rtr y = 0
    · rw [if_pos c2, if_pos c2]; exact ⟨⟨h, hI⟩, rfl⟩
    rw [if_neg c2, if_neg c2]
    obtain ⟨v, hv, rfl⟩ := fr_rtr_of c2
    rw [nI_clamp (by omega)]
    have w := s_wo h hI hr
    dsimp only
    refine ⟨⟨wo_T0 h w, ms_Iv hI r⟩, ?_⟩
    obtain ⟨w1, w2, -⟩ := w.2.2.2 r hr v hv (by omega)
    rw [w1]
    have l := lt_1000 w2
    by_cases e : am_rd (fr_ms μ r) 23 (5 * r + v) = 1000
    · rw [if_pos e, if_neg (fun q => l.mp q e)]
    · rw [if_neg e, if_pos (l.mpr e)]
  · rw [if_pos (io.mpr c3), if_neg c3, ite_self]
    exact ⟨⟨h, hI⟩, rfl⟩
theorem s_fh {b c : Nat} {γ0 : am_I} {π : am_P} {μ0 : am_I} {γ μ : am_I} {r v : Nat} (hI : am_Iv b c μ0) (hr : r < 5) (hv : v < 5) (h : woR γ0 π μ0 r 25 γ μ) (hrv : ¬ r = v) : fc_fhop γ r v = am_it (fr_hp_n μ r v) 5 (-1) := by
  obtain ⟨r1, r2, r3, r4⟩ := h
  obtain ⟨w1, w2, -⟩ := r4 r hr v hv (by omega)
  have l := lt_1000 w2
  unfold fc_fhop
  rw [if_neg hrv, w1]
  by_cases e : am_rd μ 23 (5 * r + v) = 1000
  · rw [if_pos e]
    have g : ∀ i z, fr_hp_n μ r v i z = z := fun i z => by
      unfold fr_hp_n
      rw [if_neg (fun q => l.mp q e)]
    show (-1 : Int32) = fr_hp_n μ r v 4 (fr_hp_n μ r v 3 (fr_hp_n μ r v 2 (fr_hp_n μ r v 1 (fr_hp_n μ r v 0 (-1)))))
    rw [g, g, g, g, g]
  rw [if_neg e]
  have L := l.mpr e
  have g : ∀ n, n < 5 → ∀ z, fr_hp_n μ r v (4 - n) z = if γ 1500 (151 + r) n + γ 1700 (157 + n) v = γ 1700 (157 + r) v then nI n else z := by
    intro n hn z
    obtain ⟨x1, x2, x3⟩ := r4 n hn v hv (by omega)
    obtain ⟨-, -, y3⟩ := r4 r hr n hn (by omega)
    rw [y3, x1, w1]
    unfold fr_hp_n fr_hp_c
    rw [show 4 - (4 - n) = n from by omega, if_pos L, fr_edge_cg r2]
    have big : ∀ q : Int32, q = 1000 → ¬ q + am_rd μ 23 (5 * n + v) = am_rd μ 23 (5 * r + v) := by
      intro q hq w
      obtain ⟨m1, p1, e1⟩ := x2
      obtain ⟨m2, p2, e2⟩ := w2
      rw [hq, e1, e2] at w
      have ea : (1000 : Int32) + nI m1 = nI (1000 + m1) := nI_add 1000 m1
      rw [ea] at w
      have z := congrArg Int32.toInt w
      rw [nI_toInt (by omega), nI_toInt (by omega)] at z
      rw [e2] at L
      have e1000 : (1000 : Int32) = nI 1000 := rfl
      rw [e1000, nI_ltI (by omega) (by omega)] at L
      omega
    have n1000 : ¬ (1000 : Int32) < 1000 := by decide
    by_cases nr : n = r
    · subst nr
      have e0 : fr_edge μ0 n n n = 1000 := by
        unfold fr_edge
        rw [hI.1.2.2.2.2.2.2.2.2 n hr, if_neg (show ¬ (0 : Int32) < 0 from by decide), ite_self]
      rw [if_pos rfl, if_neg n1000, if_neg (big _ e0)]
    · rw [if_neg nr]
      rcases lb_edge hI r r n with q | q
      · rw [q, if_neg n1000, if_neg (big _ rfl)]
      · have q2 : fr_edge μ0 r r n < 1000 := by
          obtain ⟨m1, p1, e1⟩ := q
          have e1000 : (1000 : Int32) = nI 1000 := rfl
          rw [e1, e1000, nI_ltI (by omega) (by omega)]
          omega
        rw [if_pos q2]
  show fc_fh γ r v 5 0 = fr_hp_n μ r v (4 - 0) (fr_hp_n μ r v (4 - 1) (fr_hp_n μ r v (4 - 2) (fr_hp_n μ r v (4 - 3) (fr_hp_n μ r v (4 - 4) (-1)))))
  rw [g 0 (by omega), g 1 (by omega), g 2 (by omega), g 3 (by omega), g 4 (by omega)]
  rfl
theorem BB_dst {μ : am_I} (h : fr_BB μ) (x y : Int32) : fr_BB (fr_dst μ x y).1 := by
  unfold fr_dst
  by_cases c1 : fr_rtr x = 0
  · rw [if_pos c1]; exact h
  rw [if_neg c1]
  by_cases c2 : fr_rtr y = 0
  · rw [if_pos c2]; exact h
  rw [if_neg c2]
  by_cases c3 : am_rd μ 0 x.toNatClampNeg = 0
  · rw [if_pos c3]; exact ms_BB h _
  · rw [if_neg c3]; exact h
theorem s_hop {b c : Nat} {γ : am_I} {π : am_P} {μ : am_I} (h : am_T0 γ π μ) (hI : am_Iv b c μ) (x y : Int32) : (am_T0 (fc_hop γ π x y).1 π (fr_hop μ x y).1 ∧ am_Iv b c (fr_hop μ x y).1) ∧ (fc_hop γ π x y).2 = (fr_hop μ x y).2 := by
  unfold fc_hop fr_hop
  by_cases c1 : fr_rtr x = 0
  · have z : fc_ison γ x = 0 := by unfold fc_ison; rw [if_pos c1]
    rw [if_pos z, if_pos c1]; exact ⟨⟨h, hI⟩, rfl⟩
  rw [if_neg c1]
  obtain ⟨r, hr, rfl⟩ := fr_rtr_of c1
  have io := s_ison h hr
  rw [nI_clamp (by omega)]
  by_cases c3 : am_rd μ 0 r = 0
  · rw [if_neg (fun q => io.mp q c3), if_pos c3]
    by_cases c2 : fr_rtr y = 0
    · rw [if_pos c2, if_pos c2]; exact ⟨⟨h, hI⟩, rfl⟩
    rw [if_neg c2, if_neg c2]
    obtain ⟨v, hv, rfl⟩ := fr_rtr_of c2
    rw [nI_clamp (by omega)]
    have w := s_wo h hI hr
    by_cases rv : r = v
    · rw [if_pos rv]
      dsimp only
      refine ⟨⟨wo_T1 h w, hI⟩, ?_⟩
      unfold fc_fhop
      rw [if_pos rv]
    · rw [if_neg rv]
      dsimp only
      exact ⟨⟨wo_T0 h w, ms_Iv hI r⟩, s_fh hI hr hv w rv⟩
  · rw [if_pos (io.mpr c3), if_neg c3, ite_self]
    exact ⟨⟨h, hI⟩, rfl⟩
theorem BB_hop {μ : am_I} (h : fr_BB μ) (x y : Int32) : fr_BB (fr_hop μ x y).1 := by
  unfold fr_hop
  by_cases c1 : fr_rtr x = 0
  · rw [if_pos c1]; exact h
  rw [if_neg c1]
  by_cases c2 : fr_rtr y = 0
  · rw [if_pos c2]; exact h
  rw [if_neg c2]
  by_cases c3 : am_rd μ 0 x.toNatClampNeg = 0
  · rw [if_pos c3]
    by_cases c4 : x.toNatClampNeg = y.toNatClampNeg
    · rw [if_pos c4]; exact h
    · rw [if_neg c4]; exact ms_BB h _
  · rw [if_neg c3]; exact h
theorem s_ds_s {γ : am_I} {π : am_P} {μ : am_I} {r x s : Nat} (h : am_T0 γ π μ) (hr : r < 5) (hx : x < 5) (hs : s < 2) (hd : γ 1700 (157 + r) x = am_rd μ 23 (5 * r + x)) (hl : am_lb (am_rd μ 23 (5 * r + x)) 1000) (y : Int32) (z : Int32 × Int32 × Int32) : fc_ds_s γ π r y x s z = fr_rt_k μ r y (2 * x + s) z := by
  have k1 : (2 * x + s) / 2 = x := by omega
  have k2 : (2 * x + s) % 2 = s := by omega
  have l := lt_1000 hl
  unfold fc_ds_s fr_rt_k fr_rt_f
  rw [k1, k2]
  rcases tD_pos (h.2.2.2.2 r hr x hx) with ⟨e1, e2⟩ | ⟨a, e1, -, e3, -, -, e6⟩
  · rw [e1, if_neg e2, if_pos rfl]; rfl
  rw [e1, if_pos e3]
  dsimp only [Option.elim]
  by_cases f : am_rd μ 23 (5 * r + x) = 1000
  · rw [if_neg (fun q => l.mp q f), if_pos rfl]
    cases π 2100 (a + 2) s with
    | none => rfl
    | some q =>
      dsimp only
      unfold fc_ds_q
      rw [hd, if_pos f]
  rw [if_pos (l.mpr f)]
  rcases e6 s hs with ⟨g1, -, -, g4⟩ | ⟨q, g1, g2, g3, g4, g5⟩
  · rw [g1, g4, if_neg (show ¬ (0 : Int32) < 0 from by decide), if_pos rfl]
  · rw [g1, if_pos g5]
    dsimp only
    unfold fc_ds_q fc_ft
    rw [hd, if_neg f, g2, g3, g4]
theorem s_ds {γ0 : am_I} {π : am_P} {μ0 : am_I} {γ μ : am_I} {r : Nat} (h : am_T0 γ π μ) (hr : r < 5) (hw : woR γ0 π μ0 r 25 γ μ) (y : Int32) : fc_ds γ π r y = (am_it (fr_rt_k μ r y) 10 (-1, -1, 0)).1 := by
  unfold fc_ds
  have e : am_it (fr_rt_k μ r y) 10 (-1, -1, 0) = am_it (fun x => am_it (fun s => fr_rt_k μ r y (2 * x + s)) 2) 5 (-1, -1, 0) := am_it_2k (fr_rt_k μ r y) 5 (-1, -1, 0)
  rw [e]
  refine congrArg Prod.fst (am_it_cg (fun x hx z => ?_) _)
  unfold fc_ds_x
  refine am_it_cg (fun s hs z => ?_) _
  obtain ⟨w1, w2, -⟩ := hw.2.2.2 r hr x hx (by omega)
  exact s_ds_s h hr hx hs w1 w2 y z
theorem rt_ans {μ : am_I} {r : Nat} (y : Int32) : ∃ m, (am_it (fr_rt_k μ r y) 10 (-1, -1, 0)).1 = -1 ∨ (m < 5 ∧ (am_it (fr_rt_k μ r y) 10 (-1, -1, 0)).1 = nI m) := by
  refine am_it_keep (P := fun z : Int32 × Int32 × Int32 => ∃ m, z.1 = -1 ∨ (m < 5 ∧ z.1 = nI m)) (fun k hk z hz => ?_) ⟨0, Or.inl rfl⟩
  unfold fr_rt_k
  by_cases c1 : fr_rt_f μ r y k = 0
  · rw [if_pos c1]; exact hz
  rw [if_neg c1]
  by_cases c2 : z.2.1 < am_rd μ 14 (2 * (5 * r + k / 2) + k % 2)
  · rw [if_pos c2]; exact ⟨k / 2, Or.inr ⟨by omega, rfl⟩⟩
  rw [if_neg c2]
  by_cases c3 : am_rd μ 14 (2 * (5 * r + k / 2) + k % 2) = z.2.1
  · rw [if_pos c3]
    by_cases c4 : am_rd μ 23 (5 * r + k / 2) + am_rd μ 15 (2 * (5 * r + k / 2) + k % 2) < z.2.2
    · rw [if_pos c4]; exact ⟨k / 2, Or.inr ⟨by omega, rfl⟩⟩
    · rw [if_neg c4]; exact hz
  · rw [if_neg c3]; exact hz
theorem s_adr {y : Int32} : fc_adr y = 0 ↔ y < 0 ∨ 255 < y := by
  unfold fc_adr
  by_cases c1 : y < 0
  · rw [if_pos c1]
    exact ⟨fun _ => Or.inl c1, fun _ => rfl⟩
  rw [if_neg c1]
  by_cases c2 : 255 < y
  · rw [if_pos c2]
    exact ⟨fun _ => Or.inr c2, fun _ => rfl⟩
  · rw [if_neg c2]
    exact ⟨fun q => absurd q one_ne, fun q => by rcases q with q | q; exact absurd q c1; exact absurd q c2⟩
theorem fr_rt_eq {μ : am_I} {r : Nat} {y : Int32} (hr : r < 5) (ho : am_rd μ 0 r = 0) (hy : ¬ fc_adr y = 0) : fr_rt μ (nI r) y = (fr_ms μ r, (am_it (fr_rt_k (fr_ms μ r) r y) 10 (-1, -1, 0)).1) := by
  unfold fr_rt
  rw [fr_rtr_nI hr, if_neg one_ne, nI_clamp (by omega), if_pos ho, if_neg (fun q => hy (s_adr.mpr (Or.inl q))), if_neg (fun q => hy (s_adr.mpr (Or.inr q)))]
theorem s_rt {b c : Nat} {γ : am_I} {π : am_P} {μ : am_I} (h : am_T0 γ π μ) (hI : am_Iv b c μ) (x y : Int32) : (am_T0 (fc_rt γ π x y).1 π (fr_rt μ x y).1 ∧ am_Iv b c (fr_rt μ x y).1) ∧ (fc_rt γ π x y).2 = (fr_rt μ x y).2 := by
  unfold fc_rt
  by_cases c1 : fr_rtr x = 0
  · have z : fc_ison γ x = 0 := by unfold fc_ison; rw [if_pos c1]
    unfold fr_rt
    rw [if_pos z, if_pos c1]; exact ⟨⟨h, hI⟩, rfl⟩
  obtain ⟨r, hr, rfl⟩ := fr_rtr_of c1
  have io := s_ison h hr
  rw [nI_clamp (by omega)]
  by_cases c3 : am_rd μ 0 r = 0
  · rw [if_neg (fun q => io.mp q c3)]
    by_cases c2 : fc_adr y = 0
    · rw [if_pos c2]
      unfold fr_rt
      rw [if_neg c1, nI_clamp (by omega), if_pos c3]
      by_cases c4 : y < 0
      · rw [if_pos c4]; exact ⟨⟨h, hI⟩, rfl⟩
      · rw [if_neg c4, if_pos (by rcases s_adr.mp c2 with q | q; exact absurd q c4; exact q)]
        exact ⟨⟨h, hI⟩, rfl⟩
    rw [if_neg c2, fr_rt_eq hr c3 c2]
    have w := s_wo h hI hr
    dsimp only
    exact ⟨⟨wo_T0 h w, ms_Iv hI r⟩, s_ds (wo_T0 h w) hr w y⟩
  · rw [if_pos (io.mpr c3)]
    unfold fr_rt
    rw [if_neg c1, nI_clamp (by omega), if_neg c3]
    exact ⟨⟨h, hI⟩, rfl⟩
theorem BB_rt {μ : am_I} (h : fr_BB μ) (x y : Int32) : fr_BB (fr_rt μ x y).1 := by
  unfold fr_rt
  by_cases c1 : fr_rtr x = 0
  · rw [if_pos c1]; exact h
  rw [if_neg c1]
  by_cases c3 : am_rd μ 0 x.toNatClampNeg = 0
  · rw [if_pos c3]
    by_cases c4 : y < 0
    · rw [if_pos c4]; exact h
    rw [if_neg c4]
    by_cases c5 : 255 < y
    · rw [if_pos c5]; exact h
    · rw [if_neg c5]; exact ms_BB h _
  · rw [if_neg c3]; exact h
theorem BB_sd {y : Int32} : ∀ n μ u t, fr_BB μ → fr_BB (fr_sd y n μ u t).1 := by
  intro n
  induction n with
  | zero => intro μ u t h; exact h
  | succ n ih =>
    intro μ u t h
    unfold fr_sd
    have h1 := BB_rt h (nI u) y
    generalize fr_rt μ (nI u) y = A at h1 ⊢
    have h2 := BB_hop h1 (nI u) A.2
    generalize fr_hop A.1 (nI u) A.2 = B at h2 ⊢
    by_cases c1 : A.2 < 0
    · rw [if_pos c1]; exact h1
    rw [if_neg c1]
    by_cases c2 : A.2 = nI u
    · rw [if_pos c2]; exact h1
    rw [if_neg c2]
    by_cases c3 : t = 1
    · rw [if_pos c3]; exact h1
    rw [if_neg c3]
    by_cases c4 : fr_lnk B.1 (nI u) B.2 = 0
    · rw [if_pos c4]; exact h2
    rw [if_neg c4]
    by_cases c5 : am_rd B.1 0 B.2.toNatClampNeg = 0
    · rw [if_pos c5]; exact ih _ _ _ h2
    · rw [if_neg c5]; exact h2
theorem BB_send {μ : am_I} (h : fr_BB μ) (x y z : Int32) : fr_BB (fr_send μ x y z).1 := by
  unfold fr_send
  by_cases c1 : fr_rtr x = 0
  · rw [if_pos c1]; exact h
  rw [if_neg c1]
  by_cases c3 : am_rd μ 0 x.toNatClampNeg = 0
  · rw [if_pos c3]
    by_cases c4 : y < 0
    · rw [if_pos c4]; exact h
    rw [if_neg c4]
    by_cases c5 : 255 < y
    · rw [if_pos c5]; exact h
    rw [if_neg c5]
    by_cases c6 : z < 1
    · rw [if_pos c6]; exact h
    rw [if_neg c6]
    by_cases c7 : 15 < z
    · rw [if_pos c7]; exact h
    rw [if_neg c7]
    exact BB_sd _ _ _ _ h
  · rw [if_neg c3]; exact h

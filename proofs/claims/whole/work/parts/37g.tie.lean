def tU (γ : am_I) (π : am_P) (μ : am_I) (q n : Nat) : Prop := γ 1000 (74 + 3 * (5 * q + n)) 0 = am_rd μ 21 (5 * q + n) ∧ ∀ x, x < 5 → γ 1200 (76 + 3 * (5 * q + n)) x = 0 ∧ ((π 1100 (75 + 3 * (5 * q + n)) x = none ∧ am_rd μ 20 (5 * (5 * q + n) + x) = 0) ∨ (∃ e, π 1100 (75 + 3 * (5 * q + n)) x = some e ∧ ¬ am_rd μ 20 (5 * (5 * q + n) + x) = 0 ∧ tD γ π (some e) μ (25 + 5 * q + x)))
theorem tD_cg2 {γ γ' : am_I} {π π' : am_P} {o : Option Nat} {μ μ' : am_I} {e : Nat} (h : tD γ π o μ e) (he : 25 ≤ e) (hg : ∀ f a i, 1900 ≤ f → f < 2300 → γ' f a i = γ f a i) (hp : ∀ a i, π' 2100 a i = π 2100 a i) (hm : ∀ k y, ((k = 10 ∨ k = 11) ∧ 25 ≤ y) ∨ (k = 12 ∧ 125 ≤ y) ∨ (13 ≤ k ∧ k ≤ 15 ∧ 50 ≤ y) → am_rd μ' k y = am_rd μ k y) : tD γ' π' o μ' e := tD_cg h hg hp (hm _ _ (by omega)) (hm _ _ (by omega)) (fun n hn => hm _ _ (by omega)) (fun s hs q q1 q2 => hm _ _ (by omega))
theorem tU_cg {γ γ' : am_I} {π π' : am_P} {μ μ' : am_I} {q n : Nat} (h : tU γ π μ q n) (h1 : γ' 1000 (74 + 3 * (5 * q + n)) 0 = γ 1000 (74 + 3 * (5 * q + n)) 0) (h2 : ∀ x, x < 5 → γ' 1200 (76 + 3 * (5 * q + n)) x = γ 1200 (76 + 3 * (5 * q + n)) x) (h3 : ∀ x, x < 5 → π' 1100 (75 + 3 * (5 * q + n)) x = π 1100 (75 + 3 * (5 * q + n)) x) (h4 : am_rd μ' 21 (5 * q + n) = am_rd μ 21 (5 * q + n)) (h5 : ∀ x, x < 5 → am_rd μ' 20 (5 * (5 * q + n) + x) = am_rd μ 20 (5 * (5 * q + n) + x)) (hg : ∀ f a i, 1900 ≤ f → f < 2300 → γ' f a i = γ f a i) (hp : ∀ a i, π' 2100 a i = π 2100 a i) (hm : ∀ k y, ((k = 10 ∨ k = 11) ∧ 25 ≤ y) ∨ (k = 12 ∧ 125 ≤ y) ∨ (13 ≤ k ∧ k ≤ 15 ∧ 50 ≤ y) → am_rd μ' k y = am_rd μ k y) : tU γ' π' μ' q n := by
  obtain ⟨a1, a2⟩ := h
  refine ⟨by rw [h1, h4]; exact a1, fun x hx => ?_⟩
  obtain ⟨c1, c2⟩ := a2 x hx
  rw [h2 x hx, h3 x hx, h5 x hx]
  refine ⟨c1, ?_⟩
  rcases c2 with c | ⟨e, c3, c4, c5⟩
  · exact Or.inl c
  · exact Or.inr ⟨e, c3, c4, tD_cg2 c5 (by omega) hg hp hm⟩
theorem s_suc {b c : Nat} {γ : am_I} {π : am_P} {μ : am_I} (h : am_T0 γ π μ) (hI : am_Iv b c μ) : am_T0 γ π (am_it fr_su_c 25 μ) ∧ am_Iv b c (am_it fr_su_c 25 μ) ∧ ∀ r, r < 5 → ∀ x, x < 5 → tD γ π (π 500 (5 + 14 * r) x) (am_it fr_su_c 25 μ) (25 + 5 * r + x) := by
  have k := am_it2 (α := Unit) (R := fun m _ ν => am_T0 γ π ν ∧ am_Iv b c ν ∧ ∀ r, r < 5 → ∀ x, x < 5 → 5 * r + x < m → tD γ π (π 500 (5 + 14 * r) x) ν (25 + (5 * r + x))) (f := fun _ s => s) (g := fr_su_c) (n := 25) (s := ()) (t := μ) (fun k hk _ ν hR => ?step) ⟨h, hI, fun r _ x _ w => absurd w (Nat.not_lt_zero _)⟩
  case step =>
    obtain ⟨r1, r2, r3⟩ := hR
    unfold fr_su_c
    refine ⟨T0_m r1 (fun k y q1 q2 q3 q4 => cp_ne (by omega) (by omega) (by omega)) (cp_ck _ _ _), Iv_copy r2 (by omega) (Or.inl (by omega)) (fun r hr e => by omega), fun r hr x hx lt => ?_⟩
    by_cases e : 5 * r + x = k
    · rw [e]
      refine tD_cp ?_ (by omega)
      rw [← e]
      exact r1.2.2.2.2 r hr x hx
    · exact tD_cg (r3 r hr x hx (by omega)) (fun _ _ _ _ _ => rfl) (fun _ _ => rfl) (cp_ne (by omega) (by omega) (by omega)) (cp_ne (by omega) (by omega) (by omega)) (fun n hn => cp_ne (by omega) (by omega) (by omega)) (fun s hs q q1 q2 => cp_ne (by omega) (by omega) (by omega))
  refine ⟨k.1, k.2.1, fun r hr x hx => ?_⟩
  rw [show 25 + 5 * r + x = 25 + (5 * r + x) from by omega]
  exact k.2.2 r hr x hx (by omega)
theorem ck_old {c : Nat} (hc : c < 2 ^ 30) : ¬ nI c - 3 < -1000 := by
  have e : (nI c - 3).toInt = (c : Int) - 3 := by
    rw [Int32.toInt_sub, nI_toInt (by omega), show (3 : Int32).toInt = 3 from by decide]
    exact Int.bmod_eq_of_le (by omega) (by omega)
  rw [Int32.lt_iff_toInt_lt, e, show (-1000 : Int32).toInt = -1000 from by decide]
  omega
theorem ck_nn {c : Nat} (hc : c < 2 ^ 30) : ¬ nI c < 0 := by
  rw [show (0 : Int32) = nI 0 from rfl, nI_ltI (by omega) (by omega)]
  omega
theorem nn_ne {s : Int32} (h : ¬ s < 0) : ¬ s = -2 ∧ ¬ s = -1 := by
  constructor
  · intro e
    subst e
    exact absurd (by decide) h
  · intro e
    subst e
    exact absurd (by decide) h
theorem s_due {b c : Nat} {γ : am_I} {π : am_P} {μ : am_I} (h : am_T0 γ π μ) (hI : am_Iv b c μ) (hc : c < 2 ^ 30) {q n x : Nat} (hq : q < 5) (hn : n < 5) (hx : x < 5) : (fr_su_g (5 * q + n) (5 * (5 * q + n) + x) μ = 0 ∧ (π 500 (5 + 14 * q) x = none ∨ fc_du (γ 800 (8 + 14 * q + 2 * n) x) (am_ck μ) = 0)) ∨ (fr_su_g (5 * q + n) (5 * (5 * q + n) + x) μ = 1 ∧ (∃ e, π 500 (5 + 14 * q) x = some e) ∧ ¬ fc_du (γ 800 (8 + 14 * q + 2 * n) x) (am_ck μ) = 0 ∧ am_rd μ 18 (5 * (5 * q + n) + x) = 1 ∧ ¬ am_rd μ 6 (5 * q + n) = 0) := by
  have t := (h.2.2.2.1 q hq n hn).2.2.2.2.2.2.2 x hx
  unfold fr_su_g
  rcases t with ⟨t1, t2⟩ | ⟨t1, t2⟩
  · refine Or.inl ⟨?_, Or.inr ?_⟩
    · rw [if_pos t1, ite_self]
    · unfold fc_du
      rw [if_pos t2]
  · have o : ¬ am_rd μ 18 (5 * (5 * q + n) + x) = 0 := by rw [t1]; exact one_ne
    obtain ⟨g1, g2⟩ := hI.2.2 q hq n hn x hx o
    have he : ∃ e, π 500 (5 + 14 * q) x = some e := by
      rcases tD_pos (h.2.2.2.2 q hq x hx) with ⟨e1, e2⟩ | ⟨d, e1, -⟩
      · exact absurd g2 e2
      · exact ⟨d, e1⟩
    rw [if_neg g1, if_neg o]
    unfold fc_du
    rcases t2 with ⟨t2, t3⟩ | ⟨t2, t3⟩
    · refine Or.inr ⟨?_, he, ?_, t1, g1⟩
      · rw [t3, hI.1.1, if_neg (ck_old hc)]
      · rw [t2, if_neg (by decide), if_pos rfl]
        exact one_ne
    · obtain ⟨z1, z2⟩ := nn_ne t3
      rw [if_neg z1, if_neg z2, t2]
      by_cases d : am_ck μ - 3 < am_rd μ 19 (5 * (5 * q + n) + x)
      · rw [if_pos d]
        exact Or.inl ⟨rfl, Or.inr rfl⟩
      · rw [if_neg d]
        exact Or.inr ⟨rfl, he, one_ne, t1, g1⟩
def ldR (b c i q n : Nat) (γ0 : am_I) (π0 : am_P) (μ0 : am_I) (x : Nat) (z : am_I × am_P × Int32) (w : am_I × Int32) : Prop := am_T0 z.1 z.2.1 w.1 ∧ am_Iv b c w.1 ∧ z.2.2 = w.2 ∧ (∃ m, m ≤ x ∧ w.2 = nI m) ∧ (¬ w.2 = 0 → ¬ am_rd μ0 6 (5 * q + n) = 0) ∧ (∀ y, y < x → z.1 1200 (76 + 3 * i) y = 0 ∧ ((z.2.1 1100 (75 + 3 * i) y = none ∧ am_rd w.1 20 (5 * i + y) = 0) ∨ (∃ e, z.2.1 1100 (75 + 3 * i) y = some e ∧ ¬ am_rd w.1 20 (5 * i + y) = 0 ∧ tD γ0 π0 (some e) μ0 (25 + 5 * q + y)))) ∧ (∀ f a j, ¬ f = 800 → ¬ (f = 1200 ∧ a = 76 + 3 * i) → z.1 f a j = γ0 f a j) ∧ (∀ f a j, ¬ (f = 1100 ∧ a = 75 + 3 * i) → z.2.1 f a j = π0 f a j) ∧ (∀ k y, ¬ k = 19 → ¬ (k = 20 ∧ 5 * i ≤ y ∧ y < 5 * i + 5) → am_rd w.1 k y = am_rd μ0 k y) ∧ am_ck w.1 = am_ck μ0
theorem s_ld_x {b c q n x : Nat} {γ0 : am_I} {π0 : am_P} {μ0 : am_I} {z : am_I × am_P × Int32} {w : am_I × Int32} (hc : c < 2 ^ 30) (hq : q < 5) (hn : n < 5) (hx : x < 5) (h25 : ∀ y, y < 5 → tD γ0 π0 (π0 500 (5 + 14 * q) y) μ0 (25 + 5 * q + y)) (h : ldR b c (5 * q + n) q n γ0 π0 μ0 x z w) : ldR b c (5 * q + n) q n γ0 π0 μ0 (x + 1) (fc_ld_x (5 * q + n) q n (am_ck μ0) x z) (fr_su_x (5 * q + n) x w) := by
  obtain ⟨h1, h2, h3, ⟨m, hm, h4⟩, h5, h6, h7, h8, h9, h10⟩ := h
  have D := s_due h1 h2 hc hq hn hx
  have cw : am_ck w.1 = nI c := h2.1.1
  unfold fc_ld_x fc_ld_y fr_su_x fr_su_y fr_su_w
  have p500 : am_u z.2.1 1100 (75 + 3 * (5 * q + n)) x none 500 (5 + 14 * q) x = z.2.1 500 (5 + 14 * q) x := am_u_ne (by decide)
  rw [p500]
  rw [h10] at D cw
  have hT : ∀ o v, am_T0 (am_u z.1 1200 (76 + 3 * (5 * q + n)) x 0) (am_u z.2.1 1100 (75 + 3 * (5 * q + n)) x o) (am_wr w.1 20 (5 * (5 * q + n) + x) v) := fun o v => T0_fr h1 (fun f a i q1 q2 q3 => u_ne (by omega)) (fun f a i q1 => am_u_ne q1) (fun k y q1 q2 q3 => rd_nk (by omega)) (am_ck_wr _ _ _ _)
  have hV : ∀ v, am_Iv b c (am_wr w.1 20 (5 * (5 * q + n) + x) v) := fun v => h2.f (by decide) (by decide) (by decide)
  rcases D with ⟨D1, D2⟩ | ⟨D1, ⟨e, D2⟩, D3, D4, D5⟩
  · have E : ((z.2.1 500 (5 + 14 * q) x).elim (am_u z.1 1200 (76 + 3 * (5 * q + n)) x 0, am_u z.2.1 1100 (75 + 3 * (5 * q + n)) x none, z.2.2) (fc_ld_e (5 * q + n) q n (am_ck μ0) x (am_u z.1 1200 (76 + 3 * (5 * q + n)) x 0) (am_u z.2.1 1100 (75 + 3 * (5 * q + n)) x none) z.2.2)) = (am_u z.1 1200 (76 + 3 * (5 * q + n)) x 0, am_u z.2.1 1100 (75 + 3 * (5 * q + n)) x none, z.2.2) := by
      rcases D2 with D2 | D2
      · rw [D2]; rfl
      · cases z.2.1 500 (5 + 14 * q) x with
        | none => rfl
        | some e =>
          show fc_ld_e _ _ _ _ _ _ _ _ _ = _
          unfold fc_ld_e
          rw [am_u_ne (by decide), if_pos D2]
    rw [E, D1, if_pos rfl, if_pos rfl, wr_self rfl]
    refine ⟨hT none 0, hV 0, h3, ⟨m, by omega, h4⟩, h5, fun y hy => ?_, fun f a j q1 q2 => ?_, fun f a j q1 => ?_, fun k y q1 q2 => ?_, ?_⟩
    · dsimp only
      by_cases ey : y = x
      · subst ey
        rw [am_u_at, am_u_at, rd_at]
        exact ⟨rfl, Or.inl ⟨rfl, rfl⟩⟩
      · rw [u_ne (by omega), u_ne (by omega), rd_ne (by omega)]
        exact h6 y (by omega)
    · dsimp only
      rw [u_ne (by omega)]; exact h7 f a j q1 q2
    · dsimp only
      rw [u_ne (by omega)]; exact h8 f a j q1
    · dsimp only
      rw [rd_ne (by omega)]; exact h9 k y q1 q2
    · dsimp only
      rw [am_ck_wr]; exact h10
  · rw [D1, D2, if_neg one_ne, if_neg one_ne]
    dsimp only [Option.elim]
    unfold fc_ld_e
    rw [am_u_ne (by decide : (800 : Nat) ≠ 1200), if_neg D3]
    have ck1 : am_ck (am_wr w.1 20 (5 * (5 * q + n) + x) 1) = am_ck μ0 := by rw [am_ck_wr]; exact h10
    rw [ck1]
    have u2 : am_u (am_u z.2.1 1100 (75 + 3 * (5 * q + n)) x none) 1100 (75 + 3 * (5 * q + n)) x (some e) = am_u z.2.1 1100 (75 + 3 * (5 * q + n)) x (some e) := by
      funext f a j
      unfold am_u
      split
      · rfl
      · rfl
    rw [u2]
    have e5 : π0 500 (5 + 14 * q) x = some e := by rw [← D2, h8 _ _ _ (by omega)]
    have t5 := h25 x hx
    rw [e5] at t5
    refine ⟨?_, (hV 1).f (by decide) (by decide) (by decide), ?_, ⟨m + 1, by omega, ?_⟩, fun _ => ?_, fun y hy => ?_, fun f a j q1 q2 => ?_, fun f a j q1 => ?_, fun k y q1 q2 => ?_, ?_⟩
    · dsimp only
      refine T0_x (hT (some e) 1) hq hn hx (fun f a i q => u_ne q) (fun k y q => rd_ne (by omega)) (am_ck_wr _ _ _ _) ?_
      rw [am_u_at, rd_at, rd_nk (by decide), rd_nk (by decide), D4]
      refine Or.inr ⟨rfl, Or.inr ⟨rfl, ?_⟩⟩
      rw [cw]
      exact ck_nn hc
    · dsimp only
      rw [h3]
    · dsimp only
      rw [h4]
      exact nI_add m 1
    · rw [h9 _ _ (by decide) (by omega)] at D5
      exact D5
    · dsimp only
      rw [am_u_ne (by decide), rd_nk (by decide)]
      by_cases ey : y = x
      · subst ey
        rw [am_u_at, am_u_at, rd_at]
        exact ⟨rfl, Or.inr ⟨e, rfl, one_ne, t5⟩⟩
      · rw [u_ne (by omega), u_ne (by omega), rd_ne (by omega)]
        exact h6 y (by omega)
    · dsimp only
      rw [u_ne (by omega), u_ne (by omega)]; exact h7 f a j q1 q2
    · dsimp only
      rw [u_ne (by omega)]; exact h8 f a j q1
    · dsimp only
      rw [rd_ne (by omega), rd_ne (by omega)]; exact h9 k y q1 q2
    · dsimp only
      rw [am_ck_wr]; exact ck1
theorem ov1_01 {μ : am_I} {q n : Nat} : (fr_ov1 μ q n).2 = 0 ∨ (fr_ov1 μ q n).2 = 1 := by
  unfold fr_ov1
  split
  · exact Or.inl rfl
  · split
    · exact Or.inr rfl
    · exact Or.inl rfl
def suR (b c i : Nat) (z : am_I × am_P) (μ : am_I) : Prop := am_T0 z.1 z.2 μ ∧ am_Iv b c μ ∧ (∀ r, r < 5 → ∀ x, x < 5 → tD z.1 z.2 (z.2 500 (5 + 14 * r) x) μ (25 + 5 * r + x)) ∧ ∀ q, q < 5 → ∀ n, n < 5 → 5 * q + n < i → tU z.1 z.2 μ q n
theorem s_su_f {b c q n : Nat} {γ0 : am_I} {π0 : am_P} {μ0 : am_I} (hq : q < 5) (hn : n < 5) (h : suR b c (5 * q + n) (γ0, π0) μ0) {z : am_I × am_P × Int32} {w : am_I × Int32} (hl : ldR b c (5 * q + n) q n γ0 π0 μ0 5 z w) : suR b c (5 * q + n + 1) (fc_su_a (5 * q + n) q n z) (fr_su_e (5 * q + n) w) := by
  obtain ⟨h1, h2, h3, ⟨m, hm, h4⟩, h5, h6, h7, h8, h9, h10⟩ := hl
  obtain ⟨s1, s2, s3, s4⟩ := h
  dsimp only at s1 s2 s3 s4
  have k1 : (5 * q + n) / 5 = q := by omega
  have k2 : (5 * q + n) % 5 = n := by omega
  have fin : ∀ γ' μ', am_T0 γ' z.2.1 μ' → am_Iv b c μ' → (∀ f a j, ¬ f = 701 → ¬ f = 1800 → ¬ (f = 1000 ∧ a = 74 + 3 * (5 * q + n)) → γ' f a j = z.1 f a j) → (∀ k y, ¬ k = 2 → ¬ k = 9 → ¬ (k = 21 ∧ y = 5 * q + n) → am_rd μ' k y = am_rd w.1 k y) → γ' 1000 (74 + 3 * (5 * q + n)) 0 = am_rd μ' 21 (5 * q + n) → suR b c (5 * q + n + 1) (γ', z.2.1) μ' := by
    intro γ' μ' f1 f2 f3 f4 f5
    refine ⟨f1, f2, fun r hr x hx => ?_, fun q' hq' n' hn' lt => ?_⟩
    · dsimp only
      rw [h8 _ _ _ (by omega)]
      exact tD_cg2 (s3 r hr x hx) (by omega) (fun f a i p1 p2 => by rw [f3 _ _ _ (by omega) (by omega) (by omega), h7 _ _ _ (by omega) (by omega)]) (fun a i => h8 _ _ _ (by omega)) (fun k y p => by rw [f4 _ _ (by omega) (by omega) (by omega), h9 _ _ (by omega) (by omega)])
    · dsimp only
      by_cases e : q' = q ∧ n' = n
      · obtain ⟨rfl, rfl⟩ := e
        refine ⟨f5, fun x hx => ?_⟩
        obtain ⟨y1, y2⟩ := h6 x hx
        rw [f3 _ _ _ (by omega) (by omega) (by omega), f4 _ _ (by omega) (by omega) (by omega)]
        refine ⟨y1, ?_⟩
        rcases y2 with y2 | ⟨e, y2, y3, y4⟩
        · exact Or.inl y2
        · exact Or.inr ⟨e, y2, y3, tD_cg2 y4 (by omega) (fun f a i p1 p2 => by rw [f3 _ _ _ (by omega) (by omega) (by omega), h7 _ _ _ (by omega) (by omega)]) (fun a i => h8 _ _ _ (by omega)) (fun k y p => by rw [f4 _ _ (by omega) (by omega) (by omega), h9 _ _ (by omega) (by omega)])⟩
      · refine tU_cg (s4 q' hq' n' hn' (by omega)) ?_ (fun x hx => ?_) (fun x hx => ?_) ?_ (fun x hx => ?_) (fun f a i p1 p2 => ?_) (fun a i => ?_) (fun k y p => ?_)
        · rw [f3 _ _ _ (by omega) (by omega) (by omega), h7 _ _ _ (by omega) (by omega)]
        · rw [f3 _ _ _ (by omega) (by omega) (by omega), h7 _ _ _ (by omega) (by omega)]
        · exact h8 _ _ _ (by omega)
        · rw [f4 _ _ (by omega) (by omega) (by omega), h9 _ _ (by omega) (by omega)]
        · rw [f4 _ _ (by omega) (by omega) (by omega), h9 _ _ (by omega) (by omega)]
        · rw [f3 _ _ _ (by omega) (by omega) (by omega), h7 _ _ _ (by omega) (by omega)]
        · exact h8 _ _ _ (by omega)
        · rw [f4 _ _ (by omega) (by omega) (by omega), h9 _ _ (by omega) (by omega)]
  unfold fc_su_a fc_su_c fr_su_e fr_su_f
  rw [h3, k1, k2]
  by_cases p : 0 < w.2
  · rw [if_pos p, if_pos p]
    have w0 : ¬ w.2 = 0 := fun q => by
      rw [q] at p
      exact absurd p (by decide)
    have c0 : ¬ am_rd w.1 1 (5 * q + n) = 0 := by
      have := h5 w0
      rw [← h9 _ _ (by decide) (by omega)] at this
      exact (h2.2.1 _ (by omega)).2.2 this
    have g1 : am_T0 (am_u z.1 1000 (74 + 3 * (5 * q + n)) 0 0) z.2.1 w.1 := T0_fr h1 (fun f a i q1 q2 q3 => u_ne (by omega)) (fun _ _ _ _ => rfl) (fun _ _ _ _ _ => rfl) rfl
    have g2 := T0_ct (T0_ct g1 2 w.2) 1 1
    have i2 : am_Iv b c (am_wr (am_wr w.1 9 2 (am_rd w.1 9 2 + w.2)) 9 1 (am_rd (am_wr w.1 9 2 (am_rd w.1 9 2 + w.2)) 9 1 + 1)) := (h2.f (by decide) (by decide) (by decide)).f (by decide) (by decide) (by decide)
    obtain ⟨g3, e3⟩ := s_arr g2 i2 hq hn (by rw [rd_nk (by decide), rd_nk (by decide)]; exact c0)
    have i3 := Iv_ov1 i2 q n
    have a3 : ∀ f a j, ¬ f = 701 → ¬ f = 1800 → ¬ (f = 1000 ∧ a = 74 + 3 * (5 * q + n)) → (fc_arr (fc_ct (fc_ct (am_u z.1 1000 (74 + 3 * (5 * q + n)) 0 0) 2 w.2) 1 1) q n).1 f a j = z.1 f a j := fun f a j p1 p2 p3 => by
      rw [arr_g p1 p2]
      unfold fc_ct
      rw [am_u_ne p2, am_u_ne p2, u_ne (by omega)]
    have m3 : ∀ k y, ¬ k = 2 → ¬ k = 9 → am_rd (fr_ov1 (am_wr (am_wr w.1 9 2 (am_rd w.1 9 2 + w.2)) 9 1 (am_rd (am_wr w.1 9 2 (am_rd w.1 9 2 + w.2)) 9 1 + 1)) q n).1 k y = am_rd w.1 k y := fun k y p1 p2 => by rw [ov1_rd p1 p2, rd_nk p2, rd_nk p2]
    have o3 := ov1_01 (μ := am_wr (am_wr w.1 9 2 (am_rd w.1 9 2 + w.2)) 9 1 (am_rd (am_wr w.1 9 2 (am_rd w.1 9 2 + w.2)) 9 1 + 1)) (q := q) (n := n)
    unfold fr_over fr_su_v fc_su_b
    rw [ct_cm (by decide : ¬ 1 = 2)]
    generalize fc_arr (fc_ct (fc_ct (am_u z.1 1000 (74 + 3 * (5 * q + n)) 0 0) 2 w.2) 1 1) q n = A at g3 e3 a3 ⊢
    generalize fr_ov1 (am_wr (am_wr w.1 9 2 (am_rd w.1 9 2 + w.2)) 9 1 (am_rd (am_wr w.1 9 2 (am_rd w.1 9 2 + w.2)) 9 1 + 1)) q n = B at g3 e3 i3 m3 o3 ⊢
    have e21 : (if B.2 = 0 then (0 : Int32) else 1) = B.2 := by
      rcases o3 with o | o
      · rw [if_pos o, o]
      · rw [o, if_neg one_ne]
    rw [e21, e3]
    refine fin _ _ ?_ (i3.f (by decide) (by decide) (by decide)) (fun f a j p1 p2 p3 => ?_) (fun k y p1 p2 p3 => ?_) ?_
    · exact T0_fr g3 (fun f a i q1 q2 q3 => u_ne (by omega)) (fun _ _ _ _ => rfl) (fun k y q1 q2 q3 => rd_nk (by omega)) (am_ck_wr _ _ _ _)
    · rw [u_ne (by omega)]; exact a3 f a j p1 p2 p3
    · rw [rd_ne (by omega)]; exact m3 k y p1 p2
    · rw [am_u_at, rd_at]
  · rw [if_neg p, if_neg p]
    have w0 : w.2 = 0 := Decidable.byContradiction (fun q => p ((lt_ne (am_lb.nn ⟨m, hm, h4⟩ (by decide))).mpr q))
    rw [w0, wr_self (Int32.add_zero _).symm]
    refine fin _ _ ?_ (h2.f (by decide) (by decide) (by decide)) (fun f a j p1 p2 p3 => ?_) (fun k y p1 p2 p3 => ?_) ?_
    · exact T0_fr h1 (fun f a i q1 q2 q3 => u_ne (by omega)) (fun _ _ _ _ => rfl) (fun k y q1 q2 q3 => rd_nk (by omega)) (am_ck_wr _ _ _ _)
    · rw [u_ne (by omega)]
    · rw [rd_ne (by omega)]
    · rw [am_u_at, rd_at]
theorem s_su {b c : Nat} {γ : am_I} {π : am_P} {μ : am_I} (h : am_T0 γ π μ) (hI : am_Iv b c μ) (hc : c < 2 ^ 30) : suR b c 25 (fc_su γ π) (fr_su μ) := by
  obtain ⟨c1, c2, c3⟩ := s_suc h hI
  unfold fr_su
  generalize am_it fr_su_c 25 μ = μ1 at c1 c2 c3 ⊢
  refine am_it25 (R := fun i (z : am_I × am_P) μ => suR b c i z μ) (f := fc_su_n) (g := fr_su_b) (s := (γ, π)) (t := μ1) (fun q hq n hn s t hR => ?_) ⟨c1, c2, c3, fun q _ n _ w => absurd w (Nat.not_lt_zero _)⟩
  unfold fc_su_n fr_su_b fc_ld
  rw [show q * 5 + n = 5 * q + n from by omega, hR.1.1]
  refine s_su_f (γ0 := s.1) (π0 := s.2) hq hn hR ?_
  exact am_it2 (R := fun x z w => ldR b c (5 * q + n) q n s.1 s.2 t x z w) (fun x hx z w hl => s_ld_x hc hq hn hx (fun y hy => hR.2.2.1 q hq y hy) hl) ⟨hR.1, hR.2.1, rfl, ⟨0, Nat.zero_le _, rfl⟩, fun w => absurd rfl w, fun y hy => absurd hy (Nat.not_lt_zero _), fun _ _ _ _ _ => rfl, fun _ _ _ _ => rfl, fun _ _ _ _ => rfl, rfl⟩

theorem i32_tri (u v : Int32) : u < v ∨ u = v ∨ v < u := by
  rw [Int32.lt_iff_toInt_lt, Int32.lt_iff_toInt_lt]
  by_cases h : u.toInt = v.toInt
  · exact Or.inr (Or.inl (Int32.toInt_inj.mp h))
  · omega
theorem i32_as {u v : Int32} (h : u < v) : ¬ v < u ∧ ¬ u = v ∧ ¬ v = u := by
  rw [Int32.lt_iff_toInt_lt] at h
  refine ⟨?_, fun e => ?_, fun e => ?_⟩
  · rw [Int32.lt_iff_toInt_lt]; omega
  · subst e; omega
  · subst e; omega
theorem old_tri {μ : am_I} {f t : Nat} (h : fr_old μ f t = 0) : fr_old μ t f = 0 ↔ ¬ fr_same μ f t = 0 := by
  unfold fr_old at h
  unfold fr_old fr_same
  generalize am_rd μ 10 f = a at h ⊢
  generalize am_rd μ 10 t = b at h ⊢
  generalize am_rd μ 11 f = p at h ⊢
  generalize am_rd μ 11 t = q at h ⊢
  rcases i32_tri a b with h1 | h1 | h1
  · rw [if_pos h1] at h
    exact absurd h one_ne
  · subst h1
    have nl : ¬ a < a := fun w => (i32_as w).1 w
    rw [if_neg nl, if_pos rfl] at h
    rw [if_neg nl, if_pos rfl, if_pos rfl]
    rcases i32_tri p q with h2 | h2 | h2
    · rw [if_pos h2] at h
      exact absurd h one_ne
    · subst h2
      have nl2 : ¬ p < p := fun w => (i32_as w).1 w
      rw [if_neg nl2, if_pos rfl]
      exact ⟨fun _ => one_ne, fun _ => rfl⟩
    · rw [if_pos h2, if_neg (i32_as h2).2.2]
      exact ⟨fun w => absurd w one_ne, fun w => absurd rfl w⟩
  · rw [if_pos h1, if_neg (i32_as h1).2.2]
    exact ⟨fun w => absurd w one_ne, fun w => absurd rfl w⟩
theorem s_od {γ : am_I} {π : am_P} {μ : am_I} (h : am_T0 γ π μ) {n e : Nat} {v : Int32} (hn : n < 5) (hv : v = am_rd μ 10 e) : am_T0 (fc_od γ n v) π (am_wr (fr_tk_l n e μ) 17 n 1) := by
  obtain ⟨a1, a2, a3, -, -⟩ := h.2.2.1 n hn
  unfold fc_od fr_tk_l fc_max
  refine T0_rt h hn (fun f a i q => ?_) (fun k y q => ?_) ?_ ?_ ?_ ?_
  · rw [u_ne (by omega), u_ne (by omega)]
  · rw [rd_ne (by omega), rd_ne (by omega)]
  · rw [am_ck_wr, am_ck_wr]
  · rw [am_u_ne (by decide), am_u_ne (by decide), rd_nk (by decide), rd_nk (by decide)]; exact a1
  · rw [am_u_ne (by decide), am_u_at, rd_nk (by decide), rd_at, a2, hv]
  · rw [am_u_at, rd_at]
theorem s_tk_n {b c : Nat} {γ : am_I} {π : am_P} {μ : am_I} (h : am_T0 γ π μ) (hI : am_Iv b c μ) {e q n x : Nat} {l g : Int32} (hq : q < 5) (hn : n < 5) (hx : x < 5) (hD : tD γ π (some e) μ (25 + 5 * q + x)) (hl : ¬ l = 0) : am_T0 (fc_tk_n γ π e q n x).1.1 (fc_tk_n γ π e q n x).1.2 (fr_tk_p q n x l g μ) ∧ am_Iv b c (fr_tk_p q n x l g μ) ∧ (fc_tk_n γ π e q n x).2 = 1 := by
  have hp : γ 1901 e 0 = am_rd μ 10 (25 + 5 * q + x) ∧ 0 < am_rd μ 10 (25 + 5 * q + x) := by
    rcases hD with ⟨e1, -⟩ | ⟨a, e1, e2, e3, -⟩
    · cases e1
    · cases e1
      exact ⟨e2, e3⟩
  unfold fc_tk_n fr_tk_p
  rw [if_neg hl]
  by_cases xn : x = n
  · rw [if_pos xn, if_pos xn]
    refine ⟨s_od h hn hp.1, ?_, rfl⟩
    unfold fr_tk_l
    refine (hI.w16 ?_).f (by decide) (by decide) (by decide)
    split
    · exact hI.1.2.2.2.1 _
    · exact hI.1.2.2.2.2.2.1 _
  · rw [if_neg xn, if_neg xn]
    dsimp only
    refine ⟨?_, ?_, rfl⟩
    · rw [ct_in]
      exact s_inst (T0_ct h 6 1) q hn hx (by omega) (tD_cg hD (fun f a i f1 f2 => u_ne (by omega)) (fun a i => rfl) (rd_nk (by decide)) (rd_nk (by decide)) (fun n hn => rd_nk (by decide)) (fun s hs q q1 q2 => rd_nk (by omega)))
    · refine Iv_inst (hI.f (by decide) (by decide) (by decide)) hn hx (by omega) ?_ (fun r hr e => by omega)
      rw [rd_nk (by decide)]; exact hp.2
theorem s_tk {b c : Nat} {γ : am_I} {π : am_P} {μ : am_I} (h : am_T0 γ π μ) (hI : am_Iv b c μ) {e q n x : Nat} {l g : Int32} (hq : q < 5) (hn : n < 5) (hx : x < 5) (hD : tD γ π (some e) μ (25 + 5 * q + x)) (h6 : ¬ am_rd μ 6 (5 * n + q) = 0) (hl : l = fr_old μ (5 * n + x) (25 + 5 * q + x)) (hg : g = fr_tk_g (5 * n + x) (25 + 5 * q + x) l μ) : am_T0 (fc_tk γ π e q n x).1.1 (fc_tk γ π e q n x).1.2 (fr_tk_p q n x l g μ) ∧ am_Iv b c (fr_tk_p q n x l g μ) ∧ (fc_tk γ π e q n x).2 = g ∧ (g = 0 ∨ g = 1) := by
  have hp : γ 1901 e 0 = am_rd μ 10 (25 + 5 * q + x) ∧ 0 < am_rd μ 10 (25 + 5 * q + x) ∧ γ 1902 e 0 = am_rd μ 11 (25 + 5 * q + x) := by
    rcases hD with ⟨e1, -⟩ | ⟨a, e1, e2, e3, e4, -⟩
    · cases e1
    · cases e1
      exact ⟨e2, e3, e4⟩
  have g1 : ¬ l = 0 → g = 1 := fun w => by
    rw [hg]
    unfold fr_tk_g
    rw [if_neg w]
  unfold fc_tk
  rcases h.2.2.2.2 n hn x hx with ⟨f1, f2⟩ | ⟨f, f1, f2, f3, f4, -⟩
  · have l1 : ¬ l = 0 := by
      rw [hl]
      unfold fr_old
      rw [f2, if_pos hp.2.1]
      exact one_ne
    rw [f1]
    obtain ⟨k1, k2, k3⟩ := s_tk_n (g := g) h hI hq hn hx hD l1
    exact ⟨k1, k2, k3.trans (g1 l1).symm, Or.inr (g1 l1)⟩
  · rw [f1]
    show am_T0 (fc_tk_e γ π e q n x f).1.1 (fc_tk_e γ π e q n x f).1.2 (fr_tk_p q n x l g μ) ∧ am_Iv b c (fr_tk_p q n x l g μ) ∧ (fc_tk_e γ π e q n x f).2 = g ∧ (g = 0 ∨ g = 1)
    unfold fc_tk_e
    rw [s_nw hp.1 hp.2.2 f2 f4, ← hl]
    by_cases l0 : l = 0
    · rw [if_pos l0, s_nw f2 f4 hp.1 hp.2.2]
      have tri := old_tri (hl.symm.trans l0)
      have gg : g = if fr_same μ (5 * n + x) (25 + 5 * q + x) = 0 then 0 else 1 := by
        rw [hg]
        unfold fr_tk_g
        rw [if_pos l0]
      unfold fr_tk_p
      rw [if_pos l0]
      by_cases l2 : fr_old μ (25 + 5 * q + x) (5 * n + x) = 0
      · have e1 : g = 1 := by rw [gg, if_neg (tri.mp l2)]
        rw [if_pos l2, e1, if_neg one_ne]
        exact ⟨T0_x0 h hn hq hx, hI.w18z, rfl, Or.inr rfl⟩
      · have s0 : fr_same μ (5 * n + x) (25 + 5 * q + x) = 0 := Decidable.byContradiction (fun w => l2 (tri.mpr w))
        have e0 : g = 0 := by rw [gg, if_pos s0]
        rw [if_neg l2, e0, if_pos rfl]
        exact ⟨T0_ow h hn hq hx, Iv_owe hI 0 hn hq hx h6 f3, rfl, Or.inl rfl⟩
    · rw [if_neg l0]
      obtain ⟨k1, k2, k3⟩ := s_tk_n (g := g) h hI hq hn hx hD l0
      exact ⟨k1, k2, k3.trans (g1 l0).symm, Or.inr (g1 l0)⟩
theorem in_g {γ : am_I} {r x m f a i : Nat} (h : ¬ f = 800) : fc_in γ r x m f a i = γ f a i := it_g _ (fun n hn γ => am_u_ne h)
theorem tk_g {γ : am_I} {π : am_P} {e q n x f a i : Nat} (h1 : ¬ f = 302) (h2 : ¬ f = 303) (h3 : ¬ f = 800) (h4 : ¬ f = 1800) : (fc_tk γ π e q n x).1.1 f a i = γ f a i := by
  have k : (fc_tk_n γ π e q n x).1.1 f a i = γ f a i := by
    unfold fc_tk_n
    split
    · dsimp only
      unfold fc_od
      rw [am_u_ne h2, am_u_ne h1]
    · dsimp only
      unfold fc_ct
      rw [am_u_ne h4, in_g h3]
  unfold fc_tk
  cases π 500 (5 + 14 * n) x with
  | none => exact k
  | some g =>
    show (fc_tk_e γ π e q n x g).1.1 f a i = γ f a i
    unfold fc_tk_e
    split
    · split
      · exact am_u_ne h3
      · exact ow_g h3
    · exact k
theorem tk_p {γ : am_I} {π : am_P} {e q n x f a i : Nat} (h1 : ¬ f = 500) : (fc_tk γ π e q n x).1.2 f a i = π f a i := by
  have k : (fc_tk_n γ π e q n x).1.2 f a i = π f a i := by
    unfold fc_tk_n
    split
    · rfl
    · exact am_u_ne h1
  unfold fc_tk
  cases π 500 (5 + 14 * n) x with
  | none => exact k
  | some g =>
    show (fc_tk_e γ π e q n x g).1.2 f a i = π f a i
    unfold fc_tk_e
    split
    · split
      · rfl
      · rfl
    · exact k
def tkM (k y : Nat) : Prop := ¬ k = 9 ∧ ¬ (16 ≤ k ∧ k ≤ 19) ∧ ¬ k = 22 ∧ ¬ ((k = 10 ∨ k = 11) ∧ y < 25) ∧ ¬ (k = 12 ∧ y < 125) ∧ ¬ (13 ≤ k ∧ k ≤ 15 ∧ y < 50)
theorem tkp_rd {μ : am_I} {q n x k y : Nat} {l g : Int32} (hn : n < 5) (hx : x < 5) (h : tkM k y) : am_rd (fr_tk_p q n x l g μ) k y = am_rd μ k y := by
  obtain ⟨h1, h2, h3, h4, h5, h6⟩ := h
  unfold fr_tk_p
  split
  · split
    · exact ow_rd (by omega)
    · exact rd_nk (by omega)
  · split
    · unfold fr_tk_l
      rw [rd_nk (by omega), rd_nk (by omega)]
    · rw [inst_rd (by omega) (by omega) (by omega) (by omega), rd_nk h1]
theorem tkp_22 {μ : am_I} {q n x y : Nat} {l g : Int32} : am_rd (fr_tk_p q n x l g μ) 22 y = am_rd μ 22 y := by
  unfold fr_tk_p
  split
  · split
    · exact ow_rd (by omega)
    · exact rd_nk (by omega)
  · split
    · unfold fr_tk_l
      rw [rd_nk (by omega), rd_nk (by omega)]
    · rw [inst_rd (by omega) (by omega) (by omega) (by omega), rd_nk (by omega)]
def dvR (b c i q n : Nat) (γ0 : am_I) (π0 : am_P) (μ0 : am_I) (x : Nat) (z : am_I × am_P × Int32) (w : am_I × Int32) : Prop := am_T0 z.1 z.2.1 w.1 ∧ am_Iv b c w.1 ∧ (z.2.2 = 0 ↔ w.2 = 0) ∧ (∃ m, m ≤ x ∧ w.2 = nI m) ∧ (∀ y, y < x → z.1 1200 (76 + 3 * i) y = am_rd w.1 22 y ∧ (¬ am_rd w.1 22 y = 0 → ∃ e, π0 1100 (75 + 3 * i) y = some e ∧ tD γ0 π0 (some e) μ0 (25 + 5 * q + y))) ∧ (∀ y, x ≤ y → y < 5 → z.1 1200 (76 + 3 * i) y = 0) ∧ (∀ f a j, ¬ f = 302 → ¬ f = 303 → ¬ f = 800 → ¬ f = 1800 → ¬ (f = 1200 ∧ a = 76 + 3 * i) → z.1 f a j = γ0 f a j) ∧ (∀ f a j, ¬ f = 500 → z.2.1 f a j = π0 f a j) ∧ (∀ k y, tkM k y → am_rd w.1 k y = am_rd μ0 k y)
theorem nI_s0 {m : Nat} (h : m ≤ 5) : ¬ nI m + 1 = 0 := by
  have e : nI m + 1 = nI (m + 1) := nI_add m 1
  rw [e]
  intro q
  have z := congrArg Int32.toInt q
  rw [nI_toInt (by omega), show (0 : Int32).toInt = 0 from by decide] at z
  omega
theorem s_dv_x {b c q n x : Nat} {γ0 : am_I} {π0 : am_P} {μ0 : am_I} {z : am_I × am_P × Int32} {w : am_I × Int32} (hq : q < 5) (hn : n < 5) (hx : x < 5) (hU : tU γ0 π0 μ0 q n) (h6 : ¬ am_rd μ0 6 (5 * n + q) = 0) (h : dvR b c (5 * q + n) q n γ0 π0 μ0 x z w) : dvR b c (5 * q + n) q n γ0 π0 μ0 (x + 1) (fc_dv_x (5 * q + n) q n x z) (fr_tk_x q n x w) := by
  obtain ⟨h1, h2, h3, ⟨m, hm, h4⟩, h5, h55, h7, h8, h9⟩ := h
  have g1 : ∀ v, am_T0 z.1 z.2.1 (am_wr w.1 22 x v) := fun v => T0_fr h1 (fun _ _ _ _ _ _ => rfl) (fun _ _ _ _ => rfl) (fun k y q1 q2 q3 => rd_nk (by omega)) (am_ck_wr _ _ _ _)
  have i1 : ∀ v, am_Iv b c (am_wr w.1 22 x v) := fun v => h2.f (by decide) (by decide) (by decide)
  unfold fc_dv_x fr_tk_x fr_tk_y
  rw [h8 _ _ _ (by omega), rd_nk (by decide), h9 20 _ ⟨by omega, by omega, by omega, by omega, by omega, by omega⟩]
  rcases (hU.2 x hx).2 with ⟨u1, u2⟩ | ⟨e, u1, u2, u3⟩
  · rw [u1, if_pos u2]
    refine ⟨g1 0, i1 0, h3, ⟨m, by omega, h4⟩, fun y hy => ?_, fun y y1 y2 => h55 y (by omega) y2, h7, h8, fun k y q1 => ?_⟩
    · dsimp only [Option.elim]
      by_cases ey : y = x
      · subst ey
        rw [rd_at]
        exact ⟨h55 y (Nat.le_refl y) hx, fun w => absurd rfl w⟩
      · rw [rd_ne (by omega)]
        exact h5 y (by omega)
    · dsimp only
      rw [rd_nk q1.2.2.1]; exact h9 k y q1
  · rw [u1, if_neg u2]
    dsimp only [Option.elim]
    unfold fr_tk_h fr_tk_q
    have eo : fr_old (am_wr w.1 22 x 0) (5 * n + x) (25 + 5 * q + x) = fr_old w.1 (5 * n + x) (25 + 5 * q + x) := by
      unfold fr_old
      rw [rd_nk (by decide), rd_nk (by decide), rd_nk (by decide), rd_nk (by decide)]
    have eg : ∀ v, fr_tk_g (5 * n + x) (25 + 5 * q + x) v (am_wr w.1 22 x 0) = fr_tk_g (5 * n + x) (25 + 5 * q + x) v w.1 := fun v => by
      unfold fr_tk_g fr_same
      rw [rd_nk (by decide), rd_nk (by decide), rd_nk (by decide), rd_nk (by decide)]
    have ew : ∀ v, am_wr (am_wr w.1 22 x 0) 22 x v = am_wr w.1 22 x v := fun v => by
      funext f a j
      unfold am_wr am_u
      split
      · rfl
      · rfl
    rw [eo, eg, ew]
    have hD : tD z.1 z.2.1 (some e) w.1 (25 + 5 * q + x) := tD_cg2 u3 (by omega) (fun f a i p1 p2 => h7 _ _ _ (by omega) (by omega) (by omega) (by omega) (by omega)) (fun a i => h8 _ _ _ (by omega)) (fun k y p => h9 _ _ ⟨by omega, by omega, by omega, by omega, by omega, by omega⟩)
    have h6w : ¬ am_rd w.1 6 (5 * n + q) = 0 := by rw [h9 _ _ ⟨by omega, by omega, by omega, by omega, by omega, by omega⟩]; exact h6
    generalize hL : fr_old w.1 (5 * n + x) (25 + 5 * q + x) = L
    generalize hG : fr_tk_g (5 * n + x) (25 + 5 * q + x) L w.1 = G
    have hL' : L = fr_old (am_wr w.1 22 x G) (5 * n + x) (25 + 5 * q + x) := by
      rw [← hL]
      unfold fr_old
      rw [rd_nk (by decide), rd_nk (by decide), rd_nk (by decide), rd_nk (by decide)]
    have hG' : G = fr_tk_g (5 * n + x) (25 + 5 * q + x) L (am_wr w.1 22 x G) := by
      conv => lhs; rw [← hG]
      unfold fr_tk_g fr_same
      rw [rd_nk (by decide), rd_nk (by decide), rd_nk (by decide), rd_nk (by decide)]
    obtain ⟨k1, k2, k3, k4⟩ := s_tk (g1 G) (i1 G) hq hn hx (tD_cg2 hD (by omega) (fun _ _ _ _ _ => rfl) (fun _ _ => rfl) (fun k y p => rd_nk (by omega))) (by rw [rd_nk (by decide)]; exact h6w) hL' hG'
    have tg : ∀ f a j, ¬ f = 302 → ¬ f = 303 → ¬ f = 800 → ¬ f = 1800 → (fc_tk z.1 z.2.1 e q n x).1.1 f a j = z.1 f a j := fun f a j p1 p2 p3 p4 => tk_g p1 p2 p3 p4
    have tp : ∀ f a j, ¬ f = 500 → (fc_tk z.1 z.2.1 e q n x).1.2 f a j = z.2.1 f a j := fun f a j p1 => tk_p p1
    have tm : ∀ k y, tkM k y → am_rd (fr_tk_p q n x L G (am_wr w.1 22 x G)) k y = am_rd w.1 k y := fun k y p => by
      rw [tkp_rd hn hx p, rd_nk p.2.2.1]
    have t2 : ∀ y, am_rd (fr_tk_p q n x L G (am_wr w.1 22 x G)) 22 y = if y = x then G else am_rd w.1 22 y := fun y => by
      rw [tkp_22, am_rd_wr]
      by_cases ey : y = x
      · rw [if_pos ⟨rfl, ey⟩, if_pos ey]
      · rw [if_neg (fun q => ey q.2), if_neg ey]
    generalize fc_tk z.1 z.2.1 e q n x = T at k1 k3 tg tp ⊢
    generalize fr_tk_p q n x L G (am_wr w.1 22 x G) = N at k1 k2 tm t2 ⊢
    unfold fc_dv_t
    rw [k3]
    rcases k4 with k4 | k4
    · rw [if_pos k4, if_pos k4]
      refine ⟨k1, k2, h3, ⟨m, by omega, h4⟩, fun y hy => ?_, fun y y1 y2 => ?_, fun f a j p1 p2 p3 p4 p5 => ?_, fun f a j p1 => ?_, fun k y p => ?_⟩
      · dsimp only
        rw [tg _ _ _ (by omega) (by omega) (by omega) (by omega), t2]
        by_cases ey : y = x
        · subst ey
          rw [if_pos rfl, k4]
          exact ⟨h55 y (Nat.le_refl y) hx, fun w => absurd rfl w⟩
        · rw [if_neg ey]
          exact h5 y (by omega)
      · dsimp only
        rw [tg _ _ _ (by omega) (by omega) (by omega) (by omega)]
        exact h55 y (by omega) y2
      · dsimp only
        rw [tg f a j p1 p2 p3 p4]; exact h7 f a j p1 p2 p3 p4 p5
      · dsimp only
        rw [tp f a j p1]; exact h8 f a j p1
      · dsimp only
        rw [tm k y p]; exact h9 k y p
    · have g0 : ¬ G = 0 := by rw [k4]; exact one_ne
      rw [if_neg g0, if_neg g0]
      refine ⟨?_, k2, ?_, ⟨m + 1, by omega, ?_⟩, fun y hy => ?_, fun y y1 y2 => ?_, fun f a j p1 p2 p3 p4 p5 => ?_, fun f a j p1 => ?_, fun k y p => ?_⟩
      · dsimp only
        exact T0_fr k1 (fun f a i q1 q2 q3 => u_ne (by omega)) (fun _ _ _ _ => rfl) (fun _ _ _ _ _ => rfl) rfl
      · dsimp only
        rw [h4]
        exact ⟨fun q => absurd q one_ne, fun q => absurd q (nI_s0 (by omega))⟩
      · dsimp only
        rw [h4]
        exact nI_add m 1
      · dsimp only
        rw [t2]
        by_cases ey : y = x
        · subst ey
          rw [am_u_at, if_pos rfl, k4]
          exact ⟨rfl, fun _ => ⟨e, u1, u3⟩⟩
        · rw [u_ne (by omega), tg _ _ _ (by omega) (by omega) (by omega) (by omega), if_neg ey]
          exact h5 y (by omega)
      · dsimp only
        rw [u_ne (by omega), tg _ _ _ (by omega) (by omega) (by omega) (by omega)]
        exact h55 y (by omega) y2
      · dsimp only
        rw [u_ne (by omega), tg f a j p1 p2 p3 p4]; exact h7 f a j p1 p2 p3 p4 p5
      · dsimp only
        rw [tp f a j p1]; exact h8 f a j p1
      · dsimp only
        rw [tm k y p]; exact h9 k y p
theorem s_ak_x {b c q n x : Nat} {γ : am_I} {π : am_P} {μ : am_I} (h : am_T0 γ π μ) (hI : am_Iv b c μ) (hq : q < 5) (hn : n < 5) (hx : x < 5) (ht : γ 1200 (76 + 3 * (5 * q + n)) x = am_rd μ 22 x) (hu : ¬ am_rd μ 22 x = 0 → ∃ e, π 1100 (75 + 3 * (5 * q + n)) x = some e ∧ tD γ π (some e) μ (25 + 5 * q + x)) : am_T0 (fc_ak_x π (5 * q + n) q n x γ) π (fr_tk_a q n x μ) ∧ am_Iv b c (fr_tk_a q n x μ) := by
  unfold fc_ak_x fr_tk_a
  rw [ht]
  by_cases t0 : am_rd μ 22 x = 0
  · rw [if_pos t0, if_pos t0]; exact ⟨h, hI⟩
  rw [if_neg t0, if_neg t0]
  obtain ⟨e, u1, u2⟩ := hu t0
  have hp : γ 1901 e 0 = am_rd μ 10 (25 + 5 * q + x) ∧ γ 1902 e 0 = am_rd μ 11 (25 + 5 * q + x) := by
    rcases u2 with ⟨e1, -⟩ | ⟨a, e1, e2, -, e4, -⟩
    · cases e1
    · cases e1
      exact ⟨e2, e4⟩
  unfold fr_tk_w
  rcases tD_pos (h.2.2.2.2 q hq x hx) with ⟨e1, e2⟩ | ⟨d, e1, d1, d2, d3, -⟩
  · rw [e1, if_neg e2, if_pos rfl]; exact ⟨h, hI⟩
  · rw [e1, if_pos d2, u1]
    dsimp only [Option.elim]
    rw [s_sm d1 d3 hp.1 hp.2]
    by_cases s0 : fr_same μ (5 * q + x) (25 + 5 * q + x) = 0
    · rw [if_pos s0, if_pos s0, if_pos rfl]; exact ⟨h, hI⟩
    · rw [if_neg s0, if_neg s0, if_neg one_ne]
      exact ⟨T0_x0 h hq hn hx, hI.w18z⟩
theorem ak_x_g {γ : am_I} {π : am_P} {i q n x f a j : Nat} (h : ¬ f = 800) : fc_ak_x π i q n x γ f a j = γ f a j := by
  unfold fc_ak_x
  split
  · rfl
  · cases π 500 (5 + 14 * q) x with
    | none => rfl
    | some e =>
      cases π 1100 (75 + 3 * i) x with
      | none => rfl
      | some g =>
        dsimp only [Option.elim]
        split
        · rfl
        · exact am_u_ne h
theorem tka_rd {μ : am_I} {q n x k y : Nat} (h : ¬ k = 18) : am_rd (fr_tk_a q n x μ) k y = am_rd μ k y := by
  unfold fr_tk_a
  split
  · rfl
  · split
    · rfl
    · exact rd_nk h
def ddR (b c i : Nat) (z : am_I × am_P) (μ : am_I) : Prop := am_T0 z.1 z.2 μ ∧ am_Iv b c μ ∧ ∀ q, q < 5 → ∀ n, n < 5 → i ≤ 5 * q + n → tU z.1 z.2 μ q n
theorem s_dv {b c q n : Nat} {γ : am_I} {π : am_P} {μ : am_I} (hq : q < 5) (hn : n < 5) (h : ddR b c (5 * q + n) (γ, π) μ) (h6 : ¬ am_rd μ 6 (5 * n + q) = 0) : ddR b c (5 * q + n + 1) (fc_dv γ π (5 * q + n) q n) (fr_tk μ q n) := by
  obtain ⟨h1, h2, h3⟩ := h
  dsimp only at h1 h2 h3
  have hU := h3 q hq n hn (Nat.le_refl _)
  have L := am_it2 (R := fun x z w => dvR b c (5 * q + n) q n γ π μ x z w) (f := fc_dv_x (5 * q + n) q n) (g := fr_tk_x q n) (n := 5) (s := (γ, π, 0)) (t := (μ, 0)) (fun x hx z w hl => s_dv_x hq hn hx hU h6 hl) ⟨h1, h2, Iff.rfl, ⟨0, Nat.zero_le _, rfl⟩, fun y hy => absurd hy (Nat.not_lt_zero _), fun y _ hy => (hU.2 y hy).1, fun _ _ _ _ _ _ _ _ => rfl, fun _ _ _ _ => rfl, fun _ _ _ => rfl⟩
  unfold fc_dv fr_tk
  generalize am_it (fc_dv_x (5 * q + n) q n) 5 (γ, π, 0) = z at L ⊢
  generalize am_it (fr_tk_x q n) 5 (μ, 0) = w at L ⊢
  obtain ⟨l1, l2, l3, -, l5, -, l7, l8, l9⟩ := L
  have fin : ∀ γ' μ', am_T0 γ' z.2.1 μ' → am_Iv b c μ' → (∀ f a j, ¬ f = 800 → ¬ f = 1800 → ¬ f = 701 → γ' f a j = z.1 f a j) → (∀ k y, ¬ k = 2 → ¬ k = 9 → ¬ k = 18 → am_rd μ' k y = am_rd w.1 k y) → ddR b c (5 * q + n + 1) (γ', z.2.1) μ' := by
    intro γ' μ' f1 f2 f3 f4
    refine ⟨f1, f2, fun q' hq' n' hn' lt => ?_⟩
    refine tU_cg (h3 q' hq' n' hn' (by omega)) ?_ (fun x hx => ?_) (fun x hx => ?_) ?_ (fun x hx => ?_) (fun f a i p1 p2 => ?_) (fun a i => ?_) (fun k y p => ?_)
    · dsimp only
      rw [f3 _ _ _ (by omega) (by omega) (by omega), l7 _ _ _ (by omega) (by omega) (by omega) (by omega) (by omega)]
    · dsimp only
      rw [f3 _ _ _ (by omega) (by omega) (by omega), l7 _ _ _ (by omega) (by omega) (by omega) (by omega) (by omega)]
    · exact l8 _ _ _ (by omega)
    · rw [f4 _ _ (by omega) (by omega) (by omega), l9 _ _ ⟨by omega, by omega, by omega, by omega, by omega, by omega⟩]
    · rw [f4 _ _ (by omega) (by omega) (by omega), l9 _ _ ⟨by omega, by omega, by omega, by omega, by omega, by omega⟩]
    · dsimp only
      rw [f3 _ _ _ (by omega) (by omega) (by omega), l7 _ _ _ (by omega) (by omega) (by omega) (by omega) (by omega)]
    · exact l8 _ _ _ (by omega)
    · rw [f4 _ _ (by omega) (by omega) (by omega), l9 _ _ ⟨by omega, by omega, by omega, by omega, by omega, by omega⟩]
  unfold fc_dv2 fr_tk_e
  by_cases s0 : w.2 = 0
  · rw [if_pos s0, if_pos (l3.mpr s0)]
    exact fin _ _ l1 l2 (fun _ _ _ _ _ _ => rfl) (fun _ _ _ _ _ => rfl)
  rw [if_neg s0, if_neg (fun q => s0 (l3.mp q))]
  have c0 : ¬ am_rd w.1 1 (5 * n + q) = 0 := by
    refine (l2.2.1 _ (by omega)).2.2 ?_
    rw [l9 _ _ ⟨by omega, by omega, by omega, by omega, by omega, by omega⟩]; exact h6
  have i1 : am_Iv b c (am_wr w.1 9 3 (am_rd w.1 9 3 + 1)) := l2.f (by decide) (by decide) (by decide)
  obtain ⟨g3, e3⟩ := s_arr (T0_ct l1 3 1) i1 hn hq (by rw [rd_nk (by decide)]; exact c0)
  have i3 := Iv_ov1 i1 n q
  have a3 : ∀ f a j, ¬ f = 701 → ¬ f = 1800 → (fc_arr (fc_ct z.1 3 1) n q).1 f a j = z.1 f a j := fun f a j p1 p2 => by
    rw [arr_g p1 p2]
    unfold fc_ct
    rw [am_u_ne p2]
  have m3 : ∀ k y, ¬ k = 2 → ¬ k = 9 → am_rd (fr_ov1 (am_wr w.1 9 3 (am_rd w.1 9 3 + 1)) n q).1 k y = am_rd w.1 k y := fun k y p1 p2 => by rw [ov1_rd p1 p2, rd_nk p2]
  unfold fc_ak fc_ak2 fr_tk_f fr_over
  generalize fc_arr (fc_ct z.1 3 1) n q = A at g3 e3 a3 ⊢
  generalize fr_ov1 (am_wr w.1 9 3 (am_rd w.1 9 3 + 1)) n q = B at g3 e3 i3 m3 ⊢
  rw [e3]
  by_cases b0 : B.2 = 0
  · rw [if_pos b0, if_pos b0]
    exact fin _ _ g3 i3 (fun f a j p1 p2 p3 => a3 f a j p3 p2) (fun k y p1 p2 p3 => m3 k y p1 p2)
  rw [if_neg b0, if_neg b0]
  have M := am_it2 (R := fun x γ' μ' => am_T0 γ' z.2.1 μ' ∧ am_Iv b c μ' ∧ (∀ f a j, ¬ f = 800 → γ' f a j = A.1 f a j) ∧ (∀ k y, ¬ k = 18 → am_rd μ' k y = am_rd B.1 k y)) (f := fc_ak_x z.2.1 (5 * q + n) q n) (g := fr_tk_a q n) (n := 5) (s := A.1) (t := B.1) (fun x hx γ' μ' hR => ?step) ⟨g3, i3, fun _ _ _ _ => rfl, fun _ _ _ => rfl⟩
  case step =>
    obtain ⟨R1, R2, R3, R4⟩ := hR
    obtain ⟨y1, y2⟩ := l5 x hx
    have K := s_ak_x R1 R2 hq hn hx (by rw [R3 _ _ _ (by omega), a3 _ _ _ (by omega) (by omega), R4 _ _ (by omega), m3 _ _ (by omega) (by omega)]; exact y1) (fun t => by
      rw [R4 _ _ (by omega), m3 _ _ (by omega) (by omega)] at t
      obtain ⟨e, u1, u2⟩ := y2 t
      refine ⟨e, ?_, ?_⟩
      · rw [l8 _ _ _ (by omega)]; exact u1
      · exact tD_cg2 u2 (by omega) (fun f a i p1 p2 => by rw [R3 _ _ _ (by omega), a3 _ _ _ (by omega) (by omega), l7 _ _ _ (by omega) (by omega) (by omega) (by omega) (by omega)]) (fun a i => l8 _ _ _ (by omega)) (fun k y p => by rw [R4 _ _ (by omega), m3 _ _ (by omega) (by omega), l9 _ _ ⟨by omega, by omega, by omega, by omega, by omega, by omega⟩]))
    exact ⟨K.1, K.2, fun f a j p => by rw [ak_x_g p]; exact R3 f a j p, fun k y p => by rw [tka_rd p]; exact R4 k y p⟩
  obtain ⟨M1, M2, M3, M4⟩ := M
  exact fin _ _ M1 M2 (fun f a j p1 p2 p3 => by rw [M3 f a j p1]; exact a3 f a j p3 p2) (fun k y p1 p2 p3 => by rw [M4 k y p3]; exact m3 k y p1 p2)
theorem s_dd_n {b c q n : Nat} {z : am_I × am_P} {μ : am_I} (hq : q < 5) (hn : n < 5) (h : ddR b c (5 * q + n) z μ) : ddR b c (5 * q + n + 1) (fc_dd_n q n z) (fr_dl (5 * q + n) μ) := by
  have k1 : (5 * q + n) / 5 = q := by omega
  have k2 : (5 * q + n) % 5 = n := by omega
  have sk : ddR b c (5 * q + n + 1) z μ := ⟨h.1, h.2.1, fun q' hq' n' hn' lt => h.2.2 q' hq' n' hn' (by omega)⟩
  unfold fc_dd_n fr_dl
  rw [show q * 5 + n = 5 * q + n from by omega, k1, k2, (h.2.2 q hq n hn (Nat.le_refl _)).1, (h.1.2.2.2.1 n hn q hq).2.2.2.1]
  by_cases c1 : am_rd μ 21 (5 * q + n) = 0
  · rw [if_pos c1, if_pos c1]; exact sk
  rw [if_neg c1, if_neg c1]
  by_cases c2 : am_rd μ 6 (5 * n + q) = 0
  · rw [if_pos c2, if_pos c2]; exact sk
  rw [if_neg c2, if_neg c2]
  exact s_dv (γ := z.1) (π := z.2) hq hn h c2
theorem s_dd {b c : Nat} {γ : am_I} {π : am_P} {μ : am_I} (h : ddR b c 0 (γ, π) μ) : ddR b c 25 (fc_dd γ π) (am_it fr_dl 25 μ) := am_it25 (R := fun i (z : am_I × am_P) μ => ddR b c i z μ) (f := fc_dd_n) (g := fr_dl) (s := (γ, π)) (t := μ) (fun q hq n hn s t hR => s_dd_n hq hn hR) h
theorem s_tk5 {b c : Nat} {K : am_K} {γ : am_I} {π : am_P} {μ : am_I} (h : am_T0 γ π μ) (hI : am_Iv b c μ) (hW : am_Wf K γ π) (hb : b < 2 ^ 30) (hc : c < 2 ^ 30) : am_T0 (fc_tk4 K γ π).2.1 (fc_tk4 K γ π).2.2 (fr_t5 μ) ∧ am_Iv (b + 1) c (fr_t5 μ) := by
  unfold fc_tk4 fc_tk5 fr_t5
  obtain ⟨a1, a2⟩ := s_jn h hI
  have aW := wf_jn hW
  generalize fc_jn γ π = γ1 at a1 aW ⊢
  generalize fr_nb μ = μ1 at a1 a2 ⊢
  obtain ⟨b1, b2⟩ := s_mk a1 a2 aW hb
  generalize fc_mk K γ1 π = z at b1 ⊢
  generalize am_it fr_mkr 5 μ1 = μ2 at b1 b2 ⊢
  have d := s_su b1 b2 hc
  generalize fc_su z.2.1 z.2.2 = y at d ⊢
  generalize fr_su μ2 = μ3 at d ⊢
  have e := s_dd (γ := y.1) (π := y.2) (b := b + 1) (c := c) (μ := μ3) ⟨d.1, d.2.1, fun q hq n hn _ => d.2.2.2 q hq n hn (by omega)⟩
  exact ⟨e.1, e.2.1⟩
theorem s_tick {b c : Nat} {z : am_K × am_I × am_P} {μ : am_I} (h : am_T0 z.2.1 z.2.2 μ) (hI : am_Iv b c μ) (hW : am_Wf z.1 z.2.1 z.2.2) (hb : b < 2 ^ 30) (hc : c + 1 < 2 ^ 30) (t : Nat) : am_T0 (fc_tick t z).2.1 (fc_tick t z).2.2 (fr_tick t μ) ∧ am_Iv (b + 1) (c + 1) (fr_tick t μ) := by
  unfold fc_tick fr_tick fc_tk2 fr_t2
  have e0 : am_ck μ + 1 = nI (c + 1) := by
    rw [hI.1.1]
    exact nI_add c 1
  have h1 : am_T0 (am_u z.2.1 104 1 0 (z.2.1 104 1 0 + 1)) z.2.2 (am_wc μ (am_ck μ + 1)) := by
    have hD : ∀ o e, tD z.2.1 z.2.2 o μ e → tD (am_u z.2.1 104 1 0 (z.2.1 104 1 0 + 1)) z.2.2 o (am_wc μ (am_ck μ + 1)) e := fun o e q => tD_cg q (fun f a i f1 f2 => u_ne (by omega)) (fun a i => rfl) (am_rd_wc _ _ _ _) (am_rd_wc _ _ _ _) (fun n _ => am_rd_wc _ _ _ _) (fun s _ k k1 k2 => am_rd_wc _ _ _ _)
    refine ⟨?_, fun i hi => ?_, fun r hr => ?_, fun r hr n hn => ?_, fun r hr x hx => hD _ _ (h.2.2.2.2 r hr x hx)⟩
    · rw [am_u_at, am_ck_wc, h.1]
    · rw [am_u_ne (by decide), am_rd_wc]; exact h.2.1 i hi
    · have q := h.2.2.1 r hr
      exact tR_cg q (fun f f1 f2 => u_ne (by omega)) (fun k _ => am_rd_wc _ _ _ _) (hD _ _ q.2.2.2.1) (fun s hs => tS_cg (q.2.2.2.2 s hs) (fun f f1 f2 q _ => u_ne (by omega)) (fun q q1 q2 => am_rd_wc _ _ _ _))
    · exact tE_cg (h.2.2.2.1 r hr n hn) (fun f f1 f2 f3 => u_ne (by omega)) (fun x hx => am_u_ne (by decide)) (fun k k1 k2 => am_rd_wc _ _ _ _) (fun k x hx k1 k2 => am_rd_wc _ _ _ _)
  have hI1 : am_Iv b (c + 1) (am_wc μ (am_ck μ + 1)) := by
    obtain ⟨⟨i1, i2, i3, i4, i5, i6, i7, i8, i9⟩, iB, iC⟩ := hI
    have e : ∀ k x, am_rd (am_wc μ (am_ck μ + 1)) k x = am_rd μ k x := fun k x => am_rd_wc _ _ _ _
    refine ⟨⟨?_, fun x => ?_, fun x => ?_, fun x => ?_, fun x => ?_, fun x => ?_, fun r hr n hn => ?_, fun r hr => ?_, fun r hr => ?_⟩, fun k hk => ?_, fun r hr n hn x hx => ?_⟩
    · rw [am_ck_wc]; exact e0
    · rw [e]; exact i2 x
    · rw [e]; exact i3 x
    · rw [e]; exact i4 x
    · rw [e]; exact i5 x
    · rw [e]; exact i6 x
    · rw [e, e]; exact i7 r hr n hn
    · rw [e]; exact i8 r hr
    · rw [e]; exact i9 r hr
    · rw [e, e, e, e]; exact iB k hk
    · rw [e, e, e]; exact iC r hr n hn x hx
  have hW1 : am_Wf z.1 (am_u z.2.1 104 1 0 (z.2.1 104 1 0 + 1)) z.2.2 := hW.g (by decide)
  generalize am_u z.2.1 104 1 0 (z.2.1 104 1 0 + 1) = γ1 at h1 hW1 ⊢
  generalize am_wc μ (am_ck μ + 1) = μ1 at h1 hI1 ⊢
  obtain ⟨h2, hI2⟩ := s_de h1 hI1
  have hW2 := wf_de hW1
  generalize fc_de γ1 z.2.2 = y at h2 hW2 ⊢
  generalize fr_fg μ1 = μ2 at h2 hI2 ⊢
  unfold fc_tk3
  rw [h2.1]
  by_cases ev : am_ck μ2 - am_ck μ2 / 2 * 2 = 0
  · rw [if_pos ev, if_pos ev]
    obtain ⟨h3, hI3⟩ := s_eh h2 hI2
    exact s_tk5 h3 hI3 (wf_eh hW2) hb hc
  · rw [if_neg ev, if_neg ev]
    exact s_tk5 h2 hI2 hW2 hb hc

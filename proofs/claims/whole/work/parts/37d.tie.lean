theorem s_jd1 {b c : Nat} {γ : am_I} {π : am_P} {μ : am_I} (h : am_T0 γ π μ) (hI : am_Iv b c μ) {r n : Nat} (hr : r < 5) (hn : n < 5) : am_T0 (fc_jd1 γ r n (am_ck μ)) π (fr_nb1 (5 * r + n) μ) := by
  have hE := h.2.2.2.1 r hr n hn
  obtain ⟨b1, b2, b3, b4, b5, b6, b7, b8⟩ := hE
  unfold fc_jd1 fr_nb1
  by_cases h3 : am_rd μ 3 (5 * r + n) = 0
  · have m0 : am_rd μ 5 (5 * r + n) = 0 := Decidable.byContradiction (fun w => (hI.2.1 _ (by omega)).2.1 w h3)
    rw [if_pos h3, u_self (b2.trans h3), u_self (b3.trans m0), ite_self]
    exact h
  rw [if_neg h3, b7 h3]
  by_cases t : am_ck μ - 5 < am_rd μ 4 (5 * r + n)
  · rw [if_pos t, if_pos t]; exact h
  rw [if_neg t, if_neg t]
  refine T0_e1 h hr hn (fun f a i q1 q2 q3 q4 q5 => ?_) (fun _ _ _ _ => rfl) (fun k x q1 q2 q3 q4 => ?_) ?_ (fun i hi => ?_) ?_
  · rw [u_ne (by omega), u_ne (by omega)]
  · rw [rd_ne (by omega), rd_ne (by omega)]
  · rw [am_ck_wr, am_ck_wr]
  · rw [am_u_ne (by decide), am_u_ne (by decide), rd_nk (by decide), rd_nk (by decide)]; exact h.2.1 i hi
  · refine ⟨?_, ?_, ?_, ?_, fun w => ?_, fun w => ?_, fun w => ?_, fun x hx => ?_⟩
    · rw [am_u_ne (by decide), am_u_ne (by decide), rd_nk (by decide), rd_nk (by decide)]; exact b1
    · rw [am_u_ne (by decide), am_u_at, rd_nk (by decide), rd_at]
    · rw [am_u_at, rd_at]
    · rw [am_u_ne (by decide), am_u_ne (by decide), rd_nk (by decide), rd_nk (by decide)]; exact b4
    · rw [rd_nk (by decide), rd_nk (by decide)] at w
      rw [am_u_ne (by decide), am_u_ne (by decide)]; exact b5 w
    · rw [rd_nk (by decide), rd_nk (by decide)] at w
      rw [am_u_ne (by decide), am_u_ne (by decide), rd_nk (by decide), rd_nk (by decide)]; exact b6 w
    · rw [rd_nk (by decide), rd_at] at w
      exact absurd rfl w
    · rw [am_u_ne (by decide), am_u_ne (by decide), rd_nk (by decide), rd_nk (by decide), rd_nk (by decide), rd_nk (by decide)]; exact b8 x hx
theorem Iv_nb1 {b c : Nat} {μ : am_I} (h : am_Iv b c μ) (k : Nat) : am_Iv b c (fr_nb1 k μ) := by
  unfold fr_nb1
  split
  · exact h
  split
  · exact h
  refine ⟨(h.1.f (by decide)).f (by decide), fun y hy => ?_, (h.2.2.f (by decide)).f (by decide)⟩
  obtain ⟨g1, g2, g3⟩ := h.2.1 y hy
  have e1 : am_rd (am_wr (am_wr μ 3 k 0) 5 k 0) 1 y = am_rd μ 1 y := by rw [rd_nk (by decide), rd_nk (by decide)]
  have e6 : am_rd (am_wr (am_wr μ 3 k 0) 5 k 0) 6 y = am_rd μ 6 y := by rw [rd_nk (by decide), rd_nk (by decide)]
  rw [e1, e6]
  by_cases e : y = k
  · subst e
    refine ⟨fun w => ?_, fun w => ?_, g3⟩
    · rw [rd_nk (by decide), rd_at] at w
      exact absurd rfl w
    · rw [rd_at] at w
      exact absurd rfl w
  · refine ⟨fun w => ?_, fun w => ?_, g3⟩
    · rw [rd_nk (by decide), rd_ne (by omega)] at w
      exact g1 w
    · rw [rd_ne (by omega), rd_nk (by decide)] at w
      rw [rd_nk (by decide), rd_ne (by omega)]
      exact g2 w
theorem on_ne {γ : am_I} {r n f a i : Nat} (h : ¬ (f = 800 ∧ a = 8 + 14 * r + 2 * n)) : fc_on γ r n f a i = γ f a i := it_g _ (fun j hj γ => u_ne (by omega))
theorem on_at {γ : am_I} {r n x : Nat} (hx : x < 5) : fc_on γ r n 800 (8 + 14 * r + 2 * n) x = -2 := by
  refine it_set (j := x) (I := fun _ => True) (Q := fun s : am_I => s 800 (8 + 14 * r + 2 * n) x = -2) hx trivial (fun _ _ _ _ => trivial) (fun s _ => ?_) (fun i hi hne s _ hq => ?_)
  · exact am_u_at
  · unfold fc_on_b
    rw [u_ne (by omega)]; exact hq
theorem jd2_ne {γ : am_I} {r n f a i : Nat} {w : Int32} (h1 : ¬ (f = 706 ∧ a = 7 + 14 * r + 2 * n)) (h2 : ¬ (f = 707 ∧ a = 7 + 14 * r + 2 * n)) (h3 : ¬ (f = 800 ∧ a = 8 + 14 * r + 2 * n)) : fc_jd2 γ r n w f a i = γ f a i := by
  unfold fc_jd2 fc_jd3
  split
  · rw [on_ne h3, u_ne (by omega), u_ne (by omega)]
  · rw [u_ne (by omega), u_ne (by omega)]
theorem jd2_6 {γ : am_I} {r n : Nat} {w : Int32} : fc_jd2 γ r n w 706 (7 + 14 * r + 2 * n) 0 = w := by
  unfold fc_jd2 fc_jd3
  split
  · rw [on_ne (by omega), am_u_ne (by decide), am_u_at]
  · rw [am_u_ne (by decide), am_u_at]
theorem jd2_7 {γ : am_I} {r n : Nat} {w : Int32} : fc_jd2 γ r n w 707 (7 + 14 * r + 2 * n) 0 = if w = 0 then 0 else if γ 706 (7 + 14 * r + 2 * n) 0 = 0 then 1 else 0 := by
  unfold fc_jd2 fc_jd3
  by_cases hw : w = 0
  · rw [if_pos hw, on_ne (by omega), am_u_at]
  · rw [if_neg hw, am_u_at]
theorem jd2_8 {γ : am_I} {r n x : Nat} {w : Int32} (hx : x < 5) : fc_jd2 γ r n w 800 (8 + 14 * r + 2 * n) x = if w = 0 then -2 else γ 800 (8 + 14 * r + 2 * n) x := by
  unfold fc_jd2 fc_jd3
  by_cases hw : w = 0
  · rw [if_pos hw, on_at hx, if_pos hw]
  · rw [if_neg hw, am_u_ne (by decide), am_u_ne (by decide), if_neg hw]
theorem nb3_ne {μ : am_I} {k k' y : Nat} {w : Int32} (h1 : ¬ ((k' = 6 ∨ k' = 7) ∧ y = k)) (h2 : ¬ (k' = 18 ∧ 5 * k ≤ y ∧ y < 5 * k + 5)) : am_rd (fr_nb3 k w μ) k' y = am_rd μ k' y := by
  unfold fr_nb3 fr_nb2
  rw [it_rd _ (fun x hx μ => by unfold fr_nb_x; rw [rd_ne (by omega)]), rd_ne (by omega), rd_ne (by omega)]
theorem nb3_ck {μ : am_I} {k : Nat} {w : Int32} : am_ck (fr_nb3 k w μ) = am_ck μ := by
  unfold fr_nb3 fr_nb2
  rw [it_ck _ (fun x hx μ => by unfold fr_nb_x; rw [am_ck_wr]), am_ck_wr, am_ck_wr]
theorem nb3_6 {μ : am_I} {k : Nat} {w : Int32} : am_rd (fr_nb3 k w μ) 6 k = w := by
  unfold fr_nb3 fr_nb2
  rw [it_rd _ (fun x hx μ => by unfold fr_nb_x; rw [rd_nk (by decide)]), rd_at]
theorem nb3_7 {μ : am_I} {k : Nat} {w : Int32} : am_rd (fr_nb3 k w μ) 7 k = if w = 0 then 0 else if am_rd μ 6 k = 0 then 1 else 0 := by
  unfold fr_nb3 fr_nb2
  rw [it_rd _ (fun x hx μ => by unfold fr_nb_x; rw [rd_nk (by decide)]), rd_nk (by decide), rd_at]
theorem nb3_18 {μ : am_I} {k x : Nat} {w : Int32} (hx : x < 5) : am_rd (fr_nb3 k w μ) 18 (5 * k + x) = if am_rd μ 18 (5 * k + x) = 0 then 0 else if w = 0 then 0 else 1 := by
  have e : am_rd (am_wr (fr_nb2 k w μ) 6 k w) 18 (5 * k + x) = am_rd μ 18 (5 * k + x) := by
    unfold fr_nb2
    rw [rd_nk (by decide), rd_nk (by decide)]
  unfold fr_nb3
  generalize am_wr (fr_nb2 k w μ) 6 k w = ν at e
  rw [← e]
  have g : ∀ m, m ≤ 5 → (x < m → am_rd (am_it (fr_nb_x k w) m ν) 18 (5 * k + x) = if am_rd ν 18 (5 * k + x) = 0 then 0 else if w = 0 then 0 else 1) ∧ (m ≤ x → am_rd (am_it (fr_nb_x k w) m ν) 18 (5 * k + x) = am_rd ν 18 (5 * k + x)) := by
    intro m
    induction m with
    | zero => exact fun _ => ⟨fun q => absurd q (Nat.not_lt_zero _), fun _ => rfl⟩
    | succ m ih =>
      intro hm
      obtain ⟨i1, i2⟩ := ih (by omega)
      show (x < m + 1 → am_rd (fr_nb_x k w m (am_it (fr_nb_x k w) m ν)) 18 (5 * k + x) = _) ∧ (m + 1 ≤ x → am_rd (fr_nb_x k w m (am_it (fr_nb_x k w) m ν)) 18 (5 * k + x) = _)
      generalize am_it (fr_nb_x k w) m ν = κ at i1 i2 ⊢
      unfold fr_nb_x
      constructor
      · intro q
        by_cases e : x = m
        · subst e
          rw [rd_at, i2 (Nat.le_refl _)]
        · rw [rd_ne (by omega)]; exact i1 (by omega)
      · intro q
        rw [rd_ne (by omega)]; exact i2 (by omega)
  exact (g 5 (Nat.le_refl _)).1 hx
theorem s_nb3 {γ : am_I} {π : am_P} {μ : am_I} (h : am_T0 γ π μ) {r n : Nat} (hr : r < 5) (hn : n < 5) (w : Int32) : am_T0 (fc_jd2 γ r n w) π (fr_nb3 (5 * r + n) w μ) := by
  obtain ⟨b1, b2, b3, b4, b5, b6, b7, b8⟩ := h.2.2.2.1 r hr n hn
  refine T0_e1 h hr hn (fun f a i q1 q2 q3 q4 q5 => jd2_ne (by omega) (by omega) q4) (fun _ _ _ _ => rfl) (fun k x q1 q2 q3 q4 => nb3_ne (by omega) (by omega)) nb3_ck (fun i hi => ?_) ?_
  · rw [jd2_ne (by omega) (by omega) (by omega), nb3_ne (by omega) (by omega)]; exact h.2.1 i hi
  · refine ⟨?_, ?_, ?_, ?_, fun q => ?_, fun q => ?_, fun q => ?_, fun x hx => ?_⟩
    · rw [jd2_ne (by omega) (by omega) (by omega), nb3_ne (by omega) (by omega)]; exact b1
    · rw [jd2_ne (by omega) (by omega) (by omega), nb3_ne (by omega) (by omega)]; exact b2
    · rw [jd2_ne (by omega) (by omega) (by omega), nb3_ne (by omega) (by omega)]; exact b3
    · rw [jd2_6, nb3_6]
    · rw [nb3_ne (by omega) (by omega)] at q
      rw [jd2_ne (by omega) (by omega) (by omega)]; exact b5 q
    · rw [nb3_ne (by omega) (by omega)] at q
      rw [jd2_ne (by omega) (by omega) (by omega), nb3_ne (by omega) (by omega)]; exact b6 q
    · rw [nb3_ne (by omega) (by omega)] at q
      rw [jd2_ne (by omega) (by omega) (by omega), nb3_ne (by omega) (by omega)]; exact b7 q
    · rw [jd2_8 hx, nb3_18 hx, nb3_ne (by omega) (by omega)]
      by_cases hw : w = 0
      · rw [if_pos hw, if_pos hw, ite_self]
        exact Or.inl ⟨rfl, rfl⟩
      · rw [if_neg hw, if_neg hw]
        rcases b8 x hx with ⟨t1, t2⟩ | ⟨t1, t2⟩
        · rw [if_pos t1]; exact Or.inl ⟨rfl, t2⟩
        · rw [t1, if_neg one_ne]; exact Or.inr ⟨rfl, t2⟩
theorem Iv_nb3 {b c : Nat} {μ : am_I} (h : am_Iv b c μ) {r n : Nat} (hr : r < 5) (hn : n < 5) {w : Int32} (hw : ¬ w = 0 → ¬ am_rd μ 1 (5 * r + n) = 0) : am_Iv b c (fr_nb3 (5 * r + n) w μ) := by
  have hA : am_Ia b c (fr_nb3 (5 * r + n) w μ) := am_it_keep (P := am_Ia b c) (fun x hx s hs => hs.f (by decide)) ((h.1.f (by decide)).f (by decide))
  refine ⟨hA, fun y hy => ?_, fun r' hr' n' hn' x hx q => ?_⟩
  · obtain ⟨g1, g2, g3⟩ := h.2.1 y hy
    rw [nb3_ne (k' := 1) (by omega) (by omega), nb3_ne (k' := 3) (by omega) (by omega), nb3_ne (k' := 5) (by omega) (by omega)]
    refine ⟨g1, g2, fun q => ?_⟩
    by_cases e : y = 5 * r + n
    · subst e
      rw [nb3_6] at q
      exact hw q
    · rw [nb3_ne (by omega) (by omega)] at q
      exact g3 q
  · rw [nb3_ne (k' := 10) (by omega) (by omega)]
    by_cases e : r' = r ∧ n' = n
    · obtain ⟨rfl, rfl⟩ := e
      rw [nb3_18 hx] at q
      rw [nb3_6]
      by_cases o : am_rd μ 18 (5 * (5 * r' + n') + x) = 0
      · rw [if_pos o] at q; exact absurd rfl q
      · rw [if_neg o] at q
        refine ⟨fun z => ?_, (h.2.2 r' hr' n' hn' x hx o).2⟩
        rw [if_pos z] at q
        exact absurd rfl q
    · rw [nb3_ne (by omega) (by omega)] at q
      rw [nb3_ne (by omega) (by omega)]
      exact h.2.2 r' hr' n' hn' x hx q
def tF (γ μ : am_I) (i : Nat) : Prop := ∀ r, r < 5 → ∀ n, n < 5 → 5 * r + n < i → γ 707 (7 + 14 * r + 2 * n) 0 = am_rd μ 7 (5 * r + n) ∧ (¬ am_rd μ 7 (5 * r + n) = 0 → ¬ am_rd μ 6 (5 * r + n) = 0)
theorem jd1_ne {γ : am_I} {r n f a i : Nat} {t : Int32} (h1 : ¬ f = 702) (h2 : ¬ f = 705) : fc_jd1 γ r n t f a i = γ f a i := by
  unfold fc_jd1
  split
  · rfl
  · rw [am_u_ne h2, am_u_ne h1]
theorem nb1_ne {μ : am_I} {k k' y : Nat} (h1 : ¬ k' = 3) (h2 : ¬ k' = 5) : am_rd (fr_nb1 k μ) k' y = am_rd μ k' y := by
  unfold fr_nb1
  split
  · rfl
  · split
    · rfl
    · rw [rd_nk h2, rd_nk h1]
theorem s_jn_m {b c : Nat} {γ : am_I} {π : am_P} {μ : am_I} (h : am_T0 γ π μ) (hI : am_Iv b c μ) {q n : Nat} (hF : tF γ μ (5 * q + n)) (hq : q < 5) (hn : n < 5) : am_T0 (fc_jn_m q n γ) π (fr_nb_b (5 * q + n) μ) ∧ am_Iv b c (fr_nb_b (5 * q + n) μ) ∧ tF (fc_jn_m q n γ) (fr_nb_b (5 * q + n) μ) (5 * q + n + 1) := by
  unfold fc_jn_m fr_nb_b fc_jd
  rw [h.1]
  have h1 := s_jd1 h hI hq hn
  have hI1 := Iv_nb1 hI (5 * q + n)
  have g7 : ∀ a i, fc_jd1 γ q n (am_ck μ) 707 a i = γ 707 a i := fun a i => jd1_ne (by decide) (by decide)
  have m7 : ∀ y, am_rd (fr_nb1 (5 * q + n) μ) 7 y = am_rd μ 7 y := fun y => nb1_ne (by decide) (by decide)
  have m6 : ∀ y, am_rd (fr_nb1 (5 * q + n) μ) 6 y = am_rd μ 6 y := fun y => nb1_ne (by decide) (by decide)
  generalize fc_jd1 γ q n (am_ck μ) = γ1 at h1 g7 ⊢
  generalize fr_nb1 (5 * q + n) μ = μ1 at h1 hI1 m7 m6 ⊢
  obtain ⟨b1, b2, b3, b4, -⟩ := h1.2.2.2.1 q hq n hn
  have e : fc_now γ1 q n = fr_now (5 * q + n) μ1 := by
    unfold fc_now fr_now
    rw [b2, b3]
  have hw : ¬ fr_now (5 * q + n) μ1 = 0 → ¬ am_rd μ1 1 (5 * q + n) = 0 := by
    intro w
    refine (hI1.2.1 _ (by omega)).1 (fun z => w ?_)
    unfold fr_now
    rw [if_pos z]
  unfold fc_jd4 fr_nb4
  rw [e]
  generalize fr_now (5 * q + n) μ1 = w at hw ⊢
  refine ⟨s_nb3 h1 hq hn w, Iv_nb3 hI1 hq hn hw, fun r hr m hm lt => ?_⟩
  by_cases e : r = q ∧ m = n
  · obtain ⟨rfl, rfl⟩ := e
    rw [jd2_7, nb3_7, nb3_6, b4]
    refine ⟨rfl, fun z y => z ?_⟩
    rw [if_pos y]
  · rw [jd2_ne (by omega) (by omega) (by omega), nb3_ne (by omega) (by omega), nb3_ne (by omega) (by omega), g7, m7, m6]
    exact hF r hr m hm (by omega)
theorem s_nw {γ : am_I} {μ : am_I} {a b' e f : Nat} (h1 : γ 1901 a 0 = am_rd μ 10 e) (h2 : γ 1902 a 0 = am_rd μ 11 e) (h3 : γ 1901 b' 0 = am_rd μ 10 f) (h4 : γ 1902 b' 0 = am_rd μ 11 f) : fc_nw γ a b' = fr_old μ f e := by
  unfold fc_nw fr_old
  rw [h1, h2, h3, h4]
  by_cases q : am_rd μ 10 f < am_rd μ 10 e
  · rw [if_pos q, if_pos q]
  rw [if_neg q, if_neg q]
  by_cases z : am_rd μ 10 f = am_rd μ 10 e
  · rw [if_pos z, if_pos z.symm]
  · rw [if_neg z, if_neg (fun w => z w.symm)]
theorem s_sm {γ : am_I} {μ : am_I} {a b' e f : Nat} (h1 : γ 1901 a 0 = am_rd μ 10 e) (h2 : γ 1902 a 0 = am_rd μ 11 e) (h3 : γ 1901 b' 0 = am_rd μ 10 f) (h4 : γ 1902 b' 0 = am_rd μ 11 f) : fc_sm γ a b' = fr_same μ e f := by
  unfold fc_sm fr_same
  rw [h1, h2, h3, h4]
theorem ow_g {γ : am_I} {n q x f a i : Nat} (h : ¬ f = 800) : fc_ow γ n q x f a i = γ f a i := by
  unfold fc_ow
  split
  · rw [am_u_ne h]
  · rfl
theorem ol_g {γ : am_I} {π : am_P} {n q f a i : Nat} (h : ¬ f = 800) : fc_ol γ π n q f a i = γ f a i := by
  refine it_g _ (fun x hx γ => ?_)
  unfold fc_ol_x
  cases π 500 (5 + 14 * n) x with
  | none => rfl
  | some e =>
    cases π 500 (5 + 14 * q) x with
    | none => exact ow_g h
    | some e' =>
      dsimp only [Option.elim]
      split
      · rfl
      · exact ow_g h
theorem oa_rd {μ : am_I} {n m k y : Nat} (h : ¬ (k = 18 ∨ k = 19)) : am_rd (fr_oa μ n m) k y = am_rd μ k y := by
  refine it_rd _ (fun x hx μ => ?_)
  unfold fr_oa_b
  split
  · split
    · rfl
    · exact ow_rd h
  · rfl
theorem s_ol {b c : Nat} {γ : am_I} {π : am_P} {μ : am_I} (h : am_T0 γ π μ) (hI : am_Iv b c μ) {n q : Nat} (hn : n < 5) (hq : q < 5) (h6 : ¬ am_rd μ 6 (5 * n + q) = 0) : am_T0 (fc_ol γ π n q) π (fr_oa μ n q) ∧ am_Iv b c (fr_oa μ n q) := by
  have k := am_it2 (R := fun _ γ μ => am_T0 γ π μ ∧ am_Iv b c μ ∧ ¬ am_rd μ 6 (5 * n + q) = 0) (f := fc_ol_x π n q) (g := fr_oa_b n q) (n := 5) (s := γ) (t := μ) (fun x hx γ μ hR => ?step) ⟨h, hI, h6⟩
  case step =>
    obtain ⟨r1, r2, r3⟩ := hR
    unfold fc_ol_x fr_oa_b
    rcases tD_pos (r1.2.2.2.2 n hn x hx) with ⟨e1, e2⟩ | ⟨d, e1, d1, d2, d3, -⟩
    · rw [e1, if_neg e2]; exact ⟨r1, r2, r3⟩
    rw [e1, if_pos d2]
    dsimp only [Option.elim]
    have fin : am_T0 (fc_ow γ n q x) π (fr_owe μ (5 * (5 * n + q) + x) 0) ∧ am_Iv b c (fr_owe μ (5 * (5 * n + q) + x) 0) ∧ ¬ am_rd (fr_owe μ (5 * (5 * n + q) + x) 0) 6 (5 * n + q) = 0 := ⟨T0_ow r1 hn hq hx, Iv_owe r2 0 hn hq hx r3 d2, by rw [ow_rd (by decide)]; exact r3⟩
    rcases r1.2.2.2.2 q hq x hx with ⟨f1, f2⟩ | ⟨d', f1, f2, -, f4, -⟩
    · rw [f1]
      have o : ¬ fr_old μ (5 * q + x) (5 * n + x) = 0 := by
        unfold fr_old
        rw [f2, if_pos d2]
        exact one_ne
      rw [if_neg o]
      exact fin
    · rw [f1]
      dsimp only
      rw [s_nw d1 d3 f2 f4]
      by_cases o : fr_old μ (5 * q + x) (5 * n + x) = 0
      · rw [if_pos o, if_pos o]; exact ⟨r1, r2, r3⟩
      · rw [if_neg o, if_neg o]; exact fin
  exact ⟨k.1, k.2.1⟩
theorem s_jo_m {b c : Nat} {γ : am_I} {π : am_P} {μ : am_I} (h : am_T0 γ π μ) (hI : am_Iv b c μ) {q n : Nat} (hF : tF γ μ 25) (hq : q < 5) (hn : n < 5) : am_T0 (fc_jo_m π q n γ) π (fr_nb_c (5 * q + n) μ) ∧ am_Iv b c (fr_nb_c (5 * q + n) μ) ∧ tF (fc_jo_m π q n γ) (fr_nb_c (5 * q + n) μ) 25 := by
  have k1 : (5 * q + n) / 5 = q := by omega
  have k2 : (5 * q + n) % 5 = n := by omega
  obtain ⟨f1, f2⟩ := hF q hq n hn (by omega)
  have fr : ∀ γ' μ', (∀ a i, γ' 707 a i = γ 707 a i) → (∀ y, am_rd μ' 7 y = am_rd μ 7 y) → (∀ y, am_rd μ' 6 y = am_rd μ 6 y) → tF γ' μ' 25 := fun γ' μ' e1 e2 e3 r hr m hm lt => by
    rw [e1, e2, e3]; exact hF r hr m hm lt
  unfold fc_jo_m fr_nb_c fr_nb_d
  rw [k1, k2, f1]
  by_cases z : am_rd μ 7 (5 * q + n) = 0
  · rw [if_pos z, if_pos z, if_pos z]
    exact ⟨h, hI, hF⟩
  rw [if_neg z, if_neg z]
  obtain ⟨h1, hI1⟩ := s_ol h hI hq hn (f2 z)
  have m7 : ∀ y, am_rd (fr_oa μ q n) 7 y = am_rd μ 7 y := fun y => oa_rd (by decide)
  have m6 : ∀ y, am_rd (fr_oa μ q n) 6 y = am_rd μ 6 y := fun y => oa_rd (by decide)
  have g7 : ∀ a i, fc_ol γ π q n 707 a i = γ 707 a i := fun a i => ol_g (by decide)
  rw [m7, if_neg z]
  generalize fc_ol γ π q n = γ1 at h1 g7 ⊢
  generalize fr_oa μ q n = μ1 at h1 hI1 m7 m6 ⊢
  unfold fc_jo_2
  rw [(h1.2.2.2.1 n hn q hq).2.2.2.1]
  by_cases y : am_rd μ1 6 (5 * n + q) = 0
  · rw [if_pos y, if_pos y]
    exact ⟨h1, hI1, fr _ _ g7 m7 m6⟩
  rw [if_neg y, if_neg y]
  obtain ⟨h2, hI2⟩ := s_ol h1 hI1 hn hq y
  exact ⟨h2, hI2, fr _ _ (fun a i => by rw [ol_g (by decide)]; exact g7 a i) (fun y => by rw [oa_rd (by decide)]; exact m7 y) (fun y => by rw [oa_rd (by decide)]; exact m6 y)⟩
theorem s_jn {b c : Nat} {γ : am_I} {π : am_P} {μ : am_I} (h : am_T0 γ π μ) (hI : am_Iv b c μ) : am_T0 (fc_jn γ π) π (fr_nb μ) ∧ am_Iv b c (fr_nb μ) := by
  have g := am_it25 (R := fun i γ μ => am_T0 γ π μ ∧ am_Iv b c μ ∧ tF γ μ i) (f := fc_jn_m) (g := fr_nb_b) (s := γ) (t := μ) (fun q hq n hn s t hR => s_jn_m hR.1 hR.2.1 hR.2.2 hq hn) ⟨h, hI, fun r _ n _ w => absurd w (Nat.not_lt_zero _)⟩
  unfold fc_jn fr_nb
  have e : am_it fc_jn_n 5 γ = am_it (fun q => am_it (fc_jn_m q) 5) 5 γ := rfl
  rw [e]
  generalize am_it (fun q => am_it (fc_jn_m q) 5) 5 γ = γ1 at g ⊢
  generalize am_it fr_nb_b 25 μ = μ1 at g ⊢
  have k := am_it25 (R := fun _ γ μ => am_T0 γ π μ ∧ am_Iv b c μ ∧ tF γ μ 25) (f := fc_jo_m π) (g := fr_nb_c) (s := γ1) (t := μ1) (fun q hq n hn s t hR => s_jo_m hR.1 hR.2.1 hR.2.2 hq hn) g
  exact ⟨k.1, k.2.1⟩

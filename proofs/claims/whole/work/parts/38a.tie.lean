theorem wr_cm {μ : am_I} {k x k' x' : Nat} {v v' : Int32} (h : ¬ k = k') : am_wr (am_wr μ k x v) k' x' v' = am_wr (am_wr μ k' x' v') k x v := u_cm (by omega)
theorem wr_cmx {μ : am_I} {k x x' : Nat} {v v' : Int32} (h : ¬ x = x') : am_wr (am_wr μ k x v) k x' v' = am_wr (am_wr μ k x' v') k x v := u_cm3 (fun q => h q.2.2)
theorem cut_cm {μ : am_I} {a b k x : Nat} {v : Int32} (hk : ¬ k = 3 ∧ ¬ k = 5 ∧ ¬ k = 6 ∧ ¬ k = 18) : am_wr (fr_cut μ a b) k x v = fr_cut (am_wr μ k x v) a b := by
  unfold fr_cut
  refine (am_it_cm (f := fr_cut_b a b) (g := fun ν => am_wr ν k x v) (fun j hj s => ?_) _).trans ?_
  · unfold fr_cut_b
    exact wr_cm (by omega)
  · rw [wr_cm (k := 6) (by omega), wr_cm (k := 5) (by omega), wr_cm (k := 3) (by omega)]
theorem cut_ne {μ : am_I} {a b k y : Nat} (h1 : ¬ ((k = 3 ∨ k = 5 ∨ k = 6) ∧ y = 5 * a + b)) (h2 : ¬ (k = 18 ∧ 5 * (5 * a + b) ≤ y ∧ y < 5 * (5 * a + b) + 5)) : am_rd (fr_cut μ a b) k y = am_rd μ k y := by
  unfold fr_cut
  rw [it_rd _ (fun x hx μ => by unfold fr_cut_b; rw [rd_ne (by omega)]), rd_ne (by omega), rd_ne (by omega), rd_ne (by omega)]
theorem cut_ck {μ : am_I} {a b : Nat} : am_ck (fr_cut μ a b) = am_ck μ := by
  unfold fr_cut
  rw [it_ck _ (fun x hx μ => by unfold fr_cut_b; rw [am_ck_wr]), am_ck_wr, am_ck_wr, am_ck_wr]
theorem cut_at {μ : am_I} {a b k : Nat} (hk : k = 3 ∨ k = 5 ∨ k = 6) : am_rd (fr_cut μ a b) k (5 * a + b) = 0 := by
  unfold fr_cut
  rw [it_rd _ (fun x hx μ => by unfold fr_cut_b; rw [rd_nk (by omega)])]
  rcases hk with rfl | rfl | rfl
  · rw [rd_nk (by decide), rd_nk (by decide), rd_at]
  · rw [rd_nk (by decide), rd_at]
  · rw [rd_at]
theorem cut_18 {μ : am_I} {a b x : Nat} (hx : x < 5) : am_rd (fr_cut μ a b) 18 (5 * (5 * a + b) + x) = 0 := by
  refine it_set (j := x) (I := fun _ => True) (Q := fun s => am_rd s 18 (5 * (5 * a + b) + x) = 0) hx trivial (fun _ _ _ _ => trivial) (fun s _ => ?_) (fun i hi hne s _ hq => ?_)
  · exact rd_at
  · unfold fr_cut_b
    rw [rd_ne (by omega)]; exact hq
theorem fg_ne {γ : am_I} {r n f a i : Nat} (h1 : ¬ ((f = 702 ∨ f = 704 ∨ f = 705 ∨ f = 706) ∧ a = 7 + 14 * r + 2 * n)) (h2 : ¬ (f = 800 ∧ a = 8 + 14 * r + 2 * n)) : fc_fg γ r n f a i = γ f a i := by
  unfold fc_fg
  rw [on_ne h2, u_ne (by omega), u_ne (by omega), u_ne (by omega), u_ne (by omega)]
theorem fg_at {γ : am_I} {r n f : Nat} (h : f = 702 ∨ f = 705 ∨ f = 706) : fc_fg γ r n f (7 + 14 * r + 2 * n) 0 = 0 := by
  unfold fc_fg
  rw [on_ne (by omega)]
  rcases h with rfl | rfl | rfl
  · rw [am_u_ne (by decide), am_u_ne (by decide), am_u_ne (by decide), am_u_at]
  · rw [am_u_ne (by decide), am_u_at]
  · rw [am_u_at]
theorem s_fg {γ : am_I} {π : am_P} {μ : am_I} (h : am_T0 γ π μ) {r n : Nat} (hr : r < 5) (hn : n < 5) : am_T0 (fc_fg γ r n) π (fr_cut μ r n) := by
  obtain ⟨b1, b2, b3, b4, b5, b6, b7, b8⟩ := h.2.2.2.1 r hr n hn
  refine T0_e1 h hr hn (fun f a i q1 q2 q3 q4 q5 => fg_ne (by omega) (by omega)) (fun _ _ _ _ => rfl) (fun k x q1 q2 q3 q4 => cut_ne (by omega) (by omega)) cut_ck (fun i hi => ?_) ?_
  · rw [fg_ne (by omega) (by omega), cut_ne (by omega) (by omega)]; exact h.2.1 i hi
  · refine ⟨?_, ?_, ?_, ?_, fun q => ?_, fun q => ?_, fun q => ?_, fun x hx => ?_⟩
    · rw [fg_ne (by omega) (by omega), cut_ne (by omega) (by omega)]; exact b1
    · rw [fg_at (by omega), cut_at (by omega)]
    · rw [fg_at (by omega), cut_at (by omega)]
    · rw [fg_at (by omega), cut_at (by omega)]
    · rw [cut_ne (by omega) (by omega)] at q
      rw [fg_ne (by omega) (by omega)]; exact b5 q
    · rw [cut_ne (by omega) (by omega)] at q
      rw [fg_ne (by omega) (by omega), cut_ne (by omega) (by omega)]; exact b6 q
    · rw [cut_at (by omega)] at q
      exact absurd rfl q
    · rw [cut_18 hx]
      refine Or.inl ⟨rfl, ?_⟩
      unfold fc_fg
      exact on_at hx
theorem s_c0 {γ : am_I} {π : am_P} {μ : am_I} (h : am_T0 γ π μ) {r n : Nat} (hr : r < 5) (hn : n < 5) : am_T0 (am_u (am_u γ 700 (7 + 14 * r + 2 * n) 0 0) 701 (7 + 14 * r + 2 * n) 0 0) π (am_wr μ 1 (5 * r + n) 0) := by
  obtain ⟨b1, b2, b3, b4, b5, b6, b7, b8⟩ := h.2.2.2.1 r hr n hn
  refine T0_e1 h hr hn (fun f a i q1 q2 q3 q4 q5 => ?_) (fun _ _ _ _ => rfl) (fun k x q1 q2 q3 q4 => rd_ne (by omega)) (am_ck_wr _ _ _ _) (fun i hi => ?_) ?_
  · rw [u_ne (by omega), u_ne (by omega)]
  · rw [am_u_ne (by decide), am_u_ne (by decide), rd_nk (by decide)]; exact h.2.1 i hi
  · refine ⟨?_, ?_, ?_, ?_, fun q => ?_, fun q => ?_, fun q => ?_, fun x hx => ?_⟩
    · rw [am_u_ne (by decide), am_u_at, rd_at]
    · rw [am_u_ne (by decide), am_u_ne (by decide), rd_nk (by decide)]; exact b2
    · rw [am_u_ne (by decide), am_u_ne (by decide), rd_nk (by decide)]; exact b3
    · rw [am_u_ne (by decide), am_u_ne (by decide), rd_nk (by decide)]; exact b4
    · rw [am_u_at]
    · rw [rd_at] at q
      exact absurd rfl q
    · rw [rd_nk (by decide)] at q
      rw [am_u_ne (by decide), am_u_ne (by decide), rd_nk (by decide)]; exact b7 q
    · rw [am_u_ne (by decide), am_u_ne (by decide), rd_nk (by decide), rd_nk (by decide)]; exact b8 x hx
theorem s_c1 {γ : am_I} {π : am_P} {μ : am_I} (h : am_T0 γ π μ) {r n : Nat} {z : Int32} (hr : r < 5) (hn : n < 5) (hz : ¬ z = 0) (hc : ¬ am_rd μ 1 (5 * r + n) = 0) : am_T0 (am_u γ 700 (7 + 14 * r + 2 * n) 0 z) π (am_wr μ 1 (5 * r + n) z) := by
  obtain ⟨b1, b2, b3, b4, b5, b6, b7, b8⟩ := h.2.2.2.1 r hr n hn
  refine T0_e1 h hr hn (fun f a i q1 q2 q3 q4 q5 => u_ne (by omega)) (fun _ _ _ _ => rfl) (fun k x q1 q2 q3 q4 => rd_ne (by omega)) (am_ck_wr _ _ _ _) (fun i hi => ?_) ?_
  · rw [am_u_ne (by decide), rd_nk (by decide)]; exact h.2.1 i hi
  · refine ⟨?_, ?_, ?_, ?_, fun q => ?_, fun q => ?_, fun q => ?_, fun x hx => ?_⟩
    · rw [am_u_at, rd_at]
    · rw [am_u_ne (by decide), rd_nk (by decide)]; exact b2
    · rw [am_u_ne (by decide), rd_nk (by decide)]; exact b3
    · rw [am_u_ne (by decide), rd_nk (by decide)]; exact b4
    · rw [rd_at] at q
      exact absurd q hz
    · rw [am_u_ne (by decide), rd_nk (by decide)]; exact b6 hc
    · rw [rd_nk (by decide)] at q
      rw [am_u_ne (by decide), rd_nk (by decide)]; exact b7 q
    · rw [am_u_ne (by decide), rd_nk (by decide), rd_nk (by decide)]; exact b8 x hx
theorem s_c2 {γ : am_I} {π : am_P} {μ : am_I} (h : am_T0 γ π μ) {r n : Nat} {z : Int32} (hr : r < 5) (hn : n < 5) (hz : ¬ z = 0) (hc : am_rd μ 1 (5 * r + n) = 0) : am_T0 (am_u γ 700 (7 + 14 * r + 2 * n) 0 z) π (am_wr (am_wr μ 2 (5 * r + n) 0) 1 (5 * r + n) z) := by
  obtain ⟨b1, b2, b3, b4, b5, b6, b7, b8⟩ := h.2.2.2.1 r hr n hn
  refine T0_e1 h hr hn (fun f a i q1 q2 q3 q4 q5 => u_ne (by omega)) (fun _ _ _ _ => rfl) (fun k x q1 q2 q3 q4 => ?_) ?_ (fun i hi => ?_) ?_
  · rw [rd_ne (by omega), rd_ne (by omega)]
  · rw [am_ck_wr, am_ck_wr]
  · rw [am_u_ne (by decide), rd_nk (by decide), rd_nk (by decide)]; exact h.2.1 i hi
  · refine ⟨?_, ?_, ?_, ?_, fun q => ?_, fun q => ?_, fun q => ?_, fun x hx => ?_⟩
    · rw [am_u_at, rd_at]
    · rw [am_u_ne (by decide), rd_nk (by decide), rd_nk (by decide)]; exact b2
    · rw [am_u_ne (by decide), rd_nk (by decide), rd_nk (by decide)]; exact b3
    · rw [am_u_ne (by decide), rd_nk (by decide), rd_nk (by decide)]; exact b4
    · rw [rd_at] at q
      exact absurd q hz
    · rw [am_u_ne (by decide), rd_nk (by decide), rd_at]; exact b5 hc
    · rw [rd_nk (by decide), rd_nk (by decide)] at q
      rw [am_u_ne (by decide), rd_nk (by decide), rd_nk (by decide)]; exact b7 q
    · rw [am_u_ne (by decide), rd_nk (by decide), rd_nk (by decide), rd_nk (by decide), rd_nk (by decide)]; exact b8 x hx
theorem Iv_lk {b c : Nat} {μ μ' : am_I} {r n : Nat} {z : Int32} (h : am_Iv b c μ) (hr : r < 5) (hn : n < 5) (hrn : ¬ r = n) (hz : am_lb z 9) (hck : am_ck μ' = am_ck μ) (h1 : ∀ x, am_rd μ' 1 x = if x = 5 * r + n ∨ x = 5 * n + r then z else am_rd μ 1 x) (h2 : ∀ x, am_lb (am_rd μ' 2 x) 9) (hs : ∀ k x, k = 10 ∨ k = 12 ∨ k = 16 → am_rd μ' k x = am_rd μ k x) (h3 : ∀ k x, k = 3 ∨ k = 5 ∨ k = 6 → ¬ (x = 5 * r + n ∨ x = 5 * n + r) → am_rd μ' k x = am_rd μ k x) (h4 : (¬ z = 0 ∧ ∀ k x, k = 3 ∨ k = 5 ∨ k = 6 ∨ k = 18 → am_rd μ' k x = am_rd μ k x) ∨ ((∀ k, k = 3 ∨ k = 5 ∨ k = 6 → am_rd μ' k (5 * r + n) = 0 ∧ am_rd μ' k (5 * n + r) = 0) ∧ (∀ x, x < 5 → am_rd μ' 18 (5 * (5 * r + n) + x) = 0 ∧ am_rd μ' 18 (5 * (5 * n + r) + x) = 0) ∧ ∀ y, ¬ (5 * (5 * r + n) ≤ y ∧ y < 5 * (5 * r + n) + 5) → ¬ (5 * (5 * n + r) ≤ y ∧ y < 5 * (5 * n + r) + 5) → am_rd μ' 18 y = am_rd μ 18 y)) : am_Iv b c μ' := by
  obtain ⟨⟨i1, i2, i3, i4, i5, i6, i7, i8, i9⟩, iB, iC⟩ := h
  refine ⟨⟨?_, fun x => ?_, h2, fun x => ?_, fun x => ?_, fun x => ?_, fun p hp q hq => ?_, fun p hp => ?_, fun p hp => ?_⟩, fun k hk => ?_, fun p hp q hq x hx w => ?_⟩
  · rw [hck]; exact i1
  · rw [h1]
    split
    · exact hz
    · exact i2 x
  · rw [hs _ _ (by omega)]; exact i4 x
  · rw [hs _ _ (by omega)]; exact i5 x
  · rw [hs _ _ (by omega)]; exact i6 x
  · rw [h1, h1]
    by_cases e : 5 * p + q = 5 * r + n ∨ 5 * p + q = 5 * n + r
    · rw [if_pos e, if_pos (by omega)]
    · rw [if_neg e, if_neg (by omega)]; exact i7 p hp q hq
  · rw [h1, if_neg (by omega)]; exact i8 p hp
  · rw [hs _ _ (by omega)]; exact i9 p hp
  · obtain ⟨g1, g2, g3⟩ := iB k hk
    rw [h1]
    by_cases e : k = 5 * r + n ∨ k = 5 * n + r
    · rw [if_pos e]
      rcases h4 with ⟨z0, s⟩ | ⟨s, -, -⟩
      · exact ⟨fun _ => z0, fun w => by rw [s _ _ (by omega)] at w ⊢; exact g2 w, fun _ => z0⟩
      · have a3 : am_rd μ' 3 k = 0 := by rcases e with rfl | rfl; exact (s 3 (by omega)).1; exact (s 3 (by omega)).2
        have a5 : am_rd μ' 5 k = 0 := by rcases e with rfl | rfl; exact (s 5 (by omega)).1; exact (s 5 (by omega)).2
        have a6 : am_rd μ' 6 k = 0 := by rcases e with rfl | rfl; exact (s 6 (by omega)).1; exact (s 6 (by omega)).2
        exact ⟨fun w => absurd a3 w, fun w => absurd a5 w, fun w => absurd a6 w⟩
    · rw [if_neg e, h3 3 k (by omega) e, h3 5 k (by omega) e, h3 6 k (by omega) e]
      exact ⟨g1, g2, g3⟩
  · rw [hs 10 _ (by omega)]
    rcases h4 with ⟨z0, s⟩ | ⟨s, s18, s19⟩
    · rw [s 18 _ (by omega)] at w
      rw [s 6 _ (by omega)]
      exact iC p hp q hq x hx w
    · by_cases e : 5 * p + q = 5 * r + n
      · rw [e] at w
        exact absurd (s18 x hx).1 w
      · by_cases e2 : 5 * p + q = 5 * n + r
        · rw [e2] at w
          exact absurd (s18 x hx).2 w
        · rw [s19 _ (by omega) (by omega)] at w
          rw [h3 6 _ (by omega) (by omega)]
          exact iC p hp q hq x hx w
theorem s_link {b c : Nat} {γ : am_I} {π : am_P} {μ : am_I} (h : am_T0 γ π μ) (hI : am_Iv b c μ) (x y z : Int32) : (am_T0 (fc_link γ x y z).1 π (fr_link μ x y z).1 ∧ am_Iv b c (fr_link μ x y z).1) ∧ (fc_link γ x y z).2 = (fr_link μ x y z).2 := by
  unfold fc_link fr_link
  by_cases h1 : fr_rtr x = 0
  · rw [if_pos h1, if_pos h1]; exact ⟨⟨h, hI⟩, rfl⟩
  rw [if_neg h1, if_neg h1]
  by_cases h2 : fr_rtr y = 0
  · rw [if_pos h2, if_pos h2]; exact ⟨⟨h, hI⟩, rfl⟩
  rw [if_neg h2, if_neg h2]
  by_cases h3 : x = y
  · rw [if_pos h3, if_pos h3]; exact ⟨⟨h, hI⟩, rfl⟩
  rw [if_neg h3, if_neg h3]
  by_cases h4 : z < 0
  · rw [if_pos h4, if_pos h4]; exact ⟨⟨h, hI⟩, rfl⟩
  rw [if_neg h4, if_neg h4]
  by_cases h5 : 9 < z
  · rw [if_pos h5, if_pos h5]; exact ⟨⟨h, hI⟩, rfl⟩
  rw [if_neg h5, if_neg h5]
  obtain ⟨r, hr, rfl⟩ := fr_rtr_of h1
  obtain ⟨n, hn, rfl⟩ := fr_rtr_of h2
  have hrn : ¬ r = n := fun e => h3 (by rw [e])
  rw [nI_clamp (by omega), nI_clamp (by omega), (h.2.2.2.1 r hr n hn).1]
  by_cases h6 : am_rd μ 1 (5 * r + n) = z
  · rw [if_pos h6, if_pos h6]; exact ⟨⟨h, hI⟩, rfl⟩
  rw [if_neg h6, if_neg h6]
  refine ⟨?_, rfl⟩
  dsimp only
  obtain ⟨m, hm, hzm⟩ := nI_of2 (M := 9) (n := 9) (by decide) h4 (Int32.not_lt.mp h5)
  have hz : am_lb z 9 := ⟨m, by omega, hzm⟩
  have sym := hI.1.2.2.2.2.2.2.1 r hr n hn
  unfold fr_link2 fr_link3 fr_link4 fc_sc
  by_cases z0 : z = 0
  · subst z0
    rw [if_pos rfl, if_pos rfl, if_pos rfl]
    have cc : ¬ am_rd (fr_cut (fr_cut μ r n) n r) 1 (5 * r + n) = 0 := by
      rw [cut_ne (by omega) (by omega), cut_ne (by omega) (by omega)]; exact h6
    rw [if_neg cc]
    constructor
    · have k1 := s_fg (s_c0 h hr hn) hr hn
      have k2 := s_fg (s_c0 k1 hn hr) hn hr
      rw [← cut_cm (by decide), ← cut_cm (by decide), ← cut_cm (by decide)] at k2
      exact k2
    · refine Iv_lk hI hr hn hrn hz ?_ (fun w => ?_) (fun w => ?_) (fun k w q => ?_) (fun k w q q2 => ?_) (Or.inr ⟨fun k q => ⟨?_, ?_⟩, fun w hw => ⟨?_, ?_⟩, fun w q1 q2 => ?_⟩)
      · rw [am_ck_wr, am_ck_wr, cut_ck, cut_ck]
      · rw [am_rd_wr]
        by_cases e : w = 5 * n + r
        · rw [if_pos ⟨rfl, e⟩, if_pos (Or.inr e)]
        · rw [if_neg (fun q => e q.2), am_rd_wr]
          by_cases e2 : w = 5 * r + n
          · rw [if_pos ⟨rfl, e2⟩, if_pos (Or.inl e2)]
          · rw [if_neg (fun q => e2 q.2), if_neg (by omega), cut_ne (by omega) (by omega), cut_ne (by omega) (by omega)]
      · rw [rd_nk (by decide), rd_nk (by decide), cut_ne (by omega) (by omega), cut_ne (by omega) (by omega)]
        exact hI.1.2.2.1 w
      · rw [rd_nk (by omega), rd_nk (by omega), cut_ne (by omega) (by omega), cut_ne (by omega) (by omega)]
      · rw [rd_nk (by omega), rd_nk (by omega), cut_ne (by omega) (by omega), cut_ne (by omega) (by omega)]
      · rw [rd_nk (by omega), rd_nk (by omega), cut_ne (by omega) (by omega), cut_at q]
      · rw [rd_nk (by omega), rd_nk (by omega), cut_at q]
      · rw [rd_nk (by omega), rd_nk (by omega), cut_ne (by omega) (by omega), cut_18 hw]
      · rw [rd_nk (by omega), rd_nk (by omega), cut_18 hw]
      · rw [rd_nk (by omega), rd_nk (by omega), cut_ne (by omega) (by omega), cut_ne (by omega) (by omega)]
  · rw [if_neg z0, if_neg z0, if_neg z0]
    by_cases c0 : am_rd μ 1 (5 * r + n) = 0
    · rw [if_pos c0]
      constructor
      · have k1 := s_c2 h hr hn z0 c0
        have k2 := s_c2 k1 hn hr z0 (by rw [rd_ne (by omega), rd_nk (by decide), ← sym]; exact c0)
        rw [wr_cm (k := 1) (k' := 2) (by decide)] at k2
        exact k2
      · refine Iv_lk hI hr hn hrn hz ?_ (fun w => ?_) (fun w => ?_) (fun k w q => ?_) (fun k w q q2 => ?_) (Or.inl ⟨z0, fun k w q => ?_⟩)
        · rw [am_ck_wr, am_ck_wr, am_ck_wr, am_ck_wr]
        · rw [am_rd_wr]
          by_cases e : w = 5 * n + r
          · rw [if_pos ⟨rfl, e⟩, if_pos (Or.inr e)]
          · rw [if_neg (fun q => e q.2), am_rd_wr]
            by_cases e2 : w = 5 * r + n
            · rw [if_pos ⟨rfl, e2⟩, if_pos (Or.inl e2)]
            · rw [if_neg (fun q => e2 q.2), if_neg (by omega), rd_nk (by decide), rd_nk (by decide)]
        · rw [rd_nk (by decide), rd_nk (by decide), am_rd_wr]
          split
          · exact am_lb.z _
          · rw [am_rd_wr]
            split
            · exact am_lb.z _
            · exact hI.1.2.2.1 w
        · rw [rd_nk (by omega), rd_nk (by omega), rd_nk (by omega), rd_nk (by omega)]
        · rw [rd_nk (by omega), rd_nk (by omega), rd_nk (by omega), rd_nk (by omega)]
        · rw [rd_nk (by omega), rd_nk (by omega), rd_nk (by omega), rd_nk (by omega)]
    · rw [if_neg c0]
      constructor
      · have k1 := s_c1 h hr hn z0 c0
        exact s_c1 k1 hn hr z0 (by rw [rd_ne (by omega), ← sym]; exact c0)
      · refine Iv_lk hI hr hn hrn hz ?_ (fun w => ?_) (fun w => ?_) (fun k w q => ?_) (fun k w q q2 => ?_) (Or.inl ⟨z0, fun k w q => ?_⟩)
        · rw [am_ck_wr, am_ck_wr]
        · rw [am_rd_wr]
          by_cases e : w = 5 * n + r
          · rw [if_pos ⟨rfl, e⟩, if_pos (Or.inr e)]
          · rw [if_neg (fun q => e q.2), am_rd_wr]
            by_cases e2 : w = 5 * r + n
            · rw [if_pos ⟨rfl, e2⟩, if_pos (Or.inl e2)]
            · rw [if_neg (fun q => e2 q.2), if_neg (by omega)]
        · rw [rd_nk (by decide), rd_nk (by decide)]
          exact hI.1.2.2.1 w
        · rw [rd_nk (by omega), rd_nk (by omega)]
        · rw [rd_nk (by omega), rd_nk (by omega)]
        · rw [rd_nk (by omega), rd_nk (by omega)]
theorem BB_cut {μ : am_I} (h : fr_BB μ) (a b : Nat) : fr_BB (fr_cut μ a b) := by
  unfold fr_cut
  refine fr_it_BB (fun i ν hν => ?_) (((h.wr (Or.inl rfl)).wo (by decide) (by decide)).wo (by decide) (by decide))
  unfold fr_cut_b
  exact hν.wo (by decide) (by decide)
theorem BB_link {μ : am_I} (h : fr_BB μ) (x y z : Int32) : fr_BB (fr_link μ x y z).1 := by
  have k : ∀ a b, fr_BB (fr_link2 μ a b z) := fun a b => by
    unfold fr_link2 fr_link3 fr_link4
    refine fr_BB.wo (fr_BB.wo ?_ (by decide) (by decide)) (by decide) (by decide)
    have k2 : fr_BB (if z = 0 then fr_cut (fr_cut μ a b) b a else μ) := by
      split
      · exact BB_cut (BB_cut h _ _) _ _
      · exact h
    generalize (if z = 0 then fr_cut (fr_cut μ a b) b a else μ) = ν at k2 ⊢
    split
    · exact (k2.wo (by decide) (by decide)).wo (by decide) (by decide)
    · exact k2
  unfold fr_link
  repeat' split
  all_goals first | exact h | exact k _ _
theorem BB_lose {μ : am_I} (h : fr_BB μ) (x y z : Int32) : fr_BB (fr_lose μ x y z).1 := by
  unfold fr_lose
  repeat' split
  all_goals first | exact h | exact h.wo (by decide) (by decide)
theorem Iv_lose {b c : Nat} {μ : am_I} (h : am_Iv b c μ) (x y z : Int32) : am_Iv b c (fr_lose μ x y z).1 := by
  unfold fr_lose
  by_cases h1 : fr_lnk μ x y = 0
  · rw [if_pos h1]; exact h
  rw [if_neg h1]
  by_cases h4 : z < 0
  · rw [if_pos h4]; exact h
  rw [if_neg h4]
  by_cases h5 : 9 < z
  · rw [if_pos h5]; exact h
  rw [if_neg h5]
  obtain ⟨m, hm, hzm⟩ := nI_of2 (M := 9) (n := 9) (by decide) h4 (Int32.not_lt.mp h5)
  exact h.w2 ⟨m, by omega, hzm⟩

theorem tS_cg {γ γ' : am_I} {o : Option Nat} {μ μ' : am_I} {k : Nat} (h : tS γ o μ k) (hg : ∀ f, 2200 ≤ f → f < 2203 → ∀ q, o = some q → γ' f q 0 = γ f q 0) (hm : ∀ q, 13 ≤ q → q ≤ 15 → am_rd μ' q k = am_rd μ q k) : tS γ' o μ' k := by
  rcases h with ⟨h1, h2, h3, h4⟩ | ⟨q, h1, h2, h3, h4, h5⟩
  · exact Or.inl ⟨h1, by rw [hm 13 (by omega) (by omega)]; exact h2, by rw [hm 14 (by omega) (by omega)]; exact h3, by rw [hm 15 (by omega) (by omega)]; exact h4⟩
  · refine Or.inr ⟨q, h1, ?_, ?_, ?_, ?_⟩
    · rw [hg 2200 (by omega) (by omega) q h1, hm 13 (by omega) (by omega)]; exact h2
    · rw [hg 2201 (by omega) (by omega) q h1, hm 14 (by omega) (by omega)]; exact h3
    · rw [hg 2202 (by omega) (by omega) q h1, hm 15 (by omega) (by omega)]; exact h4
    · rw [hm 15 (by omega) (by omega)]; exact h5
theorem tD_cg {γ γ' : am_I} {π π' : am_P} {o : Option Nat} {μ μ' : am_I} {e : Nat} (h : tD γ π o μ e) (hg : ∀ f a i, 1900 ≤ f → f < 2300 → γ' f a i = γ f a i) (hp : ∀ a i, π' 2100 a i = π 2100 a i) (h1 : am_rd μ' 10 e = am_rd μ 10 e) (h2 : am_rd μ' 11 e = am_rd μ 11 e) (h3 : ∀ n, n < 5 → am_rd μ' 12 (5 * e + n) = am_rd μ 12 (5 * e + n)) (h4 : ∀ s, s < 2 → ∀ q, 13 ≤ q → q ≤ 15 → am_rd μ' q (2 * e + s) = am_rd μ q (2 * e + s)) : tD γ' π' o μ' e := by
  rcases h with ⟨e1, e2⟩ | ⟨a, e1, e2, e3, e4, e5, e6⟩
  · exact Or.inl ⟨e1, by rw [h1]; exact e2⟩
  · refine Or.inr ⟨a, e1, ?_, ?_, ?_, fun n hn => ?_, fun s hs => ?_⟩
    · rw [hg _ _ _ (by omega) (by omega), h1]; exact e2
    · rw [h1]; exact e3
    · rw [hg _ _ _ (by omega) (by omega), h2]; exact e4
    · rw [hg _ _ _ (by omega) (by omega), h3 n hn]; exact e5 n hn
    · rw [hp]
      exact tS_cg (e6 s hs) (fun f f1 f2 q _ => hg _ _ _ (by omega) (by omega)) (h4 s hs)
theorem T0_end {γ γ' : am_I} {π : am_P} {μ μ' : am_I} (h : am_T0 γ π μ) {r0 n0 : Nat} (hr0 : r0 < 5) (hn0 : n0 < 5)
    (hg : ∀ f a i, ¬ ((700 ≤ f ∧ f < 708 ∧ a = 7 + 14 * r0 + 2 * n0) ∨ (f = 800 ∧ a = 8 + 14 * r0 + 2 * n0)) → γ' f a i = γ f a i)
    (hm : ∀ k x, ¬ ((1 ≤ k ∧ k ≤ 8 ∧ x = 5 * r0 + n0) ∨ ((k = 18 ∨ k = 19) ∧ 5 * (5 * r0 + n0) ≤ x ∧ x < 5 * (5 * r0 + n0) + 5)) → am_rd μ' k x = am_rd μ k x) (hck : am_ck μ' = am_ck μ) (he : tE γ' μ' r0 n0) : am_T0 γ' π μ' := by
  obtain ⟨h1, h2, h3, h4, h5⟩ := h
  have hgD : ∀ f a i, 1900 ≤ f → f < 2300 → γ' f a i = γ f a i := fun f a i f1 f2 => hg f a i (by omega)
  refine ⟨?_, fun i hi => ?_, fun r hr => ?_, fun r hr n hn => ?_, fun r hr x hx => ?_⟩
  · rw [hg _ _ _ (by omega), hck]; exact h1
  · rw [hg _ _ _ (by omega), hm _ _ (by omega)]; exact h2 i hi
  · obtain ⟨a1, a2, a3, a4, a5⟩ := h3 r hr
    refine ⟨?_, ?_, ?_, ?_, fun s hs => ?_⟩
    · rw [hg _ _ _ (by omega), hm _ _ (by omega)]; exact a1
    · rw [hg _ _ _ (by omega), hm _ _ (by omega)]; exact a2
    · rw [hg _ _ _ (by omega), hm _ _ (by omega)]; exact a3
    · exact tD_cg a4 hgD (fun _ _ => rfl) (hm _ _ (by omega)) (hm _ _ (by omega)) (fun n _ => hm _ _ (by omega)) (fun s _ q q1 q2 => hm _ _ (by omega))
    · exact tS_cg (a5 s hs) (fun f f1 f2 q _ => hg _ _ _ (by omega)) (fun q q1 q2 => hm _ _ (by omega))
  · by_cases hrn : r = r0 ∧ n = n0
    · obtain ⟨rfl, rfl⟩ := hrn
      exact he
    · have hne : ¬ 5 * r + n = 5 * r0 + n0 := by omega
      obtain ⟨b1, b2, b3, b4, b5, b6, b7, b8⟩ := h4 r hr n hn
      refine ⟨?_, ?_, ?_, ?_, fun q => ?_, fun q => ?_, fun q => ?_, fun x hx => ?_⟩
      · rw [hg _ _ _ (by omega), hm _ _ (by omega)]; exact b1
      · rw [hg _ _ _ (by omega), hm _ _ (by omega)]; exact b2
      · rw [hg _ _ _ (by omega), hm _ _ (by omega)]; exact b3
      · rw [hg _ _ _ (by omega), hm _ _ (by omega)]; exact b4
      · rw [hm _ _ (by omega)] at q
        rw [hg _ _ _ (by omega)]; exact b5 q
      · rw [hm _ _ (by omega)] at q
        rw [hg _ _ _ (by omega), hm _ _ (by omega)]; exact b6 q
      · rw [hm _ _ (by omega)] at q
        rw [hg _ _ _ (by omega), hm _ _ (by omega)]; exact b7 q
      · rw [hg _ _ _ (by omega), hm _ _ (by omega), hm _ _ (by omega)]; exact b8 x hx
  · exact tD_cg (h5 r hr x hx) hgD (fun _ _ => rfl) (hm _ _ (by omega)) (hm _ _ (by omega)) (fun n _ => hm _ _ (by omega)) (fun s _ q q1 q2 => hm _ _ (by omega))
theorem s_lose {γ : am_I} {π : am_P} {μ : am_I} (h : am_T0 γ π μ) (hc : iv_c μ) (x y z : Int32) : am_T0 (fc_lose γ x y z).1 π (fr_lose μ x y z).1 ∧ (fc_lose γ x y z).2 = (fr_lose μ x y z).2 := by
  unfold fc_lose fr_lose
  rw [s_lnk h hc]
  by_cases h1 : fr_lnk μ x y = 0
  · rw [if_pos h1, if_pos h1]; exact ⟨h, rfl⟩
  rw [if_neg h1, if_neg h1]
  by_cases h2 : z < 0
  · rw [if_pos h2, if_pos h2]; exact ⟨h, rfl⟩
  rw [if_neg h2, if_neg h2]
  by_cases h3 : 9 < z
  · rw [if_pos h3, if_pos h3]; exact ⟨h, rfl⟩
  rw [if_neg h3, if_neg h3]
  obtain ⟨a, b, ha, hb, rfl, rfl, hab⟩ := fr_lnk_of h1
  rw [nI_clamp (by omega), nI_clamp (by omega)]
  dsimp only
  refine ⟨T0_end h ha hb (fun f c i q => ?_) (fun k x q => ?_) (am_ck_wr _ _ _ _) ?_, rfl⟩
  · unfold am_u
    rw [if_neg (fun w => q (by omega))]
  · rw [am_rd_wr, if_neg (fun w => q (by omega))]
  · obtain ⟨b1, b2, b3, b4, b5, b6, b7, b8⟩ := h.2.2.2.1 a ha b hb
    have hc0 : ¬ am_rd μ 1 (5 * a + b) = 0 := (lt_ne (hc _ (by omega))).mp hab
    have e : ∀ k x, ¬ k = 2 → am_rd (am_wr μ 2 (5 * a + b) z) k x = am_rd μ k x := fun k x q => by rw [am_rd_wr, if_neg (fun w => q w.1)]
    refine ⟨?_, ?_, ?_, ?_, fun q => ?_, fun q => ?_, fun q => ?_, fun x hx => ?_⟩
    · rw [am_u_ne (by decide), e _ _ (by decide)]; exact b1
    · rw [am_u_ne (by decide), e _ _ (by decide)]; exact b2
    · rw [am_u_ne (by decide), e _ _ (by decide)]; exact b3
    · rw [am_u_ne (by decide), e _ _ (by decide)]; exact b4
    · rw [e _ _ (by decide)] at q; exact absurd q hc0
    · rw [am_u_at, am_rd_wr, if_pos ⟨rfl, rfl⟩]
    · rw [e _ _ (by decide)] at q
      rw [am_u_ne (by decide), e _ _ (by decide)]; exact b7 q
    · rw [am_u_ne (by decide), e _ _ (by decide), e _ _ (by decide)]; exact b8 x hx

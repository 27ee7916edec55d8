theorem am_it2 {α β : Type} {R : Nat → α → β → Prop} {f : Nat → α → α} {g : Nat → β → β} {n : Nat} {s : α} {t : β} (h : ∀ i, i < n → ∀ s t, R i s t → R (i + 1) (f i s) (g i t)) (h0 : R 0 s t) : R n (am_it f n s) (am_it g n t) := by
  induction n with
  | zero => exact h0
  | succ n ih => exact h n (Nat.lt_succ_self n) _ _ (ih (fun i hi => h i (Nat.lt_succ_of_lt hi)))
theorem am_it_5 {α : Type} (f : Nat → α → α) (k : Nat) (s : α) : am_it f (5 * k) s = am_it (fun r => am_it (fun x => f (5 * r + x)) 5) k s := by
  induction k with
  | zero => rfl
  | succ k ih =>
    show am_it f (5 * k + 5) s = am_it (fun x => f (5 * k + x)) 5 (am_it (fun r => am_it (fun x => f (5 * r + x)) 5) k s)
    rw [← ih]
    rfl
theorem am_it25 {α β : Type} {R : Nat → α → β → Prop} {f : Nat → Nat → α → α} {g : Nat → β → β} {s : α} {t : β} (h : ∀ q, q < 5 → ∀ n, n < 5 → ∀ s t, R (5 * q + n) s t → R (5 * q + n + 1) (f q n s) (g (5 * q + n) t)) (h0 : R 0 s t) : R 25 (am_it (fun q => am_it (f q) 5) 5 s) (am_it g 25 t) := by
  have e : am_it g 25 t = am_it (fun r => am_it (fun x => g (5 * r + x)) 5) 5 t := am_it_5 g 5 t
  rw [e]
  have k : R (5 * 5) (am_it (fun q => am_it (f q) 5) 5 s) (am_it (fun r => am_it (fun x => g (5 * r + x)) 5) 5 t) := by
    refine am_it2 (n := 5) (f := fun q => am_it (f q) 5) (g := fun r => am_it (fun x => g (5 * r + x)) 5) (R := fun q s t => R (5 * q) s t) (fun q hq s t hR => ?_) h0
    exact am_it2 (n := 5) (f := f q) (g := fun x => g (5 * q + x)) (R := fun n s t => R (5 * q + n) s t) (fun n hn s t hR => h q hq n hn s t hR) hR
  exact k
theorem it_rd {f : Nat → am_I → am_I} {n : Nat} (μ : am_I) {k x : Nat} (h : ∀ i, i < n → ∀ μ, am_rd (f i μ) k x = am_rd μ k x) : am_rd (am_it f n μ) k x = am_rd μ k x := am_it_keep (P := fun m => am_rd m k x = am_rd μ k x) (fun i hi s hs => (h i hi s).trans hs) rfl
theorem it_ck {f : Nat → am_I → am_I} {n : Nat} (μ : am_I) (h : ∀ i, i < n → ∀ μ, am_ck (f i μ) = am_ck μ) : am_ck (am_it f n μ) = am_ck μ := am_it_keep (P := fun m => am_ck m = am_ck μ) (fun i hi s hs => (h i hi s).trans hs) rfl
theorem it_g {f : Nat → am_I → am_I} {n : Nat} (γ : am_I) {c a i : Nat} (h : ∀ j, j < n → ∀ γ, f j γ c a i = γ c a i) : am_it f n γ c a i = γ c a i := am_it_keep (P := fun m => m c a i = γ c a i) (fun i hi s hs => (h i hi s).trans hs) rfl
theorem it_set {α : Type} {I Q : α → Prop} {f : Nat → α → α} {n j : Nat} {s : α} (hj : j < n) (hI0 : I s) (hI : ∀ i, i < n → ∀ s, I s → I (f i s)) (h1 : ∀ s, I s → Q (f j s)) (h2 : ∀ i, i < n → ¬ i = j → ∀ s, I s → Q s → Q (f i s)) : Q (am_it f n s) := by
  have g : ∀ m, m ≤ n → j < m → Q (am_it f m s) := by
    intro m
    induction m with
    | zero => intro _ q; omega
    | succ m ih =>
      intro hm hjm
      have hi : I (am_it f m s) := am_it_keep (fun i hi s hs => hI i (by omega) s hs) hI0
      by_cases e : m = j
      · subst e; exact h1 _ hi
      · exact h2 m (by omega) e _ hi (ih (by omega) (by omega))
  exact g n (Nat.le_refl n) hj
theorem rd_ne {μ : am_I} {k x k' x' : Nat} {v : Int32} (h : ¬ (k' = k ∧ x' = x)) : am_rd (am_wr μ k x v) k' x' = am_rd μ k' x' := by rw [am_rd_wr, if_neg h]
theorem rd_nk {μ : am_I} {k x k' x' : Nat} {v : Int32} (h : ¬ k' = k) : am_rd (am_wr μ k x v) k' x' = am_rd μ k' x' := rd_ne (fun q => h q.1)
theorem rd_at {μ : am_I} {k x : Nat} {v : Int32} : am_rd (am_wr μ k x v) k x = v := by rw [am_rd_wr, if_pos ⟨rfl, rfl⟩]
theorem u_ne {α : Type} {m : Nat → Nat → Nat → α} {f a i f' a' i' : Nat} {v : α} (h : ¬ (f' = f ∧ a' = a ∧ i' = i)) : am_u m f a i v f' a' i' = m f' a' i' := if_neg h
theorem tE_cg {γ γ' μ μ' : am_I} {r n : Nat} (h : tE γ μ r n) (hg : ∀ f, 700 ≤ f → f ≤ 706 → ¬ f = 703 → γ' f (7 + 14 * r + 2 * n) 0 = γ f (7 + 14 * r + 2 * n) 0) (hx : ∀ x, x < 5 → γ' 800 (8 + 14 * r + 2 * n) x = γ 800 (8 + 14 * r + 2 * n) x) (hm : ∀ k, 1 ≤ k → k ≤ 6 → am_rd μ' k (5 * r + n) = am_rd μ k (5 * r + n)) (ho : ∀ k x, x < 5 → 18 ≤ k → k ≤ 19 → am_rd μ' k (5 * (5 * r + n) + x) = am_rd μ k (5 * (5 * r + n) + x)) : tE γ' μ' r n := by
  obtain ⟨b1, b2, b3, b4, b5, b6, b7, b8⟩ := h
  refine ⟨?_, ?_, ?_, ?_, fun q => ?_, fun q => ?_, fun q => ?_, fun x hx' => ?_⟩
  · rw [hg 700 (by omega) (by omega) (by omega), hm 1 (by omega) (by omega)]; exact b1
  · rw [hg 702 (by omega) (by omega) (by omega), hm 3 (by omega) (by omega)]; exact b2
  · rw [hg 705 (by omega) (by omega) (by omega), hm 5 (by omega) (by omega)]; exact b3
  · rw [hg 706 (by omega) (by omega) (by omega), hm 6 (by omega) (by omega)]; exact b4
  · rw [hm 1 (by omega) (by omega)] at q
    rw [hg 701 (by omega) (by omega) (by omega)]; exact b5 q
  · rw [hm 1 (by omega) (by omega)] at q
    rw [hg 701 (by omega) (by omega) (by omega), hm 2 (by omega) (by omega)]; exact b6 q
  · rw [hm 3 (by omega) (by omega)] at q
    rw [hg 704 (by omega) (by omega) (by omega), hm 4 (by omega) (by omega)]; exact b7 q
  · rw [hx x hx', ho 18 x hx' (by omega) (by omega), ho 19 x hx' (by omega) (by omega)]; exact b8 x hx'
theorem tR_cg {γ γ' : am_I} {π π' : am_P} {μ μ' : am_I} {r : Nat} (h : tR γ π μ r) (hg : ∀ f, 301 ≤ f → f ≤ 303 → γ' f (3 + 14 * r) 0 = γ f (3 + 14 * r) 0) (hm : ∀ k, k = 0 ∨ k = 16 ∨ k = 17 → am_rd μ' k r = am_rd μ k r) (h4 : tD γ' π' (π' 304 (3 + 14 * r) 0) μ' (50 + r)) (h5 : ∀ s, s < 2 → tS γ' (π' 400 (4 + 14 * r) s) μ' (2 * (55 + r) + s)) : tR γ' π' μ' r := by
  obtain ⟨a1, a2, a3, -, -⟩ := h
  refine ⟨?_, ?_, ?_, h4, h5⟩
  · rw [hg 301 (by omega) (by omega), hm 0 (by omega)]; exact a1
  · rw [hg 302 (by omega) (by omega), hm 16 (by omega)]; exact a2
  · rw [hg 303 (by omega) (by omega), hm 17 (by omega)]; exact a3
theorem T0_e {γ γ' : am_I} {π π' : am_P} {μ μ' : am_I} (h : am_T0 γ π μ) (hg : ∀ f a i, ¬ (700 ≤ f ∧ f ≤ 800) → ¬ (1000 ≤ f ∧ f ≤ 1800) → γ' f a i = γ f a i) (hp : ∀ f a i, ¬ f = 1100 → π' f a i = π f a i) (hm : ∀ k x, (k = 0 ∨ (10 ≤ k ∧ k ≤ 17)) → am_rd μ' k x = am_rd μ k x) (hck : am_ck μ' = am_ck μ) (hn : ∀ i, i < 7 → γ' 1800 162 i = am_rd μ' 9 i) (he : ∀ r, r < 5 → ∀ n, n < 5 → tE γ' μ' r n) : am_T0 γ' π' μ' := by
  obtain ⟨h1, -, h3, -, h5⟩ := h
  have hgD : ∀ f a i, 1900 ≤ f → f < 2300 → γ' f a i = γ f a i := fun f a i f1 f2 => hg f a i (by omega) (by omega)
  have hpD : ∀ a i, π' 2100 a i = π 2100 a i := fun a i => hp _ _ _ (by omega)
  have hD : ∀ o e, tD γ π o μ e → tD γ' π' o μ' e := fun o e q => tD_cg q hgD hpD (hm _ _ (by omega)) (hm _ _ (by omega)) (fun n _ => hm _ _ (by omega)) (fun s _ k k1 k2 => hm _ _ (by omega))
  refine ⟨?_, hn, fun r hr => ?_, he, fun r hr x hx => ?_⟩
  · rw [hg _ _ _ (by omega) (by omega), hck]; exact h1
  · have q := h3 r hr
    refine tR_cg q (fun f f1 f2 => hg _ _ _ (by omega) (by omega)) (fun k q => hm _ _ (by omega)) ?_ (fun s hs => ?_)
    · rw [hp _ _ _ (by omega)]; exact hD _ _ q.2.2.2.1
    · rw [hp _ _ _ (by omega)]
      exact tS_cg (q.2.2.2.2 s hs) (fun f f1 f2 q _ => hg _ _ _ (by omega) (by omega)) (fun q q1 q2 => hm _ _ (by omega))
  · rw [hp _ _ _ (by omega)]; exact hD _ _ (h5 r hr x hx)
theorem T0_e1 {γ γ' : am_I} {π π' : am_P} {μ μ' : am_I} (h : am_T0 γ π μ) {r0 n0 : Nat} (hr0 : r0 < 5) (hn0 : n0 < 5) (hg : ∀ f a i, ¬ (700 ≤ f ∧ f ≤ 706 ∧ a = 7 + 14 * r0 + 2 * n0) → ¬ f = 703 → ¬ f = 707 → ¬ (f = 800 ∧ a = 8 + 14 * r0 + 2 * n0) → ¬ (1000 ≤ f ∧ f ≤ 1800) → γ' f a i = γ f a i) (hp : ∀ f a i, ¬ f = 1100 → π' f a i = π f a i) (hm : ∀ k x, ¬ (1 ≤ k ∧ k ≤ 6 ∧ x = 5 * r0 + n0) → ¬ (7 ≤ k ∧ k ≤ 9) → ¬ ((k = 18 ∨ k = 19) ∧ 5 * (5 * r0 + n0) ≤ x ∧ x < 5 * (5 * r0 + n0) + 5) → k < 20 → am_rd μ' k x = am_rd μ k x) (hck : am_ck μ' = am_ck μ) (hn : ∀ i, i < 7 → γ' 1800 162 i = am_rd μ' 9 i) (he : tE γ' μ' r0 n0) : am_T0 γ' π' μ' := by
  refine T0_e h (fun f a i q1 q2 => hg f a i (by omega) (by omega) (by omega) (by omega) (by omega)) hp (fun k x q => hm k x (by omega) (by omega) (by omega) (by omega)) hck hn (fun r hr n hn' => ?_)
  by_cases hrn : r = r0 ∧ n = n0
  · obtain ⟨rfl, rfl⟩ := hrn
    exact he
  · exact tE_cg (h.2.2.2.1 r hr n hn') (fun f f1 f2 f3 => hg _ _ _ (by omega) (by omega) (by omega) (by omega) (by omega)) (fun x hx => hg _ _ _ (by omega) (by omega) (by omega) (by omega) (by omega)) (fun k k1 k2 => hm _ _ (by omega) (by omega) (by omega) (by omega)) (fun k x hx k1 k2 => hm _ _ (by omega) (by omega) (by omega) (by omega))
theorem T0_fr {γ γ' : am_I} {π π' : am_P} {μ μ' : am_I} (h : am_T0 γ π μ) (hg : ∀ f a i, ¬ f = 703 → ¬ f = 707 → ¬ (1000 ≤ f ∧ f ≤ 1700) → γ' f a i = γ f a i) (hp : ∀ f a i, ¬ f = 1100 → π' f a i = π f a i) (hm : ∀ k x, ¬ k = 7 → ¬ k = 8 → k < 20 → am_rd μ' k x = am_rd μ k x) (hck : am_ck μ' = am_ck μ) : am_T0 γ' π' μ' := by
  refine T0_e h (fun f a i q1 q2 => hg f a i (by omega) (by omega) (by omega)) hp (fun k x q => hm k x (by omega) (by omega) (by omega)) hck (fun i hi => ?_) (fun r hr n hn' => ?_)
  · rw [hg _ _ _ (by omega) (by omega) (by omega), hm _ _ (by omega) (by omega) (by omega)]; exact h.2.1 i hi
  · exact tE_cg (h.2.2.2.1 r hr n hn') (fun f f1 f2 f3 => hg _ _ _ (by omega) (by omega) (by omega)) (fun x hx => hg _ _ _ (by omega) (by omega) (by omega)) (fun k k1 k2 => hm _ _ (by omega) (by omega) (by omega)) (fun k x hx k1 k2 => hm _ _ (by omega) (by omega) (by omega))
theorem T0_cn {γ γ' : am_I} {π : am_P} {μ μ' : am_I} (h : am_T0 γ π μ) (hg : ∀ f a i, ¬ f = 1800 → γ' f a i = γ f a i) (hm : ∀ k x, ¬ k = 9 → am_rd μ' k x = am_rd μ k x) (hck : am_ck μ' = am_ck μ) (hn : ∀ i, i < 7 → γ' 1800 162 i = am_rd μ' 9 i) : am_T0 γ' π μ' := by
  refine T0_e h (fun f a i q1 q2 => hg f a i (by omega)) (fun _ _ _ _ => rfl) (fun k x q => hm k x (by omega)) hck hn (fun r hr n hn' => ?_)
  exact tE_cg (h.2.2.2.1 r hr n hn') (fun f f1 f2 f3 => hg _ _ _ (by omega)) (fun x hx => hg _ _ _ (by omega)) (fun k k1 k2 => hm _ _ (by omega)) (fun k x hx k1 k2 => hm _ _ (by omega))
theorem T0_ct {γ : am_I} {π : am_P} {μ : am_I} (h : am_T0 γ π μ) (j : Nat) (v : Int32) : am_T0 (fc_ct γ j v) π (am_wr μ 9 j (am_rd μ 9 j + v)) := by
  by_cases hj : j < 7
  · refine T0_cn h (fun f a i q => u_ne (fun w => q w.1)) (fun k x q => rd_nk q) (am_ck_wr _ _ _ _) (fun i hi => ?_)
    unfold fc_ct
    by_cases e : i = j
    · subst e
      rw [am_u_at, rd_at, h.2.1 i hi]
    · rw [u_ne (by omega), rd_ne (by omega)]
      exact h.2.1 i hi
  · refine T0_cn h (fun f a i q => u_ne (fun w => q w.1)) (fun k x q => rd_nk q) (am_ck_wr _ _ _ _) (fun i hi => ?_)
    unfold fc_ct
    rw [u_ne (by omega), rd_ne (by omega)]
    exact h.2.1 i hi
theorem T0_x {γ γ' : am_I} {π : am_P} {μ μ' : am_I} (h : am_T0 γ π μ) {r n x : Nat} (hr : r < 5) (hn : n < 5) (hx : x < 5) (hg : ∀ f a i, ¬ (f = 800 ∧ a = 8 + 14 * r + 2 * n ∧ i = x) → γ' f a i = γ f a i) (hm : ∀ k y, ¬ ((k = 18 ∨ k = 19) ∧ y = 5 * (5 * r + n) + x) → am_rd μ' k y = am_rd μ k y) (hck : am_ck μ' = am_ck μ) (ht : tX (γ' 800 (8 + 14 * r + 2 * n) x) (am_rd μ' 18 (5 * (5 * r + n) + x)) (am_rd μ' 19 (5 * (5 * r + n) + x))) : am_T0 γ' π μ' := by
  refine T0_e1 h hr hn (fun f a i q1 q2 q3 q4 q5 => hg f a i (by omega)) (fun _ _ _ _ => rfl) (fun k y q1 q2 q3 q4 => hm k y (by omega)) hck (fun i hi => ?_) ?_
  · rw [hg _ _ _ (by omega), hm _ _ (by omega)]; exact h.2.1 i hi
  · obtain ⟨b1, b2, b3, b4, b5, b6, b7, b8⟩ := h.2.2.2.1 r hr n hn
    refine ⟨?_, ?_, ?_, ?_, fun q => ?_, fun q => ?_, fun q => ?_, fun y hy => ?_⟩
    · rw [hg _ _ _ (by omega), hm _ _ (by omega)]; exact b1
    · rw [hg _ _ _ (by omega), hm _ _ (by omega)]; exact b2
    · rw [hg _ _ _ (by omega), hm _ _ (by omega)]; exact b3
    · rw [hg _ _ _ (by omega), hm _ _ (by omega)]; exact b4
    · rw [hm _ _ (by omega)] at q
      rw [hg _ _ _ (by omega)]; exact b5 q
    · rw [hm _ _ (by omega)] at q
      rw [hg _ _ _ (by omega), hm _ _ (by omega)]; exact b6 q
    · rw [hm _ _ (by omega)] at q
      rw [hg _ _ _ (by omega), hm _ _ (by omega)]; exact b7 q
    · by_cases e : y = x
      · subst e; exact ht
      · rw [hg _ _ _ (by omega), hm _ _ (by omega), hm _ _ (by omega)]; exact b8 y hy
theorem T0_x0 {γ : am_I} {π : am_P} {μ : am_I} (h : am_T0 γ π μ) {r n x : Nat} (hr : r < 5) (hn : n < 5) (hx : x < 5) : am_T0 (am_u γ 800 (8 + 14 * r + 2 * n) x (-2)) π (am_wr μ 18 (5 * (5 * r + n) + x) 0) := by
  refine T0_x h hr hn hx (fun f a i q => u_ne q) (fun k y q => rd_ne (by omega)) (am_ck_wr _ _ _ _) ?_
  rw [am_u_at, rd_at]
  exact Or.inl ⟨rfl, rfl⟩
theorem T0_ow {γ : am_I} {π : am_P} {μ : am_I} (h : am_T0 γ π μ) {r n x : Nat} (hr : r < 5) (hn : n < 5) (hx : x < 5) : am_T0 (fc_ow γ r n x) π (fr_owe μ (5 * (5 * r + n) + x) 0) := by
  have t := (h.2.2.2.1 r hr n hn).2.2.2.2.2.2.2 x hx
  unfold fc_ow fr_owe
  have z0 : (0 : Int32) = 0 := rfl
  by_cases e : γ 800 (8 + 14 * r + 2 * n) x = -2
  · rw [if_pos e, if_pos z0, if_pos ((tX_o t).mp e)]
    refine T0_x h hr hn hx (fun f a i q => u_ne q) (fun k y q => ?_) ?_ ?_
    · rw [rd_ne (by omega), rd_ne (by omega)]
    · rw [am_ck_wr, am_ck_wr]
    · rw [am_u_at, rd_at, rd_nk (by decide), rd_at]
      exact Or.inr ⟨rfl, Or.inl ⟨rfl, rfl⟩⟩
  · rw [if_neg e, if_pos z0, if_neg (fun q => e ((tX_o t).mpr q))]
    refine T0_x h hr hn hx (fun f a i q => rfl) (fun k y q => ?_) ?_ ?_
    · rw [rd_ne (by omega), rd_ne (by omega)]
    · rw [am_ck_wr, am_ck_wr]
    · rw [rd_at, rd_nk (by decide), rd_at]
      rcases t with t | t
      · exact absurd t.2 e
      · exact Or.inr ⟨rfl, t.2⟩
theorem T0_in {γ : am_I} {π : am_P} {μ : am_I} (h : am_T0 γ π μ) {r n x : Nat} (m : Nat) (hr : r < 5) (hn : n < 5) (hx : x < 5) : am_T0 (fc_in_b r x m n γ) π (fr_in_b r x m n μ) := by
  have e6 : am_rd (am_wr μ 18 (5 * (5 * r + n) + x) 0) 6 (5 * r + n) = am_rd μ 6 (5 * r + n) := rd_nk (by decide)
  unfold fc_in_b fr_in_b fr_in_c
  rw [(h.2.2.2.1 r hr n hn).2.2.2.1, e6]
  by_cases h6 : am_rd μ 6 (5 * r + n) = 0
  · rw [if_pos h6, if_pos h6]
    exact T0_x0 h hr hn hx
  rw [if_neg h6, if_neg h6]
  by_cases hm : n = m
  · rw [if_pos hm, if_pos hm]
    exact T0_x0 h hr hn hx
  rw [if_neg hm, if_neg hm]
  unfold fr_owe
  rw [if_neg (show ¬ (1 : Int32) = 0 from by decide)]
  refine T0_x h hr hn hx (fun f a i q => u_ne q) (fun k y q => ?_) ?_ ?_
  · rw [rd_ne (by omega), rd_ne (by omega), rd_ne (by omega)]
  · rw [am_ck_wr, am_ck_wr, am_ck_wr]
  · rw [am_u_at, rd_at, rd_nk (by decide), rd_at]
    exact Or.inr ⟨rfl, Or.inl ⟨rfl, rfl⟩⟩
theorem T0_d {γ γ' : am_I} {π π' : am_P} {μ μ' : am_I} (h : am_T0 γ π μ) (hg : ∀ f a i, ¬ (301 ≤ f ∧ f ≤ 303) → γ' f a i = γ f a i) (hm : ∀ k x, (1 ≤ k ∧ k ≤ 9) ∨ (18 ≤ k ∧ k ≤ 19) → am_rd μ' k x = am_rd μ k x) (hck : am_ck μ' = am_ck μ) (hr : ∀ r, r < 5 → tR γ' π' μ' r) (hh : ∀ r, r < 5 → ∀ x, x < 5 → tD γ' π' (π' 500 (5 + 14 * r) x) μ' (5 * r + x)) : am_T0 γ' π' μ' := by
  refine ⟨?_, fun i hi => ?_, hr, fun r hr' n hn => ?_, hh⟩
  · rw [hg _ _ _ (by omega), hck]; exact h.1
  · rw [hg _ _ _ (by omega), hm _ _ (by omega)]; exact h.2.1 i hi
  · exact tE_cg (h.2.2.2.1 r hr' n hn) (fun f f1 f2 f3 => hg _ _ _ (by omega)) (fun x hx => hg _ _ _ (by omega)) (fun k k1 k2 => hm _ _ (by omega)) (fun k x hx k1 k2 => hm _ _ (by omega))
theorem T0_hd {γ : am_I} {π π' : am_P} {μ μ' : am_I} (h : am_T0 γ π μ) {r0 x0 : Nat} (hr0 : r0 < 5) (hx0 : x0 < 5) (hp : ∀ f a i, ¬ (f = 500 ∧ a = 5 + 14 * r0 ∧ i = x0) → π' f a i = π f a i) (hm : ∀ k y, ¬ ((k = 10 ∨ k = 11) ∧ y = 5 * r0 + x0) → ¬ (k = 12 ∧ 5 * (5 * r0 + x0) ≤ y ∧ y < 5 * (5 * r0 + x0) + 5) → ¬ (13 ≤ k ∧ k ≤ 15 ∧ 2 * (5 * r0 + x0) ≤ y ∧ y < 2 * (5 * r0 + x0) + 2) → am_rd μ' k y = am_rd μ k y) (hck : am_ck μ' = am_ck μ) (ht : tD γ π' (π' 500 (5 + 14 * r0) x0) μ' (5 * r0 + x0)) : am_T0 γ π' μ' := by
  have hD : ∀ o e, ¬ e = 5 * r0 + x0 → tD γ π o μ e → tD γ π' o μ' e := fun o e he q => tD_cg q (fun _ _ _ _ _ => rfl) (fun a i => hp _ _ _ (by omega)) (hm _ _ (by omega) (by omega) (by omega)) (hm _ _ (by omega) (by omega) (by omega)) (fun n _ => hm _ _ (by omega) (by omega) (by omega)) (fun s _ k k1 k2 => hm _ _ (by omega) (by omega) (by omega))
  refine T0_d h (fun _ _ _ _ => rfl) (fun k x q => hm k x (by omega) (by omega) (by omega)) hck (fun r hr => ?_) (fun r hr x hx => ?_)
  · have q := h.2.2.1 r hr
    refine tR_cg q (fun _ _ _ => rfl) (fun k e => hm _ _ (by omega) (by omega) (by omega)) ?_ (fun s hs => ?_)
    · rw [hp _ _ _ (by omega)]; exact hD _ _ (by omega) q.2.2.2.1
    · rw [hp _ _ _ (by omega)]
      exact tS_cg (q.2.2.2.2 s hs) (fun f f1 f2 q _ => rfl) (fun q q1 q2 => hm _ _ (by omega) (by omega) (by omega))
  · by_cases e : r = r0 ∧ x = x0
    · obtain ⟨rfl, rfl⟩ := e
      exact ht
    · rw [hp _ _ _ (by omega)]
      exact hD _ _ (by omega) (h.2.2.2.2 r hr x hx)
theorem T0_lt {γ : am_I} {π π' : am_P} {μ μ' : am_I} (h : am_T0 γ π μ) {r0 : Nat} (hr0 : r0 < 5) (hp : ∀ f a i, ¬ (f = 304 ∧ a = 3 + 14 * r0) → π' f a i = π f a i) (hm : ∀ k y, ¬ ((k = 10 ∨ k = 11) ∧ y = 50 + r0) → ¬ (k = 12 ∧ 5 * (50 + r0) ≤ y ∧ y < 5 * (50 + r0) + 5) → ¬ (13 ≤ k ∧ k ≤ 15 ∧ 2 * (50 + r0) ≤ y ∧ y < 2 * (50 + r0) + 2) → am_rd μ' k y = am_rd μ k y) (hck : am_ck μ' = am_ck μ) (ht : tD γ π' (π' 304 (3 + 14 * r0) 0) μ' (50 + r0)) : am_T0 γ π' μ' := by
  have hD : ∀ o e, ¬ e = 50 + r0 → tD γ π o μ e → tD γ π' o μ' e := fun o e he q => tD_cg q (fun _ _ _ _ _ => rfl) (fun a i => hp _ _ _ (by omega)) (hm _ _ (by omega) (by omega) (by omega)) (hm _ _ (by omega) (by omega) (by omega)) (fun n _ => hm _ _ (by omega) (by omega) (by omega)) (fun s _ k k1 k2 => hm _ _ (by omega) (by omega) (by omega))
  refine T0_d h (fun _ _ _ _ => rfl) (fun k x q => hm k x (by omega) (by omega) (by omega)) hck (fun r hr => ?_) (fun r hr x hx => ?_)
  · have q := h.2.2.1 r hr
    refine tR_cg q (fun _ _ _ => rfl) (fun k e => hm _ _ (by omega) (by omega) (by omega)) ?_ (fun s hs => ?_)
    · by_cases e : r = r0
      · subst e; exact ht
      · rw [hp _ _ _ (by omega)]; exact hD _ _ (by omega) q.2.2.2.1
    · rw [hp _ _ _ (by omega)]
      exact tS_cg (q.2.2.2.2 s hs) (fun f f1 f2 q _ => rfl) (fun q q1 q2 => hm _ _ (by omega) (by omega) (by omega))
  · rw [hp _ _ _ (by omega)]
    exact hD _ _ (by omega) (h.2.2.2.2 r hr x hx)
theorem T0_rt {γ γ' : am_I} {π : am_P} {μ μ' : am_I} (h : am_T0 γ π μ) {r0 : Nat} (hr0 : r0 < 5) (hg : ∀ f a i, ¬ (301 ≤ f ∧ f ≤ 303 ∧ a = 3 + 14 * r0) → γ' f a i = γ f a i) (hm : ∀ k y, ¬ ((k = 0 ∨ k = 16 ∨ k = 17) ∧ y = r0) → am_rd μ' k y = am_rd μ k y) (hck : am_ck μ' = am_ck μ) (h1 : (γ' 301 (3 + 14 * r0) 0 = 1 ∧ am_rd μ' 0 r0 = 0) ∨ (γ' 301 (3 + 14 * r0) 0 = 0 ∧ am_rd μ' 0 r0 = 1)) (h2 : γ' 302 (3 + 14 * r0) 0 = am_rd μ' 16 r0) (h3 : γ' 303 (3 + 14 * r0) 0 = am_rd μ' 17 r0) : am_T0 γ' π μ' := by
  have hD : ∀ o e, tD γ π o μ e → tD γ' π o μ' e := fun o e q => tD_cg q (fun f a i f1 f2 => hg _ _ _ (by omega)) (fun a i => rfl) (hm _ _ (by omega)) (hm _ _ (by omega)) (fun n _ => hm _ _ (by omega)) (fun s _ k k1 k2 => hm _ _ (by omega))
  have hS : ∀ o e, tS γ o μ e → tS γ' o μ' e := fun o e q => tS_cg q (fun f f1 f2 q _ => hg _ _ _ (by omega)) (fun q q1 q2 => hm _ _ (by omega))
  refine T0_d h (fun f a i q => hg _ _ _ (by omega)) (fun k x q => hm k x (by omega)) hck (fun r hr => ?_) (fun r hr x hx => hD _ _ (h.2.2.2.2 r hr x hx))
  have q := h.2.2.1 r hr
  by_cases e : r = r0
  · subst e
    exact ⟨h1, h2, h3, hD _ _ q.2.2.2.1, fun s hs => hS _ _ (q.2.2.2.2 s hs)⟩
  · exact tR_cg q (fun f f1 f2 => hg _ _ _ (by omega)) (fun k e => hm _ _ (by omega)) (hD _ _ q.2.2.2.1) (fun s hs => hS _ _ (q.2.2.2.2 s hs))
theorem T0_m {γ : am_I} {π : am_P} {μ μ' : am_I} (h : am_T0 γ π μ) (hm : ∀ k y, k < 20 → ¬ ((k = 10 ∨ k = 11) ∧ ((25 ≤ y ∧ y < 50) ∨ 55 ≤ y)) → ¬ (k = 12 ∧ ((125 ≤ y ∧ y < 250) ∨ 275 ≤ y)) → ¬ (13 ≤ k ∧ k ≤ 15 ∧ 50 ≤ y ∧ y < 100) → am_rd μ' k y = am_rd μ k y) (hck : am_ck μ' = am_ck μ) : am_T0 γ π μ' := by
  have hD : ∀ o e, e < 25 ∨ (50 ≤ e ∧ e < 55) → tD γ π o μ e → tD γ π o μ' e := fun o e he q => tD_cg q (fun _ _ _ _ _ => rfl) (fun a i => rfl) (hm _ _ (by omega) (by omega) (by omega) (by omega)) (hm _ _ (by omega) (by omega) (by omega) (by omega)) (fun n _ => hm _ _ (by omega) (by omega) (by omega) (by omega)) (fun s _ k k1 k2 => hm _ _ (by omega) (by omega) (by omega) (by omega))
  refine T0_d h (fun _ _ _ _ => rfl) (fun k x q => hm k x (by omega) (by omega) (by omega) (by omega)) hck (fun r hr => ?_) (fun r hr x hx => hD _ _ (by omega) (h.2.2.2.2 r hr x hx))
  have q := h.2.2.1 r hr
  exact tR_cg q (fun _ _ _ => rfl) (fun k e => hm _ _ (by omega) (by omega) (by omega) (by omega)) (hD _ _ (by omega) q.2.2.2.1) (fun s hs => tS_cg (q.2.2.2.2 s hs) (fun f f1 f2 q _ => rfl) (fun q q1 q2 => hm _ _ (by omega) (by omega) (by omega) (by omega)))

theorem am_it_cm {α : Type} {f : Nat → α → α} {g : α → α} {n : Nat} (h : ∀ j, j < n → ∀ s, g (f j s) = f j (g s)) (s : α) : g (am_it f n s) = am_it f n (g s) := by
  induction n with
  | zero => rfl
  | succ n ih =>
    show g (f n (am_it f n s)) = f n (am_it f n (g s))
    rw [h n (Nat.lt_succ_self n), ih (fun j hj => h j (Nat.lt_succ_of_lt hj))]
theorem u_cm {α : Type} {m : Nat → Nat → Nat → α} {f a i f' a' i' : Nat} {v v' : α} (hne : ¬ f = f') : am_u (am_u m f a i v) f' a' i' v' = am_u (am_u m f' a' i' v') f a i v := by
  funext p q s
  by_cases h1 : p = f' ∧ q = a' ∧ s = i'
  · obtain ⟨rfl, rfl, rfl⟩ := h1
    rw [am_u_at, u_ne (fun w => hne w.1.symm), am_u_at]
  · rw [u_ne h1]
    unfold am_u
    rw [if_neg h1]
theorem u_cm3 {α : Type} {m : Nat → Nat → Nat → α} {f a i f' a' i' : Nat} {v v' : α} (hne : ¬ (f = f' ∧ a = a' ∧ i = i')) : am_u (am_u m f a i v) f' a' i' v' = am_u (am_u m f' a' i' v') f a i v := by
  funext p q s
  by_cases h1 : p = f' ∧ q = a' ∧ s = i'
  · obtain ⟨rfl, rfl, rfl⟩ := h1
    rw [am_u_at, u_ne (fun w => hne ⟨w.1.symm, w.2.1.symm, w.2.2.symm⟩), am_u_at]
  · rw [u_ne h1]
    unfold am_u
    rw [if_neg h1]
theorem ct_cm {γ : am_I} {i j : Nat} {v w : Int32} (h : ¬ i = j) : fc_ct (fc_ct γ i v) j w = fc_ct (fc_ct γ j w) i v := by
  unfold fc_ct
  rw [u_ne (fun q => h q.2.2.symm), u_ne (fun q => h q.2.2), u_cm3 (fun q => h q.2.2)]
theorem ct_in {γ : am_I} {r x m i : Nat} {v : Int32} : fc_ct (fc_in γ r x m) i v = fc_in (fc_ct γ i v) r x m := by
  refine am_it_cm (g := fun γ => fc_ct γ i v) (fun n hn γ => ?_) γ
  unfold fc_ct fc_in_b
  rw [am_u_ne (by decide), am_u_ne (by decide), u_cm (by decide)]
theorem T0_al {K : am_K} {γ γ' : am_I} {π π' : am_P} {μ : am_I} (h : am_T0 γ π μ) (hW : am_Wf K γ π) (hg : ∀ f a i, a ≤ K.1 → γ' f a i = γ f a i) (hp : ∀ f a i, a ≤ K.1 → π' f a i = π f a i) : am_T0 γ' π' μ := by
  have h187 : 187 ≤ K.1 := hW.1.1.1
  have hD : ∀ o e, (∀ a, o = some a → am_De K π a) → tD γ π o μ e → tD γ' π' o μ e := by
    intro o e hde q
    rcases q with q | ⟨a, e1, e2, e3, e4, e5, e6⟩
    · exact Or.inl q
    · obtain ⟨d0, d1, d2, d3, -, -, d6⟩ := hde a e1
      refine Or.inr ⟨a, e1, ?_, e3, ?_, fun n hn => ?_, fun s hs => ?_⟩
      · rw [hg _ _ _ d1.2.1]; exact e2
      · rw [hg _ _ _ d1.2.1]; exact e4
      · rw [hg _ _ _ d2.2.1]; exact e5 n hn
      · rw [hp _ _ _ d3.2.1]
        exact tS_cg (e6 s hs) (fun f f1 f2 q hq => hg _ _ _ (d6 s hs q hq).2.2.1) (fun _ _ _ => rfl)
  refine ⟨?_, fun i hi => ?_, fun r hr => ?_, fun r hr n hn => ?_, fun r hr x hx => ?_⟩
  · rw [hg _ _ _ (by omega)]; exact h.1
  · rw [hg _ _ _ (by omega)]; exact h.2.1 i hi
  · have q := h.2.2.1 r hr
    refine tR_cg q (fun f f1 f2 => hg _ _ _ (by omega)) (fun k _ => rfl) ?_ (fun s hs => ?_)
    · rw [hp _ _ _ (by omega)]; exact hD _ _ (fun a ha => (hW.2.2.1 r hr a ha).1) q.2.2.2.1
    · rw [hp _ _ _ (by omega)]
      exact tS_cg (q.2.2.2.2 s hs) (fun f f1 f2 q hq => hg _ _ _ (hW.2.2.2.1 r hr s hs q hq).2.2.1) (fun _ _ _ => rfl)
  · exact tE_cg (h.2.2.2.1 r hr n hn) (fun f f1 f2 f3 => hg _ _ _ (by omega)) (fun x hx => hg _ _ _ (by omega)) (fun k k1 k2 => rfl) (fun k x hx k1 k2 => rfl)
  · rw [hp _ _ _ (by omega)]
    exact hD _ _ (fun a ha => (hW.2.1 r hr x hx a ha).1) (h.2.2.2.2 r hr x hx)
theorem inst_rd {μ : am_I} {r x f m k y : Nat} (h0 : ¬ (k = 18 ∨ k = 19)) (h1 : ¬ ((k = 10 ∨ k = 11) ∧ y = 5 * r + x)) (h2 : ¬ (k = 12 ∧ 5 * (5 * r + x) ≤ y ∧ y < 5 * (5 * r + x) + 5)) (h3 : ¬ (13 ≤ k ∧ k ≤ 15 ∧ 2 * (5 * r + x) ≤ y ∧ y < 2 * (5 * r + x) + 2)) : am_rd (fr_inst μ r x f m) k y = am_rd μ k y := by
  unfold fr_inst
  rw [it_rd _ (fun n hn μ => inb_rd h0), cp_ne h1 h2 h3]
theorem inst_ck {μ : am_I} {r x f m : Nat} : am_ck (fr_inst μ r x f m) = am_ck μ := by
  unfold fr_inst
  rw [it_ck _ (fun n hn μ => inb_ck), cp_ck]
theorem s_inst {γ : am_I} {π : am_P} {μ : am_I} (h : am_T0 γ π μ) {r x a f : Nat} (m : Nat) (hr : r < 5) (hx : x < 5) (hf : 25 ≤ f) (hD : tD γ π (some a) μ f) : am_T0 (fc_in γ r x m) (am_u π 500 (5 + 14 * r) x (some a)) (fr_inst μ r x f m) := by
  refine am_it2 (R := fun _ γ μ => am_T0 γ (am_u π 500 (5 + 14 * r) x (some a)) μ) (f := fc_in_b r x m) (g := fr_in_b r x m) (fun n hn γ μ hR => T0_in hR m hr hn hx) ?_
  refine T0_hd h hr hx (fun f a i q => u_ne q) (fun k y q1 q2 q3 => cp_ne q1 q2 q3) (cp_ck _ _ _) ?_
  rw [am_u_at]
  exact tD_cg (tD_cp hD (by omega)) (fun _ _ _ _ _ => rfl) (fun a i => am_u_ne (by decide)) rfl rfl (fun _ _ => rfl) (fun _ _ _ _ _ => rfl)
theorem mkn_ne {μ : am_I} {r k y : Nat} (h : ¬ (k = 12 ∧ 5 * (55 + r) ≤ y ∧ y < 5 * (55 + r) + 5)) : am_rd (am_it (fr_mk_n r) 5 μ) k y = am_rd μ k y := it_rd _ (fun n hn μ => rd_ne (by omega))
theorem mkn_at {μ : am_I} {r n : Nat} (hn : n < 5) : am_rd (am_it (fr_mk_n r) 5 μ) 12 (5 * (55 + r) + n) = if am_rd μ 6 (5 * r + n) = 0 then 0 else am_rd μ 1 (5 * r + n) := by
  refine it_set (j := n) (I := fun s => ∀ k y, ¬ k = 12 → am_rd s k y = am_rd μ k y) (Q := fun s => am_rd s 12 (5 * (55 + r) + n) = if am_rd μ 6 (5 * r + n) = 0 then 0 else am_rd μ 1 (5 * r + n)) hn (fun k y _ => rfl) (fun i hi s hs k y q => ?_) (fun s hs => ?_) (fun i hi hne s hs hq => ?_)
  · unfold fr_mk_n
    rw [rd_nk q]; exact hs k y q
  · unfold fr_mk_n
    rw [rd_at, hs _ _ (by decide), hs _ _ (by decide)]
  · unfold fr_mk_n
    rw [rd_ne (by omega)]; exact hq
theorem sb_n (μ : am_I) (f t : Nat) : ∀ m, (am_it (fr_sb_n μ f t) m 1 = 1 ∧ ∀ n, n < m → am_rd μ 12 (5 * f + n) = am_rd μ 12 (5 * t + n)) ∨ (am_it (fr_sb_n μ f t) m 1 = 0 ∧ ∃ n, n < m ∧ ¬ am_rd μ 12 (5 * f + n) = am_rd μ 12 (5 * t + n)) := by
  intro m
  induction m with
  | zero => exact Or.inl ⟨rfl, fun n hn => absurd hn (Nat.not_lt_zero _)⟩
  | succ m ih =>
    show (fr_sb_n μ f t m (am_it (fr_sb_n μ f t) m 1) = 1 ∧ _) ∨ (fr_sb_n μ f t m (am_it (fr_sb_n μ f t) m 1) = 0 ∧ _)
    generalize am_it (fr_sb_n μ f t) m 1 = w at ih ⊢
    unfold fr_sb_n
    rcases ih with ⟨i1, i2⟩ | ⟨i1, n, i2, i3⟩
    · rw [i1, if_neg one_ne]
      by_cases e : am_rd μ 12 (5 * f + m) = am_rd μ 12 (5 * t + m)
      · rw [if_pos e]
        refine Or.inl ⟨rfl, fun n hn => ?_⟩
        by_cases z : n = m
        · subst z; exact e
        · exact i2 n (by omega)
      · rw [if_neg e]
        exact Or.inr ⟨rfl, m, Nat.lt_succ_self m, e⟩
    · rw [i1, if_pos rfl]
      exact Or.inr ⟨rfl, n, Nat.lt_succ_of_lt i2, i3⟩
def sbE (μ : am_I) (f t s : Nat) : Prop := am_rd μ 13 (2 * f + s) = am_rd μ 13 (2 * t + s) ∧ am_rd μ 14 (2 * f + s) = am_rd μ 14 (2 * t + s) ∧ am_rd μ 15 (2 * f + s) = am_rd μ 15 (2 * t + s)
theorem sb_s1 (μ : am_I) (f t s : Nat) {v : Int32} (hv : v = 1) : (fr_sb_s μ f t s v = 1 ∧ sbE μ f t s) ∨ (fr_sb_s μ f t s v = 0 ∧ ¬ sbE μ f t s) := by
  subst hv
  unfold fr_sb_s sbE
  rw [if_neg one_ne]
  by_cases e1 : am_rd μ 13 (2 * f + s) = am_rd μ 13 (2 * t + s)
  · rw [if_pos e1]
    by_cases e2 : am_rd μ 14 (2 * f + s) = am_rd μ 14 (2 * t + s)
    · rw [if_pos e2]
      by_cases e3 : am_rd μ 15 (2 * f + s) = am_rd μ 15 (2 * t + s)
      · rw [if_pos e3]; exact Or.inl ⟨rfl, e1, e2, e3⟩
      · rw [if_neg e3]; exact Or.inr ⟨rfl, fun q => e3 q.2.2⟩
    · rw [if_neg e2]; exact Or.inr ⟨rfl, fun q => e2 q.2.1⟩
  · rw [if_neg e1]; exact Or.inr ⟨rfl, fun q => e1 q.1⟩
theorem sb_s0 (μ : am_I) (f t s : Nat) {v : Int32} (hv : v = 0) : fr_sb_s μ f t s v = 0 := by
  unfold fr_sb_s
  rw [if_pos hv]
theorem s_al {γ μ : am_I} {o1 o2 : Option Nat} {f t s : Nat} (h1 : tS γ o1 μ (2 * t + s)) (h2 : tS γ o2 μ (2 * f + s)) : (fc_al γ o1 o2 = 1 ∧ sbE μ f t s) ∨ (fc_al γ o1 o2 = 0 ∧ ¬ sbE μ f t s) := by
  unfold sbE
  rcases h1 with ⟨a1, a2, a3, a4⟩ | ⟨q, a1, a2, a3, a4, a5⟩ <;> rcases h2 with ⟨b1, b2, b3, b4⟩ | ⟨p, b1, b2, b3, b4, b5⟩
  · subst a1; subst b1
    exact Or.inl ⟨rfl, by rw [a2, b2], by rw [a3, b3], by rw [a4, b4]⟩
  · subst a1; subst b1
    refine Or.inr ⟨rfl, fun z => ?_⟩
    rw [z.2.2, a4] at b5
    exact absurd b5 (by decide)
  · subst a1; subst b1
    refine Or.inr ⟨rfl, fun z => ?_⟩
    rw [← z.2.2, b4] at a5
    exact absurd a5 (by decide)
  · subst a1; subst b1
    show (fc_as γ q p = 1 ∧ _) ∨ (fc_as γ q p = 0 ∧ _)
    unfold fc_as
    rw [a2, a3, a4, b2, b3, b4]
    by_cases e1 : am_rd μ 13 (2 * t + s) = am_rd μ 13 (2 * f + s)
    · rw [if_pos e1]
      by_cases e2 : am_rd μ 14 (2 * t + s) = am_rd μ 14 (2 * f + s)
      · rw [if_pos e2]
        by_cases e3 : am_rd μ 15 (2 * t + s) = am_rd μ 15 (2 * f + s)
        · rw [if_pos e3]; exact Or.inl ⟨rfl, e1.symm, e2.symm, e3.symm⟩
        · rw [if_neg e3]; exact Or.inr ⟨rfl, fun q => e3 q.2.2.symm⟩
      · rw [if_neg e2]; exact Or.inr ⟨rfl, fun q => e2 q.2.1.symm⟩
    · rw [if_neg e1]; exact Or.inr ⟨rfl, fun q => e1 q.1.symm⟩
theorem is1_all {γ : am_I} {π : am_P} {r a : Nat} : ∀ k n, (∀ j, n ≤ j → j < n + k → γ 2000 (a + 1) j = fc_cl γ r j) → fc_is1 γ π r a k n = fc_is2 γ π r a 2 0 := by
  intro k
  induction k with
  | zero => intro n _; rfl
  | succ k ih =>
    intro n h
    show (if γ 2000 (a + 1) n = fc_cl γ r n then fc_is1 γ π r a k (n + 1) else 0) = _
    rw [if_pos (h n (Nat.le_refl n) (by omega))]
    exact ih (n + 1) (fun j j1 j2 => h j (by omega) (by omega))
theorem is1_ex {γ : am_I} {π : am_P} {r a j : Nat} (hj : ¬ γ 2000 (a + 1) j = fc_cl γ r j) : ∀ k n, n ≤ j → j < n + k → fc_is1 γ π r a k n = 0 := by
  intro k
  induction k with
  | zero => intro n h1 h2; omega
  | succ k ih =>
    intro n h1 h2
    show (if γ 2000 (a + 1) n = fc_cl γ r n then fc_is1 γ π r a k (n + 1) else 0) = _
    by_cases e : n = j
    · subst e; rw [if_neg hj]
    · split
      · exact ih (n + 1) (by omega) (by omega)
      · rfl
theorem s_ist {γ : am_I} {π : am_P} {μ : am_I} {r a : Nat} (hc : ∀ n, n < 5 → am_rd μ 12 (5 * (55 + r) + n) = fc_cl γ r n) (hl : ∀ n, n < 5 → γ 2000 (a + 1) n = am_rd μ 12 (5 * (50 + r) + n)) (h1 : ∀ s, s < 2 → tS γ (π 2100 (a + 2) s) μ (2 * (50 + r) + s)) (h2 : ∀ s, s < 2 → tS γ (π 400 (4 + 14 * r) s) μ (2 * (55 + r) + s)) : fc_ist γ π r a = 0 ↔ fr_sb μ (55 + r) (50 + r) = 0 := by
  unfold fc_ist fr_sb
  rcases sb_n μ (55 + r) (50 + r) 5 with ⟨i1, i2⟩ | ⟨i1, n, i2, i3⟩
  · rw [i1, is1_all 5 0 (fun j _ hj => by rw [hl j (by omega), ← hc j (by omega)]; exact (i2 j (by omega)).symm)]
    show (if fc_al γ (π 2100 (a + 2) 0) (π 400 (4 + 14 * r) 0) = 0 then (0 : Int32) else if fc_al γ (π 2100 (a + 2) 1) (π 400 (4 + 14 * r) 1) = 0 then 0 else 1) = 0 ↔ fr_sb_s μ (55 + r) (50 + r) 1 (fr_sb_s μ (55 + r) (50 + r) 0 1) = 0
    rcases s_al (h1 0 (by omega)) (h2 0 (by omega)) with ⟨x1, x2⟩ | ⟨x1, x2⟩ <;> rcases sb_s1 μ (55 + r) (50 + r) 0 (v := 1) rfl with ⟨y1, y2⟩ | ⟨y1, y2⟩
    · rw [x1, if_neg one_ne, y1]
      rcases s_al (h1 1 (by omega)) (h2 1 (by omega)) with ⟨w1, w2⟩ | ⟨w1, w2⟩ <;> rcases sb_s1 μ (55 + r) (50 + r) 1 (v := 1) rfl with ⟨z1, z2⟩ | ⟨z1, z2⟩
      · rw [w1, if_neg one_ne, z1]
      · exact absurd w2 z2
      · exact absurd z2 w2
      · rw [w1, if_pos rfl, z1]
    · exact absurd x2 y2
    · exact absurd y2 x2
    · rw [x1, if_pos rfl, y1, sb_s0 _ _ _ _ rfl]
  · rw [is1_ex (j := n) (fun q => i3 (by rw [hc n i2, ← q, hl n i2])) 5 0 (Nat.zero_le _) (by omega), i1]
    show (0 : Int32) = 0 ↔ fr_sb_s μ (55 + r) (50 + r) 1 (fr_sb_s μ (55 + r) (50 + r) 0 0) = 0
    rw [sb_s0 _ _ _ 0 rfl, sb_s0 _ _ _ 1 rfl]
theorem s_md {γ : am_I} {π : am_P} {μ : am_I} (h : am_T0 γ π μ) {r : Nat} (hr : r < 5) (hc : ∀ n, n < 5 → am_rd μ 12 (5 * (55 + r) + n) = fc_cl γ r n) : fc_md γ π r (am_ck μ) = 0 ↔ fr_due r μ = 0 := by
  obtain ⟨-, -, a3, a4, a5⟩ := h.2.2.1 r hr
  unfold fc_md fr_due fr_chg
  rcases a4 with ⟨e1, e2⟩ | ⟨a, e1, e2, e3, e4, e5, e6⟩
  · rw [e1, if_pos e2]; exact Iff.rfl
  · have n0 : ¬ am_rd μ 10 (50 + r) = 0 := fun q => by
      rw [q] at e3
      exact absurd e3 (by decide)
    have i := s_ist hc e5 e6 a5
    rw [e1, if_neg n0]
    show fc_md_e γ π r (am_ck μ) a = 0 ↔ _
    unfold fc_md_e
    rw [e4, a3]
    by_cases A : am_ck μ - 2 < am_rd μ 11 (50 + r)
    · rw [if_pos A, if_pos A]
    rw [if_neg A, if_neg A]
    by_cases B : am_rd μ 17 r = 0 <;> by_cases C : am_ck μ - 20 < am_rd μ 11 (50 + r) <;> by_cases D : fr_sb μ (55 + r) (50 + r) = 0
    · rw [if_pos B, if_pos C, if_pos D, if_pos (i.mpr D), if_neg one_ne]
    · rw [if_pos B, if_pos C, if_neg D, if_neg (fun q => D (i.mp q)), if_pos C, if_pos B, if_pos (show (0 : Int32) = 0 from rfl)]
    · rw [if_pos B, if_neg C, if_pos D, if_neg one_ne]
    · rw [if_pos B, if_neg C, if_neg D, if_neg C, if_neg one_ne]
    · rw [if_neg B, if_pos D, if_neg one_ne]
    · rw [if_neg B, if_neg D, if_pos C, if_neg B, if_neg one_ne]
    · rw [if_neg B, if_pos D, if_neg one_ne]
    · rw [if_neg B, if_neg D, if_neg C, if_neg one_ne]
theorem di_co {γ : am_I} {a r n : Nat} {o u t : Int32} (hr : r < 5) (ha : 162 < a) (hn : n < 5) : fc_di1 γ a r o u t 2000 (a + 1) n = fc_cl γ r n := by
  unfold fc_di1
  rw [am_zg_ne (by omega)]
  have e0 : ∀ f b i, b < a → am_zg (am_u (am_u (am_u γ 1900 a 0 o) 1901 a 0 u) 1902 a 0 t) (a + 1) f b i = γ f b i := fun f b i hb => by
    rw [am_zg_ne (by omega), u_ne (by omega), u_ne (by omega), u_ne (by omega)]
  refine it_set (j := n) (I := fun s : am_I => ∀ f b i, b < a → s f b i = γ f b i) (Q := fun s : am_I => s 2000 (a + 1) n = fc_cl γ r n) hn e0 (fun i hi s hs f b j hb => ?_) (fun s hs => ?_) (fun i hi hne s hs hq => ?_)
  · unfold fc_di_n
    rw [u_ne (by omega)]; exact hs f b j hb
  · unfold fc_di_n
    rw [am_u_at]
    unfold fc_cl
    rw [hs _ _ _ (by omega), hs _ _ _ (by omega)]
  · unfold fc_di_n
    rw [u_ne (by omega)]; exact hq
theorem di_st {π : am_P} {a r s : Nat} (hr : r < 5) (ha : 162 < a) (hs : s < 2) : fc_di2 π a r 2100 (a + 2) s = π 400 (4 + 14 * r) s := by
  unfold fc_di2
  have e0 : ∀ i, am_u (am_zp (am_u (am_zp π (a + 1)) 1903 a 0 (some (a + 1))) (a + 1 + 1)) 1904 a 0 (some (a + 1 + 1)) 400 (4 + 14 * r) i = π 400 (4 + 14 * r) i := fun i => by
    rw [am_u_ne (by decide), am_zp_ne (by omega), am_u_ne (by decide), am_zp_ne (by omega)]
  refine it_set (j := s) (I := fun p : am_P => ∀ i, p 400 (4 + 14 * r) i = π 400 (4 + 14 * r) i) (Q := fun p : am_P => p 2100 (a + 2) s = π 400 (4 + 14 * r) s) hs e0 (fun i hi p hp j => ?_) (fun p hp => ?_) (fun i hi hne p hp hq => ?_)
  · unfold fc_di_s
    rw [am_u_ne (by decide)]; exact hp j
  · unfold fc_di_s
    rw [show a + 1 + 1 = a + 2 from rfl, am_u_at]; exact hp s
  · unfold fc_di_s
    rw [u_ne (by omega)]; exact hq

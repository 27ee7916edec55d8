def tX (s o a : Int32) : Prop := (o = 0 ∧ s = -2) ∨ (o = 1 ∧ ((s = -1 ∧ a = -1000) ∨ (s = a ∧ ¬ s < 0)))
def tE (γ μ : am_I) (r n : Nat) : Prop := γ 700 (7 + 14 * r + 2 * n) 0 = am_rd μ 1 (5 * r + n) ∧ γ 702 (7 + 14 * r + 2 * n) 0 = am_rd μ 3 (5 * r + n) ∧ γ 705 (7 + 14 * r + 2 * n) 0 = am_rd μ 5 (5 * r + n) ∧ γ 706 (7 + 14 * r + 2 * n) 0 = am_rd μ 6 (5 * r + n) ∧ (am_rd μ 1 (5 * r + n) = 0 → γ 701 (7 + 14 * r + 2 * n) 0 = 0) ∧ (¬ am_rd μ 1 (5 * r + n) = 0 → γ 701 (7 + 14 * r + 2 * n) 0 = am_rd μ 2 (5 * r + n)) ∧ (¬ am_rd μ 3 (5 * r + n) = 0 → γ 704 (7 + 14 * r + 2 * n) 0 = am_rd μ 4 (5 * r + n)) ∧ ∀ x, x < 5 → tX (γ 800 (8 + 14 * r + 2 * n) x) (am_rd μ 18 (5 * (5 * r + n) + x)) (am_rd μ 19 (5 * (5 * r + n) + x))
def tS (γ : am_I) (o : Option Nat) (μ : am_I) (k : Nat) : Prop := (o = none ∧ am_rd μ 13 k = 0 ∧ am_rd μ 14 k = 0 ∧ am_rd μ 15 k = 0) ∨ ∃ q, o = some q ∧ γ 2200 q 0 = am_rd μ 13 k ∧ γ 2201 q 0 = am_rd μ 14 k ∧ γ 2202 q 0 = am_rd μ 15 k ∧ 0 < am_rd μ 15 k
def tD (γ : am_I) (π : am_P) (o : Option Nat) (μ : am_I) (e : Nat) : Prop := (o = none ∧ am_rd μ 10 e = 0) ∨ ∃ a, o = some a ∧ γ 1901 a 0 = am_rd μ 10 e ∧ 0 < am_rd μ 10 e ∧ γ 1902 a 0 = am_rd μ 11 e ∧ (∀ n, n < 5 → γ 2000 (a + 1) n = am_rd μ 12 (5 * e + n)) ∧ ∀ s, s < 2 → tS γ (π 2100 (a + 2) s) μ (2 * e + s)
def tR (γ : am_I) (π : am_P) (μ : am_I) (r : Nat) : Prop := ((γ 301 (3 + 14 * r) 0 = 1 ∧ am_rd μ 0 r = 0) ∨ (γ 301 (3 + 14 * r) 0 = 0 ∧ am_rd μ 0 r = 1)) ∧ γ 302 (3 + 14 * r) 0 = am_rd μ 16 r ∧ γ 303 (3 + 14 * r) 0 = am_rd μ 17 r ∧ tD γ π (π 304 (3 + 14 * r) 0) μ (50 + r) ∧ ∀ s, s < 2 → tS γ (π 400 (4 + 14 * r) s) μ (2 * (55 + r) + s)
def am_T0 (γ : am_I) (π : am_P) (μ : am_I) : Prop := γ 104 1 0 = am_ck μ ∧ (∀ i, i < 7 → γ 1800 162 i = am_rd μ 9 i) ∧ (∀ r, r < 5 → tR γ π μ r) ∧ (∀ r, r < 5 → ∀ n, n < 5 → tE γ μ r n) ∧ ∀ r, r < 5 → ∀ x, x < 5 → tD γ π (π 500 (5 + 14 * r) x) μ (5 * r + x)
def iv_c (μ : am_I) : Prop := ∀ k, k < 25 → ¬ am_rd μ 1 k < 0
theorem lt_ne {x : Int32} (h : ¬ x < 0) : 0 < x ↔ ¬ x = 0 := by
  constructor
  · intro q e
    subst e
    exact absurd q (by decide)
  · intro q
    rw [Int32.lt_iff_toInt_lt] at h ⊢
    have e : ¬ x.toInt = (0 : Int32).toInt := fun z => q (Int32.toInt_inj.mp z)
    omega
theorem s_cnt {γ : am_I} {π : am_P} {μ : am_I} (h : am_T0 γ π μ) (x : Int32) : fc_cnt γ x = fr_cnt μ x := by
  unfold fc_cnt fr_cnt
  by_cases h1 : x < 0
  · rw [if_pos h1, if_pos h1]
  rw [if_neg h1, if_neg h1]
  by_cases h2 : x < 7
  · rw [if_pos h2, if_neg (Int32.not_lt.mpr (fc_lt7 h2))]
    obtain ⟨a, ha, rfl⟩ := nI_of2 (M := 6) (n := 6) (by decide) h1 (fc_lt7 h2)
    rw [nI_clamp (by omega)]
    exact h.2.1 a (by omega)
  · rw [if_neg h2, if_pos]
    rw [Int32.lt_iff_toInt_lt, show (7 : Int32).toInt = 7 from by decide] at h2
    rw [Int32.lt_iff_toInt_lt, show (6 : Int32).toInt = 6 from by decide]
    omega
theorem s_lnk {γ : am_I} {π : am_P} {μ : am_I} (h : am_T0 γ π μ) (hc : iv_c μ) (x y : Int32) : fc_isl γ x y = fr_lnk μ x y := by
  unfold fc_isl fr_lnk
  by_cases h1 : fr_rtr x = 0
  · rw [if_pos h1, if_pos h1]
  by_cases h2 : fr_rtr y = 0
  · rw [if_neg h1, if_pos h2, if_neg h1, if_pos h2]
  rw [if_neg h1, if_neg h2, if_neg h1, if_neg h2]
  obtain ⟨a, ha, rfl⟩ := fr_rtr_of h1
  obtain ⟨b, hb, rfl⟩ := fr_rtr_of h2
  rw [nI_clamp (by omega), nI_clamp (by omega), (h.2.2.2.1 a ha b hb).1]
  by_cases h3 : am_rd μ 1 (5 * a + b) = 0
  · rw [if_pos h3, if_neg (fun q => (lt_ne (hc _ (by omega))).mp q h3)]
  · rw [if_neg h3, if_pos ((lt_ne (hc _ (by omega))).mpr h3)]
theorem s_nei {γ : am_I} {π : am_P} {μ : am_I} (h : am_T0 γ π μ) (hc : iv_c μ) (x y : Int32) : fc_nei γ x y = fr_nei μ x y := by
  unfold fc_nei fr_nei
  rw [s_lnk h hc]
  by_cases h1 : fr_lnk μ x y = 0
  · rw [if_pos h1, if_pos h1]
  rw [if_neg h1, if_neg h1]
  obtain ⟨a, b, ha, hb, rfl, rfl, -⟩ := fr_lnk_of h1
  rw [nI_clamp (by omega), nI_clamp (by omega)]
  have e := h.2.2.2.1 a ha b hb
  rw [e.2.2.2.1, e.2.1]
theorem tD_pos {γ : am_I} {π : am_P} {o : Option Nat} {μ : am_I} {e : Nat} (h : tD γ π o μ e) : (o = none ∧ ¬ 0 < am_rd μ 10 e) ∨ ∃ a, o = some a ∧ γ 1901 a 0 = am_rd μ 10 e ∧ 0 < am_rd μ 10 e ∧ γ 1902 a 0 = am_rd μ 11 e ∧ (∀ n, n < 5 → γ 2000 (a + 1) n = am_rd μ 12 (5 * e + n)) ∧ ∀ s, s < 2 → tS γ (π 2100 (a + 2) s) μ (2 * e + s) := by
  rcases h with h | h
  · exact Or.inl ⟨h.1, by rw [h.2]; decide⟩
  · exact Or.inr h
theorem s_num {γ : am_I} {π : am_P} {μ : am_I} (h : am_T0 γ π μ) (x y : Int32) : fc_num γ π x y = fr_num μ x y := by
  unfold fc_num fr_num
  by_cases h1 : fr_rtr x = 0
  · rw [if_pos h1, if_pos h1]
  by_cases h2 : fr_rtr y = 0
  · rw [if_neg h1, if_pos h2, if_neg h1, if_pos h2]
  rw [if_neg h1, if_neg h2, if_neg h1, if_neg h2]
  obtain ⟨a, ha, rfl⟩ := fr_rtr_of h1
  obtain ⟨b, hb, rfl⟩ := fr_rtr_of h2
  rw [nI_clamp (by omega), nI_clamp (by omega)]
  rcases h.2.2.2.2 a ha b hb with ⟨e1, e2⟩ | ⟨d, e1, e2, -⟩
  · rw [e1, e2]; rfl
  · rw [e1]; exact e2
theorem s_age {γ : am_I} {π : am_P} {μ : am_I} (h : am_T0 γ π μ) (x y : Int32) : fc_age γ π x y = fr_age μ x y := by
  unfold fc_age fr_age
  by_cases h1 : fr_rtr x = 0
  · rw [if_pos h1, if_pos h1]
  by_cases h2 : fr_rtr y = 0
  · rw [if_neg h1, if_pos h2, if_neg h1, if_pos h2]
  rw [if_neg h1, if_neg h2, if_neg h1, if_neg h2]
  obtain ⟨a, ha, rfl⟩ := fr_rtr_of h1
  obtain ⟨b, hb, rfl⟩ := fr_rtr_of h2
  rw [nI_clamp (by omega), nI_clamp (by omega)]
  rcases tD_pos (h.2.2.2.2 a ha b hb) with ⟨e1, e2⟩ | ⟨d, e1, -, e3, e4, -⟩
  · rw [e1, if_neg e2]; rfl
  · rw [e1, if_pos e3]
    show γ 104 1 0 - γ 1902 d 0 = _
    rw [h.1, e4]
theorem s_lis {γ : am_I} {π : am_P} {μ : am_I} (h : am_T0 γ π μ) (x y z : Int32) : fc_lis γ π x y z = fr_lis μ x y z := by
  unfold fc_lis fr_lis
  by_cases h1 : fr_rtr x = 0
  · rw [if_pos h1, if_pos h1]
  by_cases h2 : fr_rtr y = 0
  · rw [if_neg h1, if_pos h2, if_neg h1, if_pos h2]
  by_cases h3 : fr_rtr z = 0
  · rw [if_neg h1, if_neg h2, if_pos h3, if_neg h1, if_neg h2, if_pos h3]
  rw [if_neg h1, if_neg h2, if_neg h3, if_neg h1, if_neg h2, if_neg h3]
  obtain ⟨a, ha, rfl⟩ := fr_rtr_of h1
  obtain ⟨b, hb, rfl⟩ := fr_rtr_of h2
  obtain ⟨c, hc, rfl⟩ := fr_rtr_of h3
  rw [nI_clamp (by omega), nI_clamp (by omega), nI_clamp (by omega)]
  rcases tD_pos (h.2.2.2.2 a ha b hb) with ⟨e1, e2⟩ | ⟨d, e1, -, e3, -, e5, -⟩
  · rw [e1, if_neg e2]; rfl
  · rw [e1, if_pos e3]
    exact e5 c hc
theorem tX_o {s o a : Int32} (h : tX s o a) : (s = -2 ↔ o = 0) := by
  rcases h with ⟨h1, h2⟩ | ⟨h1, ⟨h2, -⟩ | ⟨h2, h3⟩⟩
  · exact ⟨fun _ => h1, fun _ => h2⟩
  · subst h1; subst h2
    exact ⟨fun q => absurd q (by decide), fun q => absurd q (by decide)⟩
  · subst h1
    refine ⟨fun q => ?_, fun q => absurd q (by decide)⟩
    rw [q] at h3
    exact absurd (by decide) h3
theorem am_it_cg {α : Type} {f g : Nat → α → α} {n : Nat} (h : ∀ i, i < n → ∀ s, f i s = g i s) (s : α) : am_it f n s = am_it g n s := by
  induction n with
  | zero => rfl
  | succ n ih =>
    show f n (am_it f n s) = g n (am_it g n s)
    rw [ih (fun i hi s => h i (Nat.lt_succ_of_lt hi) s), h n (Nat.lt_succ_self n)]
theorem s_owd {γ : am_I} {π : am_P} {μ : am_I} (h : am_T0 γ π μ) (hc : iv_c μ) (x y : Int32) : fc_owd γ x y = fr_owd μ x y := by
  unfold fc_owd fr_owd
  rw [s_lnk h hc]
  by_cases h1 : fr_lnk μ x y = 0
  · rw [if_pos h1, if_pos h1]
  rw [if_neg h1, if_neg h1]
  obtain ⟨a, b, ha, hb, rfl, rfl, -⟩ := fr_lnk_of h1
  rw [nI_clamp (by omega), nI_clamp (by omega)]
  refine am_it_cg (fun i hi s => ?_) 0
  have e := tX_o ((h.2.2.2.1 a ha b hb).2.2.2.2.2.2.2 i hi)
  unfold fc_owd_x fr_owd_x
  by_cases q : am_rd μ 18 (5 * (5 * a + b) + i) = 0
  · rw [if_pos q, if_pos (e.mpr q)]
  · rw [if_neg q, if_neg (fun z => q (e.mp z))]

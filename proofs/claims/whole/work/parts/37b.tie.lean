def am_lb (x : Int32) (b : Nat) : Prop := ∃ v, v ≤ b ∧ x = nI v
theorem am_lb.z (b : Nat) : am_lb 0 b := ⟨0, Nat.zero_le _, rfl⟩
theorem am_lb.mono {x : Int32} {b b' : Nat} (h : am_lb x b) (hb : b ≤ b') : am_lb x b' := by
  obtain ⟨v, hv, e⟩ := h
  exact ⟨v, by omega, e⟩
theorem am_lb.nn {x : Int32} {b : Nat} (h : am_lb x b) (hb : b < 2 ^ 31) : ¬ x < 0 := by
  obtain ⟨v, hv, rfl⟩ := h
  rw [show (0 : Int32) = nI 0 from rfl, nI_ltI (by omega) (by omega)]
  omega
theorem am_lb.pred {x : Int32} {b : Nat} (h : am_lb x b) (hb : b < 2 ^ 31) (h0 : 0 < x) : am_lb (x - 1) b := by
  obtain ⟨v, hv, rfl⟩ := h
  rw [show (0 : Int32) = nI 0 from rfl, nI_ltI (by omega) (by omega)] at h0
  exact ⟨v - 1, by omega, nI_sub (b := 1) (by omega)⟩
theorem am_lb.succ {x : Int32} {b : Nat} (h : am_lb x b) (hb : b < 2 ^ 30) : am_lb (x + 1) (b + 1) ∧ 0 < x + 1 := by
  obtain ⟨v, hv, rfl⟩ := h
  have e : nI v + 1 = nI (v + 1) := nI_add v 1
  rw [e]
  refine ⟨⟨v + 1, by omega, rfl⟩, ?_⟩
  rw [show (0 : Int32) = nI 0 from rfl, nI_ltI (by omega) (by omega)]
  omega
def am_Ia (b c : Nat) (μ : am_I) : Prop := am_ck μ = nI c ∧ (∀ x, am_lb (am_rd μ 1 x) 9) ∧ (∀ x, am_lb (am_rd μ 2 x) 9) ∧ (∀ x, am_lb (am_rd μ 10 x) b) ∧ (∀ x, am_lb (am_rd μ 12 x) 9) ∧ (∀ x, am_lb (am_rd μ 16 x) b) ∧ (∀ r, r < 5 → ∀ n, n < 5 → am_rd μ 1 (5 * r + n) = am_rd μ 1 (5 * n + r)) ∧ (∀ r, r < 5 → am_rd μ 1 (5 * r + r) = 0) ∧ ∀ r, r < 5 → am_rd μ 12 (5 * (5 * r + r) + r) = 0
def am_Ib (μ : am_I) : Prop := ∀ k, k < 25 → (¬ am_rd μ 3 k = 0 → ¬ am_rd μ 1 k = 0) ∧ (¬ am_rd μ 5 k = 0 → ¬ am_rd μ 3 k = 0) ∧ (¬ am_rd μ 6 k = 0 → ¬ am_rd μ 1 k = 0)
def am_Ic (μ : am_I) : Prop := ∀ r, r < 5 → ∀ n, n < 5 → ∀ x, x < 5 → ¬ am_rd μ 18 (5 * (5 * r + n) + x) = 0 → ¬ am_rd μ 6 (5 * r + n) = 0 ∧ 0 < am_rd μ 10 (5 * r + x)
def am_Iv (b c : Nat) (μ : am_I) : Prop := am_Ia b c μ ∧ am_Ib μ ∧ am_Ic μ
theorem am_Ia.w {b c : Nat} {μ : am_I} (h : am_Ia b c μ) {k x : Nat} {v : Int32} (h1 : ¬ k = 1) (h2 : k = 2 → am_lb v 9) (h10 : k = 10 → am_lb v b) (h12 : k = 12 → am_lb v 9 ∧ ∀ r, r < 5 → x = 5 * (5 * r + r) + r → v = 0) (h16 : k = 16 → am_lb v b) : am_Ia b c (am_wr μ k x v) := by
  obtain ⟨i1, i2, i3, i4, i5, i6, i7, i8, i9⟩ := h
  refine ⟨?_, fun y => ?_, fun y => ?_, fun y => ?_, fun y => ?_, fun y => ?_, fun r hr n hn => ?_, fun r hr => ?_, fun r hr => ?_⟩
  · rw [am_ck_wr]; exact i1
  · rw [rd_nk (fun q => h1 q.symm)]; exact i2 y
  · rw [am_rd_wr]
    by_cases q : 2 = k ∧ y = x
    · rw [if_pos q]; exact h2 q.1.symm
    · rw [if_neg q]; exact i3 y
  · rw [am_rd_wr]
    by_cases q : 10 = k ∧ y = x
    · rw [if_pos q]; exact h10 q.1.symm
    · rw [if_neg q]; exact i4 y
  · rw [am_rd_wr]
    by_cases q : 12 = k ∧ y = x
    · rw [if_pos q]; exact (h12 q.1.symm).1
    · rw [if_neg q]; exact i5 y
  · rw [am_rd_wr]
    by_cases q : 16 = k ∧ y = x
    · rw [if_pos q]; exact h16 q.1.symm
    · rw [if_neg q]; exact i6 y
  · rw [rd_nk (fun q => h1 q.symm), rd_nk (fun q => h1 q.symm)]; exact i7 r hr n hn
  · rw [rd_nk (fun q => h1 q.symm)]; exact i8 r hr
  · rw [am_rd_wr]
    by_cases q : 12 = k ∧ 5 * (5 * r + r) + r = x
    · rw [if_pos q]; exact (h12 q.1.symm).2 r hr q.2.symm
    · rw [if_neg q]; exact i9 r hr
theorem am_Ia.f {b c : Nat} {μ : am_I} (h : am_Ia b c μ) {k x : Nat} {v : Int32} (hk : ¬ k = 1 ∧ ¬ k = 2 ∧ ¬ k = 10 ∧ ¬ k = 12 ∧ ¬ k = 16) : am_Ia b c (am_wr μ k x v) := h.w hk.1 (fun q => absurd q hk.2.1) (fun q => absurd q hk.2.2.1) (fun q => absurd q hk.2.2.2.1) (fun q => absurd q hk.2.2.2.2)
theorem am_Ib.f {μ : am_I} (h : am_Ib μ) {k x : Nat} {v : Int32} (hk : ¬ 1 = k ∧ ¬ 3 = k ∧ ¬ 5 = k ∧ ¬ 6 = k) : am_Ib (am_wr μ k x v) := by
  intro y hy
  rw [rd_nk hk.1, rd_nk hk.2.1, rd_nk hk.2.2.1, rd_nk hk.2.2.2]
  exact h y hy
theorem am_Ic.f {μ : am_I} (h : am_Ic μ) {k x : Nat} {v : Int32} (hk : ¬ 6 = k ∧ ¬ 10 = k ∧ ¬ 18 = k) : am_Ic (am_wr μ k x v) := by
  intro r hr n hn y hy
  rw [rd_nk hk.1, rd_nk hk.2.1, rd_nk hk.2.2]
  exact h r hr n hn y hy
theorem am_Iv.f {b c : Nat} {μ : am_I} (h : am_Iv b c μ) {k x : Nat} {v : Int32} (ha : ¬ k = 1 ∧ ¬ k = 2 ∧ ¬ k = 10 ∧ ¬ k = 12 ∧ ¬ k = 16) (hb : ¬ 1 = k ∧ ¬ 3 = k ∧ ¬ 5 = k ∧ ¬ 6 = k) (hc : ¬ 6 = k ∧ ¬ 10 = k ∧ ¬ 18 = k) : am_Iv b c (am_wr μ k x v) := ⟨h.1.f ha, h.2.1.f hb, h.2.2.f hc⟩
theorem am_Iv.w2 {b c : Nat} {μ : am_I} (h : am_Iv b c μ) {x : Nat} {v : Int32} (hv : am_lb v 9) : am_Iv b c (am_wr μ 2 x v) := ⟨h.1.w (by decide) (fun _ => hv) (fun q => absurd q (by decide)) (fun q => absurd q (by decide)) (fun q => absurd q (by decide)), h.2.1.f (by decide), h.2.2.f (by decide)⟩
theorem am_Iv.w16 {b c : Nat} {μ : am_I} (h : am_Iv b c μ) {x : Nat} {v : Int32} (hv : am_lb v b) : am_Iv b c (am_wr μ 16 x v) := ⟨h.1.w (by decide) (fun q => absurd q (by decide)) (fun q => absurd q (by decide)) (fun q => absurd q (by decide)) (fun _ => hv), h.2.1.f (by decide), h.2.2.f (by decide)⟩
theorem am_Iv.w12 {b c : Nat} {μ : am_I} (h : am_Iv b c μ) {x : Nat} {v : Int32} (hv : am_lb v 9) (hd : ∀ r, r < 5 → x = 5 * (5 * r + r) + r → v = 0) : am_Iv b c (am_wr μ 12 x v) := ⟨h.1.w (by decide) (fun q => absurd q (by decide)) (fun q => absurd q (by decide)) (fun _ => ⟨hv, hd⟩) (fun q => absurd q (by decide)), h.2.1.f (by decide), h.2.2.f (by decide)⟩
theorem am_Ia.w10 {b c : Nat} {μ : am_I} (h : am_Ia b c μ) {x : Nat} {v : Int32} (hv : am_lb v b) : am_Ia b c (am_wr μ 10 x v) := h.w (by decide) (fun q => absurd q (by decide)) (fun _ => hv) (fun q => absurd q (by decide)) (fun q => absurd q (by decide))
theorem am_Iv.w10 {b c : Nat} {μ : am_I} (h : am_Iv b c μ) {x : Nat} {v : Int32} (hv : am_lb v b) (hp : 25 ≤ x ∨ 0 < v) : am_Iv b c (am_wr μ 10 x v) := by
  refine ⟨h.1.w10 hv, h.2.1.f (by decide), fun r hr n hn y hy q => ?_⟩
  rw [rd_nk (by decide)] at q
  have g := h.2.2 r hr n hn y hy q
  rw [rd_nk (by decide)]
  refine ⟨g.1, ?_⟩
  rw [am_rd_wr]
  by_cases e : 10 = 10 ∧ 5 * r + y = x
  · rw [if_pos e]
    rcases hp with hp | hp
    · omega
    · exact hp
  · rw [if_neg e]; exact g.2
theorem am_Iv.w18z {b c : Nat} {μ : am_I} (h : am_Iv b c μ) {x : Nat} : am_Iv b c (am_wr μ 18 x 0) := by
  refine ⟨h.1.f (by decide), h.2.1.f (by decide), fun r hr n hn y hy q => ?_⟩
  rw [rd_nk (by decide), rd_nk (by decide)]
  refine h.2.2 r hr n hn y hy (fun e => q ?_)
  rw [am_rd_wr]
  split
  · rfl
  · exact e
theorem am_Iv.w18 {b c : Nat} {μ : am_I} (h : am_Iv b c μ) {r n x : Nat} {v : Int32} (hr : r < 5) (hn : n < 5) (hx : x < 5) (h6 : ¬ am_rd μ 6 (5 * r + n) = 0) (h10 : 0 < am_rd μ 10 (5 * r + x)) : am_Iv b c (am_wr μ 18 (5 * (5 * r + n) + x) v) := by
  refine ⟨h.1.f (by decide), h.2.1.f (by decide), fun r' hr' n' hn' y hy q => ?_⟩
  rw [rd_nk (by decide), rd_nk (by decide)]
  by_cases e : r' = r ∧ n' = n ∧ y = x
  · obtain ⟨rfl, rfl, rfl⟩ := e
    exact ⟨h6, h10⟩
  · rw [rd_ne (by omega)] at q
    exact h.2.2 r' hr' n' hn' y hy q
theorem Iv_ov4 {b c : Nat} {μ : am_I} (h : am_Iv b c μ) (l : Int32) : am_Iv b c (fr_ov4 μ l) := h.f (by decide) (by decide) (by decide)
theorem Iv_ov1 {b c : Nat} {μ : am_I} (h : am_Iv b c μ) (m n : Nat) : am_Iv b c (fr_ov1 μ m n).1 := by
  unfold fr_ov1
  by_cases q : 0 < am_rd μ 2 (5 * m + n)
  · rw [if_pos q]
    exact Iv_ov4 (h.w2 (am_lb.pred (h.1.2.2.1 _) (by decide) q)) _
  rw [if_neg q]
  by_cases q0 : am_rd μ 0 n = 0
  · rw [if_pos q0]
    exact Iv_ov4 (h.w2 (am_lb.z _)) _
  · rw [if_neg q0]
    exact Iv_ov4 (h.w2 (am_lb.z _)) _
theorem Iv_over {b c : Nat} {μ : am_I} (h : am_Iv b c μ) (m n k : Nat) : am_Iv b c (fr_over μ m n k).1 := Iv_ov1 (h.f (by decide) (by decide) (by decide)) m n
theorem cp_ne {μ : am_I} {f t k y : Nat} (h1 : ¬ ((k = 10 ∨ k = 11) ∧ y = t)) (h2 : ¬ (k = 12 ∧ 5 * t ≤ y ∧ y < 5 * t + 5)) (h3 : ¬ (13 ≤ k ∧ k ≤ 15 ∧ 2 * t ≤ y ∧ y < 2 * t + 2)) : am_rd (fr_copy μ f t) k y = am_rd μ k y := by
  unfold fr_copy
  rw [it_rd _ (fun s hs μ => ?_), it_rd _ (fun n hn μ => ?_)]
  · unfold fr_cp
    rw [rd_ne (by omega), rd_ne (by omega)]
  · unfold fr_copy_n fr_cp
    rw [rd_ne (by omega)]
  · unfold fr_copy_s fr_cp
    rw [rd_ne (by omega), rd_ne (by omega), rd_ne (by omega)]
theorem cp_ck (μ : am_I) (f t : Nat) : am_ck (fr_copy μ f t) = am_ck μ := by
  unfold fr_copy
  rw [it_ck _ (fun s hs μ => ?_), it_ck _ (fun n hn μ => ?_)]
  · unfold fr_cp
    rw [am_ck_wr, am_ck_wr]
  · unfold fr_copy_n fr_cp
    rw [am_ck_wr]
  · unfold fr_copy_s fr_cp
    rw [am_ck_wr, am_ck_wr, am_ck_wr]
theorem cp_10 {μ : am_I} {f t : Nat} : am_rd (fr_copy μ f t) 10 t = am_rd μ 10 f := by
  unfold fr_copy
  rw [it_rd _ (fun s hs μ => ?_), it_rd _ (fun n hn μ => ?_)]
  · unfold fr_cp
    rw [rd_nk (by decide), rd_at]
  · unfold fr_copy_n fr_cp
    rw [rd_nk (by decide)]
  · unfold fr_copy_s fr_cp
    rw [rd_nk (by decide), rd_nk (by decide), rd_nk (by decide)]
theorem cp_11 {μ : am_I} {f t : Nat} : am_rd (fr_copy μ f t) 11 t = am_rd μ 11 f := by
  unfold fr_copy
  rw [it_rd _ (fun s hs μ => ?_), it_rd _ (fun n hn μ => ?_)]
  · unfold fr_cp
    rw [rd_at, rd_nk (by decide)]
  · unfold fr_copy_n fr_cp
    rw [rd_nk (by decide)]
  · unfold fr_copy_s fr_cp
    rw [rd_nk (by decide), rd_nk (by decide), rd_nk (by decide)]
theorem cp_12 {μ : am_I} {f t n : Nat} (hft : ¬ f = t) (hn : n < 5) : am_rd (fr_copy μ f t) 12 (5 * t + n) = am_rd μ 12 (5 * f + n) := by
  unfold fr_copy
  rw [it_rd _ (fun s hs μ => ?_)]
  · refine it_set (j := n) (I := fun s => ∀ y, (y < 5 * t ∨ 5 * t + 5 ≤ y) → am_rd s 12 y = am_rd μ 12 y) (Q := fun s => am_rd s 12 (5 * t + n) = am_rd μ 12 (5 * f + n)) hn (fun y hy => ?_) (fun i hi s hs y hy => ?_) (fun s hs => ?_) (fun i hi hne s hs hq => ?_)
    · unfold fr_cp
      rw [rd_nk (by decide), rd_nk (by decide)]
    · unfold fr_copy_n fr_cp
      rw [rd_ne (by omega)]; exact hs y hy
    · unfold fr_copy_n fr_cp
      rw [rd_at]; exact hs _ (by omega)
    · unfold fr_copy_n fr_cp
      rw [rd_ne (by omega)]; exact hq
  · unfold fr_copy_s fr_cp
    rw [rd_nk (by decide), rd_nk (by decide), rd_nk (by decide)]
theorem cps_at {μ : am_I} {f t s k : Nat} (k1 : 13 ≤ k) (k2 : k ≤ 15) : am_rd (fr_copy_s f t s μ) k (2 * t + s) = am_rd μ k (2 * f + s) := by
  unfold fr_copy_s fr_cp
  have e : k = 13 ∨ k = 14 ∨ k = 15 := by omega
  rcases e with rfl | rfl | rfl
  · rw [rd_nk (by decide), rd_nk (by decide), rd_at]
  · rw [rd_nk (by decide), rd_at, rd_nk (by decide)]
  · rw [rd_at, rd_nk (by decide), rd_nk (by decide)]
theorem cps_ne {μ : am_I} {f t s k y : Nat} (h : ¬ y = 2 * t + s) : am_rd (fr_copy_s f t s μ) k y = am_rd μ k y := by
  unfold fr_copy_s fr_cp
  rw [rd_ne (by omega), rd_ne (by omega), rd_ne (by omega)]
theorem cp_s {μ : am_I} {f t s k : Nat} (hft : ¬ f = t) (hs : s < 2) (k1 : 13 ≤ k) (k2 : k ≤ 15) : am_rd (fr_copy μ f t) k (2 * t + s) = am_rd μ k (2 * f + s) := by
  unfold fr_copy
  have e : ∀ y, am_rd (am_it (fr_copy_n f t) 5 (fr_cp (fr_cp μ 10 f t) 11 f t)) k y = am_rd μ k y := by
    intro y
    rw [it_rd _ (fun n hn μ => ?_)]
    · unfold fr_cp
      rw [rd_nk (by omega), rd_nk (by omega)]
    · unfold fr_copy_n fr_cp
      rw [rd_nk (by omega)]
  generalize am_it (fr_copy_n f t) 5 (fr_cp (fr_cp μ 10 f t) 11 f t) = ν at e
  rw [← e]
  refine it_set (j := s) (I := fun z => ∀ y, (y < 2 * t ∨ 2 * t + 2 ≤ y) → am_rd z k y = am_rd ν k y) (Q := fun z => am_rd z k (2 * t + s) = am_rd ν k (2 * f + s)) hs (fun y hy => rfl) (fun i hi z hz y hy => ?_) (fun z hz => ?_) (fun i hi hne z hz hq => ?_)
  · rw [cps_ne (by omega)]; exact hz y hy
  · rw [cps_at k1 k2]; exact hz _ (by omega)
  · rw [cps_ne (by omega)]; exact hq
theorem tS_to {γ : am_I} {o : Option Nat} {μ μ' : am_I} {k k' : Nat} (h : tS γ o μ k) (e : ∀ q, 13 ≤ q → q ≤ 15 → am_rd μ' q k' = am_rd μ q k) : tS γ o μ' k' := by
  unfold tS
  rw [e 13 (by omega) (by omega), e 14 (by omega) (by omega), e 15 (by omega) (by omega)]
  exact h
theorem tD_to {γ : am_I} {π : am_P} {o : Option Nat} {μ μ' : am_I} {f t : Nat} (h : tD γ π o μ f) (h1 : am_rd μ' 10 t = am_rd μ 10 f) (h2 : am_rd μ' 11 t = am_rd μ 11 f) (h3 : ∀ n, n < 5 → am_rd μ' 12 (5 * t + n) = am_rd μ 12 (5 * f + n)) (h4 : ∀ s, s < 2 → ∀ q, 13 ≤ q → q ≤ 15 → am_rd μ' q (2 * t + s) = am_rd μ q (2 * f + s)) : tD γ π o μ' t := by
  rcases h with ⟨e1, e2⟩ | ⟨a, e1, e2, e3, e4, e5, e6⟩
  · exact Or.inl ⟨e1, by rw [h1]; exact e2⟩
  · refine Or.inr ⟨a, e1, ?_, ?_, ?_, fun n hn => ?_, fun s hs => ?_⟩
    · rw [h1]; exact e2
    · rw [h1]; exact e3
    · rw [h2]; exact e4
    · rw [h3 n hn]; exact e5 n hn
    · exact tS_to (e6 s hs) (h4 s hs)
theorem tD_cp {γ : am_I} {π : am_P} {o : Option Nat} {μ : am_I} {f t : Nat} (h : tD γ π o μ f) (hft : ¬ f = t) : tD γ π o (fr_copy μ f t) t := tD_to h cp_10 cp_11 (fun n hn => cp_12 hft hn) (fun s hs q q1 q2 => cp_s hft hs q1 q2)
theorem Iv_copy {b c : Nat} {μ : am_I} (h : am_Iv b c μ) {f t : Nat} (hft : ¬ f = t) (hp : 25 ≤ t ∨ 0 < am_rd μ 10 f) (hd : ∀ r, r < 5 → t = 5 * r + r → am_rd μ 12 (5 * f + r) = 0) : am_Iv b c (fr_copy μ f t) := by
  have h1 : am_Iv b c (fr_cp (fr_cp μ 10 f t) 11 f t) := (h.w10 (h.1.2.2.2.1 _) hp).f (by decide) (by decide) (by decide)
  have h2 : am_Iv b c (am_it (fr_copy_n f t) 5 (fr_cp (fr_cp μ 10 f t) 11 f t)) ∧ ∀ y, (y < 5 * t ∨ 5 * t + 5 ≤ y) → am_rd (am_it (fr_copy_n f t) 5 (fr_cp (fr_cp μ 10 f t) 11 f t)) 12 y = am_rd μ 12 y := by
    refine am_it_keep (P := fun s => am_Iv b c s ∧ ∀ y, (y < 5 * t ∨ 5 * t + 5 ≤ y) → am_rd s 12 y = am_rd μ 12 y) (fun n hn s hs => ⟨?_, fun y hy => ?_⟩) ⟨h1, fun y hy => ?_⟩
    · refine hs.1.w12 (hs.1.1.2.2.2.2.1 _) (fun r hr q => ?_)
      have e1 : t = 5 * r + r := by omega
      have e2 : n = r := by omega
      rw [hs.2 _ (by omega), e2]
      exact hd r hr e1
    · unfold fr_copy_n fr_cp
      rw [rd_ne (by omega)]; exact hs.2 y hy
    · unfold fr_cp
      rw [rd_nk (by decide), rd_nk (by decide)]
  exact am_it_keep (P := fun s => am_Iv b c s) (fun n hn s hs => ((hs.f (by decide) (by decide) (by decide)).f (by decide) (by decide) (by decide)).f (by decide) (by decide) (by decide)) h2.1
theorem Iv_owe {b c : Nat} {μ : am_I} (h : am_Iv b c μ) {r n x : Nat} (z : Int32) (hr : r < 5) (hn : n < 5) (hx : x < 5) (h6 : ¬ am_rd μ 6 (5 * r + n) = 0) (h10 : 0 < am_rd μ 10 (5 * r + x)) : am_Iv b c (fr_owe μ (5 * (5 * r + n) + x) z) := by
  unfold fr_owe
  refine am_Iv.w18 (h.f (by decide) (by decide) (by decide)) hr hn hx ?_ ?_
  · rw [rd_nk (by decide)]; exact h6
  · rw [rd_nk (by decide)]; exact h10
theorem ow_rd {μ : am_I} {k k' y : Nat} {z : Int32} (h : ¬ (k' = 18 ∨ k' = 19)) : am_rd (fr_owe μ k z) k' y = am_rd μ k' y := by
  unfold fr_owe
  rw [rd_nk (by omega), rd_nk (by omega)]
theorem ow_ck {μ : am_I} {k : Nat} {z : Int32} : am_ck (fr_owe μ k z) = am_ck μ := by
  unfold fr_owe
  rw [am_ck_wr, am_ck_wr]
theorem inb_rd {μ : am_I} {r x m n k y : Nat} (h : ¬ (k = 18 ∨ k = 19)) : am_rd (fr_in_b r x m n μ) k y = am_rd μ k y := by
  unfold fr_in_b fr_in_c
  split
  · rw [rd_nk (by omega)]
  · split
    · rw [rd_nk (by omega)]
    · rw [ow_rd h, rd_nk (by omega)]
theorem inb_ck {μ : am_I} {r x m n : Nat} : am_ck (fr_in_b r x m n μ) = am_ck μ := by
  unfold fr_in_b fr_in_c
  split
  · rw [am_ck_wr]
  · split
    · rw [am_ck_wr]
    · rw [ow_ck, am_ck_wr]
theorem Iv_inb {b c : Nat} {μ : am_I} (h : am_Iv b c μ) {r x m n : Nat} (hr : r < 5) (hn : n < 5) (hx : x < 5) (h10 : 0 < am_rd μ 10 (5 * r + x)) : am_Iv b c (fr_in_b r x m n μ) := by
  unfold fr_in_b fr_in_c
  split
  · exact h.w18z
  · next q =>
    split
    · exact h.w18z
    · refine Iv_owe h.w18z 1 hr hn hx q ?_
      rw [rd_nk (by decide)]; exact h10
theorem Iv_inst {b c : Nat} {μ : am_I} (h : am_Iv b c μ) {r x f m : Nat} (hr : r < 5) (hx : x < 5) (hf : ¬ f = 5 * r + x) (h10 : 0 < am_rd μ 10 f) (hd : ∀ q, q < 5 → 5 * r + x = 5 * q + q → am_rd μ 12 (5 * f + q) = 0) : am_Iv b c (fr_inst μ r x f m) := by
  unfold fr_inst
  have h0 := Iv_copy h hf (Or.inr h10) hd
  refine (am_it_keep (P := fun s => am_Iv b c s ∧ 0 < am_rd s 10 (5 * r + x)) (fun n hn s hs => ⟨Iv_inb hs.1 hr hn hx hs.2, ?_⟩) ⟨h0, ?_⟩).1
  · rw [inb_rd (by decide)]; exact hs.2
  · rw [cp_10]; exact h10

def am_kw (K : am_K) (k n : Nat) : am_K := (K.1 + 1, K.2.1 + n, fun a => if a = K.1 + 1 then k else K.2.2 a)
def am_zg (γ : am_I) (a : Nat) : am_I := fun f a' i => if a' = a then 0 else γ f a' i
def am_zp (π : am_P) (a : Nat) : am_P := fun f a' i => if a' = a then none else π f a' i
theorem am_zg_ne {γ : am_I} {a f a' i : Nat} (h : ¬ a' = a) : am_zg γ a f a' i = γ f a' i := if_neg h
theorem am_zp_ne {π : am_P} {a f a' i : Nat} (h : ¬ a' = a) : am_zp π a f a' i = π f a' i := if_neg h
theorem am_zg_at {γ : am_I} {a f i : Nat} : am_zg γ a f a i = 0 := if_pos rfl
theorem am_zp_at {π : am_P} {a f i : Nat} : am_zp π a f a i = none := if_pos rfl
theorem am_nw_c {K : am_K} {sc : am_Sc} {γ : am_I} {π : am_P} {m : am_M} {k n : Nat} (hk : k < 50) : am_nw (K, sc, (γ, π), m) k n = (am_kw K k n, sc, (am_zg γ (K.1 + 1), am_zp π (K.1 + 1)), m) := by
  unfold am_nw
  dsimp only
  rw [if_pos hk, if_pos hk]
  rfl
section AL
variable {d j pc nx : Nat} {Q : am_Q} {ls : am_L} {st : List am_V} {K : am_K} {sc : am_Sc} {γ : am_I} {π : am_P} {m : am_M}
theorem c_new {k n : Nat} (a : Nat) (h : am_code j pc = some (ai_new k n nx)) (hk : k < 50) (ha : K.1 + 1 = a) (h1 : a ≤ am_limC) (h2 : K.2.1 + n ≤ am_limS) (w : am_w d j Q nx ls (.inr (some a) :: st) (am_kw K k n, sc, (am_zg γ a, am_zp π a), m)) : am_w d j Q pc ls st (K, sc, (γ, π), m) := by
  subst ha
  exact r_new h h1 h2 (by rw [am_nw_c hk]; exact w)
theorem c_newa {k n : Nat} {i : Int32} (a : Nat) (h : am_code j pc = some (ai_newa k n nx)) (hi : i = nI n) (hk : k < 50) (ha : K.1 + 1 = a) (h1 : a ≤ am_limC) (h2 : K.2.1 + n ≤ am_limS) (w : am_w d j Q nx ls (.inr (some a) :: st) (am_kw K k n, sc, (am_zg γ a, am_zp π a), m)) : am_w d j Q pc ls (.inl i :: st) (K, sc, (γ, π), m) := by
  subst ha
  exact r_newa h hi h1 h2 (by rw [am_nw_c hk]; exact w)
end AL
theorem am_lq.nw {K : am_K} {a k k' n : Nat} (h : am_lq K a k) : am_lq (am_kw K k' n) a k := ⟨h.1, Nat.le_succ_of_le h.2.1, by
  have := h.2.1
  show (if a = K.1 + 1 then k' else K.2.2 a) = k
  rw [if_neg (by omega)]
  exact h.2.2⟩
theorem am_lq.self {K : am_K} {k n : Nat} : am_lq (am_kw K k n) (K.1 + 1) k := ⟨Nat.succ_pos _, Nat.le_refl _, if_pos rfl⟩
theorem am_KK.nw {K : am_K} (h : am_KK K) {k n : Nat} : am_KK (am_kw K k n) := ⟨Nat.le_succ_of_le h.1, fun a h0 h1 => by
  have := h.1
  show (if a = K.1 + 1 then k else K.2.2 a) = _
  rw [if_neg (by omega)]
  exact h.2 a h0 h1⟩
theorem am_TC.nw {K : am_K} {π : am_P} (T : am_TC K π) {k n : Nat} : am_TC (am_kw K k n) (am_zp π (K.1 + 1)) := by
  obtain ⟨h0, ⟨h1, h2, h3, h4⟩, h5, h6, h7, ⟨h8, h9⟩, h10⟩ := T
  have hk := h0.1
  refine ⟨h0.nw, ⟨?_, ?_, ?_, ?_⟩, fun r hr => ⟨?_, ?_, ?_, ?_⟩, fun r hr n hn => ⟨?_, ?_⟩, fun i hi => ⟨?_, ?_, ?_⟩, ⟨?_, ?_⟩, fun u hu => ⟨?_, ?_⟩⟩
  all_goals rw [am_zp_ne (by omega)]
  · exact h1
  · exact h2
  · exact h3
  · exact h4
  · exact (h5 r hr).1
  · exact (h5 r hr).2.1
  · exact (h5 r hr).2.2.1
  · exact (h5 r hr).2.2.2
  · exact (h6 r hr n hn).1
  · exact (h6 r hr n hn).2
  · exact (h7 i hi).1
  · exact (h7 i hi).2.1
  · exact (h7 i hi).2.2
  · exact h8
  · exact h9
  · exact (h10 u hu).1
  · exact (h10 u hu).2
theorem am_TC.wQ {K : am_K} {π : am_P} (T : am_TC K π) {F a i : Nat} {v : Option Nat} (hF : F = 1903 ∨ F = 1904 ∨ F = 2100) : am_TC K (am_u π F a i v) := by
  obtain ⟨h0, ⟨h1, h2, h3, h4⟩, h5, h6, h7, ⟨h8, h9⟩, h10⟩ := T
  refine ⟨h0, ⟨?_, ?_, ?_, ?_⟩, fun r hr => ⟨?_, ?_, ?_, ?_⟩, fun r hr n hn => ⟨?_, ?_⟩, fun i hi => ⟨?_, ?_, ?_⟩, ⟨?_, ?_⟩, fun u hu => ⟨?_, ?_⟩⟩
  all_goals rw [am_u_ne (by omega)]
  · exact h1
  · exact h2
  · exact h3
  · exact h4
  · exact (h5 r hr).1
  · exact (h5 r hr).2.1
  · exact (h5 r hr).2.2.1
  · exact (h5 r hr).2.2.2
  · exact (h6 r hr n hn).1
  · exact (h6 r hr n hn).2
  · exact (h7 i hi).1
  · exact (h7 i hi).2.1
  · exact (h7 i hi).2.2
  · exact h8
  · exact h9
  · exact (h10 u hu).1
  · exact (h10 u hu).2
theorem am_De.nw {K : am_K} {π : am_P} {e : Nat} (h : am_De K π e) {k n : Nat} : am_De (am_kw K k n) (am_zp π (K.1 + 1)) e := by
  obtain ⟨h0, h1, h2, h3, h4, h5, h6⟩ := h
  have := h3.2.1
  refine ⟨h0, h1.nw, h2.nw, h3.nw, ?_, ?_, fun s hs q hq => ?_⟩
  · rw [am_zp_ne (by omega)]; exact h4
  · rw [am_zp_ne (by omega)]; exact h5
  · rw [am_zp_ne (by omega)] at hq
    exact ⟨(h6 s hs q hq).1, (h6 s hs q hq).2.nw⟩
theorem am_Wf.nw {K : am_K} {γ : am_I} {π : am_P} (h : am_Wf K γ π) {k n : Nat} : am_Wf (am_kw K k n) (am_zg γ (K.1 + 1)) (am_zp π (K.1 + 1)) := by
  obtain ⟨h0, h1, h2, h3, h4, h5, h6⟩ := h
  have hk := h0.1.1
  have kk : ∀ {e y : Nat}, am_De K π e ∧ γ 1900 e 0 = nI y → am_De (am_kw K k n) (am_zp π (K.1 + 1)) e ∧ am_zg γ (K.1 + 1) 1900 e 0 = nI y := fun {e y} q => ⟨q.1.nw, by
    have := q.1.2.1.2.1
    rw [am_zg_ne (by omega)]
    exact q.2⟩
  refine ⟨h0.nw, fun r hr x hx e he => kk ?_, fun r hr e he => kk ?_, fun r hr s hs q hq => ?_, fun i hi x hx e he => kk ?_, fun r hr => ?_, fun a => ?_⟩
  · rw [am_zp_ne (by omega)] at he; exact h1 r hr x hx e he
  · rw [am_zp_ne (by omega)] at he; exact h2 r hr e he
  · rw [am_zp_ne (by omega)] at hq; exact ⟨(h3 r hr s hs q hq).1, (h3 r hr s hs q hq).2.nw⟩
  · rw [am_zp_ne (by omega)] at he; exact h4 i hi x hx e he
  · rw [am_zg_ne (by omega)]; exact h5 r hr
  · unfold am_zg
    split
    · exact ⟨Or.inl rfl, Or.inl rfl⟩
    · exact h6 a

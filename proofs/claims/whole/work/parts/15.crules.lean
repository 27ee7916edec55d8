def am_kn (a : Nat) : Nat := if a = 1 then 1 else if a = 2 then 2 else if a < 73 then (if (a - 3) % 14 = 0 then 3 else if (a - 3) % 14 = 1 then 4 else if (a - 3) % 14 = 2 then 5 else if (a - 3) % 14 = 3 then 6 else if (a - 3) % 14 % 2 = 0 then 7 else 8) else if a = 73 then 9 else if a < 149 then 10 + (a - 74) % 3 else if a = 149 then 13 else if a = 150 then 14 else if a < 156 then 15 else if a = 156 then 16 else if a < 162 then 17 else if a = 162 then 18 else a - 113
def am_KK (K : am_K) : Prop := 187 ≤ K.1 ∧ ∀ a, 0 < a → a < 188 → K.2.2 a = am_kn a
def am_TC (K : am_K) (π : am_P) : Prop := am_KK K ∧
  (π 100 1 0 = some 2 ∧ π 101 1 0 = some 73 ∧ π 102 1 0 = some 149 ∧ π 103 1 0 = some 162) ∧
  (∀ r, r < 5 → π 200 2 r = some (3 + 14 * r) ∧ π 305 (3 + 14 * r) 0 = some (4 + 14 * r) ∧ π 306 (3 + 14 * r) 0 = some (5 + 14 * r) ∧ π 307 (3 + 14 * r) 0 = some (6 + 14 * r)) ∧
  (∀ r, r < 5 → ∀ n, n < 5 → π 600 (6 + 14 * r) n = some (7 + 14 * r + 2 * n) ∧ π 708 (7 + 14 * r + 2 * n) 0 = some (8 + 14 * r + 2 * n)) ∧
  (∀ i, i < 25 → π 900 73 i = some (74 + 3 * i) ∧ π 1001 (74 + 3 * i) 0 = some (75 + 3 * i) ∧ π 1002 (74 + 3 * i) 0 = some (76 + 3 * i)) ∧
  (π 1300 149 0 = some 150 ∧ π 1301 149 0 = some 156) ∧ (∀ u, u < 5 → π 1400 150 u = some (151 + u) ∧ π 1600 156 u = some (157 + u))
theorem am_u_ne {α : Type} {m : Nat → Nat → Nat → α} {f a i : Nat} {v : α} {f' a' i' : Nat} (h : f' ≠ f) : am_u m f a i v f' a' i' = m f' a' i' := by
  unfold am_u
  rw [if_neg (fun q => h q.1)]
theorem am_TC.wP {K : am_K} {π : am_P} (T : am_TC K π) {F a i : Nat} {v : Option Nat} (hF : F = 304 ∨ F = 400 ∨ F = 500 ∨ F = 1100) : am_TC K (am_u π F a i v) := by
  obtain ⟨h0, ⟨h1, h2, h3, h4⟩, h5, h6, h7, ⟨h8, h9⟩, h10⟩ := T
  refine ⟨h0, ⟨?_, ?_, ?_, ?_⟩, fun r hr => ⟨?_, ?_, ?_, ?_⟩, fun r hr n hn => ⟨?_, ?_⟩, fun i hi => ⟨?_, ?_, ?_⟩, ⟨?_, ?_⟩, fun u hu => ⟨?_, ?_⟩⟩
  all_goals rw [am_u_ne (by omega)]
  · exact h1
  · exact h2
  · exact h3
  · exact h4
  · exact (h5 r hr).1
  · exact (h5 r hr).2.1
  · exact (h5 r hr).2.2.1
  · exact (h5 r hr).2.2.2
  · exact (h6 r hr n hn).1
  · exact (h6 r hr n hn).2
  · exact (h7 i hi).1
  · exact (h7 i hi).2.1
  · exact (h7 i hi).2.2
  · exact h8
  · exact h9
  · exact (h10 u hu).1
  · exact (h10 u hu).2
def am_lq (K : am_K) (a k : Nat) : Prop := 0 < a ∧ a ≤ K.1 ∧ K.2.2 a = k
def am_De (K : am_K) (π : am_P) (e : Nat) : Prop := 187 < e ∧ am_lq K e 19 ∧ am_lq K (e + 1) 20 ∧ am_lq K (e + 2) 21 ∧ π 1903 e 0 = some (e + 1) ∧ π 1904 e 0 = some (e + 2) ∧ ∀ s, s < 2 → ∀ q, π 2100 (e + 2) s = some q → 187 < q ∧ am_lq K q 22
section CU
variable {d j pc nx : Nat} {Q : am_Q} {ls : am_L} {st : List am_V} {K : am_K} {sc : am_Sc} {γ : am_I} {π : am_P} {m : am_M} {c : am_M}
theorem am_KK.lv (h : am_KK K) {a k : Nat} (h0 : 0 < a) (h1 : a < 188) (hk : am_kn a = k) : am_lv (K, sc, c, m) a k := ⟨h0, Nat.le_trans (by omega) h.1, (h.2 a h0 h1).trans hk⟩
theorem am_KK.lq (h : am_KK K) {a k : Nat} (h0 : 0 < a) (h1 : a < 188) (hk : am_kn a = k) : am_lq K a k := ⟨h0, Nat.le_trans (by omega) h.1, (h.2 a h0 h1).trans hk⟩
theorem am_lq.lv {a k : Nat} (h : am_lq K a k) : am_lv (K, sc, c, m) a k := h
theorem kn_R : ∀ r, r < 5 → am_kn (3 + 14 * r) = 3 ∧ am_kn (4 + 14 * r) = 4 ∧ am_kn (5 + 14 * r) = 5 ∧ am_kn (6 + 14 * r) = 6 := by decide +kernel
theorem kn_E : ∀ r, r < 5 → ∀ n, n < 5 → am_kn (7 + 14 * r + 2 * n) = 7 ∧ am_kn (8 + 14 * r + 2 * n) = 8 := by decide +kernel
theorem kn_U : ∀ i, i < 25 → am_kn (74 + 3 * i) = 10 ∧ am_kn (75 + 3 * i) = 11 ∧ am_kn (76 + 3 * i) = 12 := by decide +kernel
theorem kn_D : ∀ u, u < 5 → am_kn (151 + u) = 15 ∧ am_kn (157 + u) = 17 := by decide +kernel
theorem am_TC.lNet (T : am_TC K π) : am_lv (K, sc, c, m) 1 1 := T.1.lv (by decide) (by decide) rfl
theorem am_TC.lRs (T : am_TC K π) : am_lv (K, sc, c, m) 2 2 := T.1.lv (by decide) (by decide) rfl
theorem am_TC.lR (T : am_TC K π) {r : Nat} (hr : r < 5) : am_lv (K, sc, c, m) (3 + 14 * r) 3 := T.1.lv (by omega) (by omega) (kn_R r hr).1
theorem am_TC.lSt (T : am_TC K π) {r : Nat} (hr : r < 5) : am_lv (K, sc, c, m) (4 + 14 * r) 4 := T.1.lv (by omega) (by omega) (kn_R r hr).2.1
theorem am_TC.lHe (T : am_TC K π) {r : Nat} (hr : r < 5) : am_lv (K, sc, c, m) (5 + 14 * r) 5 := T.1.lv (by omega) (by omega) (kn_R r hr).2.2.1
theorem am_TC.lEs (T : am_TC K π) {r : Nat} (hr : r < 5) : am_lv (K, sc, c, m) (6 + 14 * r) 6 := T.1.lv (by omega) (by omega) (kn_R r hr).2.2.2
theorem am_TC.lE (T : am_TC K π) {r n : Nat} (hr : r < 5) (hn : n < 5) : am_lv (K, sc, c, m) (7 + 14 * r + 2 * n) 7 := T.1.lv (by omega) (by omega) (kn_E r hr n hn).1
theorem am_TC.lX (T : am_TC K π) {r n : Nat} (hr : r < 5) (hn : n < 5) : am_lv (K, sc, c, m) (8 + 14 * r + 2 * n) 8 := T.1.lv (by omega) (by omega) (kn_E r hr n hn).2
theorem am_TC.lUs (T : am_TC K π) : am_lv (K, sc, c, m) 73 9 := T.1.lv (by decide) (by decide) rfl
theorem am_TC.lU (T : am_TC K π) {i : Nat} (hi : i < 25) : am_lv (K, sc, c, m) (74 + 3 * i) 10 := T.1.lv (by omega) (by omega) (kn_U i hi).1
theorem am_TC.lUc (T : am_TC K π) {i : Nat} (hi : i < 25) : am_lv (K, sc, c, m) (75 + 3 * i) 11 := T.1.lv (by omega) (by omega) (kn_U i hi).2.1
theorem am_TC.lUt (T : am_TC K π) {i : Nat} (hi : i < 25) : am_lv (K, sc, c, m) (76 + 3 * i) 12 := T.1.lv (by omega) (by omega) (kn_U i hi).2.2
theorem am_TC.lRo (T : am_TC K π) : am_lv (K, sc, c, m) 149 13 := T.1.lv (by decide) (by decide) rfl
theorem am_TC.lEd (T : am_TC K π) : am_lv (K, sc, c, m) 150 14 := T.1.lv (by decide) (by decide) rfl
theorem am_TC.lEr (T : am_TC K π) {u : Nat} (hu : u < 5) : am_lv (K, sc, c, m) (151 + u) 15 := T.1.lv (by omega) (by omega) (kn_D u hu).1
theorem am_TC.lDs (T : am_TC K π) : am_lv (K, sc, c, m) 156 16 := T.1.lv (by decide) (by decide) rfl
theorem am_TC.lDr (T : am_TC K π) {u : Nat} (hu : u < 5) : am_lv (K, sc, c, m) (157 + u) 17 := T.1.lv (by omega) (by omega) (kn_D u hu).2
theorem am_TC.lCn (T : am_TC K π) : am_lv (K, sc, c, m) 162 18 := T.1.lv (by decide) (by decide) rfl
theorem am_gI_c (F a i : Nat) (hF : F < 5000) : am_gI (K, sc, (γ, π), m) F a i = γ F a i := by
  unfold am_gI
  rw [if_pos hF]
theorem am_gP_c (F a i : Nat) (hF : F < 5000) : am_gP (K, sc, (γ, π), m) F a i = π F a i := by
  unfold am_gP
  rw [if_pos hF]
theorem am_sI_c (F a i : Nat) (v : Int32) (hF : F < 5000) : am_sI (K, sc, (γ, π), m) F a i v = (K, sc, (am_u γ F a i v, π), m) := by
  unfold am_sI
  rw [if_pos hF]
  rfl
theorem am_sP_c (F a i : Nat) (v : Option Nat) (hF : F < 5000) : am_sP (K, sc, (γ, π), m) F a i v = (K, sc, (γ, am_u π F a i v), m) := by
  unfold am_sP
  rw [if_pos hF]
  rfl
theorem c_getI {a k f : Nat} (F : Nat) (h : am_code j pc = some (ai_getI k f nx)) (hF : 100 * k + f = F) (h5 : F < 5000) (hl : am_lv (K, sc, (γ, π), m) a k) (w : am_w d j Q nx ls (.inl (γ F a 0) :: st) (K, sc, (γ, π), m)) : am_w d j Q pc ls (.inr (some a) :: st) (K, sc, (γ, π), m) := r_getI h hl (by rw [hF, am_gI_c _ _ _ h5]; exact w)
theorem c_getP {a k f : Nat} {v : Option Nat} (F : Nat) (h : am_code j pc = some (ai_getP k f nx)) (hF : 100 * k + f = F) (h5 : F < 5000) (hl : am_lv (K, sc, (γ, π), m) a k) (hv : π F a 0 = v) (w : am_w d j Q nx ls (.inr v :: st) (K, sc, (γ, π), m)) : am_w d j Q pc ls (.inr (some a) :: st) (K, sc, (γ, π), m) := r_getP h hl (by rw [hF, am_gP_c _ _ _ h5, hv]; exact w)
theorem c_putI {a k f : Nat} {v : Int32} (F : Nat) (h : am_code j pc = some (ai_putI k f nx)) (hF : 100 * k + f = F) (h5 : F < 5000) (hl : am_lv (K, sc, (γ, π), m) a k) (w : am_w d j Q nx ls st (K, sc, (am_u γ F a 0 v, π), m)) : am_w d j Q pc ls (.inl v :: .inr (some a) :: st) (K, sc, (γ, π), m) := r_putI h hl (by rw [hF, am_sI_c _ _ _ _ h5]; exact w)
theorem c_putZ {a k f : Nat} {v : Int32} (F : Nat) (h : am_code j pc = some (ai_putZ k f nx)) (hF : 100 * k + f = F) (h5 : F < 5000) (hl : am_lv (K, sc, (γ, π), m) a k) (hv : v = 0 ∨ v = 1) (w : am_w d j Q nx ls st (K, sc, (am_u γ F a 0 v, π), m)) : am_w d j Q pc ls (.inl v :: .inr (some a) :: st) (K, sc, (γ, π), m) := r_putZ h hl hv (by rw [hF, am_sI_c _ _ _ _ h5]; exact w)
theorem c_putP {a k f : Nat} {v : Option Nat} (F : Nat) (h : am_code j pc = some (ai_putP k f nx)) (hF : 100 * k + f = F) (h5 : F < 5000) (hl : am_lv (K, sc, (γ, π), m) a k) (w : am_w d j Q nx ls st (K, sc, (γ, am_u π F a 0 v), m)) : am_w d j Q pc ls (.inr v :: .inr (some a) :: st) (K, sc, (γ, π), m) := r_putP h hl (by rw [hF, am_sP_c _ _ _ _ h5]; exact w)
theorem c_ald {a k n : Nat} {i : Int32} (F : Nat) (x : Nat) (h : am_code j pc = some (ai_ald k n nx)) (hF : 100 * k = F) (h5 : F < 5000) (hl : am_lv (K, sc, (γ, π), m) a k) (hi : i = nI x) (hx : x < n) (hn : n < 2 ^ 31) (w : am_w d j Q nx ls (.inl (γ F a x) :: st) (K, sc, (γ, π), m)) : am_w d j Q pc ls (.inl i :: .inr (some a) :: st) (K, sc, (γ, π), m) := r_ald h hl x hi hx hn (by rw [hF, am_gI_c _ _ _ h5]; exact w)
theorem c_aald {a k n : Nat} {i : Int32} {v : Option Nat} (F x : Nat) (h : am_code j pc = some (ai_aald k n nx)) (hF : 100 * k = F) (h5 : F < 5000) (hl : am_lv (K, sc, (γ, π), m) a k) (hi : i = nI x) (hx : x < n) (hn : n < 2 ^ 31) (hv : π F a x = v) (w : am_w d j Q nx ls (.inr v :: st) (K, sc, (γ, π), m)) : am_w d j Q pc ls (.inl i :: .inr (some a) :: st) (K, sc, (γ, π), m) := r_aald h hl x hi hx hn (by rw [hF, am_gP_c _ _ _ h5, hv]; exact w)
theorem c_ast {a k n : Nat} {i v : Int32} (F x : Nat) (h : am_code j pc = some (ai_ast k n nx)) (hF : 100 * k = F) (h5 : F < 5000) (hl : am_lv (K, sc, (γ, π), m) a k) (hi : i = nI x) (hx : x < n) (hn : n < 2 ^ 31) (w : am_w d j Q nx ls st (K, sc, (am_u γ F a x v, π), m)) : am_w d j Q pc ls (.inl v :: .inl i :: .inr (some a) :: st) (K, sc, (γ, π), m) := r_ast h hl x hi hx hn (by rw [hF, am_sI_c _ _ _ _ h5]; exact w)
theorem c_zast {a k n : Nat} {i v : Int32} (F x : Nat) (h : am_code j pc = some (ai_zast k n nx)) (hF : 100 * k = F) (h5 : F < 5000) (hl : am_lv (K, sc, (γ, π), m) a k) (hi : i = nI x) (hx : x < n) (hn : n < 2 ^ 31) (hv : v = 0 ∨ v = 1) (w : am_w d j Q nx ls st (K, sc, (am_u γ F a x v, π), m)) : am_w d j Q pc ls (.inl v :: .inl i :: .inr (some a) :: st) (K, sc, (γ, π), m) := r_zast h hl x hi hx hn hv (by rw [hF, am_sI_c _ _ _ _ h5]; exact w)
theorem c_aast {a k n k2 : Nat} {i : Int32} {v : Option Nat} (F x : Nat) (h : am_code j pc = some (ai_aast k n k2 nx)) (hF : 100 * k = F) (h5 : F < 5000) (hl : am_lv (K, sc, (γ, π), m) a k) (hi : i = nI x) (hx : x < n) (hn : n < 2 ^ 31) (hv : ∀ q, v = some q → am_lv (K, sc, (γ, π), m) q k2) (w : am_w d j Q nx ls st (K, sc, (γ, am_u π F a x v), m)) : am_w d j Q pc ls (.inr v :: .inl i :: .inr (some a) :: st) (K, sc, (γ, π), m) := r_aast h hl x hi hx hn hv (by rw [hF, am_sP_c _ _ _ _ h5]; exact w)
end CU

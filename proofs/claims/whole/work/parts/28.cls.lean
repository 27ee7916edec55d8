def fc_on0_b (s x : Nat) (γ : am_I) : am_I := am_u γ 800 s x (-2)
def fc_on0 (γ : am_I) (s : Nat) : am_I := am_it (fc_on0_b s) 5 γ
def am_mK (K : am_K) (k k2 : Nat) : Nat → am_K
  | 0 => am_kw K k 5
  | i + 1 => am_kw (am_mK K k k2 i) k2 5
def am_mg (γ : am_I) (a : Nat) : Nat → am_I
  | 0 => am_zg γ (a + 1)
  | i + 1 => am_zg (am_mg γ a i) (a + 2 + i)
def am_mp (π : am_P) (a k : Nat) : Nat → am_P
  | 0 => am_zp π (a + 1)
  | i + 1 => am_u (am_zp (am_mp π a k i) (a + 2 + i)) (100 * k) (a + 1) i (some (a + 2 + i))
theorem am_mK_1 (K : am_K) (k k2 : Nat) : ∀ i, (am_mK K k k2 i).1 = K.1 + 1 + i
  | 0 => rfl
  | i + 1 => by
    show (am_mK K k k2 i).1 + 1 = K.1 + 1 + (i + 1)
    rw [am_mK_1 K k k2 i]
    omega
theorem am_mul_c {K : am_K} {sc : am_Sc} {γ : am_I} {π : am_P} {m : am_M} {k k2 : Nat} (hk : k < 50) (hk2 : k2 < 50) : ∀ i, am_mul (K, sc, (γ, π), m) k k2 i = (am_mK K k k2 i, sc, (am_mg γ K.1 i, am_mp π K.1 k i), m)
  | 0 => am_nw_c hk
  | i + 1 => by
    show am_sP (am_nw (am_mul (K, sc, (γ, π), m) k k2 i) k2 5) (100 * k) (K.1 + 1) i (some (K.1 + 2 + i)) = _
    rw [am_mul_c hk hk2 i, am_nw_c hk2, am_sP_c _ _ _ _ (by omega), am_mK_1, show K.1 + 1 + i + 1 = K.1 + 2 + i by omega]
    rfl
theorem c_multi {d j pc nx : Nat} {Q : am_Q} {ls : am_L} {st : List am_V} {K : am_K} {sc : am_Sc} {γ : am_I} {π : am_P} {m : am_M} {k k2 : Nat} {x y : Int32} (a : Nat) (h : am_code j pc = some (ai_multi k k2 nx)) (hx : x = nI 5) (hy : y = nI 5) (hk : k < 50) (hk2 : k2 < 50) (ha : K.1 = a) (h1 : a + 6 ≤ am_limC) (h2 : K.2.1 + 30 ≤ am_limS) (w : am_w d j Q nx ls (.inr (some (a + 1)) :: st) (am_mK K k k2 5, sc, (am_mg γ a 5, am_mp π a k 5), m)) : am_w d j Q pc ls (.inl y :: .inl x :: st) (K, sc, (γ, π), m) := by
  subst ha
  exact r_multi h hx hy h1 h2 (by rw [am_mul_c hk hk2]; exact w)
theorem am_lq.mK {K : am_K} {a k k' k2 : Nat} (h : am_lq K a k) : ∀ i, am_lq (am_mK K k' k2 i) a k
  | 0 => h.nw
  | i + 1 => (am_lq.mK h i).nw
theorem c_oweNothing0 {d : Nat} {Q : am_Q} {K : am_K} {sc : am_Sc} {γ : am_I} {π : am_P} {m : am_M} {e s : Nat} (hd : 1 ≤ d) (he : am_lq K e 7) (hs : am_lq K s 8) (hp : π 708 e 0 = some s) (hq : Q (K, sc, (fc_on0 γ s, π), m) none) : am_call d 10 [.inr (some e)] (K, sc, (γ, π), m) Q := by
  obtain ⟨d, rfl⟩ : ∃ d', d = d' + 1 := ⟨d - 1, by omega⟩
  refine r_enter (by decide) (Nat.le_of_ble_eq_true rfl) (ls := [some (.inr (some e)), none]) rfl ?_
  refine r_push at_10_0 <| r_istoreL (ls' := [_, _]) at_10_1 rfl <| ?_
  refine am_for 5 (fun x z => am_w d 10 Q 2 [some (.inr (some e)), some (.inl (nI x))] [] (K, sc, (z, π), m)) (fc_on0_b s) (fun x hi_x z hk_x => ?_) γ ?_
  · refine r_iload at_10_2 rfl <| r_push at_10_3 <| r_cmgeNT x 5 at_10_4 rfl rfl (by omega) (by omega) (by omega) <| ?_
    refine r_aload at_10_7 rfl <| c_getP 708 at_10_8 rfl (by decide) (he.lv) hp <| r_iload at_10_11 rfl <| r_push at_10_12 <| c_ast 800 x at_10_14 rfl (by decide) (hs.lv) rfl (by omega) (by decide) <| r_iincNL (ls' := [_, _]) x at_10_15 rfl rfl <| r_goto at_10_18 <| ?_
    have e : (fc_on0_b s) x z = am_u z 800 s x (-2) := by simp only [fc_on0_b]
    rw [e] at hk_x
    exact hk_x
  · generalize hz2 : am_it (fc_on0_b s) 5 γ = y2
    refine r_iload at_10_2 rfl <| r_push at_10_3 <| r_cmgeNF 5 5 at_10_4 rfl rfl (by omega) (by omega) (by omega) <| ?_
    refine r_ret at_10_21 ?_
    have e : fc_on0 γ s = y2 := by simp only [fc_on0, hz2]
    rw [e] at hq
    exact hq
theorem c_leinit {d : Nat} {Q : am_Q} {K : am_K} {sc : am_Sc} {γ : am_I} {π : am_P} {m : am_M}  (hd : 2 ≤ d) (hl : am_lq K K.1 7) (hC : K.1 + 1 ≤ am_limC) (hS : K.2.1 + 5 ≤ am_limS) (hq : Q (am_kw K 8 5, sc, (fc_on0 (am_zg γ (K.1 + 1)) (K.1 + 1), am_u (am_zp π (K.1 + 1)) 708 K.1 0 (some (K.1 + 1))), m) none) : am_call d 7 [.inr (some K.1)] (K, sc, (γ, π), m) Q := by
  obtain ⟨d, rfl⟩ : ∃ d', d = d' + 1 := ⟨d - 1, by omega⟩
  refine r_enter (by decide) (Nat.le_of_ble_eq_true rfl) (ls := [some (.inr (some K.1))]) rfl ?_
  refine r_aload at_7_0 rfl <| r_oinit at_7_1 (Nat.le_of_ble_eq_true rfl) <| r_aload at_7_4 rfl <| r_push at_7_5 <| c_newa (K.1 + 1) at_7_6 rfl (by decide) rfl (by omega) (by show K.2.1 + 5 ≤ am_limS; omega) <| c_putP 708 at_7_8 rfl (by decide) ((am_lq.nw (k' := 8) (n := 5) hl).lv) <| r_aload at_7_11 rfl <| r_callV0v at_7_12 ((am_lq.nw (k' := 8) (n := 5) hl).lv) (Nat.le_of_ble_eq_true rfl) (fun _ hq => c_oweNothing0 (by omega) (am_lq.nw (k' := 8) (n := 5) hl) (am_lq.self (K := K) (k := 8) (n := 5)) am_u_at hq) <| ?_
  refine r_ret at_7_15 ?_
  exact hq
theorem c_uinit {d : Nat} {Q : am_Q} {K : am_K} {sc : am_Sc} {γ : am_I} {π : am_P} {m : am_M}  (hd : 1 ≤ d) (hl : am_lq K K.1 10) (hC : K.1 + 2 ≤ am_limC) (hS : K.2.1 + 10 ≤ am_limS) (hq : Q (am_kw (am_kw K 11 5) 12 5, sc, (am_zg (am_zg γ (K.1 + 1)) (K.1 + 1 + 1), am_u (am_zp (am_u (am_zp π (K.1 + 1)) 1001 K.1 0 (some (K.1 + 1))) (K.1 + 1 + 1)) 1002 K.1 0 (some (K.1 + 1 + 1))), m) none) : am_call d 23 [.inr (some K.1)] (K, sc, (γ, π), m) Q := by
  obtain ⟨d, rfl⟩ : ∃ d', d = d' + 1 := ⟨d - 1, by omega⟩
  refine r_enter (by decide) (Nat.le_of_ble_eq_true rfl) (ls := [some (.inr (some K.1))]) rfl ?_
  refine r_aload at_23_0 rfl <| r_oinit at_23_1 (Nat.le_of_ble_eq_true rfl) <| r_aload at_23_4 rfl <| r_push at_23_5 <| c_newa (K.1 + 1) at_23_6 rfl (by decide) rfl (by omega) (by show K.2.1 + 5 ≤ am_limS; omega) <| c_putP 1001 at_23_9 rfl (by decide) ((am_lq.nw (k' := 11) (n := 5) hl).lv) <| r_aload at_23_12 rfl <| r_push at_23_13 <| c_newa (K.1 + 1 + 1) at_23_14 rfl (by decide) rfl (by omega) (by show K.2.1 + 5 + 5 ≤ am_limS; omega) <| c_putP 1002 at_23_16 rfl (by decide) ((am_lq.nw (k' := 12) (n := 5) (am_lq.nw (k' := 11) (n := 5) hl)).lv) <| ?_
  refine r_ret at_23_19 ?_
  exact hq
theorem c_roinit {d : Nat} {Q : am_Q} {K : am_K} {sc : am_Sc} {γ : am_I} {π : am_P} {m : am_M}  (hd : 1 ≤ d) (hl : am_lq K K.1 13) (hC : K.1 + 12 ≤ am_limC) (hS : K.2.1 + 60 ≤ am_limS) (hq : Q (am_mK (am_mK K 14 15 5) 16 17 5, sc, (am_mg (am_mg γ K.1 5) (K.1 + 6) 5, am_u (am_mp (am_u (am_mp π K.1 14 5) 1300 K.1 0 (some (K.1 + 1))) (K.1 + 6) 16 5) 1301 K.1 0 (some (K.1 + 6 + 1))), m) none) : am_call d 26 [.inr (some K.1)] (K, sc, (γ, π), m) Q := by
  obtain ⟨d, rfl⟩ : ∃ d', d = d' + 1 := ⟨d - 1, by omega⟩
  refine r_enter (by decide) (Nat.le_of_ble_eq_true rfl) (ls := [some (.inr (some K.1))]) rfl ?_
  refine r_aload at_26_0 rfl <| r_oinit at_26_1 (Nat.le_of_ble_eq_true rfl) <| r_aload at_26_4 rfl <| r_push at_26_5 <| r_push at_26_6 <| c_multi (K.1) at_26_7 rfl rfl (by decide) (by decide) rfl (by omega) (by show K.2.1 + 30 ≤ am_limS; omega) <| c_putP 1300 at_26_11 rfl (by decide) ((am_lq.mK (k' := 14) (k2 := 15) hl 5).lv) <| r_aload at_26_14 rfl <| r_push at_26_15 <| r_push at_26_16 <| c_multi (K.1 + 6) at_26_17 rfl rfl (by decide) (by decide) rfl (by omega) (by show K.2.1 + 30 + 30 ≤ am_limS; omega) <| c_putP 1301 at_26_21 rfl (by decide) ((am_lq.mK (k' := 16) (k2 := 17) (am_lq.mK (k' := 14) (k2 := 15) hl 5) 5).lv) <| ?_
  refine r_ret at_26_24 ?_
  exact hq

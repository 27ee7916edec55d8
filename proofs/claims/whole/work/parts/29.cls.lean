theorem c_leinitA {d : Nat} {Q : am_Q} {K : am_K} {sc : am_Sc} {γ : am_I} {π : am_P} {m : am_M} {a : Nat} (ha : K.1 = a) (hd : 2 ≤ d) (hl : am_lq K a 7) (hC : a + 1 ≤ am_limC) (hS : K.2.1 + 5 ≤ am_limS) (hq : Q (am_kw K 8 5, sc, (fc_on0 (am_zg γ (a + 1)) (a + 1), am_u (am_zp π (a + 1)) 708 a 0 (some (a + 1))), m) none) : am_call d 7 [.inr (some a)] (K, sc, (γ, π), m) Q := by
  subst ha
  exact c_leinit hd hl hC hS hq
def fc_rK (K : am_K) : am_K := am_kw (am_kw K 7 9) 8 5
def fc_ri_n (b n : Nat) (z : am_K × am_I × am_P) : am_K × am_I × am_P := (fc_rK z.1, fc_on0 (am_zg (am_zg z.2.1 (b + 2 * n + 1)) (b + 2 * n + 1 + 1)) (b + 2 * n + 1 + 1), am_u (am_u (am_zp (am_zp z.2.2 (b + 2 * n + 1)) (b + 2 * n + 1 + 1)) 708 (b + 2 * n + 1) 0 (some (b + 2 * n + 1 + 1))) 600 b n (some (b + 2 * n + 1)))
def fc_ri0g (γ : am_I) (a : Nat) (o : Int32) : am_I := am_zg (am_zg (am_zg (am_u (am_u γ 300 a 0 o) 301 a 0 1) (a + 1)) (a + 1 + 1)) (a + 1 + 1 + 1)
def fc_ri0p (π : am_P) (a : Nat) : am_P := am_u (am_zp (am_u (am_zp (am_u (am_zp π (a + 1)) 305 a 0 (some (a + 1))) (a + 1 + 1)) 306 a 0 (some (a + 1 + 1))) (a + 1 + 1 + 1)) 307 a 0 (some (a + 1 + 1 + 1))
def fc_ri0K (K : am_K) : am_K := am_kw (am_kw (am_kw K 4 2) 5 5) 6 5
def fc_ri (K : am_K) (γ : am_I) (π : am_P) (a : Nat) (o : Int32) : am_K × am_I × am_P := am_it (fc_ri_n (a + 1 + 1 + 1)) 5 (fc_ri0K K, fc_ri0g γ a o, fc_ri0p π a)
def fc_riI (a b σ : Nat) (n : Nat) (z : am_K × am_I × am_P) : Prop := z.1.1 = b + 2 * n ∧ z.1.2.1 = σ + 14 * n ∧ am_lq z.1 a 3 ∧ am_lq z.1 b 6 ∧ z.2.2 307 a 0 = some b
theorem fc_riI_s {a b σ n : Nat} (hab : a < b) {z : am_K × am_I × am_P} (h : fc_riI a b σ n z) : fc_riI a b σ (n + 1) (fc_ri_n b n z) := by
  obtain ⟨h1, h2, h3, h4, h5⟩ := h
  refine ⟨?_, ?_, h3.nw.nw, h4.nw.nw, ?_⟩
  · show z.1.1 + 1 + 1 = b + 2 * (n + 1)
    omega
  · show z.1.2.1 + 9 + 5 = σ + 14 * (n + 1)
    omega
  · unfold fc_ri_n
    dsimp only
    rw [am_u_ne (by decide), am_u_ne (by decide), am_zp_ne (by omega), am_zp_ne (by omega)]
    exact h5
theorem c_rinit {d : Nat} {Q : am_Q} {K : am_K} {sc : am_Sc} {γ : am_I} {π : am_P} {m : am_M} {o : Int32} (hd : 3 ≤ d) (hl : am_lq K K.1 3) (hC : K.1 + 13 ≤ am_limC) (hS : K.2.1 + 82 ≤ am_limS) (hq : Q ((fc_ri K γ π K.1 o).1, sc, ((fc_ri K γ π K.1 o).2.1, (fc_ri K γ π K.1 o).2.2), m) none) : am_call d 14 [.inr (some K.1), .inl o] (K, sc, (γ, π), m) Q := by
  obtain ⟨d, rfl⟩ : ∃ d', d = d' + 1 := ⟨d - 1, by omega⟩
  refine r_enter (by decide) (Nat.le_of_ble_eq_true rfl) (ls := [some (.inr (some K.1)), some (.inl o), none]) rfl ?_
  refine r_aload at_14_0 rfl <| r_oinit at_14_1 (Nat.le_of_ble_eq_true rfl) <| r_aload at_14_4 rfl <| r_iload at_14_5 rfl <| c_putI 300 at_14_6 rfl (by decide) (hl.lv) <| r_aload at_14_9 rfl <| r_push at_14_10 <| c_putZ 301 at_14_11 rfl (by decide) (hl.lv) (Or.inr rfl) <| r_aload at_14_14 rfl <| r_push at_14_15 <| c_newa (K.1 + 1) at_14_16 rfl (by decide) rfl (by omega) (by show K.2.1 + 2 ≤ am_limS; omega) <| c_putP 305 at_14_19 rfl (by decide) ((am_lq.nw (k' := 4) (n := 2) hl).lv) <| r_aload at_14_22 rfl <| r_push at_14_23 <| c_newa (K.1 + 1 + 1) at_14_24 rfl (by decide) rfl (by omega) (by show K.2.1 + 2 + 5 ≤ am_limS; omega) <| c_putP 306 at_14_27 rfl (by decide) ((am_lq.nw (k' := 5) (n := 5) (am_lq.nw (k' := 4) (n := 2) hl)).lv) <| r_aload at_14_30 rfl <| r_push at_14_31 <| c_newa (K.1 + 1 + 1 + 1) at_14_32 rfl (by decide) rfl (by omega) (by show K.2.1 + 2 + 5 + 5 ≤ am_limS; omega) <| c_putP 307 at_14_35 rfl (by decide) ((am_lq.nw (k' := 6) (n := 5) (am_lq.nw (k' := 5) (n := 5) (am_lq.nw (k' := 4) (n := 2) hl))).lv) <| r_push at_14_38 <| r_istoreL (ls' := [_, _, _]) at_14_39 rfl <| ?_
  refine am_forI 5 (fun n z => am_w d 14 Q 40 [some (.inr (some K.1)), some (.inl o), some (.inl (nI n))] [] (z.1, sc, (z.2.1, z.2.2), m)) (fc_ri_n (K.1 + 1 + 1 + 1)) (fc_riI K.1 (K.1 + 1 + 1 + 1) (K.2.1 + 12)) (fun n hn z h => fc_riI_s (by omega) h) (fun n hn z hI hk => ?_) (fc_ri0K K, fc_ri0g γ K.1 o, fc_ri0p π K.1) ⟨rfl, rfl, hl.nw.nw.nw, am_lq.self, am_u_at⟩ ?_
  · obtain ⟨K', γ', π'⟩ := z
    obtain ⟨hK1, hK2, hla, hlb, hp7⟩ := hI
    dsimp only at hk hK1 hK2 hla hlb hp7 ⊢
    refine r_iload at_14_40 rfl <| r_push at_14_41 <| r_cmgeNT n 5 at_14_42 rfl rfl (by omega) (by omega) (by omega) <| r_aload at_14_45 rfl <| c_getP 307 at_14_46 rfl (by decide) (hla.lv) hp7 <| r_iload at_14_49 rfl <| c_new (K'.1 + 1) at_14_50 (by decide) rfl (by omega) (by show K'.2.1 + 9 ≤ am_limS; omega) <| r_dup at_14_53 <| r_callV0v at_14_54 (am_lq.self.lv) (Nat.le_of_ble_eq_true rfl) (fun _ hq => c_leinitA (a := K'.1 + 1) rfl (by omega) am_lq.self (by omega) (by show K'.2.1 + 9 + 5 ≤ am_limS; omega) hq) <| c_aast 600 n at_14_57 rfl (by decide) ((am_lq.nw (k' := 8) (n := 5) (am_lq.nw (k' := 7) (n := 9) hlb)).lv) rfl (by omega) (by decide) (fun _ q => by cases q; exact (am_lq.nw (k' := 8) (n := 5) (am_lq.self (K := K') (k := 7) (n := 9))).lv) <| r_iincNL (ls' := [_, _, _]) n at_14_58 rfl rfl <| r_goto at_14_61 <| ?_
    have e : fc_ri_n (K.1 + 1 + 1 + 1) n (K', γ', π') = (am_kw (am_kw K' 7 9) 8 5, fc_on0 (am_zg (am_zg γ' (K'.1 + 1)) (K'.1 + 1 + 1)) (K'.1 + 1 + 1), am_u (am_u (am_zp (am_zp π' (K'.1 + 1)) (K'.1 + 1 + 1)) 708 (K'.1 + 1) 0 (some (K'.1 + 1 + 1))) 600 (K.1 + 1 + 1 + 1) n (some (K'.1 + 1))) := by simp only [fc_ri_n, fc_rK, ← hK1]
    rw [e] at hk
    exact hk
  · generalize hz : am_it (fc_ri_n (K.1 + 1 + 1 + 1)) 5 (fc_ri0K K, fc_ri0g γ K.1 o, fc_ri0p π K.1) = y
    rw [show fc_ri K γ π K.1 o = y from hz] at hq
    refine r_iload at_14_40 rfl <| r_push at_14_41 <| r_cmgeNF 5 5 at_14_42 rfl rfl (by omega) (by omega) (by omega) <| ?_
    refine r_ret at_14_64 ?_
    exact hq
theorem c_rinitA {d : Nat} {Q : am_Q} {K : am_K} {sc : am_Sc} {γ : am_I} {π : am_P} {m : am_M} {a : Nat} {o : Int32} (ha : K.1 = a) (hd : 3 ≤ d) (hl : am_lq K a 3) (hC : a + 13 ≤ am_limC) (hS : K.2.1 + 82 ≤ am_limS) (hq : Q ((fc_ri K γ π a o).1, sc, ((fc_ri K γ π a o).2.1, (fc_ri K γ π a o).2.2), m) none) : am_call d 14 [.inr (some a), .inl o] (K, sc, (γ, π), m) Q := by
  subst ha
  exact c_rinit hd hl hC hS hq
theorem c_uinitA {d : Nat} {Q : am_Q} {K : am_K} {sc : am_Sc} {γ : am_I} {π : am_P} {m : am_M} {a : Nat} (ha : K.1 = a) (hd : 1 ≤ d) (hl : am_lq K a 10) (hC : a + 2 ≤ am_limC) (hS : K.2.1 + 10 ≤ am_limS) (hq : Q (am_kw (am_kw K 11 5) 12 5, sc, (am_zg (am_zg γ (a + 1)) (a + 1 + 1), am_u (am_zp (am_u (am_zp π (a + 1)) 1001 a 0 (some (a + 1))) (a + 1 + 1)) 1002 a 0 (some (a + 1 + 1))), m) none) : am_call d 23 [.inr (some a)] (K, sc, (γ, π), m) Q := by
  subst ha
  exact c_uinit hd hl hC hS hq
theorem c_roinitA {d : Nat} {Q : am_Q} {K : am_K} {sc : am_Sc} {γ : am_I} {π : am_P} {m : am_M} {a : Nat} (ha : K.1 = a) (hd : 1 ≤ d) (hl : am_lq K a 13) (hC : a + 12 ≤ am_limC) (hS : K.2.1 + 60 ≤ am_limS) (hq : Q (am_mK (am_mK K 14 15 5) 16 17 5, sc, (am_mg (am_mg γ a 5) (a + 6) 5, am_u (am_mp (am_u (am_mp π a 14 5) 1300 a 0 (some (a + 1))) (a + 6) 16 5) 1301 a 0 (some (a + 6 + 1))), m) none) : am_call d 26 [.inr (some a)] (K, sc, (γ, π), m) Q := by
  subst ha
  exact c_roinit hd hl hC hS hq
def fc_ni_c (c r : Nat) (b : Nat) (y : am_K × am_I × am_P) : am_K × am_I × am_P := (y.1, y.2.1, am_u y.2.2 200 b r (some c))
def fc_ni_r (b r : Nat) (z : am_K × am_I × am_P) : am_K × am_I × am_P := fc_ni_c (b + 14 * r + 1) r b (fc_ri (am_kw z.1 3 8) (am_zg z.2.1 (b + 14 * r + 1)) (am_zp z.2.2 (b + 14 * r + 1)) (b + 14 * r + 1) (nI r))
def fc_nu_i (b i : Nat) (z : am_K × am_I × am_P) : am_K × am_I × am_P := (am_kw (am_kw (am_kw z.1 10 3) 11 5) 12 5, am_zg (am_zg (am_zg z.2.1 (b + 3 * i + 1)) (b + 3 * i + 1 + 1)) (b + 3 * i + 1 + 1 + 1), am_u (am_u (am_zp (am_u (am_zp (am_zp z.2.2 (b + 3 * i + 1)) (b + 3 * i + 1 + 1)) 1001 (b + 3 * i + 1) 0 (some (b + 3 * i + 1 + 1))) (b + 3 * i + 1 + 1 + 1)) 1002 (b + 3 * i + 1) 0 (some (b + 3 * i + 1 + 1 + 1))) 900 b i (some (b + 3 * i + 1)))
theorem fc_ri_1 {K : am_K} {γ : am_I} {π : am_P} {a : Nat} {o : Int32} (ha : K.1 = a) : (fc_ri K γ π a o).1.1 = a + 13 ∧ (fc_ri K γ π a o).1.2.1 = K.2.1 + 82 := by
  subst ha
  exact ⟨rfl, rfl⟩
theorem fc_ri_lq {K : am_K} {γ : am_I} {π : am_P} {a c k : Nat} {o : Int32} (h : am_lq K c k) : am_lq (fc_ri K γ π a o).1 c k := am_it_keep (P := fun z : am_K × am_I × am_P => am_lq z.1 c k) (fun n _ z hz => hz.nw.nw) h.nw.nw.nw
theorem fc_ri_p {K : am_K} {γ : am_I} {π : am_P} {a c F : Nat} {o : Int32} (hc : c < a) (hF : F = 100 ∨ F = 101) : (fc_ri K γ π a o).2.2 F c 0 = π F c 0 := by
  refine am_it_keep (P := fun z : am_K × am_I × am_P => z.2.2 F c 0 = π F c 0) (fun n _ z hz => ?_) ?_
  · unfold fc_ri_n
    dsimp only
    rw [am_u_ne (by omega), am_u_ne (by omega), am_zp_ne (by omega), am_zp_ne (by omega)]
    exact hz
  · unfold fc_ri0p
    dsimp only
    rw [am_u_ne (by omega), am_zp_ne (by omega), am_u_ne (by omega), am_zp_ne (by omega), am_u_ne (by omega), am_zp_ne (by omega)]
def fc_niI (a b σ r : Nat) (z : am_K × am_I × am_P) : Prop := z.1.1 = b + 14 * r ∧ z.1.2.1 = σ + 90 * r ∧ am_lq z.1 a 1 ∧ am_lq z.1 b 2 ∧ z.2.2 100 a 0 = some b
theorem fc_niI_s {a b σ r : Nat} (hab : a < b) {z : am_K × am_I × am_P} (h : fc_niI a b σ r z) : fc_niI a b σ (r + 1) (fc_ni_r b r z) := by
  obtain ⟨h1, h2, h3, h4, h5⟩ := h
  have e := fc_ri_1 (K := am_kw z.1 3 8) (γ := am_zg z.2.1 (b + 14 * r + 1)) (π := am_zp z.2.2 (b + 14 * r + 1)) (a := b + 14 * r + 1) (o := nI r) (by show z.1.1 + 1 = _; omega)
  refine ⟨?_, ?_, fc_ri_lq h3.nw, fc_ri_lq h4.nw, ?_⟩
  · show (fc_ri _ _ _ _ _).1.1 = _
    rw [e.1]
    omega
  · show (fc_ri _ _ _ _ _).1.2.1 = _
    rw [e.2]
    show z.1.2.1 + 8 + 82 = _
    omega
  · unfold fc_ni_r fc_ni_c
    dsimp only
    rw [am_u_ne (by decide), fc_ri_p (by omega) (Or.inl rfl), am_zp_ne (by omega)]
    exact h5
def fc_nuI (a b σ i : Nat) (z : am_K × am_I × am_P) : Prop := z.1.1 = b + 3 * i ∧ z.1.2.1 = σ + 13 * i ∧ am_lq z.1 a 1 ∧ am_lq z.1 b 9 ∧ z.2.2 101 a 0 = some b
theorem fc_nuI_s {a b σ i : Nat} (hab : a < b) {z : am_K × am_I × am_P} (h : fc_nuI a b σ i z) : fc_nuI a b σ (i + 1) (fc_nu_i b i z) := by
  obtain ⟨h1, h2, h3, h4, h5⟩ := h
  refine ⟨?_, ?_, h3.nw.nw.nw, h4.nw.nw.nw, ?_⟩
  · show z.1.1 + 1 + 1 + 1 = _
    omega
  · show z.1.2.1 + 3 + 5 + 5 = _
    omega
  · unfold fc_nu_i
    dsimp only
    rw [am_u_ne (by decide), am_u_ne (by decide), am_zp_ne (by omega), am_u_ne (by decide), am_zp_ne (by omega), am_zp_ne (by omega)]
    exact h5

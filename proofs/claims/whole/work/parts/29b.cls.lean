theorem am_lq.selfA {K : am_K} {k n a : Nat} (h : K.1 + 1 = a) : am_lq (am_kw K k n) a k := by
  subst h
  exact am_lq.self
def fc_n0 (K : am_K) (γ : am_I) (π : am_P) (a : Nat) : am_K × am_I × am_P := (am_kw K 2 5, am_zg γ (a + 1), am_u (am_zp π (a + 1)) 100 a 0 (some (a + 1)))
def fc_n1 (K : am_K) (γ : am_I) (π : am_P) (a : Nat) : am_K × am_I × am_P := am_it (fc_ni_r (a + 1)) 5 (fc_n0 K γ π a)
def fc_n2 (a c : Nat) (z : am_K × am_I × am_P) : am_K × am_I × am_P := (am_kw z.1 9 25, am_zg z.2.1 (c + 1), am_u (am_zp z.2.2 (c + 1)) 101 a 0 (some (c + 1)))
def fc_n3 (a c : Nat) (z : am_K × am_I × am_P) : am_K × am_I × am_P := am_it (fc_nu_i (c + 1)) 25 (fc_n2 a c z)
def fc_n4K (K : am_K) : am_K := am_kw (am_mK (am_mK (am_kw K 13 2) 14 15 5) 16 17 5) 18 7
def fc_n4g (γ : am_I) (a e : Nat) : am_I := am_u (am_zg (am_mg (am_mg (am_zg γ e) e 5) (e + 6) 5) (e + 12 + 1)) 104 a 0 0
def fc_n4p (π : am_P) (a e : Nat) : am_P := am_u (am_zp (am_u (am_u (am_mp (am_u (am_mp (am_zp π e) e 14 5) 1300 e 0 (some (e + 1))) (e + 6) 16 5) 1301 e 0 (some (e + 6 + 1))) 102 a 0 (some e)) (e + 12 + 1)) 103 a 0 (some (e + 12 + 1))
def fc_n4 (a e : Nat) (z : am_K × am_I × am_P) : am_K × am_I × am_P := (fc_n4K z.1, fc_n4g z.2.1 a e, fc_n4p z.2.2 a e)
def fc_net (K : am_K) (γ : am_I) (π : am_P) (a : Nat) : am_K × am_I × am_P := fc_n4 a (a + 1 + 14 * 5 + 1 + 3 * 25 + 1) (fc_n3 a (a + 1 + 14 * 5) (fc_n1 K γ π a))
theorem fc_n1I (K : am_K) (γ : am_I) (π : am_P) (hl : am_lq K K.1 1) : fc_niI K.1 (K.1 + 1) (K.2.1 + 5) 5 (fc_n1 K γ π K.1) := by
  have g : ∀ i, i ≤ 5 → fc_niI K.1 (K.1 + 1) (K.2.1 + 5) i (am_it (fc_ni_r (K.1 + 1)) i (fc_n0 K γ π K.1)) := by
    intro i
    induction i with
    | zero =>
      intro _
      exact ⟨rfl, rfl, hl.nw, am_lq.self, am_u_at⟩
    | succ i ih =>
      intro hi
      exact fc_niI_s (by omega) (ih (by omega))
  exact g 5 (Nat.le_refl 5)
theorem fc_n3I {a c σ : Nat} {z : am_K × am_I × am_P} (hac : a ≤ c) (h1 : z.1.1 = c) (h2 : z.1.2.1 = σ) (h3 : am_lq z.1 a 1) : fc_nuI a (c + 1) (σ + 25) 25 (fc_n3 a c z) := by
  have g : ∀ i, i ≤ 25 → fc_nuI a (c + 1) (σ + 25) i (am_it (fc_nu_i (c + 1)) i (fc_n2 a c z)) := by
    intro i
    induction i with
    | zero =>
      intro _
      exact ⟨by show z.1.1 + 1 = _; omega, by show z.1.2.1 + 25 = _; omega, h3.nw, am_lq.selfA (by omega), am_u_at⟩
    | succ i ih =>
      intro hi
      exact fc_nuI_s (by omega) (ih (by omega))
  exact g 25 (Nat.le_refl 25)
theorem c_ninit {d : Nat} {Q : am_Q} {K : am_K} {sc : am_Sc} {γ : am_I} {π : am_P} {m : am_M}  (hd : 4 ≤ d) (hl : am_lq K K.1 1) (hC : K.1 + 200 ≤ am_limC) (hS : K.2.1 + 2000 ≤ am_limS) (hq : Q ((fc_net K γ π K.1).1, sc, ((fc_net K γ π K.1).2.1, (fc_net K γ π K.1).2.2), m) none) : am_call d 32 [.inr (some K.1)] (K, sc, (γ, π), m) Q := by
  obtain ⟨d, rfl⟩ : ∃ d', d = d' + 1 := ⟨d - 1, by omega⟩
  refine r_enter (by decide) (Nat.le_of_ble_eq_true rfl) (ls := [some (.inr (some K.1)), none]) rfl ?_
  refine r_aload at_32_0 rfl <| r_oinit at_32_1 (Nat.le_of_ble_eq_true rfl) <| r_aload at_32_4 rfl <| r_push at_32_5 <| c_newa (K.1 + 1) at_32_6 rfl (by decide) rfl (by omega) (by show K.2.1 + 5 ≤ am_limS; omega) <| c_putP 100 at_32_9 rfl (by decide) ((am_lq.nw (k' := 2) (n := 5) hl).lv) <| r_push at_32_12 <| r_istoreL (ls' := [_, _]) at_32_13 rfl <| ?_
  refine am_forI 5 (fun i z => am_w d 32 Q 14 [some (.inr (some K.1)), some (.inl (nI i))] [] (z.1, sc, (z.2.1, z.2.2), m)) (fc_ni_r (K.1 + 1)) (fc_niI K.1 (K.1 + 1) (K.2.1 + 5)) (fun i hi z h => fc_niI_s (by omega) h) (fun i hi z hI hk => ?_) (fc_n0 K γ π K.1) ⟨rfl, rfl, hl.nw, am_lq.self, am_u_at⟩ ?_
  · obtain ⟨K', γ', π'⟩ := z
    obtain ⟨hK1, hK2, hla, hlb, hp7⟩ := hI
    dsimp only at hk hK1 hK2 hla hlb hp7 ⊢
    refine r_iload at_32_14 rfl <| r_push at_32_15 <| r_cmgeNT i 5 at_32_16 rfl rfl (by omega) (by omega) (by omega) <| r_aload at_32_19 rfl <| c_getP 100 at_32_20 rfl (by decide) (hla.lv) hp7 <| r_iload at_32_23 rfl <| c_new (K'.1 + 1) at_32_24 (by decide) rfl (by omega) (by show K'.2.1 + 8 ≤ am_limS; omega) <| r_dup at_32_27 <| r_iload at_32_28 rfl <| r_callV1v at_32_29 (am_lq.self.lv) (Nat.le_of_ble_eq_true rfl) (fun _ hq => c_rinitA (a := K'.1 + 1) rfl (by omega) am_lq.self (by omega) (by show K'.2.1 + 8 + 82 ≤ am_limS; omega) hq) <| c_aast 200 i at_32_32 rfl (by decide) ((fc_ri_lq (am_lq.nw (k' := 3) (n := 8) hlb)).lv) rfl (by omega) (by decide) (fun _ q => by cases q; exact (fc_ri_lq (am_lq.self (K := K') (k := 3) (n := 8))).lv) <| r_iincNL (ls' := [_, _]) i at_32_33 rfl rfl <| r_goto at_32_36 <| ?_
    have e : fc_ni_r (K.1 + 1) i (K', γ', π') = ((fc_ri (am_kw K' 3 8) (am_zg γ' (K'.1 + 1)) (am_zp π' (K'.1 + 1)) (K'.1 + 1) (nI i)).1, (fc_ri (am_kw K' 3 8) (am_zg γ' (K'.1 + 1)) (am_zp π' (K'.1 + 1)) (K'.1 + 1) (nI i)).2.1, am_u ((fc_ri (am_kw K' 3 8) (am_zg γ' (K'.1 + 1)) (am_zp π' (K'.1 + 1)) (K'.1 + 1) (nI i)).2.2) 200 (K.1 + 1) i (some (K'.1 + 1))) := by simp only [fc_ni_r, fc_ni_c, fc_nu_i, ← hK1]
    rw [e] at hk
    exact hk
  · have hY := fc_n1I K γ π hl
    change am_w d 32 Q 14 _ [] ((fc_n1 K γ π K.1).1, sc, ((fc_n1 K γ π K.1).2.1, (fc_n1 K γ π K.1).2.2), m)
    unfold fc_net at hq
    generalize fc_n1 K γ π K.1 = y14 at hY hq ⊢
    obtain ⟨hy1, hy2, hy3, hy4, hy5⟩ := hY
    refine r_iload at_32_14 rfl <| r_push at_32_15 <| r_cmgeNF 5 5 at_32_16 rfl rfl (by omega) (by omega) (by omega) <| r_aload at_32_39 rfl <| r_push at_32_40 <| c_newa (K.1 + 1 + 14 * 5 + 1) at_32_42 rfl (by decide) (by show y14.1.1 + 1 = K.1 + 1 + 14 * 5 + 1; omega) (by omega) (by show y14.1.2.1 + 25 ≤ am_limS; omega) <| c_putP 101 at_32_45 rfl (by decide) ((am_lq.nw (k' := 9) (n := 25) hy3).lv) <| r_push at_32_48 <| r_istoreL (ls' := [_, _]) at_32_49 rfl <| ?_
    refine am_forI 25 (fun i z => am_w d 32 Q 50 [some (.inr (some K.1)), some (.inl (nI i))] [] (z.1, sc, (z.2.1, z.2.2), m)) (fc_nu_i (K.1 + 1 + 14 * 5 + 1)) (fc_nuI K.1 (K.1 + 1 + 14 * 5 + 1) (K.2.1 + 5 + 90 * 5 + 25)) (fun i hi z h => fc_nuI_s (by omega) h) (fun i hi z hI hk => ?_) (fc_n2 K.1 (K.1 + 1 + 14 * 5) y14) ⟨by show y14.1.1 + 1 = _; omega, by show y14.1.2.1 + 25 = _; omega, hy3.nw, am_lq.selfA (by omega), am_u_at⟩ ?_
    · obtain ⟨K', γ', π'⟩ := z
      obtain ⟨hK1, hK2, hla, hlb, hp7⟩ := hI
      dsimp only at hk hK1 hK2 hla hlb hp7 ⊢
      refine r_iload at_32_50 rfl <| r_push at_32_51 <| r_cmgeNT i 25 at_32_53 rfl rfl (by omega) (by omega) (by omega) <| r_aload at_32_56 rfl <| c_getP 101 at_32_57 rfl (by decide) (hla.lv) hp7 <| r_iload at_32_60 rfl <| c_new (K'.1 + 1) at_32_61 (by decide) rfl (by omega) (by show K'.2.1 + 3 ≤ am_limS; omega) <| r_dup at_32_64 <| r_callV0v at_32_65 (am_lq.self.lv) (Nat.le_of_ble_eq_true rfl) (fun _ hq => c_uinitA (a := K'.1 + 1) rfl (by omega) am_lq.self (by omega) (by show K'.2.1 + 3 + 10 ≤ am_limS; omega) hq) <| c_aast 900 i at_32_68 rfl (by decide) ((am_lq.nw (k' := 12) (n := 5) (am_lq.nw (k' := 11) (n := 5) (am_lq.nw (k' := 10) (n := 3) hlb))).lv) rfl (by omega) (by decide) (fun _ q => by cases q; exact (am_lq.nw (k' := 12) (n := 5) (am_lq.nw (k' := 11) (n := 5) (am_lq.self (K := K') (k := 10) (n := 3)))).lv) <| r_iincNL (ls' := [_, _]) i at_32_69 rfl rfl <| r_goto at_32_72 <| ?_
      have e : fc_nu_i (K.1 + 1 + 14 * 5 + 1) i (K', γ', π') = (am_kw (am_kw (am_kw K' 10 3) 11 5) 12 5, am_zg (am_zg (am_zg γ' (K'.1 + 1)) (K'.1 + 1 + 1)) (K'.1 + 1 + 1 + 1), am_u (am_u (am_zp (am_u (am_zp (am_zp π' (K'.1 + 1)) (K'.1 + 1 + 1)) 1001 (K'.1 + 1) 0 (some (K'.1 + 1 + 1))) (K'.1 + 1 + 1 + 1)) 1002 (K'.1 + 1) 0 (some (K'.1 + 1 + 1 + 1))) 900 (K.1 + 1 + 14 * 5 + 1) i (some (K'.1 + 1))) := by simp only [fc_ni_r, fc_ni_c, fc_nu_i, ← hK1]
      rw [e] at hk
      exact hk
    · have hY := fc_n3I (a := K.1) (c := K.1 + 1 + 14 * 5) (σ := K.2.1 + 5 + 90 * 5) (z := y14) (by omega) hy1 hy2 hy3
      change am_w d 32 Q 50 _ [] ((fc_n3 K.1 (K.1 + 1 + 14 * 5) y14).1, sc, ((fc_n3 K.1 (K.1 + 1 + 14 * 5) y14).2.1, (fc_n3 K.1 (K.1 + 1 + 14 * 5) y14).2.2), m)
      generalize fc_n3 K.1 (K.1 + 1 + 14 * 5) y14 = y50 at hY hq ⊢
      obtain ⟨hz1, hz2, hz3, hz4, hz5⟩ := hY
      refine r_iload at_32_50 rfl <| r_push at_32_51 <| r_cmgeNF 25 25 at_32_53 rfl rfl (by omega) (by omega) (by omega) <| r_aload at_32_75 rfl <| c_new (K.1 + 1 + 14 * 5 + 1 + 3 * 25 + 1) at_32_76 (by decide) (by show y50.1.1 + 1 = K.1 + 1 + 14 * 5 + 1 + 3 * 25 + 1; omega) (by omega) (by show y50.1.2.1 + 2 ≤ am_limS; omega) <| r_dup at_32_79 <| r_callV0v at_32_80 ((am_lq.selfA (K := y50.1) (k := 13) (n := 2) (by show y50.1.1 + 1 = K.1 + 1 + 14 * 5 + 1 + 3 * 25 + 1; omega)).lv) (Nat.le_of_ble_eq_true rfl) (fun _ hq => c_roinitA (a := K.1 + 1 + 14 * 5 + 1 + 3 * 25 + 1) (by show y50.1.1 + 1 = K.1 + 1 + 14 * 5 + 1 + 3 * 25 + 1; omega) (by omega) (am_lq.selfA (K := y50.1) (k := 13) (n := 2) (by show y50.1.1 + 1 = K.1 + 1 + 14 * 5 + 1 + 3 * 25 + 1; omega)) (by omega) (by show y50.1.2.1 + 2 + 60 ≤ am_limS; omega) hq) <| c_putP 102 at_32_83 rfl (by decide) ((am_lq.mK (k' := 16) (k2 := 17) (am_lq.mK (k' := 14) (k2 := 15) (am_lq.nw (k' := 13) (n := 2) hz3) 5) 5).lv) <| r_aload at_32_86 rfl <| r_push at_32_87 <| c_newa (K.1 + 1 + 14 * 5 + 1 + 3 * 25 + 1 + 12 + 1) at_32_89 rfl (by decide) (by show y50.1.1 + 1 + 12 + 1 = K.1 + 1 + 14 * 5 + 1 + 3 * 25 + 1 + 12 + 1; omega) (by omega) (by show y50.1.2.1 + 2 + 60 + 7 ≤ am_limS; omega) <| c_putP 103 at_32_91 rfl (by decide) ((am_lq.nw (k' := 18) (n := 7) (am_lq.mK (k' := 16) (k2 := 17) (am_lq.mK (k' := 14) (k2 := 15) (am_lq.nw (k' := 13) (n := 2) hz3) 5) 5)).lv) <| r_aload at_32_94 rfl <| r_push at_32_95 <| c_putI 104 at_32_96 rfl (by decide) ((am_lq.nw (k' := 18) (n := 7) (am_lq.mK (k' := 16) (k2 := 17) (am_lq.mK (k' := 14) (k2 := 15) (am_lq.nw (k' := 13) (n := 2) hz3) 5) 5)).lv) <| ?_
      refine r_ret at_32_99 ?_
      exact hq

theorem q_new {d j pc nx : Nat} {Q : am_Q} {ls : am_L} {st : List am_V} {K : am_K} {sc : am_Sc} {c : am_M} {μ : am_I} {p : am_P} {k n : Nat} (a : Nat) (h : am_code j pc = some (ai_new k n nx)) (hk : ¬ k < 50) (ha : K.1 + 1 = a) (h1 : a ≤ am_limC) (h2 : K.2.1 + n ≤ am_limS) (w : am_w d j Q nx ls (.inr (some a) :: st) (am_kw K k n, sc, c, (am_zg μ a, am_zp p a))) : am_w d j Q pc ls st (K, sc, c, (μ, p)) := by
  subst ha
  exact r_new h h1 h2 (by rw [am_nw_q hk]; exact w)
theorem q_minitA {d : Nat} {Q : am_Q} {K : am_K} {sc : am_Sc} {c : am_M} {μ : am_I} {p : am_P} {a : Nat} (ha : K.1 = a) (hd : 1 ≤ d) (hl : am_lq K a 50) (hC : a + 24 ≤ am_limC) (hS : K.2.1 + 7200 ≤ am_limS) (hq : Q (fr_mK K 24, sc, c, (fr_mg μ a 24, fr_mp p a 24)) none) : am_call d 66 [.inr (some a)] (K, sc, c, (μ, p)) Q := by
  subst ha
  exact q_minit hd hl hC hS hq
theorem am_lawB {RR : am_RT} (hS : am_Sim RR) {L : Nat} {xs : Nat → Int32} (hL : L ≤ 3072) {K : am_K} {γ : am_I} {π : am_P} (hK : K.1 = 162) (hK2 : K.2.1 ≤ 2000) (hR : RR 0 (fr_mK (am_kw K 50 25) 24) γ π am_u3) : am_w 7 101 am_Ql 8 [some (.inr (some 0)), some (.inr (some 1)), none, none] [] (K, (L, xs), (γ, π), (fun _ _ _ => 0, fun _ _ _ => none)) := by
  have hlC : am_limC = 700000 := rfl
  have hlS : am_limS = 6000000 := rfl
  have hl : am_lq (am_kw K 50 25) 163 50 := am_lq.selfA (by omega)
  refine q_new 163 at_101_8 (by decide) (by omega) (by omega) (by omega) <| r_dup at_101_11 <| r_callV0v at_101_12 hl.lv (Nat.le_of_ble_eq_true rfl) (fun _ hq => q_minitA (a := 163) (by show K.1 + 1 = 163; omega) (by decide) hl (by omega) (by show K.2.1 + 25 + 7200 ≤ am_limS; omega) hq) <| r_astoreL (ls' := [_, _, _, _]) at_101_15 rfl <| r_push at_101_16 <| r_istoreL (ls' := [_, _, _, _]) at_101_17 rfl <| ?_
  exact am_loop hS hL 512 0 (by omega) (by omega) (fr_mK (am_kw K 50 25) 24) γ π am_u3 hR
theorem am_law_of {RR : am_RT} (hS : am_Sim RR) : am_Law := by
  intro L xs hL
  have hl : am_lq am_k0 1 1 := am_lq.selfA rfl
  have g : am_w 7 101 am_Ql 8 [some (.inr (some 0)), some (.inr (some 1)), none, none] [] (am_z1.1, (L, xs), (am_z1.2.1, am_z1.2.2), (fun _ _ _ => 0, fun _ _ _ => none)) := am_lawB hS hL in_k1.1 in_k1.2 hS.1
  have g4 : am_w 7 101 am_Ql 4 [some (.inr (some 0)), none, none, none] [.inr (some 1), .inr (some 1)] (am_k0, (L, xs), (am_gz, am_pz), (fun _ _ _ => 0, fun _ _ _ => none)) := r_callV0v at_101_4 hl.lv (Nat.le_of_ble_eq_true rfl) (fun Q' hq => c_ninit (K := am_k0) (γ := am_gz) (π := am_pz) (by decide) hl (by decide) (by decide) hq) (r_astoreL (ls' := [some (.inr (some 0)), some (.inr (some 1)), none, none]) at_101_7 rfl g)
  exact c_new 1 at_101_0 (by decide) rfl (by decide) (by decide) (r_dup at_101_3 g4)

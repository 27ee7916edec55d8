def fr_ln (i : Nat) : Nat := [5, 25, 25, 25, 25, 25, 25, 25, 25, 7, 60, 60, 300, 120, 120, 120, 5, 5, 125, 125, 125, 25, 5, 25].getD i 0
def fr_mK (K : am_K) : Nat → am_K
  | 0 => K
  | i + 1 => am_kw (fr_mK K i) (51 + i) (fr_ln i)
def fr_mg (μ : am_I) (a : Nat) : Nat → am_I
  | 0 => μ
  | i + 1 => am_zg (fr_mg μ a i) (a + 1 + i)
def fr_mp (p : am_P) (a : Nat) : Nat → am_P
  | 0 => p
  | i + 1 => am_u (am_zp (fr_mp p a i) (a + 1 + i)) (5001 + i) a 0 (some (a + 1 + i))
theorem fr_mK_1 (K : am_K) : ∀ i, (fr_mK K i).1 = K.1 + i
  | 0 => rfl
  | i + 1 => by
    show (fr_mK K i).1 + 1 = _
    rw [fr_mK_1 K i]
    omega
theorem fr_mK_2 (K : am_K) : ∀ i, (fr_mK K i).2.1 + fr_ln i ≤ K.2.1 + 300 * (i + 1) ∧ (fr_mK K i).2.1 ≤ K.2.1 + 300 * i := by
  have hl : ∀ i, fr_ln i ≤ 300 := by
    intro i
    rcases Nat.lt_or_ge i 24 with h | h
    · have h2 : ∀ i, i < 24 → fr_ln i ≤ 300 := by decide
      exact h2 i h
    · unfold fr_ln
      rw [List.getD_eq_getElem?_getD, List.getElem?_eq_none (by simpa using h)]
      exact Nat.zero_le _
  intro i
  induction i with
  | zero => exact ⟨by have := hl 0; show K.2.1 + fr_ln 0 ≤ _; omega, Nat.le_refl _⟩
  | succ i ih =>
    have h1 := hl (i + 1)
    have h2 := ih.1
    show (fr_mK K i).2.1 + fr_ln i + fr_ln (i + 1) ≤ _ ∧ (fr_mK K i).2.1 + fr_ln i ≤ _
    omega
theorem fr_mK_lq {K : am_K} {a k : Nat} (h : am_lq K a k) : ∀ i, am_lq (fr_mK K i) a k
  | 0 => h
  | i + 1 => (fr_mK_lq h i).nw
section MI
variable {d j pc nx : Nat} {Q : am_Q} {ls : am_L} {st : List am_V} {K : am_K} {sc : am_Sc} {c : am_M} {μ : am_I} {p : am_P}
theorem am_nw_q {k n : Nat} (hk : ¬ k < 50) : am_nw (K, sc, c, (μ, p)) k n = (am_kw K k n, sc, c, (am_zg μ (K.1 + 1), am_zp p (K.1 + 1))) := by
  unfold am_nw
  dsimp only
  rw [if_neg hk, if_neg hk]
  rfl
theorem q_minew {k n : Nat} {x : Int32} (i : Nat) (h : am_code j pc = some (ai_newa k n nx)) (hk : k = 51 + i) (hn : n = fr_ln i) (hx : x = nI n) (h1 : K.1 + 1 + i ≤ am_limC) (h2 : K.2.1 + 300 * (i + 1) ≤ am_limS) (w : am_w d j Q nx ls (.inr (some (K.1 + 1 + i)) :: st) (fr_mK K (i + 1), sc, c, (fr_mg μ K.1 (i + 1), am_zp (fr_mp p K.1 i) (K.1 + 1 + i)))) : am_w d j Q pc ls (.inl x :: st) (fr_mK K i, sc, c, (fr_mg μ K.1 i, fr_mp p K.1 i)) := by
  subst hk
  subst hn
  have e := fr_mK_1 K i
  have e2 := (fr_mK_2 K i).1
  refine r_newa h hx (by show (fr_mK K i).1 + 1 ≤ _; omega) (by show (fr_mK K i).2.1 + fr_ln i ≤ _; omega) ?_
  rw [am_nw_q (by omega)]
  show am_w d j Q nx ls (.inr (some ((fr_mK K i).1 + 1)) :: st) _
  rw [e, show K.1 + i + 1 = K.1 + 1 + i by omega]
  exact w
theorem q_miput {f : Nat} (i : Nat) (h : am_code j pc = some (ai_putP 50 f nx)) (hf : f = i + 1) (hl : am_lq K K.1 50) (w : am_w d j Q nx ls st (fr_mK K (i + 1), sc, c, (fr_mg μ K.1 (i + 1), fr_mp p K.1 (i + 1)))) : am_w d j Q pc ls (.inr (some (K.1 + 1 + i)) :: .inr (some K.1) :: st) (fr_mK K (i + 1), sc, c, (fr_mg μ K.1 (i + 1), am_zp (fr_mp p K.1 i) (K.1 + 1 + i))) := by
  subst hf
  refine r_putP h (fr_mK_lq hl (i + 1)) ?_
  have e : am_sP (fr_mK K (i + 1), sc, c, (fr_mg μ K.1 (i + 1), am_zp (fr_mp p K.1 i) (K.1 + 1 + i))) (100 * 50 + (i + 1)) K.1 0 (some (K.1 + 1 + i)) = (fr_mK K (i + 1), sc, c, (fr_mg μ K.1 (i + 1), fr_mp p K.1 (i + 1))) := by
    unfold am_sP
    rw [if_neg (by omega), show 100 * 50 + (i + 1) = 5001 + i by omega]
    rfl
  rw [e]
  exact w
end MI
theorem q_minit {d : Nat} {Q : am_Q} {K : am_K} {sc : am_Sc} {c : am_M} {μ : am_I} {p : am_P} (hd : 1 ≤ d) (hl : am_lq K K.1 50) (hC : K.1 + 24 ≤ am_limC) (hS : K.2.1 + 7200 ≤ am_limS) (hq : Q (fr_mK K 24, sc, c, (fr_mg μ K.1 24, fr_mp p K.1 24)) none) : am_call d 66 [.inr (some K.1)] (K, sc, c, (μ, p)) Q := by
  obtain ⟨d, rfl⟩ : ∃ d', d = d' + 1 := ⟨d - 1, by omega⟩
  refine r_enter (by decide) (Nat.le_of_ble_eq_true rfl) (ls := [some (.inr (some K.1))]) rfl ?_
  refine r_aload at_66_0 rfl <| r_oinit at_66_1 (Nat.le_of_ble_eq_true rfl) <| ?_
  change am_w d 66 Q _ _ [] (fr_mK K 0, sc, c, (fr_mg μ K.1 0, fr_mp p K.1 0))
  refine r_aload at_66_4 rfl <| r_push at_66_5 <| q_minew 0 at_66_6 rfl rfl rfl (by omega) (by omega) <| q_miput 0 at_66_8 rfl hl <| ?_
  refine r_aload at_66_11 rfl <| r_push at_66_12 <| q_minew 1 at_66_14 rfl rfl rfl (by omega) (by omega) <| q_miput 1 at_66_16 rfl hl <| ?_
  refine r_aload at_66_19 rfl <| r_push at_66_20 <| q_minew 2 at_66_22 rfl rfl rfl (by omega) (by omega) <| q_miput 2 at_66_24 rfl hl <| ?_
  refine r_aload at_66_27 rfl <| r_push at_66_28 <| q_minew 3 at_66_30 rfl rfl rfl (by omega) (by omega) <| q_miput 3 at_66_32 rfl hl <| ?_
  refine r_aload at_66_35 rfl <| r_push at_66_36 <| q_minew 4 at_66_38 rfl rfl rfl (by omega) (by omega) <| q_miput 4 at_66_40 rfl hl <| ?_
  refine r_aload at_66_43 rfl <| r_push at_66_44 <| q_minew 5 at_66_46 rfl rfl rfl (by omega) (by omega) <| q_miput 5 at_66_48 rfl hl <| ?_
  refine r_aload at_66_51 rfl <| r_push at_66_52 <| q_minew 6 at_66_54 rfl rfl rfl (by omega) (by omega) <| q_miput 6 at_66_56 rfl hl <| ?_
  refine r_aload at_66_59 rfl <| r_push at_66_60 <| q_minew 7 at_66_62 rfl rfl rfl (by omega) (by omega) <| q_miput 7 at_66_64 rfl hl <| ?_
  refine r_aload at_66_67 rfl <| r_push at_66_68 <| q_minew 8 at_66_70 rfl rfl rfl (by omega) (by omega) <| q_miput 8 at_66_72 rfl hl <| ?_
  refine r_aload at_66_75 rfl <| r_push at_66_76 <| q_minew 9 at_66_78 rfl rfl rfl (by omega) (by omega) <| q_miput 9 at_66_80 rfl hl <| ?_
  refine r_aload at_66_83 rfl <| r_push at_66_84 <| q_minew 10 at_66_86 rfl rfl rfl (by omega) (by omega) <| q_miput 10 at_66_88 rfl hl <| ?_
  refine r_aload at_66_91 rfl <| r_push at_66_92 <| q_minew 11 at_66_94 rfl rfl rfl (by omega) (by omega) <| q_miput 11 at_66_96 rfl hl <| ?_
  refine r_aload at_66_99 rfl <| r_push at_66_100 <| q_minew 12 at_66_103 rfl rfl rfl (by omega) (by omega) <| q_miput 12 at_66_105 rfl hl <| ?_
  refine r_aload at_66_108 rfl <| r_push at_66_109 <| q_minew 13 at_66_111 rfl rfl rfl (by omega) (by omega) <| q_miput 13 at_66_113 rfl hl <| ?_
  refine r_aload at_66_116 rfl <| r_push at_66_117 <| q_minew 14 at_66_119 rfl rfl rfl (by omega) (by omega) <| q_miput 14 at_66_121 rfl hl <| ?_
  refine r_aload at_66_124 rfl <| r_push at_66_125 <| q_minew 15 at_66_127 rfl rfl rfl (by omega) (by omega) <| q_miput 15 at_66_129 rfl hl <| ?_
  refine r_aload at_66_132 rfl <| r_push at_66_133 <| q_minew 16 at_66_134 rfl rfl rfl (by omega) (by omega) <| q_miput 16 at_66_136 rfl hl <| ?_
  refine r_aload at_66_139 rfl <| r_push at_66_140 <| q_minew 17 at_66_141 rfl rfl rfl (by omega) (by omega) <| q_miput 17 at_66_143 rfl hl <| ?_
  refine r_aload at_66_146 rfl <| r_push at_66_147 <| q_minew 18 at_66_149 rfl rfl rfl (by omega) (by omega) <| q_miput 18 at_66_151 rfl hl <| ?_
  refine r_aload at_66_154 rfl <| r_push at_66_155 <| q_minew 19 at_66_157 rfl rfl rfl (by omega) (by omega) <| q_miput 19 at_66_159 rfl hl <| ?_
  refine r_aload at_66_162 rfl <| r_push at_66_163 <| q_minew 20 at_66_165 rfl rfl rfl (by omega) (by omega) <| q_miput 20 at_66_167 rfl hl <| ?_
  refine r_aload at_66_170 rfl <| r_push at_66_171 <| q_minew 21 at_66_173 rfl rfl rfl (by omega) (by omega) <| q_miput 21 at_66_175 rfl hl <| ?_
  refine r_aload at_66_178 rfl <| r_push at_66_179 <| q_minew 22 at_66_180 rfl rfl rfl (by omega) (by omega) <| q_miput 22 at_66_182 rfl hl <| ?_
  refine r_aload at_66_185 rfl <| r_push at_66_186 <| q_minew 23 at_66_188 rfl rfl rfl (by omega) (by omega) <| q_miput 23 at_66_190 rfl hl <| ?_
  exact r_ret at_66_193 hq

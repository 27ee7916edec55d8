def fr_tk_l (n e : Nat) (μ : am_I) : am_I := am_wr μ 16 n (if am_rd μ 16 n < am_rd μ 10 e then am_rd μ 10 e else am_rd μ 16 n)
def fr_tk_p (m n x : Nat) (l g : Int32) (μ : am_I) : am_I := if l = 0 then if g = 0 then fr_owe μ (5 * (5 * n + m) + x) 0 else am_wr μ 18 (5 * (5 * n + m) + x) 0 else if x = n then am_wr (fr_tk_l n (25 + 5 * m + x) μ) 17 n 1 else fr_inst (am_wr μ 9 6 (am_rd μ 9 6 + 1)) n x (25 + 5 * m + x) m
def fr_tk_q (m n x : Nat) (l g : Int32) (μ : am_I) (v : Int32) : am_I × Int32 := (fr_tk_p m n x l g (am_wr μ 22 x g), if g = 0 then v else v + 1)
def fr_tk_g (e f : Nat) (l : Int32) (μ : am_I) : Int32 := if l = 0 then if fr_same μ e f = 0 then 0 else 1 else 1
def fr_tk_h (m n x : Nat) (l : Int32) (μ : am_I) (v : Int32) : am_I × Int32 := fr_tk_q m n x l (fr_tk_g (5 * n + x) (25 + 5 * m + x) l μ) μ v
def fr_tk_y (m n x : Nat) (μ : am_I) (v : Int32) : am_I × Int32 := if am_rd μ 20 (5 * (5 * m + n) + x) = 0 then (μ, v) else fr_tk_h m n x (fr_old μ (5 * n + x) (25 + 5 * m + x)) μ v
def fr_tk_x (m n x : Nat) (z : am_I × Int32) : am_I × Int32 := fr_tk_y m n x (am_wr z.1 22 x 0) z.2
def fr_tk_w (m x : Nat) (μ : am_I) : Int32 := if 0 < am_rd μ 10 (5 * m + x) then if fr_same μ (5 * m + x) (25 + 5 * m + x) = 0 then 0 else 1 else 0
def fr_tk_a (m n x : Nat) (μ : am_I) : am_I := if am_rd μ 22 x = 0 then μ else if fr_tk_w m x μ = 0 then μ else am_wr μ 18 (5 * (5 * m + n) + x) 0
def fr_tk_f (m n : Nat) (w : am_I × Int32) : am_I := if w.2 = 0 then w.1 else am_it (fr_tk_a m n) 5 w.1
def fr_tk_e (m n : Nat) (z : am_I × Int32) : am_I := if z.2 = 0 then z.1 else fr_tk_f m n (fr_over z.1 n m 3)
def fr_tk (μ : am_I) (m n : Nat) : am_I := fr_tk_e m n (am_it (fr_tk_x m n) 5 (μ, 0))
set_option maxHeartbeats 20000000 in
theorem q_take {d : Nat} {Q : am_Q} {K : am_K} {sc : am_Sc} {c : am_M} {μ : am_I} {p : am_P} {m n : Nat} (hd : 3 ≤ d) (T : am_TQ K p) (hm : m < 5) (hn : n < 5) (hq : Q (K, sc, c, (fr_tk μ m n, p)) none) : am_call d 87 [.inr (some 163), .inl (nI m), .inl (nI n)] (K, sc, c, (μ, p)) Q := by
  obtain ⟨d, rfl⟩ : ∃ d', d = d' + 1 := ⟨d - 1, by omega⟩
  refine r_enter (by decide) (Nat.le_of_ble_eq_true rfl) (ls := [some (.inr (some 163)), some (.inl (nI m)), some (.inl (nI n)), none, none, none, none, none]) rfl ?_
  refine r_push at_87_0 <| r_istoreL (ls' := [_, _, _, _, _, _, _, _]) at_87_1 rfl <| r_push at_87_2 <| r_istoreL (ls' := [_, _, _, _, _, _, _, _]) at_87_3 rfl <| ?_
  refine am_for 5 (fun x z => ∀ u5 u6 u7 : Option am_V, am_w d 87 Q 5 [some (.inr (some 163)), some (.inl (nI m)), some (.inl (nI n)), some (.inl z.2), some (.inl (nI x)), u5, u6, u7] [] (K, sc, c, (z.1, p))) (fr_tk_x m n) (fun x hi_x z hk_x => ?_) (μ, 0) ?_ none none none
  · obtain ⟨μx, v⟩ := z
    dsimp only at hk_x ⊢
    intro u5 u6 u7
    refine r_iload at_87_5 rfl <| r_push at_87_7 <| r_cmgeNT x 5 at_87_8 rfl rfl (by omega) (by omega) (by omega) <| ?_
    refine r_push at_87_11 <| r_push at_87_13 <| r_iload at_87_14 rfl <| r_mulN 5 m at_87_15 rfl rfl <| r_addN 25 (5 * m) at_87_16 rfl rfl <| r_iload at_87_17 rfl <| r_addN (25 + 5 * m) x at_87_19 rfl rfl <| r_istoreL (ls' := [_, _, _, _, _, _, _, _]) at_87_20 rfl <| r_push at_87_22 <| r_iload at_87_23 rfl <| r_mulN 5 n at_87_24 rfl rfl <| r_iload at_87_25 rfl <| r_addN (5 * n) x at_87_27 rfl rfl <| r_istoreL (ls' := [_, _, _, _, _, _, _, _]) at_87_28 rfl <| r_aload at_87_30 rfl <| q_arr 22 T at_87_31 (by decide) <| r_iload at_87_34 rfl <| r_push at_87_36 <| q_zast 22 x T at_87_37 (by decide) rfl (by omega) (by decide) (Or.inl rfl) <| r_aload at_87_38 rfl <| q_arr 20 T at_87_39 (by decide) <| r_push at_87_42 <| r_push at_87_43 <| r_iload at_87_44 rfl <| r_mulN 5 m at_87_45 rfl rfl <| r_iload at_87_46 rfl <| r_addN (5 * m) n at_87_47 rfl rfl <| r_mulN 5 (5 * m + n) at_87_48 rfl rfl <| r_iload at_87_49 rfl <| r_addN (5 * (5 * m + n)) x at_87_51 rfl rfl <| q_ald 20 (5 * (5 * m + n) + x) T at_87_52 (by decide) rfl (by omega) (by decide) <| r_ifeq at_87_53 (fun h53_1 => ?_) (fun h53_1 => ?_)
    · refine r_iincNL (ls' := [_, _, _, _, _, _, _, _]) x at_87_243 rfl rfl <| r_goto at_87_246 <| ?_
      have e : (fr_tk_x m n) x (μx, v) = (am_wr μx 22 x 0, v) := by simp only [fr_tk_x, fr_tk_y, fr_tk_h, fr_tk_g, fr_tk_q, fr_tk_p, fr_tk_l, if_pos h53_1, if_true, if_neg (show ¬ (1 : Int32) = 0 by decide)]
      rw [e] at hk_x
      dsimp only at hk_x
      exact hk_x _ _ _
    · refine r_aload at_87_56 rfl <| r_iload at_87_57 rfl <| r_iload at_87_59 rfl <| r_callV2i at_87_61 (T.me) (Nat.le_of_ble_eq_true rfl) (fun _ hq => q_older (by omega) T (by omega) (by omega) hq) <| r_istoreL (ls' := [_, _, _, _, _, _, _, _]) at_87_64 rfl <| r_aload at_87_66 rfl <| q_arr 22 T at_87_67 (by decide) <| r_iload at_87_70 rfl <| r_iload at_87_72 rfl <| r_ifne at_87_74 (fun h74_2 => ?_) (fun h74_2 => ?_)
      · refine r_aload at_87_77 rfl <| r_iload at_87_78 rfl <| r_iload at_87_80 rfl <| r_callV2i at_87_82 (T.me) (Nat.le_of_ble_eq_true rfl) (fun _ hq => q_same (by omega) T (by omega) (by omega) hq) <| r_ifeq at_87_85 (fun h85_3 => ?_) (fun h85_3 => ?_)
        · refine r_push at_87_92 <| q_zast 22 x T at_87_93 (by decide) rfl (by omega) (by decide) (Or.inl rfl) <| r_aload at_87_94 rfl <| q_arr 22 T at_87_95 (by decide) <| r_iload at_87_98 rfl <| q_ald 22 x T at_87_100 (by decide) rfl (by omega) (by decide) <| r_ifeqT at_87_101 (by rw [am_rd_wr, if_pos ⟨rfl, rfl⟩]) <| r_iload at_87_110 rfl <| r_istoreL (ls' := [_, _, _, _, _, _, _, _]) at_87_111 rfl <| r_iload at_87_112 rfl <| r_ifeqT at_87_114 h74_2 <| r_iload at_87_171 rfl <| r_ifeqT at_87_173 h74_2 <| r_aload at_87_205 rfl <| q_arr 22 T at_87_206 (by decide) <| r_iload at_87_209 rfl <| q_ald 22 x T at_87_211 (by decide) rfl (by omega) (by decide) <| r_ifeqT at_87_212 (by rw [am_rd_wr, if_pos ⟨rfl, rfl⟩]) <| r_aload at_87_234 rfl <| r_iload at_87_235 rfl <| r_iload at_87_236 rfl <| r_iload at_87_237 rfl <| r_push at_87_239 <| r_callV4v at_87_240 (T.me) (Nat.le_of_ble_eq_true rfl) (fun _ hq => q_owe (by omega) T (by omega) (by omega) (by omega) hq) <| r_iincNL (ls' := [_, _, _, _, _, _, _, _]) x at_87_243 rfl rfl <| r_goto at_87_246 <| ?_
          have e : (fr_tk_x m n) x (μx, v) = (fr_owe (am_wr (am_wr μx 22 x 0) 22 x 0) (5 * (5 * n + m) + x) 0, v) := by simp only [fr_tk_x, fr_tk_y, fr_tk_h, fr_tk_g, fr_tk_q, fr_tk_p, fr_tk_l, if_neg h53_1, if_pos h74_2, if_pos h85_3, if_true, if_neg (show ¬ (1 : Int32) = 0 by decide)]
          rw [e] at hk_x
          dsimp only at hk_x
          exact hk_x _ _ _
        · refine r_push at_87_88 <| r_goto at_87_89 <| q_zast 22 x T at_87_93 (by decide) rfl (by omega) (by decide) (Or.inr rfl) <| r_aload at_87_94 rfl <| q_arr 22 T at_87_95 (by decide) <| r_iload at_87_98 rfl <| q_ald 22 x T at_87_100 (by decide) rfl (by omega) (by decide) <| r_ifeqF at_87_101 (by rw [am_rd_wr, if_pos ⟨rfl, rfl⟩]; decide) <| r_iload at_87_104 rfl <| r_push at_87_105 <| r_bin at_87_106 <| r_goto at_87_107 <| r_istoreL (ls' := [_, _, _, _, _, _, _, _]) at_87_111 rfl <| r_iload at_87_112 rfl <| r_ifeqT at_87_114 h74_2 <| r_iload at_87_171 rfl <| r_ifeqT at_87_173 h74_2 <| r_aload at_87_205 rfl <| q_arr 22 T at_87_206 (by decide) <| r_iload at_87_209 rfl <| q_ald 22 x T at_87_211 (by decide) rfl (by omega) (by decide) <| r_ifeqF at_87_212 (by rw [am_rd_wr, if_pos ⟨rfl, rfl⟩]; decide) <| r_aload at_87_215 rfl <| q_arr 18 T at_87_216 (by decide) <| r_push at_87_219 <| r_push at_87_220 <| r_iload at_87_221 rfl <| r_mulN 5 n at_87_222 rfl rfl <| r_iload at_87_223 rfl <| r_addN (5 * n) m at_87_224 rfl rfl <| r_mulN 5 (5 * n + m) at_87_225 rfl rfl <| r_iload at_87_226 rfl <| r_addN (5 * (5 * n + m)) x at_87_228 rfl rfl <| r_push at_87_229 <| q_zast 18 (5 * (5 * n + m) + x) T at_87_230 (by decide) rfl (by omega) (by decide) (Or.inl rfl) <| r_goto at_87_231 <| r_iincNL (ls' := [_, _, _, _, _, _, _, _]) x at_87_243 rfl rfl <| r_goto at_87_246 <| ?_
          have e : (fr_tk_x m n) x (μx, v) = (am_wr (am_wr (am_wr μx 22 x 0) 22 x 1) 18 (5 * (5 * n + m) + x) 0, (v + 1)) := by simp only [fr_tk_x, fr_tk_y, fr_tk_h, fr_tk_g, fr_tk_q, fr_tk_p, fr_tk_l, if_neg h53_1, if_pos h74_2, if_neg h85_3, if_true, if_neg (show ¬ (1 : Int32) = 0 by decide)]
          rw [e] at hk_x
          dsimp only at hk_x
          exact hk_x _ _ _
      · refine r_push at_87_88 <| r_goto at_87_89 <| q_zast 22 x T at_87_93 (by decide) rfl (by omega) (by decide) (Or.inr rfl) <| r_aload at_87_94 rfl <| q_arr 22 T at_87_95 (by decide) <| r_iload at_87_98 rfl <| q_ald 22 x T at_87_100 (by decide) rfl (by omega) (by decide) <| r_ifeqF at_87_101 (by rw [am_rd_wr, if_pos ⟨rfl, rfl⟩]; decide) <| r_iload at_87_104 rfl <| r_push at_87_105 <| r_bin at_87_106 <| r_goto at_87_107 <| r_istoreL (ls' := [_, _, _, _, _, _, _, _]) at_87_111 rfl <| r_iload at_87_112 rfl <| r_ifeqF at_87_114 h74_2 <| r_iload at_87_117 rfl <| r_iload at_87_119 rfl <| r_cmneN x n at_87_120 rfl rfl (by omega) (by omega) (fun h120_4 => ?_) (fun h120_4 => ?_)
        · refine r_aload at_87_123 rfl <| q_arr 16 T at_87_124 (by decide) <| r_iload at_87_127 rfl <| r_aload at_87_128 rfl <| q_arr 10 T at_87_129 (by decide) <| r_iload at_87_132 rfl <| q_ald 10 (25 + 5 * m + x) T at_87_134 (by decide) rfl (by omega) (by decide) <| r_aload at_87_135 rfl <| q_arr 16 T at_87_136 (by decide) <| r_iload at_87_139 rfl <| q_ald 16 n T at_87_140 (by decide) rfl (by omega) (by decide) <| r_cmle at_87_141 (fun h141_5 => ?_) (fun h141_5 => ?_)
          · refine r_aload at_87_144 rfl <| q_arr 10 T at_87_145 (by decide) <| r_iload at_87_148 rfl <| q_ald 10 (25 + 5 * m + x) T at_87_150 (by decide) rfl (by omega) (by decide) <| r_goto at_87_151 <| q_ast 16 n T at_87_160 (by decide) rfl (by omega) (by decide) <| r_aload at_87_161 rfl <| q_arr 17 T at_87_162 (by decide) <| r_iload at_87_165 rfl <| r_push at_87_166 <| q_zast 17 n T at_87_167 (by decide) rfl (by omega) (by decide) (Or.inr rfl) <| r_goto at_87_168 <| r_iincNL (ls' := [_, _, _, _, _, _, _, _]) x at_87_243 rfl rfl <| r_goto at_87_246 <| ?_
            have e : (fr_tk_x m n) x (μx, v) = (am_wr (am_wr (am_wr (am_wr μx 22 x 0) 22 x 1) 16 n (am_rd (am_wr (am_wr μx 22 x 0) 22 x 1) 10 (25 + 5 * m + x))) 17 n 1, (v + 1)) := by simp only [fr_tk_x, fr_tk_y, fr_tk_h, fr_tk_g, fr_tk_q, fr_tk_p, fr_tk_l, if_neg h53_1, if_neg h74_2, if_pos h120_4, if_pos h141_5, if_true, if_neg (show ¬ (1 : Int32) = 0 by decide)]
            rw [e] at hk_x
            dsimp only at hk_x
            exact hk_x _ _ _
          · refine r_aload at_87_154 rfl <| q_arr 16 T at_87_155 (by decide) <| r_iload at_87_158 rfl <| q_ald 16 n T at_87_159 (by decide) rfl (by omega) (by decide) <| q_ast 16 n T at_87_160 (by decide) rfl (by omega) (by decide) <| r_aload at_87_161 rfl <| q_arr 17 T at_87_162 (by decide) <| r_iload at_87_165 rfl <| r_push at_87_166 <| q_zast 17 n T at_87_167 (by decide) rfl (by omega) (by decide) (Or.inr rfl) <| r_goto at_87_168 <| r_iincNL (ls' := [_, _, _, _, _, _, _, _]) x at_87_243 rfl rfl <| r_goto at_87_246 <| ?_
            have e : (fr_tk_x m n) x (μx, v) = (am_wr (am_wr (am_wr (am_wr μx 22 x 0) 22 x 1) 16 n (am_rd (am_wr (am_wr μx 22 x 0) 22 x 1) 16 n)) 17 n 1, (v + 1)) := by simp only [fr_tk_x, fr_tk_y, fr_tk_h, fr_tk_g, fr_tk_q, fr_tk_p, fr_tk_l, if_neg h53_1, if_neg h74_2, if_pos h120_4, if_neg h141_5, if_true, if_neg (show ¬ (1 : Int32) = 0 by decide)]
            rw [e] at hk_x
            dsimp only at hk_x
            exact hk_x _ _ _
        · refine r_iload at_87_171 rfl <| r_ifeqF at_87_173 h74_2 <| r_aload at_87_176 rfl <| q_arr 9 T at_87_177 (by decide) <| r_push at_87_180 <| r_aload at_87_182 rfl <| q_arr 9 T at_87_183 (by decide) <| r_push at_87_186 <| q_ald 9 6 T at_87_188 (by decide) rfl (by omega) (by decide) <| r_push at_87_189 <| r_bin at_87_190 <| q_ast 9 6 T at_87_191 (by decide) rfl (by omega) (by decide) <| r_aload at_87_192 rfl <| r_iload at_87_193 rfl <| r_iload at_87_194 rfl <| r_iload at_87_196 rfl <| r_iload at_87_198 rfl <| r_callV4v at_87_199 (T.me) (Nat.le_of_ble_eq_true rfl) (fun _ hq => q_install (by omega) T (by omega) (by omega) (by omega) (by omega) hq) <| r_goto at_87_202 <| r_iincNL (ls' := [_, _, _, _, _, _, _, _]) x at_87_243 rfl rfl <| r_goto at_87_246 <| ?_
          have e : (fr_tk_x m n) x (μx, v) = (fr_inst (am_wr (am_wr (am_wr μx 22 x 0) 22 x 1) 9 6 ((am_rd (am_wr (am_wr μx 22 x 0) 22 x 1) 9 6) + 1)) n x (25 + 5 * m + x) m, (v + 1)) := by simp only [fr_tk_x, fr_tk_y, fr_tk_h, fr_tk_g, fr_tk_q, fr_tk_p, fr_tk_l, if_neg h53_1, if_neg h74_2, if_neg h120_4, if_true, if_neg (show ¬ (1 : Int32) = 0 by decide)]
          rw [e] at hk_x
          dsimp only at hk_x
          exact hk_x _ _ _
  · intro u5 u6 u7
    generalize hz5 : am_it (fr_tk_x m n) 5 (μ, 0) = y5
    refine r_iload at_87_5 rfl <| r_push at_87_7 <| r_cmgeNF 5 5 at_87_8 rfl rfl (by omega) (by omega) (by omega) <| ?_
    refine r_iload at_87_249 rfl <| r_ifeq at_87_250 (fun h250_6 => ?_) (fun h250_6 => ?_)
    · refine r_ret at_87_263 ?_
      have e : fr_tk μ m n = y5.1 := by simp only [fr_tk, fr_tk_e, fr_tk_f, hz5, if_pos h250_6]
      rw [e] at hq
      exact hq
    · refine r_aload at_87_253 rfl <| r_iload at_87_254 rfl <| r_iload at_87_255 rfl <| r_push at_87_256 <| r_callV3i at_87_257 (T.me) (Nat.le_of_ble_eq_true rfl) (fun _ hq => q_over (k := 3) (by omega) T (by omega) (by omega) (by decide) hq) <| r_ifne at_87_260 (fun h260_7 => ?_) (fun h260_7 => ?_)
      · refine r_ret at_87_263 ?_
        have e : fr_tk μ m n = (fr_over y5.1 n m 3).1 := by simp only [fr_tk, fr_tk_e, fr_tk_f, hz5, if_neg h250_6, if_pos h260_7]
        rw [e] at hq
        exact hq
      · refine r_push at_87_264 <| r_istoreL (ls' := [_, _, _, _, _, _, _, _]) at_87_265 rfl <| ?_
        refine am_for 5 (fun x z => ∀ u5 u6 u7 : Option am_V, am_w d 87 Q 267 [some (.inr (some 163)), some (.inl (nI m)), some (.inl (nI n)), some (.inl y5.2), some (.inl (nI x)), u5, u6, u7] [] (K, sc, c, (z, p))) (fr_tk_a m n) (fun x hi_x z hk_x => ?_) ((fr_over y5.1 n m 3).1) ?_ u5 u6 u7
        · intro u5 u6 u7
          refine r_iload at_87_267 rfl <| r_push at_87_269 <| r_cmgeNT x 5 at_87_270 rfl rfl (by omega) (by omega) (by omega) <| ?_
          refine r_aload at_87_273 rfl <| q_arr 10 T at_87_274 (by decide) <| r_push at_87_277 <| r_iload at_87_278 rfl <| r_mulN 5 m at_87_279 rfl rfl <| r_iload at_87_280 rfl <| r_addN (5 * m) x at_87_282 rfl rfl <| q_ald 10 (5 * m + x) T at_87_283 (by decide) rfl (by omega) (by decide) <| r_ifle at_87_284 (fun h284_8 => ?_) (fun h284_8 => ?_)
          · refine r_aload at_87_287 rfl <| r_push at_87_288 <| r_iload at_87_289 rfl <| r_mulN 5 m at_87_290 rfl rfl <| r_iload at_87_291 rfl <| r_addN (5 * m) x at_87_293 rfl rfl <| r_push at_87_294 <| r_push at_87_296 <| r_iload at_87_297 rfl <| r_mulN 5 m at_87_298 rfl rfl <| r_addN 25 (5 * m) at_87_299 rfl rfl <| r_iload at_87_300 rfl <| r_addN (25 + 5 * m) x at_87_302 rfl rfl <| r_callV2i at_87_303 (T.me) (Nat.le_of_ble_eq_true rfl) (fun _ hq => q_same (by omega) T (by omega) (by omega) hq) <| r_ifeq at_87_306 (fun h306_9 => ?_) (fun h306_9 => ?_)
            · refine r_push at_87_313 <| r_istoreL (ls' := [_, _, _, _, _, _, _, _]) at_87_314 rfl <| r_aload at_87_316 rfl <| q_arr 22 T at_87_317 (by decide) <| r_iload at_87_320 rfl <| q_ald 22 x T at_87_322 (by decide) rfl (by omega) (by decide) <| r_ifeq at_87_323 (fun h323_10 => ?_) (fun h323_10 => ?_)
              · refine r_iincNL (ls' := [_, _, _, _, _, _, _, _]) x at_87_347 rfl rfl <| r_goto at_87_350 <| ?_
                have e : (fr_tk_a m n) x z = z := by simp only [fr_tk_a, fr_tk_w, if_pos h284_8, if_pos h306_9, if_pos h323_10, if_true, if_neg (show ¬ (1 : Int32) = 0 by decide)]
                rw [e] at hk_x
                exact hk_x _ _ _
              · refine r_iload at_87_326 rfl <| r_ifeqT at_87_328 (by decide) <| r_iincNL (ls' := [_, _, _, _, _, _, _, _]) x at_87_347 rfl rfl <| r_goto at_87_350 <| ?_
                have e : (fr_tk_a m n) x z = z := by simp only [fr_tk_a, fr_tk_w, if_pos h284_8, if_pos h306_9, if_neg h323_10, if_true, if_neg (show ¬ (1 : Int32) = 0 by decide)]
                rw [e] at hk_x
                exact hk_x _ _ _
            · refine r_push at_87_309 <| r_goto at_87_310 <| r_istoreL (ls' := [_, _, _, _, _, _, _, _]) at_87_314 rfl <| r_aload at_87_316 rfl <| q_arr 22 T at_87_317 (by decide) <| r_iload at_87_320 rfl <| q_ald 22 x T at_87_322 (by decide) rfl (by omega) (by decide) <| r_ifeq at_87_323 (fun h323_11 => ?_) (fun h323_11 => ?_)
              · refine r_iincNL (ls' := [_, _, _, _, _, _, _, _]) x at_87_347 rfl rfl <| r_goto at_87_350 <| ?_
                have e : (fr_tk_a m n) x z = z := by simp only [fr_tk_a, fr_tk_w, if_pos h284_8, if_neg h306_9, if_pos h323_11, if_true, if_neg (show ¬ (1 : Int32) = 0 by decide)]
                rw [e] at hk_x
                exact hk_x _ _ _
              · refine r_iload at_87_326 rfl <| r_ifeqF at_87_328 (by decide) <| r_aload at_87_331 rfl <| q_arr 18 T at_87_332 (by decide) <| r_push at_87_335 <| r_push at_87_336 <| r_iload at_87_337 rfl <| r_mulN 5 m at_87_338 rfl rfl <| r_iload at_87_339 rfl <| r_addN (5 * m) n at_87_340 rfl rfl <| r_mulN 5 (5 * m + n) at_87_341 rfl rfl <| r_iload at_87_342 rfl <| r_addN (5 * (5 * m + n)) x at_87_344 rfl rfl <| r_push at_87_345 <| q_zast 18 (5 * (5 * m + n) + x) T at_87_346 (by decide) rfl (by omega) (by decide) (Or.inl rfl) <| r_iincNL (ls' := [_, _, _, _, _, _, _, _]) x at_87_347 rfl rfl <| r_goto at_87_350 <| ?_
                have e : (fr_tk_a m n) x z = am_wr z 18 (5 * (5 * m + n) + x) 0 := by simp only [fr_tk_a, fr_tk_w, if_pos h284_8, if_neg h306_9, if_neg h323_11, if_true, if_neg (show ¬ (1 : Int32) = 0 by decide)]
                rw [e] at hk_x
                exact hk_x _ _ _
          · refine r_push at_87_313 <| r_istoreL (ls' := [_, _, _, _, _, _, _, _]) at_87_314 rfl <| r_aload at_87_316 rfl <| q_arr 22 T at_87_317 (by decide) <| r_iload at_87_320 rfl <| q_ald 22 x T at_87_322 (by decide) rfl (by omega) (by decide) <| r_ifeq at_87_323 (fun h323_12 => ?_) (fun h323_12 => ?_)
            · refine r_iincNL (ls' := [_, _, _, _, _, _, _, _]) x at_87_347 rfl rfl <| r_goto at_87_350 <| ?_
              have e : (fr_tk_a m n) x z = z := by simp only [fr_tk_a, fr_tk_w, if_neg h284_8, if_pos h323_12, if_true, if_neg (show ¬ (1 : Int32) = 0 by decide)]
              rw [e] at hk_x
              exact hk_x _ _ _
            · refine r_iload at_87_326 rfl <| r_ifeqT at_87_328 (by decide) <| r_iincNL (ls' := [_, _, _, _, _, _, _, _]) x at_87_347 rfl rfl <| r_goto at_87_350 <| ?_
              have e : (fr_tk_a m n) x z = z := by simp only [fr_tk_a, fr_tk_w, if_neg h284_8, if_neg h323_12, if_true, if_neg (show ¬ (1 : Int32) = 0 by decide)]
              rw [e] at hk_x
              exact hk_x _ _ _
        · intro u5 u6 u7
          generalize hz267 : am_it (fr_tk_a m n) 5 ((fr_over y5.1 n m 3).1) = y267
          refine r_iload at_87_267 rfl <| r_push at_87_269 <| r_cmgeNF 5 5 at_87_270 rfl rfl (by omega) (by omega) (by omega) <| ?_
          refine r_ret at_87_353 ?_
          have e : fr_tk μ m n = y267 := by simp only [fr_tk, fr_tk_e, fr_tk_f, hz5, if_neg h250_6, if_neg h260_7, hz267]
          rw [e] at hq
          exact hq

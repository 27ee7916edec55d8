theorem fr_it_BB {f : Nat → am_I → am_I} {n : Nat} {μ : am_I} (hf : ∀ i μ, fr_BB μ → fr_BB (f i μ)) (h : fr_BB μ) : fr_BB (am_it f n μ) := am_it_keep (P := fr_BB) (fun i _ s hs => hf i s hs) h
theorem fr_cp_BB {μ : am_I} (h : fr_BB μ) {k f t : Nat} (h3 : ¬ k = 3) (h8 : ¬ k = 8) : fr_BB (fr_cp μ k f t) := h.wo h3 h8
theorem fr_copy_BB {μ : am_I} (h : fr_BB μ) (f t : Nat) : fr_BB (fr_copy μ f t) := by
  unfold fr_copy
  refine fr_it_BB (fun i μ h => ?_) (fr_it_BB (fun i μ h => ?_) (fr_cp_BB (fr_cp_BB h (by decide) (by decide)) (by decide) (by decide)))
  · unfold fr_copy_s
    exact fr_cp_BB (fr_cp_BB (fr_cp_BB h (by decide) (by decide)) (by decide) (by decide)) (by decide) (by decide)
  · unfold fr_copy_n
    exact fr_cp_BB h (by decide) (by decide)
theorem fr_owe_BB {μ : am_I} (h : fr_BB μ) (k : Nat) (z : Int32) : fr_BB (fr_owe μ k z) := by
  unfold fr_owe
  exact (h.wo (by decide) (by decide)).wo (by decide) (by decide)
theorem fr_inst_BB {μ : am_I} (h : fr_BB μ) (r x f m : Nat) : fr_BB (fr_inst μ r x f m) := by
  unfold fr_inst
  refine fr_it_BB (fun i μ h => ?_) (fr_copy_BB h _ _)
  unfold fr_in_b fr_in_c
  have h1 : fr_BB (am_wr μ 18 (5 * (5 * r + i) + x) 0) := h.wo (by decide) (by decide)
  repeat' split
  · exact h1
  · exact h1
  · exact fr_owe_BB h1 _ _
theorem fr_fg_BB {μ : am_I} (h : fr_BB μ) : fr_BB (fr_fg μ) := by
  unfold fr_fg
  refine fr_it_BB (fun i μ h => ?_) h
  unfold fr_fg_b
  repeat' split
  · exact h
  · exact fr_it_BB (fun i μ h => by unfold fr_fg_i; exact h.wo (by decide) (by decide)) (h.wo (by decide) (by decide))
  · exact h
theorem fr_oa_BB {μ : am_I} (h : fr_BB μ) (n m : Nat) : fr_BB (fr_oa μ n m) := by
  unfold fr_oa
  refine fr_it_BB (fun i μ h => ?_) h
  unfold fr_oa_b
  repeat' split
  · exact h
  · exact fr_owe_BB h _ _
  · exact h
theorem fr_nb_BB {μ : am_I} (h : fr_BB μ) : fr_BB (fr_nb μ) := by
  unfold fr_nb
  refine fr_it_BB (fun k μ h => ?_) (fr_it_BB (fun k μ h => ?_) h)
  · unfold fr_nb_c fr_nb_d
    have h1 : fr_BB (if am_rd μ 7 k = 0 then μ else fr_oa μ (k / 5) (k % 5)) := by
      split
      · exact h
      · exact fr_oa_BB h _ _
    revert h1
    generalize (if am_rd μ 7 k = 0 then μ else fr_oa μ (k / 5) (k % 5)) = μ'
    intro h1
    repeat' split
    · exact h1
    · exact h1
    · exact fr_oa_BB h1 _ _
  · unfold fr_nb_b
    have h1 : fr_BB (fr_nb1 k μ) := by
      unfold fr_nb1
      repeat' split
      · exact h
      · exact h
      · exact (h.wr (Or.inl rfl)).wo (by decide) (by decide)
    unfold fr_nb4 fr_nb3 fr_nb2
    exact fr_it_BB (fun x μ h => by unfold fr_nb_x; exact h.wo (by decide) (by decide)) ((h1.wo (by decide) (by decide)).wo (by decide) (by decide))
theorem fr_make_BB {μ : am_I} (h : fr_BB μ) (r : Nat) : fr_BB (fr_make μ r) := by
  unfold fr_make
  have h1 : fr_BB (am_it (fr_mk_n r) 5 μ) := fr_it_BB (fun i μ h => by unfold fr_mk_n; exact h.wo (by decide) (by decide)) h
  revert h1
  generalize am_it (fr_mk_n r) 5 μ = μ'
  intro h1
  unfold fr_mk2
  repeat' split
  · exact h1
  · unfold fr_mk3 fr_mk4 fr_mk5 fr_mk6 fr_mk7
    exact fr_inst_BB (((fr_copy_BB (((h1.wo (by decide) (by decide)).wo (by decide) (by decide)).wo (by decide) (by decide)) _ _).wo (by decide) (by decide)).wo (by decide) (by decide)) _ _ _ _
  · exact h1
theorem fr_su_BB {μ : am_I} (h : fr_BB μ) : fr_BB (fr_su μ) := by
  unfold fr_su
  refine fr_it_BB (fun k μ h => ?_) (fr_it_BB (fun k μ h => fr_copy_BB h _ _) h)
  have h1 : fr_BB (am_it (fr_su_x k) 5 (μ, 0)).1 := by
    refine am_it_keep (P := fun z : am_I × Int32 => fr_BB z.1) (fun x _ z hz => ?_) h
    show fr_BB (fr_su_w _ _ _)
    unfold fr_su_w
    split
    · exact (hz.wo (by decide) (by decide)).wo (by decide) (by decide)
    · exact (hz.wo (by decide) (by decide)).wo (by decide) (by decide)
  unfold fr_su_b fr_su_e fr_su_f
  split
  · unfold fr_su_v
    exact (fr_over_BB (h1.wo (by decide) (by decide)) _ _ _).wo (by decide) (by decide)
  · exact (h1.wo (by decide) (by decide)).wo (by decide) (by decide)
theorem fr_tk_BB {μ : am_I} (h : fr_BB μ) (m n : Nat) : fr_BB (fr_tk μ m n) := by
  unfold fr_tk
  have h1 : fr_BB (am_it (fr_tk_x m n) 5 (μ, 0)).1 := by
    refine am_it_keep (P := fun z : am_I × Int32 => fr_BB z.1) (fun x _ z hz => ?_) h
    have h0 : fr_BB (am_wr z.1 22 x 0) := hz.wo (by decide) (by decide)
    unfold fr_tk_x fr_tk_y
    split
    · exact h0
    · show fr_BB (fr_tk_p _ _ _ _ _ _)
      have h2 : ∀ g, fr_BB (am_wr (am_wr z.1 22 x 0) 22 x g) := fun g => h0.wo (by decide) (by decide)
      unfold fr_tk_p
      repeat' split
      · exact fr_owe_BB (h2 _) _ _
      · exact (h2 _).wo (by decide) (by decide)
      · unfold fr_tk_l; exact ((h2 _).wo (by decide) (by decide)).wo (by decide) (by decide)
      · exact fr_inst_BB ((h2 _).wo (by decide) (by decide)) _ _ _ _
  unfold fr_tk_e
  split
  · exact h1
  · unfold fr_tk_f
    split
    · exact fr_over_BB h1 _ _ _
    · refine fr_it_BB (fun x μ h => ?_) (fr_over_BB h1 _ _ _)
      unfold fr_tk_a
      repeat' split
      · exact h
      · exact h
      · exact h.wo (by decide) (by decide)
def fr_mkr (r : Nat) (μ : am_I) : am_I := fr_make μ r
def fr_dl (k : Nat) (μ : am_I) : am_I := if am_rd μ 21 k = 0 then μ else if am_rd μ 6 (5 * (k % 5) + k / 5) = 0 then μ else fr_tk μ (k / 5) (k % 5)
def fr_t5 (μ : am_I) : am_I := am_it fr_dl 25 (fr_su (am_it fr_mkr 5 (fr_nb μ)))
def fr_t2 (μ : am_I) : am_I := fr_t5 (if am_ck μ - am_ck μ / 2 * 2 = 0 then fr_he μ else μ)
def fr_tick (t : Nat) (μ : am_I) : am_I := fr_t2 (fr_fg (am_wc μ (am_ck μ + 1)))
def fr_pass (μ : am_I) (x : Int32) : am_I × Int32 := if x < 1 then (μ, 0) else if 4 < x then (μ, 0) else (am_it fr_tick x.toNatClampNeg μ, 1)
theorem fr_tick_BB {μ : am_I} (h : fr_BB μ) (t : Nat) : fr_BB (fr_tick t μ) := by
  unfold fr_tick fr_t2 fr_t5
  have h1 : fr_BB (fr_fg (am_wc μ (am_ck μ + 1))) := fr_fg_BB h.wc
  refine fr_it_BB (fun k μ h => ?_) (fr_su_BB (fr_it_BB (fun r μ h => fr_make_BB h r) (fr_nb_BB ?_)))
  · unfold fr_dl
    repeat' split
    · exact h
    · exact h
    · exact fr_tk_BB h _ _
  · split
    · exact fr_he_BB h1
    · exact h1
theorem q_pass {d : Nat} {Q : am_Q} {K : am_K} {sc : am_Sc} {c : am_M} {μ : am_I} {p : am_P} {x : Int32} (hd : 4 ≤ d) (T : am_TQ K p) (hB : fr_BB μ) (hq : Q (K, sc, c, ((fr_pass μ x).1, p)) (some (.inl ((fr_pass μ x).2)))) : am_call d 88 [.inr (some 163), .inl x] (K, sc, c, (μ, p)) Q := by
  obtain ⟨d, rfl⟩ : ∃ d', d = d' + 1 := ⟨d - 1, by omega⟩
  refine r_enter (by decide) (Nat.le_of_ble_eq_true rfl) (ls := [some (.inr (some 163)), some (.inl x), none, none]) rfl ?_
  refine r_iload at_88_0 rfl <| r_push at_88_1 <| r_cmlt at_88_2 (fun h2_1 => ?_) (fun h2_1 => ?_)
  · refine r_push at_88_10 <| ?_
    refine r_zret at_88_11 (Or.inl rfl) ?_
    have e : fr_pass μ x = (μ, 0) := by simp only [fr_pass, if_pos h2_1]
    rw [e] at hq
    dsimp only at hq
    exact hq
  · refine r_iload at_88_5 rfl <| r_push at_88_6 <| r_cmle at_88_7 (fun h7_2 => ?_) (fun h7_2 => ?_)
    · refine r_push at_88_10 <| ?_
      refine r_zret at_88_11 (Or.inl rfl) ?_
      have e : fr_pass μ x = (μ, 0) := by simp only [fr_pass, if_neg h2_1, if_pos h7_2]
      rw [e] at hq
      dsimp only at hq
      exact hq
    · obtain ⟨t0, ht0, rfl⟩ := nI_of2 (M := 4) (n := 4) (by decide) (fun q => h2_1 (Int32.lt_trans q (by decide))) (Int32.not_lt.mp h7_2)
      refine r_push at_88_12 <| r_istoreL (ls' := [_, _, _, _]) at_88_13 rfl <| ?_
      refine am_forI t0 (fun t z => ∀ u3 : Option am_V, am_w d 88 Q 14 [some (.inr (some 163)), some (.inl (nI t0)), some (.inl (nI t)), u3] [] (K, sc, c, (z, p))) (fr_tick) (fun _ z => fr_BB z) (fun t _ z h => fr_tick_BB h t) (fun t hi_t z hI_t hk_t => ?_) μ hB ?_ none
      · intro u3
        refine r_iload at_88_14 rfl <| r_iload at_88_15 rfl <| r_cmgeNT t t0 at_88_16 rfl rfl (by omega) (by omega) (by omega) <| ?_
        refine r_aload at_88_19 rfl <| r_aload at_88_20 rfl <| q_ck T at_88_21 <| r_push at_88_24 <| r_bin at_88_25 <| q_wc T at_88_26 <| r_aload at_88_29 rfl <| r_callV0v at_88_30 (T.me) (Nat.le_of_ble_eq_true rfl) (fun _ hq => q_forget (by omega) T hq) <| r_aload at_88_33 rfl <| q_ck T at_88_34 <| r_push at_88_37 <| r_div at_88_38 (by decide) <| r_ifne at_88_39 (fun h39_3 => ?_) (fun h39_3 => ?_)
        · refine r_aload at_88_42 rfl <| r_callV0v at_88_43 (T.me) (Nat.le_of_ble_eq_true rfl) (fun _ hq => q_hellos (by omega) T (fr_fg_BB hI_t.wc) hq) <| r_aload at_88_46 rfl <| r_callV0v at_88_47 (T.me) (Nat.le_of_ble_eq_true rfl) (fun _ hq => q_neighbours (by omega) T hq) <| r_push at_88_50 <| r_istoreL (ls' := [_, _, _, _]) at_88_51 rfl <| ?_
          refine am_for 5 (fun r z => am_w d 88 Q 52 [some (.inr (some 163)), some (.inl (nI t0)), some (.inl (nI t)), some (.inl (nI r))] [] (K, sc, c, (z, p))) (fr_mkr) (fun r hi_r z hk_r => ?_) (fr_nb (fr_he (fr_fg (am_wc z ((am_ck z) + 1))))) ?_
          · refine r_iload at_88_52 rfl <| r_push at_88_53 <| r_cmgeNT r 5 at_88_54 rfl rfl (by omega) (by omega) (by omega) <| ?_
            refine r_aload at_88_57 rfl <| r_iload at_88_58 rfl <| r_callV1v at_88_59 (T.me) (Nat.le_of_ble_eq_true rfl) (fun _ hq => q_make (by omega) T (by omega) hq) <| r_iincNL (ls' := [_, _, _, _]) r at_88_62 rfl rfl <| r_goto at_88_65 <| ?_
            have e : (fr_mkr) r z = fr_make z r := by simp only [fr_mkr]
            rw [e] at hk_r
            exact hk_r
          · generalize hz52 : am_it (fr_mkr) 5 (fr_nb (fr_he (fr_fg (am_wc z ((am_ck z) + 1))))) = y52
            refine r_iload at_88_52 rfl <| r_push at_88_53 <| r_cmgeNF 5 5 at_88_54 rfl rfl (by omega) (by omega) (by omega) <| ?_
            refine r_aload at_88_68 rfl <| r_callV0v at_88_69 (T.me) (Nat.le_of_ble_eq_true rfl) (fun _ hq => q_sendUpdates (by omega) T hq) <| r_push at_88_72 <| r_istoreL (ls' := [_, _, _, _]) at_88_73 rfl <| ?_
            refine am_for 25 (fun k z => am_w d 88 Q 74 [some (.inr (some 163)), some (.inl (nI t0)), some (.inl (nI t)), some (.inl (nI k))] [] (K, sc, c, (z, p))) (fr_dl) (fun k hi_k z hk_k => ?_) (fr_su y52) ?_
            · refine r_iload at_88_74 rfl <| r_push at_88_75 <| r_cmgeNT k 25 at_88_77 rfl rfl (by omega) (by omega) (by omega) <| ?_
              refine r_aload at_88_80 rfl <| q_arr 21 T at_88_81 (by decide) <| r_iload at_88_84 rfl <| q_ald 21 k T at_88_85 (by decide) rfl (by omega) (by decide) <| r_ifeq at_88_86 (fun h86_4 => ?_) (fun h86_4 => ?_)
              · refine r_iincNL (ls' := [_, _, _, _]) k at_88_116 rfl rfl <| r_goto at_88_119 <| ?_
                have e : (fr_dl) k z = z := by simp only [fr_dl, if_pos h86_4]
                rw [e] at hk_k
                exact hk_k
              · refine r_aload at_88_89 rfl <| q_arr 6 T at_88_90 (by decide) <| r_push at_88_93 <| r_iload at_88_94 rfl <| r_push at_88_95 <| r_remN k 5 at_88_96 rfl rfl (by omega) (by decide) (by decide) <| r_mulN 5 (k % 5) at_88_97 rfl rfl <| r_iload at_88_98 rfl <| r_push at_88_99 <| r_divN k 5 at_88_100 rfl rfl (by omega) (by decide) (by decide) <| r_addN (5 * (k % 5)) (k / 5) at_88_101 rfl rfl <| q_ald 6 (5 * (k % 5) + k / 5) T at_88_102 (by decide) rfl (by omega) (by decide) <| r_ifeq at_88_103 (fun h103_5 => ?_) (fun h103_5 => ?_)
                · refine r_iincNL (ls' := [_, _, _, _]) k at_88_116 rfl rfl <| r_goto at_88_119 <| ?_
                  have e : (fr_dl) k z = z := by simp only [fr_dl, if_neg h86_4, if_pos h103_5]
                  rw [e] at hk_k
                  exact hk_k
                · refine r_aload at_88_106 rfl <| r_iload at_88_107 rfl <| r_push at_88_108 <| r_divN k 5 at_88_109 rfl rfl (by omega) (by decide) (by decide) <| r_iload at_88_110 rfl <| r_push at_88_111 <| r_remN k 5 at_88_112 rfl rfl (by omega) (by decide) (by decide) <| r_callV2v at_88_113 (T.me) (Nat.le_of_ble_eq_true rfl) (fun _ hq => q_take (by omega) T (by omega) (by omega) hq) <| r_iincNL (ls' := [_, _, _, _]) k at_88_116 rfl rfl <| r_goto at_88_119 <| ?_
                  have e : (fr_dl) k z = fr_tk z (k / 5) (k % 5) := by simp only [fr_dl, if_neg h86_4, if_neg h103_5]
                  rw [e] at hk_k
                  exact hk_k
            · generalize hz74 : am_it (fr_dl) 25 (fr_su y52) = y74
              refine r_iload at_88_74 rfl <| r_push at_88_75 <| r_cmgeNF 25 25 at_88_77 rfl rfl (by omega) (by omega) (by omega) <| ?_
              refine r_iincNL (ls' := [_, _, _, _]) t at_88_122 rfl rfl <| r_goto at_88_125 <| ?_
              have e : (fr_tick) t z = y74 := by simp only [fr_tick, fr_t2, fr_t5, if_pos h39_3, hz52, hz74]
              rw [e] at hk_t
              exact hk_t _
        · refine r_aload at_88_46 rfl <| r_callV0v at_88_47 (T.me) (Nat.le_of_ble_eq_true rfl) (fun _ hq => q_neighbours (by omega) T hq) <| r_push at_88_50 <| r_istoreL (ls' := [_, _, _, _]) at_88_51 rfl <| ?_
          refine am_for 5 (fun r z => am_w d 88 Q 52 [some (.inr (some 163)), some (.inl (nI t0)), some (.inl (nI t)), some (.inl (nI r))] [] (K, sc, c, (z, p))) (fr_mkr) (fun r hi_r z hk_r => ?_) (fr_nb (fr_fg (am_wc z ((am_ck z) + 1)))) ?_
          · refine r_iload at_88_52 rfl <| r_push at_88_53 <| r_cmgeNT r 5 at_88_54 rfl rfl (by omega) (by omega) (by omega) <| ?_
            refine r_aload at_88_57 rfl <| r_iload at_88_58 rfl <| r_callV1v at_88_59 (T.me) (Nat.le_of_ble_eq_true rfl) (fun _ hq => q_make (by omega) T (by omega) hq) <| r_iincNL (ls' := [_, _, _, _]) r at_88_62 rfl rfl <| r_goto at_88_65 <| ?_
            have e : (fr_mkr) r z = fr_make z r := by simp only [fr_mkr]
            rw [e] at hk_r
            exact hk_r
          · generalize hz52 : am_it (fr_mkr) 5 (fr_nb (fr_fg (am_wc z ((am_ck z) + 1)))) = y52
            refine r_iload at_88_52 rfl <| r_push at_88_53 <| r_cmgeNF 5 5 at_88_54 rfl rfl (by omega) (by omega) (by omega) <| ?_
            refine r_aload at_88_68 rfl <| r_callV0v at_88_69 (T.me) (Nat.le_of_ble_eq_true rfl) (fun _ hq => q_sendUpdates (by omega) T hq) <| r_push at_88_72 <| r_istoreL (ls' := [_, _, _, _]) at_88_73 rfl <| ?_
            refine am_for 25 (fun k z => am_w d 88 Q 74 [some (.inr (some 163)), some (.inl (nI t0)), some (.inl (nI t)), some (.inl (nI k))] [] (K, sc, c, (z, p))) (fr_dl) (fun k hi_k z hk_k => ?_) (fr_su y52) ?_
            · refine r_iload at_88_74 rfl <| r_push at_88_75 <| r_cmgeNT k 25 at_88_77 rfl rfl (by omega) (by omega) (by omega) <| ?_
              refine r_aload at_88_80 rfl <| q_arr 21 T at_88_81 (by decide) <| r_iload at_88_84 rfl <| q_ald 21 k T at_88_85 (by decide) rfl (by omega) (by decide) <| r_ifeq at_88_86 (fun h86_6 => ?_) (fun h86_6 => ?_)
              · refine r_iincNL (ls' := [_, _, _, _]) k at_88_116 rfl rfl <| r_goto at_88_119 <| ?_
                have e : (fr_dl) k z = z := by simp only [fr_dl, if_pos h86_6]
                rw [e] at hk_k
                exact hk_k
              · refine r_aload at_88_89 rfl <| q_arr 6 T at_88_90 (by decide) <| r_push at_88_93 <| r_iload at_88_94 rfl <| r_push at_88_95 <| r_remN k 5 at_88_96 rfl rfl (by omega) (by decide) (by decide) <| r_mulN 5 (k % 5) at_88_97 rfl rfl <| r_iload at_88_98 rfl <| r_push at_88_99 <| r_divN k 5 at_88_100 rfl rfl (by omega) (by decide) (by decide) <| r_addN (5 * (k % 5)) (k / 5) at_88_101 rfl rfl <| q_ald 6 (5 * (k % 5) + k / 5) T at_88_102 (by decide) rfl (by omega) (by decide) <| r_ifeq at_88_103 (fun h103_7 => ?_) (fun h103_7 => ?_)
                · refine r_iincNL (ls' := [_, _, _, _]) k at_88_116 rfl rfl <| r_goto at_88_119 <| ?_
                  have e : (fr_dl) k z = z := by simp only [fr_dl, if_neg h86_6, if_pos h103_7]
                  rw [e] at hk_k
                  exact hk_k
                · refine r_aload at_88_106 rfl <| r_iload at_88_107 rfl <| r_push at_88_108 <| r_divN k 5 at_88_109 rfl rfl (by omega) (by decide) (by decide) <| r_iload at_88_110 rfl <| r_push at_88_111 <| r_remN k 5 at_88_112 rfl rfl (by omega) (by decide) (by decide) <| r_callV2v at_88_113 (T.me) (Nat.le_of_ble_eq_true rfl) (fun _ hq => q_take (by omega) T (by omega) (by omega) hq) <| r_iincNL (ls' := [_, _, _, _]) k at_88_116 rfl rfl <| r_goto at_88_119 <| ?_
                  have e : (fr_dl) k z = fr_tk z (k / 5) (k % 5) := by simp only [fr_dl, if_neg h86_6, if_neg h103_7]
                  rw [e] at hk_k
                  exact hk_k
            · generalize hz74 : am_it (fr_dl) 25 (fr_su y52) = y74
              refine r_iload at_88_74 rfl <| r_push at_88_75 <| r_cmgeNF 25 25 at_88_77 rfl rfl (by omega) (by omega) (by omega) <| ?_
              refine r_iincNL (ls' := [_, _, _, _]) t at_88_122 rfl rfl <| r_goto at_88_125 <| ?_
              have e : (fr_tick) t z = y74 := by simp only [fr_tick, fr_t2, fr_t5, if_neg h39_3, hz52, hz74]
              rw [e] at hk_t
              exact hk_t _
      · intro u3
        generalize hz14 : am_it (fr_tick) t0 μ = y14
        refine r_iload at_88_14 rfl <| r_iload at_88_15 rfl <| r_cmgeNF t0 t0 at_88_16 rfl rfl (by omega) (by omega) (by omega) <| ?_
        refine r_push at_88_128 <| ?_
        refine r_zret at_88_129 (Or.inr rfl) ?_
        have e : fr_pass μ (nI t0) = (y14, 1) := by simp only [fr_pass, if_neg h2_1, if_neg h7_2, hz14, nI_clamp (show t0 < 2 ^ 31 by omega)]
        rw [e] at hq
        dsimp only at hq
        exact hq
def fr_nei (μ : am_I) (x y : Int32) : Int32 := if fr_lnk μ x y = 0 then -1 else if am_rd μ 6 (5 * x.toNatClampNeg + y.toNatClampNeg) = 0 then if am_rd μ 3 (5 * x.toNatClampNeg + y.toNatClampNeg) = 0 then 0 else 1 else 2
def fr_num (μ : am_I) (x y : Int32) : Int32 := if fr_rtr x = 0 then -1 else if fr_rtr y = 0 then -1 else am_rd μ 10 (5 * x.toNatClampNeg + y.toNatClampNeg)
def fr_age (μ : am_I) (x y : Int32) : Int32 := if fr_rtr x = 0 then -1 else if fr_rtr y = 0 then -1 else if 0 < am_rd μ 10 (5 * x.toNatClampNeg + y.toNatClampNeg) then am_ck μ - am_rd μ 11 (5 * x.toNatClampNeg + y.toNatClampNeg) else -1
def fr_lis (μ : am_I) (x y z : Int32) : Int32 := if fr_rtr x = 0 then -1 else if fr_rtr y = 0 then -1 else if fr_rtr z = 0 then -1 else if 0 < am_rd μ 10 (5 * x.toNatClampNeg + y.toNatClampNeg) then am_rd μ 12 (5 * (5 * x.toNatClampNeg + y.toNatClampNeg) + z.toNatClampNeg) else -1
def fr_owd_x (μ : am_I) (k x : Nat) (v : Int32) : Int32 := if am_rd μ 18 (5 * k + x) = 0 then v else v + 1
def fr_owd (μ : am_I) (x y : Int32) : Int32 := if fr_lnk μ x y = 0 then -1 else am_it (fr_owd_x μ (5 * x.toNatClampNeg + y.toNatClampNeg)) 5 0
def fr_cnt (μ : am_I) (x : Int32) : Int32 := if x < 0 then -1 else if 6 < x then -1 else am_rd μ 9 x.toNatClampNeg
theorem q_neighbour {d : Nat} {Q : am_Q} {K : am_K} {sc : am_Sc} {c : am_M} {μ : am_I} {p : am_P} {x y : Int32} (hd : 3 ≤ d) (T : am_TQ K p)  (hq : Q (K, sc, c, (μ, p)) (some (.inl (fr_nei μ x y)))) : am_call d 89 [.inr (some 163), .inl x, .inl y] (K, sc, c, (μ, p)) Q := by
  obtain ⟨d, rfl⟩ : ∃ d', d = d' + 1 := ⟨d - 1, by omega⟩
  refine r_enter (by decide) (Nat.le_of_ble_eq_true rfl) (ls := [some (.inr (some 163)), some (.inl x), some (.inl y), none]) rfl ?_
  refine r_aload at_89_0 rfl <| r_iload at_89_1 rfl <| r_iload at_89_2 rfl <| r_callV2i at_89_3 (T.me) (Nat.le_of_ble_eq_true rfl) (fun _ hq => q_linked (by omega) T hq) <| r_ifne at_89_6 (fun h6_1 => ?_) (fun h6_1 => ?_)
  · refine r_push at_89_9 <| ?_
    refine r_iret at_89_10 ?_
    have e : fr_nei μ x y = (-1) := by simp only [fr_nei, if_pos h6_1]
    rw [e] at hq
    exact hq
  · obtain ⟨a, b, ha, hb, rfl, rfl, hab⟩ := fr_lnk_of h6_1
    refine r_push at_89_11 <| r_iload at_89_12 rfl <| r_mulN 5 a at_89_13 rfl rfl <| r_iload at_89_14 rfl <| r_addN (5 * a) b at_89_15 rfl rfl <| r_istoreL (ls' := [_, _, _, _]) at_89_16 rfl <| r_aload at_89_17 rfl <| q_arr 6 T at_89_18 (by decide) <| r_iload at_89_21 rfl <| q_ald 6 (5 * a + b) T at_89_22 (by decide) rfl (by omega) (by decide) <| r_ifeq at_89_23 (fun h23_2 => ?_) (fun h23_2 => ?_)
    · refine r_aload at_89_30 rfl <| q_arr 3 T at_89_31 (by decide) <| r_iload at_89_34 rfl <| q_ald 3 (5 * a + b) T at_89_35 (by decide) rfl (by omega) (by decide) <| r_ifeq at_89_36 (fun h36_3 => ?_) (fun h36_3 => ?_)
      · refine r_push at_89_43 <| ?_
        refine r_iret at_89_44 ?_
        have e : fr_nei μ (nI a) (nI b) = 0 := by simp only [fr_nei, if_neg h6_1, if_pos h23_2, if_pos h36_3, nI_clamp (show a < 2 ^ 31 by omega), nI_clamp (show b < 2 ^ 31 by omega)]
        rw [e] at hq
        exact hq
      · refine r_push at_89_39 <| r_goto at_89_40 <| ?_
        refine r_iret at_89_44 ?_
        have e : fr_nei μ (nI a) (nI b) = 1 := by simp only [fr_nei, if_neg h6_1, if_pos h23_2, if_neg h36_3, nI_clamp (show a < 2 ^ 31 by omega), nI_clamp (show b < 2 ^ 31 by omega)]
        rw [e] at hq
        exact hq
    · refine r_push at_89_26 <| r_goto at_89_27 <| ?_
      refine r_iret at_89_44 ?_
      have e : fr_nei μ (nI a) (nI b) = 2 := by simp only [fr_nei, if_neg h6_1, if_neg h23_2, nI_clamp (show a < 2 ^ 31 by omega), nI_clamp (show b < 2 ^ 31 by omega)]
      rw [e] at hq
      exact hq
theorem q_number {d : Nat} {Q : am_Q} {K : am_K} {sc : am_Sc} {c : am_M} {μ : am_I} {p : am_P} {x y : Int32} (hd : 2 ≤ d) (T : am_TQ K p)  (hq : Q (K, sc, c, (μ, p)) (some (.inl (fr_num μ x y)))) : am_call d 90 [.inr (some 163), .inl x, .inl y] (K, sc, c, (μ, p)) Q := by
  obtain ⟨d, rfl⟩ : ∃ d', d = d' + 1 := ⟨d - 1, by omega⟩
  refine r_enter (by decide) (Nat.le_of_ble_eq_true rfl) (ls := [some (.inr (some 163)), some (.inl x), some (.inl y)]) rfl ?_
  refine r_iload at_90_0 rfl <| r_callS1i at_90_1 (Nat.le_of_ble_eq_true rfl) (fun _ hq => q_router (by omega) hq) <| r_ifeq at_90_4 (fun h4_1 => ?_) (fun h4_1 => ?_)
  · refine r_push at_90_27 <| ?_
    refine r_iret at_90_28 ?_
    have e : fr_num μ x y = (-1) := by simp only [fr_num, if_pos h4_1]
    rw [e] at hq
    exact hq
  · refine r_iload at_90_7 rfl <| r_callS1i at_90_8 (Nat.le_of_ble_eq_true rfl) (fun _ hq => q_router (by omega) hq) <| r_ifeq at_90_11 (fun h11_2 => ?_) (fun h11_2 => ?_)
    · refine r_push at_90_27 <| ?_
      refine r_iret at_90_28 ?_
      have e : fr_num μ x y = (-1) := by simp only [fr_num, if_neg h4_1, if_pos h11_2]
      rw [e] at hq
      exact hq
    · obtain ⟨a, ha, rfl⟩ := fr_rtr_of h4_1
      obtain ⟨b, hb, rfl⟩ := fr_rtr_of h11_2
      refine r_aload at_90_14 rfl <| q_arr 10 T at_90_15 (by decide) <| r_push at_90_18 <| r_iload at_90_19 rfl <| r_mulN 5 a at_90_20 rfl rfl <| r_iload at_90_21 rfl <| r_addN (5 * a) b at_90_22 rfl rfl <| q_ald 10 (5 * a + b) T at_90_23 (by decide) rfl (by omega) (by decide) <| r_goto at_90_24 <| ?_
      refine r_iret at_90_28 ?_
      have e : fr_num μ (nI a) (nI b) = (am_rd μ 10 (5 * a + b)) := by simp only [fr_num, if_neg h4_1, if_neg h11_2, nI_clamp (show a < 2 ^ 31 by omega), nI_clamp (show b < 2 ^ 31 by omega)]
      rw [e] at hq
      exact hq
theorem q_age {d : Nat} {Q : am_Q} {K : am_K} {sc : am_Sc} {c : am_M} {μ : am_I} {p : am_P} {x y : Int32} (hd : 2 ≤ d) (T : am_TQ K p)  (hq : Q (K, sc, c, (μ, p)) (some (.inl (fr_age μ x y)))) : am_call d 91 [.inr (some 163), .inl x, .inl y] (K, sc, c, (μ, p)) Q := by
  obtain ⟨d, rfl⟩ : ∃ d', d = d' + 1 := ⟨d - 1, by omega⟩
  refine r_enter (by decide) (Nat.le_of_ble_eq_true rfl) (ls := [some (.inr (some 163)), some (.inl x), some (.inl y)]) rfl ?_
  refine r_iload at_91_0 rfl <| r_callS1i at_91_1 (Nat.le_of_ble_eq_true rfl) (fun _ hq => q_router (by omega) hq) <| r_ifeq at_91_4 (fun h4_1 => ?_) (fun h4_1 => ?_)
  · refine r_push at_91_45 <| ?_
    refine r_iret at_91_46 ?_
    have e : fr_age μ x y = (-1) := by simp only [fr_age, if_pos h4_1]
    rw [e] at hq
    exact hq
  · refine r_iload at_91_7 rfl <| r_callS1i at_91_8 (Nat.le_of_ble_eq_true rfl) (fun _ hq => q_router (by omega) hq) <| r_ifeq at_91_11 (fun h11_2 => ?_) (fun h11_2 => ?_)
    · refine r_push at_91_45 <| ?_
      refine r_iret at_91_46 ?_
      have e : fr_age μ x y = (-1) := by simp only [fr_age, if_neg h4_1, if_pos h11_2]
      rw [e] at hq
      exact hq
    · obtain ⟨a, ha, rfl⟩ := fr_rtr_of h4_1
      obtain ⟨b, hb, rfl⟩ := fr_rtr_of h11_2
      refine r_aload at_91_14 rfl <| q_arr 10 T at_91_15 (by decide) <| r_push at_91_18 <| r_iload at_91_19 rfl <| r_mulN 5 a at_91_20 rfl rfl <| r_iload at_91_21 rfl <| r_addN (5 * a) b at_91_22 rfl rfl <| q_ald 10 (5 * a + b) T at_91_23 (by decide) rfl (by omega) (by decide) <| r_ifle at_91_24 (fun h24_3 => ?_) (fun h24_3 => ?_)
      · refine r_aload at_91_27 rfl <| q_ck T at_91_28 <| r_aload at_91_31 rfl <| q_arr 11 T at_91_32 (by decide) <| r_push at_91_35 <| r_iload at_91_36 rfl <| r_mulN 5 a at_91_37 rfl rfl <| r_iload at_91_38 rfl <| r_addN (5 * a) b at_91_39 rfl rfl <| q_ald 11 (5 * a + b) T at_91_40 (by decide) rfl (by omega) (by decide) <| r_bin at_91_41 <| r_goto at_91_42 <| ?_
        refine r_iret at_91_46 ?_
        have e : fr_age μ (nI a) (nI b) = ((am_ck μ) - (am_rd μ 11 (5 * a + b))) := by simp only [fr_age, if_neg h4_1, if_neg h11_2, if_pos h24_3, nI_clamp (show a < 2 ^ 31 by omega), nI_clamp (show b < 2 ^ 31 by omega)]
        rw [e] at hq
        exact hq
      · refine r_push at_91_45 <| ?_
        refine r_iret at_91_46 ?_
        have e : fr_age μ (nI a) (nI b) = (-1) := by simp only [fr_age, if_neg h4_1, if_neg h11_2, if_neg h24_3, nI_clamp (show a < 2 ^ 31 by omega), nI_clamp (show b < 2 ^ 31 by omega)]
        rw [e] at hq
        exact hq
theorem q_listed {d : Nat} {Q : am_Q} {K : am_K} {sc : am_Sc} {c : am_M} {μ : am_I} {p : am_P} {x y z : Int32} (hd : 2 ≤ d) (T : am_TQ K p)  (hq : Q (K, sc, c, (μ, p)) (some (.inl (fr_lis μ x y z)))) : am_call d 92 [.inr (some 163), .inl x, .inl y, .inl z] (K, sc, c, (μ, p)) Q := by
  obtain ⟨d, rfl⟩ : ∃ d', d = d' + 1 := ⟨d - 1, by omega⟩
  refine r_enter (by decide) (Nat.le_of_ble_eq_true rfl) (ls := [some (.inr (some 163)), some (.inl x), some (.inl y), some (.inl z)]) rfl ?_
  refine r_iload at_92_0 rfl <| r_callS1i at_92_1 (Nat.le_of_ble_eq_true rfl) (fun _ hq => q_router (by omega) hq) <| r_ifeq at_92_4 (fun h4_1 => ?_) (fun h4_1 => ?_)
  · refine r_push at_92_51 <| ?_
    refine r_iret at_92_52 ?_
    have e : fr_lis μ x y z = (-1) := by simp only [fr_lis, if_pos h4_1]
    rw [e] at hq
    exact hq
  · refine r_iload at_92_7 rfl <| r_callS1i at_92_8 (Nat.le_of_ble_eq_true rfl) (fun _ hq => q_router (by omega) hq) <| r_ifeq at_92_11 (fun h11_2 => ?_) (fun h11_2 => ?_)
    · refine r_push at_92_51 <| ?_
      refine r_iret at_92_52 ?_
      have e : fr_lis μ x y z = (-1) := by simp only [fr_lis, if_neg h4_1, if_pos h11_2]
      rw [e] at hq
      exact hq
    · refine r_iload at_92_14 rfl <| r_callS1i at_92_15 (Nat.le_of_ble_eq_true rfl) (fun _ hq => q_router (by omega) hq) <| r_ifeq at_92_18 (fun h18_3 => ?_) (fun h18_3 => ?_)
      · refine r_push at_92_51 <| ?_
        refine r_iret at_92_52 ?_
        have e : fr_lis μ x y z = (-1) := by simp only [fr_lis, if_neg h4_1, if_neg h11_2, if_pos h18_3]
        rw [e] at hq
        exact hq
      · obtain ⟨a, ha, rfl⟩ := fr_rtr_of h4_1
        obtain ⟨b, hb, rfl⟩ := fr_rtr_of h11_2
        obtain ⟨e, he, rfl⟩ := fr_rtr_of h18_3
        refine r_aload at_92_21 rfl <| q_arr 10 T at_92_22 (by decide) <| r_push at_92_25 <| r_iload at_92_26 rfl <| r_mulN 5 a at_92_27 rfl rfl <| r_iload at_92_28 rfl <| r_addN (5 * a) b at_92_29 rfl rfl <| q_ald 10 (5 * a + b) T at_92_30 (by decide) rfl (by omega) (by decide) <| r_ifle at_92_31 (fun h31_4 => ?_) (fun h31_4 => ?_)
        · refine r_aload at_92_34 rfl <| q_arr 12 T at_92_35 (by decide) <| r_push at_92_38 <| r_push at_92_39 <| r_iload at_92_40 rfl <| r_mulN 5 a at_92_41 rfl rfl <| r_iload at_92_42 rfl <| r_addN (5 * a) b at_92_43 rfl rfl <| r_mulN 5 (5 * a + b) at_92_44 rfl rfl <| r_iload at_92_45 rfl <| r_addN (5 * (5 * a + b)) e at_92_46 rfl rfl <| q_ald 12 (5 * (5 * a + b) + e) T at_92_47 (by decide) rfl (by omega) (by decide) <| r_goto at_92_48 <| ?_
          refine r_iret at_92_52 ?_
          have e : fr_lis μ (nI a) (nI b) (nI e) = (am_rd μ 12 (5 * (5 * a + b) + e)) := by simp only [fr_lis, if_neg h4_1, if_neg h11_2, if_neg h18_3, if_pos h31_4, nI_clamp (show a < 2 ^ 31 by omega), nI_clamp (show b < 2 ^ 31 by omega), nI_clamp (show e < 2 ^ 31 by omega)]
          rw [e] at hq
          exact hq
        · refine r_push at_92_51 <| ?_
          refine r_iret at_92_52 ?_
          have e : fr_lis μ (nI a) (nI b) (nI e) = (-1) := by simp only [fr_lis, if_neg h4_1, if_neg h11_2, if_neg h18_3, if_neg h31_4, nI_clamp (show a < 2 ^ 31 by omega), nI_clamp (show b < 2 ^ 31 by omega), nI_clamp (show e < 2 ^ 31 by omega)]
          rw [e] at hq
          exact hq
theorem q_owed {d : Nat} {Q : am_Q} {K : am_K} {sc : am_Sc} {c : am_M} {μ : am_I} {p : am_P} {x y : Int32} (hd : 3 ≤ d) (T : am_TQ K p)  (hq : Q (K, sc, c, (μ, p)) (some (.inl (fr_owd μ x y)))) : am_call d 93 [.inr (some 163), .inl x, .inl y] (K, sc, c, (μ, p)) Q := by
  obtain ⟨d, rfl⟩ : ∃ d', d = d' + 1 := ⟨d - 1, by omega⟩
  refine r_enter (by decide) (Nat.le_of_ble_eq_true rfl) (ls := [some (.inr (some 163)), some (.inl x), some (.inl y), none, none]) rfl ?_
  refine r_aload at_93_0 rfl <| r_iload at_93_1 rfl <| r_iload at_93_2 rfl <| r_callV2i at_93_3 (T.me) (Nat.le_of_ble_eq_true rfl) (fun _ hq => q_linked (by omega) T hq) <| r_ifne at_93_6 (fun h6_1 => ?_) (fun h6_1 => ?_)
  · refine r_push at_93_9 <| ?_
    refine r_iret at_93_10 ?_
    have e : fr_owd μ x y = (-1) := by simp only [fr_owd, if_pos h6_1]
    rw [e] at hq
    exact hq
  · obtain ⟨a, b, ha, hb, rfl, rfl, hab⟩ := fr_lnk_of h6_1
    refine r_push at_93_11 <| r_istoreL (ls' := [_, _, _, _, _]) at_93_12 rfl <| r_push at_93_13 <| r_istoreL (ls' := [_, _, _, _, _]) at_93_14 rfl <| ?_
    refine am_for 5 (fun x z => am_w d 93 Q 16 [some (.inr (some 163)), some (.inl (nI a)), some (.inl (nI b)), some (.inl z), some (.inl (nI x))] [] (K, sc, c, (μ, p))) (fr_owd_x μ (5 * a + b)) (fun x hi_x z hk_x => ?_) 0 ?_
    · refine r_iload at_93_16 rfl <| r_push at_93_18 <| r_cmgeNT x 5 at_93_19 rfl rfl (by omega) (by omega) (by omega) <| ?_
      refine r_aload at_93_22 rfl <| q_arr 18 T at_93_23 (by decide) <| r_push at_93_26 <| r_push at_93_27 <| r_iload at_93_28 rfl <| r_mulN 5 a at_93_29 rfl rfl <| r_iload at_93_30 rfl <| r_addN (5 * a) b at_93_31 rfl rfl <| r_mulN 5 (5 * a + b) at_93_32 rfl rfl <| r_iload at_93_33 rfl <| r_addN (5 * (5 * a + b)) x at_93_35 rfl rfl <| q_ald 18 (5 * (5 * a + b) + x) T at_93_36 (by decide) rfl (by omega) (by decide) <| r_ifeq at_93_37 (fun h37_2 => ?_) (fun h37_2 => ?_)
      · refine r_iload at_93_46 rfl <| r_istoreL (ls' := [_, _, _, _, _]) at_93_47 rfl <| r_iincNL (ls' := [_, _, _, _, _]) x at_93_48 rfl rfl <| r_goto at_93_51 <| ?_
        have e : (fr_owd_x μ (5 * a + b)) x z = z := by simp only [fr_owd_x, if_pos h37_2]
        rw [e] at hk_x
        exact hk_x
      · refine r_iload at_93_40 rfl <| r_push at_93_41 <| r_bin at_93_42 <| r_goto at_93_43 <| r_istoreL (ls' := [_, _, _, _, _]) at_93_47 rfl <| r_iincNL (ls' := [_, _, _, _, _]) x at_93_48 rfl rfl <| r_goto at_93_51 <| ?_
        have e : (fr_owd_x μ (5 * a + b)) x z = (z + 1) := by simp only [fr_owd_x, if_neg h37_2]
        rw [e] at hk_x
        exact hk_x
    · generalize hz16 : am_it (fr_owd_x μ (5 * a + b)) 5 0 = y16
      refine r_iload at_93_16 rfl <| r_push at_93_18 <| r_cmgeNF 5 5 at_93_19 rfl rfl (by omega) (by omega) (by omega) <| ?_
      refine r_iload at_93_54 rfl <| ?_
      refine r_iret at_93_55 ?_
      have e : fr_owd μ (nI a) (nI b) = y16 := by simp only [fr_owd, if_neg h6_1, hz16, nI_clamp (show a < 2 ^ 31 by omega), nI_clamp (show b < 2 ^ 31 by omega)]
      rw [e] at hq
      exact hq
theorem q_count {d : Nat} {Q : am_Q} {K : am_K} {sc : am_Sc} {c : am_M} {μ : am_I} {p : am_P} {x : Int32} (hd : 1 ≤ d) (T : am_TQ K p)  (hq : Q (K, sc, c, (μ, p)) (some (.inl (fr_cnt μ x)))) : am_call d 100 [.inr (some 163), .inl x] (K, sc, c, (μ, p)) Q := by
  obtain ⟨d, rfl⟩ : ∃ d', d = d' + 1 := ⟨d - 1, by omega⟩
  refine r_enter (by decide) (Nat.le_of_ble_eq_true rfl) (ls := [some (.inr (some 163)), some (.inl x)]) rfl ?_
  refine r_iload at_100_0 rfl <| r_iflt at_100_1 (fun h1_1 => ?_) (fun h1_1 => ?_)
  · refine r_push at_100_10 <| r_goto at_100_11 <| ?_
    refine r_iret at_100_20 ?_
    have e : fr_cnt μ x = (-1) := by simp only [fr_cnt, if_pos h1_1]
    rw [e] at hq
    exact hq
  · refine r_iload at_100_4 rfl <| r_push at_100_5 <| r_cmle at_100_7 (fun h7_2 => ?_) (fun h7_2 => ?_)
    · refine r_push at_100_10 <| r_goto at_100_11 <| ?_
      refine r_iret at_100_20 ?_
      have e : fr_cnt μ x = (-1) := by simp only [fr_cnt, if_neg h1_1, if_pos h7_2]
      rw [e] at hq
      exact hq
    · obtain ⟨a, ha, rfl⟩ := nI_of2 (M := 6) (n := 6) (by decide) h1_1 (Int32.not_lt.mp h7_2)
      refine r_aload at_100_14 rfl <| q_arr 9 T at_100_15 (by decide) <| r_iload at_100_18 rfl <| q_ald 9 a T at_100_19 (by decide) rfl (by omega) (by decide) <| ?_
      refine r_iret at_100_20 ?_
      have e : fr_cnt μ (nI a) = (am_rd μ 9 a) := by simp only [fr_cnt, if_neg h1_1, if_neg h7_2, nI_clamp (show a < 2 ^ 31 by omega)]
      rw [e] at hq
      exact hq
def fr_bth (μ : am_I) (r u v : Nat) : Int32 := if 0 < am_rd μ 10 (5 * r + u) then if 0 < am_rd μ 10 (5 * r + v) then if 0 < am_rd μ 12 (5 * (5 * r + v) + u) then 1 else 0 else 0 else 0
def fr_edge (μ : am_I) (r u v : Nat) : Int32 := if fr_bth μ r u v = 0 then 1000 else if 0 < am_rd μ 12 (5 * (5 * r + u) + v) then am_rd μ 12 (5 * (5 * r + u) + v) else 1000
def fr_ms_i (r k : Nat) (μ : am_I) : am_I := am_wr μ 23 k (if nI (k % 6) = 0 then 0 else fr_edge μ r (k / 5) (k % 5))
def fr_ms_k (w k : Nat) (μ : am_I) : am_I := am_wr μ 23 k (if am_rd μ 23 (k / 5 * 5 + w) + am_rd μ 23 (5 * w + k % 5) < am_rd μ 23 k then am_rd μ 23 (k / 5 * 5 + w) + am_rd μ 23 (5 * w + k % 5) else am_rd μ 23 k)
def fr_ms_w (w : Nat) (μ : am_I) : am_I := am_it (fr_ms_k w) 25 μ
def fr_ms (μ : am_I) (r : Nat) : am_I := am_it fr_ms_w 5 (am_it (fr_ms_i r) 25 μ)
def fr_dst (μ : am_I) (x y : Int32) : am_I × Int32 := if fr_rtr x = 0 then (μ, -1) else if fr_rtr y = 0 then (μ, -1) else if am_rd μ 0 x.toNatClampNeg = 0 then (fr_ms μ x.toNatClampNeg, if am_rd (fr_ms μ x.toNatClampNeg) 23 (5 * x.toNatClampNeg + y.toNatClampNeg) < 1000 then am_rd (fr_ms μ x.toNatClampNeg) 23 (5 * x.toNatClampNeg + y.toNatClampNeg) else -1) else (μ, -1)
theorem q_edge {d : Nat} {Q : am_Q} {K : am_K} {sc : am_Sc} {c : am_M} {μ : am_I} {p : am_P} {r u v : Nat} (hd : 1 ≤ d) (T : am_TQ K p) (hr : r < 5) (hu : u < 5) (hv : v < 5) (hq : Q (K, sc, c, (μ, p)) (some (.inl (fr_edge μ r u v)))) : am_call d 94 [.inr (some 163), .inl (nI r), .inl (nI u), .inl (nI v)] (K, sc, c, (μ, p)) Q := by
  obtain ⟨d, rfl⟩ : ∃ d', d = d' + 1 := ⟨d - 1, by omega⟩
  refine r_enter (by decide) (Nat.le_of_ble_eq_true rfl) (ls := [some (.inr (some 163)), some (.inl (nI r)), some (.inl (nI u)), some (.inl (nI v)), none, none]) rfl ?_
  refine r_aload at_94_0 rfl <| q_arr 10 T at_94_1 (by decide) <| r_push at_94_4 <| r_iload at_94_5 rfl <| r_mulN 5 r at_94_6 rfl rfl <| r_iload at_94_7 rfl <| r_addN (5 * r) u at_94_8 rfl rfl <| q_ald 10 (5 * r + u) T at_94_9 (by decide) rfl (by omega) (by decide) <| r_ifle at_94_10 (fun h10_1 => ?_) (fun h10_1 => ?_)
  · refine r_aload at_94_13 rfl <| q_arr 10 T at_94_14 (by decide) <| r_push at_94_17 <| r_iload at_94_18 rfl <| r_mulN 5 r at_94_19 rfl rfl <| r_iload at_94_20 rfl <| r_addN (5 * r) v at_94_21 rfl rfl <| q_ald 10 (5 * r + v) T at_94_22 (by decide) rfl (by omega) (by decide) <| r_ifle at_94_23 (fun h23_2 => ?_) (fun h23_2 => ?_)
    · refine r_aload at_94_26 rfl <| q_arr 12 T at_94_27 (by decide) <| r_push at_94_30 <| r_push at_94_31 <| r_iload at_94_32 rfl <| r_mulN 5 r at_94_33 rfl rfl <| r_iload at_94_34 rfl <| r_addN (5 * r) v at_94_35 rfl rfl <| r_mulN 5 (5 * r + v) at_94_36 rfl rfl <| r_iload at_94_37 rfl <| r_addN (5 * (5 * r + v)) u at_94_38 rfl rfl <| q_ald 12 (5 * (5 * r + v) + u) T at_94_39 (by decide) rfl (by omega) (by decide) <| r_ifle at_94_40 (fun h40_3 => ?_) (fun h40_3 => ?_)
      · refine r_push at_94_43 <| r_goto at_94_44 <| r_istoreL (ls' := [_, _, _, _, _, _]) at_94_48 rfl <| r_aload at_94_50 rfl <| q_arr 12 T at_94_51 (by decide) <| r_push at_94_54 <| r_push at_94_55 <| r_iload at_94_56 rfl <| r_mulN 5 r at_94_57 rfl rfl <| r_iload at_94_58 rfl <| r_addN (5 * r) u at_94_59 rfl rfl <| r_mulN 5 (5 * r + u) at_94_60 rfl rfl <| r_iload at_94_61 rfl <| r_addN (5 * (5 * r + u)) v at_94_62 rfl rfl <| q_ald 12 (5 * (5 * r + u) + v) T at_94_63 (by decide) rfl (by omega) (by decide) <| r_istoreL (ls' := [_, _, _, _, _, _]) at_94_64 rfl <| r_iload at_94_66 rfl <| r_ifeqF at_94_68 (by decide) <| r_iload at_94_71 rfl <| r_ifle at_94_73 (fun h73_4 => ?_) (fun h73_4 => ?_)
        · refine r_iload at_94_76 rfl <| r_goto at_94_78 <| ?_
          refine r_iret at_94_84 ?_
          have e : fr_edge μ r u v = (am_rd μ 12 (5 * (5 * r + u) + v)) := by simp only [fr_edge, fr_bth, if_pos h10_1, if_pos h23_2, if_pos h40_3, if_pos h73_4, if_true, if_neg (show ¬ (1 : Int32) = 0 by decide)]
          rw [e] at hq
          exact hq
        · refine r_push at_94_81 <| ?_
          refine r_iret at_94_84 ?_
          have e : fr_edge μ r u v = 1000 := by simp only [fr_edge, fr_bth, if_pos h10_1, if_pos h23_2, if_pos h40_3, if_neg h73_4, if_true, if_neg (show ¬ (1 : Int32) = 0 by decide)]
          rw [e] at hq
          exact hq
      · refine r_push at_94_47 <| r_istoreL (ls' := [_, _, _, _, _, _]) at_94_48 rfl <| r_aload at_94_50 rfl <| q_arr 12 T at_94_51 (by decide) <| r_push at_94_54 <| r_push at_94_55 <| r_iload at_94_56 rfl <| r_mulN 5 r at_94_57 rfl rfl <| r_iload at_94_58 rfl <| r_addN (5 * r) u at_94_59 rfl rfl <| r_mulN 5 (5 * r + u) at_94_60 rfl rfl <| r_iload at_94_61 rfl <| r_addN (5 * (5 * r + u)) v at_94_62 rfl rfl <| q_ald 12 (5 * (5 * r + u) + v) T at_94_63 (by decide) rfl (by omega) (by decide) <| r_istoreL (ls' := [_, _, _, _, _, _]) at_94_64 rfl <| r_iload at_94_66 rfl <| r_ifeqT at_94_68 (by decide) <| r_push at_94_81 <| ?_
        refine r_iret at_94_84 ?_
        have e : fr_edge μ r u v = 1000 := by simp only [fr_edge, fr_bth, if_pos h10_1, if_pos h23_2, if_neg h40_3, if_true, if_neg (show ¬ (1 : Int32) = 0 by decide)]
        rw [e] at hq
        exact hq
    · refine r_push at_94_47 <| r_istoreL (ls' := [_, _, _, _, _, _]) at_94_48 rfl <| r_aload at_94_50 rfl <| q_arr 12 T at_94_51 (by decide) <| r_push at_94_54 <| r_push at_94_55 <| r_iload at_94_56 rfl <| r_mulN 5 r at_94_57 rfl rfl <| r_iload at_94_58 rfl <| r_addN (5 * r) u at_94_59 rfl rfl <| r_mulN 5 (5 * r + u) at_94_60 rfl rfl <| r_iload at_94_61 rfl <| r_addN (5 * (5 * r + u)) v at_94_62 rfl rfl <| q_ald 12 (5 * (5 * r + u) + v) T at_94_63 (by decide) rfl (by omega) (by decide) <| r_istoreL (ls' := [_, _, _, _, _, _]) at_94_64 rfl <| r_iload at_94_66 rfl <| r_ifeqT at_94_68 (by decide) <| r_push at_94_81 <| ?_
      refine r_iret at_94_84 ?_
      have e : fr_edge μ r u v = 1000 := by simp only [fr_edge, fr_bth, if_pos h10_1, if_neg h23_2, if_true, if_neg (show ¬ (1 : Int32) = 0 by decide)]
      rw [e] at hq
      exact hq
  · refine r_push at_94_47 <| r_istoreL (ls' := [_, _, _, _, _, _]) at_94_48 rfl <| r_aload at_94_50 rfl <| q_arr 12 T at_94_51 (by decide) <| r_push at_94_54 <| r_push at_94_55 <| r_iload at_94_56 rfl <| r_mulN 5 r at_94_57 rfl rfl <| r_iload at_94_58 rfl <| r_addN (5 * r) u at_94_59 rfl rfl <| r_mulN 5 (5 * r + u) at_94_60 rfl rfl <| r_iload at_94_61 rfl <| r_addN (5 * (5 * r + u)) v at_94_62 rfl rfl <| q_ald 12 (5 * (5 * r + u) + v) T at_94_63 (by decide) rfl (by omega) (by decide) <| r_istoreL (ls' := [_, _, _, _, _, _]) at_94_64 rfl <| r_iload at_94_66 rfl <| r_ifeqT at_94_68 (by decide) <| r_push at_94_81 <| ?_
    refine r_iret at_94_84 ?_
    have e : fr_edge μ r u v = 1000 := by simp only [fr_edge, fr_bth, if_neg h10_1, if_true, if_neg (show ¬ (1 : Int32) = 0 by decide)]
    rw [e] at hq
    exact hq
theorem q_measure {d : Nat} {Q : am_Q} {K : am_K} {sc : am_Sc} {c : am_M} {μ : am_I} {p : am_P} {r : Nat} (hd : 2 ≤ d) (T : am_TQ K p) (hr : r < 5) (hq : Q (K, sc, c, (fr_ms μ r, p)) none) : am_call d 95 [.inr (some 163), .inl (nI r)] (K, sc, c, (μ, p)) Q := by
  obtain ⟨d, rfl⟩ : ∃ d', d = d' + 1 := ⟨d - 1, by omega⟩
  refine r_enter (by decide) (Nat.le_of_ble_eq_true rfl) (ls := [some (.inr (some 163)), some (.inl (nI r)), none, none, none]) rfl ?_
  refine r_push at_95_0 <| r_istoreL (ls' := [_, _, _, _, _]) at_95_1 rfl <| ?_
  refine am_for 25 (fun k z => ∀ u3 u4 : Option am_V, am_w d 95 Q 2 [some (.inr (some 163)), some (.inl (nI r)), some (.inl (nI k)), u3, u4] [] (K, sc, c, (z, p))) (fr_ms_i r) (fun k hi_k z hk_k => ?_) μ ?_ none none
  · intro u3 u4
    refine r_iload at_95_2 rfl <| r_push at_95_3 <| r_cmgeNT k 25 at_95_5 rfl rfl (by omega) (by omega) (by omega) <| ?_
    refine r_aload at_95_8 rfl <| q_arr 23 T at_95_9 (by decide) <| r_iload at_95_12 rfl <| r_iload at_95_13 rfl <| r_push at_95_14 <| r_remN k 6 at_95_16 rfl rfl (by omega) (by decide) (by decide) <| r_ifne at_95_17 (fun h17_1 => ?_) (fun h17_1 => ?_)
    · refine r_push at_95_20 <| r_goto at_95_21 <| q_ast 23 k T at_95_35 (by decide) rfl (by omega) (by decide) <| r_iincNL (ls' := [_, _, _, _, _]) k at_95_36 rfl rfl <| r_goto at_95_39 <| ?_
      have e : (fr_ms_i r) k z = am_wr z 23 k 0 := by simp only [fr_ms_i, if_pos h17_1]
      rw [e] at hk_k
      exact hk_k _ _
    · refine r_aload at_95_24 rfl <| r_iload at_95_25 rfl <| r_iload at_95_26 rfl <| r_push at_95_27 <| r_divN k 5 at_95_28 rfl rfl (by omega) (by decide) (by decide) <| r_iload at_95_29 rfl <| r_push at_95_30 <| r_remN k 5 at_95_31 rfl rfl (by omega) (by decide) (by decide) <| r_callV3i at_95_32 (T.me) (Nat.le_of_ble_eq_true rfl) (fun _ hq => q_edge (by omega) T (by omega) (by omega) (by omega) hq) <| q_ast 23 k T at_95_35 (by decide) rfl (by omega) (by decide) <| r_iincNL (ls' := [_, _, _, _, _]) k at_95_36 rfl rfl <| r_goto at_95_39 <| ?_
      have e : (fr_ms_i r) k z = am_wr z 23 k (fr_edge z r (k / 5) (k % 5)) := by simp only [fr_ms_i, if_neg h17_1]
      rw [e] at hk_k
      exact hk_k _ _
  · intro u3 u4
    generalize hz2 : am_it (fr_ms_i r) 25 μ = y2
    refine r_iload at_95_2 rfl <| r_push at_95_3 <| r_cmgeNF 25 25 at_95_5 rfl rfl (by omega) (by omega) (by omega) <| ?_
    refine r_push at_95_42 <| r_istoreL (ls' := [_, _, _, _, _]) at_95_43 rfl <| ?_
    refine am_for 5 (fun w z => ∀ u3 u4 : Option am_V, am_w d 95 Q 44 [some (.inr (some 163)), some (.inl (nI r)), some (.inl (nI w)), u3, u4] [] (K, sc, c, (z, p))) (fr_ms_w) (fun w hi_w z hk_w => ?_) y2 ?_ u3 u4
    · intro u3 u4
      refine r_iload at_95_44 rfl <| r_push at_95_45 <| r_cmgeNT w 5 at_95_46 rfl rfl (by omega) (by omega) (by omega) <| ?_
      refine r_push at_95_49 <| r_istoreL (ls' := [_, _, _, _, _]) at_95_50 rfl <| ?_
      refine am_for 25 (fun k z => ∀ u4 : Option am_V, am_w d 95 Q 51 [some (.inr (some 163)), some (.inl (nI r)), some (.inl (nI w)), some (.inl (nI k)), u4] [] (K, sc, c, (z, p))) (fr_ms_k w) (fun k hi_k z hk_k => ?_) z ?_ u4
      · intro u4
        refine r_iload at_95_51 rfl <| r_push at_95_52 <| r_cmgeNT k 25 at_95_54 rfl rfl (by omega) (by omega) (by omega) <| ?_
        refine r_aload at_95_57 rfl <| q_arr 23 T at_95_58 (by decide) <| r_iload at_95_61 rfl <| r_push at_95_62 <| r_divN k 5 at_95_63 rfl rfl (by omega) (by decide) (by decide) <| r_push at_95_64 <| r_mulN (k / 5) 5 at_95_65 rfl rfl <| r_iload at_95_66 rfl <| r_addN (k / 5 * 5) w at_95_67 rfl rfl <| q_ald 23 (k / 5 * 5 + w) T at_95_68 (by decide) rfl (by omega) (by decide) <| r_aload at_95_69 rfl <| q_arr 23 T at_95_70 (by decide) <| r_push at_95_73 <| r_iload at_95_74 rfl <| r_mulN 5 w at_95_75 rfl rfl <| r_iload at_95_76 rfl <| r_push at_95_77 <| r_remN k 5 at_95_78 rfl rfl (by omega) (by decide) (by decide) <| r_addN (5 * w) (k % 5) at_95_79 rfl rfl <| q_ald 23 (5 * w + k % 5) T at_95_80 (by decide) rfl (by omega) (by decide) <| r_bin at_95_81 <| r_istoreL (ls' := [_, _, _, _, _]) at_95_82 rfl <| r_aload at_95_84 rfl <| q_arr 23 T at_95_85 (by decide) <| r_iload at_95_88 rfl <| r_iload at_95_89 rfl <| r_aload at_95_91 rfl <| q_arr 23 T at_95_92 (by decide) <| r_iload at_95_95 rfl <| q_ald 23 k T at_95_96 (by decide) rfl (by omega) (by decide) <| r_cmge at_95_97 (fun h97_2 => ?_) (fun h97_2 => ?_)
        · refine r_iload at_95_100 rfl <| r_goto at_95_102 <| q_ast 23 k T at_95_111 (by decide) rfl (by omega) (by decide) <| r_iincNL (ls' := [_, _, _, _, _]) k at_95_112 rfl rfl <| r_goto at_95_115 <| ?_
          have e : (fr_ms_k w) k z = am_wr z 23 k ((am_rd z 23 (k / 5 * 5 + w)) + (am_rd z 23 (5 * w + k % 5))) := by simp only [fr_ms_k, if_pos h97_2]
          rw [e] at hk_k
          exact hk_k _
        · refine r_aload at_95_105 rfl <| q_arr 23 T at_95_106 (by decide) <| r_iload at_95_109 rfl <| q_ald 23 k T at_95_110 (by decide) rfl (by omega) (by decide) <| q_ast 23 k T at_95_111 (by decide) rfl (by omega) (by decide) <| r_iincNL (ls' := [_, _, _, _, _]) k at_95_112 rfl rfl <| r_goto at_95_115 <| ?_
          have e : (fr_ms_k w) k z = am_wr z 23 k (am_rd z 23 k) := by simp only [fr_ms_k, if_neg h97_2]
          rw [e] at hk_k
          exact hk_k _
      · intro u4
        generalize hz51 : am_it (fr_ms_k w) 25 z = y51
        refine r_iload at_95_51 rfl <| r_push at_95_52 <| r_cmgeNF 25 25 at_95_54 rfl rfl (by omega) (by omega) (by omega) <| ?_
        refine r_iincNL (ls' := [_, _, _, _, _]) w at_95_118 rfl rfl <| r_goto at_95_121 <| ?_
        have e : (fr_ms_w) w z = y51 := by simp only [fr_ms_w, hz51]
        rw [e] at hk_w
        exact hk_w _ _
    · intro u3 u4
      generalize hz44 : am_it (fr_ms_w) 5 y2 = y44
      refine r_iload at_95_44 rfl <| r_push at_95_45 <| r_cmgeNF 5 5 at_95_46 rfl rfl (by omega) (by omega) (by omega) <| ?_
      refine r_ret at_95_124 ?_
      have e : fr_ms μ r = y44 := by simp only [fr_ms, hz2, hz44]
      rw [e] at hq
      exact hq
theorem q_distance {d : Nat} {Q : am_Q} {K : am_K} {sc : am_Sc} {c : am_M} {μ : am_I} {p : am_P} {x y : Int32} (hd : 3 ≤ d) (T : am_TQ K p)  (hq : Q (K, sc, c, ((fr_dst μ x y).1, p)) (some (.inl ((fr_dst μ x y).2)))) : am_call d 96 [.inr (some 163), .inl x, .inl y] (K, sc, c, (μ, p)) Q := by
  obtain ⟨d, rfl⟩ : ∃ d', d = d' + 1 := ⟨d - 1, by omega⟩
  refine r_enter (by decide) (Nat.le_of_ble_eq_true rfl) (ls := [some (.inr (some 163)), some (.inl x), some (.inl y)]) rfl ?_
  refine r_iload at_96_0 rfl <| r_callS1i at_96_1 (Nat.le_of_ble_eq_true rfl) (fun _ hq => q_router (by omega) hq) <| r_ifeq at_96_4 (fun h4_1 => ?_) (fun h4_1 => ?_)
  · refine r_push at_96_23 <| ?_
    refine r_iret at_96_24 ?_
    have e : fr_dst μ x y = (μ, (-1)) := by simp only [fr_dst, if_pos h4_1]
    rw [e] at hq
    dsimp only at hq
    exact hq
  · refine r_iload at_96_7 rfl <| r_callS1i at_96_8 (Nat.le_of_ble_eq_true rfl) (fun _ hq => q_router (by omega) hq) <| r_ifeq at_96_11 (fun h11_2 => ?_) (fun h11_2 => ?_)
    · refine r_push at_96_23 <| ?_
      refine r_iret at_96_24 ?_
      have e : fr_dst μ x y = (μ, (-1)) := by simp only [fr_dst, if_neg h4_1, if_pos h11_2]
      rw [e] at hq
      dsimp only at hq
      exact hq
    · obtain ⟨a, ha, rfl⟩ := fr_rtr_of h4_1
      obtain ⟨b, hb, rfl⟩ := fr_rtr_of h11_2
      refine r_aload at_96_14 rfl <| q_arr 0 T at_96_15 (by decide) <| r_iload at_96_18 rfl <| q_ald 0 a T at_96_19 (by decide) rfl (by omega) (by decide) <| r_ifeq at_96_20 (fun h20_3 => ?_) (fun h20_3 => ?_)
      · refine r_aload at_96_25 rfl <| r_iload at_96_26 rfl <| r_callV1v at_96_27 (T.me) (Nat.le_of_ble_eq_true rfl) (fun _ hq => q_measure (by omega) T (by omega) hq) <| r_aload at_96_30 rfl <| q_arr 23 T at_96_31 (by decide) <| r_push at_96_34 <| r_iload at_96_35 rfl <| r_mulN 5 a at_96_36 rfl rfl <| r_iload at_96_37 rfl <| r_addN (5 * a) b at_96_38 rfl rfl <| q_ald 23 (5 * a + b) T at_96_39 (by decide) rfl (by omega) (by decide) <| r_push at_96_40 <| r_cmge at_96_43 (fun h43_4 => ?_) (fun h43_4 => ?_)
        · refine r_aload at_96_46 rfl <| q_arr 23 T at_96_47 (by decide) <| r_push at_96_50 <| r_iload at_96_51 rfl <| r_mulN 5 a at_96_52 rfl rfl <| r_iload at_96_53 rfl <| r_addN (5 * a) b at_96_54 rfl rfl <| q_ald 23 (5 * a + b) T at_96_55 (by decide) rfl (by omega) (by decide) <| r_goto at_96_56 <| ?_
          refine r_iret at_96_60 ?_
          have e : fr_dst μ (nI a) (nI b) = (fr_ms μ a, (am_rd (fr_ms μ a) 23 (5 * a + b))) := by simp only [fr_dst, if_neg h4_1, if_neg h11_2, if_pos h20_3, if_pos h43_4, nI_clamp (show a < 2 ^ 31 by omega), nI_clamp (show b < 2 ^ 31 by omega)]
          rw [e] at hq
          dsimp only at hq
          exact hq
        · refine r_push at_96_59 <| ?_
          refine r_iret at_96_60 ?_
          have e : fr_dst μ (nI a) (nI b) = (fr_ms μ a, (-1)) := by simp only [fr_dst, if_neg h4_1, if_neg h11_2, if_pos h20_3, if_neg h43_4, nI_clamp (show a < 2 ^ 31 by omega), nI_clamp (show b < 2 ^ 31 by omega)]
          rw [e] at hq
          dsimp only at hq
          exact hq
      · refine r_push at_96_23 <| ?_
        refine r_iret at_96_24 ?_
        have e : fr_dst μ (nI a) (nI b) = (μ, (-1)) := by simp only [fr_dst, if_neg h4_1, if_neg h11_2, if_neg h20_3, nI_clamp (show a < 2 ^ 31 by omega), nI_clamp (show b < 2 ^ 31 by omega)]
        rw [e] at hq
        dsimp only at hq
        exact hq

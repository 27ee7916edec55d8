theorem am_it_keep {α : Type} {P : α → Prop} {f : Nat → α → α} {n : Nat} {s : α} (h : ∀ i, i < n → ∀ s, P s → P (f i s)) (h0 : P s) : P (am_it f n s) := by
  induction n with
  | zero => exact h0
  | succ n ih => exact h n (Nat.lt_succ_self n) _ (ih (fun i hi s hs => h i (Nat.lt_succ_of_lt hi) s hs))
def fr_fg_i (k n : Nat) (μ : am_I) : am_I := am_wr μ 18 (5 * (5 * (k / 5) + n) + k % 5) 0
def fr_fg_b (k : Nat) (μ : am_I) : am_I := if 0 < am_rd μ 10 k then if am_ck μ - 40 < am_rd μ 11 k then μ else am_it (fr_fg_i k) 5 (am_wr μ 10 k 0) else μ
def fr_fg (μ : am_I) : am_I := am_it fr_fg_b 25 μ
theorem q_forget {d : Nat} {Q : am_Q} {K : am_K} {sc : am_Sc} {c : am_M} {μ : am_I} {p : am_P}  (hd : 1 ≤ d) (T : am_TQ K p)  (hq : Q (K, sc, c, (fr_fg μ, p)) none) : am_call d 81 [.inr (some 163)] (K, sc, c, (μ, p)) Q := by
  obtain ⟨d, rfl⟩ : ∃ d', d = d' + 1 := ⟨d - 1, by omega⟩
  refine r_enter (by decide) (Nat.le_of_ble_eq_true rfl) (ls := [some (.inr (some 163)), none, none]) rfl ?_
  refine r_push at_81_0 <| r_istoreL (ls' := [_, _, _]) at_81_1 rfl <| ?_
  refine am_for 25 (fun k z => ∀ u2 : Option am_V, am_w d 81 Q 2 [some (.inr (some 163)), some (.inl (nI k)), u2] [] (K, sc, c, (z, p))) (fr_fg_b) (fun k hi_k z hk_k => ?_) μ ?_ none
  · intro u2
    refine r_iload at_81_2 rfl <| r_push at_81_3 <| r_cmgeNT k 25 at_81_5 rfl rfl (by omega) (by omega) (by omega) <| ?_
    refine r_aload at_81_8 rfl <| q_arr 10 T at_81_9 (by decide) <| r_iload at_81_12 rfl <| q_ald 10 k T at_81_13 (by decide) rfl (by omega) (by decide) <| r_ifle at_81_14 (fun h14_1 => ?_) (fun h14_1 => ?_)
    · refine r_aload at_81_17 rfl <| q_arr 11 T at_81_18 (by decide) <| r_iload at_81_21 rfl <| q_ald 11 k T at_81_22 (by decide) rfl (by omega) (by decide) <| r_aload at_81_23 rfl <| q_ck T at_81_24 <| r_push at_81_27 <| r_bin at_81_29 <| r_cmgt at_81_30 (fun h30_2 => ?_) (fun h30_2 => ?_)
      · refine r_iincNL (ls' := [_, _, _]) k at_81_72 rfl rfl <| r_goto at_81_75 <| ?_
        have e : (fr_fg_b) k z = z := by simp only [fr_fg_b, if_pos h14_1, if_pos h30_2]
        rw [e] at hk_k
        exact hk_k _
      · refine r_aload at_81_33 rfl <| q_arr 10 T at_81_34 (by decide) <| r_iload at_81_37 rfl <| r_push at_81_38 <| q_ast 10 k T at_81_39 (by decide) rfl (by omega) (by decide) <| r_push at_81_40 <| r_istoreL (ls' := [_, _, _]) at_81_41 rfl <| ?_
        refine am_for 5 (fun n z => am_w d 81 Q 42 [some (.inr (some 163)), some (.inl (nI k)), some (.inl (nI n))] [] (K, sc, c, (z, p))) (fr_fg_i k) (fun n hi_n z hk_n => ?_) (am_wr z 10 k 0) ?_
        · refine r_iload at_81_42 rfl <| r_push at_81_43 <| r_cmgeNT n 5 at_81_44 rfl rfl (by omega) (by omega) (by omega) <| ?_
          refine r_aload at_81_47 rfl <| q_arr 18 T at_81_48 (by decide) <| r_push at_81_51 <| r_push at_81_52 <| r_iload at_81_53 rfl <| r_push at_81_54 <| r_divN k 5 at_81_55 rfl rfl (by omega) (by decide) (by decide) <| r_mulN 5 (k / 5) at_81_56 rfl rfl <| r_iload at_81_57 rfl <| r_addN (5 * (k / 5)) n at_81_58 rfl rfl <| r_mulN 5 (5 * (k / 5) + n) at_81_59 rfl rfl <| r_iload at_81_60 rfl <| r_push at_81_61 <| r_remN k 5 at_81_62 rfl rfl (by omega) (by decide) (by decide) <| r_addN (5 * (5 * (k / 5) + n)) (k % 5) at_81_63 rfl rfl <| r_push at_81_64 <| q_zast 18 (5 * (5 * (k / 5) + n) + k % 5) T at_81_65 (by decide) rfl (by omega) (by decide) (Or.inl rfl) <| r_iincNL (ls' := [_, _, _]) n at_81_66 rfl rfl <| r_goto at_81_69 <| ?_
          have e : (fr_fg_i k) n z = am_wr z 18 (5 * (5 * (k / 5) + n) + k % 5) 0 := by simp only [fr_fg_i]
          rw [e] at hk_n
          exact hk_n
        · generalize hz42 : am_it (fr_fg_i k) 5 (am_wr z 10 k 0) = y42
          refine r_iload at_81_42 rfl <| r_push at_81_43 <| r_cmgeNF 5 5 at_81_44 rfl rfl (by omega) (by omega) (by omega) <| ?_
          refine r_iincNL (ls' := [_, _, _]) k at_81_72 rfl rfl <| r_goto at_81_75 <| ?_
          have e : (fr_fg_b) k z = y42 := by simp only [fr_fg_b, if_pos h14_1, if_neg h30_2, hz42]
          rw [e] at hk_k
          exact hk_k _
    · refine r_iincNL (ls' := [_, _, _]) k at_81_72 rfl rfl <| r_goto at_81_75 <| ?_
      have e : (fr_fg_b) k z = z := by simp only [fr_fg_b, if_neg h14_1]
      rw [e] at hk_k
      exact hk_k _
  · intro u2
    generalize hz2 : am_it (fr_fg_b) 25 μ = y2
    refine r_iload at_81_2 rfl <| r_push at_81_3 <| r_cmgeNF 25 25 at_81_5 rfl rfl (by omega) (by omega) (by omega) <| ?_
    refine r_ret at_81_78 ?_
    have e : fr_fg μ = y2 := by simp only [fr_fg, hz2]
    rw [e] at hq
    exact hq
def fr_BB (μ : am_I) : Prop := ∀ x, (am_rd μ 3 x = 0 ∨ am_rd μ 3 x = 1) ∧ (am_rd μ 8 x = 0 ∨ am_rd μ 8 x = 1)
theorem fr_BB.wr {μ : am_I} (h : fr_BB μ) {k x : Nat} {v : Int32} (hv : v = 0 ∨ v = 1 ∨ (¬ k = 3 ∧ ¬ k = 8)) : fr_BB (am_wr μ k x v) := by
  intro y
  rw [am_rd_wr, am_rd_wr]
  constructor
  · by_cases q : 3 = k ∧ y = x
    · rw [if_pos q]
      rcases hv with hv | hv | hv
      · exact Or.inl hv
      · exact Or.inr hv
      · exact absurd q.1.symm hv.1
    · rw [if_neg q]; exact (h y).1
  · by_cases q : 8 = k ∧ y = x
    · rw [if_pos q]
      rcases hv with hv | hv | hv
      · exact Or.inl hv
      · exact Or.inr hv
      · exact absurd q.1.symm hv.2
    · rw [if_neg q]; exact (h y).2
theorem fr_BB.wo {μ : am_I} (h : fr_BB μ) {k x : Nat} {v : Int32} (h3 : ¬ k = 3) (h8 : ¬ k = 8) : fr_BB (am_wr μ k x v) := h.wr (Or.inr (Or.inr ⟨h3, h8⟩))
theorem fr_BB.wc {μ : am_I} (h : fr_BB μ) {v : Int32} : fr_BB (am_wc μ v) := by
  intro y
  rw [am_rd_wc, am_rd_wc]
  exact h y
theorem fr_ov4_BB {μ : am_I} (h : fr_BB μ) (l : Int32) : fr_BB (fr_ov4 μ l) := by unfold fr_ov4; exact h.wo (by decide) (by decide)
theorem fr_over_BB {μ : am_I} (h : fr_BB μ) (m n k : Nat) : fr_BB (fr_over μ m n k).1 := by
  have h1 : fr_BB (am_wr μ 9 k (am_rd μ 9 k + 1)) := h.wo (by decide) (by decide)
  unfold fr_over fr_ov1
  split
  · exact fr_ov4_BB (h1.wo (by decide) (by decide)) _
  · split
    · exact fr_ov4_BB (h1.wo (by decide) (by decide)) _
    · exact fr_ov4_BB (h1.wo (by decide) (by decide)) _
def fr_he_s (k : Nat) (μ : am_I) : am_I := am_wr μ 8 k (am_rd μ 3 k)
def fr_he4 (μ : am_I) (i k : Nat) : am_I := am_wr μ 5 i (am_rd μ 8 k)
def fr_he3 (μ : am_I) (i k : Nat) : am_I := fr_he4 (am_wr μ 4 i (am_ck μ)) i k
def fr_he2 (μ : am_I) (i k : Nat) : am_I := fr_he3 (am_wr μ 3 i 1) i k
def fr_he1 (z : am_I × Int32) (i k : Nat) : am_I := if z.2 = 0 then z.1 else fr_he2 z.1 i k
def fr_he_b (k : Nat) (μ : am_I) : am_I := if 0 < am_rd μ 1 k then if am_rd μ 0 (k / 5) = 0 then fr_he1 (fr_over μ (k / 5) (k % 5) 0) (5 * (k % 5) + k / 5) k else μ else μ
def fr_he (μ : am_I) : am_I := am_it fr_he_b 25 (am_it fr_he_s 25 μ)
theorem fr_he_s_BB {μ : am_I} (h : fr_BB μ) (k : Nat) : fr_BB (fr_he_s k μ) := by
  unfold fr_he_s
  exact h.wr (by rcases (h k).1 with q | q <;> simp [q])
theorem fr_he2_BB {μ : am_I} (h : fr_BB μ) (i k : Nat) : fr_BB (fr_he2 μ i k) := by
  unfold fr_he2 fr_he3 fr_he4
  exact ((h.wr (Or.inr (Or.inl rfl))).wo (by decide) (by decide)).wo (by decide) (by decide)
theorem fr_he_b_BB {μ : am_I} (h : fr_BB μ) (k : Nat) : fr_BB (fr_he_b k μ) := by
  unfold fr_he_b fr_he1
  repeat' split
  · exact fr_over_BB h _ _ _
  · exact fr_he2_BB (fr_over_BB h _ _ _) _ _
  · exact h
  · exact h
theorem fr_he_BB {μ : am_I} (h : fr_BB μ) : fr_BB (fr_he μ) := am_it_keep (P := fr_BB) (fun k _ _ h => fr_he_b_BB h k) (am_it_keep (P := fr_BB) (fun k _ _ h => fr_he_s_BB h k) h)
theorem q_hellos {d : Nat} {Q : am_Q} {K : am_K} {sc : am_Sc} {c : am_M} {μ : am_I} {p : am_P}  (hd : 2 ≤ d) (T : am_TQ K p) (hB : fr_BB μ) (hq : Q (K, sc, c, (fr_he μ, p)) none) : am_call d 82 [.inr (some 163)] (K, sc, c, (μ, p)) Q := by
  obtain ⟨d, rfl⟩ : ∃ d', d = d' + 1 := ⟨d - 1, by omega⟩
  refine r_enter (by decide) (Nat.le_of_ble_eq_true rfl) (ls := [some (.inr (some 163)), none, none, none]) rfl ?_
  refine r_push at_82_0 <| r_istoreL (ls' := [_, _, _, _]) at_82_1 rfl <| ?_
  refine am_forI 25 (fun k z => ∀ u2 u3 : Option am_V, am_w d 82 Q 2 [some (.inr (some 163)), some (.inl (nI k)), u2, u3] [] (K, sc, c, (z, p))) (fr_he_s) (fun _ z => fr_BB z) (fun k _ z h => fr_he_s_BB h k) (fun k hi_k z hI_k hk_k => ?_) μ hB ?_ none none
  · intro u2 u3
    refine r_iload at_82_2 rfl <| r_push at_82_3 <| r_cmgeNT k 25 at_82_5 rfl rfl (by omega) (by omega) (by omega) <| ?_
    refine r_aload at_82_8 rfl <| q_arr 8 T at_82_9 (by decide) <| r_iload at_82_12 rfl <| r_aload at_82_13 rfl <| q_arr 3 T at_82_14 (by decide) <| r_iload at_82_17 rfl <| q_ald 3 k T at_82_18 (by decide) rfl (by omega) (by decide) <| q_zast 8 k T at_82_19 (by decide) rfl (by omega) (by decide) (hI_k k).1 <| r_iincNL (ls' := [_, _, _, _]) k at_82_20 rfl rfl <| r_goto at_82_23 <| ?_
    have e : (fr_he_s) k z = am_wr z 8 k (am_rd z 3 k) := by simp only [fr_he_s]
    rw [e] at hk_k
    exact hk_k _ _
  · intro u2 u3
    generalize hz2 : am_it (fr_he_s) 25 μ = y2
    refine r_iload at_82_2 rfl <| r_push at_82_3 <| r_cmgeNF 25 25 at_82_5 rfl rfl (by omega) (by omega) (by omega) <| ?_
    refine r_push at_82_26 <| r_istoreL (ls' := [_, _, _, _]) at_82_27 rfl <| ?_
    refine am_forI 25 (fun k z => ∀ u2 u3 : Option am_V, am_w d 82 Q 28 [some (.inr (some 163)), some (.inl (nI k)), u2, u3] [] (K, sc, c, (z, p))) (fr_he_b) (fun _ z => fr_BB z) (fun k _ z h => fr_he_b_BB h k) (fun k hi_k z hI_k hk_k => ?_) y2 (by rw [← hz2]; exact am_it_keep (P := fr_BB) (fun k _ _ h => fr_he_s_BB h k) hB) ?_ u2 u3
    · intro u2 u3
      refine r_iload at_82_28 rfl <| r_push at_82_29 <| r_cmgeNT k 25 at_82_31 rfl rfl (by omega) (by omega) (by omega) <| ?_
      refine r_iload at_82_34 rfl <| r_push at_82_35 <| r_divN k 5 at_82_36 rfl rfl (by omega) (by decide) (by decide) <| r_istoreL (ls' := [_, _, _, _]) at_82_37 rfl <| r_iload at_82_38 rfl <| r_push at_82_39 <| r_remN k 5 at_82_40 rfl rfl (by omega) (by decide) (by decide) <| r_istoreL (ls' := [_, _, _, _]) at_82_41 rfl <| r_aload at_82_42 rfl <| q_arr 1 T at_82_43 (by decide) <| r_iload at_82_46 rfl <| q_ald 1 k T at_82_47 (by decide) rfl (by omega) (by decide) <| r_ifle at_82_48 (fun h48_1 => ?_) (fun h48_1 => ?_)
      · refine r_aload at_82_51 rfl <| q_arr 0 T at_82_52 (by decide) <| r_iload at_82_55 rfl <| q_ald 0 (k / 5) T at_82_56 (by decide) rfl (by omega) (by decide) <| r_ifne at_82_57 (fun h57_2 => ?_) (fun h57_2 => ?_)
        · refine r_aload at_82_60 rfl <| r_iload at_82_61 rfl <| r_iload at_82_62 rfl <| r_push at_82_63 <| r_callV3i at_82_64 (T.me) (Nat.le_of_ble_eq_true rfl) (fun _ hq => q_over (k := 0) (by omega) T (by omega) (by omega) (by decide) hq) <| r_ifeq at_82_67 (fun h67_3 => ?_) (fun h67_3 => ?_)
          · refine r_iincNL (ls' := [_, _, _, _]) k at_82_111 rfl rfl <| r_goto at_82_114 <| ?_
            have e : (fr_he_b) k z = (fr_over z (k / 5) (k % 5) 0).1 := by simp only [fr_he_b, fr_he1, fr_he2, fr_he3, fr_he4, if_pos h48_1, if_pos h57_2, if_pos h67_3]
            rw [e] at hk_k
            exact hk_k _ _
          · refine r_aload at_82_70 rfl <| q_arr 3 T at_82_71 (by decide) <| r_push at_82_74 <| r_iload at_82_75 rfl <| r_mulN 5 (k % 5) at_82_76 rfl rfl <| r_iload at_82_77 rfl <| r_addN (5 * (k % 5)) (k / 5) at_82_78 rfl rfl <| r_push at_82_79 <| q_zast 3 (5 * (k % 5) + k / 5) T at_82_80 (by decide) rfl (by omega) (by decide) (Or.inr rfl) <| r_aload at_82_81 rfl <| q_arr 4 T at_82_82 (by decide) <| r_push at_82_85 <| r_iload at_82_86 rfl <| r_mulN 5 (k % 5) at_82_87 rfl rfl <| r_iload at_82_88 rfl <| r_addN (5 * (k % 5)) (k / 5) at_82_89 rfl rfl <| r_aload at_82_90 rfl <| q_ck T at_82_91 <| q_ast 4 (5 * (k % 5) + k / 5) T at_82_94 (by decide) rfl (by omega) (by decide) <| r_aload at_82_95 rfl <| q_arr 5 T at_82_96 (by decide) <| r_push at_82_99 <| r_iload at_82_100 rfl <| r_mulN 5 (k % 5) at_82_101 rfl rfl <| r_iload at_82_102 rfl <| r_addN (5 * (k % 5)) (k / 5) at_82_103 rfl rfl <| r_aload at_82_104 rfl <| q_arr 8 T at_82_105 (by decide) <| r_iload at_82_108 rfl <| q_ald 8 k T at_82_109 (by decide) rfl (by omega) (by decide) <| q_zast 5 (5 * (k % 5) + k / 5) T at_82_110 (by decide) rfl (by omega) (by decide) ((((fr_over_BB hI_k _ _ _).wr (k := 3) (v := 1) (Or.inr (Or.inl rfl))).wo (k := 4) (by decide) (by decide)) k).2 <| r_iincNL (ls' := [_, _, _, _]) k at_82_111 rfl rfl <| r_goto at_82_114 <| ?_
            have e : (fr_he_b) k z = am_wr (am_wr (am_wr ((fr_over z (k / 5) (k % 5) 0).1) 3 (5 * (k % 5) + k / 5) 1) 4 (5 * (k % 5) + k / 5) (am_ck (am_wr ((fr_over z (k / 5) (k % 5) 0).1) 3 (5 * (k % 5) + k / 5) 1))) 5 (5 * (k % 5) + k / 5) (am_rd (am_wr (am_wr ((fr_over z (k / 5) (k % 5) 0).1) 3 (5 * (k % 5) + k / 5) 1) 4 (5 * (k % 5) + k / 5) (am_ck (am_wr ((fr_over z (k / 5) (k % 5) 0).1) 3 (5 * (k % 5) + k / 5) 1))) 8 k) := by simp only [fr_he_b, fr_he1, fr_he2, fr_he3, fr_he4, if_pos h48_1, if_pos h57_2, if_neg h67_3]
            rw [e] at hk_k
            exact hk_k _ _
        · refine r_iincNL (ls' := [_, _, _, _]) k at_82_111 rfl rfl <| r_goto at_82_114 <| ?_
          have e : (fr_he_b) k z = z := by simp only [fr_he_b, fr_he1, fr_he2, fr_he3, fr_he4, if_pos h48_1, if_neg h57_2]
          rw [e] at hk_k
          exact hk_k _ _
      · refine r_iincNL (ls' := [_, _, _, _]) k at_82_111 rfl rfl <| r_goto at_82_114 <| ?_
        have e : (fr_he_b) k z = z := by simp only [fr_he_b, fr_he1, fr_he2, fr_he3, fr_he4, if_neg h48_1]
        rw [e] at hk_k
        exact hk_k _ _
    · intro u2 u3
      generalize hz28 : am_it (fr_he_b) 25 y2 = y28
      refine r_iload at_82_28 rfl <| r_push at_82_29 <| r_cmgeNF 25 25 at_82_31 rfl rfl (by omega) (by omega) (by omega) <| ?_
      refine r_ret at_82_117 ?_
      have e : fr_he μ = y28 := by simp only [fr_he, hz2, hz28]
      rw [e] at hq
      exact hq
def fr_oa_b (n m x : Nat) (μ : am_I) : am_I := if 0 < am_rd μ 10 (5 * n + x) then if fr_old μ (5 * m + x) (5 * n + x) = 0 then μ else fr_owe μ (5 * (5 * n + m) + x) 0 else μ
def fr_oa (μ : am_I) (n m : Nat) : am_I := am_it (fr_oa_b n m) 5 μ
theorem q_oweAll {d : Nat} {Q : am_Q} {K : am_K} {sc : am_Sc} {c : am_M} {μ : am_I} {p : am_P} {n m : Nat} (hd : 2 ≤ d) (T : am_TQ K p) (hn : n < 5) (hm : m < 5) (hq : Q (K, sc, c, (fr_oa μ n m, p)) none) : am_call d 84 [.inr (some 163), .inl (nI n), .inl (nI m)] (K, sc, c, (μ, p)) Q := by
  obtain ⟨d, rfl⟩ : ∃ d', d = d' + 1 := ⟨d - 1, by omega⟩
  refine r_enter (by decide) (Nat.le_of_ble_eq_true rfl) (ls := [some (.inr (some 163)), some (.inl (nI n)), some (.inl (nI m)), none]) rfl ?_
  refine r_push at_84_0 <| r_istoreL (ls' := [_, _, _, _]) at_84_1 rfl <| ?_
  refine am_for 5 (fun x z => am_w d 84 Q 2 [some (.inr (some 163)), some (.inl (nI n)), some (.inl (nI m)), some (.inl (nI x))] [] (K, sc, c, (z, p))) (fr_oa_b n m) (fun x hi_x z hk_x => ?_) μ ?_
  · refine r_iload at_84_2 rfl <| r_push at_84_3 <| r_cmgeNT x 5 at_84_4 rfl rfl (by omega) (by omega) (by omega) <| ?_
    refine r_aload at_84_7 rfl <| q_arr 10 T at_84_8 (by decide) <| r_push at_84_11 <| r_iload at_84_12 rfl <| r_mulN 5 n at_84_13 rfl rfl <| r_iload at_84_14 rfl <| r_addN (5 * n) x at_84_15 rfl rfl <| q_ald 10 (5 * n + x) T at_84_16 (by decide) rfl (by omega) (by decide) <| r_ifle at_84_17 (fun h17_1 => ?_) (fun h17_1 => ?_)
    · refine r_aload at_84_20 rfl <| r_push at_84_21 <| r_iload at_84_22 rfl <| r_mulN 5 m at_84_23 rfl rfl <| r_iload at_84_24 rfl <| r_addN (5 * m) x at_84_25 rfl rfl <| r_push at_84_26 <| r_iload at_84_27 rfl <| r_mulN 5 n at_84_28 rfl rfl <| r_iload at_84_29 rfl <| r_addN (5 * n) x at_84_30 rfl rfl <| r_callV2i at_84_31 (T.me) (Nat.le_of_ble_eq_true rfl) (fun _ hq => q_older (by omega) T (by omega) (by omega) hq) <| r_ifeq at_84_34 (fun h34_2 => ?_) (fun h34_2 => ?_)
      · refine r_iincNL (ls' := [_, _, _, _]) x at_84_45 rfl rfl <| r_goto at_84_48 <| ?_
        have e : (fr_oa_b n m) x z = z := by simp only [fr_oa_b, if_pos h17_1, if_pos h34_2]
        rw [e] at hk_x
        exact hk_x
      · refine r_aload at_84_37 rfl <| r_iload at_84_38 rfl <| r_iload at_84_39 rfl <| r_iload at_84_40 rfl <| r_push at_84_41 <| r_callV4v at_84_42 (T.me) (Nat.le_of_ble_eq_true rfl) (fun _ hq => q_owe (by omega) T (by omega) (by omega) (by omega) hq) <| r_iincNL (ls' := [_, _, _, _]) x at_84_45 rfl rfl <| r_goto at_84_48 <| ?_
        have e : (fr_oa_b n m) x z = fr_owe z (5 * (5 * n + m) + x) 0 := by simp only [fr_oa_b, if_pos h17_1, if_neg h34_2]
        rw [e] at hk_x
        exact hk_x
    · refine r_iincNL (ls' := [_, _, _, _]) x at_84_45 rfl rfl <| r_goto at_84_48 <| ?_
      have e : (fr_oa_b n m) x z = z := by simp only [fr_oa_b, if_neg h17_1]
      rw [e] at hk_x
      exact hk_x
  · generalize hz2 : am_it (fr_oa_b n m) 5 μ = y2
    refine r_iload at_84_2 rfl <| r_push at_84_3 <| r_cmgeNF 5 5 at_84_4 rfl rfl (by omega) (by omega) (by omega) <| ?_
    refine r_ret at_84_51 ?_
    have e : fr_oa μ n m = y2 := by simp only [fr_oa, hz2]
    rw [e] at hq
    exact hq
def fr_nb1 (k : Nat) (μ : am_I) : am_I := if am_rd μ 3 k = 0 then μ else if am_ck μ - 5 < am_rd μ 4 k then μ else am_wr (am_wr μ 3 k 0) 5 k 0
def fr_now (k : Nat) (μ : am_I) : Int32 := if am_rd μ 3 k = 0 then 0 else if am_rd μ 5 k = 0 then 0 else 1
def fr_nb2 (k : Nat) (w : Int32) (μ : am_I) : am_I := am_wr μ 7 k (if w = 0 then 0 else if am_rd μ 6 k = 0 then 1 else 0)
def fr_nb_x (k : Nat) (w : Int32) (x : Nat) (μ : am_I) : am_I := am_wr μ 18 (5 * k + x) (if am_rd μ 18 (5 * k + x) = 0 then 0 else if w = 0 then 0 else 1)
def fr_nb3 (k : Nat) (w : Int32) (μ : am_I) : am_I := am_it (fr_nb_x k w) 5 (am_wr (fr_nb2 k w μ) 6 k w)
def fr_nb4 (k : Nat) (μ : am_I) : am_I := fr_nb3 k (fr_now k μ) μ
def fr_nb_b (k : Nat) (μ : am_I) : am_I := fr_nb4 k (fr_nb1 k μ)
def fr_nb_d (k : Nat) (μ : am_I) : am_I := if am_rd μ 7 k = 0 then μ else if am_rd μ 6 (5 * (k % 5) + k / 5) = 0 then μ else fr_oa μ (k % 5) (k / 5)
def fr_nb_c (k : Nat) (μ : am_I) : am_I := fr_nb_d k (if am_rd μ 7 k = 0 then μ else fr_oa μ (k / 5) (k % 5))
def fr_nb (μ : am_I) : am_I := am_it fr_nb_c 25 (am_it fr_nb_b 25 μ)
set_option maxHeartbeats 20000000 in
theorem q_neighbours {d : Nat} {Q : am_Q} {K : am_K} {sc : am_Sc} {c : am_M} {μ : am_I} {p : am_P}  (hd : 3 ≤ d) (T : am_TQ K p)  (hq : Q (K, sc, c, (fr_nb μ, p)) none) : am_call d 83 [.inr (some 163)] (K, sc, c, (μ, p)) Q := by
  obtain ⟨d, rfl⟩ : ∃ d', d = d' + 1 := ⟨d - 1, by omega⟩
  refine r_enter (by decide) (Nat.le_of_ble_eq_true rfl) (ls := [some (.inr (some 163)), none, none, none]) rfl ?_
  refine r_push at_83_0 <| r_istoreL (ls' := [_, _, _, _]) at_83_1 rfl <| ?_
  refine am_for 25 (fun k z => ∀ u2 u3 : Option am_V, am_w d 83 Q 2 [some (.inr (some 163)), some (.inl (nI k)), u2, u3] [] (K, sc, c, (z, p))) (fr_nb_b) (fun k hi_k z hk_k => ?_) μ ?_ none none
  · intro u2 u3
    refine r_iload at_83_2 rfl <| r_push at_83_3 <| r_cmgeNT k 25 at_83_5 rfl rfl (by omega) (by omega) (by omega) <| ?_
    refine r_aload at_83_8 rfl <| q_arr 3 T at_83_9 (by decide) <| r_iload at_83_12 rfl <| q_ald 3 k T at_83_13 (by decide) rfl (by omega) (by decide) <| r_ifeq at_83_14 (fun h14_1 => ?_) (fun h14_1 => ?_)
    · refine r_aload at_83_46 rfl <| q_arr 3 T at_83_47 (by decide) <| r_iload at_83_50 rfl <| q_ald 3 k T at_83_51 (by decide) rfl (by omega) (by decide) <| r_ifeqT at_83_52 h14_1 <| r_push at_83_68 <| r_istoreL (ls' := [_, _, _, _]) at_83_69 rfl <| r_aload at_83_70 rfl <| q_arr 7 T at_83_71 (by decide) <| r_iload at_83_74 rfl <| r_iload at_83_75 rfl <| r_ifeqT at_83_76 (by decide) <| r_push at_83_92 <| q_zast 7 k T at_83_93 (by decide) rfl (by omega) (by decide) (Or.inl rfl) <| r_aload at_83_94 rfl <| q_arr 6 T at_83_95 (by decide) <| r_iload at_83_98 rfl <| r_iload at_83_99 rfl <| q_zast 6 k T at_83_100 (by decide) rfl (by omega) (by decide) (Or.inl rfl) <| r_push at_83_101 <| r_istoreL (ls' := [_, _, _, _]) at_83_102 rfl <| ?_
      refine am_for 5 (fun x z => am_w d 83 Q 103 [some (.inr (some 163)), some (.inl (nI k)), some (.inl 0), some (.inl (nI x))] [] (K, sc, c, (z, p))) (fr_nb_x k 0) (fun x hi_x z hk_x => ?_) (am_wr (am_wr z 7 k 0) 6 k 0) ?_
      · refine r_iload at_83_103 rfl <| r_push at_83_104 <| r_cmgeNT x 5 at_83_105 rfl rfl (by omega) (by omega) (by omega) <| ?_
        refine r_aload at_83_108 rfl <| q_arr 18 T at_83_109 (by decide) <| r_push at_83_112 <| r_iload at_83_113 rfl <| r_mulN 5 k at_83_114 rfl rfl <| r_iload at_83_115 rfl <| r_addN (5 * k) x at_83_116 rfl rfl <| r_aload at_83_117 rfl <| q_arr 18 T at_83_118 (by decide) <| r_push at_83_121 <| r_iload at_83_122 rfl <| r_mulN 5 k at_83_123 rfl rfl <| r_iload at_83_124 rfl <| r_addN (5 * k) x at_83_125 rfl rfl <| q_ald 18 (5 * k + x) T at_83_126 (by decide) rfl (by omega) (by decide) <| r_ifeq at_83_127 (fun h127_2 => ?_) (fun h127_2 => ?_)
        · refine r_push at_83_138 <| q_zast 18 (5 * k + x) T at_83_139 (by decide) rfl (by omega) (by decide) (Or.inl rfl) <| r_iincNL (ls' := [_, _, _, _]) x at_83_140 rfl rfl <| r_goto at_83_143 <| ?_
          have e : (fr_nb_x k 0) x z = am_wr z 18 (5 * k + x) 0 := by simp only [fr_nb_x, if_pos h127_2, if_true, if_neg (show ¬ (1 : Int32) = 0 by decide)]
          rw [e] at hk_x
          exact hk_x
        · refine r_iload at_83_130 rfl <| r_ifeqT at_83_131 (by decide) <| r_push at_83_138 <| q_zast 18 (5 * k + x) T at_83_139 (by decide) rfl (by omega) (by decide) (Or.inl rfl) <| r_iincNL (ls' := [_, _, _, _]) x at_83_140 rfl rfl <| r_goto at_83_143 <| ?_
          have e : (fr_nb_x k 0) x z = am_wr z 18 (5 * k + x) 0 := by simp only [fr_nb_x, if_neg h127_2, if_true, if_neg (show ¬ (1 : Int32) = 0 by decide)]
          rw [e] at hk_x
          exact hk_x
      · generalize hz103 : am_it (fr_nb_x k 0) 5 (am_wr (am_wr z 7 k 0) 6 k 0) = y103
        refine r_iload at_83_103 rfl <| r_push at_83_104 <| r_cmgeNF 5 5 at_83_105 rfl rfl (by omega) (by omega) (by omega) <| ?_
        refine r_iincNL (ls' := [_, _, _, _]) k at_83_146 rfl rfl <| r_goto at_83_149 <| ?_
        have e : (fr_nb_b) k z = y103 := by simp only [fr_nb_b, fr_nb1, fr_nb4, fr_nb3, fr_now, fr_nb2, if_pos h14_1, hz103, if_true, if_neg (show ¬ (1 : Int32) = 0 by decide)]
        rw [e] at hk_k
        exact hk_k _ _
    · refine r_aload at_83_17 rfl <| q_arr 4 T at_83_18 (by decide) <| r_iload at_83_21 rfl <| q_ald 4 k T at_83_22 (by decide) rfl (by omega) (by decide) <| r_aload at_83_23 rfl <| q_ck T at_83_24 <| r_push at_83_27 <| r_bin at_83_28 <| r_cmgt at_83_29 (fun h29_3 => ?_) (fun h29_3 => ?_)
      · refine r_aload at_83_46 rfl <| q_arr 3 T at_83_47 (by decide) <| r_iload at_83_50 rfl <| q_ald 3 k T at_83_51 (by decide) rfl (by omega) (by decide) <| r_ifeqF at_83_52 h14_1 <| r_aload at_83_55 rfl <| q_arr 5 T at_83_56 (by decide) <| r_iload at_83_59 rfl <| q_ald 5 k T at_83_60 (by decide) rfl (by omega) (by decide) <| r_ifeq at_83_61 (fun h61_4 => ?_) (fun h61_4 => ?_)
        · refine r_push at_83_68 <| r_istoreL (ls' := [_, _, _, _]) at_83_69 rfl <| r_aload at_83_70 rfl <| q_arr 7 T at_83_71 (by decide) <| r_iload at_83_74 rfl <| r_iload at_83_75 rfl <| r_ifeqT at_83_76 (by decide) <| r_push at_83_92 <| q_zast 7 k T at_83_93 (by decide) rfl (by omega) (by decide) (Or.inl rfl) <| r_aload at_83_94 rfl <| q_arr 6 T at_83_95 (by decide) <| r_iload at_83_98 rfl <| r_iload at_83_99 rfl <| q_zast 6 k T at_83_100 (by decide) rfl (by omega) (by decide) (Or.inl rfl) <| r_push at_83_101 <| r_istoreL (ls' := [_, _, _, _]) at_83_102 rfl <| ?_
          refine am_for 5 (fun x z => am_w d 83 Q 103 [some (.inr (some 163)), some (.inl (nI k)), some (.inl 0), some (.inl (nI x))] [] (K, sc, c, (z, p))) (fr_nb_x k 0) (fun x hi_x z hk_x => ?_) (am_wr (am_wr z 7 k 0) 6 k 0) ?_
          · refine r_iload at_83_103 rfl <| r_push at_83_104 <| r_cmgeNT x 5 at_83_105 rfl rfl (by omega) (by omega) (by omega) <| ?_
            refine r_aload at_83_108 rfl <| q_arr 18 T at_83_109 (by decide) <| r_push at_83_112 <| r_iload at_83_113 rfl <| r_mulN 5 k at_83_114 rfl rfl <| r_iload at_83_115 rfl <| r_addN (5 * k) x at_83_116 rfl rfl <| r_aload at_83_117 rfl <| q_arr 18 T at_83_118 (by decide) <| r_push at_83_121 <| r_iload at_83_122 rfl <| r_mulN 5 k at_83_123 rfl rfl <| r_iload at_83_124 rfl <| r_addN (5 * k) x at_83_125 rfl rfl <| q_ald 18 (5 * k + x) T at_83_126 (by decide) rfl (by omega) (by decide) <| r_ifeq at_83_127 (fun h127_5 => ?_) (fun h127_5 => ?_)
            · refine r_push at_83_138 <| q_zast 18 (5 * k + x) T at_83_139 (by decide) rfl (by omega) (by decide) (Or.inl rfl) <| r_iincNL (ls' := [_, _, _, _]) x at_83_140 rfl rfl <| r_goto at_83_143 <| ?_
              have e : (fr_nb_x k 0) x z = am_wr z 18 (5 * k + x) 0 := by simp only [fr_nb_x, if_pos h127_5, if_true, if_neg (show ¬ (1 : Int32) = 0 by decide)]
              rw [e] at hk_x
              exact hk_x
            · refine r_iload at_83_130 rfl <| r_ifeqT at_83_131 (by decide) <| r_push at_83_138 <| q_zast 18 (5 * k + x) T at_83_139 (by decide) rfl (by omega) (by decide) (Or.inl rfl) <| r_iincNL (ls' := [_, _, _, _]) x at_83_140 rfl rfl <| r_goto at_83_143 <| ?_
              have e : (fr_nb_x k 0) x z = am_wr z 18 (5 * k + x) 0 := by simp only [fr_nb_x, if_neg h127_5, if_true, if_neg (show ¬ (1 : Int32) = 0 by decide)]
              rw [e] at hk_x
              exact hk_x
          · generalize hz103 : am_it (fr_nb_x k 0) 5 (am_wr (am_wr z 7 k 0) 6 k 0) = y103
            refine r_iload at_83_103 rfl <| r_push at_83_104 <| r_cmgeNF 5 5 at_83_105 rfl rfl (by omega) (by omega) (by omega) <| ?_
            refine r_iincNL (ls' := [_, _, _, _]) k at_83_146 rfl rfl <| r_goto at_83_149 <| ?_
            have e : (fr_nb_b) k z = y103 := by simp only [fr_nb_b, fr_nb1, fr_nb4, fr_nb3, fr_now, fr_nb2, if_neg h14_1, if_pos h29_3, if_pos h61_4, hz103, if_true, if_neg (show ¬ (1 : Int32) = 0 by decide)]
            rw [e] at hk_k
            exact hk_k _ _
        · refine r_push at_83_64 <| r_goto at_83_65 <| r_istoreL (ls' := [_, _, _, _]) at_83_69 rfl <| r_aload at_83_70 rfl <| q_arr 7 T at_83_71 (by decide) <| r_iload at_83_74 rfl <| r_iload at_83_75 rfl <| r_ifeqF at_83_76 (by decide) <| r_aload at_83_79 rfl <| q_arr 6 T at_83_80 (by decide) <| r_iload at_83_83 rfl <| q_ald 6 k T at_83_84 (by decide) rfl (by omega) (by decide) <| r_ifne at_83_85 (fun h85_6 => ?_) (fun h85_6 => ?_)
          · refine r_push at_83_88 <| r_goto at_83_89 <| q_zast 7 k T at_83_93 (by decide) rfl (by omega) (by decide) (Or.inr rfl) <| r_aload at_83_94 rfl <| q_arr 6 T at_83_95 (by decide) <| r_iload at_83_98 rfl <| r_iload at_83_99 rfl <| q_zast 6 k T at_83_100 (by decide) rfl (by omega) (by decide) (Or.inr rfl) <| r_push at_83_101 <| r_istoreL (ls' := [_, _, _, _]) at_83_102 rfl <| ?_
            refine am_for 5 (fun x z => am_w d 83 Q 103 [some (.inr (some 163)), some (.inl (nI k)), some (.inl 1), some (.inl (nI x))] [] (K, sc, c, (z, p))) (fr_nb_x k 1) (fun x hi_x z hk_x => ?_) (am_wr (am_wr z 7 k 1) 6 k 1) ?_
            · refine r_iload at_83_103 rfl <| r_push at_83_104 <| r_cmgeNT x 5 at_83_105 rfl rfl (by omega) (by omega) (by omega) <| ?_
              refine r_aload at_83_108 rfl <| q_arr 18 T at_83_109 (by decide) <| r_push at_83_112 <| r_iload at_83_113 rfl <| r_mulN 5 k at_83_114 rfl rfl <| r_iload at_83_115 rfl <| r_addN (5 * k) x at_83_116 rfl rfl <| r_aload at_83_117 rfl <| q_arr 18 T at_83_118 (by decide) <| r_push at_83_121 <| r_iload at_83_122 rfl <| r_mulN 5 k at_83_123 rfl rfl <| r_iload at_83_124 rfl <| r_addN (5 * k) x at_83_125 rfl rfl <| q_ald 18 (5 * k + x) T at_83_126 (by decide) rfl (by omega) (by decide) <| r_ifeq at_83_127 (fun h127_7 => ?_) (fun h127_7 => ?_)
              · refine r_push at_83_138 <| q_zast 18 (5 * k + x) T at_83_139 (by decide) rfl (by omega) (by decide) (Or.inl rfl) <| r_iincNL (ls' := [_, _, _, _]) x at_83_140 rfl rfl <| r_goto at_83_143 <| ?_
                have e : (fr_nb_x k 1) x z = am_wr z 18 (5 * k + x) 0 := by simp only [fr_nb_x, if_pos h127_7, if_true, if_neg (show ¬ (1 : Int32) = 0 by decide)]
                rw [e] at hk_x
                exact hk_x
              · refine r_iload at_83_130 rfl <| r_ifeqF at_83_131 (by decide) <| r_push at_83_134 <| r_goto at_83_135 <| q_zast 18 (5 * k + x) T at_83_139 (by decide) rfl (by omega) (by decide) (Or.inr rfl) <| r_iincNL (ls' := [_, _, _, _]) x at_83_140 rfl rfl <| r_goto at_83_143 <| ?_
                have e : (fr_nb_x k 1) x z = am_wr z 18 (5 * k + x) 1 := by simp only [fr_nb_x, if_neg h127_7, if_true, if_neg (show ¬ (1 : Int32) = 0 by decide)]
                rw [e] at hk_x
                exact hk_x
            · generalize hz103 : am_it (fr_nb_x k 1) 5 (am_wr (am_wr z 7 k 1) 6 k 1) = y103
              refine r_iload at_83_103 rfl <| r_push at_83_104 <| r_cmgeNF 5 5 at_83_105 rfl rfl (by omega) (by omega) (by omega) <| ?_
              refine r_iincNL (ls' := [_, _, _, _]) k at_83_146 rfl rfl <| r_goto at_83_149 <| ?_
              have e : (fr_nb_b) k z = y103 := by simp only [fr_nb_b, fr_nb1, fr_nb4, fr_nb3, fr_now, fr_nb2, if_neg h14_1, if_pos h29_3, if_neg h61_4, if_pos h85_6, hz103, if_true, if_neg (show ¬ (1 : Int32) = 0 by decide)]
              rw [e] at hk_k
              exact hk_k _ _
          · refine r_push at_83_92 <| q_zast 7 k T at_83_93 (by decide) rfl (by omega) (by decide) (Or.inl rfl) <| r_aload at_83_94 rfl <| q_arr 6 T at_83_95 (by decide) <| r_iload at_83_98 rfl <| r_iload at_83_99 rfl <| q_zast 6 k T at_83_100 (by decide) rfl (by omega) (by decide) (Or.inr rfl) <| r_push at_83_101 <| r_istoreL (ls' := [_, _, _, _]) at_83_102 rfl <| ?_
            refine am_for 5 (fun x z => am_w d 83 Q 103 [some (.inr (some 163)), some (.inl (nI k)), some (.inl 1), some (.inl (nI x))] [] (K, sc, c, (z, p))) (fr_nb_x k 1) (fun x hi_x z hk_x => ?_) (am_wr (am_wr z 7 k 0) 6 k 1) ?_
            · refine r_iload at_83_103 rfl <| r_push at_83_104 <| r_cmgeNT x 5 at_83_105 rfl rfl (by omega) (by omega) (by omega) <| ?_
              refine r_aload at_83_108 rfl <| q_arr 18 T at_83_109 (by decide) <| r_push at_83_112 <| r_iload at_83_113 rfl <| r_mulN 5 k at_83_114 rfl rfl <| r_iload at_83_115 rfl <| r_addN (5 * k) x at_83_116 rfl rfl <| r_aload at_83_117 rfl <| q_arr 18 T at_83_118 (by decide) <| r_push at_83_121 <| r_iload at_83_122 rfl <| r_mulN 5 k at_83_123 rfl rfl <| r_iload at_83_124 rfl <| r_addN (5 * k) x at_83_125 rfl rfl <| q_ald 18 (5 * k + x) T at_83_126 (by decide) rfl (by omega) (by decide) <| r_ifeq at_83_127 (fun h127_8 => ?_) (fun h127_8 => ?_)
              · refine r_push at_83_138 <| q_zast 18 (5 * k + x) T at_83_139 (by decide) rfl (by omega) (by decide) (Or.inl rfl) <| r_iincNL (ls' := [_, _, _, _]) x at_83_140 rfl rfl <| r_goto at_83_143 <| ?_
                have e : (fr_nb_x k 1) x z = am_wr z 18 (5 * k + x) 0 := by simp only [fr_nb_x, if_pos h127_8, if_true, if_neg (show ¬ (1 : Int32) = 0 by decide)]
                rw [e] at hk_x
                exact hk_x
              · refine r_iload at_83_130 rfl <| r_ifeqF at_83_131 (by decide) <| r_push at_83_134 <| r_goto at_83_135 <| q_zast 18 (5 * k + x) T at_83_139 (by decide) rfl (by omega) (by decide) (Or.inr rfl) <| r_iincNL (ls' := [_, _, _, _]) x at_83_140 rfl rfl <| r_goto at_83_143 <| ?_
                have e : (fr_nb_x k 1) x z = am_wr z 18 (5 * k + x) 1 := by simp only [fr_nb_x, if_neg h127_8, if_true, if_neg (show ¬ (1 : Int32) = 0 by decide)]
                rw [e] at hk_x
                exact hk_x
            · generalize hz103 : am_it (fr_nb_x k 1) 5 (am_wr (am_wr z 7 k 0) 6 k 1) = y103
              refine r_iload at_83_103 rfl <| r_push at_83_104 <| r_cmgeNF 5 5 at_83_105 rfl rfl (by omega) (by omega) (by omega) <| ?_
              refine r_iincNL (ls' := [_, _, _, _]) k at_83_146 rfl rfl <| r_goto at_83_149 <| ?_
              have e : (fr_nb_b) k z = y103 := by simp only [fr_nb_b, fr_nb1, fr_nb4, fr_nb3, fr_now, fr_nb2, if_neg h14_1, if_pos h29_3, if_neg h61_4, if_neg h85_6, hz103, if_true, if_neg (show ¬ (1 : Int32) = 0 by decide)]
              rw [e] at hk_k
              exact hk_k _ _
      · refine r_aload at_83_32 rfl <| q_arr 3 T at_83_33 (by decide) <| r_iload at_83_36 rfl <| r_push at_83_37 <| q_zast 3 k T at_83_38 (by decide) rfl (by omega) (by decide) (Or.inl rfl) <| r_aload at_83_39 rfl <| q_arr 5 T at_83_40 (by decide) <| r_iload at_83_43 rfl <| r_push at_83_44 <| q_zast 5 k T at_83_45 (by decide) rfl (by omega) (by decide) (Or.inl rfl) <| ?_
        have h46_0 : am_rd (am_wr (am_wr z 3 k 0) 5 k 0) 3 k = 0 := by rw [am_rd_wr, if_neg (fun h => absurd h.1 (by decide)), am_rd_wr, if_pos ⟨rfl, rfl⟩]
        refine r_aload at_83_46 rfl <| q_arr 3 T at_83_47 (by decide) <| r_iload at_83_50 rfl <| q_ald 3 k T at_83_51 (by decide) rfl (by omega) (by decide) <| r_ifeqT at_83_52 h46_0 <| r_push at_83_68 <| r_istoreL (ls' := [_, _, _, _]) at_83_69 rfl <| r_aload at_83_70 rfl <| q_arr 7 T at_83_71 (by decide) <| r_iload at_83_74 rfl <| r_iload at_83_75 rfl <| r_ifeqT at_83_76 (by decide) <| r_push at_83_92 <| q_zast 7 k T at_83_93 (by decide) rfl (by omega) (by decide) (Or.inl rfl) <| r_aload at_83_94 rfl <| q_arr 6 T at_83_95 (by decide) <| r_iload at_83_98 rfl <| r_iload at_83_99 rfl <| q_zast 6 k T at_83_100 (by decide) rfl (by omega) (by decide) (Or.inl rfl) <| r_push at_83_101 <| r_istoreL (ls' := [_, _, _, _]) at_83_102 rfl <| ?_
        refine am_for 5 (fun x z => am_w d 83 Q 103 [some (.inr (some 163)), some (.inl (nI k)), some (.inl 0), some (.inl (nI x))] [] (K, sc, c, (z, p))) (fr_nb_x k 0) (fun x hi_x z hk_x => ?_) (am_wr (am_wr (am_wr (am_wr z 3 k 0) 5 k 0) 7 k 0) 6 k 0) ?_
        · refine r_iload at_83_103 rfl <| r_push at_83_104 <| r_cmgeNT x 5 at_83_105 rfl rfl (by omega) (by omega) (by omega) <| ?_
          refine r_aload at_83_108 rfl <| q_arr 18 T at_83_109 (by decide) <| r_push at_83_112 <| r_iload at_83_113 rfl <| r_mulN 5 k at_83_114 rfl rfl <| r_iload at_83_115 rfl <| r_addN (5 * k) x at_83_116 rfl rfl <| r_aload at_83_117 rfl <| q_arr 18 T at_83_118 (by decide) <| r_push at_83_121 <| r_iload at_83_122 rfl <| r_mulN 5 k at_83_123 rfl rfl <| r_iload at_83_124 rfl <| r_addN (5 * k) x at_83_125 rfl rfl <| q_ald 18 (5 * k + x) T at_83_126 (by decide) rfl (by omega) (by decide) <| r_ifeq at_83_127 (fun h127_9 => ?_) (fun h127_9 => ?_)
          · refine r_push at_83_138 <| q_zast 18 (5 * k + x) T at_83_139 (by decide) rfl (by omega) (by decide) (Or.inl rfl) <| r_iincNL (ls' := [_, _, _, _]) x at_83_140 rfl rfl <| r_goto at_83_143 <| ?_
            have e : (fr_nb_x k 0) x z = am_wr z 18 (5 * k + x) 0 := by simp only [fr_nb_x, if_pos h127_9, if_true, if_neg (show ¬ (1 : Int32) = 0 by decide)]
            rw [e] at hk_x
            exact hk_x
          · refine r_iload at_83_130 rfl <| r_ifeqT at_83_131 (by decide) <| r_push at_83_138 <| q_zast 18 (5 * k + x) T at_83_139 (by decide) rfl (by omega) (by decide) (Or.inl rfl) <| r_iincNL (ls' := [_, _, _, _]) x at_83_140 rfl rfl <| r_goto at_83_143 <| ?_
            have e : (fr_nb_x k 0) x z = am_wr z 18 (5 * k + x) 0 := by simp only [fr_nb_x, if_neg h127_9, if_true, if_neg (show ¬ (1 : Int32) = 0 by decide)]
            rw [e] at hk_x
            exact hk_x
        · generalize hz103 : am_it (fr_nb_x k 0) 5 (am_wr (am_wr (am_wr (am_wr z 3 k 0) 5 k 0) 7 k 0) 6 k 0) = y103
          refine r_iload at_83_103 rfl <| r_push at_83_104 <| r_cmgeNF 5 5 at_83_105 rfl rfl (by omega) (by omega) (by omega) <| ?_
          refine r_iincNL (ls' := [_, _, _, _]) k at_83_146 rfl rfl <| r_goto at_83_149 <| ?_
          have e : (fr_nb_b) k z = y103 := by simp only [fr_nb_b, fr_nb1, fr_nb4, fr_nb3, fr_now, fr_nb2, if_neg h14_1, if_neg h29_3, if_pos h46_0, hz103, if_true, if_neg (show ¬ (1 : Int32) = 0 by decide)]
          rw [e] at hk_k
          exact hk_k _ _
  · intro u2 u3
    generalize hz2 : am_it (fr_nb_b) 25 μ = y2
    refine r_iload at_83_2 rfl <| r_push at_83_3 <| r_cmgeNF 25 25 at_83_5 rfl rfl (by omega) (by omega) (by omega) <| ?_
    refine r_push at_83_152 <| r_istoreL (ls' := [_, _, _, _]) at_83_153 rfl <| ?_
    refine am_for 25 (fun k z => ∀ u2 u3 : Option am_V, am_w d 83 Q 154 [some (.inr (some 163)), some (.inl (nI k)), u2, u3] [] (K, sc, c, (z, p))) (fr_nb_c) (fun k hi_k z hk_k => ?_) y2 ?_ u2 u3
    · intro u2 u3
      refine r_iload at_83_154 rfl <| r_push at_83_155 <| r_cmgeNT k 25 at_83_157 rfl rfl (by omega) (by omega) (by omega) <| ?_
      refine r_push at_83_160 <| r_iload at_83_161 rfl <| r_push at_83_162 <| r_remN k 5 at_83_163 rfl rfl (by omega) (by decide) (by decide) <| r_mulN 5 (k % 5) at_83_164 rfl rfl <| r_iload at_83_165 rfl <| r_push at_83_166 <| r_divN k 5 at_83_167 rfl rfl (by omega) (by decide) (by decide) <| r_addN (5 * (k % 5)) (k / 5) at_83_168 rfl rfl <| r_istoreL (ls' := [_, _, _, _]) at_83_169 rfl <| r_aload at_83_170 rfl <| q_arr 7 T at_83_171 (by decide) <| r_iload at_83_174 rfl <| q_ald 7 k T at_83_175 (by decide) rfl (by omega) (by decide) <| r_ifeq at_83_176 (fun h176_10 => ?_) (fun h176_10 => ?_)
      · refine r_aload at_83_189 rfl <| q_arr 7 T at_83_190 (by decide) <| r_iload at_83_193 rfl <| q_ald 7 k T at_83_194 (by decide) rfl (by omega) (by decide) <| r_ifeqT at_83_195 h176_10 <| r_iincNL (ls' := [_, _, _, _]) k at_83_217 rfl rfl <| r_goto at_83_220 <| ?_
        have e : (fr_nb_c) k z = z := by simp only [fr_nb_c, fr_nb_d, if_pos h176_10]
        rw [e] at hk_k
        exact hk_k _ _
      · refine r_aload at_83_179 rfl <| r_iload at_83_180 rfl <| r_push at_83_181 <| r_divN k 5 at_83_182 rfl rfl (by omega) (by decide) (by decide) <| r_iload at_83_183 rfl <| r_push at_83_184 <| r_remN k 5 at_83_185 rfl rfl (by omega) (by decide) (by decide) <| r_callV2v at_83_186 (T.me) (Nat.le_of_ble_eq_true rfl) (fun _ hq => q_oweAll (by omega) T (by omega) (by omega) hq) <| r_aload at_83_189 rfl <| q_arr 7 T at_83_190 (by decide) <| r_iload at_83_193 rfl <| q_ald 7 k T at_83_194 (by decide) rfl (by omega) (by decide) <| r_ifeq at_83_195 (fun h195_11 => ?_) (fun h195_11 => ?_)
        · refine r_iincNL (ls' := [_, _, _, _]) k at_83_217 rfl rfl <| r_goto at_83_220 <| ?_
          have e : (fr_nb_c) k z = fr_oa z (k / 5) (k % 5) := by simp only [fr_nb_c, fr_nb_d, if_neg h176_10, if_pos h195_11]
          rw [e] at hk_k
          exact hk_k _ _
        · refine r_aload at_83_198 rfl <| q_arr 6 T at_83_199 (by decide) <| r_iload at_83_202 rfl <| q_ald 6 (5 * (k % 5) + k / 5) T at_83_203 (by decide) rfl (by omega) (by decide) <| r_ifeq at_83_204 (fun h204_12 => ?_) (fun h204_12 => ?_)
          · refine r_iincNL (ls' := [_, _, _, _]) k at_83_217 rfl rfl <| r_goto at_83_220 <| ?_
            have e : (fr_nb_c) k z = fr_oa z (k / 5) (k % 5) := by simp only [fr_nb_c, fr_nb_d, if_neg h176_10, if_neg h195_11, if_pos h204_12]
            rw [e] at hk_k
            exact hk_k _ _
          · refine r_aload at_83_207 rfl <| r_iload at_83_208 rfl <| r_push at_83_209 <| r_remN k 5 at_83_210 rfl rfl (by omega) (by decide) (by decide) <| r_iload at_83_211 rfl <| r_push at_83_212 <| r_divN k 5 at_83_213 rfl rfl (by omega) (by decide) (by decide) <| r_callV2v at_83_214 (T.me) (Nat.le_of_ble_eq_true rfl) (fun _ hq => q_oweAll (by omega) T (by omega) (by omega) hq) <| r_iincNL (ls' := [_, _, _, _]) k at_83_217 rfl rfl <| r_goto at_83_220 <| ?_
            have e : (fr_nb_c) k z = fr_oa (fr_oa z (k / 5) (k % 5)) (k % 5) (k / 5) := by simp only [fr_nb_c, fr_nb_d, if_neg h176_10, if_neg h195_11, if_neg h204_12]
            rw [e] at hk_k
            exact hk_k _ _
    · intro u2 u3
      generalize hz154 : am_it (fr_nb_c) 25 y2 = y154
      refine r_iload at_83_154 rfl <| r_push at_83_155 <| r_cmgeNF 25 25 at_83_157 rfl rfl (by omega) (by omega) (by omega) <| ?_
      refine r_ret at_83_223 ?_
      have e : fr_nb μ = y154 := by simp only [fr_nb, hz2, hz154]
      rw [e] at hq
      exact hq
def fr_mk_n (r n : Nat) (μ : am_I) : am_I := am_wr μ 12 (5 * (55 + r) + n) (if am_rd μ 6 (5 * r + n) = 0 then 0 else am_rd μ 1 (5 * r + n))
def fr_chg (r : Nat) (μ : am_I) : Int32 := if fr_sb μ (55 + r) (50 + r) = 0 then 1 else if am_ck μ - 20 < am_rd μ 11 (50 + r) then if am_rd μ 17 r = 0 then 0 else 1 else 1
def fr_due (r : Nat) (μ : am_I) : Int32 := if am_rd μ 10 (50 + r) = 0 then 1 else if am_ck μ - 2 < am_rd μ 11 (50 + r) then 0 else if fr_chg r μ = 0 then 0 else 1
def fr_mk7 (r : Nat) (μ : am_I) : am_I := fr_inst (am_wr μ 9 5 (am_rd μ 9 5 + 1)) r r (55 + r) r
def fr_mk6 (r : Nat) (μ : am_I) : am_I := fr_mk7 r (am_wr (fr_copy μ (55 + r) (50 + r)) 17 r 0)
def fr_mk5 (r : Nat) (μ : am_I) : am_I := fr_mk6 r (am_wr μ 11 (55 + r) (am_ck μ))
def fr_mk4 (r : Nat) (μ : am_I) : am_I := fr_mk5 r (am_wr μ 10 (55 + r) (am_rd μ 16 r))
def fr_mk3 (r : Nat) (μ : am_I) : am_I := fr_mk4 r (am_wr μ 16 r (am_rd μ 16 r + 1))
def fr_mk2 (r : Nat) (μ : am_I) : am_I := if am_rd μ 0 r = 0 then if fr_due r μ = 0 then μ else fr_mk3 r μ else μ
def fr_make (μ : am_I) (r : Nat) : am_I := fr_mk2 r (am_it (fr_mk_n r) 5 μ)
set_option maxHeartbeats 20000000 in
theorem q_make {d : Nat} {Q : am_Q} {K : am_K} {sc : am_Sc} {c : am_M} {μ : am_I} {p : am_P} {r : Nat} (hd : 3 ≤ d) (T : am_TQ K p) (hr : r < 5) (hq : Q (K, sc, c, (fr_make μ r, p)) none) : am_call d 85 [.inr (some 163), .inl (nI r)] (K, sc, c, (μ, p)) Q := by
  obtain ⟨d, rfl⟩ : ∃ d', d = d' + 1 := ⟨d - 1, by omega⟩
  refine r_enter (by decide) (Nat.le_of_ble_eq_true rfl) (ls := [some (.inr (some 163)), some (.inl (nI r)), none, none, none, none]) rfl ?_
  refine r_push at_85_0 <| r_iload at_85_2 rfl <| r_addN 55 r at_85_3 rfl rfl <| r_istoreL (ls' := [_, _, _, _, _, _]) at_85_4 rfl <| r_push at_85_5 <| r_iload at_85_7 rfl <| r_addN 50 r at_85_8 rfl rfl <| r_istoreL (ls' := [_, _, _, _, _, _]) at_85_9 rfl <| r_push at_85_10 <| r_istoreL (ls' := [_, _, _, _, _, _]) at_85_11 rfl <| ?_
  refine am_for 5 (fun n z => ∀ u5 : Option am_V, am_w d 85 Q 13 [some (.inr (some 163)), some (.inl (nI r)), some (.inl (nI (55 + r))), some (.inl (nI (50 + r))), some (.inl (nI n)), u5] [] (K, sc, c, (z, p))) (fr_mk_n r) (fun n hi_n z hk_n => ?_) μ ?_ none
  · intro u5
    refine r_iload at_85_13 rfl <| r_push at_85_15 <| r_cmgeNT n 5 at_85_16 rfl rfl (by omega) (by omega) (by omega) <| ?_
    refine r_aload at_85_19 rfl <| q_arr 12 T at_85_20 (by decide) <| r_push at_85_23 <| r_iload at_85_24 rfl <| r_mulN 5 (55 + r) at_85_25 rfl rfl <| r_iload at_85_26 rfl <| r_addN (5 * (55 + r)) n at_85_28 rfl rfl <| r_aload at_85_29 rfl <| q_arr 6 T at_85_30 (by decide) <| r_push at_85_33 <| r_iload at_85_34 rfl <| r_mulN 5 r at_85_35 rfl rfl <| r_iload at_85_36 rfl <| r_addN (5 * r) n at_85_38 rfl rfl <| q_ald 6 (5 * r + n) T at_85_39 (by decide) rfl (by omega) (by decide) <| r_ifeq at_85_40 (fun h40_1 => ?_) (fun h40_1 => ?_)
    · refine r_push at_85_57 <| q_ast 12 (5 * (55 + r) + n) T at_85_58 (by decide) rfl (by omega) (by decide) <| r_iincNL (ls' := [_, _, _, _, _, _]) n at_85_59 rfl rfl <| r_goto at_85_62 <| ?_
      have e : (fr_mk_n r) n z = am_wr z 12 (5 * (55 + r) + n) 0 := by simp only [fr_mk_n, if_pos h40_1]
      rw [e] at hk_n
      exact hk_n _
    · refine r_aload at_85_43 rfl <| q_arr 1 T at_85_44 (by decide) <| r_push at_85_47 <| r_iload at_85_48 rfl <| r_mulN 5 r at_85_49 rfl rfl <| r_iload at_85_50 rfl <| r_addN (5 * r) n at_85_52 rfl rfl <| q_ald 1 (5 * r + n) T at_85_53 (by decide) rfl (by omega) (by decide) <| r_goto at_85_54 <| q_ast 12 (5 * (55 + r) + n) T at_85_58 (by decide) rfl (by omega) (by decide) <| r_iincNL (ls' := [_, _, _, _, _, _]) n at_85_59 rfl rfl <| r_goto at_85_62 <| ?_
      have e : (fr_mk_n r) n z = am_wr z 12 (5 * (55 + r) + n) (am_rd z 1 (5 * r + n)) := by simp only [fr_mk_n, if_neg h40_1]
      rw [e] at hk_n
      exact hk_n _
  · intro u5
    generalize hz13 : am_it (fr_mk_n r) 5 μ = y13
    refine r_iload at_85_13 rfl <| r_push at_85_15 <| r_cmgeNF 5 5 at_85_16 rfl rfl (by omega) (by omega) (by omega) <| ?_
    refine r_aload at_85_65 rfl <| r_iload at_85_66 rfl <| r_iload at_85_67 rfl <| r_callV2i at_85_68 (T.me) (Nat.le_of_ble_eq_true rfl) (fun _ hq => q_sameBody (by omega) T (by omega) (by omega) hq) <| r_ifeq at_85_71 (fun h71_2 => ?_) (fun h71_2 => ?_)
    · refine r_push at_85_99 <| r_goto at_85_100 <| r_istoreL (ls' := [_, _, _, _, _, _]) at_85_104 rfl <| r_aload at_85_106 rfl <| q_arr 10 T at_85_107 (by decide) <| r_iload at_85_110 rfl <| q_ald 10 (50 + r) T at_85_111 (by decide) rfl (by omega) (by decide) <| r_ifeq at_85_112 (fun h112_3 => ?_) (fun h112_3 => ?_)
      · refine r_push at_85_135 <| r_goto at_85_136 <| r_istoreL (ls' := [_, _, _, _, _, _]) at_85_140 rfl <| r_aload at_85_142 rfl <| q_arr 0 T at_85_143 (by decide) <| r_iload at_85_146 rfl <| q_ald 0 r T at_85_147 (by decide) rfl (by omega) (by decide) <| r_ifne at_85_148 (fun h148_4 => ?_) (fun h148_4 => ?_)
        · refine r_iload at_85_151 rfl <| r_ifneF at_85_153 (by decide) <| r_aload at_85_157 rfl <| q_arr 16 T at_85_158 (by decide) <| r_iload at_85_161 rfl <| r_aload at_85_162 rfl <| q_arr 16 T at_85_163 (by decide) <| r_iload at_85_166 rfl <| q_ald 16 r T at_85_167 (by decide) rfl (by omega) (by decide) <| r_push at_85_168 <| r_bin at_85_169 <| q_ast 16 r T at_85_170 (by decide) rfl (by omega) (by decide) <| r_aload at_85_171 rfl <| q_arr 10 T at_85_172 (by decide) <| r_iload at_85_175 rfl <| r_aload at_85_176 rfl <| q_arr 16 T at_85_177 (by decide) <| r_iload at_85_180 rfl <| q_ald 16 r T at_85_181 (by decide) rfl (by omega) (by decide) <| q_ast 10 (55 + r) T at_85_182 (by decide) rfl (by omega) (by decide) <| r_aload at_85_183 rfl <| q_arr 11 T at_85_184 (by decide) <| r_iload at_85_187 rfl <| r_aload at_85_188 rfl <| q_ck T at_85_189 <| q_ast 11 (55 + r) T at_85_192 (by decide) rfl (by omega) (by decide) <| r_aload at_85_193 rfl <| r_iload at_85_194 rfl <| r_iload at_85_195 rfl <| r_callV2v at_85_196 (T.me) (Nat.le_of_ble_eq_true rfl) (fun _ hq => q_copy (by omega) T (by omega) (by omega) hq) <| r_aload at_85_199 rfl <| q_arr 17 T at_85_200 (by decide) <| r_iload at_85_203 rfl <| r_push at_85_204 <| q_zast 17 r T at_85_205 (by decide) rfl (by omega) (by decide) (Or.inl rfl) <| r_aload at_85_206 rfl <| q_arr 9 T at_85_207 (by decide) <| r_push at_85_210 <| r_aload at_85_211 rfl <| q_arr 9 T at_85_212 (by decide) <| r_push at_85_215 <| q_ald 9 5 T at_85_216 (by decide) rfl (by omega) (by decide) <| r_push at_85_217 <| r_bin at_85_218 <| q_ast 9 5 T at_85_219 (by decide) rfl (by omega) (by decide) <| r_aload at_85_220 rfl <| r_iload at_85_221 rfl <| r_iload at_85_222 rfl <| r_iload at_85_223 rfl <| r_iload at_85_224 rfl <| r_callV4v at_85_225 (T.me) (Nat.le_of_ble_eq_true rfl) (fun _ hq => q_install (by omega) T (by omega) (by omega) (by omega) (by omega) hq) <| ?_
          refine r_ret at_85_228 ?_
          have e : fr_make μ r = fr_inst (am_wr (am_wr (fr_copy (am_wr (am_wr (am_wr y13 16 r ((am_rd y13 16 r) + 1)) 10 (55 + r) (am_rd (am_wr y13 16 r ((am_rd y13 16 r) + 1)) 16 r)) 11 (55 + r) (am_ck (am_wr (am_wr y13 16 r ((am_rd y13 16 r) + 1)) 10 (55 + r) (am_rd (am_wr y13 16 r ((am_rd y13 16 r) + 1)) 16 r)))) (55 + r) (50 + r)) 17 r 0) 9 5 ((am_rd (am_wr (fr_copy (am_wr (am_wr (am_wr y13 16 r ((am_rd y13 16 r) + 1)) 10 (55 + r) (am_rd (am_wr y13 16 r ((am_rd y13 16 r) + 1)) 16 r)) 11 (55 + r) (am_ck (am_wr (am_wr y13 16 r ((am_rd y13 16 r) + 1)) 10 (55 + r) (am_rd (am_wr y13 16 r ((am_rd y13 16 r) + 1)) 16 r)))) (55 + r) (50 + r)) 17 r 0) 9 5) + 1)) r r (55 + r) r := by simp only [fr_make, fr_mk2, fr_due, fr_chg, fr_mk3, fr_mk4, fr_mk5, fr_mk6, fr_mk7, hz13, if_pos h71_2, if_pos h112_3, if_pos h148_4, if_true, if_neg (show ¬ (1 : Int32) = 0 by decide)]
          rw [e] at hq
          exact hq
        · refine r_ret at_85_156 ?_
          have e : fr_make μ r = y13 := by simp only [fr_make, fr_mk2, fr_due, fr_chg, fr_mk3, fr_mk4, fr_mk5, fr_mk6, fr_mk7, hz13, if_pos h71_2, if_pos h112_3, if_neg h148_4, if_true, if_neg (show ¬ (1 : Int32) = 0 by decide)]
          rw [e] at hq
          exact hq
      · refine r_aload at_85_115 rfl <| q_arr 11 T at_85_116 (by decide) <| r_iload at_85_119 rfl <| q_ald 11 (50 + r) T at_85_120 (by decide) rfl (by omega) (by decide) <| r_aload at_85_121 rfl <| q_ck T at_85_122 <| r_push at_85_125 <| r_bin at_85_126 <| r_cmgt at_85_127 (fun h127_5 => ?_) (fun h127_5 => ?_)
        · refine r_push at_85_139 <| r_istoreL (ls' := [_, _, _, _, _, _]) at_85_140 rfl <| r_aload at_85_142 rfl <| q_arr 0 T at_85_143 (by decide) <| r_iload at_85_146 rfl <| q_ald 0 r T at_85_147 (by decide) rfl (by omega) (by decide) <| r_ifne at_85_148 (fun h148_6 => ?_) (fun h148_6 => ?_)
          · refine r_iload at_85_151 rfl <| r_ifneT at_85_153 (by decide) <| ?_
            refine r_ret at_85_156 ?_
            have e : fr_make μ r = y13 := by simp only [fr_make, fr_mk2, fr_due, fr_chg, fr_mk3, fr_mk4, fr_mk5, fr_mk6, fr_mk7, hz13, if_pos h71_2, if_neg h112_3, if_pos h127_5, if_pos h148_6, if_true, if_neg (show ¬ (1 : Int32) = 0 by decide)]
            rw [e] at hq
            exact hq
          · refine r_ret at_85_156 ?_
            have e : fr_make μ r = y13 := by simp only [fr_make, fr_mk2, fr_due, fr_chg, fr_mk3, fr_mk4, fr_mk5, fr_mk6, fr_mk7, hz13, if_pos h71_2, if_neg h112_3, if_pos h127_5, if_neg h148_6, if_true, if_neg (show ¬ (1 : Int32) = 0 by decide)]
            rw [e] at hq
            exact hq
        · refine r_iload at_85_130 rfl <| r_ifeqF at_85_132 (by decide) <| r_push at_85_135 <| r_goto at_85_136 <| r_istoreL (ls' := [_, _, _, _, _, _]) at_85_140 rfl <| r_aload at_85_142 rfl <| q_arr 0 T at_85_143 (by decide) <| r_iload at_85_146 rfl <| q_ald 0 r T at_85_147 (by decide) rfl (by omega) (by decide) <| r_ifne at_85_148 (fun h148_7 => ?_) (fun h148_7 => ?_)
          · refine r_iload at_85_151 rfl <| r_ifneF at_85_153 (by decide) <| r_aload at_85_157 rfl <| q_arr 16 T at_85_158 (by decide) <| r_iload at_85_161 rfl <| r_aload at_85_162 rfl <| q_arr 16 T at_85_163 (by decide) <| r_iload at_85_166 rfl <| q_ald 16 r T at_85_167 (by decide) rfl (by omega) (by decide) <| r_push at_85_168 <| r_bin at_85_169 <| q_ast 16 r T at_85_170 (by decide) rfl (by omega) (by decide) <| r_aload at_85_171 rfl <| q_arr 10 T at_85_172 (by decide) <| r_iload at_85_175 rfl <| r_aload at_85_176 rfl <| q_arr 16 T at_85_177 (by decide) <| r_iload at_85_180 rfl <| q_ald 16 r T at_85_181 (by decide) rfl (by omega) (by decide) <| q_ast 10 (55 + r) T at_85_182 (by decide) rfl (by omega) (by decide) <| r_aload at_85_183 rfl <| q_arr 11 T at_85_184 (by decide) <| r_iload at_85_187 rfl <| r_aload at_85_188 rfl <| q_ck T at_85_189 <| q_ast 11 (55 + r) T at_85_192 (by decide) rfl (by omega) (by decide) <| r_aload at_85_193 rfl <| r_iload at_85_194 rfl <| r_iload at_85_195 rfl <| r_callV2v at_85_196 (T.me) (Nat.le_of_ble_eq_true rfl) (fun _ hq => q_copy (by omega) T (by omega) (by omega) hq) <| r_aload at_85_199 rfl <| q_arr 17 T at_85_200 (by decide) <| r_iload at_85_203 rfl <| r_push at_85_204 <| q_zast 17 r T at_85_205 (by decide) rfl (by omega) (by decide) (Or.inl rfl) <| r_aload at_85_206 rfl <| q_arr 9 T at_85_207 (by decide) <| r_push at_85_210 <| r_aload at_85_211 rfl <| q_arr 9 T at_85_212 (by decide) <| r_push at_85_215 <| q_ald 9 5 T at_85_216 (by decide) rfl (by omega) (by decide) <| r_push at_85_217 <| r_bin at_85_218 <| q_ast 9 5 T at_85_219 (by decide) rfl (by omega) (by decide) <| r_aload at_85_220 rfl <| r_iload at_85_221 rfl <| r_iload at_85_222 rfl <| r_iload at_85_223 rfl <| r_iload at_85_224 rfl <| r_callV4v at_85_225 (T.me) (Nat.le_of_ble_eq_true rfl) (fun _ hq => q_install (by omega) T (by omega) (by omega) (by omega) (by omega) hq) <| ?_
            refine r_ret at_85_228 ?_
            have e : fr_make μ r = fr_inst (am_wr (am_wr (fr_copy (am_wr (am_wr (am_wr y13 16 r ((am_rd y13 16 r) + 1)) 10 (55 + r) (am_rd (am_wr y13 16 r ((am_rd y13 16 r) + 1)) 16 r)) 11 (55 + r) (am_ck (am_wr (am_wr y13 16 r ((am_rd y13 16 r) + 1)) 10 (55 + r) (am_rd (am_wr y13 16 r ((am_rd y13 16 r) + 1)) 16 r)))) (55 + r) (50 + r)) 17 r 0) 9 5 ((am_rd (am_wr (fr_copy (am_wr (am_wr (am_wr y13 16 r ((am_rd y13 16 r) + 1)) 10 (55 + r) (am_rd (am_wr y13 16 r ((am_rd y13 16 r) + 1)) 16 r)) 11 (55 + r) (am_ck (am_wr (am_wr y13 16 r ((am_rd y13 16 r) + 1)) 10 (55 + r) (am_rd (am_wr y13 16 r ((am_rd y13 16 r) + 1)) 16 r)))) (55 + r) (50 + r)) 17 r 0) 9 5) + 1)) r r (55 + r) r := by simp only [fr_make, fr_mk2, fr_due, fr_chg, fr_mk3, fr_mk4, fr_mk5, fr_mk6, fr_mk7, hz13, if_pos h71_2, if_neg h112_3, if_neg h127_5, if_pos h148_7, if_true, if_neg (show ¬ (1 : Int32) = 0 by decide)]
            rw [e] at hq
            exact hq
          · refine r_ret at_85_156 ?_
            have e : fr_make μ r = y13 := by simp only [fr_make, fr_mk2, fr_due, fr_chg, fr_mk3, fr_mk4, fr_mk5, fr_mk6, fr_mk7, hz13, if_pos h71_2, if_neg h112_3, if_neg h127_5, if_neg h148_7, if_true, if_neg (show ¬ (1 : Int32) = 0 by decide)]
            rw [e] at hq
            exact hq
    · refine r_aload at_85_74 rfl <| q_arr 11 T at_85_75 (by decide) <| r_iload at_85_78 rfl <| q_ald 11 (50 + r) T at_85_79 (by decide) rfl (by omega) (by decide) <| r_aload at_85_80 rfl <| q_ck T at_85_81 <| r_push at_85_84 <| r_bin at_85_86 <| r_cmle at_85_87 (fun h87_8 => ?_) (fun h87_8 => ?_)
      · refine r_aload at_85_90 rfl <| q_arr 17 T at_85_91 (by decide) <| r_iload at_85_94 rfl <| q_ald 17 r T at_85_95 (by decide) rfl (by omega) (by decide) <| r_ifeq at_85_96 (fun h96_9 => ?_) (fun h96_9 => ?_)
        · refine r_push at_85_103 <| r_istoreL (ls' := [_, _, _, _, _, _]) at_85_104 rfl <| r_aload at_85_106 rfl <| q_arr 10 T at_85_107 (by decide) <| r_iload at_85_110 rfl <| q_ald 10 (50 + r) T at_85_111 (by decide) rfl (by omega) (by decide) <| r_ifeq at_85_112 (fun h112_10 => ?_) (fun h112_10 => ?_)
          · refine r_push at_85_135 <| r_goto at_85_136 <| r_istoreL (ls' := [_, _, _, _, _, _]) at_85_140 rfl <| r_aload at_85_142 rfl <| q_arr 0 T at_85_143 (by decide) <| r_iload at_85_146 rfl <| q_ald 0 r T at_85_147 (by decide) rfl (by omega) (by decide) <| r_ifne at_85_148 (fun h148_11 => ?_) (fun h148_11 => ?_)
            · refine r_iload at_85_151 rfl <| r_ifneF at_85_153 (by decide) <| r_aload at_85_157 rfl <| q_arr 16 T at_85_158 (by decide) <| r_iload at_85_161 rfl <| r_aload at_85_162 rfl <| q_arr 16 T at_85_163 (by decide) <| r_iload at_85_166 rfl <| q_ald 16 r T at_85_167 (by decide) rfl (by omega) (by decide) <| r_push at_85_168 <| r_bin at_85_169 <| q_ast 16 r T at_85_170 (by decide) rfl (by omega) (by decide) <| r_aload at_85_171 rfl <| q_arr 10 T at_85_172 (by decide) <| r_iload at_85_175 rfl <| r_aload at_85_176 rfl <| q_arr 16 T at_85_177 (by decide) <| r_iload at_85_180 rfl <| q_ald 16 r T at_85_181 (by decide) rfl (by omega) (by decide) <| q_ast 10 (55 + r) T at_85_182 (by decide) rfl (by omega) (by decide) <| r_aload at_85_183 rfl <| q_arr 11 T at_85_184 (by decide) <| r_iload at_85_187 rfl <| r_aload at_85_188 rfl <| q_ck T at_85_189 <| q_ast 11 (55 + r) T at_85_192 (by decide) rfl (by omega) (by decide) <| r_aload at_85_193 rfl <| r_iload at_85_194 rfl <| r_iload at_85_195 rfl <| r_callV2v at_85_196 (T.me) (Nat.le_of_ble_eq_true rfl) (fun _ hq => q_copy (by omega) T (by omega) (by omega) hq) <| r_aload at_85_199 rfl <| q_arr 17 T at_85_200 (by decide) <| r_iload at_85_203 rfl <| r_push at_85_204 <| q_zast 17 r T at_85_205 (by decide) rfl (by omega) (by decide) (Or.inl rfl) <| r_aload at_85_206 rfl <| q_arr 9 T at_85_207 (by decide) <| r_push at_85_210 <| r_aload at_85_211 rfl <| q_arr 9 T at_85_212 (by decide) <| r_push at_85_215 <| q_ald 9 5 T at_85_216 (by decide) rfl (by omega) (by decide) <| r_push at_85_217 <| r_bin at_85_218 <| q_ast 9 5 T at_85_219 (by decide) rfl (by omega) (by decide) <| r_aload at_85_220 rfl <| r_iload at_85_221 rfl <| r_iload at_85_222 rfl <| r_iload at_85_223 rfl <| r_iload at_85_224 rfl <| r_callV4v at_85_225 (T.me) (Nat.le_of_ble_eq_true rfl) (fun _ hq => q_install (by omega) T (by omega) (by omega) (by omega) (by omega) hq) <| ?_
              refine r_ret at_85_228 ?_
              have e : fr_make μ r = fr_inst (am_wr (am_wr (fr_copy (am_wr (am_wr (am_wr y13 16 r ((am_rd y13 16 r) + 1)) 10 (55 + r) (am_rd (am_wr y13 16 r ((am_rd y13 16 r) + 1)) 16 r)) 11 (55 + r) (am_ck (am_wr (am_wr y13 16 r ((am_rd y13 16 r) + 1)) 10 (55 + r) (am_rd (am_wr y13 16 r ((am_rd y13 16 r) + 1)) 16 r)))) (55 + r) (50 + r)) 17 r 0) 9 5 ((am_rd (am_wr (fr_copy (am_wr (am_wr (am_wr y13 16 r ((am_rd y13 16 r) + 1)) 10 (55 + r) (am_rd (am_wr y13 16 r ((am_rd y13 16 r) + 1)) 16 r)) 11 (55 + r) (am_ck (am_wr (am_wr y13 16 r ((am_rd y13 16 r) + 1)) 10 (55 + r) (am_rd (am_wr y13 16 r ((am_rd y13 16 r) + 1)) 16 r)))) (55 + r) (50 + r)) 17 r 0) 9 5) + 1)) r r (55 + r) r := by simp only [fr_make, fr_mk2, fr_due, fr_chg, fr_mk3, fr_mk4, fr_mk5, fr_mk6, fr_mk7, hz13, if_neg h71_2, if_pos h87_8, if_pos h96_9, if_pos h112_10, if_pos h148_11, if_true, if_neg (show ¬ (1 : Int32) = 0 by decide)]
              rw [e] at hq
              exact hq
            · refine r_ret at_85_156 ?_
              have e : fr_make μ r = y13 := by simp only [fr_make, fr_mk2, fr_due, fr_chg, fr_mk3, fr_mk4, fr_mk5, fr_mk6, fr_mk7, hz13, if_neg h71_2, if_pos h87_8, if_pos h96_9, if_pos h112_10, if_neg h148_11, if_true, if_neg (show ¬ (1 : Int32) = 0 by decide)]
              rw [e] at hq
              exact hq
          · refine r_aload at_85_115 rfl <| q_arr 11 T at_85_116 (by decide) <| r_iload at_85_119 rfl <| q_ald 11 (50 + r) T at_85_120 (by decide) rfl (by omega) (by decide) <| r_aload at_85_121 rfl <| q_ck T at_85_122 <| r_push at_85_125 <| r_bin at_85_126 <| r_cmgt at_85_127 (fun h127_12 => ?_) (fun h127_12 => ?_)
            · refine r_push at_85_139 <| r_istoreL (ls' := [_, _, _, _, _, _]) at_85_140 rfl <| r_aload at_85_142 rfl <| q_arr 0 T at_85_143 (by decide) <| r_iload at_85_146 rfl <| q_ald 0 r T at_85_147 (by decide) rfl (by omega) (by decide) <| r_ifne at_85_148 (fun h148_13 => ?_) (fun h148_13 => ?_)
              · refine r_iload at_85_151 rfl <| r_ifneT at_85_153 (by decide) <| ?_
                refine r_ret at_85_156 ?_
                have e : fr_make μ r = y13 := by simp only [fr_make, fr_mk2, fr_due, fr_chg, fr_mk3, fr_mk4, fr_mk5, fr_mk6, fr_mk7, hz13, if_neg h71_2, if_pos h87_8, if_pos h96_9, if_neg h112_10, if_pos h127_12, if_pos h148_13, if_true, if_neg (show ¬ (1 : Int32) = 0 by decide)]
                rw [e] at hq
                exact hq
              · refine r_ret at_85_156 ?_
                have e : fr_make μ r = y13 := by simp only [fr_make, fr_mk2, fr_due, fr_chg, fr_mk3, fr_mk4, fr_mk5, fr_mk6, fr_mk7, hz13, if_neg h71_2, if_pos h87_8, if_pos h96_9, if_neg h112_10, if_pos h127_12, if_neg h148_13, if_true, if_neg (show ¬ (1 : Int32) = 0 by decide)]
                rw [e] at hq
                exact hq
            · refine r_iload at_85_130 rfl <| r_ifeqT at_85_132 (by decide) <| r_push at_85_139 <| r_istoreL (ls' := [_, _, _, _, _, _]) at_85_140 rfl <| r_aload at_85_142 rfl <| q_arr 0 T at_85_143 (by decide) <| r_iload at_85_146 rfl <| q_ald 0 r T at_85_147 (by decide) rfl (by omega) (by decide) <| r_ifne at_85_148 (fun h148_14 => ?_) (fun h148_14 => ?_)
              · refine r_iload at_85_151 rfl <| r_ifneT at_85_153 (by decide) <| ?_
                refine r_ret at_85_156 ?_
                have e : fr_make μ r = y13 := by simp only [fr_make, fr_mk2, fr_due, fr_chg, fr_mk3, fr_mk4, fr_mk5, fr_mk6, fr_mk7, hz13, if_neg h71_2, if_pos h87_8, if_pos h96_9, if_neg h112_10, if_neg h127_12, if_pos h148_14, if_true, if_neg (show ¬ (1 : Int32) = 0 by decide)]
                rw [e] at hq
                exact hq
              · refine r_ret at_85_156 ?_
                have e : fr_make μ r = y13 := by simp only [fr_make, fr_mk2, fr_due, fr_chg, fr_mk3, fr_mk4, fr_mk5, fr_mk6, fr_mk7, hz13, if_neg h71_2, if_pos h87_8, if_pos h96_9, if_neg h112_10, if_neg h127_12, if_neg h148_14, if_true, if_neg (show ¬ (1 : Int32) = 0 by decide)]
                rw [e] at hq
                exact hq
        · refine r_push at_85_99 <| r_goto at_85_100 <| r_istoreL (ls' := [_, _, _, _, _, _]) at_85_104 rfl <| r_aload at_85_106 rfl <| q_arr 10 T at_85_107 (by decide) <| r_iload at_85_110 rfl <| q_ald 10 (50 + r) T at_85_111 (by decide) rfl (by omega) (by decide) <| r_ifeq at_85_112 (fun h112_15 => ?_) (fun h112_15 => ?_)
          · refine r_push at_85_135 <| r_goto at_85_136 <| r_istoreL (ls' := [_, _, _, _, _, _]) at_85_140 rfl <| r_aload at_85_142 rfl <| q_arr 0 T at_85_143 (by decide) <| r_iload at_85_146 rfl <| q_ald 0 r T at_85_147 (by decide) rfl (by omega) (by decide) <| r_ifne at_85_148 (fun h148_16 => ?_) (fun h148_16 => ?_)
            · refine r_iload at_85_151 rfl <| r_ifneF at_85_153 (by decide) <| r_aload at_85_157 rfl <| q_arr 16 T at_85_158 (by decide) <| r_iload at_85_161 rfl <| r_aload at_85_162 rfl <| q_arr 16 T at_85_163 (by decide) <| r_iload at_85_166 rfl <| q_ald 16 r T at_85_167 (by decide) rfl (by omega) (by decide) <| r_push at_85_168 <| r_bin at_85_169 <| q_ast 16 r T at_85_170 (by decide) rfl (by omega) (by decide) <| r_aload at_85_171 rfl <| q_arr 10 T at_85_172 (by decide) <| r_iload at_85_175 rfl <| r_aload at_85_176 rfl <| q_arr 16 T at_85_177 (by decide) <| r_iload at_85_180 rfl <| q_ald 16 r T at_85_181 (by decide) rfl (by omega) (by decide) <| q_ast 10 (55 + r) T at_85_182 (by decide) rfl (by omega) (by decide) <| r_aload at_85_183 rfl <| q_arr 11 T at_85_184 (by decide) <| r_iload at_85_187 rfl <| r_aload at_85_188 rfl <| q_ck T at_85_189 <| q_ast 11 (55 + r) T at_85_192 (by decide) rfl (by omega) (by decide) <| r_aload at_85_193 rfl <| r_iload at_85_194 rfl <| r_iload at_85_195 rfl <| r_callV2v at_85_196 (T.me) (Nat.le_of_ble_eq_true rfl) (fun _ hq => q_copy (by omega) T (by omega) (by omega) hq) <| r_aload at_85_199 rfl <| q_arr 17 T at_85_200 (by decide) <| r_iload at_85_203 rfl <| r_push at_85_204 <| q_zast 17 r T at_85_205 (by decide) rfl (by omega) (by decide) (Or.inl rfl) <| r_aload at_85_206 rfl <| q_arr 9 T at_85_207 (by decide) <| r_push at_85_210 <| r_aload at_85_211 rfl <| q_arr 9 T at_85_212 (by decide) <| r_push at_85_215 <| q_ald 9 5 T at_85_216 (by decide) rfl (by omega) (by decide) <| r_push at_85_217 <| r_bin at_85_218 <| q_ast 9 5 T at_85_219 (by decide) rfl (by omega) (by decide) <| r_aload at_85_220 rfl <| r_iload at_85_221 rfl <| r_iload at_85_222 rfl <| r_iload at_85_223 rfl <| r_iload at_85_224 rfl <| r_callV4v at_85_225 (T.me) (Nat.le_of_ble_eq_true rfl) (fun _ hq => q_install (by omega) T (by omega) (by omega) (by omega) (by omega) hq) <| ?_
              refine r_ret at_85_228 ?_
              have e : fr_make μ r = fr_inst (am_wr (am_wr (fr_copy (am_wr (am_wr (am_wr y13 16 r ((am_rd y13 16 r) + 1)) 10 (55 + r) (am_rd (am_wr y13 16 r ((am_rd y13 16 r) + 1)) 16 r)) 11 (55 + r) (am_ck (am_wr (am_wr y13 16 r ((am_rd y13 16 r) + 1)) 10 (55 + r) (am_rd (am_wr y13 16 r ((am_rd y13 16 r) + 1)) 16 r)))) (55 + r) (50 + r)) 17 r 0) 9 5 ((am_rd (am_wr (fr_copy (am_wr (am_wr (am_wr y13 16 r ((am_rd y13 16 r) + 1)) 10 (55 + r) (am_rd (am_wr y13 16 r ((am_rd y13 16 r) + 1)) 16 r)) 11 (55 + r) (am_ck (am_wr (am_wr y13 16 r ((am_rd y13 16 r) + 1)) 10 (55 + r) (am_rd (am_wr y13 16 r ((am_rd y13 16 r) + 1)) 16 r)))) (55 + r) (50 + r)) 17 r 0) 9 5) + 1)) r r (55 + r) r := by simp only [fr_make, fr_mk2, fr_due, fr_chg, fr_mk3, fr_mk4, fr_mk5, fr_mk6, fr_mk7, hz13, if_neg h71_2, if_pos h87_8, if_neg h96_9, if_pos h112_15, if_pos h148_16, if_true, if_neg (show ¬ (1 : Int32) = 0 by decide)]
              rw [e] at hq
              exact hq
            · refine r_ret at_85_156 ?_
              have e : fr_make μ r = y13 := by simp only [fr_make, fr_mk2, fr_due, fr_chg, fr_mk3, fr_mk4, fr_mk5, fr_mk6, fr_mk7, hz13, if_neg h71_2, if_pos h87_8, if_neg h96_9, if_pos h112_15, if_neg h148_16, if_true, if_neg (show ¬ (1 : Int32) = 0 by decide)]
              rw [e] at hq
              exact hq
          · refine r_aload at_85_115 rfl <| q_arr 11 T at_85_116 (by decide) <| r_iload at_85_119 rfl <| q_ald 11 (50 + r) T at_85_120 (by decide) rfl (by omega) (by decide) <| r_aload at_85_121 rfl <| q_ck T at_85_122 <| r_push at_85_125 <| r_bin at_85_126 <| r_cmgt at_85_127 (fun h127_17 => ?_) (fun h127_17 => ?_)
            · refine r_push at_85_139 <| r_istoreL (ls' := [_, _, _, _, _, _]) at_85_140 rfl <| r_aload at_85_142 rfl <| q_arr 0 T at_85_143 (by decide) <| r_iload at_85_146 rfl <| q_ald 0 r T at_85_147 (by decide) rfl (by omega) (by decide) <| r_ifne at_85_148 (fun h148_18 => ?_) (fun h148_18 => ?_)
              · refine r_iload at_85_151 rfl <| r_ifneT at_85_153 (by decide) <| ?_
                refine r_ret at_85_156 ?_
                have e : fr_make μ r = y13 := by simp only [fr_make, fr_mk2, fr_due, fr_chg, fr_mk3, fr_mk4, fr_mk5, fr_mk6, fr_mk7, hz13, if_neg h71_2, if_pos h87_8, if_neg h96_9, if_neg h112_15, if_pos h127_17, if_pos h148_18, if_true, if_neg (show ¬ (1 : Int32) = 0 by decide)]
                rw [e] at hq
                exact hq
              · refine r_ret at_85_156 ?_
                have e : fr_make μ r = y13 := by simp only [fr_make, fr_mk2, fr_due, fr_chg, fr_mk3, fr_mk4, fr_mk5, fr_mk6, fr_mk7, hz13, if_neg h71_2, if_pos h87_8, if_neg h96_9, if_neg h112_15, if_pos h127_17, if_neg h148_18, if_true, if_neg (show ¬ (1 : Int32) = 0 by decide)]
                rw [e] at hq
                exact hq
            · refine r_iload at_85_130 rfl <| r_ifeqF at_85_132 (by decide) <| r_push at_85_135 <| r_goto at_85_136 <| r_istoreL (ls' := [_, _, _, _, _, _]) at_85_140 rfl <| r_aload at_85_142 rfl <| q_arr 0 T at_85_143 (by decide) <| r_iload at_85_146 rfl <| q_ald 0 r T at_85_147 (by decide) rfl (by omega) (by decide) <| r_ifne at_85_148 (fun h148_19 => ?_) (fun h148_19 => ?_)
              · refine r_iload at_85_151 rfl <| r_ifneF at_85_153 (by decide) <| r_aload at_85_157 rfl <| q_arr 16 T at_85_158 (by decide) <| r_iload at_85_161 rfl <| r_aload at_85_162 rfl <| q_arr 16 T at_85_163 (by decide) <| r_iload at_85_166 rfl <| q_ald 16 r T at_85_167 (by decide) rfl (by omega) (by decide) <| r_push at_85_168 <| r_bin at_85_169 <| q_ast 16 r T at_85_170 (by decide) rfl (by omega) (by decide) <| r_aload at_85_171 rfl <| q_arr 10 T at_85_172 (by decide) <| r_iload at_85_175 rfl <| r_aload at_85_176 rfl <| q_arr 16 T at_85_177 (by decide) <| r_iload at_85_180 rfl <| q_ald 16 r T at_85_181 (by decide) rfl (by omega) (by decide) <| q_ast 10 (55 + r) T at_85_182 (by decide) rfl (by omega) (by decide) <| r_aload at_85_183 rfl <| q_arr 11 T at_85_184 (by decide) <| r_iload at_85_187 rfl <| r_aload at_85_188 rfl <| q_ck T at_85_189 <| q_ast 11 (55 + r) T at_85_192 (by decide) rfl (by omega) (by decide) <| r_aload at_85_193 rfl <| r_iload at_85_194 rfl <| r_iload at_85_195 rfl <| r_callV2v at_85_196 (T.me) (Nat.le_of_ble_eq_true rfl) (fun _ hq => q_copy (by omega) T (by omega) (by omega) hq) <| r_aload at_85_199 rfl <| q_arr 17 T at_85_200 (by decide) <| r_iload at_85_203 rfl <| r_push at_85_204 <| q_zast 17 r T at_85_205 (by decide) rfl (by omega) (by decide) (Or.inl rfl) <| r_aload at_85_206 rfl <| q_arr 9 T at_85_207 (by decide) <| r_push at_85_210 <| r_aload at_85_211 rfl <| q_arr 9 T at_85_212 (by decide) <| r_push at_85_215 <| q_ald 9 5 T at_85_216 (by decide) rfl (by omega) (by decide) <| r_push at_85_217 <| r_bin at_85_218 <| q_ast 9 5 T at_85_219 (by decide) rfl (by omega) (by decide) <| r_aload at_85_220 rfl <| r_iload at_85_221 rfl <| r_iload at_85_222 rfl <| r_iload at_85_223 rfl <| r_iload at_85_224 rfl <| r_callV4v at_85_225 (T.me) (Nat.le_of_ble_eq_true rfl) (fun _ hq => q_install (by omega) T (by omega) (by omega) (by omega) (by omega) hq) <| ?_
                refine r_ret at_85_228 ?_
                have e : fr_make μ r = fr_inst (am_wr (am_wr (fr_copy (am_wr (am_wr (am_wr y13 16 r ((am_rd y13 16 r) + 1)) 10 (55 + r) (am_rd (am_wr y13 16 r ((am_rd y13 16 r) + 1)) 16 r)) 11 (55 + r) (am_ck (am_wr (am_wr y13 16 r ((am_rd y13 16 r) + 1)) 10 (55 + r) (am_rd (am_wr y13 16 r ((am_rd y13 16 r) + 1)) 16 r)))) (55 + r) (50 + r)) 17 r 0) 9 5 ((am_rd (am_wr (fr_copy (am_wr (am_wr (am_wr y13 16 r ((am_rd y13 16 r) + 1)) 10 (55 + r) (am_rd (am_wr y13 16 r ((am_rd y13 16 r) + 1)) 16 r)) 11 (55 + r) (am_ck (am_wr (am_wr y13 16 r ((am_rd y13 16 r) + 1)) 10 (55 + r) (am_rd (am_wr y13 16 r ((am_rd y13 16 r) + 1)) 16 r)))) (55 + r) (50 + r)) 17 r 0) 9 5) + 1)) r r (55 + r) r := by simp only [fr_make, fr_mk2, fr_due, fr_chg, fr_mk3, fr_mk4, fr_mk5, fr_mk6, fr_mk7, hz13, if_neg h71_2, if_pos h87_8, if_neg h96_9, if_neg h112_15, if_neg h127_17, if_pos h148_19, if_true, if_neg (show ¬ (1 : Int32) = 0 by decide)]
                rw [e] at hq
                exact hq
              · refine r_ret at_85_156 ?_
                have e : fr_make μ r = y13 := by simp only [fr_make, fr_mk2, fr_due, fr_chg, fr_mk3, fr_mk4, fr_mk5, fr_mk6, fr_mk7, hz13, if_neg h71_2, if_pos h87_8, if_neg h96_9, if_neg h112_15, if_neg h127_17, if_neg h148_19, if_true, if_neg (show ¬ (1 : Int32) = 0 by decide)]
                rw [e] at hq
                exact hq
      · refine r_push at_85_99 <| r_goto at_85_100 <| r_istoreL (ls' := [_, _, _, _, _, _]) at_85_104 rfl <| r_aload at_85_106 rfl <| q_arr 10 T at_85_107 (by decide) <| r_iload at_85_110 rfl <| q_ald 10 (50 + r) T at_85_111 (by decide) rfl (by omega) (by decide) <| r_ifeq at_85_112 (fun h112_20 => ?_) (fun h112_20 => ?_)
        · refine r_push at_85_135 <| r_goto at_85_136 <| r_istoreL (ls' := [_, _, _, _, _, _]) at_85_140 rfl <| r_aload at_85_142 rfl <| q_arr 0 T at_85_143 (by decide) <| r_iload at_85_146 rfl <| q_ald 0 r T at_85_147 (by decide) rfl (by omega) (by decide) <| r_ifne at_85_148 (fun h148_21 => ?_) (fun h148_21 => ?_)
          · refine r_iload at_85_151 rfl <| r_ifneF at_85_153 (by decide) <| r_aload at_85_157 rfl <| q_arr 16 T at_85_158 (by decide) <| r_iload at_85_161 rfl <| r_aload at_85_162 rfl <| q_arr 16 T at_85_163 (by decide) <| r_iload at_85_166 rfl <| q_ald 16 r T at_85_167 (by decide) rfl (by omega) (by decide) <| r_push at_85_168 <| r_bin at_85_169 <| q_ast 16 r T at_85_170 (by decide) rfl (by omega) (by decide) <| r_aload at_85_171 rfl <| q_arr 10 T at_85_172 (by decide) <| r_iload at_85_175 rfl <| r_aload at_85_176 rfl <| q_arr 16 T at_85_177 (by decide) <| r_iload at_85_180 rfl <| q_ald 16 r T at_85_181 (by decide) rfl (by omega) (by decide) <| q_ast 10 (55 + r) T at_85_182 (by decide) rfl (by omega) (by decide) <| r_aload at_85_183 rfl <| q_arr 11 T at_85_184 (by decide) <| r_iload at_85_187 rfl <| r_aload at_85_188 rfl <| q_ck T at_85_189 <| q_ast 11 (55 + r) T at_85_192 (by decide) rfl (by omega) (by decide) <| r_aload at_85_193 rfl <| r_iload at_85_194 rfl <| r_iload at_85_195 rfl <| r_callV2v at_85_196 (T.me) (Nat.le_of_ble_eq_true rfl) (fun _ hq => q_copy (by omega) T (by omega) (by omega) hq) <| r_aload at_85_199 rfl <| q_arr 17 T at_85_200 (by decide) <| r_iload at_85_203 rfl <| r_push at_85_204 <| q_zast 17 r T at_85_205 (by decide) rfl (by omega) (by decide) (Or.inl rfl) <| r_aload at_85_206 rfl <| q_arr 9 T at_85_207 (by decide) <| r_push at_85_210 <| r_aload at_85_211 rfl <| q_arr 9 T at_85_212 (by decide) <| r_push at_85_215 <| q_ald 9 5 T at_85_216 (by decide) rfl (by omega) (by decide) <| r_push at_85_217 <| r_bin at_85_218 <| q_ast 9 5 T at_85_219 (by decide) rfl (by omega) (by decide) <| r_aload at_85_220 rfl <| r_iload at_85_221 rfl <| r_iload at_85_222 rfl <| r_iload at_85_223 rfl <| r_iload at_85_224 rfl <| r_callV4v at_85_225 (T.me) (Nat.le_of_ble_eq_true rfl) (fun _ hq => q_install (by omega) T (by omega) (by omega) (by omega) (by omega) hq) <| ?_
            refine r_ret at_85_228 ?_
            have e : fr_make μ r = fr_inst (am_wr (am_wr (fr_copy (am_wr (am_wr (am_wr y13 16 r ((am_rd y13 16 r) + 1)) 10 (55 + r) (am_rd (am_wr y13 16 r ((am_rd y13 16 r) + 1)) 16 r)) 11 (55 + r) (am_ck (am_wr (am_wr y13 16 r ((am_rd y13 16 r) + 1)) 10 (55 + r) (am_rd (am_wr y13 16 r ((am_rd y13 16 r) + 1)) 16 r)))) (55 + r) (50 + r)) 17 r 0) 9 5 ((am_rd (am_wr (fr_copy (am_wr (am_wr (am_wr y13 16 r ((am_rd y13 16 r) + 1)) 10 (55 + r) (am_rd (am_wr y13 16 r ((am_rd y13 16 r) + 1)) 16 r)) 11 (55 + r) (am_ck (am_wr (am_wr y13 16 r ((am_rd y13 16 r) + 1)) 10 (55 + r) (am_rd (am_wr y13 16 r ((am_rd y13 16 r) + 1)) 16 r)))) (55 + r) (50 + r)) 17 r 0) 9 5) + 1)) r r (55 + r) r := by simp only [fr_make, fr_mk2, fr_due, fr_chg, fr_mk3, fr_mk4, fr_mk5, fr_mk6, fr_mk7, hz13, if_neg h71_2, if_neg h87_8, if_pos h112_20, if_pos h148_21, if_true, if_neg (show ¬ (1 : Int32) = 0 by decide)]
            rw [e] at hq
            exact hq
          · refine r_ret at_85_156 ?_
            have e : fr_make μ r = y13 := by simp only [fr_make, fr_mk2, fr_due, fr_chg, fr_mk3, fr_mk4, fr_mk5, fr_mk6, fr_mk7, hz13, if_neg h71_2, if_neg h87_8, if_pos h112_20, if_neg h148_21, if_true, if_neg (show ¬ (1 : Int32) = 0 by decide)]
            rw [e] at hq
            exact hq
        · refine r_aload at_85_115 rfl <| q_arr 11 T at_85_116 (by decide) <| r_iload at_85_119 rfl <| q_ald 11 (50 + r) T at_85_120 (by decide) rfl (by omega) (by decide) <| r_aload at_85_121 rfl <| q_ck T at_85_122 <| r_push at_85_125 <| r_bin at_85_126 <| r_cmgt at_85_127 (fun h127_22 => ?_) (fun h127_22 => ?_)
          · refine r_push at_85_139 <| r_istoreL (ls' := [_, _, _, _, _, _]) at_85_140 rfl <| r_aload at_85_142 rfl <| q_arr 0 T at_85_143 (by decide) <| r_iload at_85_146 rfl <| q_ald 0 r T at_85_147 (by decide) rfl (by omega) (by decide) <| r_ifne at_85_148 (fun h148_23 => ?_) (fun h148_23 => ?_)
            · refine r_iload at_85_151 rfl <| r_ifneT at_85_153 (by decide) <| ?_
              refine r_ret at_85_156 ?_
              have e : fr_make μ r = y13 := by simp only [fr_make, fr_mk2, fr_due, fr_chg, fr_mk3, fr_mk4, fr_mk5, fr_mk6, fr_mk7, hz13, if_neg h71_2, if_neg h87_8, if_neg h112_20, if_pos h127_22, if_pos h148_23, if_true, if_neg (show ¬ (1 : Int32) = 0 by decide)]
              rw [e] at hq
              exact hq
            · refine r_ret at_85_156 ?_
              have e : fr_make μ r = y13 := by simp only [fr_make, fr_mk2, fr_due, fr_chg, fr_mk3, fr_mk4, fr_mk5, fr_mk6, fr_mk7, hz13, if_neg h71_2, if_neg h87_8, if_neg h112_20, if_pos h127_22, if_neg h148_23, if_true, if_neg (show ¬ (1 : Int32) = 0 by decide)]
              rw [e] at hq
              exact hq
          · refine r_iload at_85_130 rfl <| r_ifeqF at_85_132 (by decide) <| r_push at_85_135 <| r_goto at_85_136 <| r_istoreL (ls' := [_, _, _, _, _, _]) at_85_140 rfl <| r_aload at_85_142 rfl <| q_arr 0 T at_85_143 (by decide) <| r_iload at_85_146 rfl <| q_ald 0 r T at_85_147 (by decide) rfl (by omega) (by decide) <| r_ifne at_85_148 (fun h148_24 => ?_) (fun h148_24 => ?_)
            · refine r_iload at_85_151 rfl <| r_ifneF at_85_153 (by decide) <| r_aload at_85_157 rfl <| q_arr 16 T at_85_158 (by decide) <| r_iload at_85_161 rfl <| r_aload at_85_162 rfl <| q_arr 16 T at_85_163 (by decide) <| r_iload at_85_166 rfl <| q_ald 16 r T at_85_167 (by decide) rfl (by omega) (by decide) <| r_push at_85_168 <| r_bin at_85_169 <| q_ast 16 r T at_85_170 (by decide) rfl (by omega) (by decide) <| r_aload at_85_171 rfl <| q_arr 10 T at_85_172 (by decide) <| r_iload at_85_175 rfl <| r_aload at_85_176 rfl <| q_arr 16 T at_85_177 (by decide) <| r_iload at_85_180 rfl <| q_ald 16 r T at_85_181 (by decide) rfl (by omega) (by decide) <| q_ast 10 (55 + r) T at_85_182 (by decide) rfl (by omega) (by decide) <| r_aload at_85_183 rfl <| q_arr 11 T at_85_184 (by decide) <| r_iload at_85_187 rfl <| r_aload at_85_188 rfl <| q_ck T at_85_189 <| q_ast 11 (55 + r) T at_85_192 (by decide) rfl (by omega) (by decide) <| r_aload at_85_193 rfl <| r_iload at_85_194 rfl <| r_iload at_85_195 rfl <| r_callV2v at_85_196 (T.me) (Nat.le_of_ble_eq_true rfl) (fun _ hq => q_copy (by omega) T (by omega) (by omega) hq) <| r_aload at_85_199 rfl <| q_arr 17 T at_85_200 (by decide) <| r_iload at_85_203 rfl <| r_push at_85_204 <| q_zast 17 r T at_85_205 (by decide) rfl (by omega) (by decide) (Or.inl rfl) <| r_aload at_85_206 rfl <| q_arr 9 T at_85_207 (by decide) <| r_push at_85_210 <| r_aload at_85_211 rfl <| q_arr 9 T at_85_212 (by decide) <| r_push at_85_215 <| q_ald 9 5 T at_85_216 (by decide) rfl (by omega) (by decide) <| r_push at_85_217 <| r_bin at_85_218 <| q_ast 9 5 T at_85_219 (by decide) rfl (by omega) (by decide) <| r_aload at_85_220 rfl <| r_iload at_85_221 rfl <| r_iload at_85_222 rfl <| r_iload at_85_223 rfl <| r_iload at_85_224 rfl <| r_callV4v at_85_225 (T.me) (Nat.le_of_ble_eq_true rfl) (fun _ hq => q_install (by omega) T (by omega) (by omega) (by omega) (by omega) hq) <| ?_
              refine r_ret at_85_228 ?_
              have e : fr_make μ r = fr_inst (am_wr (am_wr (fr_copy (am_wr (am_wr (am_wr y13 16 r ((am_rd y13 16 r) + 1)) 10 (55 + r) (am_rd (am_wr y13 16 r ((am_rd y13 16 r) + 1)) 16 r)) 11 (55 + r) (am_ck (am_wr (am_wr y13 16 r ((am_rd y13 16 r) + 1)) 10 (55 + r) (am_rd (am_wr y13 16 r ((am_rd y13 16 r) + 1)) 16 r)))) (55 + r) (50 + r)) 17 r 0) 9 5 ((am_rd (am_wr (fr_copy (am_wr (am_wr (am_wr y13 16 r ((am_rd y13 16 r) + 1)) 10 (55 + r) (am_rd (am_wr y13 16 r ((am_rd y13 16 r) + 1)) 16 r)) 11 (55 + r) (am_ck (am_wr (am_wr y13 16 r ((am_rd y13 16 r) + 1)) 10 (55 + r) (am_rd (am_wr y13 16 r ((am_rd y13 16 r) + 1)) 16 r)))) (55 + r) (50 + r)) 17 r 0) 9 5) + 1)) r r (55 + r) r := by simp only [fr_make, fr_mk2, fr_due, fr_chg, fr_mk3, fr_mk4, fr_mk5, fr_mk6, fr_mk7, hz13, if_neg h71_2, if_neg h87_8, if_neg h112_20, if_neg h127_22, if_pos h148_24, if_true, if_neg (show ¬ (1 : Int32) = 0 by decide)]
              rw [e] at hq
              exact hq
            · refine r_ret at_85_156 ?_
              have e : fr_make μ r = y13 := by simp only [fr_make, fr_mk2, fr_due, fr_chg, fr_mk3, fr_mk4, fr_mk5, fr_mk6, fr_mk7, hz13, if_neg h71_2, if_neg h87_8, if_neg h112_20, if_neg h127_22, if_neg h148_24, if_true, if_neg (show ¬ (1 : Int32) = 0 by decide)]
              rw [e] at hq
              exact hq
def fr_su_c (k : Nat) (μ : am_I) : am_I := fr_copy μ k (25 + k)
def fr_su_g (k o : Nat) (μ : am_I) : Int32 := if am_rd μ 6 k = 0 then 0 else if am_rd μ 18 o = 0 then 0 else if am_ck μ - 3 < am_rd μ 19 o then 0 else 1
def fr_su_w (o : Nat) (μ : am_I) (g : Int32) : am_I := if g = 0 then am_wr μ 19 o (am_rd μ 19 o) else am_wr μ 19 o (am_ck μ)
def fr_su_y (o : Nat) (g : Int32) (μ : am_I) (v : Int32) : am_I × Int32 := (fr_su_w o (am_wr μ 20 o g) g, if g = 0 then v else v + 1)
def fr_su_x (k x : Nat) (z : am_I × Int32) : am_I × Int32 := fr_su_y (5 * k + x) (fr_su_g k (5 * k + x) z.1) z.1 z.2
def fr_su_v (k : Nat) (w : am_I × Int32) : am_I := am_wr w.1 21 k (if w.2 = 0 then 0 else 1)
def fr_su_f (k : Nat) (μ : am_I) (v : Int32) : am_I := if 0 < v then fr_su_v k (fr_over μ (k / 5) (k % 5) 1) else am_wr μ 21 k 0
def fr_su_e (k : Nat) (z : am_I × Int32) : am_I := fr_su_f k (am_wr z.1 9 2 (am_rd z.1 9 2 + z.2)) z.2
def fr_su_b (k : Nat) (μ : am_I) : am_I := fr_su_e k (am_it (fr_su_x k) 5 (μ, 0))
def fr_su (μ : am_I) : am_I := am_it fr_su_b 25 (am_it fr_su_c 25 μ)
set_option maxHeartbeats 20000000 in
theorem q_sendUpdates {d : Nat} {Q : am_Q} {K : am_K} {sc : am_Sc} {c : am_M} {μ : am_I} {p : am_P}  (hd : 2 ≤ d) (T : am_TQ K p)  (hq : Q (K, sc, c, (fr_su μ, p)) none) : am_call d 86 [.inr (some 163)] (K, sc, c, (μ, p)) Q := by
  obtain ⟨d, rfl⟩ : ∃ d', d = d' + 1 := ⟨d - 1, by omega⟩
  refine r_enter (by decide) (Nat.le_of_ble_eq_true rfl) (ls := [some (.inr (some 163)), none, none, none, none]) rfl ?_
  refine r_push at_86_0 <| r_istoreL (ls' := [_, _, _, _, _]) at_86_1 rfl <| ?_
  refine am_for 25 (fun k z => ∀ u2 u3 u4 : Option am_V, am_w d 86 Q 2 [some (.inr (some 163)), some (.inl (nI k)), u2, u3, u4] [] (K, sc, c, (z, p))) (fr_su_c) (fun k hi_k z hk_k => ?_) μ ?_ none none none
  · intro u2 u3 u4
    refine r_iload at_86_2 rfl <| r_push at_86_3 <| r_cmgeNT k 25 at_86_5 rfl rfl (by omega) (by omega) (by omega) <| ?_
    refine r_aload at_86_8 rfl <| r_iload at_86_9 rfl <| r_push at_86_10 <| r_iload at_86_12 rfl <| r_addN 25 k at_86_13 rfl rfl <| r_callV2v at_86_14 (T.me) (Nat.le_of_ble_eq_true rfl) (fun _ hq => q_copy (by omega) T (by omega) (by omega) hq) <| r_iincNL (ls' := [_, _, _, _, _]) k at_86_17 rfl rfl <| r_goto at_86_20 <| ?_
    have e : (fr_su_c) k z = fr_copy z k (25 + k) := by simp only [fr_su_c]
    rw [e] at hk_k
    exact hk_k _ _ _
  · intro u2 u3 u4
    generalize hz2 : am_it (fr_su_c) 25 μ = y2
    refine r_iload at_86_2 rfl <| r_push at_86_3 <| r_cmgeNF 25 25 at_86_5 rfl rfl (by omega) (by omega) (by omega) <| ?_
    refine r_push at_86_23 <| r_istoreL (ls' := [_, _, _, _, _]) at_86_24 rfl <| ?_
    refine am_for 25 (fun k z => ∀ u2 u3 u4 : Option am_V, am_w d 86 Q 25 [some (.inr (some 163)), some (.inl (nI k)), u2, u3, u4] [] (K, sc, c, (z, p))) (fr_su_b) (fun k hi_k z hk_k => ?_) y2 ?_ u2 u3 u4
    · intro u2 u3 u4
      refine r_iload at_86_25 rfl <| r_push at_86_26 <| r_cmgeNT k 25 at_86_28 rfl rfl (by omega) (by omega) (by omega) <| ?_
      refine r_push at_86_31 <| r_istoreL (ls' := [_, _, _, _, _]) at_86_32 rfl <| r_push at_86_33 <| r_istoreL (ls' := [_, _, _, _, _]) at_86_34 rfl <| ?_
      refine am_for 5 (fun x z => ∀ u4 : Option am_V, am_w d 86 Q 35 [some (.inr (some 163)), some (.inl (nI k)), some (.inl z.2), some (.inl (nI x)), u4] [] (K, sc, c, (z.1, p))) (fr_su_x k) (fun x hi_x z hk_x => ?_) (z, 0) ?_ u4
      · obtain ⟨μx, v⟩ := z
        dsimp only at hk_x ⊢
        intro u4
        refine r_iload at_86_35 rfl <| r_push at_86_36 <| r_cmgeNT x 5 at_86_37 rfl rfl (by omega) (by omega) (by omega) <| ?_
        refine r_push at_86_40 <| r_iload at_86_41 rfl <| r_mulN 5 k at_86_42 rfl rfl <| r_iload at_86_43 rfl <| r_addN (5 * k) x at_86_44 rfl rfl <| r_istoreL (ls' := [_, _, _, _, _]) at_86_45 rfl <| r_aload at_86_47 rfl <| q_arr 20 T at_86_48 (by decide) <| r_iload at_86_51 rfl <| r_aload at_86_53 rfl <| q_arr 6 T at_86_54 (by decide) <| r_iload at_86_57 rfl <| q_ald 6 k T at_86_58 (by decide) rfl (by omega) (by decide) <| r_ifeq at_86_59 (fun h59_1 => ?_) (fun h59_1 => ?_)
        · refine r_push at_86_92 <| q_zast 20 (5 * k + x) T at_86_93 (by decide) rfl (by omega) (by decide) (Or.inl rfl) <| r_aload at_86_94 rfl <| q_arr 19 T at_86_95 (by decide) <| r_iload at_86_98 rfl <| r_aload at_86_100 rfl <| q_arr 20 T at_86_101 (by decide) <| r_iload at_86_104 rfl <| q_ald 20 (5 * k + x) T at_86_106 (by decide) rfl (by omega) (by decide) <| r_ifeqT at_86_107 (by rw [am_rd_wr, if_pos ⟨rfl, rfl⟩]) <| r_aload at_86_117 rfl <| q_arr 19 T at_86_118 (by decide) <| r_iload at_86_121 rfl <| q_ald 19 (5 * k + x) T at_86_123 (by decide) rfl (by omega) (by decide) <| q_ast 19 (5 * k + x) T at_86_124 (by decide) rfl (by omega) (by decide) <| r_aload at_86_125 rfl <| q_arr 20 T at_86_126 (by decide) <| r_iload at_86_129 rfl <| q_ald 20 (5 * k + x) T at_86_131 (by decide) rfl (by omega) (by decide) <| r_ifeqT at_86_132 (by rw [am_rd_wr, if_neg (fun h => absurd h.1 (by decide)), am_rd_wr, if_pos ⟨rfl, rfl⟩]) <| r_iload at_86_141 rfl <| r_istoreL (ls' := [_, _, _, _, _]) at_86_142 rfl <| r_iincNL (ls' := [_, _, _, _, _]) x at_86_143 rfl rfl <| r_goto at_86_146 <| ?_
          have e : (fr_su_x k) x (μx, v) = (am_wr (am_wr μx 20 (5 * k + x) 0) 19 (5 * k + x) (am_rd (am_wr μx 20 (5 * k + x) 0) 19 (5 * k + x)), v) := by simp only [fr_su_x, fr_su_y, fr_su_w, fr_su_g, if_pos h59_1, if_true, if_neg (show ¬ (1 : Int32) = 0 by decide)]
          rw [e] at hk_x
          dsimp only at hk_x
          exact hk_x _
        · refine r_aload at_86_62 rfl <| q_arr 18 T at_86_63 (by decide) <| r_iload at_86_66 rfl <| q_ald 18 (5 * k + x) T at_86_68 (by decide) rfl (by omega) (by decide) <| r_ifeq at_86_69 (fun h69_2 => ?_) (fun h69_2 => ?_)
          · refine r_push at_86_92 <| q_zast 20 (5 * k + x) T at_86_93 (by decide) rfl (by omega) (by decide) (Or.inl rfl) <| r_aload at_86_94 rfl <| q_arr 19 T at_86_95 (by decide) <| r_iload at_86_98 rfl <| r_aload at_86_100 rfl <| q_arr 20 T at_86_101 (by decide) <| r_iload at_86_104 rfl <| q_ald 20 (5 * k + x) T at_86_106 (by decide) rfl (by omega) (by decide) <| r_ifeqT at_86_107 (by rw [am_rd_wr, if_pos ⟨rfl, rfl⟩]) <| r_aload at_86_117 rfl <| q_arr 19 T at_86_118 (by decide) <| r_iload at_86_121 rfl <| q_ald 19 (5 * k + x) T at_86_123 (by decide) rfl (by omega) (by decide) <| q_ast 19 (5 * k + x) T at_86_124 (by decide) rfl (by omega) (by decide) <| r_aload at_86_125 rfl <| q_arr 20 T at_86_126 (by decide) <| r_iload at_86_129 rfl <| q_ald 20 (5 * k + x) T at_86_131 (by decide) rfl (by omega) (by decide) <| r_ifeqT at_86_132 (by rw [am_rd_wr, if_neg (fun h => absurd h.1 (by decide)), am_rd_wr, if_pos ⟨rfl, rfl⟩]) <| r_iload at_86_141 rfl <| r_istoreL (ls' := [_, _, _, _, _]) at_86_142 rfl <| r_iincNL (ls' := [_, _, _, _, _]) x at_86_143 rfl rfl <| r_goto at_86_146 <| ?_
            have e : (fr_su_x k) x (μx, v) = (am_wr (am_wr μx 20 (5 * k + x) 0) 19 (5 * k + x) (am_rd (am_wr μx 20 (5 * k + x) 0) 19 (5 * k + x)), v) := by simp only [fr_su_x, fr_su_y, fr_su_w, fr_su_g, if_neg h59_1, if_pos h69_2, if_true, if_neg (show ¬ (1 : Int32) = 0 by decide)]
            rw [e] at hk_x
            dsimp only at hk_x
            exact hk_x _
          · refine r_aload at_86_72 rfl <| q_arr 19 T at_86_73 (by decide) <| r_iload at_86_76 rfl <| q_ald 19 (5 * k + x) T at_86_78 (by decide) rfl (by omega) (by decide) <| r_aload at_86_79 rfl <| q_ck T at_86_80 <| r_push at_86_83 <| r_bin at_86_84 <| r_cmgt at_86_85 (fun h85_3 => ?_) (fun h85_3 => ?_)
            · refine r_push at_86_92 <| q_zast 20 (5 * k + x) T at_86_93 (by decide) rfl (by omega) (by decide) (Or.inl rfl) <| r_aload at_86_94 rfl <| q_arr 19 T at_86_95 (by decide) <| r_iload at_86_98 rfl <| r_aload at_86_100 rfl <| q_arr 20 T at_86_101 (by decide) <| r_iload at_86_104 rfl <| q_ald 20 (5 * k + x) T at_86_106 (by decide) rfl (by omega) (by decide) <| r_ifeqT at_86_107 (by rw [am_rd_wr, if_pos ⟨rfl, rfl⟩]) <| r_aload at_86_117 rfl <| q_arr 19 T at_86_118 (by decide) <| r_iload at_86_121 rfl <| q_ald 19 (5 * k + x) T at_86_123 (by decide) rfl (by omega) (by decide) <| q_ast 19 (5 * k + x) T at_86_124 (by decide) rfl (by omega) (by decide) <| r_aload at_86_125 rfl <| q_arr 20 T at_86_126 (by decide) <| r_iload at_86_129 rfl <| q_ald 20 (5 * k + x) T at_86_131 (by decide) rfl (by omega) (by decide) <| r_ifeqT at_86_132 (by rw [am_rd_wr, if_neg (fun h => absurd h.1 (by decide)), am_rd_wr, if_pos ⟨rfl, rfl⟩]) <| r_iload at_86_141 rfl <| r_istoreL (ls' := [_, _, _, _, _]) at_86_142 rfl <| r_iincNL (ls' := [_, _, _, _, _]) x at_86_143 rfl rfl <| r_goto at_86_146 <| ?_
              have e : (fr_su_x k) x (μx, v) = (am_wr (am_wr μx 20 (5 * k + x) 0) 19 (5 * k + x) (am_rd (am_wr μx 20 (5 * k + x) 0) 19 (5 * k + x)), v) := by simp only [fr_su_x, fr_su_y, fr_su_w, fr_su_g, if_neg h59_1, if_neg h69_2, if_pos h85_3, if_true, if_neg (show ¬ (1 : Int32) = 0 by decide)]
              rw [e] at hk_x
              dsimp only at hk_x
              exact hk_x _
            · refine r_push at_86_88 <| r_goto at_86_89 <| q_zast 20 (5 * k + x) T at_86_93 (by decide) rfl (by omega) (by decide) (Or.inr rfl) <| r_aload at_86_94 rfl <| q_arr 19 T at_86_95 (by decide) <| r_iload at_86_98 rfl <| r_aload at_86_100 rfl <| q_arr 20 T at_86_101 (by decide) <| r_iload at_86_104 rfl <| q_ald 20 (5 * k + x) T at_86_106 (by decide) rfl (by omega) (by decide) <| r_ifeqF at_86_107 (by rw [am_rd_wr, if_pos ⟨rfl, rfl⟩]; decide) <| r_aload at_86_110 rfl <| q_ck T at_86_111 <| r_goto at_86_114 <| q_ast 19 (5 * k + x) T at_86_124 (by decide) rfl (by omega) (by decide) <| r_aload at_86_125 rfl <| q_arr 20 T at_86_126 (by decide) <| r_iload at_86_129 rfl <| q_ald 20 (5 * k + x) T at_86_131 (by decide) rfl (by omega) (by decide) <| r_ifeqF at_86_132 (by rw [am_rd_wr, if_neg (fun h => absurd h.1 (by decide)), am_rd_wr, if_pos ⟨rfl, rfl⟩]; decide) <| r_iload at_86_135 rfl <| r_push at_86_136 <| r_bin at_86_137 <| r_goto at_86_138 <| r_istoreL (ls' := [_, _, _, _, _]) at_86_142 rfl <| r_iincNL (ls' := [_, _, _, _, _]) x at_86_143 rfl rfl <| r_goto at_86_146 <| ?_
              have e : (fr_su_x k) x (μx, v) = (am_wr (am_wr μx 20 (5 * k + x) 1) 19 (5 * k + x) (am_ck (am_wr μx 20 (5 * k + x) 1)), (v + 1)) := by simp only [fr_su_x, fr_su_y, fr_su_w, fr_su_g, if_neg h59_1, if_neg h69_2, if_neg h85_3, if_true, if_neg (show ¬ (1 : Int32) = 0 by decide)]
              rw [e] at hk_x
              dsimp only at hk_x
              exact hk_x _
      · intro u4
        generalize hz35 : am_it (fr_su_x k) 5 (z, 0) = y35
        refine r_iload at_86_35 rfl <| r_push at_86_36 <| r_cmgeNF 5 5 at_86_37 rfl rfl (by omega) (by omega) (by omega) <| ?_
        refine r_aload at_86_149 rfl <| q_arr 9 T at_86_150 (by decide) <| r_push at_86_153 <| r_aload at_86_154 rfl <| q_arr 9 T at_86_155 (by decide) <| r_push at_86_158 <| q_ald 9 2 T at_86_159 (by decide) rfl (by omega) (by decide) <| r_iload at_86_160 rfl <| r_bin at_86_161 <| q_ast 9 2 T at_86_162 (by decide) rfl (by omega) (by decide) <| r_aload at_86_163 rfl <| q_arr 21 T at_86_164 (by decide) <| r_iload at_86_167 rfl <| r_iload at_86_168 rfl <| r_ifle at_86_169 (fun h169_4 => ?_) (fun h169_4 => ?_)
        · refine r_aload at_86_172 rfl <| r_iload at_86_173 rfl <| r_push at_86_174 <| r_divN k 5 at_86_175 rfl rfl (by omega) (by decide) (by decide) <| r_iload at_86_176 rfl <| r_push at_86_177 <| r_remN k 5 at_86_178 rfl rfl (by omega) (by decide) (by decide) <| r_push at_86_179 <| r_callV3i at_86_180 (T.me) (Nat.le_of_ble_eq_true rfl) (fun _ hq => q_over (k := 1) (by omega) T (by omega) (by omega) (by decide) hq) <| r_ifeq at_86_183 (fun h183_5 => ?_) (fun h183_5 => ?_)
          · refine r_push at_86_190 <| q_zast 21 k T at_86_191 (by decide) rfl (by omega) (by decide) (Or.inl rfl) <| r_iincNL (ls' := [_, _, _, _, _]) k at_86_192 rfl rfl <| r_goto at_86_195 <| ?_
            have e : (fr_su_b) k z = am_wr ((fr_over (am_wr y35.1 9 2 ((am_rd y35.1 9 2) + y35.2)) (k / 5) (k % 5) 1).1) 21 k 0 := by simp only [fr_su_b, fr_su_e, fr_su_f, fr_su_v, hz35, if_pos h169_4, if_pos h183_5]
            rw [e] at hk_k
            exact hk_k _ _ _
          · refine r_push at_86_186 <| r_goto at_86_187 <| q_zast 21 k T at_86_191 (by decide) rfl (by omega) (by decide) (Or.inr rfl) <| r_iincNL (ls' := [_, _, _, _, _]) k at_86_192 rfl rfl <| r_goto at_86_195 <| ?_
            have e : (fr_su_b) k z = am_wr ((fr_over (am_wr y35.1 9 2 ((am_rd y35.1 9 2) + y35.2)) (k / 5) (k % 5) 1).1) 21 k 1 := by simp only [fr_su_b, fr_su_e, fr_su_f, fr_su_v, hz35, if_pos h169_4, if_neg h183_5]
            rw [e] at hk_k
            exact hk_k _ _ _
        · refine r_push at_86_190 <| q_zast 21 k T at_86_191 (by decide) rfl (by omega) (by decide) (Or.inl rfl) <| r_iincNL (ls' := [_, _, _, _, _]) k at_86_192 rfl rfl <| r_goto at_86_195 <| ?_
          have e : (fr_su_b) k z = am_wr (am_wr y35.1 9 2 ((am_rd y35.1 9 2) + y35.2)) 21 k 0 := by simp only [fr_su_b, fr_su_e, fr_su_f, fr_su_v, hz35, if_neg h169_4]
          rw [e] at hk_k
          exact hk_k _ _ _
    · intro u2 u3 u4
      generalize hz25 : am_it (fr_su_b) 25 y2 = y25
      refine r_iload at_86_25 rfl <| r_push at_86_26 <| r_cmgeNF 25 25 at_86_28 rfl rfl (by omega) (by omega) (by omega) <| ?_
      refine r_ret at_86_198 ?_
      have e : fr_su μ = y25 := by simp only [fr_su, hz2, hz25]
      rw [e] at hq
      exact hq

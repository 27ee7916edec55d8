theorem am_Wf.frame {K K' : am_K} {γ γ' : am_I} {π π' : am_P} (h : am_Wf K γ π) (h187 : 187 < K.1) (hl : am_lq K K.1 19) (hk1 : K.1 ≤ K'.1) (hk2 : ∀ a, a ≤ K.1 → K'.2.2 a = K.2.2 a) (hg : ∀ f a i, a < K.1 → γ' f a i = γ f a i) (hp : ∀ f a i, a < K.1 → π' f a i = π f a i) (h7 : ∀ a, (γ' 702 a 0 = 0 ∨ γ' 702 a 0 = 1) ∧ (γ' 703 a 0 = 0 ∨ γ' 703 a 0 = 1)) : am_Wf K' γ' π' := by
  obtain ⟨⟨g0, ⟨g1, g2, g3, g4⟩, g5, g6, g7, ⟨g8, g9⟩, g10⟩, h1, h2, h3, h4, h5, h6⟩ := h
  have hlq : ∀ {a k : Nat}, am_lq K a k → am_lq K' a k := fun q => ⟨q.1, Nat.le_trans q.2.1 hk1, by rw [hk2 _ q.2.1]; exact q.2.2⟩
  have hlt : ∀ {a k : Nat}, am_lq K a k → ¬ k = 19 → a < K.1 := fun {a k} q hne => by
    have h9 := q.2.1
    rcases Nat.lt_or_ge a K.1 with c | c
    · exact c
    · have e : a = K.1 := by omega
      subst e
      exact absurd (q.2.2.symm.trans hl.2.2) hne
  have hde : ∀ {e : Nat}, am_De K π e → am_De K' π' e := fun {e} q => by
    obtain ⟨q0, q1, q2, q3, q4, q5, q6⟩ := q
    have c2 := hlt q3 (by decide)
    refine ⟨q0, hlq q1, hlq q2, hlq q3, ?_, ?_, fun s hs x hx => ?_⟩
    · rw [hp _ _ _ (by omega)]; exact q4
    · rw [hp _ _ _ (by omega)]; exact q5
    · rw [hp _ _ _ c2] at hx
      exact ⟨(q6 s hs x hx).1, hlq (q6 s hs x hx).2⟩
  have kk : ∀ {e y : Nat}, am_De K π e ∧ γ 1900 e 0 = nI y → am_De K' π' e ∧ γ' 1900 e 0 = nI y := fun {e y} q => ⟨hde q.1, by
    have c2 := hlt q.1.2.2.2.1 (by decide)
    rw [hg _ _ _ (by omega)]
    exact q.2⟩
  refine ⟨⟨⟨Nat.le_trans g0.1 hk1, fun a a0 a1 => by rw [hk2 _ (by omega)]; exact g0.2 a a0 a1⟩, ⟨?_, ?_, ?_, ?_⟩, fun r hr => ⟨?_, ?_, ?_, ?_⟩, fun r hr n hn => ⟨?_, ?_⟩, fun i hi => ⟨?_, ?_, ?_⟩, ⟨?_, ?_⟩, fun u hu => ⟨?_, ?_⟩⟩, fun r hr x hx e he => kk ?_, fun r hr e he => kk ?_, fun r hr s hs q hq => ?_, fun i hi x hx e he => kk ?_, fun r hr => ?_, h7⟩
  · rw [hp _ _ _ (by omega)]; exact g1
  · rw [hp _ _ _ (by omega)]; exact g2
  · rw [hp _ _ _ (by omega)]; exact g3
  · rw [hp _ _ _ (by omega)]; exact g4
  · rw [hp _ _ _ (by omega)]; exact (g5 r hr).1
  · rw [hp _ _ _ (by omega)]; exact (g5 r hr).2.1
  · rw [hp _ _ _ (by omega)]; exact (g5 r hr).2.2.1
  · rw [hp _ _ _ (by omega)]; exact (g5 r hr).2.2.2
  · rw [hp _ _ _ (by omega)]; exact (g6 r hr n hn).1
  · rw [hp _ _ _ (by omega)]; exact (g6 r hr n hn).2
  · rw [hp _ _ _ (by omega)]; exact (g7 i hi).1
  · rw [hp _ _ _ (by omega)]; exact (g7 i hi).2.1
  · rw [hp _ _ _ (by omega)]; exact (g7 i hi).2.2
  · rw [hp _ _ _ (by omega)]; exact g8
  · rw [hp _ _ _ (by omega)]; exact g9
  · rw [hp _ _ _ (by omega)]; exact (g10 u hu).1
  · rw [hp _ _ _ (by omega)]; exact (g10 u hu).2
  · rw [hp _ _ _ (by omega)] at he; exact h1 r hr x hx e he
  · rw [hp _ _ _ (by omega)] at he; exact h2 r hr e he
  · rw [hp _ _ _ (by omega)] at hq; exact ⟨(h3 r hr s hs q hq).1, hlq (h3 r hr s hs q hq).2⟩
  · rw [hp _ _ _ (by omega)] at he; exact h4 i hi x hx e he
  · rw [hg _ _ _ (by omega)]; exact h5 r hr
theorem am_u_na {α : Type} {m : Nat → Nat → Nat → α} {f a i : Nat} {v : α} {f' a' i' : Nat} (h : ¬ a' = a) : am_u m f a i v f' a' i' = m f' a' i' := by
  unfold am_u
  rw [if_neg (fun q => h q.2.1)]
theorem di_fr1 (γ : am_I) (a r : Nat) (o u t : Int32) : ∀ f b i, b < a → fc_di1 γ a r o u t f b i = γ f b i := by
  intro f b i hb
  unfold fc_di1
  rw [am_zg_ne (by omega)]
  refine am_it_keep (P := fun g : am_I => g f b i = γ f b i) (fun n _ g hg => ?_) ?_
  · unfold fc_di_n
    rw [am_u_na (by omega)]
    exact hg
  · rw [am_zg_ne (by omega), am_u_na (by omega), am_u_na (by omega), am_u_na (by omega)]
theorem di_fr2 (π : am_P) (a r : Nat) : ∀ f b i, b < a → fc_di2 π a r f b i = π f b i := by
  intro f b i hb
  unfold fc_di2
  refine am_it_keep (P := fun g : am_P => g f b i = π f b i) (fun n _ g hg => ?_) ?_
  · unfold fc_di_s
    rw [am_u_na (by omega)]
    exact hg
  · rw [am_u_na (by omega), am_zp_ne (by omega), am_u_na (by omega), am_zp_ne (by omega)]
theorem di_at1 (γ : am_I) (a r : Nat) (o u t : Int32) : (fc_di1 γ a r o u t 1900 a 0 = o ∧ fc_di1 γ a r o u t 1901 a 0 = u ∧ fc_di1 γ a r o u t 1902 a 0 = t) := by
  have h : ∀ f, ¬ f = 2000 → fc_di1 γ a r o u t f a 0 = am_u (am_u (am_u γ 1900 a 0 o) 1901 a 0 u) 1902 a 0 t f a 0 := by
    intro f hf
    unfold fc_di1
    rw [am_zg_ne (by omega)]
    refine am_it_keep (P := fun g : am_I => g f a 0 = am_u (am_u (am_u γ 1900 a 0 o) 1901 a 0 u) 1902 a 0 t f a 0) (fun n _ g hg => ?_) ?_
    · unfold fc_di_n
      rw [am_u_na (by omega)]
      exact hg
    · rw [am_zg_ne (by omega)]
  refine ⟨?_, ?_, ?_⟩
  · rw [h _ (by decide), am_u_ne (by decide), am_u_ne (by decide), am_u_at]
  · rw [h _ (by decide), am_u_ne (by decide), am_u_at]
  · rw [h _ (by decide), am_u_at]
theorem di_7 {γ : am_I} (h : ∀ a, (γ 702 a 0 = 0 ∨ γ 702 a 0 = 1) ∧ (γ 703 a 0 = 0 ∨ γ 703 a 0 = 1)) (a r : Nat) (o u t : Int32) : ∀ b, (fc_di1 γ a r o u t 702 b 0 = 0 ∨ fc_di1 γ a r o u t 702 b 0 = 1) ∧ (fc_di1 γ a r o u t 703 b 0 = 0 ∨ fc_di1 γ a r o u t 703 b 0 = 1) := by
  have hz : ∀ {g : am_I} {c : Nat}, (∀ a, (g 702 a 0 = 0 ∨ g 702 a 0 = 1) ∧ (g 703 a 0 = 0 ∨ g 703 a 0 = 1)) → ∀ a, (am_zg g c 702 a 0 = 0 ∨ am_zg g c 702 a 0 = 1) ∧ (am_zg g c 703 a 0 = 0 ∨ am_zg g c 703 a 0 = 1) := by
    intro g c hg a
    unfold am_zg
    split
    · exact ⟨Or.inl rfl, Or.inl rfl⟩
    · exact hg a
  unfold fc_di1
  refine hz (am_it_keep (P := fun g : am_I => ∀ a, (g 702 a 0 = 0 ∨ g 702 a 0 = 1) ∧ (g 703 a 0 = 0 ∨ g 703 a 0 = 1)) (fun n _ g hg b => ?_) (hz (fun b => ?_)))
  · unfold fc_di_n
    rw [am_u_ne (by decide), am_u_ne (by decide)]
    exact hg b
  · rw [am_u_ne (by decide), am_u_ne (by decide), am_u_ne (by decide), am_u_ne (by decide), am_u_ne (by decide), am_u_ne (by decide)]
    exact h b
theorem di_wf {K : am_K} {γ : am_I} {π : am_P} (hW : am_Wf K γ π) (hl : am_lq K K.1 19) (h187 : 187 < K.1) (r : Nat) (o u t : Int32) : am_Wf (am_kw (am_kw K 20 5) 21 2) (fc_di1 γ K.1 r o u t) (fc_di2 π K.1 r) := by
  refine hW.frame h187 hl (Nat.le_trans (Nat.le_succ _) (Nat.le_succ _)) (fun a ha => ?_) (di_fr1 γ K.1 r o u t) (di_fr2 π K.1 r) (di_7 hW.2.2.2.2.2.2 K.1 r o u t)
  show (if a = K.1 + 1 + 1 then 21 else if a = K.1 + 1 then 20 else K.2.2 a) = K.2.2 a
  rw [if_neg (by omega), if_neg (by omega)]
theorem di_de {K : am_K} {γ : am_I} {π : am_P} (hW : am_Wf K γ π) (hl : am_lq K K.1 19) (h187 : 187 < K.1) {r : Nat} (hr : r < 5) : am_De (am_kw (am_kw K 20 5) 21 2) (fc_di2 π K.1 r) K.1 := by
  have hp : (fc_di2 π K.1 r 1903 K.1 0 = some (K.1 + 1) ∧ fc_di2 π K.1 r 1904 K.1 0 = some (K.1 + 2)) ∧ (∀ s q, fc_di2 π K.1 r 2100 (K.1 + 2) s = some q → 187 < q ∧ am_lq (am_kw (am_kw K 20 5) 21 2) q 22) ∧ ∀ s, fc_di2 π K.1 r 400 (4 + 14 * r) s = π 400 (4 + 14 * r) s := by
    unfold fc_di2
    refine am_it_keep (P := fun g : am_P => (g 1903 K.1 0 = some (K.1 + 1) ∧ g 1904 K.1 0 = some (K.1 + 2)) ∧ (∀ s q, g 2100 (K.1 + 2) s = some q → 187 < q ∧ am_lq (am_kw (am_kw K 20 5) 21 2) q 22) ∧ ∀ s, g 400 (4 + 14 * r) s = π 400 (4 + 14 * r) s) (fun s hs g hg => ?_) ?_
    · unfold fc_di_s
      refine ⟨⟨?_, ?_⟩, fun s' q hq => ?_, fun s' => ?_⟩
      · rw [am_u_ne (by decide)]; exact hg.1.1
      · rw [am_u_ne (by decide)]; exact hg.1.2
      · unfold am_u at hq
        split at hq
        · rw [hg.2.2 s] at hq
          exact ⟨(hW.2.2.2.1 r hr s hs q hq).1, (hW.2.2.2.1 r hr s hs q hq).2.nw.nw⟩
        · exact hg.2.1 s' q hq
      · rw [am_u_ne (by decide)]; exact hg.2.2 s'
    · refine ⟨⟨?_, ?_⟩, fun s q hq => ?_, fun s => ?_⟩
      · rw [am_u_ne (by decide), am_zp_ne (by omega), am_u_at]
      · rw [am_u_at]
      · rw [am_u_ne (by decide), am_zp_at] at hq
        cases hq
      · rw [am_u_ne (by decide), am_zp_ne (by omega), am_u_ne (by decide), am_zp_ne (by omega)]
  exact ⟨h187, hl.nw.nw, (am_lq.self (K := K) (k := 20) (n := 5)).nw, am_lq.self (K := am_kw K 20 5) (k := 21) (n := 2), hp.1.1, hp.1.2, fun s _ q hq => hp.2.1 s q hq⟩

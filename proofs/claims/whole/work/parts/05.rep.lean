def am_v (b sc : Nat) : am_V → Value
  | .inl i => .int i
  | .inr none => .null
  | .inr (some 0) => .ref sc
  | .inr (some (a + 1)) => .ref (b + a)
theorem am_v_cat (b sc : Nat) (v : am_V) : (am_v b sc v).category = 1 := by
  rcases v with i | (_ | (_ | a)) <;> rfl
def am_cv (b sc : Nat) (S : am_S) (f : Nat) (t : FieldType) (a i : Nat) : Value := if t.isReference = true then am_v b sc (.inr (am_gP S f a i)) else .int (am_gI S f a i)
def am_at (b sc : Nat) (D : va_G) (S : am_S) (H : Heap) (a k : Nat) : Prop := match am_kd k with
  | none => False
  | some (.inl o) => t_OB (b + a) (D.1 k) o.2.2.1 (D.2 k) H (fun f => am_cv b sc S (100 * k + f) (o.2.2.2 f) (a + 1) 0)
  | some (.inr r) => H[b + a]? = some (arrV (D.1 k) r.2 (fun i => am_cv b sc S (100 * k) r.1 (a + 1) i))
def am_sum (b : Nat) (H : Heap) : Nat := ((H.toList.drop b).map (fun c => c.slots.size)).sum
def am_R (b sc : Nat) (D : va_G) (S : am_S) (H : Heap) : Prop := H.size = b + S.1.1 ∧ am_sum b H = S.1.2.1 ∧ (∀ a, a < S.1.1 → am_at b sc D S H a (S.1.2.2 (a + 1))) ∧ S.1.1 ≤ am_limC ∧ S.1.2.1 ≤ am_limS
theorem am_gI_sI (S : am_S) (F n j : Nat) (v : Int32) (f a i : Nat) : am_gI (am_sI S F n j v) f a i = if f = F ∧ a = n ∧ i = j then v else am_gI S f a i := by
  unfold am_gI am_sI am_mI am_u
  by_cases h1 : F < 5000 <;> by_cases h2 : f < 5000 <;> by_cases h3 : f = F ∧ a = n ∧ i = j <;> simp [h1, h2, h3] <;> omega
theorem am_gP_sP (S : am_S) (F n j : Nat) (v : Option Nat) (f a i : Nat) : am_gP (am_sP S F n j v) f a i = if f = F ∧ a = n ∧ i = j then v else am_gP S f a i := by
  unfold am_gP am_sP am_mP am_u
  by_cases h1 : F < 5000 <;> by_cases h2 : f < 5000 <;> by_cases h3 : f = F ∧ a = n ∧ i = j <;> simp [h1, h2, h3] <;> omega
theorem am_gP_sI (S : am_S) (F n j : Nat) (v : Int32) (f a i : Nat) : am_gP (am_sI S F n j v) f a i = am_gP S f a i := by
  unfold am_gP am_sI am_mI
  by_cases h1 : F < 5000 <;> simp [h1]
theorem am_gI_sP (S : am_S) (F n j : Nat) (v : Option Nat) (f a i : Nat) : am_gI (am_sP S F n j v) f a i = am_gI S f a i := by
  unfold am_gI am_sP am_mP
  by_cases h1 : F < 5000 <;> simp [h1]
theorem am_sI_1 (S : am_S) (F n j : Nat) (v : Int32) : (am_sI S F n j v).1 = S.1 := by unfold am_sI; split <;> rfl
theorem am_sP_1 (S : am_S) (F n j : Nat) (v : Option Nat) : (am_sP S F n j v).1 = S.1 := by unfold am_sP; split <;> rfl
theorem am_cv_sI {b sc : Nat} (S : am_S) (F n j : Nat) (v : Int32) (f : Nat) (t : FieldType) (a i : Nat) (h : a = n → f = F → i ≠ j) : am_cv b sc (am_sI S F n j v) f t a i = am_cv b sc S f t a i := by
  unfold am_cv
  rw [am_gP_sI, am_gI_sI, if_neg (show ¬ (f = F ∧ a = n ∧ i = j) from fun q => h q.2.1 q.1 q.2.2)]
theorem am_cv_sP {b sc : Nat} (S : am_S) (F n j : Nat) (v : Option Nat) (f : Nat) (t : FieldType) (a i : Nat) (h : a = n → f = F → i ≠ j) : am_cv b sc (am_sP S F n j v) f t a i = am_cv b sc S f t a i := by
  unfold am_cv
  rw [am_gI_sP, am_gP_sP, if_neg (show ¬ (f = F ∧ a = n ∧ i = j) from fun q => h q.2.1 q.1 q.2.2)]
theorem am_cv_sI' {b sc : Nat} (S : am_S) (F n j : Nat) (v : Int32) (t : FieldType) (h : t.isReference = false) : am_cv b sc (am_sI S F n j v) F t n j = .int v := by
  unfold am_cv
  rw [am_gI_sI, if_pos (show F = F ∧ n = n ∧ j = j from ⟨rfl, rfl, rfl⟩), h]
  rfl
theorem am_cv_sP' {b sc : Nat} (S : am_S) (F n j : Nat) (v : Option Nat) (t : FieldType) (h : t.isReference = true) : am_cv b sc (am_sP S F n j v) F t n j = am_v b sc (.inr v) := by
  unfold am_cv
  rw [am_gP_sP, if_pos (show F = F ∧ n = n ∧ j = j from ⟨rfl, rfl, rfl⟩), if_pos h]
theorem am_sum_same {b : Nat} {H H' : Heap} (h : ∀ q : Nat, (H'[q]?).map (fun c => c.slots.size) = (H[q]?).map (fun c => c.slots.size)) : am_sum b H' = am_sum b H := by
  have e : H'.toList.map (fun c => c.slots.size) = H.toList.map (fun c => c.slots.size) := by
    apply List.ext_getElem?
    intro q
    rw [List.getElem?_map, List.getElem?_map, Array.getElem?_toList, Array.getElem?_toList]
    exact h q
  unfold am_sum
  rw [List.map_drop, List.map_drop, e]
theorem am_sum_push {b : Nat} {H : Heap} (c : Cell) (h : b ≤ H.size) : am_sum b (H.push c) = am_sum b H + c.slots.size := by
  unfold am_sum
  rw [Array.toList_push, List.drop_append_of_le_length (by simpa using h)]
  simp
theorem am_sum_upto {b n : Nat} {H H0 : Heap} (hn : H0.size = n) (hb : b ≤ n) (h : ∀ (a : Nat) (c : Cell), H0[a]? = some c → ∃ c', H[a]? = some c' ∧ c'.slots.size = c.slots.size) (hz : n ≤ H.size) : am_sum b H = am_sum b H0 + am_sum n H := by
  have e : (H.toList.map (fun c => c.slots.size)).take n = H0.toList.map (fun c => c.slots.size) := by
    apply List.ext_getElem?
    intro q
    rw [List.getElem?_take, List.getElem?_map, List.getElem?_map, Array.getElem?_toList, Array.getElem?_toList]
    by_cases hq : q < n
    · rw [if_pos hq]
      have h0 : H0[q]? = some H0[q] := Array.getElem?_eq_getElem (by omega)
      obtain ⟨c', h1, h2⟩ := h q _ h0
      rw [h0, h1]
      simp [h2]
    · rw [if_neg hq]
      have h0 : H0[q]? = none := by simp; omega
      rw [h0]
      rfl
  unfold am_sum
  rw [List.map_drop, List.map_drop, List.map_drop, ← e]
  conv => lhs; rw [← List.take_append_drop n (H.toList.map (fun c => c.slots.size))]
  rw [List.drop_append_of_le_length (by simp; omega), List.sum_append]
theorem am_R.cellN {b sc : Nat} {D : va_G} {S : am_S} {H : Heap} (h : am_R b sc D S H) {n k : Nat} (hl : am_lv S n k) : ∃ a, n = a + 1 ∧ a < S.1.1 ∧ am_at b sc D S H a k := by
  obtain ⟨h1, h2, h3⟩ := hl
  refine ⟨n - 1, by omega, by omega, ?_⟩
  have e := h.2.2.1 (n - 1) (by omega)
  rw [show n - 1 + 1 = n by omega, h3] at e
  exact e
theorem am_at.keep {b sc : Nat} {D : va_G} {S S' : am_S} {H H' : Heap} {a k : Nat} (h : am_at b sc D S H a k) (hh : H'[b + a]? = H[b + a]?) (hc : ∀ f t i, am_cv b sc S' f t (a + 1) i = am_cv b sc S f t (a + 1) i) : am_at b sc D S' H' a k := by
  unfold am_at at h ⊢
  cases hk : am_kd k with
  | none => rw [hk] at h; exact h
  | some x =>
    rw [hk] at h
    rcases x with o | r
    · exact t_OB.to (h.kept hh) (fun j _ => (hc _ _ _).symm)
    · show H'[b + a]? = _
      rw [hh, h]
      congr 2
      funext i
      exact (hc _ _ _).symm
theorem am_R.obj {b sc : Nat} {D : va_G} {S S' : am_S} {H H' : Heap} {a k f : Nat} {o : String × u_T × Nat × (Nat → FieldType)} {cell : Cell} {w : Value} (h : am_R b sc D S H) (hN : S'.1 = S.1) (ha : a < S.1.1) (hk : S.1.2.2 (a + 1) = k) (hd : am_kd k = some (.inl o)) (hf : f < o.2.2.1)
    (hap : ∀ x y, x < o.2.2.1 → y < o.2.2.1 → x ≠ y → D.2 k x ≠ D.2 k y) (c1 : H[b + a]? = some cell) (e1 : H'[b + a]? = some (cell.setSlot (D.2 k f) w)) (e2 : H'.size = H.size) (e3 : ∀ q : Nat, q ≠ b + a → H'[q]? = H[q]?)
    (hw : am_cv b sc S' (100 * k + f) (o.2.2.2 f) (a + 1) 0 = w) (ho : ∀ f' t a' i, (a' = a + 1 → f' ≠ 100 * k + f) → am_cv b sc S' f' t a' i = am_cv b sc S f' t a' i) : am_R b sc D S' H' := by
  obtain ⟨h1, h2, h3, h4⟩ := h
  refine ⟨by rw [e2, h1, hN], ?_, fun a' ha' => ?_, by rw [hN]; exact h4⟩
  · rw [hN, ← h2]
    refine am_sum_same fun q => ?_
    by_cases hq : q = b + a
    · subst hq
      rw [e1, c1]
      simp [k2_slotsz]
    · rw [e3 q hq]
  · rw [hN] at ha' ⊢
    have h0 := h3 a' ha'
    by_cases hq : a' = a
    · subst hq
      rw [hk] at h0 ⊢
      unfold am_at at h0 ⊢
      rw [hd] at h0 ⊢
      obtain ⟨cell', g1, g2, g3, g4⟩ := h0
      cases c1.symm.trans g1
      refine ⟨_, e1, g2, g3, fun j hj => ?_⟩
      rw [t_set g4 hap hf w j hj]
      congr 1
      by_cases hjf : j = f
      · subst hjf
        simp [updV, hw]
      · simp only [updV, if_neg hjf]
        exact (ho _ _ _ _ (fun _ => by omega)).symm
    · exact h0.keep (e3 _ (by omega)) (fun f' t i => ho _ _ _ _ (fun q => by omega))
theorem am_R.arr {b sc : Nat} {D : va_G} {S S' : am_S} {H H' : Heap} {a k i : Nat} {r : FieldType × Nat} {w : Value} (h : am_R b sc D S H) (hN : S'.1 = S.1) (ha : a < S.1.1) (hk : S.1.2.2 (a + 1) = k) (hd : am_kd k = some (.inr r))
    (e1 : H'[b + a]? = some ((arrV (D.1 k) r.2 (fun i => am_cv b sc S (100 * k) r.1 (a + 1) i)).setSlot i w)) (e2 : H'.size = H.size) (e3 : ∀ q : Nat, q ≠ b + a → H'[q]? = H[q]?)
    (hw : am_cv b sc S' (100 * k) r.1 (a + 1) i = w) (ho : ∀ f' t a' i', (a' = a + 1 → f' = 100 * k → i' ≠ i) → am_cv b sc S' f' t a' i' = am_cv b sc S f' t a' i') : am_R b sc D S' H' := by
  obtain ⟨h1, h2, h3, h4⟩ := h
  have c1 := h3 a ha
  rw [hk] at c1
  unfold am_at at c1
  rw [hd] at c1
  refine ⟨by rw [e2, h1, hN], ?_, fun a' ha' => ?_, by rw [hN]; exact h4⟩
  · rw [hN, ← h2]
    refine am_sum_same fun q => ?_
    by_cases hq : q = b + a
    · subst hq
      rw [e1, c1]
      simp [k2_slotsz]
    · rw [e3 q hq]
  · rw [hN] at ha' ⊢
    have h0 := h3 a' ha'
    by_cases hq : a' = a
    · subst hq
      rw [hk] at h0 ⊢
      unfold am_at
      rw [hd]
      show H'[b + a']? = _
      rw [e1, arrV_store]
      congr 2
      funext j
      by_cases hji : j = i
      · subst hji
        simp [updV, hw]
      · simp only [updV, if_neg hji]
        exact (ho _ _ _ _ (fun _ _ => hji)).symm
    · exact h0.keep (e3 _ (by omega)) (fun f' t i => ho _ _ _ _ (fun q => by omega))
theorem am_cv_nw {b sc : Nat} (S : am_S) (k n f : Nat) (t : FieldType) (a i : Nat) (h : a ≠ S.1.1 + 1) : am_cv b sc (am_nw S k n) f t a i = am_cv b sc S f t a i := by
  unfold am_cv am_gP am_gI am_nw am_mz
  by_cases h1 : k < 50 <;> simp [h1, h]
theorem am_cv_nw' {b sc : Nat} (S : am_S) (k n f : Nat) (t : FieldType) (i : Nat) (hf : f < 5000 ↔ k < 50) : am_cv b sc (am_nw S k n) f t (S.1.1 + 1) i = if t.isReference = true then .null else .int 0 := by
  unfold am_cv am_gP am_gI am_nw am_mz
  by_cases h1 : k < 50 <;> simp [h1, hf, am_v]
theorem am_R.new {b sc : Nat} {D : va_G} {S : am_S} {H H' : Heap} {k n : Nat} {cell : Cell} (h : am_R b sc D S H) (hz : cell.slots.size = n) (hc1 : S.1.1 + 1 ≤ am_limC) (hc2 : S.1.2.1 + n ≤ am_limS) (e0 : H' = H.push cell) (hc : am_at b sc D (am_nw S k n) H' S.1.1 k) : am_R b sc D (am_nw S k n) H' := by
  obtain ⟨h1, h2, h3, -⟩ := h
  subst e0
  refine ⟨by rw [Array.size_push, h1]; show _ = b + (S.1.1 + 1); omega, ?_, fun a ha => ?_, hc1, hc2⟩
  · rw [am_sum_push _ (by omega), h2, hz]
    rfl
  · have ha' : a < S.1.1 + 1 := ha
    show am_at b sc D (am_nw S k n) _ a (if a + 1 = S.1.1 + 1 then k else S.1.2.2 (a + 1))
    by_cases hq : a = S.1.1
    · subst hq
      rw [if_pos rfl]
      exact hc
    · rw [if_neg (by omega)]
      refine (h3 a (by omega)).keep ?_ (fun f t i => am_cv_nw _ _ _ _ _ _ _ (by omega))
      rw [Array.getElem?_push, if_neg (by omega)]
theorem am_cats {b sc : Nat} (r : List am_V) : ((r.map (am_v b sc)).map fun v => v.category).sum = r.length := by
  induction r with
  | nil => rfl
  | cons v r ih => simp only [List.map_cons, List.sum_cons, List.length_cons, am_v_cat, ih]; omega
theorem am_lo {b a i : Nat} {locs : List Loc} (h : ∀ q ∈ locs, b ≤ q.base) : ∀ q ∈ locs ++ [⟨b + a, i⟩], b ≤ q.base := by
  intro q hq
  rcases List.mem_append.mp hq with h1 | h1
  · exact h q h1
  · rw [List.mem_singleton.mp h1]
    exact Nat.le_add_right _ _
theorem am_nar {b sc : Nat} {t : FieldType} (h : t.isReference = true) (v : Option Nat) : narrow t (am_v b sc (.inr v)) = am_v b sc (.inr v) := by
  rcases v with _ | (_ | a) <;> cases t <;> first | rfl | simp [FieldType.isReference] at h
theorem am_fit {b sc : Nat} {t : FieldType} (h : t.isReference = true) (v : Option Nat) : fits t (am_v b sc (.inr v)) = true := by
  rcases v with _ | (_ | a) <;> cases t <;> first | rfl | simp [FieldType.isReference] at h
theorem am_apart {s : State} {args : Array Value} {Ts : List Cond} {o : String × u_T × Nat × (Nat → FieldType)} {cC : ClassId} {iS : Nat → Nat} (hts : ∀ w ∈ Ts, w.before args s = true) (hin : ∀ w ∈ u_ws o.1 o.2.1 o.2.2.1, w ∈ Ts) (hty : ∀ x, x < o.2.2.1 → parseFieldDescriptor (o.2.1 x).2.2.1 = some (o.2.2.2 x)) (hnm : ∀ x, x < o.2.2.1 → ∀ y, y < o.2.2.1 → x ≠ y → (o.2.1 x).2.1 ≠ (o.2.1 y).2.1) (hK : u_Kn s o.1 o.2.1 o.2.2.1 cC iS) : ∀ x y, x < o.2.2.1 → y < o.2.2.1 → x ≠ y → iS x ≠ iS y := by
  refine va_apart (own := "") (D := (fun _ => cC, fun _ => iS)) (cl := [(o.1, o.2.1, o.2.2.1)]) (tys := []) (ci := 0) hts hin o.2.2.2 hty hnm ⟨fun c q hq => ?_, fun k q hq => by simp at hq⟩ rfl
  cases c with
  | zero => cases hq; exact hK
  | succ c => simp at hq

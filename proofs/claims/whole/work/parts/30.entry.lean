theorem am_kA {args : Array Value} {s : State} {ty : FieldType} (hp : ty = .int ∨ ty = .boolean) (h : (Cond.arrayClass ty).before args s = true) : ∃ cA : ClassId, ArrOfT s cA ty ∧ va_RA s cA ty := by
  obtain ⟨c, k, comp, h1, h2, h3⟩ := Cond.arrayClass_spec h
  refine ⟨c, fun n z => ⟨fun k h => (by cases h), k, h2, comp, h3⟩, ?_⟩
  rcases hp with rfl | rfl <;> exact h1
theorem am_kO {args : Array Value} {s : State} {C : String} (h : (Cond.arrayOver (.object C)).before args s = true) : ∃ cA : ClassId, ArrOfT s cA (.object C) ∧ va_RA s cA (.object C) := by
  obtain ⟨comp, c, k, h1, -, h3, h4, h5⟩ := Cond.arrayOver_spec h
  exact ⟨c, fun n z => ⟨fun k h => (by cases h), k, h3, comp, h4⟩, k, comp, h3, h4, h1, h5⟩
theorem am_kAA {args : Array Value} {s : State} (h : (Cond.arrayOver (.array .int)).before args s = true) : ∃ cA : ClassId, ArrOfT s cA (.array .int) ∧ va_RA s cA (.array .int) := by
  obtain ⟨comp, c, k, h1, -, h3, h4, h5⟩ := arrayOverA_spec h
  exact ⟨c, fun n z => ⟨fun k h => (by cases h), k, h3, comp, h4⟩, h5⟩
def am_exK (s : State) (x : am_KD) : Prop := match x with
  | .inl o => ∃ (cC : ClassId) (iS : Nat → Nat), u_Kn s o.1 o.2.1 o.2.2.1 cC iS
  | .inr r => ∃ cA : ClassId, ArrOfT s cA r.1 ∧ va_RA s cA r.1
theorem am_lookK {l : List (Nat × am_KD)} {k : Nat} {t : am_KD} (h : l.lookup k = some t) : (k, t) ∈ l := by
  induction l with
  | nil => cases h
  | cons x l ih =>
    obtain ⟨q, u⟩ := x
    by_cases e : k = q
    · subst e
      rw [List.lookup_cons, beq_self_eq_true] at h
      cases h
      exact List.mem_cons_self
    · rw [List.lookup_cons, show (k == q) = false from by simpa using e] at h
      exact List.mem_cons_of_mem _ (ih h)
theorem ao_Router : (Jvm.Cond.arrayOver (Jvm.ClassFile.FieldType.object "LinkStateNet$Router")) ∈ lw_tbl := List.mem_of_getElem? (i := 55) (by decide +kernel)
theorem ao_Stub : (Jvm.Cond.arrayOver (Jvm.ClassFile.FieldType.object "LinkStateNet$Stub")) ∈ lw_tbl := List.mem_of_getElem? (i := 62) (by decide +kernel)
theorem ao_Description : (Jvm.Cond.arrayOver (Jvm.ClassFile.FieldType.object "LinkStateNet$Description")) ∈ lw_tbl := List.mem_of_getElem? (i := 64) (by decide +kernel)
theorem ao_LinkEnd : (Jvm.Cond.arrayOver (Jvm.ClassFile.FieldType.object "LinkStateNet$LinkEnd")) ∈ lw_tbl := List.mem_of_getElem? (i := 66) (by decide +kernel)
theorem ao_Update : (Jvm.Cond.arrayOver (Jvm.ClassFile.FieldType.object "LinkStateNet$Update")) ∈ lw_tbl := List.mem_of_getElem? (i := 147) (by decide +kernel)
theorem ao_I : (Jvm.Cond.arrayOver (Jvm.ClassFile.FieldType.array Jvm.ClassFile.FieldType.int)) ∈ lw_tbl := List.mem_of_getElem? (i := 174) (by decide +kernel)
theorem am_tb_in {w : Cond} (h : w ∈ am_tb) : w ∈ lw_tbl := (List.mem_filter.mp h).1
theorem am_hts1 {args : Array Value} {s : State} (hts : ∀ w ∈ lw_tbl, w.before args s = true) : ∀ w ∈ am_ws 1, w.before args s = true := by
  intro w hw
  rcases List.mem_cons.mp hw with rfl | hw
  · exact hts _ (am_tb_in mw_228)
  · exact hts _ (am_tb_in hw)
theorem am_kns {args : Array Value} {s : State} (hts : ∀ w ∈ lw_tbl, w.before args s = true) : ∀ q ∈ am_kds, am_exK s q.2 :=
  am_fa (show am_exK s (.inl am_o1) from u_known (am_hts1 hts) hin_1 (hts _ (am_tb_in mw_47))) <|
  am_fa (show am_exK s (.inl am_o3) from u_known (am_hts1 hts) hin_3 (hts _ (am_tb_in mw_56))) <|
  am_fa (show am_exK s (.inl am_o7) from u_known (am_hts1 hts) hin_7 (hts _ (am_tb_in mw_67))) <|
  am_fa (show am_exK s (.inl am_o10) from u_known (am_hts1 hts) hin_10 (hts _ (am_tb_in mw_148))) <|
  am_fa (show am_exK s (.inl am_o13) from u_known (am_hts1 hts) hin_13 (hts _ (am_tb_in mw_168))) <|
  am_fa (show am_exK s (.inl am_o19) from u_known (am_hts1 hts) hin_19 (hts _ (am_tb_in mw_334))) <|
  am_fa (show am_exK s (.inl am_o22) from u_known (am_hts1 hts) hin_22 (hts _ (am_tb_in mw_225))) <|
  am_fa (show am_exK s (.inl am_o50) from u_known (am_hts1 hts) hin_50 (hts _ (am_tb_in mw_478))) <|
  am_fa (show am_exK s (.inr (.object "LinkStateNet$Router", 5)) from am_kO (hts _ ao_Router)) <|
  am_fa (show am_exK s (.inr (.object "LinkStateNet$Stub", 2)) from am_kO (hts _ ao_Stub)) <|
  am_fa (show am_exK s (.inr (.object "LinkStateNet$Description", 5)) from am_kO (hts _ ao_Description)) <|
  am_fa (show am_exK s (.inr (.object "LinkStateNet$LinkEnd", 5)) from am_kO (hts _ ao_LinkEnd)) <|
  am_fa (show am_exK s (.inr (.int, 5)) from am_kA (by decide) (hts _ (am_tb_in mw_116))) <|
  am_fa (show am_exK s (.inr (.object "LinkStateNet$Update", 25)) from am_kO (hts _ ao_Update)) <|
  am_fa (show am_exK s (.inr (.object "LinkStateNet$Description", 5)) from am_kO (hts _ ao_Description)) <|
  am_fa (show am_exK s (.inr (.boolean, 5)) from am_kA (by decide) (hts _ (am_tb_in mw_166))) <|
  am_fa (show am_exK s (.inr (.array .int, 5)) from am_kAA (hts _ ao_I)) <|
  am_fa (show am_exK s (.inr (.int, 5)) from am_kA (by decide) (hts _ (am_tb_in mw_116))) <|
  am_fa (show am_exK s (.inr (.array .int, 5)) from am_kAA (hts _ ao_I)) <|
  am_fa (show am_exK s (.inr (.int, 5)) from am_kA (by decide) (hts _ (am_tb_in mw_116))) <|
  am_fa (show am_exK s (.inr (.int, 7)) from am_kA (by decide) (hts _ (am_tb_in mw_116))) <|
  am_fa (show am_exK s (.inr (.int, 5)) from am_kA (by decide) (hts _ (am_tb_in mw_116))) <|
  am_fa (show am_exK s (.inr (.object "LinkStateNet$Stub", 2)) from am_kO (hts _ ao_Stub)) <|
  am_fa (show am_exK s (.inr (.boolean, 5)) from am_kA (by decide) (hts _ (am_tb_in mw_166))) <|
  am_fa (show am_exK s (.inr (.int, 25)) from am_kA (by decide) (hts _ (am_tb_in mw_116))) <|
  am_fa (show am_exK s (.inr (.int, 25)) from am_kA (by decide) (hts _ (am_tb_in mw_116))) <|
  am_fa (show am_exK s (.inr (.boolean, 25)) from am_kA (by decide) (hts _ (am_tb_in mw_166))) <|
  am_fa (show am_exK s (.inr (.int, 25)) from am_kA (by decide) (hts _ (am_tb_in mw_116))) <|
  am_fa (show am_exK s (.inr (.boolean, 25)) from am_kA (by decide) (hts _ (am_tb_in mw_166))) <|
  am_fa (show am_exK s (.inr (.boolean, 25)) from am_kA (by decide) (hts _ (am_tb_in mw_166))) <|
  am_fa (show am_exK s (.inr (.boolean, 25)) from am_kA (by decide) (hts _ (am_tb_in mw_166))) <|
  am_fa (show am_exK s (.inr (.boolean, 25)) from am_kA (by decide) (hts _ (am_tb_in mw_166))) <|
  am_fa (show am_exK s (.inr (.int, 7)) from am_kA (by decide) (hts _ (am_tb_in mw_116))) <|
  am_fa (show am_exK s (.inr (.int, 60)) from am_kA (by decide) (hts _ (am_tb_in mw_116))) <|
  am_fa (show am_exK s (.inr (.int, 60)) from am_kA (by decide) (hts _ (am_tb_in mw_116))) <|
  am_fa (show am_exK s (.inr (.int, 300)) from am_kA (by decide) (hts _ (am_tb_in mw_116))) <|
  am_fa (show am_exK s (.inr (.int, 120)) from am_kA (by decide) (hts _ (am_tb_in mw_116))) <|
  am_fa (show am_exK s (.inr (.int, 120)) from am_kA (by decide) (hts _ (am_tb_in mw_116))) <|
  am_fa (show am_exK s (.inr (.int, 120)) from am_kA (by decide) (hts _ (am_tb_in mw_116))) <|
  am_fa (show am_exK s (.inr (.int, 5)) from am_kA (by decide) (hts _ (am_tb_in mw_116))) <|
  am_fa (show am_exK s (.inr (.boolean, 5)) from am_kA (by decide) (hts _ (am_tb_in mw_166))) <|
  am_fa (show am_exK s (.inr (.boolean, 125)) from am_kA (by decide) (hts _ (am_tb_in mw_166))) <|
  am_fa (show am_exK s (.inr (.int, 125)) from am_kA (by decide) (hts _ (am_tb_in mw_116))) <|
  am_fa (show am_exK s (.inr (.boolean, 125)) from am_kA (by decide) (hts _ (am_tb_in mw_166))) <|
  am_fa (show am_exK s (.inr (.boolean, 25)) from am_kA (by decide) (hts _ (am_tb_in mw_166))) <|
  am_fa (show am_exK s (.inr (.boolean, 5)) from am_kA (by decide) (hts _ (am_tb_in mw_166))) <|
  am_fa (show am_exK s (.inr (.int, 25)) from am_kA (by decide) (hts _ (am_tb_in mw_116))) <| am_f0
theorem am_known {args : Array Value} {s : State} (hts : ∀ w ∈ lw_tbl, w.before args s = true) : ∃ D : va_G, am_Kn D s := by
  have hk : ∀ k, ∃ q : ClassId × (Nat → Nat), match am_kd k with
      | none => True
      | some (.inl o) => u_Kn s o.1 o.2.1 o.2.2.1 q.1 q.2
      | some (.inr r) => ArrOfT s q.1 r.1 ∧ va_RA s q.1 r.1 := by
    intro k
    cases e : am_kd k with
    | none => exact ⟨(0, fun _ => 0), trivial⟩
    | some x =>
      have h := am_kns hts _ (am_lookK e)
      rcases x with o | r
      · obtain ⟨cC, iS, h⟩ := h
        exact ⟨(cC, iS), h⟩
      · obtain ⟨cA, h⟩ := h
        exact ⟨(cA, fun _ => 0), h⟩
  obtain ⟨g, hg⟩ := Classical.axiomOfChoice hk
  refine ⟨(fun k => (g k).1, fun k => (g k).2), fun k => ?_, ?_, hts _ ao_I⟩
  · have h := hg k
    unfold am_Kn1
    cases e : am_kd k with
    | none => exact trivial
    | some x =>
      rw [e] at h
      rcases x with o | r
      · exact h
      · exact h
  · exact am_fa (va_AO.of (hts _ ao_Router)) <| am_fa (va_AO.of (hts _ ao_Stub)) <| am_fa (va_AO.of (hts _ ao_Description)) <| am_fa (va_AO.of (hts _ ao_LinkEnd)) <| am_fa (va_AO.of (hts _ ao_Update)) <| am_f0
def am_mm : am_M := (fun _ _ _ => 0, fun _ _ _ => none)
def am_S0 (L : Nat) (xs : Nat → Int32) : am_S := ((0, 0, fun _ => 0), (L, xs), am_mm, am_mm)
def am_Ql : am_Q := fun _ v => v = some (.inl 1)
def am_Law : Prop := ∀ (L : Nat) (xs : Nat → Int32), L ≤ 3072 → am_W (am_call 7) 101 am_Ql 0 (am_entry 101 [.inr (some 0)]) [] (am_S0 L xs)

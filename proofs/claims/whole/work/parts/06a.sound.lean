def am_Kn1 (D : va_G) (U : State) (k : Nat) : Prop := match am_kd k with
  | none => True
  | some (.inl o) => u_Kn U o.1 o.2.1 o.2.2.1 (D.1 k) (D.2 k)
  | some (.inr r) => ArrOfT U (D.1 k) r.1 ∧ va_RA U (D.1 k) r.1
def am_AOI (U : State) : Prop := (Cond.arrayOver (.array .int)).before #[] U = true
theorem am_AOI.use {A : Array Value} {U : State} (h : am_AOI U) : (Cond.arrayOver (.array .int)).before A U = true := h
theorem am_AOI.moved {u U : State} (hal : u.vm.Alike U.vm) (h : am_AOI u) : am_AOI U := by
  unfold am_AOI at h ⊢
  simp only [Cond.before, Cond.holds, Cond.value] at h ⊢
  rw [hal.findClass]
  cases hf : u.vm.findClass (FieldType.array .int).toString with
  | none => rw [hf] at h; simp at h
  | some comp =>
    rw [hf] at h
    simp only [Option.bind_some] at h ⊢
    rw [hal.findIdx_congr _ (fun _ _ _ _ => rfl)]
    generalize Array.findIdx? _ u.vm.classes = fi at h ⊢
    cases fi with
    | none => simp at h
    | some c =>
      simp only [Option.bind_some] at h ⊢
      cases hk : u.vm.classes[c]? with
      | none => rw [hk] at h; simp at h
      | some k =>
        obtain ⟨k', hk', ek⟩ := hal.2.2 _ _ hk
        rw [hk] at h
        rw [hk', hal.findClass]
        have ekind : k'.kind = k.kind := by rw [ek]
        simp only [Option.map_some] at h ⊢
        rw [ekind]
        exact h
def am_Kn (D : va_G) (U : State) : Prop := (∀ k, am_Kn1 D U k) ∧ (∀ C ∈ am_aos, va_AO C U) ∧ am_AOI U
theorem am_Kn1.moved {D : va_G} {u U : State} {k : Nat} (hvm : u.vm.Alike U.vm) (h : am_Kn1 D u k) : am_Kn1 D U k := by
  unfold am_Kn1 at h ⊢
  cases hk : am_kd k with
  | none => exact trivial
  | some x =>
    rw [hk] at h
    rcases x with o | r
    · exact u_Kn_moved hvm h
    · exact ⟨arrOfT_moved hvm h.1, h.2.moved hvm⟩
theorem am_Kn.moved {D : va_G} {u U : State} (hvm : u.vm.Alike U.vm) (h : am_Kn D u) : am_Kn D U := ⟨fun k => (h.1 k).moved hvm, fun C hC => (h.2.1 C hC).moved hvm, h.2.2.moved hvm⟩
theorem am_Kn.obj {D : va_G} {U : State} {k : Nat} {o : String × u_T × Nat × (Nat → FieldType)} (h : am_Kn D U) (hd : am_kd k = some (.inl o)) : u_Kn U o.1 o.2.1 o.2.2.1 (D.1 k) (D.2 k) := by
  have h1 := h.1 k
  unfold am_Kn1 at h1
  rw [hd] at h1
  exact h1
theorem am_Kn.arr {D : va_G} {U : State} {k : Nat} {r : FieldType × Nat} (h : am_Kn D U) (hd : am_kd k = some (.inr r)) : ArrOfT U (D.1 k) r.1 ∧ va_RA U (D.1 k) r.1 := by
  have h1 := h.1 k
  unfold am_Kn1 at h1
  rw [hd] at h1
  exact h1
def am_ls (b sc nL : Nat) (ls : am_L) (A : Array Slot) : Prop := A.size = nL ∧ lv_wf A ∧ ls.length = nL ∧ ∀ (i : Nat) (v : am_V), ls[i]? = some (some v) → A[i]? = some (.val (am_v b sc v))
def am_le0 (S0 S : am_S) : Prop := S.2.1 = S0.2.1 ∧ S0.1.1 ≤ S.1.1 ∧ S0.1.2.1 ≤ S.1.2.1
theorem am_le0.sI {S0 S : am_S} (h : am_le0 S0 S) (F n i : Nat) (v : Int32) : am_le0 S0 (am_sI S F n i v) := by unfold am_sI; split <;> exact h
theorem am_le0.sP {S0 S : am_S} (h : am_le0 S0 S) (F n i : Nat) (v : Option Nat) : am_le0 S0 (am_sP S F n i v) := by unfold am_sP; split <;> exact h
theorem am_le0.nw {S0 S : am_S} (h : am_le0 S0 S) (k n : Nat) : am_le0 S0 (am_nw S k n) := ⟨h.1, Nat.le_succ_of_le h.2.1, Nat.le_trans h.2.2 (Nat.le_add_right _ _)⟩
theorem am_le0.trans {S0 S S' : am_S} (h : am_le0 S0 S) (h' : am_le0 S S') : am_le0 S0 S' := ⟨h'.1.trans h.1, Nat.le_trans h.2.1 h'.2.1, Nat.le_trans h.2.2 h'.2.2⟩
def am_Qc (b sc : Nat) (D : va_G) (S0 : am_S) (Q : am_Q) : Array Value → State → Outcome → State → Prop := fun _ st o t =>
  ∃ (S : am_S) (v : Option am_V), o = .returned (v.map (am_v b sc)) ∧ Q S v ∧ am_R b sc D S t.heap ∧ am_le0 S0 S ∧ ∀ q : Nat, q < b → t.heap[q]? = st.heap[q]?
def am_Pc (b sc : Nat) (D : va_G) (as : List am_V) (S : am_S) : Array Value → State → Prop := fun v U => v = (as.map (am_v b sc)).toArray ∧ am_R b sc D S U.heap ∧ am_Kn D U
def am_rm (d : Nat) (S : am_S) : Room := { frames := d, cells := am_limC - S.1.1, slots := am_limS - S.1.2.1, locals := 40 * d }
def am_met (l : Launch) (d j : Nat) (as : List am_V) (S : am_S) (Q : am_Q) : Prop := ∀ (b sc : Nat) (D : va_G), Met l (am_y j) (am_ws j) (am_rm d S) (am_Pc b sc D as S) (am_Qc b sc D S Q) (am_limC - S.1.1) (am_limS - S.1.2.1) (fun q => b ≤ q)
section AM
variable {l : Launch} {j d b sc : Nat} {D : va_G} {S0 : am_S} {p : Program} {e : Env} {R : Room} {s : State} {m : MethodId} {args : Array Value} {below : List Frame} {meth : Method} {c : Code} {C : am_C} {Q : am_Q} {Qw : State → Prop}
def am_rt (j pc : Nat) (v : Option am_V) : Prop := match v with
  | none => decode (am_cc j) pc = .ok (.return_, 1) ∧ am_ret j = none
  | some (.inl i) => decode (am_cc j) pc = .ok (.ireturn, 1) ∧ (am_ret j = some .int ∨ am_ret j = some .boolean ∧ (i = 0 ∨ i = 1))
  | some (.inr _) => False
def am_fin (l : Launch) (j b sc : Nat) (D : va_G) (S0 : am_S) (p : Program) (e : Env) (R : Room) (s : State) (m : MethodId) (args : Array Value) (below : List Frame) (meth : Method) (c : Code) (Q : am_Q) (Qw : State → Prop) : Prop :=
  ∀ (pc : Nat) (v : Option am_V) (S : am_S) (H : Heap) (locs : List Loc) (A : Array Slot) (cells slots : Nat), am_rt j pc v → Q S v → am_R b sc D S H → (∀ q ∈ locs, b ≤ q.base) → (∀ q : Nat, q < b → H[q]? = s.heap[q]?) → am_le0 S0 S →
    W p l e R s m args below meth c H locs cells slots Qw (F0 m pc A (v.toList.map (am_v b sc)))
def am_cx (l : Launch) (j d b sc : Nat) (D : va_G) (S0 : am_S) (p : Program) (e : Env) (R : Room) (s : State) (m : MethodId) (args : Array Value) (below : List Frame) (meth : Method) (c : Code) (Q : am_Q) (Qw : State → Prop) : Prop :=
  p.tables.exec = Jvm.exec ∧ c.code = am_cc j ∧ c.maxLocals = am_nL j ∧ s.vm.findClass (am_own j) = some m.cls ∧ (∀ w ∈ am_ws j, w.before args s = true) ∧ meth.name = (am_y j).name ∧ am_Kn D s ∧ am_R b sc D S0 s.heap ∧ (1 ≤ d ∧ d ≤ R.frames ∧ 40 * d ≤ R.locals ∧ am_limC - S0.1.1 ≤ R.cells ∧ am_limS - S0.1.2.1 ≤ R.slots) ∧ (j = am_jL → va_X sc S0.2.1.1 S0.2.1.2 s s.heap ∧ sc < b) ∧ am_fin l j b sc D S0 p e R s m args below meth c Q Qw
def am_go (l : Launch) (j b sc : Nat) (D : va_G) (S0 : am_S) (p : Program) (e : Env) (R : Room) (s : State) (m : MethodId) (args : Array Value) (below : List Frame) (meth : Method) (c : Code) (Qw : State → Prop) : am_G := fun pc ls st S =>
  ∀ (H : Heap) (locs : List Loc) (A : Array Slot) (cells slots : Nat), am_R b sc D S H → am_ls b sc (am_nL j) ls A → (∀ q ∈ locs, b ≤ q.base) → (∀ q : Nat, q < b → H[q]? = s.heap[q]?) → am_le0 S0 S →
    W p l e R s m args below meth c H locs cells slots Qw (F0 m pc A (st.map (am_v b sc)))
def am_snd (j pc : Nat) (t : am_T) : Prop := ∀ (l : Launch) (d b sc : Nat) (D : va_G) (S0 : am_S) (p : Program) (e : Env) (R : Room) (s : State) (m : MethodId) (args : Array Value) (below : List Frame) (meth : Method) (c : Code) (C : am_C) (Q : am_Q) (Qw : State → Prop),
  am_cx l j d b sc D S0 p e R s m args below meth c Q Qw → (∀ j' as S Q', C j' as S Q' → ∃ d', d = d' + 1 ∧ am_met l d' j' as S Q') →
  ∀ (ls : am_L) (st : List am_V) (S : am_S), t C (am_go l j b sc D S0 p e R s m args below meth c Qw) Q ls st S → am_go l j b sc D S0 p e R s m args below meth c Qw pc ls st S
theorem am_tight {H : Heap} {locs : List Loc} {cells slots : Nat} {S : am_S} {g : JFrame} (h0 : am_R b sc D S0 s.heap) (h : am_R b sc D S H)
    (k : W p l e R s m args below meth c H locs (S.1.1 - S0.1.1) (S.1.2.1 - S0.1.2.1) Qw g) : W p l e R s m args below meth c H locs cells slots Qw g := by
  intro T hT X
  refine k T hT { X with same := ?_ }
  obtain ⟨h1, h2, h3, h4, h5, h6⟩ := X.same
  have hTh : (T.setVm s.vm).heap = H := hT
  rw [hTh] at h2
  refine ⟨h1, by rw [hTh]; exact h2, ?_, h4, ?_, h6⟩
  · rw [hTh, h.1, h0.1]; omega
  · have e1 := am_sum_upto (b := b) (n := s.heap.size) (H := H) (H0 := s.heap) rfl (by rw [h0.1]; omega) (fun a c' hc => by
      obtain ⟨c2, g1, g2, g3, g4⟩ := h6 a c' hc
      rw [hTh] at g1
      exact ⟨c2, g1, g3⟩) h2
    rw [h.2.1, h0.2.1] at e1
    rw [hTh]
    show am_sum s.heap.size H ≤ _
    omega
theorem am_ls.get {nL : Nat} {ls : am_L} {A : Array Slot} (h : am_ls b sc nL ls A) {i : Nat} {v : am_V} (hv : ls[i]? = some (some v)) : A[i]? = some (.val (am_v b sc v)) := h.2.2.2 i v hv
def am_lw (b sc : Nat) (ls : am_L) : List (Nat × Value) := (List.range ls.length).filterMap (fun i => match ls[i]? with
  | some (some v) => some (i, am_v b sc v)
  | _ => none)
theorem am_lw_in {ls : am_L} {q : Nat × Value} : q ∈ am_lw b sc ls ↔ ∃ v, ls[q.1]? = some (some v) ∧ q.2 = am_v b sc v := by
  obtain ⟨i, w⟩ := q
  unfold am_lw
  rw [List.mem_filterMap]
  constructor
  · rintro ⟨j, hj, h⟩
    split at h
    next v hv =>
      cases h
      exact ⟨v, hv, rfl⟩
    next => cases h
  · rintro ⟨v, hv, hw⟩
    refine ⟨i, List.mem_range.mpr (List.getElem?_eq_some_iff.mp hv).1, ?_⟩
    simp only at hv hw
    rw [hv, hw]
theorem am_ls.has {nL : Nat} {ls : am_L} {A : Array Slot} (h : am_ls b sc nL ls A) : lv_has A nL (am_lw b sc ls) := by
  refine ⟨h.1, h.2.1, fun q hq => ?_⟩
  obtain ⟨v, h1, h2⟩ := am_lw_in.mp hq
  rw [h2]
  exact h.2.2.2 _ _ h1
theorem am_ls.put {nL i : Nat} {ls : am_L} {A A' : Array Slot} (h : am_ls b sc nL ls A) (hi : i < nL) (x : am_V) (h' : lv_has A' nL ((i, am_v b sc x) :: (am_lw b sc ls).filter (fun q => !(q.1 == i) && !(q.1 + 1 == i && q.2.category == 2)))) : am_ls b sc nL (ls.set i (some x)) A' := by
  refine ⟨h'.1, h'.2.1, by rw [List.length_set]; exact h.2.2.1, fun k v hk => ?_⟩
  by_cases hki : k = i
  · subst hki
    rw [List.getElem?_set_self (by rw [h.2.2.1]; exact hi)] at hk
    cases hk
    exact h'.2.2 (k, am_v b sc x) List.mem_cons_self
  · rw [List.getElem?_set_ne (Ne.symm hki)] at hk
    refine h'.2.2 (k, am_v b sc v) (List.mem_cons_of_mem _ (List.mem_filter.mpr ⟨am_lw_in.mpr ⟨v, hk, rfl⟩, ?_⟩))
    simp [hki, am_v_cat]
theorem sn_iconst {j pc nx : Nat} {n : Int} {z : Int32} (hd : decode (am_cc j) pc = .ok (.iconst n, 1)) (hv : Int32.ofInt n = z) (hnx : pc + 1 = nx) : am_snd j pc (ai_push z nx) := by
  intro l d b sc D S0 p e R s m args below meth c C Q Qw hcx hC ls st S h H locs A cells slots hR hA hlo hfr hs
  obtain ⟨hx, hb, hml, hown, hts, hnm, hK, hR0, ⟨hd1, hRf, hRl, hRc, hRs⟩, hX, hend⟩ := hcx
  subst hnx
  exact lv_iconst hx hb hd hv (h H locs A cells slots hR hA hlo hfr hs)
theorem sn_bipush {j pc nx : Nat} {n : Int} {z : Int32} (hd : decode (am_cc j) pc = .ok (.bipush n, 2)) (hv : (Int8.ofInt n).toInt32 = z) (hnx : pc + 2 = nx) : am_snd j pc (ai_push z nx) := by
  intro l d b sc D S0 p e R s m args below meth c C Q Qw hcx hC ls st S h H locs A cells slots hR hA hlo hfr hs
  obtain ⟨hx, hb, hml, hown, hts, hnm, hK, hR0, ⟨hd1, hRf, hRl, hRc, hRs⟩, hX, hend⟩ := hcx
  subst hnx
  exact lv_bipush hx hb hd hv (h H locs A cells slots hR hA hlo hfr hs)
theorem sn_sipush {j pc nx : Nat} {n : Int} {z : Int32} (hd : decode (am_cc j) pc = .ok (.sipush n, 3)) (hv : (Int16.ofInt n).toInt32 = z) (hnx : pc + 3 = nx) : am_snd j pc (ai_push z nx) := by
  intro l d b sc D S0 p e R s m args below meth c C Q Qw hcx hC ls st S h H locs A cells slots hR hA hlo hfr hs
  obtain ⟨hx, hb, hml, hown, hts, hnm, hK, hR0, ⟨hd1, hRf, hRl, hRc, hRs⟩, hX, hend⟩ := hcx
  subst hnx
  exact lv_sipush hx hb hd hv (h H locs A cells slots hR hA hlo hfr hs)
theorem sn_null {j pc nx : Nat} (hd : decode (am_cc j) pc = .ok (.aconst_null, 1)) (hnx : pc + 1 = nx) : am_snd j pc (ai_null nx) := by
  intro l d b sc D S0 p e R s m args below meth c C Q Qw hcx hC ls st S h H locs A cells slots hR hA hlo hfr hs
  obtain ⟨hx, hb, hml, hown, hts, hnm, hK, hR0, ⟨hd1, hRf, hRl, hRc, hRs⟩, hX, hend⟩ := hcx
  subst hnx
  exact lv_null hx hb hd (h H locs A cells slots hR hA hlo hfr hs)
theorem sn_iload_n {j pc nx n : Nat} {k : Fin 4} (hd : decode (am_cc j) pc = .ok (.iload_n k, 1)) (hk : (k : Nat) = n) (hnx : pc + 1 = nx) : am_snd j pc (ai_iload n nx) := by
  intro l d b sc D S0 p e R s m args below meth c C Q Qw hcx hC ls st S h H locs A cells slots hR hA hlo hfr hs
  obtain ⟨hx, hb, hml, hown, hts, hnm, hK, hR0, ⟨hd1, hRf, hRl, hRc, hRs⟩, hX, hend⟩ := hcx
  subst hnx
  obtain ⟨v, h1, h⟩ := h
  exact lv_iload_n hx hb hd hk (hA.get h1) (h H locs A cells slots hR hA hlo hfr hs)
theorem sn_iload {j pc nx n : Nat} (hd : decode (am_cc j) pc = .ok (.iload n, 2)) (hnx : pc + 2 = nx) : am_snd j pc (ai_iload n nx) := by
  intro l d b sc D S0 p e R s m args below meth c C Q Qw hcx hC ls st S h H locs A cells slots hR hA hlo hfr hs
  obtain ⟨hx, hb, hml, hown, hts, hnm, hK, hR0, ⟨hd1, hRf, hRl, hRc, hRs⟩, hX, hend⟩ := hcx
  subst hnx
  obtain ⟨v, h1, h⟩ := h
  exact lv_iload hx hb hd (hA.get h1) (h H locs A cells slots hR hA hlo hfr hs)
theorem sn_aload_n {j pc nx n : Nat} {k : Fin 4} (hd : decode (am_cc j) pc = .ok (.aload_n k, 1)) (hk : (k : Nat) = n) (hnx : pc + 1 = nx) : am_snd j pc (ai_aload n nx) := by
  intro l d b sc D S0 p e R s m args below meth c C Q Qw hcx hC ls st S h H locs A cells slots hR hA hlo hfr hs
  obtain ⟨hx, hb, hml, hown, hts, hnm, hK, hR0, ⟨hd1, hRf, hRl, hRc, hRs⟩, hX, hend⟩ := hcx
  subst hnx
  obtain ⟨v, h1, h⟩ := h
  have g := hA.get h1
  have h := h H locs A cells slots hR hA hlo hfr hs
  rcases v with _ | (_ | a)
  · exact lv_aload_nN hx hb hd hk g h
  · exact lv_aload_n hx hb hd hk g h
  · exact lv_aload_n hx hb hd hk g h
theorem sn_aload {j pc nx n : Nat} (hd : decode (am_cc j) pc = .ok (.aload n, 2)) (hnx : pc + 2 = nx) : am_snd j pc (ai_aload n nx) := by
  intro l d b sc D S0 p e R s m args below meth c C Q Qw hcx hC ls st S h H locs A cells slots hR hA hlo hfr hs
  obtain ⟨hx, hb, hml, hown, hts, hnm, hK, hR0, ⟨hd1, hRf, hRl, hRc, hRs⟩, hX, hend⟩ := hcx
  subst hnx
  obtain ⟨v, h1, h⟩ := h
  have g := hA.get h1
  have h := h H locs A cells slots hR hA hlo hfr hs
  rcases v with _ | (_ | a)
  · exact lv_aloadN hx hb hd g h
  · exact lv_aload hx hb hd g h
  · exact lv_aload hx hb hd g h
theorem sn_istore_n {j pc nx n : Nat} {k : Fin 4} (hd : decode (am_cc j) pc = .ok (.istore_n k, 1)) (hk : (k : Nat) = n) (hi : n < am_nL j) (hnx : pc + 1 = nx) : am_snd j pc (ai_istore n nx) := by
  intro l d b sc D S0 p e R s m args below meth c C Q Qw hcx hC ls st S h H locs A cells slots hR hA hlo hfr hs
  obtain ⟨hx, hb, hml, hown, hts, hnm, hK, hR0, ⟨hd1, hRf, hRl, hRc, hRs⟩, hX, hend⟩ := hcx
  subst hnx
  obtain ⟨v, r, rfl, h⟩ := h
  exact lv_istore_n hx hb hd hk hA.has hi rfl (fun A' h' => h H locs A' cells slots hR (hA.put hi (.inl v) h') hlo hfr hs)
theorem sn_istore {j pc nx n : Nat} (hd : decode (am_cc j) pc = .ok (.istore n, 2)) (hi : n < am_nL j) (hnx : pc + 2 = nx) : am_snd j pc (ai_istore n nx) := by
  intro l d b sc D S0 p e R s m args below meth c C Q Qw hcx hC ls st S h H locs A cells slots hR hA hlo hfr hs
  obtain ⟨hx, hb, hml, hown, hts, hnm, hK, hR0, ⟨hd1, hRf, hRl, hRc, hRs⟩, hX, hend⟩ := hcx
  subst hnx
  obtain ⟨v, r, rfl, h⟩ := h
  exact lv_istore hx hb hd hA.has hi rfl (fun A' h' => h H locs A' cells slots hR (hA.put hi (.inl v) h') hlo hfr hs)
theorem sn_astore_n {j pc nx n : Nat} {k : Fin 4} (hd : decode (am_cc j) pc = .ok (.astore_n k, 1)) (hk : (k : Nat) = n) (hi : n < am_nL j) (hnx : pc + 1 = nx) : am_snd j pc (ai_astore n nx) := by
  intro l d b sc D S0 p e R s m args below meth c C Q Qw hcx hC ls st S h H locs A cells slots hR hA hlo hfr hs
  obtain ⟨hx, hb, hml, hown, hts, hnm, hK, hR0, ⟨hd1, hRf, hRl, hRc, hRs⟩, hX, hend⟩ := hcx
  subst hnx
  obtain ⟨v, r, rfl, h⟩ := h
  rcases v with _ | (_ | a)
  · exact lv_astore_nN hx hb hd hk hA.has hi rfl (fun A' h' => h H locs A' cells slots hR (hA.put hi _ h') hlo hfr hs)
  · exact lv_astore_n hx hb hd hk hA.has hi rfl (fun A' h' => h H locs A' cells slots hR (hA.put hi _ h') hlo hfr hs)
  · exact lv_astore_n hx hb hd hk hA.has hi rfl (fun A' h' => h H locs A' cells slots hR (hA.put hi _ h') hlo hfr hs)
theorem sn_astore {j pc nx n : Nat} (hd : decode (am_cc j) pc = .ok (.astore n, 2)) (hi : n < am_nL j) (hnx : pc + 2 = nx) : am_snd j pc (ai_astore n nx) := by
  intro l d b sc D S0 p e R s m args below meth c C Q Qw hcx hC ls st S h H locs A cells slots hR hA hlo hfr hs
  obtain ⟨hx, hb, hml, hown, hts, hnm, hK, hR0, ⟨hd1, hRf, hRl, hRc, hRs⟩, hX, hend⟩ := hcx
  subst hnx
  obtain ⟨v, r, rfl, h⟩ := h
  rcases v with _ | (_ | a)
  · exact lv_astoreN hx hb hd hA.has hi rfl (fun A' h' => h H locs A' cells slots hR (hA.put hi _ h') hlo hfr hs)
  · exact lv_astore hx hb hd hA.has hi rfl (fun A' h' => h H locs A' cells slots hR (hA.put hi _ h') hlo hfr hs)
  · exact lv_astore hx hb hd hA.has hi rfl (fun A' h' => h H locs A' cells slots hR (hA.put hi _ h') hlo hfr hs)
theorem sn_iinc {j pc nx n : Nat} {i : Int} {z : Int32} (hd : decode (am_cc j) pc = .ok (.iinc n i, 3)) (hz : Int32.ofInt i = z) (hi : n < am_nL j) (hnx : pc + 3 = nx) : am_snd j pc (ai_iinc n z nx) := by
  intro l d b sc D S0 p e R s m args below meth c C Q Qw hcx hC ls st S h H locs A cells slots hR hA hlo hfr hs
  obtain ⟨hx, hb, hml, hown, hts, hnm, hK, hR0, ⟨hd1, hRf, hRl, hRc, hRs⟩, hX, hend⟩ := hcx
  subst hnx
  subst hz
  obtain ⟨v, h1, h⟩ := h
  obtain ⟨k, hk⟩ := List.getElem?_of_mem ((am_lw_in (q := (n, .int v))).mpr ⟨_, h1, rfl⟩ : (n, Value.int v) ∈ am_lw b sc ls)
  exact lv_iinc hx hb hd hA.has hk rfl hi rfl (fun A' h' => h H locs A' cells slots hR (hA.put hi (.inl (v + Int32.ofInt i)) h') hlo hfr hs)
theorem sn_iadd {j pc nx : Nat} (hd : decode (am_cc j) pc = .ok (.iadd, 1)) (hnx : pc + 1 = nx) : am_snd j pc (ai_bin (fun x y => x + y) nx) := by
  intro l d b sc D S0 p e R s m args below meth c C Q Qw hcx hC ls st S h H locs A cells slots hR hA hlo hfr hs
  obtain ⟨hx, hb, hml, hown, hts, hnm, hK, hR0, ⟨hd1, hRf, hRl, hRc, hRs⟩, hX, hend⟩ := hcx
  subst hnx
  obtain ⟨x, y, r, rfl, h⟩ := h
  exact lv_iadd hx hb hd (h H locs A cells slots hR hA hlo hfr hs)
theorem sn_isub {j pc nx : Nat} (hd : decode (am_cc j) pc = .ok (.isub, 1)) (hnx : pc + 1 = nx) : am_snd j pc (ai_bin (fun x y => x - y) nx) := by
  intro l d b sc D S0 p e R s m args below meth c C Q Qw hcx hC ls st S h H locs A cells slots hR hA hlo hfr hs
  obtain ⟨hx, hb, hml, hown, hts, hnm, hK, hR0, ⟨hd1, hRf, hRl, hRc, hRs⟩, hX, hend⟩ := hcx
  subst hnx
  obtain ⟨x, y, r, rfl, h⟩ := h
  exact lv_isub hx hb hd (h H locs A cells slots hR hA hlo hfr hs)
theorem sn_imul {j pc nx : Nat} (hd : decode (am_cc j) pc = .ok (.imul, 1)) (hnx : pc + 1 = nx) : am_snd j pc (ai_bin (fun x y => x * y) nx) := by
  intro l d b sc D S0 p e R s m args below meth c C Q Qw hcx hC ls st S h H locs A cells slots hR hA hlo hfr hs
  obtain ⟨hx, hb, hml, hown, hts, hnm, hK, hR0, ⟨hd1, hRf, hRl, hRc, hRs⟩, hX, hend⟩ := hcx
  subst hnx
  obtain ⟨x, y, r, rfl, h⟩ := h
  exact lv_imul hx hb hd (h H locs A cells slots hR hA hlo hfr hs)
theorem sn_iand {j pc nx : Nat} (hd : decode (am_cc j) pc = .ok (.iand, 1)) (hnx : pc + 1 = nx) : am_snd j pc (ai_bin (fun x y => x &&& y) nx) := by
  intro l d b sc D S0 p e R s m args below meth c C Q Qw hcx hC ls st S h H locs A cells slots hR hA hlo hfr hs
  obtain ⟨hx, hb, hml, hown, hts, hnm, hK, hR0, ⟨hd1, hRf, hRl, hRc, hRs⟩, hX, hend⟩ := hcx
  subst hnx
  obtain ⟨x, y, r, rfl, h⟩ := h
  exact lv_iand hx hb hd (h H locs A cells slots hR hA hlo hfr hs)
theorem sn_ishl {j pc nx : Nat} (hd : decode (am_cc j) pc = .ok (.ishl, 1)) (hnx : pc + 1 = nx) : am_snd j pc (ai_bin (fun x y => x <<< (y &&& 31)) nx) := by
  intro l d b sc D S0 p e R s m args below meth c C Q Qw hcx hC ls st S h H locs A cells slots hR hA hlo hfr hs
  obtain ⟨hx, hb, hml, hown, hts, hnm, hK, hR0, ⟨hd1, hRf, hRl, hRc, hRs⟩, hX, hend⟩ := hcx
  subst hnx
  obtain ⟨x, y, r, rfl, h⟩ := h
  exact lv_ishl hx hb hd (h H locs A cells slots hR hA hlo hfr hs)
theorem sn_ishr {j pc nx : Nat} (hd : decode (am_cc j) pc = .ok (.ishr, 1)) (hnx : pc + 1 = nx) : am_snd j pc (ai_bin (fun x y => x >>> (y &&& 31)) nx) := by
  intro l d b sc D S0 p e R s m args below meth c C Q Qw hcx hC ls st S h H locs A cells slots hR hA hlo hfr hs
  obtain ⟨hx, hb, hml, hown, hts, hnm, hK, hR0, ⟨hd1, hRf, hRl, hRc, hRs⟩, hX, hend⟩ := hcx
  subst hnx
  obtain ⟨x, y, r, rfl, h⟩ := h
  exact lv_ishr hx hb hd (h H locs A cells slots hR hA hlo hfr hs)
theorem sn_idiv {j pc nx : Nat} (hd : decode (am_cc j) pc = .ok (.idiv, 1)) (hnx : pc + 1 = nx) : am_snd j pc (ai_div (fun x y => x / y) nx) := by
  intro l d b sc D S0 p e R s m args below meth c C Q Qw hcx hC ls st S h H locs A cells slots hR hA hlo hfr hs
  obtain ⟨hx, hb, hml, hown, hts, hnm, hK, hR0, ⟨hd1, hRf, hRl, hRc, hRs⟩, hX, hend⟩ := hcx
  subst hnx
  obtain ⟨x, y, r, rfl, hy, h⟩ := h
  exact lv_idiv hx hb hd hy (h H locs A cells slots hR hA hlo hfr hs)
theorem sn_irem {j pc nx : Nat} (hd : decode (am_cc j) pc = .ok (.irem, 1)) (hnx : pc + 1 = nx) : am_snd j pc (ai_div (fun x y => x - x / y * y) nx) := by
  intro l d b sc D S0 p e R s m args below meth c C Q Qw hcx hC ls st S h H locs A cells slots hR hA hlo hfr hs
  obtain ⟨hx, hb, hml, hown, hts, hnm, hK, hR0, ⟨hd1, hRf, hRl, hRc, hRs⟩, hX, hend⟩ := hcx
  subst hnx
  obtain ⟨x, y, r, rfl, hy, h⟩ := h
  exact lv_irem hx hb hd hy (h H locs A cells slots hR hA hlo hfr hs)
theorem sn_if_eq {j pc nx tg : Nat} {off : Int} (hd : decode (am_cc j) pc = .ok (.ifCond .eq off, 3)) (ht : (pc : Int) + off = (tg : Int)) (hnx : pc + 3 = nx) : am_snd j pc (ai_if (fun x => x = 0) tg nx) := by
  intro l d b sc D S0 p e R s m args below meth c C Q Qw hcx hC ls st S h H locs A cells slots hR hA hlo hfr hs
  obtain ⟨hx, hb, hml, hown, hts, hnm, hK, hR0, ⟨hd1, hRf, hRl, hRc, hRs⟩, hX, hend⟩ := hcx
  subst hnx
  obtain ⟨x, r, rfl, h1, h2⟩ := h
  exact lv_if_eq hx hb hd ht (fun q => h1 q H locs A cells slots hR hA hlo hfr hs) (fun q => h2 q H locs A cells slots hR hA hlo hfr hs)
theorem sn_icmp_eq {j pc nx tg : Nat} {off : Int} (hd : decode (am_cc j) pc = .ok (.if_icmp .eq off, 3)) (ht : (pc : Int) + off = (tg : Int)) (hnx : pc + 3 = nx) : am_snd j pc (ai_icmp (fun x y => x = y) tg nx) := by
  intro l d b sc D S0 p e R s m args below meth c C Q Qw hcx hC ls st S h H locs A cells slots hR hA hlo hfr hs
  obtain ⟨hx, hb, hml, hown, hts, hnm, hK, hR0, ⟨hd1, hRf, hRl, hRc, hRs⟩, hX, hend⟩ := hcx
  subst hnx
  obtain ⟨x, y, r, rfl, h1, h2⟩ := h
  exact lv_icmp_eq hx hb hd ht (fun q => h1 q H locs A cells slots hR hA hlo hfr hs) (fun q => h2 q H locs A cells slots hR hA hlo hfr hs)
theorem sn_if_ne {j pc nx tg : Nat} {off : Int} (hd : decode (am_cc j) pc = .ok (.ifCond .ne off, 3)) (ht : (pc : Int) + off = (tg : Int)) (hnx : pc + 3 = nx) : am_snd j pc (ai_if (fun x => ¬ x = 0) tg nx) := by
  intro l d b sc D S0 p e R s m args below meth c C Q Qw hcx hC ls st S h H locs A cells slots hR hA hlo hfr hs
  obtain ⟨hx, hb, hml, hown, hts, hnm, hK, hR0, ⟨hd1, hRf, hRl, hRc, hRs⟩, hX, hend⟩ := hcx
  subst hnx
  obtain ⟨x, r, rfl, h1, h2⟩ := h
  exact lv_if_ne hx hb hd ht (fun q => h1 q H locs A cells slots hR hA hlo hfr hs) (fun q => h2 (fun z => z q) H locs A cells slots hR hA hlo hfr hs)
theorem sn_icmp_ne {j pc nx tg : Nat} {off : Int} (hd : decode (am_cc j) pc = .ok (.if_icmp .ne off, 3)) (ht : (pc : Int) + off = (tg : Int)) (hnx : pc + 3 = nx) : am_snd j pc (ai_icmp (fun x y => ¬ x = y) tg nx) := by
  intro l d b sc D S0 p e R s m args below meth c C Q Qw hcx hC ls st S h H locs A cells slots hR hA hlo hfr hs
  obtain ⟨hx, hb, hml, hown, hts, hnm, hK, hR0, ⟨hd1, hRf, hRl, hRc, hRs⟩, hX, hend⟩ := hcx
  subst hnx
  obtain ⟨x, y, r, rfl, h1, h2⟩ := h
  exact lv_icmp_ne hx hb hd ht (fun q => h1 q H locs A cells slots hR hA hlo hfr hs) (fun q => h2 (fun z => z q) H locs A cells slots hR hA hlo hfr hs)
theorem sn_if_lt {j pc nx tg : Nat} {off : Int} (hd : decode (am_cc j) pc = .ok (.ifCond .lt off, 3)) (ht : (pc : Int) + off = (tg : Int)) (hnx : pc + 3 = nx) : am_snd j pc (ai_if (fun x => x < 0) tg nx) := by
  intro l d b sc D S0 p e R s m args below meth c C Q Qw hcx hC ls st S h H locs A cells slots hR hA hlo hfr hs
  obtain ⟨hx, hb, hml, hown, hts, hnm, hK, hR0, ⟨hd1, hRf, hRl, hRc, hRs⟩, hX, hend⟩ := hcx
  subst hnx
  obtain ⟨x, r, rfl, h1, h2⟩ := h
  exact lv_if_lt hx hb hd ht (fun q => h1 q H locs A cells slots hR hA hlo hfr hs) (fun q => h2 q H locs A cells slots hR hA hlo hfr hs)
theorem sn_icmp_lt {j pc nx tg : Nat} {off : Int} (hd : decode (am_cc j) pc = .ok (.if_icmp .lt off, 3)) (ht : (pc : Int) + off = (tg : Int)) (hnx : pc + 3 = nx) : am_snd j pc (ai_icmp (fun x y => x < y) tg nx) := by
  intro l d b sc D S0 p e R s m args below meth c C Q Qw hcx hC ls st S h H locs A cells slots hR hA hlo hfr hs
  obtain ⟨hx, hb, hml, hown, hts, hnm, hK, hR0, ⟨hd1, hRf, hRl, hRc, hRs⟩, hX, hend⟩ := hcx
  subst hnx
  obtain ⟨x, y, r, rfl, h1, h2⟩ := h
  exact lv_icmp_lt hx hb hd ht (fun q => h1 q H locs A cells slots hR hA hlo hfr hs) (fun q => h2 q H locs A cells slots hR hA hlo hfr hs)
theorem sn_if_ge {j pc nx tg : Nat} {off : Int} (hd : decode (am_cc j) pc = .ok (.ifCond .ge off, 3)) (ht : (pc : Int) + off = (tg : Int)) (hnx : pc + 3 = nx) : am_snd j pc (ai_if (fun x => 0 ≤ x) tg nx) := by
  intro l d b sc D S0 p e R s m args below meth c C Q Qw hcx hC ls st S h H locs A cells slots hR hA hlo hfr hs
  obtain ⟨hx, hb, hml, hown, hts, hnm, hK, hR0, ⟨hd1, hRf, hRl, hRc, hRs⟩, hX, hend⟩ := hcx
  subst hnx
  obtain ⟨x, r, rfl, h1, h2⟩ := h
  exact lv_if_ge hx hb hd ht (fun q => h1 q H locs A cells slots hR hA hlo hfr hs) (fun q => h2 q H locs A cells slots hR hA hlo hfr hs)
theorem sn_icmp_ge {j pc nx tg : Nat} {off : Int} (hd : decode (am_cc j) pc = .ok (.if_icmp .ge off, 3)) (ht : (pc : Int) + off = (tg : Int)) (hnx : pc + 3 = nx) : am_snd j pc (ai_icmp (fun x y => y ≤ x) tg nx) := by
  intro l d b sc D S0 p e R s m args below meth c C Q Qw hcx hC ls st S h H locs A cells slots hR hA hlo hfr hs
  obtain ⟨hx, hb, hml, hown, hts, hnm, hK, hR0, ⟨hd1, hRf, hRl, hRc, hRs⟩, hX, hend⟩ := hcx
  subst hnx
  obtain ⟨x, y, r, rfl, h1, h2⟩ := h
  exact lv_icmp_ge hx hb hd ht (fun q => h1 q H locs A cells slots hR hA hlo hfr hs) (fun q => h2 q H locs A cells slots hR hA hlo hfr hs)
theorem sn_if_gt {j pc nx tg : Nat} {off : Int} (hd : decode (am_cc j) pc = .ok (.ifCond .gt off, 3)) (ht : (pc : Int) + off = (tg : Int)) (hnx : pc + 3 = nx) : am_snd j pc (ai_if (fun x => 0 < x) tg nx) := by
  intro l d b sc D S0 p e R s m args below meth c C Q Qw hcx hC ls st S h H locs A cells slots hR hA hlo hfr hs
  obtain ⟨hx, hb, hml, hown, hts, hnm, hK, hR0, ⟨hd1, hRf, hRl, hRc, hRs⟩, hX, hend⟩ := hcx
  subst hnx
  obtain ⟨x, r, rfl, h1, h2⟩ := h
  exact lv_if_gt hx hb hd ht (fun q => h1 q H locs A cells slots hR hA hlo hfr hs) (fun q => h2 q H locs A cells slots hR hA hlo hfr hs)
theorem sn_icmp_gt {j pc nx tg : Nat} {off : Int} (hd : decode (am_cc j) pc = .ok (.if_icmp .gt off, 3)) (ht : (pc : Int) + off = (tg : Int)) (hnx : pc + 3 = nx) : am_snd j pc (ai_icmp (fun x y => y < x) tg nx) := by
  intro l d b sc D S0 p e R s m args below meth c C Q Qw hcx hC ls st S h H locs A cells slots hR hA hlo hfr hs
  obtain ⟨hx, hb, hml, hown, hts, hnm, hK, hR0, ⟨hd1, hRf, hRl, hRc, hRs⟩, hX, hend⟩ := hcx
  subst hnx
  obtain ⟨x, y, r, rfl, h1, h2⟩ := h
  exact lv_icmp_gt hx hb hd ht (fun q => h1 q H locs A cells slots hR hA hlo hfr hs) (fun q => h2 q H locs A cells slots hR hA hlo hfr hs)
theorem sn_if_le {j pc nx tg : Nat} {off : Int} (hd : decode (am_cc j) pc = .ok (.ifCond .le off, 3)) (ht : (pc : Int) + off = (tg : Int)) (hnx : pc + 3 = nx) : am_snd j pc (ai_if (fun x => x ≤ 0) tg nx) := by
  intro l d b sc D S0 p e R s m args below meth c C Q Qw hcx hC ls st S h H locs A cells slots hR hA hlo hfr hs
  obtain ⟨hx, hb, hml, hown, hts, hnm, hK, hR0, ⟨hd1, hRf, hRl, hRc, hRs⟩, hX, hend⟩ := hcx
  subst hnx
  obtain ⟨x, r, rfl, h1, h2⟩ := h
  exact lv_if_le hx hb hd ht (fun q => h1 q H locs A cells slots hR hA hlo hfr hs) (fun q => h2 q H locs A cells slots hR hA hlo hfr hs)
theorem sn_icmp_le {j pc nx tg : Nat} {off : Int} (hd : decode (am_cc j) pc = .ok (.if_icmp .le off, 3)) (ht : (pc : Int) + off = (tg : Int)) (hnx : pc + 3 = nx) : am_snd j pc (ai_icmp (fun x y => x ≤ y) tg nx) := by
  intro l d b sc D S0 p e R s m args below meth c C Q Qw hcx hC ls st S h H locs A cells slots hR hA hlo hfr hs
  obtain ⟨hx, hb, hml, hown, hts, hnm, hK, hR0, ⟨hd1, hRf, hRl, hRc, hRs⟩, hX, hend⟩ := hcx
  subst hnx
  obtain ⟨x, y, r, rfl, h1, h2⟩ := h
  exact lv_icmp_le hx hb hd ht (fun q => h1 q H locs A cells slots hR hA hlo hfr hs) (fun q => h2 q H locs A cells slots hR hA hlo hfr hs)
theorem sn_ifnull {j pc nx tg : Nat} {off : Int} (hd : decode (am_cc j) pc = .ok (.ifnull off, 3)) (ht : (pc : Int) + off = (tg : Int)) (hnx : pc + 3 = nx) : am_snd j pc (ai_ifnull tg nx) := by
  intro l d b sc D S0 p e R s m args below meth c C Q Qw hcx hC ls st S h H locs A cells slots hR hA hlo hfr hs
  obtain ⟨hx, hb, hml, hown, hts, hnm, hK, hR0, ⟨hd1, hRf, hRl, hRc, hRs⟩, hX, hend⟩ := hcx
  subst hnx
  obtain ⟨v, r, rfl, h1, h2⟩ := h
  rcases v with _ | (_ | a)
  · exact lv_ifnullN hx hb hd ht (h1 rfl H locs A cells slots hR hA hlo hfr hs)
  · exact lv_ifnull hx hb hd (h2 _ rfl H locs A cells slots hR hA hlo hfr hs)
  · exact lv_ifnull hx hb hd (h2 _ rfl H locs A cells slots hR hA hlo hfr hs)
theorem sn_ifnonnull {j pc nx tg : Nat} {off : Int} (hd : decode (am_cc j) pc = .ok (.ifnonnull off, 3)) (ht : (pc : Int) + off = (tg : Int)) (hnx : pc + 3 = nx) : am_snd j pc (ai_ifnonnull tg nx) := by
  intro l d b sc D S0 p e R s m args below meth c C Q Qw hcx hC ls st S h H locs A cells slots hR hA hlo hfr hs
  obtain ⟨hx, hb, hml, hown, hts, hnm, hK, hR0, ⟨hd1, hRf, hRl, hRc, hRs⟩, hX, hend⟩ := hcx
  subst hnx
  obtain ⟨v, r, rfl, h1, h2⟩ := h
  rcases v with _ | (_ | a)
  · exact lv_ifnonnullN hx hb hd (h2 rfl H locs A cells slots hR hA hlo hfr hs)
  · exact lv_ifnonnull hx hb hd ht (h1 _ rfl H locs A cells slots hR hA hlo hfr hs)
  · exact lv_ifnonnull hx hb hd ht (h1 _ rfl H locs A cells slots hR hA hlo hfr hs)
theorem sn_goto {j pc tg : Nat} {off : Int} (hd : decode (am_cc j) pc = .ok (.goto off, 3)) (ht : (pc : Int) + off = (tg : Int)) : am_snd j pc (ai_goto tg) := by
  intro l d b sc D S0 p e R s m args below meth c C Q Qw hcx hC ls st S h H locs A cells slots hR hA hlo hfr hs
  obtain ⟨hx, hb, hml, hown, hts, hnm, hK, hR0, ⟨hd1, hRf, hRl, hRc, hRs⟩, hX, hend⟩ := hcx
  exact lv_goto hx hb hd ht (h H locs A cells slots hR hA hlo hfr hs)
theorem sn_dup {j pc nx : Nat} (hd : decode (am_cc j) pc = .ok (.dup, 1)) (hnx : pc + 1 = nx) : am_snd j pc (ai_dup nx) := by
  intro l d b sc D S0 p e R s m args below meth c C Q Qw hcx hC ls st S h H locs A cells slots hR hA hlo hfr hs
  obtain ⟨hx, hb, hml, hown, hts, hnm, hK, hR0, ⟨hd1, hRf, hRl, hRc, hRs⟩, hX, hend⟩ := hcx
  subst hnx
  obtain ⟨v, r, rfl, h⟩ := h
  exact lv_dup hx hb hd (am_v_cat b sc v) (h H locs A cells slots hR hA hlo hfr hs)
theorem sn_dup_x1 {j pc nx : Nat} (hd : decode (am_cc j) pc = .ok (.dup_x1, 1)) (hnx : pc + 1 = nx) : am_snd j pc (ai_dupx1 nx) := by
  intro l d b sc D S0 p e R s m args below meth c C Q Qw hcx hC ls st S h H locs A cells slots hR hA hlo hfr hs
  obtain ⟨hx, hb, hml, hown, hts, hnm, hK, hR0, ⟨hd1, hRf, hRl, hRc, hRs⟩, hX, hend⟩ := hcx
  subst hnx
  obtain ⟨v, w, r, rfl, h⟩ := h
  exact lv_dup_x1 hx hb hd (am_v_cat b sc v) (am_v_cat b sc w) (h H locs A cells slots hR hA hlo hfr hs)
theorem sn_dup2 {j pc nx : Nat} (hd : decode (am_cc j) pc = .ok (.dup2, 1)) (hnx : pc + 1 = nx) : am_snd j pc (ai_dup2 nx) := by
  intro l d b sc D S0 p e R s m args below meth c C Q Qw hcx hC ls st S h H locs A cells slots hR hA hlo hfr hs
  obtain ⟨hx, hb, hml, hown, hts, hnm, hK, hR0, ⟨hd1, hRf, hRl, hRc, hRs⟩, hX, hend⟩ := hcx
  subst hnx
  obtain ⟨v, w, r, rfl, h⟩ := h
  exact lv_dup2_11 hx hb hd (am_v_cat b sc v) (am_v_cat b sc w) (h H locs A cells slots hR hA hlo hfr hs)
theorem sn_pop {j pc nx : Nat} (hd : decode (am_cc j) pc = .ok (.pop, 1)) (hnx : pc + 1 = nx) : am_snd j pc (ai_pop nx) := by
  intro l d b sc D S0 p e R s m args below meth c C Q Qw hcx hC ls st S h H locs A cells slots hR hA hlo hfr hs
  obtain ⟨hx, hb, hml, hown, hts, hnm, hK, hR0, ⟨hd1, hRf, hRl, hRc, hRs⟩, hX, hend⟩ := hcx
  subst hnx
  obtain ⟨v, r, rfl, h⟩ := h
  exact lv_pop hx hb hd (am_v_cat b sc v) (h H locs A cells slots hR hA hlo hfr hs)
theorem sn_getI {j pc nx k f idx : Nat} {ob : String × u_T × Nat × (Nat → FieldType)} (hd : decode (am_cc j) pc = .ok (.getfield idx, 3)) (hkd : am_kd k = some (.inl ob)) (hf : f < ob.2.2.1) (hty : (ob.2.2.2 f).isReference = false) (hin : ∀ w ∈ u_ws ob.1 ob.2.1 ob.2.2.1, w ∈ am_ws j) (hlink : Cond.fieldLink (am_own j) idx (ob.2.1 f).1 (ob.2.1 f).2.1 (ob.2.1 f).2.2.1 ∈ am_ws j) (hnx : pc + 3 = nx) : am_snd j pc (ai_getI k f nx) := by
  intro l d b sc D S0 p e R s m args below meth c C Q Qw hcx hC ls st S h H locs A cells slots hR hA hlo hfr hs
  obtain ⟨hx, hb, hml, hown, hts, hnm, hK, hR0, ⟨hd1, hRf, hRl, hRc, hRs⟩, hX, hend⟩ := hcx
  subst hnx
  obtain ⟨n, r, rfl, hl, h⟩ := h
  obtain ⟨a, rfl, ha, hat⟩ := hR.cellN hl
  unfold am_at at hat
  rw [hkd] at hat
  obtain ⟨cell, q1, q2, q3, q4⟩ := hat
  obtain ⟨hS, hfc, kC, hkC, hkind⟩ := hK.obj hkd
  obtain ⟨cf, kf, fi, fd, hi, hsl⟩ := hS f hf
  refine W.getf hx hb hown (hts _ hlink) hi (u_facts hfc hkC (u_lays hts hin hf) hi).1 q1 (by rw [q3]; exact fun h => by cases h) (v := .int (am_gI S (100 * k + f) (a + 1) 0)) ?_ rfl rfl hd (h H locs A cells slots hR hA hlo hfr hs)
  rw [hsl, q4 f hf]
  show some (am_cv b sc S (100 * k + f) (ob.2.2.2 f) (a + 1) 0) = _
  unfold am_cv
  rw [hty]
  rfl
theorem sn_getP {j pc nx k f idx : Nat} {ob : String × u_T × Nat × (Nat → FieldType)} (hd : decode (am_cc j) pc = .ok (.getfield idx, 3)) (hkd : am_kd k = some (.inl ob)) (hf : f < ob.2.2.1) (hty : (ob.2.2.2 f).isReference = true) (hin : ∀ w ∈ u_ws ob.1 ob.2.1 ob.2.2.1, w ∈ am_ws j) (hlink : Cond.fieldLink (am_own j) idx (ob.2.1 f).1 (ob.2.1 f).2.1 (ob.2.1 f).2.2.1 ∈ am_ws j) (hnx : pc + 3 = nx) : am_snd j pc (ai_getP k f nx) := by
  intro l d b sc D S0 p e R s m args below meth c C Q Qw hcx hC ls st S h H locs A cells slots hR hA hlo hfr hs
  obtain ⟨hx, hb, hml, hown, hts, hnm, hK, hR0, ⟨hd1, hRf, hRl, hRc, hRs⟩, hX, hend⟩ := hcx
  subst hnx
  obtain ⟨n, r, rfl, hl, h⟩ := h
  obtain ⟨a, rfl, ha, hat⟩ := hR.cellN hl
  unfold am_at at hat
  rw [hkd] at hat
  obtain ⟨cell, q1, q2, q3, q4⟩ := hat
  obtain ⟨hS, hfc, kC, hkC, hkind⟩ := hK.obj hkd
  obtain ⟨cf, kf, fi, fd, hi, hsl⟩ := hS f hf
  refine W.getf hx hb hown (hts _ hlink) hi (u_facts hfc hkC (u_lays hts hin hf) hi).1 q1 (by rw [q3]; exact fun h => by cases h) (v := am_v b sc (.inr (am_gP S (100 * k + f) (a + 1) 0))) ?_ rfl rfl hd (h H locs A cells slots hR hA hlo hfr hs)
  rw [hsl, q4 f hf]
  show some (am_cv b sc S (100 * k + f) (ob.2.2.2 f) (a + 1) 0) = _
  unfold am_cv
  rw [hty]
  rfl
theorem sn_putI {j pc nx k f idx : Nat} {ob : String × u_T × Nat × (Nat → FieldType)} (hd : decode (am_cc j) pc = .ok (.putfield idx, 3)) (hkd : am_kd k = some (.inl ob)) (hf : f < ob.2.2.1) (hty : (ob.2.2.2 f).isReference = false) (hin : ∀ w ∈ u_ws ob.1 ob.2.1 ob.2.2.1, w ∈ am_ws j) (hlink : Cond.fieldLink (am_own j) idx (ob.2.1 f).1 (ob.2.1 f).2.1 (ob.2.1 f).2.2.1 ∈ am_ws j) (hty0 : ∀ x, x < ob.2.2.1 → parseFieldDescriptor (ob.2.1 x).2.2.1 = some (ob.2.2.2 x)) (hnm0 : ∀ x, x < ob.2.2.1 → ∀ y, y < ob.2.2.1 → x ≠ y → (ob.2.1 x).2.1 ≠ (ob.2.1 y).2.1) (hti : ob.2.2.2 f = .int) (hfin : (ob.2.1 f).2.2.2 = false) (hnx : pc + 3 = nx) : am_snd j pc (ai_putI k f nx) := by
  intro l d b sc D S0 p e R s m args below meth c C Q Qw hcx hC ls st S h H locs A cells slots hR hA hlo hfr hs
  obtain ⟨hx, hb, hml, hown, hts, hnm, hK, hR0, ⟨hd1, hRf, hRl, hRc, hRs⟩, hX, hend⟩ := hcx
  subst hnx
  obtain ⟨v, n, r, rfl, hl, h⟩ := h
  have hap := am_apart hts hin hty0 hnm0 (hK.obj hkd)
  obtain ⟨a, rfl, ha, hat⟩ := hR.cellN hl
  have hka : S.1.2.2 (a + 1) = k := hl.2.2
  unfold am_at at hat
  rw [hkd] at hat
  obtain ⟨cell, q1, q2, q3, q4⟩ := hat
  obtain ⟨hS, hfc, kC, hkC, hkind⟩ := hK.obj hkd
  obtain ⟨cf, kf, fi, fd, hi, hsl⟩ := hS f hf
  have hlay := hts _ (hin _ (u_in_lay hf))
  unfold u_lay at hlay
  rw [if_neg (by rw [hfin]; decide)] at hlay
  have hst := (u_facts hfc hkC (u_lays hts hin hf) hi).1
  have h6 := u_store (v := .int v) hfc hkC hkind hlay hi (hty0 f hf) (by rw [hti]; rfl) (by rw [hti]; rfl)
  refine W.putK hx hb (f := fd) ⟨hown, hts _ hlink, ⟨_, _, _, hi⟩, hst⟩ (by rw [q2]; exact h6) q1 q3 (by rw [hsl]; exact k2_hasslot (q4 f hf)) rfl rfl hd fun H' e1 e2 e3 => ?_
  rw [hsl] at e1 ⊢
  refine h H' _ A cells slots (hR.obj (am_sI_1 _ _ _ _ _) ha hka hkd hf hap q1 e1 e2 e3 (am_cv_sI' _ _ _ _ _ _ hty) (fun f' t a' i hne => am_cv_sI _ _ _ _ _ _ _ _ _ (fun q1 q2 => absurd q2 (hne q1)))) hA (am_lo hlo) (fun q hq => (e3 q (Nat.ne_of_lt (Nat.lt_of_lt_of_le hq (Nat.le_add_right _ _)))).trans (hfr q hq)) (hs.sI _ _ _ _)
theorem sn_putIF {j pc nx k f idx : Nat} {ob : String × u_T × Nat × (Nat → FieldType)} (hd : decode (am_cc j) pc = .ok (.putfield idx, 3)) (hkd : am_kd k = some (.inl ob)) (hf : f < ob.2.2.1) (hty : (ob.2.2.2 f).isReference = false) (hin : ∀ w ∈ u_ws ob.1 ob.2.1 ob.2.2.1, w ∈ am_ws j) (hlink : Cond.fieldLink (am_own j) idx (ob.2.1 f).1 (ob.2.1 f).2.1 (ob.2.1 f).2.2.1 ∈ am_ws j) (hty0 : ∀ x, x < ob.2.2.1 → parseFieldDescriptor (ob.2.1 x).2.2.1 = some (ob.2.2.2 x)) (hnm0 : ∀ x, x < ob.2.2.1 → ∀ y, y < ob.2.2.1 → x ≠ y → (ob.2.1 x).2.1 ≠ (ob.2.1 y).2.1) (hti : ob.2.2.2 f = .int) (hfin : (ob.2.1 f).2.2.2 = true) (hinit : (am_y j).name = "<init>") (hdecl : (ob.2.1 f).1 = am_own j) (hob : ob.1 = am_own j) (hnx : pc + 3 = nx) : am_snd j pc (ai_putI k f nx) := by
  intro l d b sc D S0 p e R s m args below meth c C Q Qw hcx hC ls st S h H locs A cells slots hR hA hlo hfr hs
  obtain ⟨hx, hb, hml, hown, hts, hnm, hK, hR0, ⟨hd1, hRf, hRl, hRc, hRs⟩, hX, hend⟩ := hcx
  subst hnx
  obtain ⟨v, n, r, rfl, hl, h⟩ := h
  have hap := am_apart hts hin hty0 hnm0 (hK.obj hkd)
  obtain ⟨a, rfl, ha, hat⟩ := hR.cellN hl
  have hka : S.1.2.2 (a + 1) = k := hl.2.2
  unfold am_at at hat
  rw [hkd] at hat
  obtain ⟨cell, q1, q2, q3, q4⟩ := hat
  obtain ⟨hS, hfc, kC, hkC, hkind⟩ := hK.obj hkd
  obtain ⟨cf, kf, fi, fd, hi, hsl⟩ := hS f hf
  have hlay := hts _ (hin _ (u_in_lay hf))
  unfold u_lay at hlay
  rw [if_pos hfin] at hlay
  have hst := (u_facts hfc hkC (u_lays hts hin hf) hi).1
  have hcf : m.cls = cf := by
    rw [hob, hdecl] at hlay
    rw [hdecl] at hi
    exact laid_decl hown hlay hi
  have h6 := u_fits (v := .int v) hfc hkC hkind (Or.inr hlay) hi (hty0 f hf) (by rw [hti]; rfl) (by rw [hti]; rfl)
  refine W.putFinK hx hb hown (hts _ hlink) hi hst hcf (hnm.trans hinit) (by rw [q2]; exact h6) q1 q3 (by rw [hsl]; exact k2_hasslot (q4 f hf)) rfl rfl hd fun H' e1 e2 e3 => ?_
  rw [hsl] at e1 ⊢
  refine h H' _ A cells slots (hR.obj (am_sI_1 _ _ _ _ _) ha hka hkd hf hap q1 e1 e2 e3 (am_cv_sI' _ _ _ _ _ _ hty) (fun f' t a' i hne => am_cv_sI _ _ _ _ _ _ _ _ _ (fun q1 q2 => absurd q2 (hne q1)))) hA (am_lo hlo) (fun q hq => (e3 q (Nat.ne_of_lt (Nat.lt_of_lt_of_le hq (Nat.le_add_right _ _)))).trans (hfr q hq)) (hs.sI _ _ _ _)
theorem sn_putZ {j pc nx k f idx : Nat} {ob : String × u_T × Nat × (Nat → FieldType)} (hd : decode (am_cc j) pc = .ok (.putfield idx, 3)) (hkd : am_kd k = some (.inl ob)) (hf : f < ob.2.2.1) (hty : (ob.2.2.2 f).isReference = false) (hin : ∀ w ∈ u_ws ob.1 ob.2.1 ob.2.2.1, w ∈ am_ws j) (hlink : Cond.fieldLink (am_own j) idx (ob.2.1 f).1 (ob.2.1 f).2.1 (ob.2.1 f).2.2.1 ∈ am_ws j) (hty0 : ∀ x, x < ob.2.2.1 → parseFieldDescriptor (ob.2.1 x).2.2.1 = some (ob.2.2.2 x)) (hnm0 : ∀ x, x < ob.2.2.1 → ∀ y, y < ob.2.2.1 → x ≠ y → (ob.2.1 x).2.1 ≠ (ob.2.1 y).2.1) (hti : ob.2.2.2 f = .boolean) (hfin : (ob.2.1 f).2.2.2 = false) (hnx : pc + 3 = nx) : am_snd j pc (ai_putZ k f nx) := by
  intro l d b sc D S0 p e R s m args below meth c C Q Qw hcx hC ls st S h H locs A cells slots hR hA hlo hfr hs
  obtain ⟨hx, hb, hml, hown, hts, hnm, hK, hR0, ⟨hd1, hRf, hRl, hRc, hRs⟩, hX, hend⟩ := hcx
  subst hnx
  obtain ⟨v, n, r, rfl, hl, hv01, h⟩ := h
  have hap := am_apart hts hin hty0 hnm0 (hK.obj hkd)
  obtain ⟨a, rfl, ha, hat⟩ := hR.cellN hl
  have hka : S.1.2.2 (a + 1) = k := hl.2.2
  unfold am_at at hat
  rw [hkd] at hat
  obtain ⟨cell, q1, q2, q3, q4⟩ := hat
  obtain ⟨hS, hfc, kC, hkC, hkind⟩ := hK.obj hkd
  obtain ⟨cf, kf, fi, fd, hi, hsl⟩ := hS f hf
  have hlay := hts _ (hin _ (u_in_lay hf))
  unfold u_lay at hlay
  rw [if_neg (by rw [hfin]; decide)] at hlay
  have hst := (u_facts hfc hkC (u_lays hts hin hf) hi).1
  have h6 := u_store (v := .int v) hfc hkC hkind hlay hi (hty0 f hf) (by rw [hti]; rcases hv01 with rfl | rfl <;> rfl) (by rw [hti]; rcases hv01 with rfl | rfl <;> rfl)
  refine W.putK hx hb (f := fd) ⟨hown, hts _ hlink, ⟨_, _, _, hi⟩, hst⟩ (by rw [q2]; exact h6) q1 q3 (by rw [hsl]; exact k2_hasslot (q4 f hf)) rfl rfl hd fun H' e1 e2 e3 => ?_
  rw [hsl] at e1 ⊢
  refine h H' _ A cells slots (hR.obj (am_sI_1 _ _ _ _ _) ha hka hkd hf hap q1 e1 e2 e3 (am_cv_sI' _ _ _ _ _ _ hty) (fun f' t a' i hne => am_cv_sI _ _ _ _ _ _ _ _ _ (fun q1 q2 => absurd q2 (hne q1)))) hA (am_lo hlo) (fun q hq => (e3 q (Nat.ne_of_lt (Nat.lt_of_lt_of_le hq (Nat.le_add_right _ _)))).trans (hfr q hq)) (hs.sI _ _ _ _)
theorem sn_putZF {j pc nx k f idx : Nat} {ob : String × u_T × Nat × (Nat → FieldType)} (hd : decode (am_cc j) pc = .ok (.putfield idx, 3)) (hkd : am_kd k = some (.inl ob)) (hf : f < ob.2.2.1) (hty : (ob.2.2.2 f).isReference = false) (hin : ∀ w ∈ u_ws ob.1 ob.2.1 ob.2.2.1, w ∈ am_ws j) (hlink : Cond.fieldLink (am_own j) idx (ob.2.1 f).1 (ob.2.1 f).2.1 (ob.2.1 f).2.2.1 ∈ am_ws j) (hty0 : ∀ x, x < ob.2.2.1 → parseFieldDescriptor (ob.2.1 x).2.2.1 = some (ob.2.2.2 x)) (hnm0 : ∀ x, x < ob.2.2.1 → ∀ y, y < ob.2.2.1 → x ≠ y → (ob.2.1 x).2.1 ≠ (ob.2.1 y).2.1) (hti : ob.2.2.2 f = .boolean) (hfin : (ob.2.1 f).2.2.2 = true) (hinit : (am_y j).name = "<init>") (hdecl : (ob.2.1 f).1 = am_own j) (hob : ob.1 = am_own j) (hnx : pc + 3 = nx) : am_snd j pc (ai_putZ k f nx) := by
  intro l d b sc D S0 p e R s m args below meth c C Q Qw hcx hC ls st S h H locs A cells slots hR hA hlo hfr hs
  obtain ⟨hx, hb, hml, hown, hts, hnm, hK, hR0, ⟨hd1, hRf, hRl, hRc, hRs⟩, hX, hend⟩ := hcx
  subst hnx
  obtain ⟨v, n, r, rfl, hl, hv01, h⟩ := h
  have hap := am_apart hts hin hty0 hnm0 (hK.obj hkd)
  obtain ⟨a, rfl, ha, hat⟩ := hR.cellN hl
  have hka : S.1.2.2 (a + 1) = k := hl.2.2
  unfold am_at at hat
  rw [hkd] at hat
  obtain ⟨cell, q1, q2, q3, q4⟩ := hat
  obtain ⟨hS, hfc, kC, hkC, hkind⟩ := hK.obj hkd
  obtain ⟨cf, kf, fi, fd, hi, hsl⟩ := hS f hf
  have hlay := hts _ (hin _ (u_in_lay hf))
  unfold u_lay at hlay
  rw [if_pos hfin] at hlay
  have hst := (u_facts hfc hkC (u_lays hts hin hf) hi).1
  have hcf : m.cls = cf := by
    rw [hob, hdecl] at hlay
    rw [hdecl] at hi
    exact laid_decl hown hlay hi
  have h6 := u_fits (v := .int v) hfc hkC hkind (Or.inr hlay) hi (hty0 f hf) (by rw [hti]; rcases hv01 with rfl | rfl <;> rfl) (by rw [hti]; rcases hv01 with rfl | rfl <;> rfl)
  refine W.putFinK hx hb hown (hts _ hlink) hi hst hcf (hnm.trans hinit) (by rw [q2]; exact h6) q1 q3 (by rw [hsl]; exact k2_hasslot (q4 f hf)) rfl rfl hd fun H' e1 e2 e3 => ?_
  rw [hsl] at e1 ⊢
  refine h H' _ A cells slots (hR.obj (am_sI_1 _ _ _ _ _) ha hka hkd hf hap q1 e1 e2 e3 (am_cv_sI' _ _ _ _ _ _ hty) (fun f' t a' i hne => am_cv_sI _ _ _ _ _ _ _ _ _ (fun q1 q2 => absurd q2 (hne q1)))) hA (am_lo hlo) (fun q hq => (e3 q (Nat.ne_of_lt (Nat.lt_of_lt_of_le hq (Nat.le_add_right _ _)))).trans (hfr q hq)) (hs.sI _ _ _ _)
theorem sn_putP {j pc nx k f idx : Nat} {ob : String × u_T × Nat × (Nat → FieldType)} (hd : decode (am_cc j) pc = .ok (.putfield idx, 3)) (hkd : am_kd k = some (.inl ob)) (hf : f < ob.2.2.1) (hty : (ob.2.2.2 f).isReference = true) (hin : ∀ w ∈ u_ws ob.1 ob.2.1 ob.2.2.1, w ∈ am_ws j) (hlink : Cond.fieldLink (am_own j) idx (ob.2.1 f).1 (ob.2.1 f).2.1 (ob.2.1 f).2.2.1 ∈ am_ws j) (hty0 : ∀ x, x < ob.2.2.1 → parseFieldDescriptor (ob.2.1 x).2.2.1 = some (ob.2.2.2 x)) (hnm0 : ∀ x, x < ob.2.2.1 → ∀ y, y < ob.2.2.1 → x ≠ y → (ob.2.1 x).2.1 ≠ (ob.2.1 y).2.1)  (hfin : (ob.2.1 f).2.2.2 = false) (hnx : pc + 3 = nx) : am_snd j pc (ai_putP k f nx) := by
  intro l d b sc D S0 p e R s m args below meth c C Q Qw hcx hC ls st S h H locs A cells slots hR hA hlo hfr hs
  obtain ⟨hx, hb, hml, hown, hts, hnm, hK, hR0, ⟨hd1, hRf, hRl, hRc, hRs⟩, hX, hend⟩ := hcx
  subst hnx
  obtain ⟨v, n, r, rfl, hl, h⟩ := h
  have hap := am_apart hts hin hty0 hnm0 (hK.obj hkd)
  obtain ⟨a, rfl, ha, hat⟩ := hR.cellN hl
  have hka : S.1.2.2 (a + 1) = k := hl.2.2
  unfold am_at at hat
  rw [hkd] at hat
  obtain ⟨cell, q1, q2, q3, q4⟩ := hat
  obtain ⟨hS, hfc, kC, hkC, hkind⟩ := hK.obj hkd
  obtain ⟨cf, kf, fi, fd, hi, hsl⟩ := hS f hf
  have hlay := hts _ (hin _ (u_in_lay hf))
  unfold u_lay at hlay
  rw [if_neg (by rw [hfin]; decide)] at hlay
  have hst := (u_facts hfc hkC (u_lays hts hin hf) hi).1
  have h6 := u_store (v := am_v b sc (.inr v)) hfc hkC hkind hlay hi (hty0 f hf) (am_nar hty v) (am_fit hty v)
  refine W.putK hx hb (f := fd) ⟨hown, hts _ hlink, ⟨_, _, _, hi⟩, hst⟩ (by rw [q2]; exact h6) q1 q3 (by rw [hsl]; exact k2_hasslot (q4 f hf)) rfl rfl hd fun H' e1 e2 e3 => ?_
  rw [hsl] at e1 ⊢
  refine h H' _ A cells slots (hR.obj (am_sP_1 _ _ _ _ _) ha hka hkd hf hap q1 e1 e2 e3 (am_cv_sP' _ _ _ _ _ _ hty) (fun f' t a' i hne => am_cv_sP _ _ _ _ _ _ _ _ _ (fun q1 q2 => absurd q2 (hne q1)))) hA (am_lo hlo) (fun q hq => (e3 q (Nat.ne_of_lt (Nat.lt_of_lt_of_le hq (Nat.le_add_right _ _)))).trans (hfr q hq)) (hs.sP _ _ _ _)
theorem sn_putPF {j pc nx k f idx : Nat} {ob : String × u_T × Nat × (Nat → FieldType)} (hd : decode (am_cc j) pc = .ok (.putfield idx, 3)) (hkd : am_kd k = some (.inl ob)) (hf : f < ob.2.2.1) (hty : (ob.2.2.2 f).isReference = true) (hin : ∀ w ∈ u_ws ob.1 ob.2.1 ob.2.2.1, w ∈ am_ws j) (hlink : Cond.fieldLink (am_own j) idx (ob.2.1 f).1 (ob.2.1 f).2.1 (ob.2.1 f).2.2.1 ∈ am_ws j) (hty0 : ∀ x, x < ob.2.2.1 → parseFieldDescriptor (ob.2.1 x).2.2.1 = some (ob.2.2.2 x)) (hnm0 : ∀ x, x < ob.2.2.1 → ∀ y, y < ob.2.2.1 → x ≠ y → (ob.2.1 x).2.1 ≠ (ob.2.1 y).2.1)  (hfin : (ob.2.1 f).2.2.2 = true) (hinit : (am_y j).name = "<init>") (hdecl : (ob.2.1 f).1 = am_own j) (hob : ob.1 = am_own j) (hnx : pc + 3 = nx) : am_snd j pc (ai_putP k f nx) := by
  intro l d b sc D S0 p e R s m args below meth c C Q Qw hcx hC ls st S h H locs A cells slots hR hA hlo hfr hs
  obtain ⟨hx, hb, hml, hown, hts, hnm, hK, hR0, ⟨hd1, hRf, hRl, hRc, hRs⟩, hX, hend⟩ := hcx
  subst hnx
  obtain ⟨v, n, r, rfl, hl, h⟩ := h
  have hap := am_apart hts hin hty0 hnm0 (hK.obj hkd)
  obtain ⟨a, rfl, ha, hat⟩ := hR.cellN hl
  have hka : S.1.2.2 (a + 1) = k := hl.2.2
  unfold am_at at hat
  rw [hkd] at hat
  obtain ⟨cell, q1, q2, q3, q4⟩ := hat
  obtain ⟨hS, hfc, kC, hkC, hkind⟩ := hK.obj hkd
  obtain ⟨cf, kf, fi, fd, hi, hsl⟩ := hS f hf
  have hlay := hts _ (hin _ (u_in_lay hf))
  unfold u_lay at hlay
  rw [if_pos hfin] at hlay
  have hst := (u_facts hfc hkC (u_lays hts hin hf) hi).1
  have hcf : m.cls = cf := by
    rw [hob, hdecl] at hlay
    rw [hdecl] at hi
    exact laid_decl hown hlay hi
  have h6 := u_fits (v := am_v b sc (.inr v)) hfc hkC hkind (Or.inr hlay) hi (hty0 f hf) (am_nar hty v) (am_fit hty v)
  refine W.putFinK hx hb hown (hts _ hlink) hi hst hcf (hnm.trans hinit) (by rw [q2]; exact h6) q1 q3 (by rw [hsl]; exact k2_hasslot (q4 f hf)) rfl rfl hd fun H' e1 e2 e3 => ?_
  rw [hsl] at e1 ⊢
  refine h H' _ A cells slots (hR.obj (am_sP_1 _ _ _ _ _) ha hka hkd hf hap q1 e1 e2 e3 (am_cv_sP' _ _ _ _ _ _ hty) (fun f' t a' i hne => am_cv_sP _ _ _ _ _ _ _ _ _ (fun q1 q2 => absurd q2 (hne q1)))) hA (am_lo hlo) (fun q hq => (e3 q (Nat.ne_of_lt (Nat.lt_of_lt_of_le hq (Nat.le_add_right _ _)))).trans (hfr q hq)) (hs.sP _ _ _ _)
theorem sn_iald {j pc nx k n : Nat} {ty : FieldType} (hd : decode (am_cc j) pc = .ok (.iaload, 1)) (hkd : am_kd k = some (.inr (ty, n))) (ht : ty = .int) (hnx : pc + 1 = nx) : am_snd j pc (ai_ald k n nx) := by
  intro l d b sc D S0 p e R s m args below meth c C Q Qw hcx hC ls st S h H locs A cells slots hR hA hlo hfr hs
  obtain ⟨hx, hb, hml, hown, hts, hnm, hK, hR0, ⟨hd1, hRf, hRl, hRc, hRs⟩, hX, hend⟩ := hcx
  subst hnx
  obtain ⟨i, q, r, rfl, hl, hin, h⟩ := h
  obtain ⟨a, rfl, ha, hat⟩ := hR.cellN hl
  unfold am_at at hat
  rw [hkd] at hat
  have hlt : i.toNatClampNeg < n := Nat.not_le.mp fun q => hin (Or.inr q)
  refine W.iald (v := .int (am_gI S (100 * k) (a + 1) i.toNatClampNeg)) hx hb hat (by have g := (hK.arr hkd).1 n; rw [ht] at g; exact g _) (fun q => by cases q) (by show ¬ (i < 0 ∨ (arrV _ _ _).slots.size ≤ _); rw [arrV_size]; exact hin) ?_ rfl rfl hd (h H locs A cells slots hR hA hlo hfr hs)
  rw [arrV_read _ _ hlt]
  unfold am_cv
  rw [ht]; rfl
theorem sn_zald {j pc nx k n : Nat} {ty : FieldType} (hd : decode (am_cc j) pc = .ok (.baload, 1)) (hkd : am_kd k = some (.inr (ty, n))) (ht : ty = .boolean) (hnx : pc + 1 = nx) : am_snd j pc (ai_ald k n nx) := by
  intro l d b sc D S0 p e R s m args below meth c C Q Qw hcx hC ls st S h H locs A cells slots hR hA hlo hfr hs
  obtain ⟨hx, hb, hml, hown, hts, hnm, hK, hR0, ⟨hd1, hRf, hRl, hRc, hRs⟩, hX, hend⟩ := hcx
  subst hnx
  obtain ⟨i, q, r, rfl, hl, hin, h⟩ := h
  obtain ⟨a, rfl, ha, hat⟩ := hR.cellN hl
  unfold am_at at hat
  rw [hkd] at hat
  have hlt : i.toNatClampNeg < n := Nat.not_le.mp fun q => hin (Or.inr q)
  refine W.zald (v := .int (am_gI S (100 * k) (a + 1) i.toNatClampNeg)) hx hb hat (by have g := (hK.arr hkd).1 n; rw [ht] at g; exact g _) (fun q => by cases q) (by show ¬ (i < 0 ∨ (arrV _ _ _).slots.size ≤ _); rw [arrV_size]; exact hin) ?_ rfl rfl hd (h H locs A cells slots hR hA hlo hfr hs)
  rw [arrV_read _ _ hlt]
  unfold am_cv
  rw [ht]; rfl
theorem sn_aald {j pc nx k n : Nat} {ty : FieldType} (hd : decode (am_cc j) pc = .ok (.aaload, 1)) (hkd : am_kd k = some (.inr (ty, n))) (ht : ty.isReference = true) (hnx : pc + 1 = nx) : am_snd j pc (ai_aald k n nx) := by
  intro l d b sc D S0 p e R s m args below meth c C Q Qw hcx hC ls st S h H locs A cells slots hR hA hlo hfr hs
  obtain ⟨hx, hb, hml, hown, hts, hnm, hK, hR0, ⟨hd1, hRf, hRl, hRc, hRs⟩, hX, hend⟩ := hcx
  subst hnx
  obtain ⟨i, q, r, rfl, hl, hin, h⟩ := h
  obtain ⟨a, rfl, ha, hat⟩ := hR.cellN hl
  unfold am_at at hat
  rw [hkd] at hat
  have hlt : i.toNatClampNeg < n := Nat.not_le.mp fun q => hin (Or.inr q)
  refine W.aald (ty := ty) (v := am_v b sc (.inr (am_gP S (100 * k) (a + 1) i.toNatClampNeg))) hx hb hat ((hK.arr hkd).1 n _) ht (fun q => by cases q) (by show ¬ (i < 0 ∨ (arrV _ _ _).slots.size ≤ _); rw [arrV_size]; exact hin) ?_ rfl rfl hd (h H locs A cells slots hR hA hlo hfr hs)
  rw [arrV_read _ _ hlt]
  unfold am_cv
  rw [if_pos ht]
theorem sn_iast {j pc nx k n : Nat} {ty : FieldType} (hd : decode (am_cc j) pc = .ok (.iastore, 1)) (hkd : am_kd k = some (.inr (ty, n))) (ht : ty = .int) (hnx : pc + 1 = nx) : am_snd j pc (ai_ast k n nx) := by
  intro l d b sc D S0 p e R s m args below meth c C Q Qw hcx hC ls st S h H locs A cells slots hR hA hlo hfr hs
  obtain ⟨hx, hb, hml, hown, hts, hnm, hK, hR0, ⟨hd1, hRf, hRl, hRc, hRs⟩, hX, hend⟩ := hcx
  subst hnx
  obtain ⟨v, i, q, r, rfl, hl, hin, h⟩ := h
  obtain ⟨a, rfl, ha, hat⟩ := hR.cellN hl
  have hka : S.1.2.2 (a + 1) = k := hl.2.2
  unfold am_at at hat
  rw [hkd] at hat
  refine W.iast hx hb hat (by have g := (hK.arr hkd).1 n; rw [ht] at g; exact g _) (fun q => by cases q) (by show ¬ (i < 0 ∨ (arrV _ _ _).slots.size ≤ _); rw [arrV_size]; exact hin) rfl rfl hd fun H' e1 e2 e3 => ?_
  exact h H' _ A cells slots (hR.arr (am_sI_1 _ _ _ _ _) ha hka hkd e1 e2 e3 (am_cv_sI' _ _ _ _ _ _ (by rw [ht]; rfl)) (fun f' t a' i' hne => am_cv_sI _ _ _ _ _ _ _ _ _ hne)) hA (am_lo hlo) (fun q hq => (e3 q (Nat.ne_of_lt (Nat.lt_of_lt_of_le hq (Nat.le_add_right _ _)))).trans (hfr q hq)) (hs.sI _ _ _ _)
theorem sn_zast {j pc nx k n : Nat} {ty : FieldType} (hd : decode (am_cc j) pc = .ok (.bastore, 1)) (hkd : am_kd k = some (.inr (ty, n))) (ht : ty = .boolean) (hnx : pc + 1 = nx) : am_snd j pc (ai_zast k n nx) := by
  intro l d b sc D S0 p e R s m args below meth c C Q Qw hcx hC ls st S h H locs A cells slots hR hA hlo hfr hs
  obtain ⟨hx, hb, hml, hown, hts, hnm, hK, hR0, ⟨hd1, hRf, hRl, hRc, hRs⟩, hX, hend⟩ := hcx
  subst hnx
  obtain ⟨v, i, q, r, rfl, hl, hin, hv01, h⟩ := h
  obtain ⟨a, rfl, ha, hat⟩ := hR.cellN hl
  have hka : S.1.2.2 (a + 1) = k := hl.2.2
  unfold am_at at hat
  rw [hkd] at hat
  refine W.zast hx hb hat (by have g := (hK.arr hkd).1 n; rw [ht] at g; exact g _) (fun q => by cases q) (by show ¬ (i < 0 ∨ (arrV _ _ _).slots.size ≤ _); rw [arrV_size]; exact hin) rfl rfl hd fun H' e1 e2 e3 => ?_
  have hnz : narrow .boolean (.int v) = .int v := by rcases hv01 with rfl | rfl <;> rfl
  rw [hnz] at e1
  exact h H' _ A cells slots (hR.arr (am_sI_1 _ _ _ _ _) ha hka hkd e1 e2 e3 (am_cv_sI' _ _ _ _ _ _ (by rw [ht]; rfl)) (fun f' t a' i' hne => am_cv_sI _ _ _ _ _ _ _ _ _ hne)) hA (am_lo hlo) (fun q hq => (e3 q (Nat.ne_of_lt (Nat.lt_of_lt_of_le hq (Nat.le_add_right _ _)))).trans (hfr q hq)) (hs.sI _ _ _ _)
theorem sn_aast {j pc nx k n k2 : Nat} {ty : FieldType} {ob : String × u_T × Nat × (Nat → FieldType)} (hd : decode (am_cc j) pc = .ok (.aastore, 1)) (hkd : am_kd k = some (.inr (ty, n))) (hkd2 : am_kd k2 = some (.inl ob)) (ht : ty = .object ob.1) (hnx : pc + 1 = nx) : am_snd j pc (ai_aast k n k2 nx) := by
  intro l d b sc D S0 p e R s m args below meth c C Q Qw hcx hC ls st S h H locs A cells slots hR hA hlo hfr hs
  obtain ⟨hx, hb, hml, hown, hts, hnm, hK, hR0, ⟨hd1, hRf, hRl, hRc, hRs⟩, hX, hend⟩ := hcx
  subst hnx
  obtain ⟨v, i, q, r, rfl, hl, hin, hv, h⟩ := h
  obtain ⟨a, rfl, ha, hat⟩ := hR.cellN hl
  have hka : S.1.2.2 (a + 1) = k := hl.2.2
  unfold am_at at hat
  rw [hkd] at hat
  have hlt : i.toNatClampNeg < n := Nat.not_le.mp fun q => hin (Or.inr q)
  rcases v with _ | q
  · refine va_WaastN (C := ob.1) hx hb hat (by have g := (hK.arr hkd).1 n; rw [ht] at g; exact g _) (fun q => by cases q) (by show ¬ (i < 0 ∨ (arrV _ _ _).slots.size ≤ _); rw [arrV_size]; exact hin) rfl rfl hd fun H' e1 e2 e3 => ?_
    exact h H' _ A cells slots (hR.arr (am_sP_1 _ _ _ _ _) ha hka hkd e1 e2 e3 (am_cv_sP' _ _ _ _ _ _ (by rw [ht]; rfl)) (fun f' t a' i' hne => am_cv_sP _ _ _ _ _ _ _ _ _ hne)) hA (am_lo hlo) (fun q hq => (e3 q (Nat.ne_of_lt (Nat.lt_of_lt_of_le hq (Nat.le_add_right _ _)))).trans (hfr q hq)) (hs.sP _ _ _ _)
  · obtain ⟨a2, rfl, ha2, hat2⟩ := hR.cellN (hv q rfl)
    unfold am_at at hat2
    rw [hkd2] at hat2
    obtain ⟨cell2, g1, g2, g3, -⟩ := hat2
    have hcls := (hK.obj hkd2).2
    have hra := (hK.arr hkd).2
    rw [ht] at hra
    obtain ⟨kA, comp, k1, k2', k3, -⟩ := hra
    have hcomp : comp = D.1 k2 := Option.some.inj (k3.symm.trans hcls.1)
    subst hcomp
    obtain ⟨kC, hkC, -⟩ := hcls.2
    refine W.aast hx hb hat (fun q h => by cases h) (fun h => by cases h) k1 k2' rfl hkC ⟨fun q => hin (Or.inl q), by show _ < (arrV _ _ _).slots.size; rw [arrV_size]; exact hlt⟩ g1 (fun q h => by rw [g3] at h; cases h) (by rw [g2]; exact hkC) (by rw [g2]; exact va_assign (hK.obj hkd2).2) rfl rfl hd fun H' e1 e2 e3 => ?_
    exact h H' _ A cells slots (hR.arr (am_sP_1 _ _ _ _ _) ha hka hkd e1 e2 e3 (am_cv_sP' _ _ _ _ _ _ (by rw [ht]; rfl)) (fun f' t a' i' hne => am_cv_sP _ _ _ _ _ _ _ _ _ hne)) hA (am_lo hlo) (fun q hq => (e3 q (Nat.ne_of_lt (Nat.lt_of_lt_of_le hq (Nat.le_add_right _ _)))).trans (hfr q hq)) (hs.sP _ _ _ _)
theorem sn_sld {j pc nx : Nat} (hd : decode (am_cc j) pc = .ok (.iaload, 1)) (hj : j = am_jL) (hnx : pc + 1 = nx) : am_snd j pc (ai_sld nx) := by
  intro l d b sc D S0 p e R s m args below meth c C Q Qw hcx hC ls st S h H locs A cells slots hR hA hlo hfr hs
  obtain ⟨hx, hb, hml, hown, hts, hnm, hK, hR0, ⟨hd1, hRf, hRl, hRc, hRs⟩, hX, hend⟩ := hcx
  subst hnx
  obtain ⟨i, r, rfl, hin, h⟩ := h
  obtain ⟨⟨scr, h1, h2, h3, h4, h5⟩, hsc⟩ := hX hj
  rw [hs.1] at hin h
  have hlt : i.toNatClampNeg < S0.2.1.1 := Nat.not_le.mp fun q => hin (Or.inr q)
  exact W.iald (v := .int (S0.2.1.2 i.toNatClampNeg)) hx hb (by rw [hfr sc hsc]; exact h1) h2 h3 (by rw [h4]; exact hin) (h5 _ hlt) rfl rfl hd (h H locs A cells slots hR hA hlo hfr hs)
theorem sn_slen {j pc nx : Nat} (hd : decode (am_cc j) pc = .ok (.arraylength, 1)) (hj : j = am_jL) (hnx : pc + 1 = nx) : am_snd j pc (ai_slen nx) := by
  intro l d b sc D S0 p e R s m args below meth c C Q Qw hcx hC ls st S h H locs A cells slots hR hA hlo hfr hs
  obtain ⟨hx, hb, hml, hown, hts, hnm, hK, hR0, ⟨hd1, hRf, hRl, hRc, hRs⟩, hX, hend⟩ := hcx
  subst hnx
  obtain ⟨r, rfl, h⟩ := h
  obtain ⟨⟨scr, h1, h2, h3, h4, h5⟩, hsc⟩ := hX hj
  rw [hs.1] at h
  exact W.alen (n := Int32.ofNat S0.2.1.1) hx hb (by rw [hfr sc hsc]; exact h1) h2 (by rw [h4]) rfl rfl hd (h H locs A cells slots hR hA hlo hfr hs)
theorem sn_new {j pc nx k n idx : Nat} {ob : String × u_T × Nat × (Nat → FieldType)} (hd : decode (am_cc j) pc = .ok (.new idx, 3)) (hkd : am_kd k = some (.inl ob)) (hN : ob.2.2.1 = n) (hk100 : ∀ f, f < n → (100 * k + f < 5000 ↔ k < 50)) (hdv : ∀ f, f < n → defaultValue (ob.2.2.2 f) = if (ob.2.2.2 f).isReference = true then .null else .int 0) (hty0 : ∀ x, x < ob.2.2.1 → parseFieldDescriptor (ob.2.1 x).2.2.1 = some (ob.2.2.2 x)) (hin : ∀ w ∈ u_ws ob.1 ob.2.1 ob.2.2.1, w ∈ am_ws j) (hcl : Cond.classLink (am_own j) idx ob.1 ∈ am_ws j) (hins : Cond.instantiable ob.1 n ∈ am_ws j) (hini : Cond.initialized ob.1 ∈ am_ws j) (hnx : pc + 3 = nx) : am_snd j pc (ai_new k n nx) := by
  intro l d b sc D S0 p e R s m args below meth c C Q Qw hcx hC ls st S h H locs A cells slots hR hA hlo hfr hs
  obtain ⟨hx, hb, hml, hown, hts, hnm, hK, hR0, ⟨hd1, hRf, hRl, hRc, hRs⟩, hX, hend⟩ := hcx
  subst hnx
  obtain ⟨hc1, hc2, h⟩ := h
  refine am_tight hR0 hR ?_
  refine W.newc hx hb hown (hts _ hcl) (hts _ hins) (hts _ hini) rfl hd ?_ ?_ fun cC kC f1 f2 f3 f4 => ?_
  · have := hs.2.1; omega
  · have := hs.2.2; omega
  have hKo := hK.obj hkd
  cases hKo.2.1.symm.trans f1
  have hR' : am_R b sc D (am_nw S k n) (H.push (blank (D.1 k) kC)) := by
    refine hR.new (cell := blank (D.1 k) kC) (by show (kC.instanceTypes.map defaultValue).size = n; rw [Array.size_map]; exact f4) hc1 hc2 rfl ?_
    unfold am_at
    rw [hkd]
    have hb0 : (H.push (blank (D.1 k) kC))[b + S.1.1]? = some (blank (D.1 k) kC) := by rw [← hR.1]; exact Array.getElem?_push_size
    refine t_OB.to (u_born ob.2.2.2 hts hin hKo f2 hb0 hty0) (fun f hf => ?_)
    rw [am_cv_nw' _ _ _ _ _ _ (hk100 f (hN ▸ hf)), hdv f (hN ▸ hf)]
  have hz : H.size = b + S.1.1 := hR.1
  have g := h (H.push (blank (D.1 k) kC)) locs A (S.1.1 - S0.1.1 + 1) (S.1.2.1 - S0.1.2.1 + n) hR' hA hlo (fun q hq => by rw [Array.getElem?_push, if_neg (by omega)]; exact hfr q hq) (hs.nw _ _)
  rw [hz]
  exact g
theorem sn_newa {j pc nx k n : Nat} {ty : FieldType} {at9 : ArrayType} (hd : decode (am_cc j) pc = .ok (.newarray at9, 2)) (hkd : am_kd k = some (.inr (ty, n))) (ht : newarray.typeOf at9 = ty) (hp : ty = .int ∨ ty = .boolean) (hn : n < 1000) (hk100 : 100 * k < 5000 ↔ k < 50) (harr : Cond.arrayClass ty ∈ am_ws j) (hnx : pc + 2 = nx) : am_snd j pc (ai_newa k n nx) := by
  intro l d b sc D S0 p e R s m args below meth c C Q Qw hcx hC ls st S h H locs A cells slots hR hA hlo hfr hs
  obtain ⟨hx, hb, hml, hown, hts, hnm, hK, hR0, ⟨hd1, hRf, hRl, hRc, hRs⟩, hX, hend⟩ := hcx
  subst hnx
  obtain ⟨i, r, rfl, rfl, hc1, hc2, h⟩ := h
  have hcl : (nI n).toNatClampNeg = n := nI_clamp (by omega)
  refine am_tight hR0 hR ?_
  refine W.newa hx hb (hts _ (by rw [ht]; exact harr)) rfl hd rfl (nI_pos (by omega)) ?_ ?_ ?_ fun cA kA comp f1 f2 f3 => ?_
  · rw [hcl, ht]; rcases hp with rfl | rfl <;> (show n * _ ≤ 536870912; simp [componentBytes]; omega)
  · have := hs.2.1; omega
  · rw [hcl]; have := hs.2.2; omega
  rw [ht] at f1 ⊢
  rw [hcl]
  have hra := (hK.arr hkd).2
  have hcA : cA = D.1 k := by
    rcases hp with rfl | rfl <;> exact Option.some.inj (f1.symm.trans hra)
  subst hcA
  have hz : H.size = b + S.1.1 := hR.1
  rw [arrV_new]
  have hR' : am_R b sc D (am_nw S k n) (H.push (arrV (D.1 k) n (fun _ => defaultValue ty))) := by
    refine hR.new (by rw [arrV_size]) hc1 hc2 rfl ?_
    unfold am_at
    rw [hkd]
    show (H.push _)[b + S.1.1]? = _
    rw [← hz, Array.getElem?_push_size]
    congr 2
    funext i
    rw [am_cv_nw' _ _ _ _ _ _ hk100]
    rcases hp with rfl | rfl <;> rfl
  have g := h (H.push (arrV (D.1 k) n (fun _ => defaultValue ty))) locs A (S.1.1 - S0.1.1 + 1) (S.1.2.1 - S0.1.2.1 + n) hR' hA hlo (fun q hq => by rw [Array.getElem?_push, if_neg (by omega)]; exact hfr q hq) (hs.nw _ _)
  rw [hz]
  exact g
theorem sn_anewa {j pc nx k n idx : Nat} {ty : FieldType} {E : String} (hd : decode (am_cc j) pc = .ok (.anewarray idx, 3)) (hkd : am_kd k = some (.inr (ty, n))) (ht : ty = .object E) (hE : E ∈ am_aos) (hn : n < 1000) (hk100 : 100 * k < 5000 ↔ k < 50) (hcl : Cond.classLink (am_own j) idx E ∈ am_ws j) (hnx : pc + 3 = nx) : am_snd j pc (ai_newa k n nx) := by
  intro l d b sc D S0 p e R s m args below meth c C Q Qw hcx hC ls st S h H locs A cells slots hR hA hlo hfr hs
  obtain ⟨hx, hb, hml, hown, hts, hnm, hK, hR0, ⟨hd1, hRf, hRl, hRc, hRs⟩, hX, hend⟩ := hcx
  subst hnx
  obtain ⟨i, r, rfl, rfl, hc1, hc2, h⟩ := h
  have hcn : (nI n).toNatClampNeg = n := nI_clamp (by omega)
  refine am_tight hR0 hR ?_
  refine W.anew hx hb hown (hts _ hcl) (va_AO.use (hK.2.1 E hE)) rfl hd rfl (nI_pos (by omega)) ?_ ?_ ?_ fun cA kA comp f1 f2 f3 f4 => ?_
  · rw [hcn]; omega
  · have := hs.2.1; omega
  · rw [hcn]; have := hs.2.2; omega
  rw [hcn]
  have hra := (hK.arr hkd).2
  rw [ht] at hra
  obtain ⟨kA2, comp2, r1, r2, r3, r4⟩ := hra
  have hcA : cA = D.1 k := Option.some.inj (f1.symm.trans r4)
  subst hcA
  have hz : H.size = b + S.1.1 := hR.1
  rw [arrV_new]
  have hR' : am_R b sc D (am_nw S k n) (H.push (arrV (D.1 k) n (fun _ => .null))) := by
    refine hR.new (by rw [arrV_size]) hc1 hc2 rfl ?_
    unfold am_at
    rw [hkd]
    show (H.push _)[b + S.1.1]? = _
    rw [← hz, Array.getElem?_push_size]
    congr 2
    funext i
    rw [am_cv_nw' _ _ _ _ _ _ hk100, ht]
    rfl
  have g := h (H.push (arrV (D.1 k) n (fun _ => .null))) locs A (S.1.1 - S0.1.1 + 1) (S.1.2.1 - S0.1.2.1 + n) hR' hA hlo (fun q hq => by rw [Array.getElem?_push, if_neg (by omega)]; exact hfr q hq) (hs.nw _ _)
  rw [hz]
  exact g
theorem sn_oinit {j pc nx idx : Nat} (hd : decode (am_cc j) pc = .ok (.invokespecial idx, 3)) (hl1 : Cond.methodLink (am_own j) idx Lib.objectInit ∈ am_ws j) (hl2 : Cond.instanceMethod Lib.objectInit ∈ am_ws j) (hl3 : Cond.code Lib.objectInit ⟨#[0xb1]⟩ 1 none ∈ am_ws j) (hnx : pc + 3 = nx) : am_snd j pc (ai_oinit nx) := by
  intro l d b sc D S0 p e R s m args below meth c C Q Qw hcx hC ls st S h H locs A cells slots hR hA hlo hfr hs
  obtain ⟨hx, hb, hml, hown, hts, hnm, hK, hR0, ⟨hd1, hRf, hRl, hRc, hRs⟩, hX, hend⟩ := hcx
  subst hnx
  obtain ⟨n, r, rfl, hr8, h⟩ := h
  have hsum := am_cats (b := b) (sc := sc) r
  rcases n with _ | a
  · exact W.objInit hx hb hown (hts _ hl1) (hts _ hl2) (hts _ hl3) rfl (hA.1.trans hml.symm) rfl hd (by omega) (by show 2 * 0 + _ + 12 ≤ _; omega) (h H locs A cells slots hR hA hlo hfr hs)
  · exact W.objInit hx hb hown (hts _ hl1) (hts _ hl2) (hts _ hl3) rfl (hA.1.trans hml.symm) rfl hd (by omega) (by show 2 * 0 + _ + 12 ≤ _; omega) (h H locs A cells slots hR hA hlo hfr hs)
theorem sn_max {j pc nx idx : Nat} (hd : decode (am_cc j) pc = .ok (.invokestatic idx, 3)) (hl1 : Cond.methodLink (am_own j) idx Lib.Math.max.name ∈ am_ws j) (hl2 : Cond.static Lib.Math.max.name ∈ am_ws j) (hl3 : Cond.initialized "java/lang/Math" ∈ am_ws j) (hl4 : Cond.code Lib.Math.max.name Lib.Math.max.code 2 (some .int) ∈ am_ws j) (hnx : pc + 3 = nx) : am_snd j pc (ai_max nx) := by
  intro l d b sc D S0 p e R s m args below meth c C Q Qw hcx hC ls st S h H locs A cells slots hR hA hlo hfr hs
  obtain ⟨hx, hb, hml, hown, hts, hnm, hK, hR0, ⟨hd1, hRf, hRl, hRc, hRs⟩, hX, hend⟩ := hcx
  subst hnx
  obtain ⟨x, y, r, rfl, hr8, h⟩ := h
  have hsum := am_cats (b := b) (sc := sc) r
  refine am_tight hR0 hR ?_
  exact va_mmax hx hb (hml.trans hA.1.symm) hown (hts _ hl1) (hts _ hl2) (hts _ hl3) (hts _ hl4) (by omega) (by omega) (by have := hR.2.2.2.1; omega) (by have := hR.2.2.2.2; omega) hd (h H locs A _ _ hR hA hlo hfr hs)
theorem am_mul_R {T : State} {S : am_S} {k k2 : Nat} (hkd : am_kd k = some (.inr (.array .int, 5))) (hkd2 : am_kd k2 = some (.inr (.int, 5))) (hk : 100 * k < 5000 ↔ k < 50) (hk2 : 100 * k2 < 5000 ↔ k2 < 50) (hR : am_R b sc D S T.heap) (hc1 : S.1.1 + 6 ≤ am_limC) (hc2 : S.1.2.1 + 30 ≤ am_limS) :
    ∀ i, i ≤ 5 → am_R b sc D (am_mul S k k2 i) (Jvm.Free.Multi.fill T (D.1 k) (D.1 k2) 5 5 (.int 0) i).heap ∧ (am_mul S k k2 i).1.1 = S.1.1 + 1 + i ∧ (am_mul S k k2 i).1.2.1 = S.1.2.1 + 5 + 5 * i ∧ (am_mul S k k2 i).1.2.2 (S.1.1 + 1) = k := by
  have hz : T.heap.size = b + S.1.1 := hR.1
  intro i
  induction i with
  | zero =>
    intro _
    have e0 : Jvm.Free.Multi.outerC (D.1 k) 5 T.heap.size 0 = arrV (D.1 k) 5 (fun _ => .null) := arrV_new _ _ _
    refine ⟨hR.new (k := k) (n := 5) (cell := Jvm.Free.Multi.outerC (D.1 k) 5 T.heap.size 0) (by rw [e0, arrV_size]) (by omega) (by omega) rfl ?_, rfl, rfl, ?_⟩
    · unfold am_at
      rw [hkd]
      show (T.heap.push (Jvm.Free.Multi.outerC (D.1 k) 5 T.heap.size 0))[b + S.1.1]? = _
      rw [← hz, Array.getElem?_push_size, e0]
      congr 2
      funext i
      rw [am_cv_nw' _ _ _ _ _ _ hk]
      rfl
    · show (if S.1.1 + 1 = S.1.1 + 1 then k else _) = k
      rw [if_pos rfl]
  | succ i ih =>
    intro hi
    obtain ⟨h1, h2, h3, h4⟩ := ih (by omega)
    obtain ⟨g1, g2, -, -⟩ := Jvm.Free.Multi.fill_facts T (D.1 k) (D.1 k2) 5 5 (.int 0) i
    have hz1 : (Jvm.Free.Multi.fill T (D.1 k) (D.1 k2) 5 5 (.int 0) i).heap.size = b + (am_mul S k k2 i).1.1 := h1.1
    have ei : Jvm.Free.Multi.innerC (D.1 k2) 5 (.int 0) = arrV (D.1 k2) 5 (fun _ => .int 0) := arrV_new _ _ _
    have h5 : am_R b sc D (am_nw (am_mul S k k2 i) k2 5) ((Jvm.Free.Multi.fill T (D.1 k) (D.1 k2) 5 5 (.int 0) i).heap.push (Jvm.Free.Multi.innerC (D.1 k2) 5 (.int 0))) := by
      refine h1.new (by rw [ei, arrV_size]) (by omega) (by omega) rfl ?_
      unfold am_at
      rw [hkd2]
      show ((Jvm.Free.Multi.fill T (D.1 k) (D.1 k2) 5 5 (.int 0) i).heap.push _)[b + (am_mul S k k2 i).1.1]? = _
      rw [← hz1, Array.getElem?_push_size, ei]
      congr 2
      funext i
      rw [am_cv_nw' _ _ _ _ _ _ hk2]
      rfl
    have hN : (am_nw (am_mul S k k2 i) k2 5).1.1 = S.1.1 + 1 + i + 1 := by show (am_mul S k k2 i).1.1 + 1 = _; rw [h2]
    have hkk : (am_nw (am_mul S k k2 i) k2 5).1.2.2 (S.1.1 + 1) = k := by
      show (if S.1.1 + 1 = (am_mul S k k2 i).1.1 + 1 then k2 else (am_mul S k k2 i).1.2.2 (S.1.1 + 1)) = k
      rw [if_neg (by omega), h4]
    have hat := h5.2.2.1 S.1.1 (by omega)
    rw [hkk] at hat
    unfold am_at at hat
    rw [hkd] at hat
    have hat' : ((Jvm.Free.Multi.fill T (D.1 k) (D.1 k2) 5 5 (.int 0) i).heap.push (Jvm.Free.Multi.innerC (D.1 k2) 5 (.int 0)))[b + S.1.1]? = some (Jvm.Free.Multi.outerC (D.1 k) 5 T.heap.size i) := by
      rw [Array.getElem?_push, if_neg (by omega), ← hz]
      exact g2
    have eo := Option.some.inj (hat'.symm.trans hat)
    refine ⟨h5.arr (a := S.1.1) (k := k) (i := i) (r := (.array .int, 5)) (w := .ref (T.heap.size + 1 + i)) (am_sP_1 _ _ _ _ _) (by omega) hkk hkd ?_ ?_ (fun q hq => ?_) ?_ (fun f' t a' i' hne => am_cv_sP _ _ _ _ _ _ _ _ _ (fun x y => hne x y)), ?_, ?_, ?_⟩
    · rw [← eo, ← hz]
      exact (Jvm.Free.Multi.fill_facts T (D.1 k) (D.1 k2) 5 5 (.int 0) (i + 1)).2.1
    · rw [(Jvm.Free.Multi.fill_facts T (D.1 k) (D.1 k2) 5 5 (.int 0) (i + 1)).1, Array.size_push, g1]
      omega
    · exact State.heap_setCell_other (s := (Jvm.Free.Multi.fill T (D.1 k) (D.1 k2) 5 5 (.int 0) i).pushCell (Jvm.Free.Multi.innerC (D.1 k2) 5 (.int 0))) (fun z => hq (z.symm.trans hz))
    · show am_cv b sc (am_sP (am_nw (am_mul S k k2 i) k2 5) (100 * k) (S.1.1 + 1) i (some (S.1.1 + 2 + i))) (100 * k) (.array .int) (S.1.1 + 1) i = _
      rw [am_cv_sP' _ _ _ _ _ _ rfl, show S.1.1 + 2 + i = (S.1.1 + 1 + i) + 1 by omega]
      show Value.ref (b + (S.1.1 + 1 + i)) = .ref (T.heap.size + 1 + i)
      rw [hz]
      exact congrArg Value.ref (show (b + (S.1.1 + 1 + i) : Nat) = b + S.1.1 + 1 + i by omega)
    · show (am_sP _ _ _ _ _).1.1 = _
      rw [am_sP_1, hN]
      omega
    · show (am_sP _ _ _ _ _).1.2.1 = _
      rw [am_sP_1]
      show (am_mul S k k2 i).1.2.1 + 5 = _
      omega
    · show (am_sP _ _ _ _ _).1.2.2 _ = _
      rw [am_sP_1]
      exact hkk
theorem am_mul_le0 {S0 S : am_S} (h : am_le0 S0 S) (k k2 : Nat) : ∀ i, am_le0 S0 (am_mul S k k2 i)
  | 0 => h.nw _ _
  | i + 1 => ((am_mul_le0 h k k2 i).nw _ _).sP _ _ _ _
theorem sn_multi {j pc nx k k2 idx : Nat} (hd : decode (am_cc j) pc = .ok (.multianewarray idx 2, 4)) (hkd : am_kd k = some (.inr (.array .int, 5))) (hkd2 : am_kd k2 = some (.inr (.int, 5))) (hk : 100 * k < 5000 ↔ k < 50) (hk2 : 100 * k2 < 5000 ↔ k2 < 50) (hcl : Cond.classLink (am_own j) idx "[[I" ∈ am_ws j) (hac : Cond.arrayClass .int ∈ am_ws j) (hnx : pc + 4 = nx) : am_snd j pc (ai_multi k k2 nx) := by
  intro l d b sc D S0 p e R s m args below meth c C Q Qw hcx hC ls st S h H locs A cells slots hR hA hlo hfr hs
  obtain ⟨hx, hb, hml, hown, hts, hnm, hK, hR0, ⟨hd1, hRf, hRl, hRc, hRs⟩, hX, hend⟩ := hcx
  subst hnx
  obtain ⟨r, rfl, hc1, hc2, h⟩ := h
  refine am_tight hR0 hR ?_
  intro T hT X
  subst hT
  have hcn : (nI 5).toNatClampNeg = 5 := nI_clamp (by omega)
  have hcl' := hts _ hcl
  rw [show "[[I" = "[" ++ (FieldType.array .int).toString from by decide +kernel] at hcl'
  obtain ⟨vm₁, cA, comp, hW, hfA, hfC, -, -, X1, stp⟩ := X.multianewarray2F hx (own := am_own j) (index := idx) (ty := .int) hown hcl' (am_AOI.use hK.2.2) (hts _ hac) (g := F0 m pc A ((.inl (nI 5) :: .inl (nI 5) :: r).map (am_v b sc))) rfl (by rw [hb]; exact hd) (n := nI 5) (k := nI 5) (rest := r.map (am_v b sc)) rfl (nI_pos (by omega)) (nI_pos (by omega)) (by rw [hcn]; omega) (by rw [hcn]; decide) (by rw [hcn]; omega) rfl rfl (by rw [hcn]; have := hs.2.1; omega) (by rw [hcn]; have := hs.2.2; omega)
  rw [hcn] at X1 stp
  have hz : T.heap.size = b + S.1.1 := hR.1
  have eA : cA = D.1 k := Option.some.inj (hfA.symm.trans (hK.arr hkd).2)
  have eC : comp = D.1 k2 := Option.some.inj (hfC.symm.trans (hK.arr hkd2).2)
  subst eA
  subst eC
  have hR' := (am_mul_R (T := T.setVm vm₁) hkd hkd2 hk hk2 hR hc1 hc2 5 (Nat.le_refl 5)).1
  obtain ⟨t, a1, b1⟩ := h _ locs A _ _ hR' hA hlo (fun q hq => by rw [Jvm.Free.Multi.fill_old (T.setVm vm₁) (D.1 k) (D.1 k2) 5 5 (.int 0) (a := q) (by show q < T.heap.size; omega) 5]; exact hfr q hq) (am_mul_le0 hs k k2 5) _ rfl X1
  refine ⟨t, stp t ?_, b1⟩
  rw [hz]
  exact a1
theorem am_after {H : Heap} {locs : List Loc} {A : Array Slot} {cells slots mc ms pc : Nat} {ls : am_L} {st0 : List Value} {r : List am_V} {S : am_S} {Q' : am_Q} {arr : Array Value} (hr : va_Run p l e R s m args below meth c H locs cells slots mc ms (F0 m pc A st0) (r.map (am_v b sc)) (am_Qc b sc D S Q' arr) (fun q => b ≤ q))
    (hQ : ∀ S' v, Q' S' v → am_go l j b sc D S0 p e R s m args below meth c Qw (pc + 3) ls (v.toList ++ r) S') (hA : am_ls b sc (am_nL j) ls A) (hlo : ∀ q ∈ locs, b ≤ q.base) (hfr : ∀ q : Nat, q < b → H[q]? = s.heap[q]?) (hs : am_le0 S0 S) :
    W p l e R s m args below meth c H locs cells slots Qw (F0 m pc A st0) := by
  intro T hT X
  obtain ⟨v, st₀, t, T', L, h0, X', hL, e1, e2, ⟨S', v', hv, hq, hR', hs', hf'⟩, st⟩ := hr T hT X
  cases hv
  obtain ⟨t2, a1, b1⟩ := hQ S' v' hq T'.heap (locs ++ L) A _ _ (by rw [e1]; exact hR') hA (fun q hq => by
    rcases List.mem_append.mp hq with h | h
    · exact hlo q h
    · exact hL q h) (fun q hq => by rw [e1, hf' q hq, h0]; exact hfr q hq) (hs.trans hs') T' rfl X'
  refine ⟨t2, st t2 ?_, b1⟩
  have ev : (v'.map (am_v b sc)).toList ++ r.map (am_v b sc) = (v'.toList ++ r).map (am_v b sc) := by cases v' <;> simp
  rw [ev]
  exact a1
theorem am_blind {as : List am_V} {S : am_S} : FrameBlind (am_Pc b sc D as S) := fun a U g mk h => ⟨h.1, h.2.1, am_Kn.moved (u := U) (U := U.calling g mk a) (Vm.Alike.refl U.vm) h.2.2⟩
theorem sn_callV {j pc nx k n idx j2 : Nat} {wt : List Cond} {ob : String × u_T × Nat × (Nat → FieldType)} (hd : decode (am_cc j) pc = .ok (.invokevirtual idx, 3)) (hj2 : am_ws j2 = Cond.code (am_y j2) (am_cc j2) (am_nL j2) (am_ret j2) :: wt) (hG : GoodIn (am_ws j) (am_ws j2)) (hml2 : am_nL j2 ≤ 21) (hini : Cond.initialized (am_y j2).cls ∈ am_ws j) (hlink : Cond.methodLink (am_own j) idx (am_y j2) ∈ am_ws j) (hdsc : (am_y j2).cls ≠ "java/lang/invoke/MethodHandle" ∧ (am_y j2).cls ≠ "java/lang/invoke/VarHandle" ∧ (parseMethodDescriptor (am_y j2).desc).map (fun d => d.parameters.length) = some n) (hkd : am_kd k = some (.inl ob)) (hcls : (am_y j2).cls = ob.1) (hinst : Cond.instanceMethod (am_y j2) ∈ am_ws j) (hsel : Cond.selects ob.1 (am_y j2) (am_y j2) ∈ am_ws j) (hnx : pc + 3 = nx) : am_snd j pc (ai_callV j2 k n nx) := by
  intro l d b sc D S0 p e R s m args below meth c C Q Qw hcx hC ls st S h H locs A cells slots hR hA hlo hfr hs
  obtain ⟨hx, hb, hml, hown, hts, hnm, hK, hR0, ⟨hd1, hRf, hRl, hRc, hRs⟩, hX, hend⟩ := hcx
  subst hnx
  obtain ⟨q, as, r, rfl, hn, hr8, hl, hcall⟩ := h
  obtain ⟨d', rfl, hmet⟩ := hC _ _ _ _ hcall
  have hM := hmet b sc D
  refine am_tight hR0 hR ?_
  have hcb : CallB R s args (am_own j) idx (am_y j2) (am_cc j2) (am_nL j2) (am_ret j2) (am_ws j2) (am_rm d' S) (am_limC - S.1.1) (am_limS - S.1.2.1) n := callB_of n hts hG hj2 rfl rfl (hts _ hini) (hts _ hlink) hdsc ⟨by show d' + 1 ≤ _; omega, by show 8 + (am_nL j2 + 11) + 40 * d' ≤ _; omega⟩
  have hsum := am_cats (b := b) (sc := sc) r
  obtain ⟨a, rfl, ha, hat⟩ := hR.cellN hl
  unfold am_at at hat
  rw [hkd] at hat
  obtain ⟨cell, q1, q2, q3, -⟩ := hat
  refine am_after (S := S) (va_runV (As := as.map (am_v b sc)) (b := b + a) (C := ob.1) ⟨hx, hb, hml, hown, hts⟩ hM ⟨hcb, hts _ hinst, hts _ hsel⟩ ⟨am_blind, ⟨cell, q1, by rw [q3]; rfl, by rw [q2]; exact (hK.obj hkd).2.1⟩, fun U hU hW => ⟨rfl, by rw [hU]; exact hR, hK.moved hW.alike⟩⟩ rfl (by rw [List.length_map]; exact hn) hA.1 (by simp [List.map_reverse, am_v]) (by show 2 * 0 + _ ≤ 8; omega) hd ⟨by have := hs.2.1; have := hR.2.2.2.1; omega, by have := hs.2.2; have := hR.2.2.2.2; omega⟩) (fun S' v hq => hq) hA hlo hfr hs
theorem sn_callI {j pc nx k n idx j2 : Nat} {wt : List Cond} (hd : decode (am_cc j) pc = .ok (.invokespecial idx, 3)) (hj2 : am_ws j2 = Cond.code (am_y j2) (am_cc j2) (am_nL j2) (am_ret j2) :: wt) (hG : GoodIn (am_ws j) (am_ws j2)) (hml2 : am_nL j2 ≤ 21) (hini : Cond.initialized (am_y j2).cls ∈ am_ws j) (hlink : Cond.methodLink (am_own j) idx (am_y j2) ∈ am_ws j) (hdsc : (am_y j2).cls ≠ "java/lang/invoke/MethodHandle" ∧ (am_y j2).cls ≠ "java/lang/invoke/VarHandle" ∧ (parseMethodDescriptor (am_y j2).desc).map (fun d => d.parameters.length) = some n) (hname : (am_y j2).name = "<init>") (hret2 : am_ret j2 = none) (hinst : Cond.instanceMethod (am_y j2) ∈ am_ws j) (hnx : pc + 3 = nx) : am_snd j pc (ai_callV j2 k n nx) := by
  intro l d b sc D S0 p e R s m args below meth c C Q Qw hcx hC ls st S h H locs A cells slots hR hA hlo hfr hs
  obtain ⟨hx, hb, hml, hown, hts, hnm, hK, hR0, ⟨hd1, hRf, hRl, hRc, hRs⟩, hX, hend⟩ := hcx
  subst hnx
  obtain ⟨q, as, r, rfl, hn, hr8, hl, hcall⟩ := h
  obtain ⟨d', rfl, hmet⟩ := hC _ _ _ _ hcall
  have hM := hmet b sc D
  refine am_tight hR0 hR ?_
  have hcb : CallB R s args (am_own j) idx (am_y j2) (am_cc j2) (am_nL j2) (am_ret j2) (am_ws j2) (am_rm d' S) (am_limC - S.1.1) (am_limS - S.1.2.1) n := callB_of n hts hG hj2 rfl rfl (hts _ hini) (hts _ hlink) hdsc ⟨by show d' + 1 ≤ _; omega, by show 8 + (am_nL j2 + 11) + 40 * d' ≤ _; omega⟩
  have hsum := am_cats (b := b) (sc := sc) r
  rw [hret2] at hcb
  obtain ⟨a, rfl, ha, hat⟩ := hR.cellN hl
  refine am_after (S := S) (va_runI (As := as.map (am_v b sc)) (b := b + a) ⟨hx, hb, hml, hown, hts⟩ hM ⟨hcb, hname, hts _ hinst⟩ ⟨am_blind, fun U hU hW => ⟨rfl, by rw [hU]; exact hR, hK.moved hW.alike⟩⟩ rfl (by rw [List.length_map]; exact hn) hA.1 (by simp [List.map_reverse, am_v]) (by show 2 * 0 + _ ≤ 8; omega) hd ⟨by have := hs.2.1; have := hR.2.2.2.1; omega, by have := hs.2.2; have := hR.2.2.2.2; omega⟩) (fun S' v hq => hq) hA hlo hfr hs
theorem sn_callS {j pc nx n idx j2 : Nat} {wt : List Cond} (hd : decode (am_cc j) pc = .ok (.invokestatic idx, 3)) (hj2 : am_ws j2 = Cond.code (am_y j2) (am_cc j2) (am_nL j2) (am_ret j2) :: wt) (hG : GoodIn (am_ws j) (am_ws j2)) (hml2 : am_nL j2 ≤ 21) (hini : Cond.initialized (am_y j2).cls ∈ am_ws j) (hlink : Cond.methodLink (am_own j) idx (am_y j2) ∈ am_ws j) (hdsc : (am_y j2).cls ≠ "java/lang/invoke/MethodHandle" ∧ (am_y j2).cls ≠ "java/lang/invoke/VarHandle" ∧ (parseMethodDescriptor (am_y j2).desc).map (fun d => d.parameters.length) = some n) (hstat : Cond.static (am_y j2) ∈ am_ws j) (hnx : pc + 3 = nx) : am_snd j pc (ai_callS j2 n nx) := by
  intro l d b sc D S0 p e R s m args below meth c C Q Qw hcx hC ls st S h H locs A cells slots hR hA hlo hfr hs
  obtain ⟨hx, hb, hml, hown, hts, hnm, hK, hR0, ⟨hd1, hRf, hRl, hRc, hRs⟩, hX, hend⟩ := hcx
  subst hnx
  obtain ⟨as, r, rfl, hn, hr8, hcall⟩ := h
  obtain ⟨d', rfl, hmet⟩ := hC _ _ _ _ hcall
  have hM := hmet b sc D
  refine am_tight hR0 hR ?_
  have hcb : CallB R s args (am_own j) idx (am_y j2) (am_cc j2) (am_nL j2) (am_ret j2) (am_ws j2) (am_rm d' S) (am_limC - S.1.1) (am_limS - S.1.2.1) n := callB_of n hts hG hj2 rfl rfl (hts _ hini) (hts _ hlink) hdsc ⟨by show d' + 1 ≤ _; omega, by show 8 + (am_nL j2 + 11) + 40 * d' ≤ _; omega⟩
  have hsum := am_cats (b := b) (sc := sc) r
  refine am_after (S := S) (va_runS (As := as.map (am_v b sc)) ⟨hx, hb, hml, hown, hts⟩ hM ⟨hcb, hts _ hstat⟩ ⟨am_blind, fun U hU hW => ⟨rfl, by rw [hU]; exact hR, hK.moved hW.alike⟩⟩ rfl (by rw [List.length_map]; exact hn) hA.1 (by simp [List.map_reverse]) (by show 2 * 0 + _ ≤ 8; omega) hd ⟨by have := hs.2.1; have := hR.2.2.2.1; omega, by have := hs.2.2; have := hR.2.2.2.2; omega⟩) (fun S' v hq => hq) hA hlo hfr hs
theorem sn_iret {j pc : Nat} (hd : decode (am_cc j) pc = .ok (.ireturn, 1)) (hr : am_ret j = some .int) : am_snd j pc (ai_iret) := by
  intro l d b sc D S0 p e R s m args below meth c C Q Qw hcx hC ls st S h H locs A cells slots hR hA hlo hfr hs
  obtain ⟨hx, hb, hml, hown, hts, hnm, hK, hR0, ⟨hd1, hRf, hRl, hRc, hRs⟩, hX, hend⟩ := hcx
  obtain ⟨v, rfl, hq⟩ := h
  exact hend pc (some (.inl v)) S H locs A cells slots ⟨hd, Or.inl hr⟩ hq hR hlo hfr hs
theorem sn_zret {j pc : Nat} (hd : decode (am_cc j) pc = .ok (.ireturn, 1)) (hr : am_ret j = some .boolean) : am_snd j pc (ai_zret) := by
  intro l d b sc D S0 p e R s m args below meth c C Q Qw hcx hC ls st S h H locs A cells slots hR hA hlo hfr hs
  obtain ⟨hx, hb, hml, hown, hts, hnm, hK, hR0, ⟨hd1, hRf, hRl, hRc, hRs⟩, hX, hend⟩ := hcx
  obtain ⟨v, rfl, hv01, hq⟩ := h
  exact hend pc (some (.inl v)) S H locs A cells slots ⟨hd, Or.inr ⟨hr, hv01⟩⟩ hq hR hlo hfr hs
theorem sn_ret {j pc : Nat} (hd : decode (am_cc j) pc = .ok (.return_, 1)) (hr : am_ret j = none) : am_snd j pc (ai_ret) := by
  intro l d b sc D S0 p e R s m args below meth c C Q Qw hcx hC ls st S h H locs A cells slots hR hA hlo hfr hs
  obtain ⟨hx, hb, hml, hown, hts, hnm, hK, hR0, ⟨hd1, hRf, hRl, hRc, hRs⟩, hX, hend⟩ := hcx
  obtain ⟨rfl, hq⟩ := h
  exact hend pc none S H locs A cells slots ⟨hd, hr⟩ hq hR hlo hfr hs
theorem sn_switch {j pc dt len : Nat} {df lo hi : Int} {offs : Array Int} {tg : List Nat} (hd : decode (am_cc j) pc = .ok (.tableswitch df lo hi offs, len)) (hdf : (pc : Int) + df = (dt : Int)) (hmap : offs.toList.map (fun o => (pc : Int) + o) = tg.map (fun t : Nat => (t : Int))) (hlen : hi - lo < tg.length) : am_snd j pc (ai_switch lo hi tg dt) := by
  intro l d b sc D S0 p e R s m args below meth c C Q Qw hcx hC ls st S h H locs A cells slots hR hA hlo hfr hs
  obtain ⟨hx, hb, hml, hown, hts, hnm, hK, hR0, ⟨hd1, hRf, hRl, hRc, hRs⟩, hX, hend⟩ := hcx
  obtain ⟨x, r, rfl, h1, h2⟩ := h
  by_cases hlow : x.toInt < lo
  · exact lv_tableOut hx hb hd (Or.inl hlow) hdf (h1 (Or.inl hlow) H locs A cells slots hR hA hlo hfr hs)
  by_cases hhi : hi < x.toInt
  · exact lv_tableOut hx hb hd (Or.inr hhi) hdf (h1 (Or.inr hhi) H locs A cells slots hR hA hlo hfr hs)
  have e0 : x.toInt = lo + ((x.toInt - lo).toNat : Int) := by omega
  generalize hi0 : (x.toInt - lo).toNat = i0 at e0
  have hi1 : i0 < tg.length := by omega
  have g2 : tg[i0]? = some tg[i0] := List.getElem?_eq_getElem hi1
  have gm : (offs.toList.map (fun o => (pc : Int) + o))[i0]? = (tg.map (fun t : Nat => (t : Int)))[i0]? := by rw [hmap]
  rw [List.getElem?_map, List.getElem?_map, g2] at gm
  simp only [Option.map_some, Option.map_eq_some_iff] at gm
  obtain ⟨off, g1, g3⟩ := gm
  have g1' : offs[i0]? = some off := by rw [← Array.getElem?_toList]; exact g1
  subst hi0
  exact lv_tableIn hx hb hd hlow hhi g1' g3 (h2 _ e0 (by omega) _ g2 H locs A cells slots hR hA hlo hfr hs)
end AM
theorem am_ls_entry {b sc j : Nat} {as : List am_V} (h : as.length ≤ am_nL j) : am_ls b sc (am_nL j) (am_entry j as) (((as.map (am_v b sc)).map Slot.val ++ List.replicate (am_nL j - (as.map (am_v b sc)).length) Slot.unset).toArray) := by
  unfold am_entry
  refine ⟨by simp; omega, ?_, by simp; omega, fun i v hv => ?_⟩
  · refine ⟨fun i v hv hc => ?_, fun i hi => ?_⟩
    · exfalso
      have : v.category = 1 := by
        simp only [List.getElem?_toArray] at hv
        rcases List.mem_append.mp (List.mem_of_getElem? hv) with h1 | h1
        · obtain ⟨w, hw, he⟩ := List.mem_map.mp h1
          obtain ⟨z, -, rfl⟩ := List.mem_map.mp hw
          cases he
          exact am_v_cat b sc z
        · cases (List.mem_replicate.mp h1).2
      omega
    · exfalso
      simp only [List.getElem?_toArray] at hi
      rcases List.mem_append.mp (List.mem_of_getElem? hi) with h1 | h1
      · obtain ⟨w, hw, he⟩ := List.mem_map.mp h1
        cases he
      · cases (List.mem_replicate.mp h1).2
  · simp only [List.getElem?_toArray]
    by_cases hi : i < as.length
    · rw [List.getElem?_append_left (by simpa using hi)] at hv ⊢
      simp only [List.getElem?_map, Option.map_eq_some_iff] at hv ⊢
      obtain ⟨w, h1, h2⟩ := hv
      cases h2
      exact ⟨_, ⟨_, h1, rfl⟩, rfl⟩
    · rw [List.getElem?_append_right (by simp; omega)] at hv
      exact absurd (List.mem_of_getElem? hv) (fun q => by cases (List.mem_replicate.mp q).2)
theorem am_sound (hcert : ∀ j pc t, am_code j pc = some t → am_snd j pc t) (hpl : ∀ j, j < am_jL → 0 < j → Jvm.plainName (am_y j).cls = true) (hhd : ∀ j, j < am_jL → am_ws j = Cond.code (am_y j) (am_cc j) (am_nL j) (am_ret j) :: (am_ws j).tail) (hown : ∀ j, j < am_jL → (am_y j).cls = am_own j) (l : Launch) :
    ∀ (d j : Nat) (as : List am_V) (S : am_S) (Q : am_Q), am_call d j as S Q → am_met l d j as S Q := by
  intro d
  induction d with
  | zero => exact fun _ _ _ _ h => h.elim
  | succ d ih =>
    intro j as S Q hcall b sc D
    have hj := hcall.1.1.2
    refine Met.ofW (cc := am_cc j) (maxL := am_nL j) (ret := am_ret j) (hpl j hj hcall.1.1.1) (hhd j hj) ?_
    intro p e s m args below meth c s₁ B hml hv
    obtain ⟨rfl, hR, hK⟩ := hv
    have hts := atoms_spec (ws := am_ws j) B.pre
    rw [entry_eq m (as.map (am_v b sc)) (fun v hv => by obtain ⟨w, -, rfl⟩ := List.mem_map.mp hv; exact am_v_cat b sc w) (am_nL j)]
    have hr := B.returns
    have hlk := B.notSynchronized
    have hx := B.exec
    have hb := B.bytes
    refine hcall.2 (am_go l j b sc D S p e _ s m _ below meth c _) (fun pc ls st S' t ht hstep => hcert j pc t ht l (d + 1) b sc D S p e _ s m _ below meth c (am_call d) Q _ ⟨hx, hb, hml, (hown j hj) ▸ findClass_of_methodNamed B.named, hts, (name_of_methodNamed B.named B.method).1, hK, hR, ⟨Nat.succ_le_succ (Nat.zero_le _), Nat.le_refl _, Nat.le_refl _, Nat.le_refl _, Nat.le_refl _⟩, fun h => absurd h (Nat.ne_of_lt hj), ?_⟩ (fun j' as' S2 Q' h' => ?_) ls st S' hstep) s.heap [] _ 0 0 hR (am_ls_entry hcall.1.2) (fun q hq => by cases hq) (fun _ _ => rfl) ⟨rfl, Nat.le_refl _, Nat.le_refl _⟩
    · intro pc v S' H locs A cells slots hrt hq hR' hlo hfr hs
      refine am_tight hR hR' (W.widen (k := am_limC - S.1.1) (n := am_limS - S.1.2.1) (by have := hR'.2.2.2.1; omega) (by have := hR'.2.2.2.2; omega) ?_)
      rcases v with _ | (i | r)
      · exact W.vret hx hb (hr.trans hrt.2) (fun t ht hW => ⟨S', none, rfl, hq, by rw [ht]; exact hR', hs, fun q hq => by rw [ht]; exact hfr q hq⟩) hlo hrt.1
      · rcases hrt with ⟨h1, h2 | ⟨h2, h3⟩⟩
        · exact W.iret (v := i) hx hb (hr.trans h2) (fun t ht hW => ⟨S', some (.inl i), rfl, hq, by rw [ht]; exact hR', hs, fun q hq => by rw [ht]; exact hfr q hq⟩) hlo h1
        · exact W.zret (v := i) hx hb (hr.trans h2) (by rcases h3 with rfl | rfl <;> rfl) (fun t ht hW => ⟨S', some (.inl i), rfl, hq, by rw [ht]; exact hR', hs, fun q hq => by rw [ht]; exact hfr q hq⟩) hlo h1
      · exact hrt.elim
    · exact ⟨d, rfl, ih j' as' S2 Q' h'⟩

def am_le (C C' : am_C) : Prop := ∀ (j : Nat) (as : List am_V) (S : am_S) (Q1 Q2 : am_Q), (∀ S' v, Q1 S' v → Q2 S' v) → C j as S Q1 → C' j as S Q2
def am_mono (t : am_T) : Prop := ∀ (C C' : am_C) (go go' : am_G) (Q Q' : am_Q) (ls : am_L) (st : List am_V) (S : am_S), am_le C C' → (∀ pc ls st S, go pc ls st S → go' pc ls st S) → (∀ S v, Q S v → Q' S v) → t C go Q ls st S → t C' go' Q' ls st S
theorem mn_push (z : Int32) (nx : Nat) : am_mono (ai_push z nx) := fun _ _ _ _ _ _ _ _ _ _ hg _ h => hg _ _ _ _ h
theorem mn_null (nx : Nat) : am_mono (ai_null nx) := fun _ _ _ _ _ _ _ _ _ _ hg _ h => hg _ _ _ _ h
theorem mn_goto (tg : Nat) : am_mono (ai_goto tg) := fun _ _ _ _ _ _ _ _ _ _ hg _ h => hg _ _ _ _ h
theorem mn_iload (n nx : Nat) : am_mono (ai_iload n nx) := fun _ _ _ _ _ _ _ _ _ _ hg _ h => by
  obtain ⟨v, h1, h⟩ := h
  exact ⟨v, h1, hg _ _ _ _ h⟩
theorem mn_aload (n nx : Nat) : am_mono (ai_aload n nx) := fun _ _ _ _ _ _ _ _ _ _ hg _ h => by
  obtain ⟨v, h1, h⟩ := h
  exact ⟨v, h1, hg _ _ _ _ h⟩
theorem mn_istore (n nx : Nat) : am_mono (ai_istore n nx) := fun _ _ _ _ _ _ _ _ _ _ hg _ h => by
  obtain ⟨v, r, h1, h⟩ := h
  exact ⟨v, r, h1, hg _ _ _ _ h⟩
theorem mn_astore (n nx : Nat) : am_mono (ai_astore n nx) := fun _ _ _ _ _ _ _ _ _ _ hg _ h => by
  obtain ⟨v, r, h1, h⟩ := h
  exact ⟨v, r, h1, hg _ _ _ _ h⟩
theorem mn_iinc (n : Nat) (z : Int32) (nx : Nat) : am_mono (ai_iinc n z nx) := fun _ _ _ _ _ _ _ _ _ _ hg _ h => by
  obtain ⟨v, h1, h⟩ := h
  exact ⟨v, h1, hg _ _ _ _ h⟩
theorem mn_bin (f : Int32 → Int32 → Int32) (nx : Nat) : am_mono (ai_bin f nx) := fun _ _ _ _ _ _ _ _ _ _ hg _ h => by
  obtain ⟨x, y, r, h1, h⟩ := h
  exact ⟨x, y, r, h1, hg _ _ _ _ h⟩
theorem mn_div (f : Int32 → Int32 → Int32) (nx : Nat) : am_mono (ai_div f nx) := fun _ _ _ _ _ _ _ _ _ _ hg _ h => by
  obtain ⟨x, y, r, h1, h2, h⟩ := h
  exact ⟨x, y, r, h1, h2, hg _ _ _ _ h⟩
theorem mn_if (c : Int32 → Prop) (tg nx : Nat) : am_mono (ai_if c tg nx) := fun _ _ _ _ _ _ _ _ _ _ hg _ h => by
  obtain ⟨x, r, h1, h2, h3⟩ := h
  exact ⟨x, r, h1, fun q => hg _ _ _ _ (h2 q), fun q => hg _ _ _ _ (h3 q)⟩
theorem mn_icmp (c : Int32 → Int32 → Prop) (tg nx : Nat) : am_mono (ai_icmp c tg nx) := fun _ _ _ _ _ _ _ _ _ _ hg _ h => by
  obtain ⟨x, y, r, h1, h2, h3⟩ := h
  exact ⟨x, y, r, h1, fun q => hg _ _ _ _ (h2 q), fun q => hg _ _ _ _ (h3 q)⟩
theorem mn_ifnull (tg nx : Nat) : am_mono (ai_ifnull tg nx) := fun _ _ _ _ _ _ _ _ _ _ hg _ h => by
  obtain ⟨v, r, h1, h2, h3⟩ := h
  exact ⟨v, r, h1, fun q => hg _ _ _ _ (h2 q), fun a q => hg _ _ _ _ (h3 a q)⟩
theorem mn_ifnonnull (tg nx : Nat) : am_mono (ai_ifnonnull tg nx) := fun _ _ _ _ _ _ _ _ _ _ hg _ h => by
  obtain ⟨v, r, h1, h2, h3⟩ := h
  exact ⟨v, r, h1, fun a q => hg _ _ _ _ (h2 a q), fun q => hg _ _ _ _ (h3 q)⟩
theorem mn_dup (nx : Nat) : am_mono (ai_dup nx) := fun _ _ _ _ _ _ _ _ _ _ hg _ h => by
  obtain ⟨v, r, h1, h⟩ := h
  exact ⟨v, r, h1, hg _ _ _ _ h⟩
theorem mn_dupx1 (nx : Nat) : am_mono (ai_dupx1 nx) := fun _ _ _ _ _ _ _ _ _ _ hg _ h => by
  obtain ⟨v, w, r, h1, h⟩ := h
  exact ⟨v, w, r, h1, hg _ _ _ _ h⟩
theorem mn_dup2 (nx : Nat) : am_mono (ai_dup2 nx) := fun _ _ _ _ _ _ _ _ _ _ hg _ h => by
  obtain ⟨v, w, r, h1, h⟩ := h
  exact ⟨v, w, r, h1, hg _ _ _ _ h⟩
theorem mn_pop (nx : Nat) : am_mono (ai_pop nx) := fun _ _ _ _ _ _ _ _ _ _ hg _ h => by
  obtain ⟨v, r, h1, h⟩ := h
  exact ⟨v, r, h1, hg _ _ _ _ h⟩
theorem mn_getI (k f nx : Nat) : am_mono (ai_getI k f nx) := fun _ _ _ _ _ _ _ _ _ _ hg _ h => by
  obtain ⟨a, r, h1, h2, h⟩ := h
  exact ⟨a, r, h1, h2, hg _ _ _ _ h⟩
theorem mn_getP (k f nx : Nat) : am_mono (ai_getP k f nx) := fun _ _ _ _ _ _ _ _ _ _ hg _ h => by
  obtain ⟨a, r, h1, h2, h⟩ := h
  exact ⟨a, r, h1, h2, hg _ _ _ _ h⟩
theorem mn_putI (k f nx : Nat) : am_mono (ai_putI k f nx) := fun _ _ _ _ _ _ _ _ _ _ hg _ h => by
  obtain ⟨v, a, r, h1, h2, h⟩ := h
  exact ⟨v, a, r, h1, h2, hg _ _ _ _ h⟩
theorem mn_putZ (k f nx : Nat) : am_mono (ai_putZ k f nx) := fun _ _ _ _ _ _ _ _ _ _ hg _ h => by
  obtain ⟨v, a, r, h1, h2, h3, h⟩ := h
  exact ⟨v, a, r, h1, h2, h3, hg _ _ _ _ h⟩
theorem mn_putP (k f nx : Nat) : am_mono (ai_putP k f nx) := fun _ _ _ _ _ _ _ _ _ _ hg _ h => by
  obtain ⟨v, a, r, h1, h2, h⟩ := h
  exact ⟨v, a, r, h1, h2, hg _ _ _ _ h⟩
theorem mn_ald (k n nx : Nat) : am_mono (ai_ald k n nx) := fun _ _ _ _ _ _ _ _ _ _ hg _ h => by
  obtain ⟨i, a, r, h1, h2, h3, h⟩ := h
  exact ⟨i, a, r, h1, h2, h3, hg _ _ _ _ h⟩
theorem mn_aald (k n nx : Nat) : am_mono (ai_aald k n nx) := fun _ _ _ _ _ _ _ _ _ _ hg _ h => by
  obtain ⟨i, a, r, h1, h2, h3, h⟩ := h
  exact ⟨i, a, r, h1, h2, h3, hg _ _ _ _ h⟩
theorem mn_ast (k n nx : Nat) : am_mono (ai_ast k n nx) := fun _ _ _ _ _ _ _ _ _ _ hg _ h => by
  obtain ⟨v, i, a, r, h1, h2, h3, h⟩ := h
  exact ⟨v, i, a, r, h1, h2, h3, hg _ _ _ _ h⟩
theorem mn_zast (k n nx : Nat) : am_mono (ai_zast k n nx) := fun _ _ _ _ _ _ _ _ _ _ hg _ h => by
  obtain ⟨v, i, a, r, h1, h2, h3, h4, h⟩ := h
  exact ⟨v, i, a, r, h1, h2, h3, h4, hg _ _ _ _ h⟩
theorem mn_aast (k n k2 nx : Nat) : am_mono (ai_aast k n k2 nx) := fun _ _ _ _ _ _ _ _ _ _ hg _ h => by
  obtain ⟨v, i, a, r, h1, h2, h3, h4, h⟩ := h
  exact ⟨v, i, a, r, h1, h2, h3, h4, hg _ _ _ _ h⟩
theorem mn_sld (nx : Nat) : am_mono (ai_sld nx) := fun _ _ _ _ _ _ _ _ _ _ hg _ h => by
  obtain ⟨i, r, h1, h2, h⟩ := h
  exact ⟨i, r, h1, h2, hg _ _ _ _ h⟩
theorem mn_slen (nx : Nat) : am_mono (ai_slen nx) := fun _ _ _ _ _ _ _ _ _ _ hg _ h => by
  obtain ⟨r, h1, h⟩ := h
  exact ⟨r, h1, hg _ _ _ _ h⟩
theorem mn_new (k n nx : Nat) : am_mono (ai_new k n nx) := fun _ _ _ _ _ _ _ _ _ _ hg _ h => by
  obtain ⟨h1, h2, h⟩ := h
  exact ⟨h1, h2, hg _ _ _ _ h⟩
theorem mn_newa (k n nx : Nat) : am_mono (ai_newa k n nx) := fun _ _ _ _ _ _ _ _ _ _ hg _ h => by
  obtain ⟨i, r, h1, h2, h3, h4, h⟩ := h
  exact ⟨i, r, h1, h2, h3, h4, hg _ _ _ _ h⟩
theorem mn_max (nx : Nat) : am_mono (ai_max nx) := fun _ _ _ _ _ _ _ _ _ _ hg _ h => by
  obtain ⟨x, y, r, h1, h2, h⟩ := h
  exact ⟨x, y, r, h1, h2, hg _ _ _ _ h⟩
theorem mn_multi (k k2 nx : Nat) : am_mono (ai_multi k k2 nx) := fun _ _ _ _ _ _ _ _ _ _ hg _ h => by
  obtain ⟨r, h1, h2, h3, h⟩ := h
  exact ⟨r, h1, h2, h3, hg _ _ _ _ h⟩
theorem mn_oinit (nx : Nat) : am_mono (ai_oinit nx) := fun _ _ _ _ _ _ _ _ _ _ hg _ h => by
  obtain ⟨a, r, h1, h2, h⟩ := h
  exact ⟨a, r, h1, h2, hg _ _ _ _ h⟩
theorem mn_switch (lo hi : Int) (tg : List Nat) (df : Nat) : am_mono (ai_switch lo hi tg df) := fun _ _ _ _ _ _ _ _ _ _ hg _ h => by
  obtain ⟨x, r, h1, h2, h3⟩ := h
  exact ⟨x, r, h1, fun q => hg _ _ _ _ (h2 q), fun i q1 q2 t q3 => hg _ _ _ _ (h3 i q1 q2 t q3)⟩
theorem mn_callV (j k n nx : Nat) : am_mono (ai_callV j k n nx) := fun _ _ _ _ _ _ _ _ _ hC hg _ h => by
  obtain ⟨a, as, r, h1, h2, h3, h4, h⟩ := h
  exact ⟨a, as, r, h1, h2, h3, h4, hC _ _ _ _ _ (fun _ _ q => hg _ _ _ _ q) h⟩
theorem mn_callS (j n nx : Nat) : am_mono (ai_callS j n nx) := fun _ _ _ _ _ _ _ _ _ hC hg _ h => by
  obtain ⟨as, r, h1, h2, h3, h⟩ := h
  exact ⟨as, r, h1, h2, h3, hC _ _ _ _ _ (fun _ _ q => hg _ _ _ _ q) h⟩
theorem mn_iret : am_mono ai_iret := fun _ _ _ _ _ _ _ _ _ _ _ hQ h => by
  obtain ⟨v, h1, h⟩ := h
  exact ⟨v, h1, hQ _ _ h⟩
theorem mn_zret : am_mono ai_zret := fun _ _ _ _ _ _ _ _ _ _ _ hQ h => by
  obtain ⟨v, h1, h2, h⟩ := h
  exact ⟨v, h1, h2, hQ _ _ h⟩
theorem mn_ret : am_mono ai_ret := fun _ _ _ _ _ _ _ _ _ _ _ hQ h => ⟨h.1, hQ _ _ h.2⟩

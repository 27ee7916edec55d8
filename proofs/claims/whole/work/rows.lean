section
def lw_okq (q : MethodName × Nat) : Prop := (q.1.cls ≠ "java/lang/invoke/MethodHandle" ∧ q.1.cls ≠ "java/lang/invoke/VarHandle") ∧ Cond.instantiable q.1.cls q.2 ∈ tables_1 ∧ Cond.privateMethod q.1 ∈ tables_1 ∧ Cond.instanceMethod q.1 ∈ tables_1
theorem lw_p0 : lw_okq (⟨"LinkStateNet$LinkEnd", "oweNothing", "()V"⟩, 9) := ⟨⟨by decide +kernel, by decide +kernel⟩, List.mem_of_getElem? (i := 31) (by decide +kernel), List.mem_of_getElem? (i := 37) (by decide +kernel), List.mem_of_getElem? (i := 38) (by decide +kernel)⟩
theorem lw_p1 : lw_okq (⟨"LinkStateNet", "isLink", "(II)Z"⟩, 5) := ⟨⟨by decide +kernel, by decide +kernel⟩, List.mem_of_getElem? (i := 11) (by decide +kernel), List.mem_of_getElem? (i := 220) (by decide +kernel), List.mem_of_getElem? (i := 221) (by decide +kernel)⟩
theorem lw_p2 : lw_okq (⟨"LinkStateNet", "tick", "()V"⟩, 5) := ⟨⟨by decide +kernel, by decide +kernel⟩, List.mem_of_getElem? (i := 11) (by decide +kernel), List.mem_of_getElem? (i := 228) (by decide +kernel), List.mem_of_getElem? (i := 229) (by decide +kernel)⟩
theorem lw_p3 : lw_okq (⟨"LinkStateNet", "dropExpired", "()V"⟩, 5) := ⟨⟨by decide +kernel, by decide +kernel⟩, List.mem_of_getElem? (i := 11) (by decide +kernel), List.mem_of_getElem? (i := 232) (by decide +kernel), List.mem_of_getElem? (i := 233) (by decide +kernel)⟩
theorem lw_p4 : lw_okq (⟨"LinkStateNet", "exchangeHellos", "()V"⟩, 5) := ⟨⟨by decide +kernel, by decide +kernel⟩, List.mem_of_getElem? (i := 11) (by decide +kernel), List.mem_of_getElem? (i := 240) (by decide +kernel), List.mem_of_getElem? (i := 241) (by decide +kernel)⟩
theorem lw_p5 : lw_okq (⟨"LinkStateNet", "sayHello", "(II)V"⟩, 5) := ⟨⟨by decide +kernel, by decide +kernel⟩, List.mem_of_getElem? (i := 11) (by decide +kernel), List.mem_of_getElem? (i := 248) (by decide +kernel), List.mem_of_getElem? (i := 249) (by decide +kernel)⟩
theorem lw_p6 : lw_okq (⟨"LinkStateNet", "arrives", "(II)Z"⟩, 5) := ⟨⟨by decide +kernel, by decide +kernel⟩, List.mem_of_getElem? (i := 11) (by decide +kernel), List.mem_of_getElem? (i := 252) (by decide +kernel), List.mem_of_getElem? (i := 253) (by decide +kernel)⟩
theorem lw_p7 : lw_okq (⟨"LinkStateNet", "judgeNeighbours", "()V"⟩, 5) := ⟨⟨by decide +kernel, by decide +kernel⟩, List.mem_of_getElem? (i := 11) (by decide +kernel), List.mem_of_getElem? (i := 256) (by decide +kernel), List.mem_of_getElem? (i := 257) (by decide +kernel)⟩
theorem lw_p8 : lw_okq (⟨"LinkStateNet", "oweWhatLacks", "(II)V"⟩, 5) := ⟨⟨by decide +kernel, by decide +kernel⟩, List.mem_of_getElem? (i := 11) (by decide +kernel), List.mem_of_getElem? (i := 264) (by decide +kernel), List.mem_of_getElem? (i := 265) (by decide +kernel)⟩
theorem lw_p9 : lw_okq (⟨"LinkStateNet", "makeDescriptions", "()V"⟩, 5) := ⟨⟨by decide +kernel, by decide +kernel⟩, List.mem_of_getElem? (i := 11) (by decide +kernel), List.mem_of_getElem? (i := 276) (by decide +kernel), List.mem_of_getElem? (i := 277) (by decide +kernel)⟩
theorem lw_p10 : lw_okq (⟨"LinkStateNet$Router", "isStillTrue", "(LLinkStateNet$Description;)Z"⟩, 8) := ⟨⟨by decide +kernel, by decide +kernel⟩, List.mem_of_getElem? (i := 20) (by decide +kernel), List.mem_of_getElem? (i := 284) (by decide +kernel), List.mem_of_getElem? (i := 285) (by decide +kernel)⟩
theorem lw_p11 : lw_okq (⟨"LinkStateNet", "sendUpdates", "()V"⟩, 5) := ⟨⟨by decide +kernel, by decide +kernel⟩, List.mem_of_getElem? (i := 11) (by decide +kernel), List.mem_of_getElem? (i := 336) (by decide +kernel), List.mem_of_getElem? (i := 337) (by decide +kernel)⟩
theorem lw_p12 : lw_okq (⟨"LinkStateNet", "deliverUpdates", "()V"⟩, 5) := ⟨⟨by decide +kernel, by decide +kernel⟩, List.mem_of_getElem? (i := 11) (by decide +kernel), List.mem_of_getElem? (i := 347) (by decide +kernel), List.mem_of_getElem? (i := 348) (by decide +kernel)⟩
theorem lw_p13 : lw_okq (⟨"LinkStateNet", "deliver", "(LLinkStateNet$Update;II)V"⟩, 5) := ⟨⟨by decide +kernel, by decide +kernel⟩, List.mem_of_getElem? (i := 11) (by decide +kernel), List.mem_of_getElem? (i := 351) (by decide +kernel), List.mem_of_getElem? (i := 352) (by decide +kernel)⟩
theorem lw_p14 : lw_okq (⟨"LinkStateNet", "take", "(LLinkStateNet$Description;II)Z"⟩, 5) := ⟨⟨by decide +kernel, by decide +kernel⟩, List.mem_of_getElem? (i := 11) (by decide +kernel), List.mem_of_getElem? (i := 355) (by decide +kernel), List.mem_of_getElem? (i := 356) (by decide +kernel)⟩
theorem lw_p15 : lw_okq (⟨"LinkStateNet", "acknowledge", "(LLinkStateNet$Update;II)V"⟩, 5) := ⟨⟨by decide +kernel, by decide +kernel⟩, List.mem_of_getElem? (i := 11) (by decide +kernel), List.mem_of_getElem? (i := 367) (by decide +kernel), List.mem_of_getElem? (i := 368) (by decide +kernel)⟩
def lw_privs_1 : List (MethodName × Nat) := [(⟨"LinkStateNet$LinkEnd", "oweNothing", "()V"⟩, 9), (⟨"LinkStateNet", "isLink", "(II)Z"⟩, 5), (⟨"LinkStateNet", "tick", "()V"⟩, 5), (⟨"LinkStateNet", "dropExpired", "()V"⟩, 5), (⟨"LinkStateNet", "exchangeHellos", "()V"⟩, 5), (⟨"LinkStateNet", "sayHello", "(II)V"⟩, 5), (⟨"LinkStateNet", "arrives", "(II)Z"⟩, 5), (⟨"LinkStateNet", "judgeNeighbours", "()V"⟩, 5), (⟨"LinkStateNet", "oweWhatLacks", "(II)V"⟩, 5), (⟨"LinkStateNet", "makeDescriptions", "()V"⟩, 5), (⟨"LinkStateNet$Router", "isStillTrue", "(LLinkStateNet$Description;)Z"⟩, 8), (⟨"LinkStateNet", "sendUpdates", "()V"⟩, 5), (⟨"LinkStateNet", "deliverUpdates", "()V"⟩, 5), (⟨"LinkStateNet", "deliver", "(LLinkStateNet$Update;II)V"⟩, 5), (⟨"LinkStateNet", "take", "(LLinkStateNet$Description;II)Z"⟩, 5), (⟨"LinkStateNet", "acknowledge", "(LLinkStateNet$Update;II)V"⟩, 5)]
theorem lw_r1 : ∀ q ∈ lw_privs_1, lw_okq q := List.forall_mem_cons.mpr ⟨lw_p0, List.forall_mem_cons.mpr ⟨lw_p1, List.forall_mem_cons.mpr ⟨lw_p2, List.forall_mem_cons.mpr ⟨lw_p3, List.forall_mem_cons.mpr ⟨lw_p4, List.forall_mem_cons.mpr ⟨lw_p5, List.forall_mem_cons.mpr ⟨lw_p6, List.forall_mem_cons.mpr ⟨lw_p7, List.forall_mem_cons.mpr ⟨lw_p8, List.forall_mem_cons.mpr ⟨lw_p9, List.forall_mem_cons.mpr ⟨lw_p10, List.forall_mem_cons.mpr ⟨lw_p11, List.forall_mem_cons.mpr ⟨lw_p12, List.forall_mem_cons.mpr ⟨lw_p13, List.forall_mem_cons.mpr ⟨lw_p14, List.forall_mem_cons.mpr ⟨lw_p15, fun _ h => absurd h List.not_mem_nil⟩⟩⟩⟩⟩⟩⟩⟩⟩⟩⟩⟩⟩⟩⟩⟩
theorem lw_p16 : lw_okq (⟨"LinkStateNet", "isOn", "(I)Z"⟩, 5) := ⟨⟨by decide +kernel, by decide +kernel⟩, List.mem_of_getElem? (i := 11) (by decide +kernel), List.mem_of_getElem? (i := 399) (by decide +kernel), List.mem_of_getElem? (i := 400) (by decide +kernel)⟩
theorem lw_p17 : lw_okq (⟨"LinkStateNet$Routes", "shortenThrough", "(I)V"⟩, 2) := ⟨⟨by decide +kernel, by decide +kernel⟩, List.mem_of_getElem? (i := 132) (by decide +kernel), List.mem_of_getElem? (i := 410) (by decide +kernel), List.mem_of_getElem? (i := 411) (by decide +kernel)⟩
theorem lw_p18 : lw_okq (⟨"LinkStateNetModel", "cutOff", "(II)V"⟩, 25) := ⟨⟨by decide +kernel, by decide +kernel⟩, List.mem_of_getElem? (i := 442) (by decide +kernel), List.mem_of_getElem? (i := 531) (by decide +kernel), List.mem_of_getElem? (i := 532) (by decide +kernel)⟩
theorem lw_p19 : lw_okq (⟨"LinkStateNetModel", "linked", "(II)Z"⟩, 25) := ⟨⟨by decide +kernel, by decide +kernel⟩, List.mem_of_getElem? (i := 442) (by decide +kernel), List.mem_of_getElem? (i := 547) (by decide +kernel), List.mem_of_getElem? (i := 548) (by decide +kernel)⟩
theorem lw_p20 : lw_okq (⟨"LinkStateNetModel", "forget", "()V"⟩, 25) := ⟨⟨by decide +kernel, by decide +kernel⟩, List.mem_of_getElem? (i := 442) (by decide +kernel), List.mem_of_getElem? (i := 555) (by decide +kernel), List.mem_of_getElem? (i := 556) (by decide +kernel)⟩
theorem lw_p21 : lw_okq (⟨"LinkStateNetModel", "hellos", "()V"⟩, 25) := ⟨⟨by decide +kernel, by decide +kernel⟩, List.mem_of_getElem? (i := 442) (by decide +kernel), List.mem_of_getElem? (i := 559) (by decide +kernel), List.mem_of_getElem? (i := 560) (by decide +kernel)⟩
theorem lw_p22 : lw_okq (⟨"LinkStateNetModel", "over", "(III)Z"⟩, 25) := ⟨⟨by decide +kernel, by decide +kernel⟩, List.mem_of_getElem? (i := 442) (by decide +kernel), List.mem_of_getElem? (i := 563) (by decide +kernel), List.mem_of_getElem? (i := 564) (by decide +kernel)⟩
theorem lw_p23 : lw_okq (⟨"LinkStateNetModel", "neighbours", "()V"⟩, 25) := ⟨⟨by decide +kernel, by decide +kernel⟩, List.mem_of_getElem? (i := 442) (by decide +kernel), List.mem_of_getElem? (i := 567) (by decide +kernel), List.mem_of_getElem? (i := 568) (by decide +kernel)⟩
theorem lw_p24 : lw_okq (⟨"LinkStateNetModel", "oweAll", "(II)V"⟩, 25) := ⟨⟨by decide +kernel, by decide +kernel⟩, List.mem_of_getElem? (i := 442) (by decide +kernel), List.mem_of_getElem? (i := 571) (by decide +kernel), List.mem_of_getElem? (i := 572) (by decide +kernel)⟩
theorem lw_p25 : lw_okq (⟨"LinkStateNetModel", "older", "(II)Z"⟩, 25) := ⟨⟨by decide +kernel, by decide +kernel⟩, List.mem_of_getElem? (i := 442) (by decide +kernel), List.mem_of_getElem? (i := 575) (by decide +kernel), List.mem_of_getElem? (i := 576) (by decide +kernel)⟩
theorem lw_p26 : lw_okq (⟨"LinkStateNetModel", "owe", "(IIIZ)V"⟩, 25) := ⟨⟨by decide +kernel, by decide +kernel⟩, List.mem_of_getElem? (i := 442) (by decide +kernel), List.mem_of_getElem? (i := 579) (by decide +kernel), List.mem_of_getElem? (i := 580) (by decide +kernel)⟩
theorem lw_p27 : lw_okq (⟨"LinkStateNetModel", "make", "(I)V"⟩, 25) := ⟨⟨by decide +kernel, by decide +kernel⟩, List.mem_of_getElem? (i := 442) (by decide +kernel), List.mem_of_getElem? (i := 583) (by decide +kernel), List.mem_of_getElem? (i := 584) (by decide +kernel)⟩
theorem lw_p28 : lw_okq (⟨"LinkStateNetModel", "sameBody", "(II)Z"⟩, 25) := ⟨⟨by decide +kernel, by decide +kernel⟩, List.mem_of_getElem? (i := 442) (by decide +kernel), List.mem_of_getElem? (i := 587) (by decide +kernel), List.mem_of_getElem? (i := 588) (by decide +kernel)⟩
theorem lw_p29 : lw_okq (⟨"LinkStateNetModel", "copy", "(II)V"⟩, 25) := ⟨⟨by decide +kernel, by decide +kernel⟩, List.mem_of_getElem? (i := 442) (by decide +kernel), List.mem_of_getElem? (i := 591) (by decide +kernel), List.mem_of_getElem? (i := 592) (by decide +kernel)⟩
theorem lw_p30 : lw_okq (⟨"LinkStateNetModel", "install", "(IIII)V"⟩, 25) := ⟨⟨by decide +kernel, by decide +kernel⟩, List.mem_of_getElem? (i := 442) (by decide +kernel), List.mem_of_getElem? (i := 595) (by decide +kernel), List.mem_of_getElem? (i := 596) (by decide +kernel)⟩
theorem lw_p31 : lw_okq (⟨"LinkStateNetModel", "sendUpdates", "()V"⟩, 25) := ⟨⟨by decide +kernel, by decide +kernel⟩, List.mem_of_getElem? (i := 442) (by decide +kernel), List.mem_of_getElem? (i := 599) (by decide +kernel), List.mem_of_getElem? (i := 600) (by decide +kernel)⟩
def lw_privs_2 : List (MethodName × Nat) := [(⟨"LinkStateNet", "isOn", "(I)Z"⟩, 5), (⟨"LinkStateNet$Routes", "shortenThrough", "(I)V"⟩, 2), (⟨"LinkStateNetModel", "cutOff", "(II)V"⟩, 25), (⟨"LinkStateNetModel", "linked", "(II)Z"⟩, 25), (⟨"LinkStateNetModel", "forget", "()V"⟩, 25), (⟨"LinkStateNetModel", "hellos", "()V"⟩, 25), (⟨"LinkStateNetModel", "over", "(III)Z"⟩, 25), (⟨"LinkStateNetModel", "neighbours", "()V"⟩, 25), (⟨"LinkStateNetModel", "oweAll", "(II)V"⟩, 25), (⟨"LinkStateNetModel", "older", "(II)Z"⟩, 25), (⟨"LinkStateNetModel", "owe", "(IIIZ)V"⟩, 25), (⟨"LinkStateNetModel", "make", "(I)V"⟩, 25), (⟨"LinkStateNetModel", "sameBody", "(II)Z"⟩, 25), (⟨"LinkStateNetModel", "copy", "(II)V"⟩, 25), (⟨"LinkStateNetModel", "install", "(IIII)V"⟩, 25), (⟨"LinkStateNetModel", "sendUpdates", "()V"⟩, 25)]
theorem lw_r2 : ∀ q ∈ lw_privs_2, lw_okq q := List.forall_mem_cons.mpr ⟨lw_p16, List.forall_mem_cons.mpr ⟨lw_p17, List.forall_mem_cons.mpr ⟨lw_p18, List.forall_mem_cons.mpr ⟨lw_p19, List.forall_mem_cons.mpr ⟨lw_p20, List.forall_mem_cons.mpr ⟨lw_p21, List.forall_mem_cons.mpr ⟨lw_p22, List.forall_mem_cons.mpr ⟨lw_p23, List.forall_mem_cons.mpr ⟨lw_p24, List.forall_mem_cons.mpr ⟨lw_p25, List.forall_mem_cons.mpr ⟨lw_p26, List.forall_mem_cons.mpr ⟨lw_p27, List.forall_mem_cons.mpr ⟨lw_p28, List.forall_mem_cons.mpr ⟨lw_p29, List.forall_mem_cons.mpr ⟨lw_p30, List.forall_mem_cons.mpr ⟨lw_p31, fun _ h => absurd h List.not_mem_nil⟩⟩⟩⟩⟩⟩⟩⟩⟩⟩⟩⟩⟩⟩⟩⟩
theorem lw_p32 : lw_okq (⟨"LinkStateNetModel", "take", "(II)V"⟩, 25) := ⟨⟨by decide +kernel, by decide +kernel⟩, List.mem_of_getElem? (i := 442) (by decide +kernel), List.mem_of_getElem? (i := 603) (by decide +kernel), List.mem_of_getElem? (i := 604) (by decide +kernel)⟩
theorem lw_p33 : lw_okq (⟨"LinkStateNetModel", "same", "(II)Z"⟩, 25) := ⟨⟨by decide +kernel, by decide +kernel⟩, List.mem_of_getElem? (i := 442) (by decide +kernel), List.mem_of_getElem? (i := 607) (by decide +kernel), List.mem_of_getElem? (i := 608) (by decide +kernel)⟩
theorem lw_p34 : lw_okq (⟨"LinkStateNetModel", "measure", "(I)V"⟩, 25) := ⟨⟨by decide +kernel, by decide +kernel⟩, List.mem_of_getElem? (i := 442) (by decide +kernel), List.mem_of_getElem? (i := 635) (by decide +kernel), List.mem_of_getElem? (i := 636) (by decide +kernel)⟩
theorem lw_p35 : lw_okq (⟨"LinkStateNetModel", "edge", "(III)I"⟩, 25) := ⟨⟨by decide +kernel, by decide +kernel⟩, List.mem_of_getElem? (i := 442) (by decide +kernel), List.mem_of_getElem? (i := 639) (by decide +kernel), List.mem_of_getElem? (i := 640) (by decide +kernel)⟩
def lw_privs_3 : List (MethodName × Nat) := [(⟨"LinkStateNetModel", "take", "(II)V"⟩, 25), (⟨"LinkStateNetModel", "same", "(II)Z"⟩, 25), (⟨"LinkStateNetModel", "measure", "(I)V"⟩, 25), (⟨"LinkStateNetModel", "edge", "(III)I"⟩, 25)]
theorem lw_r3 : ∀ q ∈ lw_privs_3, lw_okq q := List.forall_mem_cons.mpr ⟨lw_p32, List.forall_mem_cons.mpr ⟨lw_p33, List.forall_mem_cons.mpr ⟨lw_p34, List.forall_mem_cons.mpr ⟨lw_p35, fun _ h => absurd h List.not_mem_nil⟩⟩⟩⟩
def lw_privs : List (MethodName × Nat) := lw_privs_1 ++ (lw_privs_2 ++ (lw_privs_3))
def lw_tbl : List Cond := k2_sels lw_privs ++ tables_1
theorem lw_privs_ok : ∀ q ∈ lw_privs, lw_okq q := by
  show ∀ q ∈ lw_privs_1 ++ (lw_privs_2 ++ (lw_privs_3)), lw_okq q
  exact List.forall_mem_append.mpr ⟨lw_r1, List.forall_mem_append.mpr ⟨lw_r2, lw_r3⟩⟩
end
section
abbrev am_V : Type := Int32 ⊕ Option Nat
abbrev am_L : Type := List (Option am_V)
abbrev am_M : Type := (Nat → Nat → Nat → Int32) × (Nat → Nat → Nat → Option Nat)
abbrev am_S : Type := (Nat × Nat × (Nat → Nat)) × (Nat × (Nat → Int32)) × am_M × am_M
abbrev am_Q : Type := am_S → Option am_V → Prop
abbrev am_C : Type := Nat → List am_V → am_S → am_Q → Prop
abbrev am_G : Type := Nat → am_L → List am_V → am_S → Prop
abbrev am_T : Type := am_C → am_G → am_Q → am_L → List am_V → am_S → Prop
def am_limC : Nat := 700000
def am_limS : Nat := 6000000
def am_u {α : Type} (m : Nat → Nat → Nat → α) (f a i : Nat) (v : α) : Nat → Nat → Nat → α := fun f' a' i' => if f' = f ∧ a' = a ∧ i' = i then v else m f' a' i'
def am_mI (m : am_M) (f a i : Nat) (v : Int32) : am_M := (am_u m.1 f a i v, m.2)
def am_mP (m : am_M) (f a i : Nat) (v : Option Nat) : am_M := (m.1, am_u m.2 f a i v)
def am_mz (m : am_M) (a : Nat) : am_M := (fun f a' i => if a' = a then 0 else m.1 f a' i, fun f a' i => if a' = a then none else m.2 f a' i)
def am_gI (S : am_S) (f a i : Nat) : Int32 := if f < 5000 then S.2.2.1.1 f a i else S.2.2.2.1 f a i
def am_gP (S : am_S) (f a i : Nat) : Option Nat := if f < 5000 then S.2.2.1.2 f a i else S.2.2.2.2 f a i
def am_sI (S : am_S) (f a i : Nat) (v : Int32) : am_S := if f < 5000 then (S.1, S.2.1, am_mI S.2.2.1 f a i v, S.2.2.2) else (S.1, S.2.1, S.2.2.1, am_mI S.2.2.2 f a i v)
def am_sP (S : am_S) (f a i : Nat) (v : Option Nat) : am_S := if f < 5000 then (S.1, S.2.1, am_mP S.2.2.1 f a i v, S.2.2.2) else (S.1, S.2.1, S.2.2.1, am_mP S.2.2.2 f a i v)
def am_nw (S : am_S) (k n : Nat) : am_S :=
  ((S.1.1 + 1, S.1.2.1 + n, fun a => if a = S.1.1 + 1 then k else S.1.2.2 a), S.2.1, (if k < 50 then am_mz S.2.2.1 (S.1.1 + 1) else S.2.2.1), (if k < 50 then S.2.2.2 else am_mz S.2.2.2 (S.1.1 + 1)))
def am_lv (S : am_S) (a k : Nat) : Prop := 0 < a ∧ a ≤ S.1.1 ∧ S.1.2.2 a = k
def ai_push (z : Int32) (nx : Nat) : am_T := fun _ go _ ls st S => go nx ls (.inl z :: st) S
def ai_null (nx : Nat) : am_T := fun _ go _ ls st S => go nx ls (.inr none :: st) S
def ai_iload (n nx : Nat) : am_T := fun _ go _ ls st S => ∃ v : Int32, ls[n]? = some (some (.inl v)) ∧ go nx ls (.inl v :: st) S
def ai_aload (n nx : Nat) : am_T := fun _ go _ ls st S => ∃ v : Option Nat, ls[n]? = some (some (.inr v)) ∧ go nx ls (.inr v :: st) S
def ai_istore (n nx : Nat) : am_T := fun _ go _ ls st S => ∃ (v : Int32) (r : List am_V), st = .inl v :: r ∧ go nx (ls.set n (some (.inl v))) r S
def ai_astore (n nx : Nat) : am_T := fun _ go _ ls st S => ∃ (v : Option Nat) (r : List am_V), st = .inr v :: r ∧ go nx (ls.set n (some (.inr v))) r S
def ai_iinc (n : Nat) (z : Int32) (nx : Nat) : am_T := fun _ go _ ls st S => ∃ v : Int32, ls[n]? = some (some (.inl v)) ∧ go nx (ls.set n (some (.inl (v + z)))) st S
def ai_bin (f : Int32 → Int32 → Int32) (nx : Nat) : am_T := fun _ go _ ls st S => ∃ (x y : Int32) (r : List am_V), st = .inl y :: .inl x :: r ∧ go nx ls (.inl (f x y) :: r) S
def ai_div (f : Int32 → Int32 → Int32) (nx : Nat) : am_T := fun _ go _ ls st S => ∃ (x y : Int32) (r : List am_V), st = .inl y :: .inl x :: r ∧ ¬ y = 0 ∧ go nx ls (.inl (f x y) :: r) S
def ai_if (c : Int32 → Prop) (tg nx : Nat) : am_T := fun _ go _ ls st S => ∃ (x : Int32) (r : List am_V), st = .inl x :: r ∧ (c x → go tg ls r S) ∧ (¬ c x → go nx ls r S)
def ai_icmp (c : Int32 → Int32 → Prop) (tg nx : Nat) : am_T := fun _ go _ ls st S => ∃ (x y : Int32) (r : List am_V), st = .inl y :: .inl x :: r ∧ (c x y → go tg ls r S) ∧ (¬ c x y → go nx ls r S)
def ai_ifnull (tg nx : Nat) : am_T := fun _ go _ ls st S => ∃ (v : Option Nat) (r : List am_V), st = .inr v :: r ∧ (v = none → go tg ls r S) ∧ (∀ a, v = some a → go nx ls r S)
def ai_ifnonnull (tg nx : Nat) : am_T := fun _ go _ ls st S => ∃ (v : Option Nat) (r : List am_V), st = .inr v :: r ∧ (∀ a, v = some a → go tg ls r S) ∧ (v = none → go nx ls r S)
def ai_goto (tg : Nat) : am_T := fun _ go _ ls st S => go tg ls st S
def ai_dup (nx : Nat) : am_T := fun _ go _ ls st S => ∃ (v : am_V) (r : List am_V), st = v :: r ∧ go nx ls (v :: v :: r) S
def ai_dupx1 (nx : Nat) : am_T := fun _ go _ ls st S => ∃ (v w : am_V) (r : List am_V), st = v :: w :: r ∧ go nx ls (v :: w :: v :: r) S
def ai_dup2 (nx : Nat) : am_T := fun _ go _ ls st S => ∃ (v w : am_V) (r : List am_V), st = v :: w :: r ∧ go nx ls (v :: w :: v :: w :: r) S
def ai_pop (nx : Nat) : am_T := fun _ go _ ls st S => ∃ (v : am_V) (r : List am_V), st = v :: r ∧ go nx ls r S
def ai_getI (k f nx : Nat) : am_T := fun _ go _ ls st S => ∃ (a : Nat) (r : List am_V), st = .inr (some a) :: r ∧ am_lv S a k ∧ go nx ls (.inl (am_gI S (100 * k + f) a 0) :: r) S
def ai_getP (k f nx : Nat) : am_T := fun _ go _ ls st S => ∃ (a : Nat) (r : List am_V), st = .inr (some a) :: r ∧ am_lv S a k ∧ go nx ls (.inr (am_gP S (100 * k + f) a 0) :: r) S
def ai_putI (k f nx : Nat) : am_T := fun _ go _ ls st S => ∃ (v : Int32) (a : Nat) (r : List am_V), st = .inl v :: .inr (some a) :: r ∧ am_lv S a k ∧ go nx ls r (am_sI S (100 * k + f) a 0 v)
def ai_putZ (k f nx : Nat) : am_T := fun _ go _ ls st S => ∃ (v : Int32) (a : Nat) (r : List am_V), st = .inl v :: .inr (some a) :: r ∧ am_lv S a k ∧ (v = 0 ∨ v = 1) ∧ go nx ls r (am_sI S (100 * k + f) a 0 v)
def ai_putP (k f nx : Nat) : am_T := fun _ go _ ls st S => ∃ (v : Option Nat) (a : Nat) (r : List am_V), st = .inr v :: .inr (some a) :: r ∧ am_lv S a k ∧ go nx ls r (am_sP S (100 * k + f) a 0 v)
def ai_ald (k n nx : Nat) : am_T := fun _ go _ ls st S => ∃ (i : Int32) (a : Nat) (r : List am_V), st = .inl i :: .inr (some a) :: r ∧ am_lv S a k ∧ vp_in i n ∧ go nx ls (.inl (am_gI S (100 * k) a i.toNatClampNeg) :: r) S
def ai_aald (k n nx : Nat) : am_T := fun _ go _ ls st S => ∃ (i : Int32) (a : Nat) (r : List am_V), st = .inl i :: .inr (some a) :: r ∧ am_lv S a k ∧ vp_in i n ∧ go nx ls (.inr (am_gP S (100 * k) a i.toNatClampNeg) :: r) S
def ai_ast (k n nx : Nat) : am_T := fun _ go _ ls st S => ∃ (v i : Int32) (a : Nat) (r : List am_V), st = .inl v :: .inl i :: .inr (some a) :: r ∧ am_lv S a k ∧ vp_in i n ∧ go nx ls r (am_sI S (100 * k) a i.toNatClampNeg v)
def ai_zast (k n nx : Nat) : am_T := fun _ go _ ls st S => ∃ (v i : Int32) (a : Nat) (r : List am_V), st = .inl v :: .inl i :: .inr (some a) :: r ∧ am_lv S a k ∧ vp_in i n ∧ (v = 0 ∨ v = 1) ∧ go nx ls r (am_sI S (100 * k) a i.toNatClampNeg v)
def ai_aast (k n k2 nx : Nat) : am_T := fun _ go _ ls st S => ∃ (v : Option Nat) (i : Int32) (a : Nat) (r : List am_V), st = .inr v :: .inl i :: .inr (some a) :: r ∧ am_lv S a k ∧ vp_in i n ∧ (∀ q, v = some q → am_lv S q k2) ∧ go nx ls r (am_sP S (100 * k) a i.toNatClampNeg v)
def ai_sld (nx : Nat) : am_T := fun _ go _ ls st S => ∃ (i : Int32) (r : List am_V), st = .inl i :: .inr (some 0) :: r ∧ vp_in i S.2.1.1 ∧ go nx ls (.inl (S.2.1.2 i.toNatClampNeg) :: r) S
def ai_slen (nx : Nat) : am_T := fun _ go _ ls st S => ∃ r : List am_V, st = .inr (some 0) :: r ∧ go nx ls (.inl (Int32.ofNat S.2.1.1) :: r) S
def ai_new (k n nx : Nat) : am_T := fun _ go _ ls st S => S.1.1 + 1 ≤ am_limC ∧ S.1.2.1 + n ≤ am_limS ∧ go nx ls (.inr (some (S.1.1 + 1)) :: st) (am_nw S k n)
def ai_newa (k n nx : Nat) : am_T := fun _ go _ ls st S => ∃ (i : Int32) (r : List am_V), st = .inl i :: r ∧ i = nI n ∧ S.1.1 + 1 ≤ am_limC ∧ S.1.2.1 + n ≤ am_limS ∧ go nx ls (.inr (some (S.1.1 + 1)) :: r) (am_nw S k n)
def ai_oinit (nx : Nat) : am_T := fun _ go _ ls st S => ∃ (a : Nat) (r : List am_V), st = .inr (some a) :: r ∧ r.length ≤ 8 ∧ go nx ls r S
def ai_max (nx : Nat) : am_T := fun _ go _ ls st S => ∃ (x y : Int32) (r : List am_V), st = .inl y :: .inl x :: r ∧ r.length ≤ 8 ∧ go nx ls (.inl (if x < y then y else x) :: r) S
def ai_callV (j k n nx : Nat) : am_T := fun C go _ ls st S => ∃ (a : Nat) (as r : List am_V), st = as.reverse ++ .inr (some a) :: r ∧ as.length = n ∧ r.length ≤ 8 ∧ am_lv S a k ∧ C j (.inr (some a) :: as) S (fun S' v => go nx ls (v.toList ++ r) S')
def ai_callS (j n nx : Nat) : am_T := fun C go _ ls st S => ∃ as r : List am_V, st = as.reverse ++ r ∧ as.length = n ∧ r.length ≤ 8 ∧ C j as S (fun S' v => go nx ls (v.toList ++ r) S')
def ai_iret : am_T := fun _ _ Q _ st S => ∃ v : Int32, st = [.inl v] ∧ Q S (some (.inl v))
def ai_zret : am_T := fun _ _ Q _ st S => ∃ v : Int32, st = [.inl v] ∧ (v = 0 ∨ v = 1) ∧ Q S (some (.inl v))
def ai_ret : am_T := fun _ _ Q _ st S => st = [] ∧ Q S none
def ai_switch (lo hi : Int) (tg : List Nat) (df : Nat) : am_T := fun _ go _ ls st S => ∃ (x : Int32) (r : List am_V), st = .inl x :: r ∧ (x.toInt < lo ∨ hi < x.toInt → go df ls r S) ∧ (∀ i : Nat, x.toInt = lo + i → x.toInt ≤ hi → ∀ t, tg[i]? = some t → go t ls r S)
def am_mul (S : am_S) (k k2 : Nat) : Nat → am_S
  | 0 => am_nw S k 5
  | i + 1 => am_sP (am_nw (am_mul S k k2 i) k2 5) (100 * k) (S.1.1 + 1) i (some (S.1.1 + 2 + i))
def ai_multi (k k2 nx : Nat) : am_T := fun _ go _ ls st S => ∃ r : List am_V, st = .inl (nI 5) :: .inl (nI 5) :: r ∧ S.1.1 + 6 ≤ am_limC ∧ S.1.2.1 + 30 ≤ am_limS ∧ go nx ls (.inr (some (S.1.1 + 1)) :: r) (am_mul S k k2 5)
end
section
def am_le (C C' : am_C) : Prop := ∀ (j : Nat) (as : List am_V) (S : am_S) (Q1 Q2 : am_Q), (∀ S' v, Q1 S' v → Q2 S' v) → C j as S Q1 → C' j as S Q2
def am_mono (t : am_T) : Prop := ∀ (C C' : am_C) (go go' : am_G) (Q Q' : am_Q) (ls : am_L) (st : List am_V) (S : am_S), am_le C C' → (∀ pc ls st S, go pc ls st S → go' pc ls st S) → (∀ S v, Q S v → Q' S v) → t C go Q ls st S → t C' go' Q' ls st S
theorem mn_push (z : Int32) (nx : Nat) : am_mono (ai_push z nx) := fun _ _ _ _ _ _ _ _ _ _ hg _ h => hg _ _ _ _ h
theorem mn_null (nx : Nat) : am_mono (ai_null nx) := fun _ _ _ _ _ _ _ _ _ _ hg _ h => hg _ _ _ _ h
theorem mn_goto (tg : Nat) : am_mono (ai_goto tg) := fun _ _ _ _ _ _ _ _ _ _ hg _ h => hg _ _ _ _ h
theorem mn_iload (n nx : Nat) : am_mono (ai_iload n nx) := fun _ _ _ _ _ _ _ _ _ _ hg _ h => by
  obtain ⟨v, h1, h⟩ := h
  exact ⟨v, h1, hg _ _ _ _ h⟩
theorem mn_aload (n nx : Nat) : am_mono (ai_aload n nx) := fun _ _ _ _ _ _ _ _ _ _ hg _ h => by
  obtain ⟨v, h1, h⟩ := h
  exact ⟨v, h1, hg _ _ _ _ h⟩
theorem mn_istore (n nx : Nat) : am_mono (ai_istore n nx) := fun _ _ _ _ _ _ _ _ _ _ hg _ h => by
  obtain ⟨v, r, h1, h⟩ := h
  exact ⟨v, r, h1, hg _ _ _ _ h⟩
theorem mn_astore (n nx : Nat) : am_mono (ai_astore n nx) := fun _ _ _ _ _ _ _ _ _ _ hg _ h => by
  obtain ⟨v, r, h1, h⟩ := h
  exact ⟨v, r, h1, hg _ _ _ _ h⟩
theorem mn_iinc (n : Nat) (z : Int32) (nx : Nat) : am_mono (ai_iinc n z nx) := fun _ _ _ _ _ _ _ _ _ _ hg _ h => by
  obtain ⟨v, h1, h⟩ := h
  exact ⟨v, h1, hg _ _ _ _ h⟩
theorem mn_bin (f : Int32 → Int32 → Int32) (nx : Nat) : am_mono (ai_bin f nx) := fun _ _ _ _ _ _ _ _ _ _ hg _ h => by
  obtain ⟨x, y, r, h1, h⟩ := h
  exact ⟨x, y, r, h1, hg _ _ _ _ h⟩
theorem mn_div (f : Int32 → Int32 → Int32) (nx : Nat) : am_mono (ai_div f nx) := fun _ _ _ _ _ _ _ _ _ _ hg _ h => by
  obtain ⟨x, y, r, h1, h2, h⟩ := h
  exact ⟨x, y, r, h1, h2, hg _ _ _ _ h⟩
theorem mn_if (c : Int32 → Prop) (tg nx : Nat) : am_mono (ai_if c tg nx) := fun _ _ _ _ _ _ _ _ _ _ hg _ h => by
  obtain ⟨x, r, h1, h2, h3⟩ := h
  exact ⟨x, r, h1, fun q => hg _ _ _ _ (h2 q), fun q => hg _ _ _ _ (h3 q)⟩
theorem mn_icmp (c : Int32 → Int32 → Prop) (tg nx : Nat) : am_mono (ai_icmp c tg nx) := fun _ _ _ _ _ _ _ _ _ _ hg _ h => by
  obtain ⟨x, y, r, h1, h2, h3⟩ := h
  exact ⟨x, y, r, h1, fun q => hg _ _ _ _ (h2 q), fun q => hg _ _ _ _ (h3 q)⟩
theorem mn_ifnull (tg nx : Nat) : am_mono (ai_ifnull tg nx) := fun _ _ _ _ _ _ _ _ _ _ hg _ h => by
  obtain ⟨v, r, h1, h2, h3⟩ := h
  exact ⟨v, r, h1, fun q => hg _ _ _ _ (h2 q), fun a q => hg _ _ _ _ (h3 a q)⟩
theorem mn_ifnonnull (tg nx : Nat) : am_mono (ai_ifnonnull tg nx) := fun _ _ _ _ _ _ _ _ _ _ hg _ h => by
  obtain ⟨v, r, h1, h2, h3⟩ := h
  exact ⟨v, r, h1, fun a q => hg _ _ _ _ (h2 a q), fun q => hg _ _ _ _ (h3 q)⟩
theorem mn_dup (nx : Nat) : am_mono (ai_dup nx) := fun _ _ _ _ _ _ _ _ _ _ hg _ h => by
  obtain ⟨v, r, h1, h⟩ := h
  exact ⟨v, r, h1, hg _ _ _ _ h⟩
theorem mn_dupx1 (nx : Nat) : am_mono (ai_dupx1 nx) := fun _ _ _ _ _ _ _ _ _ _ hg _ h => by
  obtain ⟨v, w, r, h1, h⟩ := h
  exact ⟨v, w, r, h1, hg _ _ _ _ h⟩
theorem mn_dup2 (nx : Nat) : am_mono (ai_dup2 nx) := fun _ _ _ _ _ _ _ _ _ _ hg _ h => by
  obtain ⟨v, w, r, h1, h⟩ := h
  exact ⟨v, w, r, h1, hg _ _ _ _ h⟩
theorem mn_pop (nx : Nat) : am_mono (ai_pop nx) := fun _ _ _ _ _ _ _ _ _ _ hg _ h => by
  obtain ⟨v, r, h1, h⟩ := h
  exact ⟨v, r, h1, hg _ _ _ _ h⟩
theorem mn_getI (k f nx : Nat) : am_mono (ai_getI k f nx) := fun _ _ _ _ _ _ _ _ _ _ hg _ h => by
  obtain ⟨a, r, h1, h2, h⟩ := h
  exact ⟨a, r, h1, h2, hg _ _ _ _ h⟩
theorem mn_getP (k f nx : Nat) : am_mono (ai_getP k f nx) := fun _ _ _ _ _ _ _ _ _ _ hg _ h => by
  obtain ⟨a, r, h1, h2, h⟩ := h
  exact ⟨a, r, h1, h2, hg _ _ _ _ h⟩
theorem mn_putI (k f nx : Nat) : am_mono (ai_putI k f nx) := fun _ _ _ _ _ _ _ _ _ _ hg _ h => by
  obtain ⟨v, a, r, h1, h2, h⟩ := h
  exact ⟨v, a, r, h1, h2, hg _ _ _ _ h⟩
theorem mn_putZ (k f nx : Nat) : am_mono (ai_putZ k f nx) := fun _ _ _ _ _ _ _ _ _ _ hg _ h => by
  obtain ⟨v, a, r, h1, h2, h3, h⟩ := h
  exact ⟨v, a, r, h1, h2, h3, hg _ _ _ _ h⟩
theorem mn_putP (k f nx : Nat) : am_mono (ai_putP k f nx) := fun _ _ _ _ _ _ _ _ _ _ hg _ h => by
  obtain ⟨v, a, r, h1, h2, h⟩ := h
  exact ⟨v, a, r, h1, h2, hg _ _ _ _ h⟩
theorem mn_ald (k n nx : Nat) : am_mono (ai_ald k n nx) := fun _ _ _ _ _ _ _ _ _ _ hg _ h => by
  obtain ⟨i, a, r, h1, h2, h3, h⟩ := h
  exact ⟨i, a, r, h1, h2, h3, hg _ _ _ _ h⟩
theorem mn_aald (k n nx : Nat) : am_mono (ai_aald k n nx) := fun _ _ _ _ _ _ _ _ _ _ hg _ h => by
  obtain ⟨i, a, r, h1, h2, h3, h⟩ := h
  exact ⟨i, a, r, h1, h2, h3, hg _ _ _ _ h⟩
theorem mn_ast (k n nx : Nat) : am_mono (ai_ast k n nx) := fun _ _ _ _ _ _ _ _ _ _ hg _ h => by
  obtain ⟨v, i, a, r, h1, h2, h3, h⟩ := h
  exact ⟨v, i, a, r, h1, h2, h3, hg _ _ _ _ h⟩
theorem mn_zast (k n nx : Nat) : am_mono (ai_zast k n nx) := fun _ _ _ _ _ _ _ _ _ _ hg _ h => by
  obtain ⟨v, i, a, r, h1, h2, h3, h4, h⟩ := h
  exact ⟨v, i, a, r, h1, h2, h3, h4, hg _ _ _ _ h⟩
theorem mn_aast (k n k2 nx : Nat) : am_mono (ai_aast k n k2 nx) := fun _ _ _ _ _ _ _ _ _ _ hg _ h => by
  obtain ⟨v, i, a, r, h1, h2, h3, h4, h⟩ := h
  exact ⟨v, i, a, r, h1, h2, h3, h4, hg _ _ _ _ h⟩
theorem mn_sld (nx : Nat) : am_mono (ai_sld nx) := fun _ _ _ _ _ _ _ _ _ _ hg _ h => by
  obtain ⟨i, r, h1, h2, h⟩ := h
  exact ⟨i, r, h1, h2, hg _ _ _ _ h⟩
theorem mn_slen (nx : Nat) : am_mono (ai_slen nx) := fun _ _ _ _ _ _ _ _ _ _ hg _ h => by
  obtain ⟨r, h1, h⟩ := h
  exact ⟨r, h1, hg _ _ _ _ h⟩
theorem mn_new (k n nx : Nat) : am_mono (ai_new k n nx) := fun _ _ _ _ _ _ _ _ _ _ hg _ h => by
  obtain ⟨h1, h2, h⟩ := h
  exact ⟨h1, h2, hg _ _ _ _ h⟩
theorem mn_newa (k n nx : Nat) : am_mono (ai_newa k n nx) := fun _ _ _ _ _ _ _ _ _ _ hg _ h => by
  obtain ⟨i, r, h1, h2, h3, h4, h⟩ := h
  exact ⟨i, r, h1, h2, h3, h4, hg _ _ _ _ h⟩
theorem mn_max (nx : Nat) : am_mono (ai_max nx) := fun _ _ _ _ _ _ _ _ _ _ hg _ h => by
  obtain ⟨x, y, r, h1, h2, h⟩ := h
  exact ⟨x, y, r, h1, h2, hg _ _ _ _ h⟩
theorem mn_multi (k k2 nx : Nat) : am_mono (ai_multi k k2 nx) := fun _ _ _ _ _ _ _ _ _ _ hg _ h => by
  obtain ⟨r, h1, h2, h3, h⟩ := h
  exact ⟨r, h1, h2, h3, hg _ _ _ _ h⟩
theorem mn_oinit (nx : Nat) : am_mono (ai_oinit nx) := fun _ _ _ _ _ _ _ _ _ _ hg _ h => by
  obtain ⟨a, r, h1, h2, h⟩ := h
  exact ⟨a, r, h1, h2, hg _ _ _ _ h⟩
theorem mn_switch (lo hi : Int) (tg : List Nat) (df : Nat) : am_mono (ai_switch lo hi tg df) := fun _ _ _ _ _ _ _ _ _ _ hg _ h => by
  obtain ⟨x, r, h1, h2, h3⟩ := h
  exact ⟨x, r, h1, fun q => hg _ _ _ _ (h2 q), fun i q1 q2 t q3 => hg _ _ _ _ (h3 i q1 q2 t q3)⟩
theorem mn_callV (j k n nx : Nat) : am_mono (ai_callV j k n nx) := fun _ _ _ _ _ _ _ _ _ hC hg _ h => by
  obtain ⟨a, as, r, h1, h2, h3, h4, h⟩ := h
  exact ⟨a, as, r, h1, h2, h3, h4, hC _ _ _ _ _ (fun _ _ q => hg _ _ _ _ q) h⟩
theorem mn_callS (j n nx : Nat) : am_mono (ai_callS j n nx) := fun _ _ _ _ _ _ _ _ _ hC hg _ h => by
  obtain ⟨as, r, h1, h2, h3, h⟩ := h
  exact ⟨as, r, h1, h2, h3, hC _ _ _ _ _ (fun _ _ q => hg _ _ _ _ q) h⟩
theorem mn_iret : am_mono ai_iret := fun _ _ _ _ _ _ _ _ _ _ _ hQ h => by
  obtain ⟨v, h1, h⟩ := h
  exact ⟨v, h1, hQ _ _ h⟩
theorem mn_zret : am_mono ai_zret := fun _ _ _ _ _ _ _ _ _ _ _ hQ h => by
  obtain ⟨v, h1, h2, h⟩ := h
  exact ⟨v, h1, h2, hQ _ _ h⟩
theorem mn_ret : am_mono ai_ret := fun _ _ _ _ _ _ _ _ _ _ _ hQ h => ⟨h.1, hQ _ _ h.2⟩
end
section
def am_nLs : List Nat := [2, 4, 3, 2, 7, 2, 2, 1, 2, 1, 2, 2, 3, 1, 3, 2, 3, 2, 2, 3, 2, 5, 2, 1, 6, 2, 1, 4, 4, 5, 4, 11, 2, 4, 6, 3, 4, 3, 4, 4, 4, 5, 6, 3, 3, 3, 8, 2, 1, 1, 3, 2, 3, 1, 4, 4, 3, 4, 3, 6, 2, 5, 4, 7, 7, 7, 1, 1, 3, 4, 4, 7, 4, 4, 4, 5, 3, 3, 6, 6, 5, 3, 4, 4, 4, 6, 5, 8, 4, 4, 3, 3, 4, 5, 6, 5, 3, 6, 11, 9, 2, 4]
def am_nL (j : Nat) : Nat := am_nLs.getD j 0
def am_jL : Nat := 101
def am_c0 : List (Nat × am_T) := [(0, ai_iload 0 1), (1, ai_iload 1 2), (2, ai_icmp (fun x y => x < y) 9 5), (5, ai_iload 0 6), (6, ai_goto 10), (9, ai_iload 1 10), (10, ai_iret)]
def am_c1 : List (Nat × am_T) := [(0, ai_aload 0 1), (1, ai_oinit 4), (4, ai_aload 0 5), (5, ai_iload 1 6), (6, ai_putI 22 0 9), (9, ai_aload 0 10), (10, ai_iload 2 11), (11, ai_putI 22 1 14), (14, ai_aload 0 15), (15, ai_iload 3 16), (16, ai_putI 22 2 19), (19, ai_ret)]
def am_c2 : List (Nat × am_T) := [(0, ai_push 8 2), (2, ai_aload 0 3), (3, ai_getI 22 1 6), (6, ai_bin (fun x y => x - y) 7), (7, ai_istore 2 8), (8, ai_iload 1 9), (9, ai_iload 2 10), (10, ai_bin (fun x y => x >>> (y &&& 31)) 11), (11, ai_aload 0 12), (12, ai_getI 22 0 15), (15, ai_iload 2 16), (16, ai_bin (fun x y => x >>> (y &&& 31)) 17), (17, ai_icmp (fun x y => ¬ x = y) 24 20), (20, ai_push 1 21), (21, ai_goto 25), (24, ai_push 0 25), (25, ai_zret)]
def am_c3 : List (Nat × am_T) := [(0, ai_aload 0 1), (1, ai_ifnull 8 4), (4, ai_aload 1 5), (5, ai_ifnonnull 22 8), (8, ai_aload 0 9), (9, ai_ifnonnull 20 12), (12, ai_aload 1 13), (13, ai_ifnonnull 20 16), (16, ai_push 1 17), (17, ai_goto 21), (20, ai_push 0 21), (21, ai_zret), (22, ai_aload 0 23), (23, ai_getI 22 0 26), (26, ai_aload 1 27), (27, ai_getI 22 0 30), (30, ai_icmp (fun x y => ¬ x = y) 59 33), (33, ai_aload 0 34), (34, ai_getI 22 1 37), (37, ai_aload 1 38), (38, ai_getI 22 1 41), (41, ai_icmp (fun x y => ¬ x = y) 59 44), (44, ai_aload 0 45), (45, ai_getI 22 2 48), (48, ai_aload 1 49), (49, ai_getI 22 2 52), (52, ai_icmp (fun x y => ¬ x = y) 59 55), (55, ai_push 1 56), (56, ai_goto 60), (59, ai_push 0 60), (60, ai_zret)]
def am_c4 : List (Nat × am_T) := [(0, ai_aload 0 1), (1, ai_oinit 4), (4, ai_aload 0 5), (5, ai_iload 1 6), (6, ai_putI 19 0 9), (9, ai_aload 0 10), (10, ai_iload 2 11), (11, ai_putI 19 1 14), (14, ai_aload 0 15), (15, ai_iload 3 16), (16, ai_putI 19 2 19), (19, ai_aload 0 20), (20, ai_push 5 21), (21, ai_newa 20 5 23), (23, ai_putP 19 3 26), (26, ai_push 0 27), (27, ai_istore 6 29), (29, ai_iload 6 31), (31, ai_push 5 32), (32, ai_icmp (fun x y => y ≤ x) 56 35), (35, ai_aload 0 36), (36, ai_getP 19 3 39), (39, ai_iload 6 41), (41, ai_aload 4 43), (43, ai_iload 6 45), (45, ai_aald 6 5 46), (46, ai_callV 13 7 0 49), (49, ai_ast 20 5 50), (50, ai_iinc 6 1 53), (53, ai_goto 29), (56, ai_aload 0 57), (57, ai_push 2 58), (58, ai_newa 21 2 61), (61, ai_putP 19 4 64), (64, ai_push 0 65), (65, ai_istore 6 67), (67, ai_iload 6 69), (69, ai_push 2 70), (70, ai_icmp (fun x y => y ≤ x) 91 73), (73, ai_aload 0 74), (74, ai_getP 19 4 77), (77, ai_iload 6 79), (79, ai_aload 5 81), (81, ai_iload 6 83), (83, ai_aald 4 2 84), (84, ai_aast 21 2 22 85), (85, ai_iinc 6 1 88), (88, ai_goto 67), (91, ai_ret)]
def am_c5 : List (Nat × am_T) := [(0, ai_aload 0 1), (1, ai_getI 19 1 4), (4, ai_aload 1 5), (5, ai_getI 19 1 8), (8, ai_icmp (fun x y => y < x) 33 11), (11, ai_aload 0 12), (12, ai_getI 19 1 15), (15, ai_aload 1 16), (16, ai_getI 19 1 19), (19, ai_icmp (fun x y => ¬ x = y) 37 22), (22, ai_aload 0 23), (23, ai_getI 19 2 26), (26, ai_aload 1 27), (27, ai_getI 19 2 30), (30, ai_icmp (fun x y => x ≤ y) 37 33), (33, ai_push 1 34), (34, ai_goto 38), (37, ai_push 0 38), (38, ai_zret)]
def am_c6 : List (Nat × am_T) := [(0, ai_aload 0 1), (1, ai_getI 19 1 4), (4, ai_aload 1 5), (5, ai_getI 19 1 8), (8, ai_icmp (fun x y => ¬ x = y) 26 11), (11, ai_aload 0 12), (12, ai_getI 19 2 15), (15, ai_aload 1 16), (16, ai_getI 19 2 19), (19, ai_icmp (fun x y => ¬ x = y) 26 22), (22, ai_push 1 23), (23, ai_goto 27), (26, ai_push 0 27), (27, ai_zret)]
def am_c7 : List (Nat × am_T) := [(0, ai_aload 0 1), (1, ai_oinit 4), (4, ai_aload 0 5), (5, ai_push 5 6), (6, ai_newa 8 5 8), (8, ai_putP 7 8 11), (11, ai_aload 0 12), (12, ai_callV 10 7 0 15), (15, ai_ret)]
def am_c8 : List (Nat × am_T) := [(0, ai_aload 0 1), (1, ai_iload 1 2), (2, ai_putI 7 0 5), (5, ai_iload 1 6), (6, ai_if (fun x => ¬ x = 0) 18 9), (9, ai_aload 0 10), (10, ai_push 0 11), (11, ai_putI 7 1 14), (14, ai_aload 0 15), (15, ai_callV 9 7 0 18), (18, ai_ret)]
def am_c9 : List (Nat × am_T) := [(0, ai_aload 0 1), (1, ai_push 0 2), (2, ai_putZ 7 2 5), (5, ai_aload 0 6), (6, ai_push 0 7), (7, ai_putI 7 4 10), (10, ai_aload 0 11), (11, ai_push 0 12), (12, ai_putZ 7 5 15), (15, ai_aload 0 16), (16, ai_push 0 17), (17, ai_putZ 7 6 20), (20, ai_aload 0 21), (21, ai_callV 10 7 0 24), (24, ai_ret)]
def am_c10 : List (Nat × am_T) := [(0, ai_push 0 1), (1, ai_istore 1 2), (2, ai_iload 1 3), (3, ai_push 5 4), (4, ai_icmp (fun x y => y ≤ x) 21 7), (7, ai_aload 0 8), (8, ai_getP 7 8 11), (11, ai_iload 1 12), (12, ai_push (-2) 14), (14, ai_ast 8 5 15), (15, ai_iinc 1 1 18), (18, ai_goto 2), (21, ai_ret)]
def am_c11 : List (Nat × am_T) := [(0, ai_aload 0 1), (1, ai_getP 7 8 4), (4, ai_iload 1 5), (5, ai_ald 8 5 6), (6, ai_push (-2) 8), (8, ai_icmp (fun x y => ¬ x = y) 18 11), (11, ai_aload 0 12), (12, ai_getP 7 8 15), (15, ai_iload 1 16), (16, ai_push (-1) 17), (17, ai_ast 8 5 18), (18, ai_ret)]
def am_c12 : List (Nat × am_T) := [(0, ai_aload 0 1), (1, ai_getI 7 4 4), (4, ai_iload 1 5), (5, ai_push 5 6), (6, ai_bin (fun x y => x - y) 7), (7, ai_icmp (fun x y => y < x) 20 10), (10, ai_aload 0 11), (11, ai_push 0 12), (12, ai_putZ 7 2 15), (15, ai_aload 0 16), (16, ai_push 0 17), (17, ai_putZ 7 5 20), (20, ai_aload 0 21), (21, ai_getI 7 6 24), (24, ai_istore 2 25), (25, ai_aload 0 26), (26, ai_aload 0 27), (27, ai_getI 7 2 30), (30, ai_if (fun x => x = 0) 44 33), (33, ai_aload 0 34), (34, ai_getI 7 5 37), (37, ai_if (fun x => x = 0) 44 40), (40, ai_push 1 41), (41, ai_goto 45), (44, ai_push 0 45), (45, ai_putZ 7 6 48), (48, ai_aload 0 49), (49, ai_aload 0 50), (50, ai_getI 7 6 53), (53, ai_if (fun x => x = 0) 64 56), (56, ai_iload 2 57), (57, ai_if (fun x => ¬ x = 0) 64 60), (60, ai_push 1 61), (61, ai_goto 65), (64, ai_push 0 65), (65, ai_putZ 7 7 68), (68, ai_aload 0 69), (69, ai_getI 7 6 72), (72, ai_if (fun x => ¬ x = 0) 79 75), (75, ai_aload 0 76), (76, ai_callV 10 7 0 79), (79, ai_ret)]
def am_c13 : List (Nat × am_T) := [(0, ai_aload 0 1), (1, ai_getI 7 6 4), (4, ai_if (fun x => x = 0) 14 7), (7, ai_aload 0 8), (8, ai_getI 7 0 11), (11, ai_goto 15), (14, ai_push 0 15), (15, ai_iret)]
def am_c14 : List (Nat × am_T) := [(0, ai_aload 0 1), (1, ai_oinit 4), (4, ai_aload 0 5), (5, ai_iload 1 6), (6, ai_putI 3 0 9), (9, ai_aload 0 10), (10, ai_push 1 11), (11, ai_putZ 3 1 14), (14, ai_aload 0 15), (15, ai_push 2 16), (16, ai_newa 4 2 19), (19, ai_putP 3 5 22), (22, ai_aload 0 23), (23, ai_push 5 24), (24, ai_newa 5 5 27), (27, ai_putP 3 6 30), (30, ai_aload 0 31), (31, ai_push 5 32), (32, ai_newa 6 5 35), (35, ai_putP 3 7 38), (38, ai_push 0 39), (39, ai_istore 2 40), (40, ai_iload 2 41), (41, ai_push 5 42), (42, ai_icmp (fun x y => y ≤ x) 64 45), (45, ai_aload 0 46), (46, ai_getP 3 7 49), (49, ai_iload 2 50), (50, ai_new 7 9 53), (53, ai_dup 54), (54, ai_callV 7 7 0 57), (57, ai_aast 6 5 7 58), (58, ai_iinc 2 1 61), (61, ai_goto 40), (64, ai_ret)]
def am_c15 : List (Nat × am_T) := [(0, ai_aload 0 1), (1, ai_push 0 2), (2, ai_putI 3 2 5), (5, ai_aload 0 6), (6, ai_push 0 7), (7, ai_putZ 3 3 10), (10, ai_aload 0 11), (11, ai_null 12), (12, ai_putP 3 4 15), (15, ai_push 0 16), (16, ai_istore 1 17), (17, ai_iload 1 18), (18, ai_push 5 19), (19, ai_icmp (fun x y => y ≤ x) 44 22), (22, ai_aload 0 23), (23, ai_getP 3 6 26), (26, ai_iload 1 27), (27, ai_null 28), (28, ai_aast 5 5 19 29), (29, ai_aload 0 30), (30, ai_getP 3 7 33), (33, ai_iload 1 34), (34, ai_aald 6 5 35), (35, ai_callV 9 7 0 38), (38, ai_iinc 1 1 41), (41, ai_goto 17), (44, ai_ret)]
def am_c16 : List (Nat × am_T) := [(0, ai_aload 0 1), (1, ai_getP 3 6 4), (4, ai_iload 1 5), (5, ai_null 6), (6, ai_aast 5 5 19 7), (7, ai_push 0 8), (8, ai_istore 2 9), (9, ai_iload 2 10), (10, ai_push 5 11), (11, ai_icmp (fun x y => y ≤ x) 33 14), (14, ai_aload 0 15), (15, ai_getP 3 7 18), (18, ai_iload 2 19), (19, ai_aald 6 5 20), (20, ai_getP 7 8 23), (23, ai_iload 1 24), (24, ai_push (-2) 26), (26, ai_ast 8 5 27), (27, ai_iinc 2 1 30), (30, ai_goto 9), (33, ai_ret)]
def am_c17 : List (Nat × am_T) := [(0, ai_push 0 1), (1, ai_istore 1 2), (2, ai_iload 1 3), (3, ai_push 5 4), (4, ai_icmp (fun x y => y ≤ x) 31 7), (7, ai_aload 0 8), (8, ai_getP 3 7 11), (11, ai_iload 1 12), (12, ai_aald 6 5 13), (13, ai_aload 0 14), (14, ai_getP 3 7 17), (17, ai_iload 1 18), (18, ai_aald 6 5 19), (19, ai_getI 7 2 22), (22, ai_putZ 7 3 25), (25, ai_iinc 1 1 28), (28, ai_goto 2), (31, ai_ret)]
def am_c18 : List (Nat × am_T) := [(0, ai_aload 0 1), (1, ai_getP 3 4 4), (4, ai_ifnonnull 9 7), (7, ai_push 1 8), (8, ai_zret), (9, ai_aload 0 10), (10, ai_getP 3 4 13), (13, ai_getI 19 2 16), (16, ai_iload 1 17), (17, ai_push 2 18), (18, ai_bin (fun x y => x - y) 19), (19, ai_icmp (fun x y => x ≤ y) 24 22), (22, ai_push 0 23), (23, ai_zret), (24, ai_aload 0 25), (25, ai_getI 3 3 28), (28, ai_if (fun x => ¬ x = 0) 56 31), (31, ai_aload 0 32), (32, ai_getP 3 4 35), (35, ai_getI 19 2 38), (38, ai_iload 1 39), (39, ai_push 20 41), (41, ai_bin (fun x y => x - y) 42), (42, ai_icmp (fun x y => x ≤ y) 56 45), (45, ai_aload 0 46), (46, ai_aload 0 47), (47, ai_getP 3 4 50), (50, ai_callV 19 3 1 53), (53, ai_if (fun x => ¬ x = 0) 60 56), (56, ai_push 1 57), (57, ai_goto 61), (60, ai_push 0 61), (61, ai_zret)]
def am_c19 : List (Nat × am_T) := [(0, ai_push 0 1), (1, ai_istore 2 2), (2, ai_iload 2 3), (3, ai_push 5 4), (4, ai_icmp (fun x y => y ≤ x) 33 7), (7, ai_aload 1 8), (8, ai_getP 19 3 11), (11, ai_iload 2 12), (12, ai_ald 20 5 13), (13, ai_aload 0 14), (14, ai_getP 3 7 17), (17, ai_iload 2 18), (18, ai_aald 6 5 19), (19, ai_callV 13 7 0 22), (22, ai_icmp (fun x y => x = y) 27 25), (25, ai_push 0 26), (26, ai_zret), (27, ai_iinc 2 1 30), (30, ai_goto 2), (33, ai_push 0 34), (34, ai_istore 2 35), (35, ai_iload 2 36), (36, ai_push 2 37), (37, ai_icmp (fun x y => y ≤ x) 66 40), (40, ai_aload 1 41), (41, ai_getP 19 4 44), (44, ai_iload 2 45), (45, ai_aald 21 2 46), (46, ai_aload 0 47), (47, ai_getP 3 5 50), (50, ai_iload 2 51), (51, ai_aald 4 2 52), (52, ai_callS 3 2 55), (55, ai_if (fun x => ¬ x = 0) 60 58), (58, ai_push 0 59), (59, ai_zret), (60, ai_iinc 2 1 63), (63, ai_goto 35), (66, ai_push 1 67), (67, ai_zret)]
def am_c20 : List (Nat × am_T) := [(0, ai_aload 0 1), (1, ai_dup 2), (2, ai_getI 3 2 5), (5, ai_push 1 6), (6, ai_bin (fun x y => x + y) 7), (7, ai_putI 3 2 10), (10, ai_aload 0 11), (11, ai_new 19 5 14), (14, ai_dup 15), (15, ai_aload 0 16), (16, ai_getI 3 0 19), (19, ai_aload 0 20), (20, ai_getI 3 2 23), (23, ai_iload 1 24), (24, ai_aload 0 25), (25, ai_getP 3 7 28), (28, ai_aload 0 29), (29, ai_getP 3 5 32), (32, ai_callV 4 19 5 35), (35, ai_putP 3 4 38), (38, ai_aload 0 39), (39, ai_push 0 40), (40, ai_putZ 3 3 43), (43, ai_aload 0 44), (44, ai_aload 0 45), (45, ai_getP 3 4 48), (48, ai_aload 0 49), (49, ai_getI 3 0 52), (52, ai_callV 21 3 2 55), (55, ai_ret)]
def am_c21 : List (Nat × am_T) := [(0, ai_aload 1 1), (1, ai_getI 19 0 4), (4, ai_istore 3 5), (5, ai_aload 0 6), (6, ai_getP 3 6 9), (9, ai_iload 3 10), (10, ai_aload 1 11), (11, ai_aast 5 5 19 12), (12, ai_push 0 13), (13, ai_istore 4 15), (15, ai_iload 4 17), (17, ai_push 5 18), (18, ai_icmp (fun x y => y ≤ x) 64 21), (21, ai_aload 0 22), (22, ai_getP 3 7 25), (25, ai_iload 4 27), (27, ai_aald 6 5 28), (28, ai_getP 7 8 31), (31, ai_iload 3 32), (32, ai_aload 0 33), (33, ai_getP 3 7 36), (36, ai_iload 4 38), (38, ai_aald 6 5 39), (39, ai_getI 7 6 42), (42, ai_if (fun x => x = 0) 55 45), (45, ai_iload 4 47), (47, ai_iload 2 48), (48, ai_icmp (fun x y => x = y) 55 51), (51, ai_push (-1) 52), (52, ai_goto 57), (55, ai_push (-2) 57), (57, ai_ast 8 5 58), (58, ai_iinc 4 1 61), (61, ai_goto 15), (64, ai_ret)]
def am_c22 : List (Nat × am_T) := [(0, ai_aload 0 1), (1, ai_aload 0 2), (2, ai_getI 3 2 5), (5, ai_iload 1 6), (6, ai_max 9), (9, ai_putI 3 2 12), (12, ai_aload 0 13), (13, ai_push 1 14), (14, ai_putZ 3 3 17), (17, ai_ret)]
def am_c23 : List (Nat × am_T) := [(0, ai_aload 0 1), (1, ai_oinit 4), (4, ai_aload 0 5), (5, ai_push 5 6), (6, ai_newa 11 5 9), (9, ai_putP 10 1 12), (12, ai_aload 0 13), (13, ai_push 5 14), (14, ai_newa 12 5 16), (16, ai_putP 10 2 19), (19, ai_ret)]
def am_c24 : List (Nat × am_T) := [(0, ai_push 0 1), (1, ai_istore 4 3), (3, ai_push 0 4), (4, ai_istore 5 6), (6, ai_iload 5 8), (8, ai_push 5 9), (9, ai_icmp (fun x y => y ≤ x) 71 12), (12, ai_aload 0 13), (13, ai_getP 10 1 16), (16, ai_iload 5 18), (18, ai_null 19), (19, ai_aast 11 5 19 20), (20, ai_aload 0 21), (21, ai_getP 10 2 24), (24, ai_iload 5 26), (26, ai_push 0 27), (27, ai_zast 12 5 28), (28, ai_aload 1 29), (29, ai_iload 5 31), (31, ai_aald 5 5 32), (32, ai_ifnull 65 35), (35, ai_aload 2 36), (36, ai_iload 5 38), (38, ai_ald 8 5 39), (39, ai_iload 3 40), (40, ai_callS 25 2 43), (43, ai_if (fun x => x = 0) 65 46), (46, ai_aload 0 47), (47, ai_getP 10 1 50), (50, ai_iload 5 52), (52, ai_aload 1 53), (53, ai_iload 5 55), (55, ai_aald 5 5 56), (56, ai_aast 11 5 19 57), (57, ai_aload 2 58), (58, ai_iload 5 60), (60, ai_iload 3 61), (61, ai_ast 8 5 62), (62, ai_iinc 4 1 65), (65, ai_iinc 5 1 68), (68, ai_goto 6), (71, ai_iload 4 73), (73, ai_iret)]
def am_c25 : List (Nat × am_T) := [(0, ai_iload 0 1), (1, ai_push (-2) 3), (3, ai_icmp (fun x y => ¬ x = y) 8 6), (6, ai_push 0 7), (7, ai_zret), (8, ai_iload 0 9), (9, ai_push (-1) 10), (10, ai_icmp (fun x y => x = y) 20 13), (13, ai_iload 0 14), (14, ai_iload 1 15), (15, ai_push 3 16), (16, ai_bin (fun x y => x - y) 17), (17, ai_icmp (fun x y => y < x) 24 20), (20, ai_push 1 21), (21, ai_goto 25), (24, ai_push 0 25), (25, ai_zret)]
def am_c26 : List (Nat × am_T) := [(0, ai_aload 0 1), (1, ai_oinit 4), (4, ai_aload 0 5), (5, ai_push 5 6), (6, ai_push 5 7), (7, ai_multi 14 15 11), (11, ai_putP 13 0 14), (14, ai_aload 0 15), (15, ai_push 5 16), (16, ai_push 5 17), (17, ai_multi 16 17 21), (21, ai_putP 13 1 24), (24, ai_ret)]
def am_c27 : List (Nat × am_T) := [(0, ai_push 0 1), (1, ai_istore 2 2), (2, ai_iload 2 3), (3, ai_push 5 4), (4, ai_icmp (fun x y => y ≤ x) 70 7), (7, ai_push 0 8), (8, ai_istore 3 9), (9, ai_iload 3 10), (10, ai_push 5 11), (11, ai_icmp (fun x y => y ≤ x) 64 14), (14, ai_aload 0 15), (15, ai_getP 13 0 18), (18, ai_iload 2 19), (19, ai_aald 14 5 20), (20, ai_iload 3 21), (21, ai_aload 1 22), (22, ai_iload 2 23), (23, ai_aald 5 5 24), (24, ai_aload 1 25), (25, ai_iload 3 26), (26, ai_aald 5 5 27), (27, ai_iload 2 28), (28, ai_iload 3 29), (29, ai_callS 28 4 32), (32, ai_ast 15 5 33), (33, ai_aload 0 34), (34, ai_getP 13 1 37), (37, ai_iload 2 38), (38, ai_aald 16 5 39), (39, ai_iload 3 40), (40, ai_iload 2 41), (41, ai_iload 3 42), (42, ai_icmp (fun x y => ¬ x = y) 49 45), (45, ai_push 0 46), (46, ai_goto 57), (49, ai_aload 0 50), (50, ai_getP 13 0 53), (53, ai_iload 2 54), (54, ai_aald 14 5 55), (55, ai_iload 3 56), (56, ai_ald 15 5 57), (57, ai_ast 17 5 58), (58, ai_iinc 3 1 61), (61, ai_goto 9), (64, ai_iinc 2 1 67), (67, ai_goto 2), (70, ai_push 0 71), (71, ai_istore 2 72), (72, ai_iload 2 73), (73, ai_push 5 74), (74, ai_icmp (fun x y => y ≤ x) 88 77), (77, ai_aload 0 78), (78, ai_iload 2 79), (79, ai_callV 29 13 1 82), (82, ai_iinc 2 1 85), (85, ai_goto 72), (88, ai_ret)]
def am_c28 : List (Nat × am_T) := [(0, ai_aload 0 1), (1, ai_ifnull 26 4), (4, ai_aload 1 5), (5, ai_ifnull 26 8), (8, ai_aload 0 9), (9, ai_getP 19 3 12), (12, ai_iload 3 13), (13, ai_ald 20 5 14), (14, ai_if (fun x => x = 0) 26 17), (17, ai_aload 1 18), (18, ai_getP 19 3 21), (21, ai_iload 2 22), (22, ai_ald 20 5 23), (23, ai_if (fun x => ¬ x = 0) 30 26), (26, ai_push 1000 29), (29, ai_iret), (30, ai_aload 0 31), (31, ai_getP 19 3 34), (34, ai_iload 3 35), (35, ai_ald 20 5 36), (36, ai_iret)]
def am_c29 : List (Nat × am_T) := [(0, ai_push 0 1), (1, ai_istore 2 2), (2, ai_iload 2 3), (3, ai_push 5 4), (4, ai_icmp (fun x y => y ≤ x) 68 7), (7, ai_push 0 8), (8, ai_istore 3 9), (9, ai_iload 3 10), (10, ai_push 5 11), (11, ai_icmp (fun x y => y ≤ x) 62 14), (14, ai_aload 0 15), (15, ai_getP 13 1 18), (18, ai_iload 2 19), (19, ai_aald 16 5 20), (20, ai_iload 1 21), (21, ai_ald 17 5 22), (22, ai_aload 0 23), (23, ai_getP 13 1 26), (26, ai_iload 1 27), (27, ai_aald 16 5 28), (28, ai_iload 3 29), (29, ai_ald 17 5 30), (30, ai_bin (fun x y => x + y) 31), (31, ai_istore 4 33), (33, ai_iload 4 35), (35, ai_aload 0 36), (36, ai_getP 13 1 39), (39, ai_iload 2 40), (40, ai_aald 16 5 41), (41, ai_iload 3 42), (42, ai_ald 17 5 43), (43, ai_icmp (fun x y => y ≤ x) 56 46), (46, ai_aload 0 47), (47, ai_getP 13 1 50), (50, ai_iload 2 51), (51, ai_aald 16 5 52), (52, ai_iload 3 53), (53, ai_iload 4 55), (55, ai_ast 17 5 56), (56, ai_iinc 3 1 59), (59, ai_goto 9), (62, ai_iinc 2 1 65), (65, ai_goto 2), (68, ai_ret)]
def am_c30 : List (Nat × am_T) := [(0, ai_iload 1 1), (1, ai_iload 2 2), (2, ai_icmp (fun x y => x = y) 19 5), (5, ai_aload 0 6), (6, ai_getP 13 1 9), (9, ai_iload 1 10), (10, ai_aald 16 5 11), (11, ai_iload 2 12), (12, ai_ald 17 5 13), (13, ai_push 1000 16), (16, ai_icmp (fun x y => ¬ x = y) 21 19), (19, ai_push (-1) 20), (20, ai_iret), (21, ai_push 0 22), (22, ai_istore 3 23), (23, ai_iload 3 24), (24, ai_push 5 25), (25, ai_icmp (fun x y => y ≤ x) 64 28), (28, ai_aload 0 29), (29, ai_getP 13 0 32), (32, ai_iload 1 33), (33, ai_aald 14 5 34), (34, ai_iload 3 35), (35, ai_ald 15 5 36), (36, ai_aload 0 37), (37, ai_getP 13 1 40), (40, ai_iload 3 41), (41, ai_aald 16 5 42), (42, ai_iload 2 43), (43, ai_ald 17 5 44), (44, ai_bin (fun x y => x + y) 45), (45, ai_aload 0 46), (46, ai_getP 13 1 49), (49, ai_iload 1 50), (50, ai_aald 16 5 51), (51, ai_iload 2 52), (52, ai_ald 17 5 53), (53, ai_icmp (fun x y => ¬ x = y) 58 56), (56, ai_iload 3 57), (57, ai_iret), (58, ai_iinc 3 1 61), (61, ai_goto 23), (64, ai_push (-1) 65), (65, ai_iret)]
def am_c31 : List (Nat × am_T) := [(0, ai_push (-1) 1), (1, ai_istore 4 3), (3, ai_push (-1) 4), (4, ai_istore 5 6), (6, ai_push 0 7), (7, ai_istore 6 9), (9, ai_push 0 10), (10, ai_istore 7 12), (12, ai_iload 7 14), (14, ai_push 5 15), (15, ai_icmp (fun x y => y ≤ x) 153 18), (18, ai_push 0 19), (19, ai_istore 8 21), (21, ai_iload 8 23), (23, ai_push 2 24), (24, ai_icmp (fun x y => y ≤ x) 147 27), (27, ai_aload 3 28), (28, ai_iload 7 30), (30, ai_aald 5 5 31), (31, ai_ifnonnull 38 34), (34, ai_null 35), (35, ai_goto 48), (38, ai_aload 3 39), (39, ai_iload 7 41), (41, ai_aald 5 5 42), (42, ai_getP 19 4 45), (45, ai_iload 8 47), (47, ai_aald 21 2 48), (48, ai_astore 9 50), (50, ai_aload 9 52), (52, ai_ifnull 141 55), (55, ai_aload 0 56), (56, ai_getP 13 1 59), (59, ai_iload 1 60), (60, ai_aald 16 5 61), (61, ai_iload 7 63), (63, ai_ald 17 5 64), (64, ai_push 1000 67), (67, ai_icmp (fun x y => x = y) 141 70), (70, ai_aload 9 72), (72, ai_iload 2 73), (73, ai_callV 2 22 1 76), (76, ai_if (fun x => ¬ x = 0) 82 79), (79, ai_goto 141), (82, ai_aload 0 83), (83, ai_getP 13 1 86), (86, ai_iload 1 87), (87, ai_aald 16 5 88), (88, ai_iload 7 90), (90, ai_ald 17 5 91), (91, ai_aload 9 93), (93, ai_getI 22 2 96), (96, ai_bin (fun x y => x + y) 97), (97, ai_istore 10 99), (99, ai_aload 9 101), (101, ai_getI 22 1 104), (104, ai_iload 5 106), (106, ai_icmp (fun x y => y < x) 126 109), (109, ai_aload 9 111), (111, ai_getI 22 1 114), (114, ai_iload 5 116), (116, ai_icmp (fun x y => ¬ x = y) 141 119), (119, ai_iload 10 121), (121, ai_iload 6 123), (123, ai_icmp (fun x y => y ≤ x) 141 126), (126, ai_iload 7 128), (128, ai_istore 4 130), (130, ai_aload 9 132), (132, ai_getI 22 1 135), (135, ai_istore 5 137), (137, ai_iload 10 139), (139, ai_istore 6 141), (141, ai_iinc 8 1 144), (144, ai_goto 21), (147, ai_iinc 7 1 150), (150, ai_goto 12), (153, ai_iload 4 155), (155, ai_iret)]
def am_c32 : List (Nat × am_T) := [(0, ai_aload 0 1), (1, ai_oinit 4), (4, ai_aload 0 5), (5, ai_push 5 6), (6, ai_newa 2 5 9), (9, ai_putP 1 0 12), (12, ai_push 0 13), (13, ai_istore 1 14), (14, ai_iload 1 15), (15, ai_push 5 16), (16, ai_icmp (fun x y => y ≤ x) 39 19), (19, ai_aload 0 20), (20, ai_getP 1 0 23), (23, ai_iload 1 24), (24, ai_new 3 8 27), (27, ai_dup 28), (28, ai_iload 1 29), (29, ai_callV 14 3 1 32), (32, ai_aast 2 5 3 33), (33, ai_iinc 1 1 36), (36, ai_goto 14), (39, ai_aload 0 40), (40, ai_push 25 42), (42, ai_newa 9 25 45), (45, ai_putP 1 1 48), (48, ai_push 0 49), (49, ai_istore 1 50), (50, ai_iload 1 51), (51, ai_push 25 53), (53, ai_icmp (fun x y => y ≤ x) 75 56), (56, ai_aload 0 57), (57, ai_getP 1 1 60), (60, ai_iload 1 61), (61, ai_new 10 3 64), (64, ai_dup 65), (65, ai_callV 23 10 0 68), (68, ai_aast 9 25 10 69), (69, ai_iinc 1 1 72), (72, ai_goto 50), (75, ai_aload 0 76), (76, ai_new 13 2 79), (79, ai_dup 80), (80, ai_callV 26 13 0 83), (83, ai_putP 1 2 86), (86, ai_aload 0 87), (87, ai_push 7 89), (89, ai_newa 18 7 91), (91, ai_putP 1 3 94), (94, ai_aload 0 95), (95, ai_push 0 96), (96, ai_putI 1 4 99), (99, ai_ret)]
def am_c33 : List (Nat × am_T) := [(0, ai_iload 1 1), (1, ai_callS 48 1 4), (4, ai_if (fun x => x = 0) 29 7), (7, ai_iload 2 8), (8, ai_callS 48 1 11), (11, ai_if (fun x => x = 0) 29 14), (14, ai_iload 1 15), (15, ai_iload 2 16), (16, ai_icmp (fun x y => x = y) 29 19), (19, ai_iload 3 20), (20, ai_if (fun x => x < 0) 29 23), (23, ai_iload 3 24), (24, ai_push 9 26), (26, ai_icmp (fun x y => x ≤ y) 31 29), (29, ai_push 0 30), (30, ai_zret), (31, ai_aload 0 32), (32, ai_getP 1 0 35), (35, ai_iload 1 36), (36, ai_aald 2 5 37), (37, ai_getP 3 7 40), (40, ai_iload 2 41), (41, ai_aald 6 5 42), (42, ai_getI 7 0 45), (45, ai_iload 3 46), (46, ai_icmp (fun x y => ¬ x = y) 51 49), (49, ai_push 0 50), (50, ai_zret), (51, ai_aload 0 52), (52, ai_getP 1 0 55), (55, ai_iload 1 56), (56, ai_aald 2 5 57), (57, ai_getP 3 7 60), (60, ai_iload 2 61), (61, ai_aald 6 5 62), (62, ai_iload 3 63), (63, ai_callV 8 7 1 66), (66, ai_aload 0 67), (67, ai_getP 1 0 70), (70, ai_iload 2 71), (71, ai_aald 2 5 72), (72, ai_getP 3 7 75), (75, ai_iload 1 76), (76, ai_aald 6 5 77), (77, ai_iload 3 78), (78, ai_callV 8 7 1 81), (81, ai_push 1 82), (82, ai_zret)]
def am_c34 : List (Nat × am_T) := [(0, ai_iload 1 1), (1, ai_callS 48 1 4), (4, ai_if (fun x => x = 0) 25 7), (7, ai_iload 2 8), (8, ai_if (fun x => x < 0) 25 11), (11, ai_iload 2 12), (12, ai_push 2 13), (13, ai_icmp (fun x y => y ≤ x) 25 16), (16, ai_iload 3 17), (17, ai_iload 4 19), (19, ai_callS 50 2 22), (22, ai_if (fun x => ¬ x = 0) 27 25), (25, ai_push 0 26), (26, ai_zret), (27, ai_iload 5 29), (29, ai_if (fun x => x < 0) 39 32), (32, ai_iload 5 34), (34, ai_push 9 36), (36, ai_icmp (fun x y => x ≤ y) 41 39), (39, ai_push 0 40), (40, ai_zret), (41, ai_aload 0 42), (42, ai_getP 1 0 45), (45, ai_iload 1 46), (46, ai_aald 2 5 47), (47, ai_getP 3 5 50), (50, ai_iload 2 51), (51, ai_iload 5 53), (53, ai_if (fun x => ¬ x = 0) 60 56), (56, ai_null 57), (57, ai_goto 72), (60, ai_new 22 3 63), (63, ai_dup 64), (64, ai_iload 3 65), (65, ai_iload 4 67), (67, ai_iload 5 69), (69, ai_callV 1 22 3 72), (72, ai_aast 4 2 22 73), (73, ai_push 1 74), (74, ai_zret)]
def am_c35 : List (Nat × am_T) := [(0, ai_iload 1 1), (1, ai_callS 48 1 4), (4, ai_if (fun x => x = 0) 20 7), (7, ai_aload 0 8), (8, ai_getP 1 0 11), (11, ai_iload 1 12), (12, ai_aald 2 5 13), (13, ai_getI 3 1 16), (16, ai_iload 2 17), (17, ai_icmp (fun x y => ¬ x = y) 22 20), (20, ai_push 0 21), (21, ai_zret), (22, ai_aload 0 23), (23, ai_getP 1 0 26), (26, ai_iload 1 27), (27, ai_aald 2 5 28), (28, ai_iload 2 29), (29, ai_putZ 3 1 32), (32, ai_iload 2 33), (33, ai_if (fun x => ¬ x = 0) 45 36), (36, ai_aload 0 37), (37, ai_getP 1 0 40), (40, ai_iload 1 41), (41, ai_aald 2 5 42), (42, ai_callV 15 3 0 45), (45, ai_push 1 46), (46, ai_zret)]
def am_c36 : List (Nat × am_T) := [(0, ai_aload 0 1), (1, ai_iload 1 2), (2, ai_iload 2 3), (3, ai_callV 52 1 2 6), (6, ai_if (fun x => x = 0) 19 9), (9, ai_iload 3 10), (10, ai_if (fun x => x < 0) 19 13), (13, ai_iload 3 14), (14, ai_push 9 16), (16, ai_icmp (fun x y => x ≤ y) 21 19), (19, ai_push 0 20), (20, ai_zret), (21, ai_aload 0 22), (22, ai_getP 1 0 25), (25, ai_iload 1 26), (26, ai_aald 2 5 27), (27, ai_getP 3 7 30), (30, ai_iload 2 31), (31, ai_aald 6 5 32), (32, ai_iload 3 33), (33, ai_putI 7 1 36), (36, ai_push 1 37), (37, ai_zret)]
def am_c37 : List (Nat × am_T) := [(0, ai_iload 1 1), (1, ai_push 1 2), (2, ai_icmp (fun x y => x < y) 10 5), (5, ai_iload 1 6), (6, ai_push 4 7), (7, ai_icmp (fun x y => x ≤ y) 12 10), (10, ai_push 0 11), (11, ai_zret), (12, ai_push 0 13), (13, ai_istore 2 14), (14, ai_iload 2 15), (15, ai_iload 1 16), (16, ai_icmp (fun x y => y ≤ x) 29 19), (19, ai_aload 0 20), (20, ai_callV 53 1 0 23), (23, ai_iinc 2 1 26), (26, ai_goto 14), (29, ai_push 1 30), (30, ai_zret)]
def am_c38 : List (Nat × am_T) := [(0, ai_aload 0 1), (1, ai_iload 1 2), (2, ai_iload 2 3), (3, ai_callV 52 1 2 6), (6, ai_if (fun x => ¬ x = 0) 11 9), (9, ai_push (-1) 10), (10, ai_iret), (11, ai_aload 0 12), (12, ai_getP 1 0 15), (15, ai_iload 1 16), (16, ai_aald 2 5 17), (17, ai_getP 3 7 20), (20, ai_iload 2 21), (21, ai_aald 6 5 22), (22, ai_astore 3 23), (23, ai_aload 3 24), (24, ai_getI 7 6 27), (27, ai_if (fun x => x = 0) 32 30), (30, ai_push 2 31), (31, ai_iret), (32, ai_aload 3 33), (33, ai_getI 7 2 36), (36, ai_if (fun x => x = 0) 43 39), (39, ai_push 1 40), (40, ai_goto 44), (43, ai_push 0 44), (44, ai_iret)]
def am_c39 : List (Nat × am_T) := [(0, ai_iload 1 1), (1, ai_callS 48 1 4), (4, ai_if (fun x => x = 0) 14 7), (7, ai_iload 2 8), (8, ai_callS 48 1 11), (11, ai_if (fun x => ¬ x = 0) 16 14), (14, ai_push (-1) 15), (15, ai_iret), (16, ai_aload 0 17), (17, ai_getP 1 0 20), (20, ai_iload 1 21), (21, ai_aald 2 5 22), (22, ai_getP 3 6 25), (25, ai_iload 2 26), (26, ai_aald 5 5 27), (27, ai_astore 3 28), (28, ai_aload 3 29), (29, ai_ifnonnull 36 32), (32, ai_push 0 33), (33, ai_goto 40), (36, ai_aload 3 37), (37, ai_getI 19 1 40), (40, ai_iret)]
def am_c40 : List (Nat × am_T) := [(0, ai_iload 1 1), (1, ai_callS 48 1 4), (4, ai_if (fun x => x = 0) 14 7), (7, ai_iload 2 8), (8, ai_callS 48 1 11), (11, ai_if (fun x => ¬ x = 0) 16 14), (14, ai_push (-1) 15), (15, ai_iret), (16, ai_aload 0 17), (17, ai_getP 1 0 20), (20, ai_iload 1 21), (21, ai_aald 2 5 22), (22, ai_getP 3 6 25), (25, ai_iload 2 26), (26, ai_aald 5 5 27), (27, ai_astore 3 28), (28, ai_aload 3 29), (29, ai_ifnonnull 36 32), (32, ai_push (-1) 33), (33, ai_goto 45), (36, ai_aload 0 37), (37, ai_getI 1 4 40), (40, ai_aload 3 41), (41, ai_getI 19 2 44), (44, ai_bin (fun x y => x - y) 45), (45, ai_iret)]
def am_c41 : List (Nat × am_T) := [(0, ai_iload 1 1), (1, ai_callS 48 1 4), (4, ai_if (fun x => x = 0) 21 7), (7, ai_iload 2 8), (8, ai_callS 48 1 11), (11, ai_if (fun x => x = 0) 21 14), (14, ai_iload 3 15), (15, ai_callS 48 1 18), (18, ai_if (fun x => ¬ x = 0) 23 21), (21, ai_push (-1) 22), (22, ai_iret), (23, ai_aload 0 24), (24, ai_getP 1 0 27), (27, ai_iload 1 28), (28, ai_aald 2 5 29), (29, ai_getP 3 6 32), (32, ai_iload 2 33), (33, ai_aald 5 5 34), (34, ai_astore 4 36), (36, ai_aload 4 38), (38, ai_ifnonnull 45 41), (41, ai_push (-1) 42), (42, ai_goto 52), (45, ai_aload 4 47), (47, ai_getP 19 3 50), (50, ai_iload 3 51), (51, ai_ald 20 5 52), (52, ai_iret)]
def am_c42 : List (Nat × am_T) := [(0, ai_aload 0 1), (1, ai_iload 1 2), (2, ai_iload 2 3), (3, ai_callV 52 1 2 6), (6, ai_if (fun x => ¬ x = 0) 11 9), (9, ai_push (-1) 10), (10, ai_iret), (11, ai_aload 0 12), (12, ai_getP 1 0 15), (15, ai_iload 1 16), (16, ai_aald 2 5 17), (17, ai_getP 3 7 20), (20, ai_iload 2 21), (21, ai_aald 6 5 22), (22, ai_astore 3 23), (23, ai_push 0 24), (24, ai_istore 4 26), (26, ai_push 0 27), (27, ai_istore 5 29), (29, ai_iload 5 31), (31, ai_push 5 32), (32, ai_icmp (fun x y => y ≤ x) 56 35), (35, ai_aload 3 36), (36, ai_getP 7 8 39), (39, ai_iload 5 41), (41, ai_ald 8 5 42), (42, ai_push (-2) 44), (44, ai_icmp (fun x y => x = y) 50 47), (47, ai_iinc 4 1 50), (50, ai_iinc 5 1 53), (53, ai_goto 29), (56, ai_iload 4 58), (58, ai_iret)]
def am_c43 : List (Nat × am_T) := [(0, ai_aload 0 1), (1, ai_iload 1 2), (2, ai_callV 51 1 1 5), (5, ai_if (fun x => x = 0) 15 8), (8, ai_iload 2 9), (9, ai_callS 48 1 12), (12, ai_if (fun x => ¬ x = 0) 17 15), (15, ai_push (-1) 16), (16, ai_iret), (17, ai_aload 0 18), (18, ai_getP 1 2 21), (21, ai_aload 0 22), (22, ai_getP 1 0 25), (25, ai_iload 1 26), (26, ai_aald 2 5 27), (27, ai_getP 3 6 30), (30, ai_callV 27 13 1 33), (33, ai_aload 0 34), (34, ai_getP 1 2 37), (37, ai_getP 13 1 40), (40, ai_iload 1 41), (41, ai_aald 16 5 42), (42, ai_iload 2 43), (43, ai_ald 17 5 44), (44, ai_push 1000 47), (47, ai_icmp (fun x y => ¬ x = y) 54 50), (50, ai_push (-1) 51), (51, ai_goto 65), (54, ai_aload 0 55), (55, ai_getP 1 2 58), (58, ai_getP 13 1 61), (61, ai_iload 1 62), (62, ai_aald 16 5 63), (63, ai_iload 2 64), (64, ai_ald 17 5 65), (65, ai_iret)]
def am_c44 : List (Nat × am_T) := [(0, ai_aload 0 1), (1, ai_iload 1 2), (2, ai_callV 51 1 1 5), (5, ai_if (fun x => x = 0) 15 8), (8, ai_iload 2 9), (9, ai_callS 48 1 12), (12, ai_if (fun x => ¬ x = 0) 17 15), (15, ai_push (-1) 16), (16, ai_iret), (17, ai_aload 0 18), (18, ai_getP 1 2 21), (21, ai_aload 0 22), (22, ai_getP 1 0 25), (25, ai_iload 1 26), (26, ai_aald 2 5 27), (27, ai_getP 3 6 30), (30, ai_callV 27 13 1 33), (33, ai_aload 0 34), (34, ai_getP 1 2 37), (37, ai_iload 1 38), (38, ai_iload 2 39), (39, ai_callV 30 13 2 42), (42, ai_iret)]
def am_c45 : List (Nat × am_T) := [(0, ai_aload 0 1), (1, ai_iload 1 2), (2, ai_callV 51 1 1 5), (5, ai_if (fun x => x = 0) 15 8), (8, ai_iload 2 9), (9, ai_callS 49 1 12), (12, ai_if (fun x => ¬ x = 0) 17 15), (15, ai_push (-1) 16), (16, ai_iret), (17, ai_aload 0 18), (18, ai_getP 1 2 21), (21, ai_aload 0 22), (22, ai_getP 1 0 25), (25, ai_iload 1 26), (26, ai_aald 2 5 27), (27, ai_getP 3 6 30), (30, ai_callV 27 13 1 33), (33, ai_aload 0 34), (34, ai_getP 1 2 37), (37, ai_iload 1 38), (38, ai_iload 2 39), (39, ai_aload 0 40), (40, ai_getP 1 0 43), (43, ai_iload 1 44), (44, ai_aald 2 5 45), (45, ai_getP 3 6 48), (48, ai_callV 31 13 3 51), (51, ai_iret)]
def am_c46 : List (Nat × am_T) := [(0, ai_aload 0 1), (1, ai_iload 1 2), (2, ai_callV 51 1 1 5), (5, ai_if (fun x => x = 0) 26 8), (8, ai_iload 2 9), (9, ai_callS 49 1 12), (12, ai_if (fun x => x = 0) 26 15), (15, ai_iload 3 16), (16, ai_push 1 17), (17, ai_icmp (fun x y => x < y) 26 20), (20, ai_iload 3 21), (21, ai_push 15 23), (23, ai_icmp (fun x y => x ≤ y) 28 26), (26, ai_push (-1) 27), (27, ai_iret), (28, ai_iload 1 29), (29, ai_istore 4 31), (31, ai_iload 3 32), (32, ai_istore 5 34), (34, ai_iload 5 36), (36, ai_push 1 37), (37, ai_icmp (fun x y => x < y) 161 40), (40, ai_aload 0 41), (41, ai_getP 1 2 44), (44, ai_aload 0 45), (45, ai_getP 1 0 48), (48, ai_iload 4 50), (50, ai_aald 2 5 51), (51, ai_getP 3 6 54), (54, ai_callV 27 13 1 57), (57, ai_aload 0 58), (58, ai_getP 1 2 61), (61, ai_iload 4 63), (63, ai_iload 2 64), (64, ai_aload 0 65), (65, ai_getP 1 0 68), (68, ai_iload 4 70), (70, ai_aald 2 5 71), (71, ai_getP 3 6 74), (74, ai_callV 31 13 3 77), (77, ai_istore 6 79), (79, ai_iload 6 81), (81, ai_push (-1) 82), (82, ai_icmp (fun x y => ¬ x = y) 92 85), (85, ai_push 300 88), (88, ai_iload 4 90), (90, ai_bin (fun x y => x + y) 91), (91, ai_iret), (92, ai_iload 6 94), (94, ai_iload 4 96), (96, ai_icmp (fun x y => ¬ x = y) 105 99), (99, ai_push 100 101), (101, ai_iload 4 103), (103, ai_bin (fun x y => x + y) 104), (104, ai_iret), (105, ai_iload 5 107), (107, ai_push 1 108), (108, ai_icmp (fun x y => x ≤ y) 155 111), (111, ai_aload 0 112), (112, ai_getP 1 2 115), (115, ai_iload 4 117), (117, ai_iload 6 119), (119, ai_callV 30 13 2 122), (122, ai_istore 7 124), (124, ai_aload 0 125), (125, ai_iload 4 127), (127, ai_iload 7 129), (129, ai_callV 52 1 2 132), (132, ai_if (fun x => x = 0) 144 135), (135, ai_aload 0 136), (136, ai_iload 7 138), (138, ai_callV 51 1 1 141), (141, ai_if (fun x => ¬ x = 0) 151 144), (144, ai_push 400 147), (147, ai_iload 4 149), (149, ai_bin (fun x y => x + y) 150), (150, ai_iret), (151, ai_iload 7 153), (153, ai_istore 4 155), (155, ai_iinc 5 (-1) 158), (158, ai_goto 34), (161, ai_push 200 164), (164, ai_iload 4 166), (166, ai_bin (fun x y => x + y) 167), (167, ai_iret)]
def am_c47 : List (Nat × am_T) := [(0, ai_iload 1 1), (1, ai_if (fun x => x < 0) 10 4), (4, ai_iload 1 5), (5, ai_push 7 7), (7, ai_icmp (fun x y => x < y) 14 10), (10, ai_push (-1) 11), (11, ai_goto 20), (14, ai_aload 0 15), (15, ai_getP 1 3 18), (18, ai_iload 1 19), (19, ai_ald 18 7 20), (20, ai_iret)]
def am_c48 : List (Nat × am_T) := [(0, ai_iload 0 1), (1, ai_if (fun x => x < 0) 13 4), (4, ai_iload 0 5), (5, ai_push 5 6), (6, ai_icmp (fun x y => y ≤ x) 13 9), (9, ai_push 1 10), (10, ai_goto 14), (13, ai_push 0 14), (14, ai_zret)]
def am_c49 : List (Nat × am_T) := [(0, ai_iload 0 1), (1, ai_if (fun x => x < 0) 15 4), (4, ai_iload 0 5), (5, ai_push 255 8), (8, ai_icmp (fun x y => y < x) 15 11), (11, ai_push 1 12), (12, ai_goto 16), (15, ai_push 0 16), (16, ai_zret)]
def am_c50 : List (Nat × am_T) := [(0, ai_iload 0 1), (1, ai_callS 49 1 4), (4, ai_if (fun x => x = 0) 17 7), (7, ai_iload 1 8), (8, ai_if (fun x => x < 0) 17 11), (11, ai_iload 1 12), (12, ai_push 8 14), (14, ai_icmp (fun x y => x ≤ y) 19 17), (17, ai_push 0 18), (18, ai_zret), (19, ai_push 1 20), (20, ai_push 8 22), (22, ai_iload 1 23), (23, ai_bin (fun x y => x - y) 24), (24, ai_bin (fun x y => x <<< (y &&& 31)) 25), (25, ai_push 1 26), (26, ai_bin (fun x y => x - y) 27), (27, ai_istore 2 28), (28, ai_iload 0 29), (29, ai_iload 2 30), (30, ai_bin (fun x y => x &&& y) 31), (31, ai_if (fun x => ¬ x = 0) 38 34), (34, ai_push 1 35), (35, ai_goto 39), (38, ai_push 0 39), (39, ai_zret)]
def am_c51 : List (Nat × am_T) := [(0, ai_iload 1 1), (1, ai_callS 48 1 4), (4, ai_if (fun x => x = 0) 23 7), (7, ai_aload 0 8), (8, ai_getP 1 0 11), (11, ai_iload 1 12), (12, ai_aald 2 5 13), (13, ai_getI 3 1 16), (16, ai_if (fun x => x = 0) 23 19), (19, ai_push 1 20), (20, ai_goto 24), (23, ai_push 0 24), (24, ai_zret)]
def am_c52 : List (Nat × am_T) := [(0, ai_iload 1 1), (1, ai_callS 48 1 4), (4, ai_if (fun x => x = 0) 35 7), (7, ai_iload 2 8), (8, ai_callS 48 1 11), (11, ai_if (fun x => x = 0) 35 14), (14, ai_aload 0 15), (15, ai_getP 1 0 18), (18, ai_iload 1 19), (19, ai_aald 2 5 20), (20, ai_getP 3 7 23), (23, ai_iload 2 24), (24, ai_aald 6 5 25), (25, ai_getI 7 0 28), (28, ai_if (fun x => x = 0) 35 31), (31, ai_push 1 32), (32, ai_goto 36), (35, ai_push 0 36), (36, ai_zret)]
def am_c53 : List (Nat × am_T) := [(0, ai_aload 0 1), (1, ai_dup 2), (2, ai_getI 1 4 5), (5, ai_push 1 6), (6, ai_bin (fun x y => x + y) 7), (7, ai_putI 1 4 10), (10, ai_aload 0 11), (11, ai_callV 55 1 0 14), (14, ai_aload 0 15), (15, ai_getI 1 4 18), (18, ai_push 2 19), (19, ai_div (fun x y => x - x / y * y) 20), (20, ai_if (fun x => ¬ x = 0) 27 23), (23, ai_aload 0 24), (24, ai_callV 56 1 0 27), (27, ai_aload 0 28), (28, ai_callV 58 1 0 31), (31, ai_aload 0 32), (32, ai_callV 60 1 0 35), (35, ai_aload 0 36), (36, ai_callV 61 1 0 39), (39, ai_aload 0 40), (40, ai_callV 62 1 0 43), (43, ai_ret)]
def am_c54 : List (Nat × am_T) := [(0, ai_aload 0 1), (1, ai_getP 1 0 4), (4, ai_iload 1 5), (5, ai_aald 2 5 6), (6, ai_getP 3 7 9), (9, ai_iload 2 10), (10, ai_aald 6 5 11), (11, ai_astore 3 12), (12, ai_aload 3 13), (13, ai_getI 7 1 16), (16, ai_if (fun x => x ≤ 0) 41 19), (19, ai_aload 3 20), (20, ai_dup 21), (21, ai_getI 7 1 24), (24, ai_push 1 25), (25, ai_bin (fun x y => x - y) 26), (26, ai_putI 7 1 29), (29, ai_aload 0 30), (30, ai_getP 1 3 33), (33, ai_push 4 34), (34, ai_dup2 35), (35, ai_ald 18 7 36), (36, ai_push 1 37), (37, ai_bin (fun x y => x + y) 38), (38, ai_ast 18 7 39), (39, ai_push 0 40), (40, ai_zret), (41, ai_aload 0 42), (42, ai_getP 1 0 45), (45, ai_iload 2 46), (46, ai_aald 2 5 47), (47, ai_getI 3 1 50), (50, ai_if (fun x => ¬ x = 0) 65 53), (53, ai_aload 0 54), (54, ai_getP 1 3 57), (57, ai_push 4 58), (58, ai_dup2 59), (59, ai_ald 18 7 60), (60, ai_push 1 61), (61, ai_bin (fun x y => x + y) 62), (62, ai_ast 18 7 63), (63, ai_push 0 64), (64, ai_zret), (65, ai_push 1 66), (66, ai_zret)]
def am_c55 : List (Nat × am_T) := [(0, ai_push 0 1), (1, ai_istore 1 2), (2, ai_iload 1 3), (3, ai_push 5 4), (4, ai_icmp (fun x y => y ≤ x) 66 7), (7, ai_push 0 8), (8, ai_istore 2 9), (9, ai_iload 2 10), (10, ai_push 5 11), (11, ai_icmp (fun x y => y ≤ x) 60 14), (14, ai_aload 0 15), (15, ai_getP 1 0 18), (18, ai_iload 1 19), (19, ai_aald 2 5 20), (20, ai_getP 3 6 23), (23, ai_iload 2 24), (24, ai_aald 5 5 25), (25, ai_astore 3 26), (26, ai_aload 3 27), (27, ai_ifnull 54 30), (30, ai_aload 3 31), (31, ai_getI 19 2 34), (34, ai_aload 0 35), (35, ai_getI 1 4 38), (38, ai_push 40 40), (40, ai_bin (fun x y => x - y) 41), (41, ai_icmp (fun x y => y < x) 54 44), (44, ai_aload 0 45), (45, ai_getP 1 0 48), (48, ai_iload 1 49), (49, ai_aald 2 5 50), (50, ai_iload 2 51), (51, ai_callV 16 3 1 54), (54, ai_iinc 2 1 57), (57, ai_goto 9), (60, ai_iinc 1 1 63), (63, ai_goto 2), (66, ai_ret)]
def am_c56 : List (Nat × am_T) := [(0, ai_push 0 1), (1, ai_istore 1 2), (2, ai_iload 1 3), (3, ai_push 5 4), (4, ai_icmp (fun x y => y ≤ x) 22 7), (7, ai_aload 0 8), (8, ai_getP 1 0 11), (11, ai_iload 1 12), (12, ai_aald 2 5 13), (13, ai_callV 17 3 0 16), (16, ai_iinc 1 1 19), (19, ai_goto 2), (22, ai_push 0 23), (23, ai_istore 1 24), (24, ai_iload 1 25), (25, ai_push 5 26), (26, ai_icmp (fun x y => y ≤ x) 75 29), (29, ai_push 0 30), (30, ai_istore 2 31), (31, ai_iload 2 32), (32, ai_push 5 33), (33, ai_icmp (fun x y => y ≤ x) 69 36), (36, ai_aload 0 37), (37, ai_getP 1 0 40), (40, ai_iload 1 41), (41, ai_aald 2 5 42), (42, ai_getI 3 1 45), (45, ai_if (fun x => x = 0) 63 48), (48, ai_aload 0 49), (49, ai_iload 1 50), (50, ai_iload 2 51), (51, ai_callV 52 1 2 54), (54, ai_if (fun x => x = 0) 63 57), (57, ai_aload 0 58), (58, ai_iload 1 59), (59, ai_iload 2 60), (60, ai_callV 57 1 2 63), (63, ai_iinc 2 1 66), (66, ai_goto 31), (69, ai_iinc 1 1 72), (72, ai_goto 24), (75, ai_ret)]
def am_c57 : List (Nat × am_T) := [(0, ai_aload 0 1), (1, ai_getP 1 3 4), (4, ai_push 0 5), (5, ai_dup2 6), (6, ai_ald 18 7 7), (7, ai_push 1 8), (8, ai_bin (fun x y => x + y) 9), (9, ai_ast 18 7 10), (10, ai_aload 0 11), (11, ai_iload 1 12), (12, ai_iload 2 13), (13, ai_callV 54 1 2 16), (16, ai_if (fun x => x = 0) 62 19), (19, ai_aload 0 20), (20, ai_getP 1 0 23), (23, ai_iload 2 24), (24, ai_aald 2 5 25), (25, ai_getP 3 7 28), (28, ai_iload 1 29), (29, ai_aald 6 5 30), (30, ai_astore 3 31), (31, ai_aload 3 32), (32, ai_push 1 33), (33, ai_putZ 7 2 36), (36, ai_aload 3 37), (37, ai_aload 0 38), (38, ai_getI 1 4 41), (41, ai_putI 7 4 44), (44, ai_aload 3 45), (45, ai_aload 0 46), (46, ai_getP 1 0 49), (49, ai_iload 1 50), (50, ai_aald 2 5 51), (51, ai_getP 3 7 54), (54, ai_iload 2 55), (55, ai_aald 6 5 56), (56, ai_getI 7 3 59), (59, ai_putZ 7 5 62), (62, ai_ret)]
def am_c58 : List (Nat × am_T) := [(0, ai_push 0 1), (1, ai_istore 1 2), (2, ai_iload 1 3), (3, ai_push 5 4), (4, ai_icmp (fun x y => y ≤ x) 44 7), (7, ai_push 0 8), (8, ai_istore 2 9), (9, ai_iload 2 10), (10, ai_push 5 11), (11, ai_icmp (fun x y => y ≤ x) 38 14), (14, ai_aload 0 15), (15, ai_getP 1 0 18), (18, ai_iload 1 19), (19, ai_aald 2 5 20), (20, ai_getP 3 7 23), (23, ai_iload 2 24), (24, ai_aald 6 5 25), (25, ai_aload 0 26), (26, ai_getI 1 4 29), (29, ai_callV 12 7 1 32), (32, ai_iinc 2 1 35), (35, ai_goto 9), (38, ai_iinc 1 1 41), (41, ai_goto 2), (44, ai_push 0 45), (45, ai_istore 1 46), (46, ai_iload 1 47), (47, ai_push 5 48), (48, ai_icmp (fun x y => y ≤ x) 116 51), (51, ai_push 0 52), (52, ai_istore 2 53), (53, ai_iload 2 54), (54, ai_push 5 55), (55, ai_icmp (fun x y => y ≤ x) 110 58), (58, ai_aload 0 59), (59, ai_getP 1 0 62), (62, ai_iload 1 63), (63, ai_aald 2 5 64), (64, ai_getP 3 7 67), (67, ai_iload 2 68), (68, ai_aald 6 5 69), (69, ai_getI 7 7 72), (72, ai_if (fun x => x = 0) 104 75), (75, ai_aload 0 76), (76, ai_iload 1 77), (77, ai_iload 2 78), (78, ai_callV 59 1 2 81), (81, ai_aload 0 82), (82, ai_getP 1 0 85), (85, ai_iload 2 86), (86, ai_aald 2 5 87), (87, ai_getP 3 7 90), (90, ai_iload 1 91), (91, ai_aald 6 5 92), (92, ai_getI 7 6 95), (95, ai_if (fun x => x = 0) 104 98), (98, ai_aload 0 99), (99, ai_iload 2 100), (100, ai_iload 1 101), (101, ai_callV 59 1 2 104), (104, ai_iinc 2 1 107), (107, ai_goto 53), (110, ai_iinc 1 1 113), (113, ai_goto 46), (116, ai_ret)]
def am_c59 : List (Nat × am_T) := [(0, ai_push 0 1), (1, ai_istore 3 2), (2, ai_iload 3 3), (3, ai_push 5 4), (4, ai_icmp (fun x y => y ≤ x) 74 7), (7, ai_aload 0 8), (8, ai_getP 1 0 11), (11, ai_iload 1 12), (12, ai_aald 2 5 13), (13, ai_getP 3 6 16), (16, ai_iload 3 17), (17, ai_aald 5 5 18), (18, ai_astore 4 20), (20, ai_aload 0 21), (21, ai_getP 1 0 24), (24, ai_iload 2 25), (25, ai_aald 2 5 26), (26, ai_getP 3 6 29), (29, ai_iload 3 30), (30, ai_aald 5 5 31), (31, ai_astore 5 33), (33, ai_aload 4 35), (35, ai_ifnull 68 38), (38, ai_aload 5 40), (40, ai_ifnull 53 43), (43, ai_aload 4 45), (45, ai_aload 5 47), (47, ai_callV 5 19 1 50), (50, ai_if (fun x => x = 0) 68 53), (53, ai_aload 0 54), (54, ai_getP 1 0 57), (57, ai_iload 1 58), (58, ai_aald 2 5 59), (59, ai_getP 3 7 62), (62, ai_iload 2 63), (63, ai_aald 6 5 64), (64, ai_iload 3 65), (65, ai_callV 11 7 1 68), (68, ai_iinc 3 1 71), (71, ai_goto 2), (74, ai_ret)]
def am_c60 : List (Nat × am_T) := [(0, ai_push 0 1), (1, ai_istore 1 2), (2, ai_iload 1 3), (3, ai_push 5 4), (4, ai_icmp (fun x y => y ≤ x) 64 7), (7, ai_aload 0 8), (8, ai_getP 1 0 11), (11, ai_iload 1 12), (12, ai_aald 2 5 13), (13, ai_getI 3 1 16), (16, ai_if (fun x => x = 0) 58 19), (19, ai_aload 0 20), (20, ai_getP 1 0 23), (23, ai_iload 1 24), (24, ai_aald 2 5 25), (25, ai_aload 0 26), (26, ai_getI 1 4 29), (29, ai_callV 18 3 1 32), (32, ai_if (fun x => x = 0) 58 35), (35, ai_aload 0 36), (36, ai_getP 1 0 39), (39, ai_iload 1 40), (40, ai_aald 2 5 41), (41, ai_aload 0 42), (42, ai_getI 1 4 45), (45, ai_callV 20 3 1 48), (48, ai_aload 0 49), (49, ai_getP 1 3 52), (52, ai_push 5 53), (53, ai_dup2 54), (54, ai_ald 18 7 55), (55, ai_push 1 56), (56, ai_bin (fun x y => x + y) 57), (57, ai_ast 18 7 58), (58, ai_iinc 1 1 61), (61, ai_goto 2), (64, ai_ret)]
def am_c61 : List (Nat × am_T) := [(0, ai_push 0 1), (1, ai_istore 1 2), (2, ai_iload 1 3), (3, ai_push 5 4), (4, ai_icmp (fun x y => y ≤ x) 111 7), (7, ai_push 0 8), (8, ai_istore 2 9), (9, ai_iload 2 10), (10, ai_push 5 11), (11, ai_icmp (fun x y => y ≤ x) 105 14), (14, ai_aload 0 15), (15, ai_getP 1 1 18), (18, ai_iload 1 19), (19, ai_push 5 20), (20, ai_bin (fun x y => x * y) 21), (21, ai_iload 2 22), (22, ai_bin (fun x y => x + y) 23), (23, ai_aald 9 25 24), (24, ai_astore 3 25), (25, ai_aload 3 26), (26, ai_aload 0 27), (27, ai_getP 1 0 30), (30, ai_iload 1 31), (31, ai_aald 2 5 32), (32, ai_getP 3 6 35), (35, ai_aload 0 36), (36, ai_getP 1 0 39), (39, ai_iload 1 40), (40, ai_aald 2 5 41), (41, ai_getP 3 7 44), (44, ai_iload 2 45), (45, ai_aald 6 5 46), (46, ai_getP 7 8 49), (49, ai_aload 0 50), (50, ai_getI 1 4 53), (53, ai_callV 24 10 3 56), (56, ai_istore 4 58), (58, ai_aload 3 59), (59, ai_push 0 60), (60, ai_putZ 10 0 63), (63, ai_iload 4 65), (65, ai_if (fun x => x ≤ 0) 99 68), (68, ai_aload 0 69), (69, ai_getP 1 3 72), (72, ai_push 1 73), (73, ai_dup2 74), (74, ai_ald 18 7 75), (75, ai_push 1 76), (76, ai_bin (fun x y => x + y) 77), (77, ai_ast 18 7 78), (78, ai_aload 0 79), (79, ai_getP 1 3 82), (82, ai_push 2 83), (83, ai_dup2 84), (84, ai_ald 18 7 85), (85, ai_iload 4 87), (87, ai_bin (fun x y => x + y) 88), (88, ai_ast 18 7 89), (89, ai_aload 3 90), (90, ai_aload 0 91), (91, ai_iload 1 92), (92, ai_iload 2 93), (93, ai_callV 54 1 2 96), (96, ai_putZ 10 0 99), (99, ai_iinc 2 1 102), (102, ai_goto 9), (105, ai_iinc 1 1 108), (108, ai_goto 2), (111, ai_ret)]
def am_c62 : List (Nat × am_T) := [(0, ai_push 0 1), (1, ai_istore 1 2), (2, ai_iload 1 3), (3, ai_push 5 4), (4, ai_icmp (fun x y => y ≤ x) 68 7), (7, ai_push 0 8), (8, ai_istore 2 9), (9, ai_iload 2 10), (10, ai_push 5 11), (11, ai_icmp (fun x y => y ≤ x) 62 14), (14, ai_aload 0 15), (15, ai_getP 1 1 18), (18, ai_iload 1 19), (19, ai_push 5 20), (20, ai_bin (fun x y => x * y) 21), (21, ai_iload 2 22), (22, ai_bin (fun x y => x + y) 23), (23, ai_aald 9 25 24), (24, ai_astore 3 25), (25, ai_aload 3 26), (26, ai_getI 10 0 29), (29, ai_if (fun x => x = 0) 56 32), (32, ai_aload 0 33), (33, ai_getP 1 0 36), (36, ai_iload 2 37), (37, ai_aald 2 5 38), (38, ai_getP 3 7 41), (41, ai_iload 1 42), (42, ai_aald 6 5 43), (43, ai_getI 7 6 46), (46, ai_if (fun x => x = 0) 56 49), (49, ai_aload 0 50), (50, ai_aload 3 51), (51, ai_iload 1 52), (52, ai_iload 2 53), (53, ai_callV 63 1 3 56), (56, ai_iinc 2 1 59), (59, ai_goto 9), (62, ai_iinc 1 1 65), (65, ai_goto 2), (68, ai_ret)]
def am_c63 : List (Nat × am_T) := [(0, ai_push 0 1), (1, ai_istore 4 3), (3, ai_push 0 4), (4, ai_istore 5 6), (6, ai_iload 5 8), (8, ai_push 5 9), (9, ai_icmp (fun x y => y ≤ x) 54 12), (12, ai_aload 1 13), (13, ai_getP 10 1 16), (16, ai_iload 5 18), (18, ai_aald 11 5 19), (19, ai_astore 6 21), (21, ai_aload 6 23), (23, ai_ifnull 48 26), (26, ai_aload 0 27), (27, ai_aload 6 29), (29, ai_iload 2 30), (30, ai_iload 3 31), (31, ai_callV 64 1 3 34), (34, ai_if (fun x => x = 0) 48 37), (37, ai_aload 1 38), (38, ai_getP 10 2 41), (41, ai_iload 5 43), (43, ai_push 1 44), (44, ai_zast 12 5 45), (45, ai_push 1 46), (46, ai_istore 4 48), (48, ai_iinc 5 1 51), (51, ai_goto 6), (54, ai_iload 4 56), (56, ai_if (fun x => x = 0) 66 59), (59, ai_aload 0 60), (60, ai_aload 1 61), (61, ai_iload 2 62), (62, ai_iload 3 63), (63, ai_callV 65 1 3 66), (66, ai_ret)]
def am_c64 : List (Nat × am_T) := [(0, ai_aload 0 1), (1, ai_getP 1 0 4), (4, ai_iload 3 5), (5, ai_aald 2 5 6), (6, ai_astore 4 8), (8, ai_aload 1 9), (9, ai_getI 19 0 12), (12, ai_istore 5 14), (14, ai_aload 4 16), (16, ai_getP 3 6 19), (19, ai_iload 5 21), (21, ai_aald 5 5 22), (22, ai_astore 6 24), (24, ai_aload 6 26), (26, ai_ifnull 38 29), (29, ai_aload 1 30), (30, ai_aload 6 32), (32, ai_callV 5 19 1 35), (35, ai_if (fun x => x = 0) 76 38), (38, ai_iload 5 40), (40, ai_iload 3 41), (41, ai_icmp (fun x y => ¬ x = y) 56 44), (44, ai_aload 4 46), (46, ai_aload 1 47), (47, ai_getI 19 1 50), (50, ai_callV 22 3 1 53), (53, ai_goto 74), (56, ai_aload 4 58), (58, ai_aload 1 59), (59, ai_iload 2 60), (60, ai_callV 21 3 2 63), (63, ai_aload 0 64), (64, ai_getP 1 3 67), (67, ai_push 6 69), (69, ai_dup2 70), (70, ai_ald 18 7 71), (71, ai_push 1 72), (72, ai_bin (fun x y => x + y) 73), (73, ai_ast 18 7 74), (74, ai_push 1 75), (75, ai_zret), (76, ai_aload 6 78), (78, ai_aload 1 79), (79, ai_callV 5 19 1 82), (82, ai_if (fun x => x = 0) 99 85), (85, ai_aload 4 87), (87, ai_getP 3 7 90), (90, ai_iload 2 91), (91, ai_aald 6 5 92), (92, ai_iload 5 94), (94, ai_callV 11 7 1 97), (97, ai_push 0 98), (98, ai_zret), (99, ai_aload 4 101), (101, ai_getP 3 7 104), (104, ai_iload 2 105), (105, ai_aald 6 5 106), (106, ai_getP 7 8 109), (109, ai_iload 5 111), (111, ai_push (-2) 113), (113, ai_ast 8 5 114), (114, ai_push 1 115), (115, ai_zret)]
def am_c65 : List (Nat × am_T) := [(0, ai_aload 0 1), (1, ai_getP 1 3 4), (4, ai_push 3 5), (5, ai_dup2 6), (6, ai_ald 18 7 7), (7, ai_push 1 8), (8, ai_bin (fun x y => x + y) 9), (9, ai_ast 18 7 10), (10, ai_aload 0 11), (11, ai_iload 3 12), (12, ai_iload 2 13), (13, ai_callV 54 1 2 16), (16, ai_if (fun x => ¬ x = 0) 20 19), (19, ai_ret), (20, ai_push 0 21), (21, ai_istore 4 23), (23, ai_iload 4 25), (25, ai_push 5 26), (26, ai_icmp (fun x y => y ≤ x) 107 29), (29, ai_aload 0 30), (30, ai_getP 1 0 33), (33, ai_iload 2 34), (34, ai_aald 2 5 35), (35, ai_getP 3 6 38), (38, ai_iload 4 40), (40, ai_aald 5 5 41), (41, ai_astore 5 43), (43, ai_aload 1 44), (44, ai_getP 10 1 47), (47, ai_iload 4 49), (49, ai_aald 11 5 50), (50, ai_astore 6 52), (52, ai_aload 1 53), (53, ai_getP 10 2 56), (56, ai_iload 4 58), (58, ai_ald 12 5 59), (59, ai_if (fun x => x = 0) 101 62), (62, ai_aload 5 64), (64, ai_ifnull 101 67), (67, ai_aload 6 69), (69, ai_ifnull 101 72), (72, ai_aload 5 74), (74, ai_aload 6 76), (76, ai_callV 6 19 1 79), (79, ai_if (fun x => x = 0) 101 82), (82, ai_aload 0 83), (83, ai_getP 1 0 86), (86, ai_iload 2 87), (87, ai_aald 2 5 88), (88, ai_getP 3 7 91), (91, ai_iload 3 92), (92, ai_aald 6 5 93), (93, ai_getP 7 8 96), (96, ai_iload 4 98), (98, ai_push (-2) 100), (100, ai_ast 8 5 101), (101, ai_iinc 4 1 104), (104, ai_goto 23), (107, ai_ret)]
def am_c66 : List (Nat × am_T) := [(0, ai_aload 0 1), (1, ai_oinit 4), (4, ai_aload 0 5), (5, ai_push 5 6), (6, ai_newa 51 5 8), (8, ai_putP 50 1 11), (11, ai_aload 0 12), (12, ai_push 25 14), (14, ai_newa 52 25 16), (16, ai_putP 50 2 19), (19, ai_aload 0 20), (20, ai_push 25 22), (22, ai_newa 53 25 24), (24, ai_putP 50 3 27), (27, ai_aload 0 28), (28, ai_push 25 30), (30, ai_newa 54 25 32), (32, ai_putP 50 4 35), (35, ai_aload 0 36), (36, ai_push 25 38), (38, ai_newa 55 25 40), (40, ai_putP 50 5 43), (43, ai_aload 0 44), (44, ai_push 25 46), (46, ai_newa 56 25 48), (48, ai_putP 50 6 51), (51, ai_aload 0 52), (52, ai_push 25 54), (54, ai_newa 57 25 56), (56, ai_putP 50 7 59), (59, ai_aload 0 60), (60, ai_push 25 62), (62, ai_newa 58 25 64), (64, ai_putP 50 8 67), (67, ai_aload 0 68), (68, ai_push 25 70), (70, ai_newa 59 25 72), (72, ai_putP 50 9 75), (75, ai_aload 0 76), (76, ai_push 7 78), (78, ai_newa 60 7 80), (80, ai_putP 50 10 83), (83, ai_aload 0 84), (84, ai_push 60 86), (86, ai_newa 61 60 88), (88, ai_putP 50 11 91), (91, ai_aload 0 92), (92, ai_push 60 94), (94, ai_newa 62 60 96), (96, ai_putP 50 12 99), (99, ai_aload 0 100), (100, ai_push 300 103), (103, ai_newa 63 300 105), (105, ai_putP 50 13 108), (108, ai_aload 0 109), (109, ai_push 120 111), (111, ai_newa 64 120 113), (113, ai_putP 50 14 116), (116, ai_aload 0 117), (117, ai_push 120 119), (119, ai_newa 65 120 121), (121, ai_putP 50 15 124), (124, ai_aload 0 125), (125, ai_push 120 127), (127, ai_newa 66 120 129), (129, ai_putP 50 16 132), (132, ai_aload 0 133), (133, ai_push 5 134), (134, ai_newa 67 5 136), (136, ai_putP 50 17 139), (139, ai_aload 0 140), (140, ai_push 5 141), (141, ai_newa 68 5 143), (143, ai_putP 50 18 146), (146, ai_aload 0 147), (147, ai_push 125 149), (149, ai_newa 69 125 151), (151, ai_putP 50 19 154), (154, ai_aload 0 155), (155, ai_push 125 157), (157, ai_newa 70 125 159), (159, ai_putP 50 20 162), (162, ai_aload 0 163), (163, ai_push 125 165), (165, ai_newa 71 125 167), (167, ai_putP 50 21 170), (170, ai_aload 0 171), (171, ai_push 25 173), (173, ai_newa 72 25 175), (175, ai_putP 50 22 178), (178, ai_aload 0 179), (179, ai_push 5 180), (180, ai_newa 73 5 182), (182, ai_putP 50 23 185), (185, ai_aload 0 186), (186, ai_push 25 188), (188, ai_newa 74 25 190), (190, ai_putP 50 24 193), (193, ai_ret)]
def am_c67 : List (Nat × am_T) := [(0, ai_iload 0 1), (1, ai_if (fun x => x < 0) 13 4), (4, ai_iload 0 5), (5, ai_push 4 6), (6, ai_icmp (fun x y => y < x) 13 9), (9, ai_push 1 10), (10, ai_goto 14), (13, ai_push 0 14), (14, ai_zret)]
def am_c68 : List (Nat × am_T) := [(0, ai_iload 1 1), (1, ai_callS 67 1 4), (4, ai_if (fun x => x = 0) 31 7), (7, ai_iload 2 8), (8, ai_callS 67 1 11), (11, ai_if (fun x => x = 0) 31 14), (14, ai_aload 0 15), (15, ai_getP 50 2 18), (18, ai_push 5 19), (19, ai_iload 1 20), (20, ai_bin (fun x y => x * y) 21), (21, ai_iload 2 22), (22, ai_bin (fun x y => x + y) 23), (23, ai_ald 52 25 24), (24, ai_if (fun x => x ≤ 0) 31 27), (27, ai_push 1 28), (28, ai_goto 32), (31, ai_push 0 32), (32, ai_zret)]
def am_c69 : List (Nat × am_T) := [(0, ai_aload 0 1), (1, ai_getP 50 4 4), (4, ai_push 5 5), (5, ai_iload 1 6), (6, ai_bin (fun x y => x * y) 7), (7, ai_iload 2 8), (8, ai_bin (fun x y => x + y) 9), (9, ai_push 0 10), (10, ai_zast 54 25 11), (11, ai_aload 0 12), (12, ai_getP 50 6 15), (15, ai_push 5 16), (16, ai_iload 1 17), (17, ai_bin (fun x y => x * y) 18), (18, ai_iload 2 19), (19, ai_bin (fun x y => x + y) 20), (20, ai_push 0 21), (21, ai_zast 56 25 22), (22, ai_aload 0 23), (23, ai_getP 50 7 26), (26, ai_push 5 27), (27, ai_iload 1 28), (28, ai_bin (fun x y => x * y) 29), (29, ai_iload 2 30), (30, ai_bin (fun x y => x + y) 31), (31, ai_push 0 32), (32, ai_zast 57 25 33), (33, ai_push 0 34), (34, ai_istore 3 35), (35, ai_iload 3 36), (36, ai_push 5 37), (37, ai_icmp (fun x y => y ≤ x) 61 40), (40, ai_aload 0 41), (41, ai_getP 50 19 44), (44, ai_push 5 45), (45, ai_push 5 46), (46, ai_iload 1 47), (47, ai_bin (fun x y => x * y) 48), (48, ai_iload 2 49), (49, ai_bin (fun x y => x + y) 50), (50, ai_bin (fun x y => x * y) 51), (51, ai_iload 3 52), (52, ai_bin (fun x y => x + y) 53), (53, ai_push 0 54), (54, ai_zast 69 125 55), (55, ai_iinc 3 1 58), (58, ai_goto 35), (61, ai_ret)]
def am_c70 : List (Nat × am_T) := [(0, ai_iload 1 1), (1, ai_callS 67 1 4), (4, ai_if (fun x => x = 0) 43 7), (7, ai_iload 2 8), (8, ai_callS 67 1 11), (11, ai_if (fun x => x = 0) 43 14), (14, ai_iload 1 15), (15, ai_iload 2 16), (16, ai_icmp (fun x y => x = y) 43 19), (19, ai_iload 3 20), (20, ai_if (fun x => x < 0) 43 23), (23, ai_iload 3 24), (24, ai_push 9 26), (26, ai_icmp (fun x y => y < x) 43 29), (29, ai_aload 0 30), (30, ai_getP 50 2 33), (33, ai_push 5 34), (34, ai_iload 1 35), (35, ai_bin (fun x y => x * y) 36), (36, ai_iload 2 37), (37, ai_bin (fun x y => x + y) 38), (38, ai_ald 52 25 39), (39, ai_iload 3 40), (40, ai_icmp (fun x y => ¬ x = y) 45 43), (43, ai_push 0 44), (44, ai_zret), (45, ai_iload 3 46), (46, ai_if (fun x => ¬ x = 0) 61 49), (49, ai_aload 0 50), (50, ai_iload 1 51), (51, ai_iload 2 52), (52, ai_callV 69 50 2 55), (55, ai_aload 0 56), (56, ai_iload 2 57), (57, ai_iload 1 58), (58, ai_callV 69 50 2 61), (61, ai_aload 0 62), (62, ai_getP 50 2 65), (65, ai_push 5 66), (66, ai_iload 1 67), (67, ai_bin (fun x y => x * y) 68), (68, ai_iload 2 69), (69, ai_bin (fun x y => x + y) 70), (70, ai_ald 52 25 71), (71, ai_if (fun x => ¬ x = 0) 96 74), (74, ai_aload 0 75), (75, ai_getP 50 3 78), (78, ai_push 5 79), (79, ai_iload 1 80), (80, ai_bin (fun x y => x * y) 81), (81, ai_iload 2 82), (82, ai_bin (fun x y => x + y) 83), (83, ai_push 0 84), (84, ai_ast 53 25 85), (85, ai_aload 0 86), (86, ai_getP 50 3 89), (89, ai_push 5 90), (90, ai_iload 2 91), (91, ai_bin (fun x y => x * y) 92), (92, ai_iload 1 93), (93, ai_bin (fun x y => x + y) 94), (94, ai_push 0 95), (95, ai_ast 53 25 96), (96, ai_aload 0 97), (97, ai_getP 50 2 100), (100, ai_push 5 101), (101, ai_iload 1 102), (102, ai_bin (fun x y => x * y) 103), (103, ai_iload 2 104), (104, ai_bin (fun x y => x + y) 105), (105, ai_iload 3 106), (106, ai_ast 52 25 107), (107, ai_aload 0 108), (108, ai_getP 50 2 111), (111, ai_push 5 112), (112, ai_iload 2 113), (113, ai_bin (fun x y => x * y) 114), (114, ai_iload 1 115), (115, ai_bin (fun x y => x + y) 116), (116, ai_iload 3 117), (117, ai_ast 52 25 118), (118, ai_push 1 119), (119, ai_zret)]
def am_c71 : List (Nat × am_T) := [(0, ai_iload 1 1), (1, ai_callS 67 1 4), (4, ai_if (fun x => x = 0) 51 7), (7, ai_iload 2 8), (8, ai_if (fun x => x < 0) 51 11), (11, ai_iload 2 12), (12, ai_push 1 13), (13, ai_icmp (fun x y => y < x) 51 16), (16, ai_iload 4 18), (18, ai_if (fun x => x < 0) 51 21), (21, ai_iload 4 23), (23, ai_push 8 25), (25, ai_icmp (fun x y => y < x) 51 28), (28, ai_iload 3 29), (29, ai_if (fun x => x < 0) 51 32), (32, ai_iload 3 33), (33, ai_push 255 36), (36, ai_icmp (fun x y => y < x) 51 39), (39, ai_iload 5 41), (41, ai_if (fun x => x < 0) 51 44), (44, ai_iload 5 46), (46, ai_push 9 48), (48, ai_icmp (fun x y => x ≤ y) 53 51), (51, ai_push 0 52), (52, ai_zret), (53, ai_iload 3 54), (54, ai_push 1 55), (55, ai_push 8 57), (57, ai_iload 4 59), (59, ai_bin (fun x y => x - y) 60), (60, ai_bin (fun x y => x <<< (y &&& 31)) 61), (61, ai_push 1 62), (62, ai_bin (fun x y => x - y) 63), (63, ai_bin (fun x y => x &&& y) 64), (64, ai_if (fun x => x = 0) 69 67), (67, ai_push 0 68), (68, ai_zret), (69, ai_push 2 70), (70, ai_push 55 72), (72, ai_iload 1 73), (73, ai_bin (fun x y => x + y) 74), (74, ai_bin (fun x y => x * y) 75), (75, ai_iload 2 76), (76, ai_bin (fun x y => x + y) 77), (77, ai_istore 6 79), (79, ai_aload 0 80), (80, ai_getP 50 14 83), (83, ai_iload 6 85), (85, ai_iload 5 87), (87, ai_if (fun x => x ≤ 0) 94 90), (90, ai_iload 3 91), (91, ai_goto 95), (94, ai_push 0 95), (95, ai_ast 64 120 96), (96, ai_aload 0 97), (97, ai_getP 50 15 100), (100, ai_iload 6 102), (102, ai_iload 5 104), (104, ai_if (fun x => x ≤ 0) 112 107), (107, ai_iload 4 109), (109, ai_goto 113), (112, ai_push 0 113), (113, ai_ast 65 120 114), (114, ai_aload 0 115), (115, ai_getP 50 16 118), (118, ai_iload 6 120), (120, ai_iload 5 122), (122, ai_ast 66 120 123), (123, ai_push 1 124), (124, ai_zret)]
def am_c72 : List (Nat × am_T) := [(0, ai_iload 1 1), (1, ai_callS 67 1 4), (4, ai_if (fun x => x = 0) 17 7), (7, ai_aload 0 8), (8, ai_getP 50 1 11), (11, ai_iload 1 12), (12, ai_ald 51 5 13), (13, ai_iload 2 14), (14, ai_icmp (fun x y => x = y) 19 17), (17, ai_push 0 18), (18, ai_zret), (19, ai_aload 0 20), (20, ai_getP 50 1 23), (23, ai_iload 1 24), (24, ai_iload 2 25), (25, ai_if (fun x => ¬ x = 0) 32 28), (28, ai_push 1 29), (29, ai_goto 33), (32, ai_push 0 33), (33, ai_zast 51 5 34), (34, ai_push 0 35), (35, ai_istore 3 36), (36, ai_iload 3 37), (37, ai_push 5 38), (38, ai_icmp (fun x y => y ≤ x) 68 41), (41, ai_iload 2 42), (42, ai_if (fun x => ¬ x = 0) 68 45), (45, ai_aload 0 46), (46, ai_iload 1 47), (47, ai_iload 3 48), (48, ai_callV 69 50 2 51), (51, ai_aload 0 52), (52, ai_getP 50 11 55), (55, ai_push 5 56), (56, ai_iload 1 57), (57, ai_bin (fun x y => x * y) 58), (58, ai_iload 3 59), (59, ai_bin (fun x y => x + y) 60), (60, ai_push 0 61), (61, ai_ast 61 60 62), (62, ai_iinc 3 1 65), (65, ai_goto 36), (68, ai_iload 2 69), (69, ai_if (fun x => ¬ x = 0) 96 72), (72, ai_aload 0 73), (73, ai_getP 50 11 76), (76, ai_push 50 78), (78, ai_iload 1 79), (79, ai_bin (fun x y => x + y) 80), (80, ai_push 0 81), (81, ai_ast 61 60 82), (82, ai_aload 0 83), (83, ai_getP 50 17 86), (86, ai_iload 1 87), (87, ai_push 0 88), (88, ai_ast 67 5 89), (89, ai_aload 0 90), (90, ai_getP 50 18 93), (93, ai_iload 1 94), (94, ai_push 0 95), (95, ai_zast 68 5 96), (96, ai_push 1 97), (97, ai_zret)]
def am_c73 : List (Nat × am_T) := [(0, ai_aload 0 1), (1, ai_iload 1 2), (2, ai_iload 2 3), (3, ai_callV 68 50 2 6), (6, ai_if (fun x => x = 0) 19 9), (9, ai_iload 3 10), (10, ai_if (fun x => x < 0) 19 13), (13, ai_iload 3 14), (14, ai_push 9 16), (16, ai_icmp (fun x y => x ≤ y) 21 19), (19, ai_push 0 20), (20, ai_zret), (21, ai_aload 0 22), (22, ai_getP 50 3 25), (25, ai_push 5 26), (26, ai_iload 1 27), (27, ai_bin (fun x y => x * y) 28), (28, ai_iload 2 29), (29, ai_bin (fun x y => x + y) 30), (30, ai_iload 3 31), (31, ai_ast 53 25 32), (32, ai_push 1 33), (33, ai_zret)]
def am_c74 : List (Nat × am_T) := [(0, ai_aload 0 1), (1, ai_getP 50 11 4), (4, ai_iload 2 5), (5, ai_aload 0 6), (6, ai_getP 50 11 9), (9, ai_iload 1 10), (10, ai_ald 61 60 11), (11, ai_ast 61 60 12), (12, ai_aload 0 13), (13, ai_getP 50 12 16), (16, ai_iload 2 17), (17, ai_aload 0 18), (18, ai_getP 50 12 21), (21, ai_iload 1 22), (22, ai_ald 62 60 23), (23, ai_ast 62 60 24), (24, ai_push 0 25), (25, ai_istore 3 26), (26, ai_iload 3 27), (27, ai_push 5 28), (28, ai_icmp (fun x y => y ≤ x) 57 31), (31, ai_aload 0 32), (32, ai_getP 50 13 35), (35, ai_push 5 36), (36, ai_iload 2 37), (37, ai_bin (fun x y => x * y) 38), (38, ai_iload 3 39), (39, ai_bin (fun x y => x + y) 40), (40, ai_aload 0 41), (41, ai_getP 50 13 44), (44, ai_push 5 45), (45, ai_iload 1 46), (46, ai_bin (fun x y => x * y) 47), (47, ai_iload 3 48), (48, ai_bin (fun x y => x + y) 49), (49, ai_ald 63 300 50), (50, ai_ast 63 300 51), (51, ai_iinc 3 1 54), (54, ai_goto 26), (57, ai_push 0 58), (58, ai_istore 3 59), (59, ai_iload 3 60), (60, ai_push 2 61), (61, ai_icmp (fun x y => y ≤ x) 130 64), (64, ai_aload 0 65), (65, ai_getP 50 14 68), (68, ai_push 2 69), (69, ai_iload 2 70), (70, ai_bin (fun x y => x * y) 71), (71, ai_iload 3 72), (72, ai_bin (fun x y => x + y) 73), (73, ai_aload 0 74), (74, ai_getP 50 14 77), (77, ai_push 2 78), (78, ai_iload 1 79), (79, ai_bin (fun x y => x * y) 80), (80, ai_iload 3 81), (81, ai_bin (fun x y => x + y) 82), (82, ai_ald 64 120 83), (83, ai_ast 64 120 84), (84, ai_aload 0 85), (85, ai_getP 50 15 88), (88, ai_push 2 89), (89, ai_iload 2 90), (90, ai_bin (fun x y => x * y) 91), (91, ai_iload 3 92), (92, ai_bin (fun x y => x + y) 93), (93, ai_aload 0 94), (94, ai_getP 50 15 97), (97, ai_push 2 98), (98, ai_iload 1 99), (99, ai_bin (fun x y => x * y) 100), (100, ai_iload 3 101), (101, ai_bin (fun x y => x + y) 102), (102, ai_ald 65 120 103), (103, ai_ast 65 120 104), (104, ai_aload 0 105), (105, ai_getP 50 16 108), (108, ai_push 2 109), (109, ai_iload 2 110), (110, ai_bin (fun x y => x * y) 111), (111, ai_iload 3 112), (112, ai_bin (fun x y => x + y) 113), (113, ai_aload 0 114), (114, ai_getP 50 16 117), (117, ai_push 2 118), (118, ai_iload 1 119), (119, ai_bin (fun x y => x * y) 120), (120, ai_iload 3 121), (121, ai_bin (fun x y => x + y) 122), (122, ai_ald 66 120 123), (123, ai_ast 66 120 124), (124, ai_iinc 3 1 127), (127, ai_goto 59), (130, ai_ret)]
def am_c75 : List (Nat × am_T) := [(0, ai_push 1 1), (1, ai_istore 3 2), (2, ai_push 0 3), (3, ai_istore 4 5), (5, ai_iload 4 7), (7, ai_push 5 8), (8, ai_icmp (fun x y => y ≤ x) 52 11), (11, ai_iload 3 12), (12, ai_if (fun x => x = 0) 44 15), (15, ai_aload 0 16), (16, ai_getP 50 13 19), (19, ai_push 5 20), (20, ai_iload 1 21), (21, ai_bin (fun x y => x * y) 22), (22, ai_iload 4 24), (24, ai_bin (fun x y => x + y) 25), (25, ai_ald 63 300 26), (26, ai_aload 0 27), (27, ai_getP 50 13 30), (30, ai_push 5 31), (31, ai_iload 2 32), (32, ai_bin (fun x y => x * y) 33), (33, ai_iload 4 35), (35, ai_bin (fun x y => x + y) 36), (36, ai_ald 63 300 37), (37, ai_icmp (fun x y => ¬ x = y) 44 40), (40, ai_push 1 41), (41, ai_goto 45), (44, ai_push 0 45), (45, ai_istore 3 46), (46, ai_iinc 4 1 49), (49, ai_goto 5), (52, ai_push 0 53), (53, ai_istore 4 55), (55, ai_iload 4 57), (57, ai_push 2 58), (58, ai_icmp (fun x y => y ≤ x) 152 61), (61, ai_iload 3 62), (62, ai_if (fun x => x = 0) 144 65), (65, ai_aload 0 66), (66, ai_getP 50 14 69), (69, ai_push 2 70), (70, ai_iload 1 71), (71, ai_bin (fun x y => x * y) 72), (72, ai_iload 4 74), (74, ai_bin (fun x y => x + y) 75), (75, ai_ald 64 120 76), (76, ai_aload 0 77), (77, ai_getP 50 14 80), (80, ai_push 2 81), (81, ai_iload 2 82), (82, ai_bin (fun x y => x * y) 83), (83, ai_iload 4 85), (85, ai_bin (fun x y => x + y) 86), (86, ai_ald 64 120 87), (87, ai_icmp (fun x y => ¬ x = y) 144 90), (90, ai_aload 0 91), (91, ai_getP 50 15 94), (94, ai_push 2 95), (95, ai_iload 1 96), (96, ai_bin (fun x y => x * y) 97), (97, ai_iload 4 99), (99, ai_bin (fun x y => x + y) 100), (100, ai_ald 65 120 101), (101, ai_aload 0 102), (102, ai_getP 50 15 105), (105, ai_push 2 106), (106, ai_iload 2 107), (107, ai_bin (fun x y => x * y) 108), (108, ai_iload 4 110), (110, ai_bin (fun x y => x + y) 111), (111, ai_ald 65 120 112), (112, ai_icmp (fun x y => ¬ x = y) 144 115), (115, ai_aload 0 116), (116, ai_getP 50 16 119), (119, ai_push 2 120), (120, ai_iload 1 121), (121, ai_bin (fun x y => x * y) 122), (122, ai_iload 4 124), (124, ai_bin (fun x y => x + y) 125), (125, ai_ald 66 120 126), (126, ai_aload 0 127), (127, ai_getP 50 16 130), (130, ai_push 2 131), (131, ai_iload 2 132), (132, ai_bin (fun x y => x * y) 133), (133, ai_iload 4 135), (135, ai_bin (fun x y => x + y) 136), (136, ai_ald 66 120 137), (137, ai_icmp (fun x y => ¬ x = y) 144 140), (140, ai_push 1 141), (141, ai_goto 145), (144, ai_push 0 145), (145, ai_istore 3 146), (146, ai_iinc 4 1 149), (149, ai_goto 55), (152, ai_iload 3 153), (153, ai_zret)]
def am_c76 : List (Nat × am_T) := [(0, ai_aload 0 1), (1, ai_getP 50 11 4), (4, ai_iload 1 5), (5, ai_ald 61 60 6), (6, ai_aload 0 7), (7, ai_getP 50 11 10), (10, ai_iload 2 11), (11, ai_ald 61 60 12), (12, ai_icmp (fun x y => x < y) 45 15), (15, ai_aload 0 16), (16, ai_getP 50 11 19), (19, ai_iload 1 20), (20, ai_ald 61 60 21), (21, ai_aload 0 22), (22, ai_getP 50 11 25), (25, ai_iload 2 26), (26, ai_ald 61 60 27), (27, ai_icmp (fun x y => ¬ x = y) 49 30), (30, ai_aload 0 31), (31, ai_getP 50 12 34), (34, ai_iload 1 35), (35, ai_ald 62 60 36), (36, ai_aload 0 37), (37, ai_getP 50 12 40), (40, ai_iload 2 41), (41, ai_ald 62 60 42), (42, ai_icmp (fun x y => y ≤ x) 49 45), (45, ai_push 1 46), (46, ai_goto 50), (49, ai_push 0 50), (50, ai_zret)]
def am_c77 : List (Nat × am_T) := [(0, ai_aload 0 1), (1, ai_getP 50 11 4), (4, ai_iload 1 5), (5, ai_ald 61 60 6), (6, ai_aload 0 7), (7, ai_getP 50 11 10), (10, ai_iload 2 11), (11, ai_ald 61 60 12), (12, ai_icmp (fun x y => ¬ x = y) 34 15), (15, ai_aload 0 16), (16, ai_getP 50 12 19), (19, ai_iload 1 20), (20, ai_ald 62 60 21), (21, ai_aload 0 22), (22, ai_getP 50 12 25), (25, ai_iload 2 26), (26, ai_ald 62 60 27), (27, ai_icmp (fun x y => ¬ x = y) 34 30), (30, ai_push 1 31), (31, ai_goto 35), (34, ai_push 0 35), (35, ai_zret)]
def am_c78 : List (Nat × am_T) := [(0, ai_push 5 1), (1, ai_push 5 2), (2, ai_iload 1 3), (3, ai_bin (fun x y => x * y) 4), (4, ai_iload 2 5), (5, ai_bin (fun x y => x + y) 6), (6, ai_bin (fun x y => x * y) 7), (7, ai_iload 3 8), (8, ai_bin (fun x y => x + y) 9), (9, ai_istore 5 11), (11, ai_aload 0 12), (12, ai_getP 50 20 15), (15, ai_iload 5 17), (17, ai_iload 4 19), (19, ai_if (fun x => ¬ x = 0) 32 22), (22, ai_aload 0 23), (23, ai_getP 50 19 26), (26, ai_iload 5 28), (28, ai_ald 69 125 29), (29, ai_if (fun x => ¬ x = 0) 38 32), (32, ai_push (-1000) 35), (35, ai_goto 45), (38, ai_aload 0 39), (39, ai_getP 50 20 42), (42, ai_iload 5 44), (44, ai_ald 70 125 45), (45, ai_ast 70 125 46), (46, ai_aload 0 47), (47, ai_getP 50 19 50), (50, ai_iload 5 52), (52, ai_push 1 53), (53, ai_zast 69 125 54), (54, ai_ret)]
def am_c79 : List (Nat × am_T) := [(0, ai_aload 0 1), (1, ai_iload 3 2), (2, ai_push 5 3), (3, ai_iload 1 4), (4, ai_bin (fun x y => x * y) 5), (5, ai_iload 2 6), (6, ai_bin (fun x y => x + y) 7), (7, ai_callV 74 50 2 10), (10, ai_push 0 11), (11, ai_istore 5 13), (13, ai_iload 5 15), (15, ai_push 5 16), (16, ai_icmp (fun x y => y ≤ x) 71 19), (19, ai_aload 0 20), (20, ai_getP 50 19 23), (23, ai_push 5 24), (24, ai_push 5 25), (25, ai_iload 1 26), (26, ai_bin (fun x y => x * y) 27), (27, ai_iload 5 29), (29, ai_bin (fun x y => x + y) 30), (30, ai_bin (fun x y => x * y) 31), (31, ai_iload 2 32), (32, ai_bin (fun x y => x + y) 33), (33, ai_push 0 34), (34, ai_zast 69 125 35), (35, ai_aload 0 36), (36, ai_getP 50 7 39), (39, ai_push 5 40), (40, ai_iload 1 41), (41, ai_bin (fun x y => x * y) 42), (42, ai_iload 5 44), (44, ai_bin (fun x y => x + y) 45), (45, ai_ald 57 25 46), (46, ai_if (fun x => x = 0) 65 49), (49, ai_iload 5 51), (51, ai_iload 4 53), (53, ai_icmp (fun x y => x = y) 65 56), (56, ai_aload 0 57), (57, ai_iload 1 58), (58, ai_iload 5 60), (60, ai_iload 2 61), (61, ai_push 1 62), (62, ai_callV 78 50 4 65), (65, ai_iinc 5 1 68), (68, ai_goto 13), (71, ai_ret)]
def am_c80 : List (Nat × am_T) := [(0, ai_aload 0 1), (1, ai_getP 50 10 4), (4, ai_iload 3 5), (5, ai_aload 0 6), (6, ai_getP 50 10 9), (9, ai_iload 3 10), (10, ai_ald 60 7 11), (11, ai_push 1 12), (12, ai_bin (fun x y => x + y) 13), (13, ai_ast 60 7 14), (14, ai_aload 0 15), (15, ai_getP 50 3 18), (18, ai_push 5 19), (19, ai_iload 1 20), (20, ai_bin (fun x y => x * y) 21), (21, ai_iload 2 22), (22, ai_bin (fun x y => x + y) 23), (23, ai_ald 53 25 24), (24, ai_if (fun x => 0 < x) 36 27), (27, ai_aload 0 28), (28, ai_getP 50 1 31), (31, ai_iload 2 32), (32, ai_ald 51 5 33), (33, ai_if (fun x => x = 0) 40 36), (36, ai_push 1 37), (37, ai_goto 41), (40, ai_push 0 41), (41, ai_istore 4 43), (43, ai_aload 0 44), (44, ai_getP 50 3 47), (47, ai_push 5 48), (48, ai_iload 1 49), (49, ai_bin (fun x y => x * y) 50), (50, ai_iload 2 51), (51, ai_bin (fun x y => x + y) 52), (52, ai_aload 0 53), (53, ai_getP 50 3 56), (56, ai_push 5 57), (57, ai_iload 1 58), (58, ai_bin (fun x y => x * y) 59), (59, ai_iload 2 60), (60, ai_bin (fun x y => x + y) 61), (61, ai_ald 53 25 62), (62, ai_if (fun x => x ≤ 0) 80 65), (65, ai_aload 0 66), (66, ai_getP 50 3 69), (69, ai_push 5 70), (70, ai_iload 1 71), (71, ai_bin (fun x y => x * y) 72), (72, ai_iload 2 73), (73, ai_bin (fun x y => x + y) 74), (74, ai_ald 53 25 75), (75, ai_push 1 76), (76, ai_bin (fun x y => x - y) 77), (77, ai_goto 81), (80, ai_push 0 81), (81, ai_ast 53 25 82), (82, ai_aload 0 83), (83, ai_getP 50 10 86), (86, ai_push 4 87), (87, ai_iload 4 89), (89, ai_if (fun x => x = 0) 103 92), (92, ai_aload 0 93), (93, ai_getP 50 10 96), (96, ai_push 4 97), (97, ai_ald 60 7 98), (98, ai_push 1 99), (99, ai_bin (fun x y => x + y) 100), (100, ai_goto 109), (103, ai_aload 0 104), (104, ai_getP 50 10 107), (107, ai_push 4 108), (108, ai_ald 60 7 109), (109, ai_ast 60 7 110), (110, ai_iload 4 112), (112, ai_if (fun x => ¬ x = 0) 119 115), (115, ai_push 1 116), (116, ai_goto 120), (119, ai_push 0 120), (120, ai_zret)]
def am_c81 : List (Nat × am_T) := [(0, ai_push 0 1), (1, ai_istore 1 2), (2, ai_iload 1 3), (3, ai_push 25 5), (5, ai_icmp (fun x y => y ≤ x) 78 8), (8, ai_aload 0 9), (9, ai_getP 50 11 12), (12, ai_iload 1 13), (13, ai_ald 61 60 14), (14, ai_if (fun x => x ≤ 0) 72 17), (17, ai_aload 0 18), (18, ai_getP 50 12 21), (21, ai_iload 1 22), (22, ai_ald 62 60 23), (23, ai_aload 0 24), (24, ai_getI 50 0 27), (27, ai_push 40 29), (29, ai_bin (fun x y => x - y) 30), (30, ai_icmp (fun x y => y < x) 72 33), (33, ai_aload 0 34), (34, ai_getP 50 11 37), (37, ai_iload 1 38), (38, ai_push 0 39), (39, ai_ast 61 60 40), (40, ai_push 0 41), (41, ai_istore 2 42), (42, ai_iload 2 43), (43, ai_push 5 44), (44, ai_icmp (fun x y => y ≤ x) 72 47), (47, ai_aload 0 48), (48, ai_getP 50 19 51), (51, ai_push 5 52), (52, ai_push 5 53), (53, ai_iload 1 54), (54, ai_push 5 55), (55, ai_div (fun x y => x / y) 56), (56, ai_bin (fun x y => x * y) 57), (57, ai_iload 2 58), (58, ai_bin (fun x y => x + y) 59), (59, ai_bin (fun x y => x * y) 60), (60, ai_iload 1 61), (61, ai_push 5 62), (62, ai_div (fun x y => x - x / y * y) 63), (63, ai_bin (fun x y => x + y) 64), (64, ai_push 0 65), (65, ai_zast 69 125 66), (66, ai_iinc 2 1 69), (69, ai_goto 42), (72, ai_iinc 1 1 75), (75, ai_goto 2), (78, ai_ret)]
def am_c82 : List (Nat × am_T) := [(0, ai_push 0 1), (1, ai_istore 1 2), (2, ai_iload 1 3), (3, ai_push 25 5), (5, ai_icmp (fun x y => y ≤ x) 26 8), (8, ai_aload 0 9), (9, ai_getP 50 9 12), (12, ai_iload 1 13), (13, ai_aload 0 14), (14, ai_getP 50 4 17), (17, ai_iload 1 18), (18, ai_ald 54 25 19), (19, ai_zast 59 25 20), (20, ai_iinc 1 1 23), (23, ai_goto 2), (26, ai_push 0 27), (27, ai_istore 1 28), (28, ai_iload 1 29), (29, ai_push 25 31), (31, ai_icmp (fun x y => y ≤ x) 117 34), (34, ai_iload 1 35), (35, ai_push 5 36), (36, ai_div (fun x y => x / y) 37), (37, ai_istore 2 38), (38, ai_iload 1 39), (39, ai_push 5 40), (40, ai_div (fun x y => x - x / y * y) 41), (41, ai_istore 3 42), (42, ai_aload 0 43), (43, ai_getP 50 2 46), (46, ai_iload 1 47), (47, ai_ald 52 25 48), (48, ai_if (fun x => x ≤ 0) 111 51), (51, ai_aload 0 52), (52, ai_getP 50 1 55), (55, ai_iload 2 56), (56, ai_ald 51 5 57), (57, ai_if (fun x => ¬ x = 0) 111 60), (60, ai_aload 0 61), (61, ai_iload 2 62), (62, ai_iload 3 63), (63, ai_push 0 64), (64, ai_callV 80 50 3 67), (67, ai_if (fun x => x = 0) 111 70), (70, ai_aload 0 71), (71, ai_getP 50 4 74), (74, ai_push 5 75), (75, ai_iload 3 76), (76, ai_bin (fun x y => x * y) 77), (77, ai_iload 2 78), (78, ai_bin (fun x y => x + y) 79), (79, ai_push 1 80), (80, ai_zast 54 25 81), (81, ai_aload 0 82), (82, ai_getP 50 5 85), (85, ai_push 5 86), (86, ai_iload 3 87), (87, ai_bin (fun x y => x * y) 88), (88, ai_iload 2 89), (89, ai_bin (fun x y => x + y) 90), (90, ai_aload 0 91), (91, ai_getI 50 0 94), (94, ai_ast 55 25 95), (95, ai_aload 0 96), (96, ai_getP 50 6 99), (99, ai_push 5 100), (100, ai_iload 3 101), (101, ai_bin (fun x y => x * y) 102), (102, ai_iload 2 103), (103, ai_bin (fun x y => x + y) 104), (104, ai_aload 0 105), (105, ai_getP 50 9 108), (108, ai_iload 1 109), (109, ai_ald 59 25 110), (110, ai_zast 56 25 111), (111, ai_iinc 1 1 114), (114, ai_goto 28), (117, ai_ret)]
def am_c83 : List (Nat × am_T) := [(0, ai_push 0 1), (1, ai_istore 1 2), (2, ai_iload 1 3), (3, ai_push 25 5), (5, ai_icmp (fun x y => y ≤ x) 152 8), (8, ai_aload 0 9), (9, ai_getP 50 4 12), (12, ai_iload 1 13), (13, ai_ald 54 25 14), (14, ai_if (fun x => x = 0) 46 17), (17, ai_aload 0 18), (18, ai_getP 50 5 21), (21, ai_iload 1 22), (22, ai_ald 55 25 23), (23, ai_aload 0 24), (24, ai_getI 50 0 27), (27, ai_push 5 28), (28, ai_bin (fun x y => x - y) 29), (29, ai_icmp (fun x y => y < x) 46 32), (32, ai_aload 0 33), (33, ai_getP 50 4 36), (36, ai_iload 1 37), (37, ai_push 0 38), (38, ai_zast 54 25 39), (39, ai_aload 0 40), (40, ai_getP 50 6 43), (43, ai_iload 1 44), (44, ai_push 0 45), (45, ai_zast 56 25 46), (46, ai_aload 0 47), (47, ai_getP 50 4 50), (50, ai_iload 1 51), (51, ai_ald 54 25 52), (52, ai_if (fun x => x = 0) 68 55), (55, ai_aload 0 56), (56, ai_getP 50 6 59), (59, ai_iload 1 60), (60, ai_ald 56 25 61), (61, ai_if (fun x => x = 0) 68 64), (64, ai_push 1 65), (65, ai_goto 69), (68, ai_push 0 69), (69, ai_istore 2 70), (70, ai_aload 0 71), (71, ai_getP 50 8 74), (74, ai_iload 1 75), (75, ai_iload 2 76), (76, ai_if (fun x => x = 0) 92 79), (79, ai_aload 0 80), (80, ai_getP 50 7 83), (83, ai_iload 1 84), (84, ai_ald 57 25 85), (85, ai_if (fun x => ¬ x = 0) 92 88), (88, ai_push 1 89), (89, ai_goto 93), (92, ai_push 0 93), (93, ai_zast 58 25 94), (94, ai_aload 0 95), (95, ai_getP 50 7 98), (98, ai_iload 1 99), (99, ai_iload 2 100), (100, ai_zast 57 25 101), (101, ai_push 0 102), (102, ai_istore 3 103), (103, ai_iload 3 104), (104, ai_push 5 105), (105, ai_icmp (fun x y => y ≤ x) 146 108), (108, ai_aload 0 109), (109, ai_getP 50 19 112), (112, ai_push 5 113), (113, ai_iload 1 114), (114, ai_bin (fun x y => x * y) 115), (115, ai_iload 3 116), (116, ai_bin (fun x y => x + y) 117), (117, ai_aload 0 118), (118, ai_getP 50 19 121), (121, ai_push 5 122), (122, ai_iload 1 123), (123, ai_bin (fun x y => x * y) 124), (124, ai_iload 3 125), (125, ai_bin (fun x y => x + y) 126), (126, ai_ald 69 125 127), (127, ai_if (fun x => x = 0) 138 130), (130, ai_iload 2 131), (131, ai_if (fun x => x = 0) 138 134), (134, ai_push 1 135), (135, ai_goto 139), (138, ai_push 0 139), (139, ai_zast 69 125 140), (140, ai_iinc 3 1 143), (143, ai_goto 103), (146, ai_iinc 1 1 149), (149, ai_goto 2), (152, ai_push 0 153), (153, ai_istore 1 154), (154, ai_iload 1 155), (155, ai_push 25 157), (157, ai_icmp (fun x y => y ≤ x) 223 160), (160, ai_push 5 161), (161, ai_iload 1 162), (162, ai_push 5 163), (163, ai_div (fun x y => x - x / y * y) 164), (164, ai_bin (fun x y => x * y) 165), (165, ai_iload 1 166), (166, ai_push 5 167), (167, ai_div (fun x y => x / y) 168), (168, ai_bin (fun x y => x + y) 169), (169, ai_istore 2 170), (170, ai_aload 0 171), (171, ai_getP 50 8 174), (174, ai_iload 1 175), (175, ai_ald 58 25 176), (176, ai_if (fun x => x = 0) 189 179), (179, ai_aload 0 180), (180, ai_iload 1 181), (181, ai_push 5 182), (182, ai_div (fun x y => x / y) 183), (183, ai_iload 1 184), (184, ai_push 5 185), (185, ai_div (fun x y => x - x / y * y) 186), (186, ai_callV 84 50 2 189), (189, ai_aload 0 190), (190, ai_getP 50 8 193), (193, ai_iload 1 194), (194, ai_ald 58 25 195), (195, ai_if (fun x => x = 0) 217 198), (198, ai_aload 0 199), (199, ai_getP 50 7 202), (202, ai_iload 2 203), (203, ai_ald 57 25 204), (204, ai_if (fun x => x = 0) 217 207), (207, ai_aload 0 208), (208, ai_iload 1 209), (209, ai_push 5 210), (210, ai_div (fun x y => x - x / y * y) 211), (211, ai_iload 1 212), (212, ai_push 5 213), (213, ai_div (fun x y => x / y) 214), (214, ai_callV 84 50 2 217), (217, ai_iinc 1 1 220), (220, ai_goto 154), (223, ai_ret)]
def am_c84 : List (Nat × am_T) := [(0, ai_push 0 1), (1, ai_istore 3 2), (2, ai_iload 3 3), (3, ai_push 5 4), (4, ai_icmp (fun x y => y ≤ x) 51 7), (7, ai_aload 0 8), (8, ai_getP 50 11 11), (11, ai_push 5 12), (12, ai_iload 1 13), (13, ai_bin (fun x y => x * y) 14), (14, ai_iload 3 15), (15, ai_bin (fun x y => x + y) 16), (16, ai_ald 61 60 17), (17, ai_if (fun x => x ≤ 0) 45 20), (20, ai_aload 0 21), (21, ai_push 5 22), (22, ai_iload 2 23), (23, ai_bin (fun x y => x * y) 24), (24, ai_iload 3 25), (25, ai_bin (fun x y => x + y) 26), (26, ai_push 5 27), (27, ai_iload 1 28), (28, ai_bin (fun x y => x * y) 29), (29, ai_iload 3 30), (30, ai_bin (fun x y => x + y) 31), (31, ai_callV 76 50 2 34), (34, ai_if (fun x => x = 0) 45 37), (37, ai_aload 0 38), (38, ai_iload 1 39), (39, ai_iload 2 40), (40, ai_iload 3 41), (41, ai_push 0 42), (42, ai_callV 78 50 4 45), (45, ai_iinc 3 1 48), (48, ai_goto 2), (51, ai_ret)]
def am_c85 : List (Nat × am_T) := [(0, ai_push 55 2), (2, ai_iload 1 3), (3, ai_bin (fun x y => x + y) 4), (4, ai_istore 2 5), (5, ai_push 50 7), (7, ai_iload 1 8), (8, ai_bin (fun x y => x + y) 9), (9, ai_istore 3 10), (10, ai_push 0 11), (11, ai_istore 4 13), (13, ai_iload 4 15), (15, ai_push 5 16), (16, ai_icmp (fun x y => y ≤ x) 65 19), (19, ai_aload 0 20), (20, ai_getP 50 13 23), (23, ai_push 5 24), (24, ai_iload 2 25), (25, ai_bin (fun x y => x * y) 26), (26, ai_iload 4 28), (28, ai_bin (fun x y => x + y) 29), (29, ai_aload 0 30), (30, ai_getP 50 7 33), (33, ai_push 5 34), (34, ai_iload 1 35), (35, ai_bin (fun x y => x * y) 36), (36, ai_iload 4 38), (38, ai_bin (fun x y => x + y) 39), (39, ai_ald 57 25 40), (40, ai_if (fun x => x = 0) 57 43), (43, ai_aload 0 44), (44, ai_getP 50 2 47), (47, ai_push 5 48), (48, ai_iload 1 49), (49, ai_bin (fun x y => x * y) 50), (50, ai_iload 4 52), (52, ai_bin (fun x y => x + y) 53), (53, ai_ald 52 25 54), (54, ai_goto 58), (57, ai_push 0 58), (58, ai_ast 63 300 59), (59, ai_iinc 4 1 62), (62, ai_goto 13), (65, ai_aload 0 66), (66, ai_iload 2 67), (67, ai_iload 3 68), (68, ai_callV 75 50 2 71), (71, ai_if (fun x => x = 0) 99 74), (74, ai_aload 0 75), (75, ai_getP 50 12 78), (78, ai_iload 3 79), (79, ai_ald 62 60 80), (80, ai_aload 0 81), (81, ai_getI 50 0 84), (84, ai_push 20 86), (86, ai_bin (fun x y => x - y) 87), (87, ai_icmp (fun x y => x ≤ y) 99 90), (90, ai_aload 0 91), (91, ai_getP 50 18 94), (94, ai_iload 1 95), (95, ai_ald 68 5 96), (96, ai_if (fun x => x = 0) 103 99), (99, ai_push 1 100), (100, ai_goto 104), (103, ai_push 0 104), (104, ai_istore 4 106), (106, ai_aload 0 107), (107, ai_getP 50 11 110), (110, ai_iload 3 111), (111, ai_ald 61 60 112), (112, ai_if (fun x => x = 0) 135 115), (115, ai_aload 0 116), (116, ai_getP 50 12 119), (119, ai_iload 3 120), (120, ai_ald 62 60 121), (121, ai_aload 0 122), (122, ai_getI 50 0 125), (125, ai_push 2 126), (126, ai_bin (fun x y => x - y) 127), (127, ai_icmp (fun x y => y < x) 139 130), (130, ai_iload 4 132), (132, ai_if (fun x => x = 0) 139 135), (135, ai_push 1 136), (136, ai_goto 140), (139, ai_push 0 140), (140, ai_istore 5 142), (142, ai_aload 0 143), (143, ai_getP 50 1 146), (146, ai_iload 1 147), (147, ai_ald 51 5 148), (148, ai_if (fun x => ¬ x = 0) 156 151), (151, ai_iload 5 153), (153, ai_if (fun x => ¬ x = 0) 157 156), (156, ai_ret), (157, ai_aload 0 158), (158, ai_getP 50 17 161), (161, ai_iload 1 162), (162, ai_aload 0 163), (163, ai_getP 50 17 166), (166, ai_iload 1 167), (167, ai_ald 67 5 168), (168, ai_push 1 169), (169, ai_bin (fun x y => x + y) 170), (170, ai_ast 67 5 171), (171, ai_aload 0 172), (172, ai_getP 50 11 175), (175, ai_iload 2 176), (176, ai_aload 0 177), (177, ai_getP 50 17 180), (180, ai_iload 1 181), (181, ai_ald 67 5 182), (182, ai_ast 61 60 183), (183, ai_aload 0 184), (184, ai_getP 50 12 187), (187, ai_iload 2 188), (188, ai_aload 0 189), (189, ai_getI 50 0 192), (192, ai_ast 62 60 193), (193, ai_aload 0 194), (194, ai_iload 2 195), (195, ai_iload 3 196), (196, ai_callV 74 50 2 199), (199, ai_aload 0 200), (200, ai_getP 50 18 203), (203, ai_iload 1 204), (204, ai_push 0 205), (205, ai_zast 68 5 206), (206, ai_aload 0 207), (207, ai_getP 50 10 210), (210, ai_push 5 211), (211, ai_aload 0 212), (212, ai_getP 50 10 215), (215, ai_push 5 216), (216, ai_ald 60 7 217), (217, ai_push 1 218), (218, ai_bin (fun x y => x + y) 219), (219, ai_ast 60 7 220), (220, ai_aload 0 221), (221, ai_iload 1 222), (222, ai_iload 1 223), (223, ai_iload 2 224), (224, ai_iload 1 225), (225, ai_callV 79 50 4 228), (228, ai_ret)]
def am_c86 : List (Nat × am_T) := [(0, ai_push 0 1), (1, ai_istore 1 2), (2, ai_iload 1 3), (3, ai_push 25 5), (5, ai_icmp (fun x y => y ≤ x) 23 8), (8, ai_aload 0 9), (9, ai_iload 1 10), (10, ai_push 25 12), (12, ai_iload 1 13), (13, ai_bin (fun x y => x + y) 14), (14, ai_callV 74 50 2 17), (17, ai_iinc 1 1 20), (20, ai_goto 2), (23, ai_push 0 24), (24, ai_istore 1 25), (25, ai_iload 1 26), (26, ai_push 25 28), (28, ai_icmp (fun x y => y ≤ x) 198 31), (31, ai_push 0 32), (32, ai_istore 2 33), (33, ai_push 0 34), (34, ai_istore 3 35), (35, ai_iload 3 36), (36, ai_push 5 37), (37, ai_icmp (fun x y => y ≤ x) 149 40), (40, ai_push 5 41), (41, ai_iload 1 42), (42, ai_bin (fun x y => x * y) 43), (43, ai_iload 3 44), (44, ai_bin (fun x y => x + y) 45), (45, ai_istore 4 47), (47, ai_aload 0 48), (48, ai_getP 50 21 51), (51, ai_iload 4 53), (53, ai_aload 0 54), (54, ai_getP 50 7 57), (57, ai_iload 1 58), (58, ai_ald 57 25 59), (59, ai_if (fun x => x = 0) 92 62), (62, ai_aload 0 63), (63, ai_getP 50 19 66), (66, ai_iload 4 68), (68, ai_ald 69 125 69), (69, ai_if (fun x => x = 0) 92 72), (72, ai_aload 0 73), (73, ai_getP 50 20 76), (76, ai_iload 4 78), (78, ai_ald 70 125 79), (79, ai_aload 0 80), (80, ai_getI 50 0 83), (83, ai_push 3 84), (84, ai_bin (fun x y => x - y) 85), (85, ai_icmp (fun x y => y < x) 92 88), (88, ai_push 1 89), (89, ai_goto 93), (92, ai_push 0 93), (93, ai_zast 71 125 94), (94, ai_aload 0 95), (95, ai_getP 50 20 98), (98, ai_iload 4 100), (100, ai_aload 0 101), (101, ai_getP 50 21 104), (104, ai_iload 4 106), (106, ai_ald 71 125 107), (107, ai_if (fun x => x = 0) 117 110), (110, ai_aload 0 111), (111, ai_getI 50 0 114), (114, ai_goto 124), (117, ai_aload 0 118), (118, ai_getP 50 20 121), (121, ai_iload 4 123), (123, ai_ald 70 125 124), (124, ai_ast 70 125 125), (125, ai_aload 0 126), (126, ai_getP 50 21 129), (129, ai_iload 4 131), (131, ai_ald 71 125 132), (132, ai_if (fun x => x = 0) 141 135), (135, ai_iload 2 136), (136, ai_push 1 137), (137, ai_bin (fun x y => x + y) 138), (138, ai_goto 142), (141, ai_iload 2 142), (142, ai_istore 2 143), (143, ai_iinc 3 1 146), (146, ai_goto 35), (149, ai_aload 0 150), (150, ai_getP 50 10 153), (153, ai_push 2 154), (154, ai_aload 0 155), (155, ai_getP 50 10 158), (158, ai_push 2 159), (159, ai_ald 60 7 160), (160, ai_iload 2 161), (161, ai_bin (fun x y => x + y) 162), (162, ai_ast 60 7 163), (163, ai_aload 0 164), (164, ai_getP 50 22 167), (167, ai_iload 1 168), (168, ai_iload 2 169), (169, ai_if (fun x => x ≤ 0) 190 172), (172, ai_aload 0 173), (173, ai_iload 1 174), (174, ai_push 5 175), (175, ai_div (fun x y => x / y) 176), (176, ai_iload 1 177), (177, ai_push 5 178), (178, ai_div (fun x y => x - x / y * y) 179), (179, ai_push 1 180), (180, ai_callV 80 50 3 183), (183, ai_if (fun x => x = 0) 190 186), (186, ai_push 1 187), (187, ai_goto 191), (190, ai_push 0 191), (191, ai_zast 72 25 192), (192, ai_iinc 1 1 195), (195, ai_goto 25), (198, ai_ret)]
def am_c87 : List (Nat × am_T) := [(0, ai_push 0 1), (1, ai_istore 3 2), (2, ai_push 0 3), (3, ai_istore 4 5), (5, ai_iload 4 7), (7, ai_push 5 8), (8, ai_icmp (fun x y => y ≤ x) 249 11), (11, ai_push 25 13), (13, ai_push 5 14), (14, ai_iload 1 15), (15, ai_bin (fun x y => x * y) 16), (16, ai_bin (fun x y => x + y) 17), (17, ai_iload 4 19), (19, ai_bin (fun x y => x + y) 20), (20, ai_istore 5 22), (22, ai_push 5 23), (23, ai_iload 2 24), (24, ai_bin (fun x y => x * y) 25), (25, ai_iload 4 27), (27, ai_bin (fun x y => x + y) 28), (28, ai_istore 6 30), (30, ai_aload 0 31), (31, ai_getP 50 23 34), (34, ai_iload 4 36), (36, ai_push 0 37), (37, ai_zast 73 5 38), (38, ai_aload 0 39), (39, ai_getP 50 21 42), (42, ai_push 5 43), (43, ai_push 5 44), (44, ai_iload 1 45), (45, ai_bin (fun x y => x * y) 46), (46, ai_iload 2 47), (47, ai_bin (fun x y => x + y) 48), (48, ai_bin (fun x y => x * y) 49), (49, ai_iload 4 51), (51, ai_bin (fun x y => x + y) 52), (52, ai_ald 71 125 53), (53, ai_if (fun x => x = 0) 243 56), (56, ai_aload 0 57), (57, ai_iload 6 59), (59, ai_iload 5 61), (61, ai_callV 76 50 2 64), (64, ai_istore 7 66), (66, ai_aload 0 67), (67, ai_getP 50 23 70), (70, ai_iload 4 72), (72, ai_iload 7 74), (74, ai_if (fun x => ¬ x = 0) 88 77), (77, ai_aload 0 78), (78, ai_iload 6 80), (80, ai_iload 5 82), (82, ai_callV 77 50 2 85), (85, ai_if (fun x => x = 0) 92 88), (88, ai_push 1 89), (89, ai_goto 93), (92, ai_push 0 93), (93, ai_zast 73 5 94), (94, ai_aload 0 95), (95, ai_getP 50 23 98), (98, ai_iload 4 100), (100, ai_ald 73 5 101), (101, ai_if (fun x => x = 0) 110 104), (104, ai_iload 3 105), (105, ai_push 1 106), (106, ai_bin (fun x y => x + y) 107), (107, ai_goto 111), (110, ai_iload 3 111), (111, ai_istore 3 112), (112, ai_iload 7 114), (114, ai_if (fun x => x = 0) 171 117), (117, ai_iload 4 119), (119, ai_iload 2 120), (120, ai_icmp (fun x y => ¬ x = y) 171 123), (123, ai_aload 0 124), (124, ai_getP 50 17 127), (127, ai_iload 2 128), (128, ai_aload 0 129), (129, ai_getP 50 11 132), (132, ai_iload 5 134), (134, ai_ald 61 60 135), (135, ai_aload 0 136), (136, ai_getP 50 17 139), (139, ai_iload 2 140), (140, ai_ald 67 5 141), (141, ai_icmp (fun x y => x ≤ y) 154 144), (144, ai_aload 0 145), (145, ai_getP 50 11 148), (148, ai_iload 5 150), (150, ai_ald 61 60 151), (151, ai_goto 160), (154, ai_aload 0 155), (155, ai_getP 50 17 158), (158, ai_iload 2 159), (159, ai_ald 67 5 160), (160, ai_ast 67 5 161), (161, ai_aload 0 162), (162, ai_getP 50 18 165), (165, ai_iload 2 166), (166, ai_push 1 167), (167, ai_zast 68 5 168), (168, ai_goto 243), (171, ai_iload 7 173), (173, ai_if (fun x => x = 0) 205 176), (176, ai_aload 0 177), (177, ai_getP 50 10 180), (180, ai_push 6 182), (182, ai_aload 0 183), (183, ai_getP 50 10 186), (186, ai_push 6 188), (188, ai_ald 60 7 189), (189, ai_push 1 190), (190, ai_bin (fun x y => x + y) 191), (191, ai_ast 60 7 192), (192, ai_aload 0 193), (193, ai_iload 2 194), (194, ai_iload 4 196), (196, ai_iload 5 198), (198, ai_iload 1 199), (199, ai_callV 79 50 4 202), (202, ai_goto 243), (205, ai_aload 0 206), (206, ai_getP 50 23 209), (209, ai_iload 4 211), (211, ai_ald 73 5 212), (212, ai_if (fun x => x = 0) 234 215), (215, ai_aload 0 216), (216, ai_getP 50 19 219), (219, ai_push 5 220), (220, ai_push 5 221), (221, ai_iload 2 222), (222, ai_bin (fun x y => x * y) 223), (223, ai_iload 1 224), (224, ai_bin (fun x y => x + y) 225), (225, ai_bin (fun x y => x * y) 226), (226, ai_iload 4 228), (228, ai_bin (fun x y => x + y) 229), (229, ai_push 0 230), (230, ai_zast 69 125 231), (231, ai_goto 243), (234, ai_aload 0 235), (235, ai_iload 2 236), (236, ai_iload 1 237), (237, ai_iload 4 239), (239, ai_push 0 240), (240, ai_callV 78 50 4 243), (243, ai_iinc 4 1 246), (246, ai_goto 5), (249, ai_iload 3 250), (250, ai_if (fun x => x = 0) 263 253), (253, ai_aload 0 254), (254, ai_iload 2 255), (255, ai_iload 1 256), (256, ai_push 3 257), (257, ai_callV 80 50 3 260), (260, ai_if (fun x => ¬ x = 0) 264 263), (263, ai_ret), (264, ai_push 0 265), (265, ai_istore 4 267), (267, ai_iload 4 269), (269, ai_push 5 270), (270, ai_icmp (fun x y => y ≤ x) 353 273), (273, ai_aload 0 274), (274, ai_getP 50 11 277), (277, ai_push 5 278), (278, ai_iload 1 279), (279, ai_bin (fun x y => x * y) 280), (280, ai_iload 4 282), (282, ai_bin (fun x y => x + y) 283), (283, ai_ald 61 60 284), (284, ai_if (fun x => x ≤ 0) 313 287), (287, ai_aload 0 288), (288, ai_push 5 289), (289, ai_iload 1 290), (290, ai_bin (fun x y => x * y) 291), (291, ai_iload 4 293), (293, ai_bin (fun x y => x + y) 294), (294, ai_push 25 296), (296, ai_push 5 297), (297, ai_iload 1 298), (298, ai_bin (fun x y => x * y) 299), (299, ai_bin (fun x y => x + y) 300), (300, ai_iload 4 302), (302, ai_bin (fun x y => x + y) 303), (303, ai_callV 77 50 2 306), (306, ai_if (fun x => x = 0) 313 309), (309, ai_push 1 310), (310, ai_goto 314), (313, ai_push 0 314), (314, ai_istore 5 316), (316, ai_aload 0 317), (317, ai_getP 50 23 320), (320, ai_iload 4 322), (322, ai_ald 73 5 323), (323, ai_if (fun x => x = 0) 347 326), (326, ai_iload 5 328), (328, ai_if (fun x => x = 0) 347 331), (331, ai_aload 0 332), (332, ai_getP 50 19 335), (335, ai_push 5 336), (336, ai_push 5 337), (337, ai_iload 1 338), (338, ai_bin (fun x y => x * y) 339), (339, ai_iload 2 340), (340, ai_bin (fun x y => x + y) 341), (341, ai_bin (fun x y => x * y) 342), (342, ai_iload 4 344), (344, ai_bin (fun x y => x + y) 345), (345, ai_push 0 346), (346, ai_zast 69 125 347), (347, ai_iinc 4 1 350), (350, ai_goto 267), (353, ai_ret)]
def am_c88 : List (Nat × am_T) := [(0, ai_iload 1 1), (1, ai_push 1 2), (2, ai_icmp (fun x y => x < y) 10 5), (5, ai_iload 1 6), (6, ai_push 4 7), (7, ai_icmp (fun x y => x ≤ y) 12 10), (10, ai_push 0 11), (11, ai_zret), (12, ai_push 0 13), (13, ai_istore 2 14), (14, ai_iload 2 15), (15, ai_iload 1 16), (16, ai_icmp (fun x y => y ≤ x) 128 19), (19, ai_aload 0 20), (20, ai_aload 0 21), (21, ai_getI 50 0 24), (24, ai_push 1 25), (25, ai_bin (fun x y => x + y) 26), (26, ai_putI 50 0 29), (29, ai_aload 0 30), (30, ai_callV 81 50 0 33), (33, ai_aload 0 34), (34, ai_getI 50 0 37), (37, ai_push 2 38), (38, ai_div (fun x y => x - x / y * y) 39), (39, ai_if (fun x => ¬ x = 0) 46 42), (42, ai_aload 0 43), (43, ai_callV 82 50 0 46), (46, ai_aload 0 47), (47, ai_callV 83 50 0 50), (50, ai_push 0 51), (51, ai_istore 3 52), (52, ai_iload 3 53), (53, ai_push 5 54), (54, ai_icmp (fun x y => y ≤ x) 68 57), (57, ai_aload 0 58), (58, ai_iload 3 59), (59, ai_callV 85 50 1 62), (62, ai_iinc 3 1 65), (65, ai_goto 52), (68, ai_aload 0 69), (69, ai_callV 86 50 0 72), (72, ai_push 0 73), (73, ai_istore 3 74), (74, ai_iload 3 75), (75, ai_push 25 77), (77, ai_icmp (fun x y => y ≤ x) 122 80), (80, ai_aload 0 81), (81, ai_getP 50 22 84), (84, ai_iload 3 85), (85, ai_ald 72 25 86), (86, ai_if (fun x => x = 0) 116 89), (89, ai_aload 0 90), (90, ai_getP 50 7 93), (93, ai_push 5 94), (94, ai_iload 3 95), (95, ai_push 5 96), (96, ai_div (fun x y => x - x / y * y) 97), (97, ai_bin (fun x y => x * y) 98), (98, ai_iload 3 99), (99, ai_push 5 100), (100, ai_div (fun x y => x / y) 101), (101, ai_bin (fun x y => x + y) 102), (102, ai_ald 57 25 103), (103, ai_if (fun x => x = 0) 116 106), (106, ai_aload 0 107), (107, ai_iload 3 108), (108, ai_push 5 109), (109, ai_div (fun x y => x / y) 110), (110, ai_iload 3 111), (111, ai_push 5 112), (112, ai_div (fun x y => x - x / y * y) 113), (113, ai_callV 87 50 2 116), (116, ai_iinc 3 1 119), (119, ai_goto 74), (122, ai_iinc 2 1 125), (125, ai_goto 14), (128, ai_push 1 129), (129, ai_zret)]
def am_c89 : List (Nat × am_T) := [(0, ai_aload 0 1), (1, ai_iload 1 2), (2, ai_iload 2 3), (3, ai_callV 68 50 2 6), (6, ai_if (fun x => ¬ x = 0) 11 9), (9, ai_push (-1) 10), (10, ai_iret), (11, ai_push 5 12), (12, ai_iload 1 13), (13, ai_bin (fun x y => x * y) 14), (14, ai_iload 2 15), (15, ai_bin (fun x y => x + y) 16), (16, ai_istore 3 17), (17, ai_aload 0 18), (18, ai_getP 50 7 21), (21, ai_iload 3 22), (22, ai_ald 57 25 23), (23, ai_if (fun x => x = 0) 30 26), (26, ai_push 2 27), (27, ai_goto 44), (30, ai_aload 0 31), (31, ai_getP 50 4 34), (34, ai_iload 3 35), (35, ai_ald 54 25 36), (36, ai_if (fun x => x = 0) 43 39), (39, ai_push 1 40), (40, ai_goto 44), (43, ai_push 0 44), (44, ai_iret)]
def am_c90 : List (Nat × am_T) := [(0, ai_iload 1 1), (1, ai_callS 67 1 4), (4, ai_if (fun x => x = 0) 27 7), (7, ai_iload 2 8), (8, ai_callS 67 1 11), (11, ai_if (fun x => x = 0) 27 14), (14, ai_aload 0 15), (15, ai_getP 50 11 18), (18, ai_push 5 19), (19, ai_iload 1 20), (20, ai_bin (fun x y => x * y) 21), (21, ai_iload 2 22), (22, ai_bin (fun x y => x + y) 23), (23, ai_ald 61 60 24), (24, ai_goto 28), (27, ai_push (-1) 28), (28, ai_iret)]
def am_c91 : List (Nat × am_T) := [(0, ai_iload 1 1), (1, ai_callS 67 1 4), (4, ai_if (fun x => x = 0) 45 7), (7, ai_iload 2 8), (8, ai_callS 67 1 11), (11, ai_if (fun x => x = 0) 45 14), (14, ai_aload 0 15), (15, ai_getP 50 11 18), (18, ai_push 5 19), (19, ai_iload 1 20), (20, ai_bin (fun x y => x * y) 21), (21, ai_iload 2 22), (22, ai_bin (fun x y => x + y) 23), (23, ai_ald 61 60 24), (24, ai_if (fun x => x ≤ 0) 45 27), (27, ai_aload 0 28), (28, ai_getI 50 0 31), (31, ai_aload 0 32), (32, ai_getP 50 12 35), (35, ai_push 5 36), (36, ai_iload 1 37), (37, ai_bin (fun x y => x * y) 38), (38, ai_iload 2 39), (39, ai_bin (fun x y => x + y) 40), (40, ai_ald 62 60 41), (41, ai_bin (fun x y => x - y) 42), (42, ai_goto 46), (45, ai_push (-1) 46), (46, ai_iret)]
def am_c92 : List (Nat × am_T) := [(0, ai_iload 1 1), (1, ai_callS 67 1 4), (4, ai_if (fun x => x = 0) 51 7), (7, ai_iload 2 8), (8, ai_callS 67 1 11), (11, ai_if (fun x => x = 0) 51 14), (14, ai_iload 3 15), (15, ai_callS 67 1 18), (18, ai_if (fun x => x = 0) 51 21), (21, ai_aload 0 22), (22, ai_getP 50 11 25), (25, ai_push 5 26), (26, ai_iload 1 27), (27, ai_bin (fun x y => x * y) 28), (28, ai_iload 2 29), (29, ai_bin (fun x y => x + y) 30), (30, ai_ald 61 60 31), (31, ai_if (fun x => x ≤ 0) 51 34), (34, ai_aload 0 35), (35, ai_getP 50 13 38), (38, ai_push 5 39), (39, ai_push 5 40), (40, ai_iload 1 41), (41, ai_bin (fun x y => x * y) 42), (42, ai_iload 2 43), (43, ai_bin (fun x y => x + y) 44), (44, ai_bin (fun x y => x * y) 45), (45, ai_iload 3 46), (46, ai_bin (fun x y => x + y) 47), (47, ai_ald 63 300 48), (48, ai_goto 52), (51, ai_push (-1) 52), (52, ai_iret)]
def am_c93 : List (Nat × am_T) := [(0, ai_aload 0 1), (1, ai_iload 1 2), (2, ai_iload 2 3), (3, ai_callV 68 50 2 6), (6, ai_if (fun x => ¬ x = 0) 11 9), (9, ai_push (-1) 10), (10, ai_iret), (11, ai_push 0 12), (12, ai_istore 3 13), (13, ai_push 0 14), (14, ai_istore 4 16), (16, ai_iload 4 18), (18, ai_push 5 19), (19, ai_icmp (fun x y => y ≤ x) 54 22), (22, ai_aload 0 23), (23, ai_getP 50 19 26), (26, ai_push 5 27), (27, ai_push 5 28), (28, ai_iload 1 29), (29, ai_bin (fun x y => x * y) 30), (30, ai_iload 2 31), (31, ai_bin (fun x y => x + y) 32), (32, ai_bin (fun x y => x * y) 33), (33, ai_iload 4 35), (35, ai_bin (fun x y => x + y) 36), (36, ai_ald 69 125 37), (37, ai_if (fun x => x = 0) 46 40), (40, ai_iload 3 41), (41, ai_push 1 42), (42, ai_bin (fun x y => x + y) 43), (43, ai_goto 47), (46, ai_iload 3 47), (47, ai_istore 3 48), (48, ai_iinc 4 1 51), (51, ai_goto 16), (54, ai_iload 3 55), (55, ai_iret)]
def am_c94 : List (Nat × am_T) := [(0, ai_aload 0 1), (1, ai_getP 50 11 4), (4, ai_push 5 5), (5, ai_iload 1 6), (6, ai_bin (fun x y => x * y) 7), (7, ai_iload 2 8), (8, ai_bin (fun x y => x + y) 9), (9, ai_ald 61 60 10), (10, ai_if (fun x => x ≤ 0) 47 13), (13, ai_aload 0 14), (14, ai_getP 50 11 17), (17, ai_push 5 18), (18, ai_iload 1 19), (19, ai_bin (fun x y => x * y) 20), (20, ai_iload 3 21), (21, ai_bin (fun x y => x + y) 22), (22, ai_ald 61 60 23), (23, ai_if (fun x => x ≤ 0) 47 26), (26, ai_aload 0 27), (27, ai_getP 50 13 30), (30, ai_push 5 31), (31, ai_push 5 32), (32, ai_iload 1 33), (33, ai_bin (fun x y => x * y) 34), (34, ai_iload 3 35), (35, ai_bin (fun x y => x + y) 36), (36, ai_bin (fun x y => x * y) 37), (37, ai_iload 2 38), (38, ai_bin (fun x y => x + y) 39), (39, ai_ald 63 300 40), (40, ai_if (fun x => x ≤ 0) 47 43), (43, ai_push 1 44), (44, ai_goto 48), (47, ai_push 0 48), (48, ai_istore 4 50), (50, ai_aload 0 51), (51, ai_getP 50 13 54), (54, ai_push 5 55), (55, ai_push 5 56), (56, ai_iload 1 57), (57, ai_bin (fun x y => x * y) 58), (58, ai_iload 2 59), (59, ai_bin (fun x y => x + y) 60), (60, ai_bin (fun x y => x * y) 61), (61, ai_iload 3 62), (62, ai_bin (fun x y => x + y) 63), (63, ai_ald 63 300 64), (64, ai_istore 5 66), (66, ai_iload 4 68), (68, ai_if (fun x => x = 0) 81 71), (71, ai_iload 5 73), (73, ai_if (fun x => x ≤ 0) 81 76), (76, ai_iload 5 78), (78, ai_goto 84), (81, ai_push 1000 84), (84, ai_iret)]
def am_c95 : List (Nat × am_T) := [(0, ai_push 0 1), (1, ai_istore 2 2), (2, ai_iload 2 3), (3, ai_push 25 5), (5, ai_icmp (fun x y => y ≤ x) 42 8), (8, ai_aload 0 9), (9, ai_getP 50 24 12), (12, ai_iload 2 13), (13, ai_iload 2 14), (14, ai_push 6 16), (16, ai_div (fun x y => x - x / y * y) 17), (17, ai_if (fun x => ¬ x = 0) 24 20), (20, ai_push 0 21), (21, ai_goto 35), (24, ai_aload 0 25), (25, ai_iload 1 26), (26, ai_iload 2 27), (27, ai_push 5 28), (28, ai_div (fun x y => x / y) 29), (29, ai_iload 2 30), (30, ai_push 5 31), (31, ai_div (fun x y => x - x / y * y) 32), (32, ai_callV 94 50 3 35), (35, ai_ast 74 25 36), (36, ai_iinc 2 1 39), (39, ai_goto 2), (42, ai_push 0 43), (43, ai_istore 2 44), (44, ai_iload 2 45), (45, ai_push 5 46), (46, ai_icmp (fun x y => y ≤ x) 124 49), (49, ai_push 0 50), (50, ai_istore 3 51), (51, ai_iload 3 52), (52, ai_push 25 54), (54, ai_icmp (fun x y => y ≤ x) 118 57), (57, ai_aload 0 58), (58, ai_getP 50 24 61), (61, ai_iload 3 62), (62, ai_push 5 63), (63, ai_div (fun x y => x / y) 64), (64, ai_push 5 65), (65, ai_bin (fun x y => x * y) 66), (66, ai_iload 2 67), (67, ai_bin (fun x y => x + y) 68), (68, ai_ald 74 25 69), (69, ai_aload 0 70), (70, ai_getP 50 24 73), (73, ai_push 5 74), (74, ai_iload 2 75), (75, ai_bin (fun x y => x * y) 76), (76, ai_iload 3 77), (77, ai_push 5 78), (78, ai_div (fun x y => x - x / y * y) 79), (79, ai_bin (fun x y => x + y) 80), (80, ai_ald 74 25 81), (81, ai_bin (fun x y => x + y) 82), (82, ai_istore 4 84), (84, ai_aload 0 85), (85, ai_getP 50 24 88), (88, ai_iload 3 89), (89, ai_iload 4 91), (91, ai_aload 0 92), (92, ai_getP 50 24 95), (95, ai_iload 3 96), (96, ai_ald 74 25 97), (97, ai_icmp (fun x y => y ≤ x) 105 100), (100, ai_iload 4 102), (102, ai_goto 111), (105, ai_aload 0 106), (106, ai_getP 50 24 109), (109, ai_iload 3 110), (110, ai_ald 74 25 111), (111, ai_ast 74 25 112), (112, ai_iinc 3 1 115), (115, ai_goto 51), (118, ai_iinc 2 1 121), (121, ai_goto 44), (124, ai_ret)]
def am_c96 : List (Nat × am_T) := [(0, ai_iload 1 1), (1, ai_callS 67 1 4), (4, ai_if (fun x => x = 0) 23 7), (7, ai_iload 2 8), (8, ai_callS 67 1 11), (11, ai_if (fun x => x = 0) 23 14), (14, ai_aload 0 15), (15, ai_getP 50 1 18), (18, ai_iload 1 19), (19, ai_ald 51 5 20), (20, ai_if (fun x => x = 0) 25 23), (23, ai_push (-1) 24), (24, ai_iret), (25, ai_aload 0 26), (26, ai_iload 1 27), (27, ai_callV 95 50 1 30), (30, ai_aload 0 31), (31, ai_getP 50 24 34), (34, ai_push 5 35), (35, ai_iload 1 36), (36, ai_bin (fun x y => x * y) 37), (37, ai_iload 2 38), (38, ai_bin (fun x y => x + y) 39), (39, ai_ald 74 25 40), (40, ai_push 1000 43), (43, ai_icmp (fun x y => y ≤ x) 59 46), (46, ai_aload 0 47), (47, ai_getP 50 24 50), (50, ai_push 5 51), (51, ai_iload 1 52), (52, ai_bin (fun x y => x * y) 53), (53, ai_iload 2 54), (54, ai_bin (fun x y => x + y) 55), (55, ai_ald 74 25 56), (56, ai_goto 60), (59, ai_push (-1) 60), (60, ai_iret)]
def am_c97 : List (Nat × am_T) := [(0, ai_iload 1 1), (1, ai_callS 67 1 4), (4, ai_if (fun x => x = 0) 28 7), (7, ai_iload 2 8), (8, ai_callS 67 1 11), (11, ai_if (fun x => x = 0) 28 14), (14, ai_aload 0 15), (15, ai_getP 50 1 18), (18, ai_iload 1 19), (19, ai_ald 51 5 20), (20, ai_if (fun x => ¬ x = 0) 28 23), (23, ai_iload 1 24), (24, ai_iload 2 25), (25, ai_icmp (fun x y => ¬ x = y) 30 28), (28, ai_push (-1) 29), (29, ai_iret), (30, ai_aload 0 31), (31, ai_iload 1 32), (32, ai_callV 95 50 1 35), (35, ai_push (-1) 36), (36, ai_istore 3 37), (37, ai_push 4 38), (38, ai_istore 4 40), (40, ai_iload 4 42), (42, ai_if (fun x => x < 0) 131 45), (45, ai_iload 4 47), (47, ai_iload 1 48), (48, ai_icmp (fun x y => ¬ x = y) 57 51), (51, ai_push 1000 54), (54, ai_goto 65), (57, ai_aload 0 58), (58, ai_iload 1 59), (59, ai_iload 1 60), (60, ai_iload 4 62), (62, ai_callV 94 50 3 65), (65, ai_istore 5 67), (67, ai_aload 0 68), (68, ai_getP 50 24 71), (71, ai_push 5 72), (72, ai_iload 1 73), (73, ai_bin (fun x y => x * y) 74), (74, ai_iload 2 75), (75, ai_bin (fun x y => x + y) 76), (76, ai_ald 74 25 77), (77, ai_push 1000 80), (80, ai_icmp (fun x y => y ≤ x) 123 83), (83, ai_iload 5 85), (85, ai_push 1000 88), (88, ai_icmp (fun x y => y ≤ x) 123 91), (91, ai_iload 5 93), (93, ai_aload 0 94), (94, ai_getP 50 24 97), (97, ai_push 5 98), (98, ai_iload 4 100), (100, ai_bin (fun x y => x * y) 101), (101, ai_iload 2 102), (102, ai_bin (fun x y => x + y) 103), (103, ai_ald 74 25 104), (104, ai_bin (fun x y => x + y) 105), (105, ai_aload 0 106), (106, ai_getP 50 24 109), (109, ai_push 5 110), (110, ai_iload 1 111), (111, ai_bin (fun x y => x * y) 112), (112, ai_iload 2 113), (113, ai_bin (fun x y => x + y) 114), (114, ai_ald 74 25 115), (115, ai_icmp (fun x y => ¬ x = y) 123 118), (118, ai_iload 4 120), (120, ai_goto 124), (123, ai_iload 3 124), (124, ai_istore 3 125), (125, ai_iinc 4 (-1) 128), (128, ai_goto 40), (131, ai_iload 3 132), (132, ai_iret)]
def am_c98 : List (Nat × am_T) := [(0, ai_iload 1 1), (1, ai_callS 67 1 4), (4, ai_if (fun x => x = 0) 27 7), (7, ai_aload 0 8), (8, ai_getP 50 1 11), (11, ai_iload 1 12), (12, ai_ald 51 5 13), (13, ai_if (fun x => ¬ x = 0) 27 16), (16, ai_iload 2 17), (17, ai_if (fun x => x < 0) 27 20), (20, ai_iload 2 21), (21, ai_push 255 24), (24, ai_icmp (fun x y => x ≤ y) 29 27), (27, ai_push (-1) 28), (28, ai_iret), (29, ai_aload 0 30), (30, ai_iload 1 31), (31, ai_callV 95 50 1 34), (34, ai_push (-1) 35), (35, ai_istore 3 36), (36, ai_push (-1) 37), (37, ai_istore 4 39), (39, ai_push 0 40), (40, ai_istore 5 42), (42, ai_push 0 43), (43, ai_istore 6 45), (45, ai_iload 6 47), (47, ai_push 10 49), (49, ai_icmp (fun x y => y ≤ x) 233 52), (52, ai_iload 6 54), (54, ai_push 2 55), (55, ai_div (fun x y => x / y) 56), (56, ai_istore 7 58), (58, ai_push 2 59), (59, ai_push 5 60), (60, ai_iload 1 61), (61, ai_bin (fun x y => x * y) 62), (62, ai_iload 7 64), (64, ai_bin (fun x y => x + y) 65), (65, ai_bin (fun x y => x * y) 66), (66, ai_iload 6 68), (68, ai_push 2 69), (69, ai_div (fun x y => x - x / y * y) 70), (70, ai_bin (fun x y => x + y) 71), (71, ai_istore 8 73), (73, ai_aload 0 74), (74, ai_getP 50 11 77), (77, ai_push 5 78), (78, ai_iload 1 79), (79, ai_bin (fun x y => x * y) 80), (80, ai_iload 7 82), (82, ai_bin (fun x y => x + y) 83), (83, ai_ald 61 60 84), (84, ai_if (fun x => x ≤ 0) 151 87), (87, ai_aload 0 88), (88, ai_getP 50 24 91), (91, ai_push 5 92), (92, ai_iload 1 93), (93, ai_bin (fun x y => x * y) 94), (94, ai_iload 7 96), (96, ai_bin (fun x y => x + y) 97), (97, ai_ald 74 25 98), (98, ai_push 1000 101), (101, ai_icmp (fun x y => y ≤ x) 151 104), (104, ai_aload 0 105), (105, ai_getP 50 16 108), (108, ai_iload 8 110), (110, ai_ald 66 120 111), (111, ai_if (fun x => x ≤ 0) 151 114), (114, ai_iload 2 115), (115, ai_push 8 117), (117, ai_aload 0 118), (118, ai_getP 50 15 121), (121, ai_iload 8 123), (123, ai_ald 65 120 124), (124, ai_bin (fun x y => x - y) 125), (125, ai_bin (fun x y => x >>> (y &&& 31)) 126), (126, ai_aload 0 127), (127, ai_getP 50 14 130), (130, ai_iload 8 132), (132, ai_ald 64 120 133), (133, ai_push 8 135), (135, ai_aload 0 136), (136, ai_getP 50 15 139), (139, ai_iload 8 141), (141, ai_ald 65 120 142), (142, ai_bin (fun x y => x - y) 143), (143, ai_bin (fun x y => x >>> (y &&& 31)) 144), (144, ai_icmp (fun x y => ¬ x = y) 151 147), (147, ai_push 1 148), (148, ai_goto 152), (151, ai_push 0 152), (152, ai_istore 9 154), (154, ai_aload 0 155), (155, ai_getP 50 24 158), (158, ai_push 5 159), (159, ai_iload 1 160), (160, ai_bin (fun x y => x * y) 161), (161, ai_iload 7 163), (163, ai_bin (fun x y => x + y) 164), (164, ai_ald 74 25 165), (165, ai_aload 0 166), (166, ai_getP 50 16 169), (169, ai_iload 8 171), (171, ai_ald 66 120 172), (172, ai_bin (fun x y => x + y) 173), (173, ai_istore 10 175), (175, ai_iload 9 177), (177, ai_if (fun x => x = 0) 227 180), (180, ai_aload 0 181), (181, ai_getP 50 15 184), (184, ai_iload 8 186), (186, ai_ald 65 120 187), (187, ai_iload 4 189), (189, ai_icmp (fun x y => y < x) 211 192), (192, ai_aload 0 193), (193, ai_getP 50 15 196), (196, ai_iload 8 198), (198, ai_ald 65 120 199), (199, ai_iload 4 201), (201, ai_icmp (fun x y => ¬ x = y) 227 204), (204, ai_iload 10 206), (206, ai_iload 5 208), (208, ai_icmp (fun x y => y ≤ x) 227 211), (211, ai_iload 7 213), (213, ai_istore 3 214), (214, ai_aload 0 215), (215, ai_getP 50 15 218), (218, ai_iload 8 220), (220, ai_ald 65 120 221), (221, ai_istore 4 223), (223, ai_iload 10 225), (225, ai_istore 5 227), (227, ai_iinc 6 1 230), (230, ai_goto 45), (233, ai_iload 3 234), (234, ai_iret)]
def am_c99 : List (Nat × am_T) := [(0, ai_iload 1 1), (1, ai_callS 67 1 4), (4, ai_if (fun x => x = 0) 38 7), (7, ai_aload 0 8), (8, ai_getP 50 1 11), (11, ai_iload 1 12), (12, ai_ald 51 5 13), (13, ai_if (fun x => ¬ x = 0) 38 16), (16, ai_iload 2 17), (17, ai_if (fun x => x < 0) 38 20), (20, ai_iload 2 21), (21, ai_push 255 24), (24, ai_icmp (fun x y => y < x) 38 27), (27, ai_iload 3 28), (28, ai_push 1 29), (29, ai_icmp (fun x y => x < y) 38 32), (32, ai_iload 3 33), (33, ai_push 15 35), (35, ai_icmp (fun x y => x ≤ y) 40 38), (38, ai_push (-1) 39), (39, ai_iret), (40, ai_iload 1 41), (41, ai_istore 4 43), (43, ai_iload 3 44), (44, ai_istore 5 46), (46, ai_push 0 47), (47, ai_istore 6 49), (49, ai_iload 6 51), (51, ai_push 16 53), (53, ai_icmp (fun x y => y ≤ x) 157 56), (56, ai_aload 0 57), (57, ai_iload 4 59), (59, ai_iload 2 60), (60, ai_callV 98 50 2 63), (63, ai_istore 7 65), (65, ai_iload 7 67), (67, ai_if (fun x => 0 ≤ x) 77 70), (70, ai_push 300 73), (73, ai_iload 4 75), (75, ai_bin (fun x y => x + y) 76), (76, ai_iret), (77, ai_iload 7 79), (79, ai_iload 4 81), (81, ai_icmp (fun x y => ¬ x = y) 90 84), (84, ai_push 100 86), (86, ai_iload 4 88), (88, ai_bin (fun x y => x + y) 89), (89, ai_iret), (90, ai_iload 5 92), (92, ai_push 1 93), (93, ai_icmp (fun x y => ¬ x = y) 103 96), (96, ai_push 200 99), (99, ai_iload 4 101), (101, ai_bin (fun x y => x + y) 102), (102, ai_iret), (103, ai_iload 5 105), (105, ai_push 1 106), (106, ai_bin (fun x y => x - y) 107), (107, ai_istore 5 109), (109, ai_aload 0 110), (110, ai_iload 4 112), (112, ai_iload 7 114), (114, ai_callV 97 50 2 117), (117, ai_istore 8 119), (119, ai_aload 0 120), (120, ai_iload 4 122), (122, ai_iload 8 124), (124, ai_callV 68 50 2 127), (127, ai_if (fun x => x = 0) 140 130), (130, ai_aload 0 131), (131, ai_getP 50 1 134), (134, ai_iload 8 136), (136, ai_ald 51 5 137), (137, ai_if (fun x => x = 0) 147 140), (140, ai_push 400 143), (143, ai_iload 4 145), (145, ai_bin (fun x y => x + y) 146), (146, ai_iret), (147, ai_iload 8 149), (149, ai_istore 4 151), (151, ai_iinc 6 1 154), (154, ai_goto 49), (157, ai_push (-1) 158), (158, ai_iret)]
def am_c100 : List (Nat × am_T) := [(0, ai_iload 1 1), (1, ai_if (fun x => x < 0) 10 4), (4, ai_iload 1 5), (5, ai_push 6 7), (7, ai_icmp (fun x y => x ≤ y) 14 10), (10, ai_push (-1) 11), (11, ai_goto 20), (14, ai_aload 0 15), (15, ai_getP 50 10 18), (18, ai_iload 1 19), (19, ai_ald 60 7 20), (20, ai_iret)]
def am_c101 : List (Nat × am_T) := [(0, ai_new 1 5 3), (3, ai_dup 4), (4, ai_callV 32 1 0 7), (7, ai_astore 1 8), (8, ai_new 50 25 11), (11, ai_dup 12), (12, ai_callV 66 50 0 15), (15, ai_astore 2 16), (16, ai_push 0 17), (17, ai_istore 3 18), (18, ai_iload 3 19), (19, ai_aload 0 20), (20, ai_slen 21), (21, ai_push 6 23), (23, ai_bin (fun x y => x - y) 24), (24, ai_icmp (fun x y => y < x) 675 27), (27, ai_aload 0 28), (28, ai_iload 3 29), (29, ai_sld 30), (30, ai_push 15 32), (32, ai_bin (fun x y => x &&& y) 33), (33, ai_switch 0 14 [108, 151, 214, 263, 306, 329, 362, 395, 428, 471, 504, 537, 570, 603, 646] 669), (108, ai_aload 1 109), (109, ai_aload 0 110), (110, ai_iload 3 111), (111, ai_push 1 112), (112, ai_bin (fun x y => x + y) 113), (113, ai_sld 114), (114, ai_aload 0 115), (115, ai_iload 3 116), (116, ai_push 2 117), (117, ai_bin (fun x y => x + y) 118), (118, ai_sld 119), (119, ai_aload 0 120), (120, ai_iload 3 121), (121, ai_push 3 122), (122, ai_bin (fun x y => x + y) 123), (123, ai_sld 124), (124, ai_callV 33 1 3 127), (127, ai_aload 2 128), (128, ai_aload 0 129), (129, ai_iload 3 130), (130, ai_push 1 131), (131, ai_bin (fun x y => x + y) 132), (132, ai_sld 133), (133, ai_aload 0 134), (134, ai_iload 3 135), (135, ai_push 2 136), (136, ai_bin (fun x y => x + y) 137), (137, ai_sld 138), (138, ai_aload 0 139), (139, ai_iload 3 140), (140, ai_push 3 141), (141, ai_bin (fun x y => x + y) 142), (142, ai_sld 143), (143, ai_callV 70 50 3 146), (146, ai_icmp (fun x y => x = y) 669 149), (149, ai_push 0 150), (150, ai_zret), (151, ai_aload 1 152), (152, ai_aload 0 153), (153, ai_iload 3 154), (154, ai_push 1 155), (155, ai_bin (fun x y => x + y) 156), (156, ai_sld 157), (157, ai_aload 0 158), (158, ai_iload 3 159), (159, ai_push 2 160), (160, ai_bin (fun x y => x + y) 161), (161, ai_sld 162), (162, ai_aload 0 163), (163, ai_iload 3 164), (164, ai_push 3 165), (165, ai_bin (fun x y => x + y) 166), (166, ai_sld 167), (167, ai_aload 0 168), (168, ai_iload 3 169), (169, ai_push 4 170), (170, ai_bin (fun x y => x + y) 171), (171, ai_sld 172), (172, ai_aload 0 173), (173, ai_iload 3 174), (174, ai_push 5 175), (175, ai_bin (fun x y => x + y) 176), (176, ai_sld 177), (177, ai_callV 34 1 5 180), (180, ai_aload 2 181), (181, ai_aload 0 182), (182, ai_iload 3 183), (183, ai_push 1 184), (184, ai_bin (fun x y => x + y) 185), (185, ai_sld 186), (186, ai_aload 0 187), (187, ai_iload 3 188), (188, ai_push 2 189), (189, ai_bin (fun x y => x + y) 190), (190, ai_sld 191), (191, ai_aload 0 192), (192, ai_iload 3 193), (193, ai_push 3 194), (194, ai_bin (fun x y => x + y) 195), (195, ai_sld 196), (196, ai_aload 0 197), (197, ai_iload 3 198), (198, ai_push 4 199), (199, ai_bin (fun x y => x + y) 200), (200, ai_sld 201), (201, ai_aload 0 202), (202, ai_iload 3 203), (203, ai_push 5 204), (204, ai_bin (fun x y => x + y) 205), (205, ai_sld 206), (206, ai_callV 71 50 5 209), (209, ai_icmp (fun x y => x = y) 669 212), (212, ai_push 0 213), (213, ai_zret), (214, ai_aload 1 215), (215, ai_aload 0 216), (216, ai_iload 3 217), (217, ai_push 1 218), (218, ai_bin (fun x y => x + y) 219), (219, ai_sld 220), (220, ai_aload 0 221), (221, ai_iload 3 222), (222, ai_push 2 223), (223, ai_bin (fun x y => x + y) 224), (224, ai_sld 225), (225, ai_if (fun x => x = 0) 232 228), (228, ai_push 1 229), (229, ai_goto 233), (232, ai_push 0 233), (233, ai_callV 35 1 2 236), (236, ai_aload 2 237), (237, ai_aload 0 238), (238, ai_iload 3 239), (239, ai_push 1 240), (240, ai_bin (fun x y => x + y) 241), (241, ai_sld 242), (242, ai_aload 0 243), (243, ai_iload 3 244), (244, ai_push 2 245), (245, ai_bin (fun x y => x + y) 246), (246, ai_sld 247), (247, ai_if (fun x => x = 0) 254 250), (250, ai_push 1 251), (251, ai_goto 255), (254, ai_push 0 255), (255, ai_callV 72 50 2 258), (258, ai_icmp (fun x y => x = y) 669 261), (261, ai_push 0 262), (262, ai_zret), (263, ai_aload 1 264), (264, ai_aload 0 265), (265, ai_iload 3 266), (266, ai_push 1 267), (267, ai_bin (fun x y => x + y) 268), (268, ai_sld 269), (269, ai_aload 0 270), (270, ai_iload 3 271), (271, ai_push 2 272), (272, ai_bin (fun x y => x + y) 273), (273, ai_sld 274), (274, ai_aload 0 275), (275, ai_iload 3 276), (276, ai_push 3 277), (277, ai_bin (fun x y => x + y) 278), (278, ai_sld 279), (279, ai_callV 36 1 3 282), (282, ai_aload 2 283), (283, ai_aload 0 284), (284, ai_iload 3 285), (285, ai_push 1 286), (286, ai_bin (fun x y => x + y) 287), (287, ai_sld 288), (288, ai_aload 0 289), (289, ai_iload 3 290), (290, ai_push 2 291), (291, ai_bin (fun x y => x + y) 292), (292, ai_sld 293), (293, ai_aload 0 294), (294, ai_iload 3 295), (295, ai_push 3 296), (296, ai_bin (fun x y => x + y) 297), (297, ai_sld 298), (298, ai_callV 73 50 3 301), (301, ai_icmp (fun x y => x = y) 669 304), (304, ai_push 0 305), (305, ai_zret), (306, ai_aload 1 307), (307, ai_aload 0 308), (308, ai_iload 3 309), (309, ai_push 1 310), (310, ai_bin (fun x y => x + y) 311), (311, ai_sld 312), (312, ai_callV 37 1 1 315), (315, ai_aload 2 316), (316, ai_aload 0 317), (317, ai_iload 3 318), (318, ai_push 1 319), (319, ai_bin (fun x y => x + y) 320), (320, ai_sld 321), (321, ai_callV 88 50 1 324), (324, ai_icmp (fun x y => x = y) 669 327), (327, ai_push 0 328), (328, ai_zret), (329, ai_aload 1 330), (330, ai_aload 0 331), (331, ai_iload 3 332), (332, ai_push 1 333), (333, ai_bin (fun x y => x + y) 334), (334, ai_sld 335), (335, ai_aload 0 336), (336, ai_iload 3 337), (337, ai_push 2 338), (338, ai_bin (fun x y => x + y) 339), (339, ai_sld 340), (340, ai_callV 38 1 2 343), (343, ai_aload 2 344), (344, ai_aload 0 345), (345, ai_iload 3 346), (346, ai_push 1 347), (347, ai_bin (fun x y => x + y) 348), (348, ai_sld 349), (349, ai_aload 0 350), (350, ai_iload 3 351), (351, ai_push 2 352), (352, ai_bin (fun x y => x + y) 353), (353, ai_sld 354), (354, ai_callV 89 50 2 357), (357, ai_icmp (fun x y => x = y) 669 360), (360, ai_push 0 361), (361, ai_zret), (362, ai_aload 1 363), (363, ai_aload 0 364), (364, ai_iload 3 365), (365, ai_push 1 366), (366, ai_bin (fun x y => x + y) 367), (367, ai_sld 368), (368, ai_aload 0 369), (369, ai_iload 3 370), (370, ai_push 2 371), (371, ai_bin (fun x y => x + y) 372), (372, ai_sld 373), (373, ai_callV 39 1 2 376), (376, ai_aload 2 377), (377, ai_aload 0 378), (378, ai_iload 3 379), (379, ai_push 1 380), (380, ai_bin (fun x y => x + y) 381), (381, ai_sld 382), (382, ai_aload 0 383), (383, ai_iload 3 384), (384, ai_push 2 385), (385, ai_bin (fun x y => x + y) 386), (386, ai_sld 387), (387, ai_callV 90 50 2 390), (390, ai_icmp (fun x y => x = y) 669 393), (393, ai_push 0 394), (394, ai_zret), (395, ai_aload 1 396), (396, ai_aload 0 397), (397, ai_iload 3 398), (398, ai_push 1 399), (399, ai_bin (fun x y => x + y) 400), (400, ai_sld 401), (401, ai_aload 0 402), (402, ai_iload 3 403), (403, ai_push 2 404), (404, ai_bin (fun x y => x + y) 405), (405, ai_sld 406), (406, ai_callV 40 1 2 409), (409, ai_aload 2 410), (410, ai_aload 0 411), (411, ai_iload 3 412), (412, ai_push 1 413), (413, ai_bin (fun x y => x + y) 414), (414, ai_sld 415), (415, ai_aload 0 416), (416, ai_iload 3 417), (417, ai_push 2 418), (418, ai_bin (fun x y => x + y) 419), (419, ai_sld 420), (420, ai_callV 91 50 2 423), (423, ai_icmp (fun x y => x = y) 669 426), (426, ai_push 0 427), (427, ai_zret), (428, ai_aload 1 429), (429, ai_aload 0 430), (430, ai_iload 3 431), (431, ai_push 1 432), (432, ai_bin (fun x y => x + y) 433), (433, ai_sld 434), (434, ai_aload 0 435), (435, ai_iload 3 436), (436, ai_push 2 437), (437, ai_bin (fun x y => x + y) 438), (438, ai_sld 439), (439, ai_aload 0 440), (440, ai_iload 3 441), (441, ai_push 3 442), (442, ai_bin (fun x y => x + y) 443), (443, ai_sld 444), (444, ai_callV 41 1 3 447), (447, ai_aload 2 448), (448, ai_aload 0 449), (449, ai_iload 3 450), (450, ai_push 1 451), (451, ai_bin (fun x y => x + y) 452), (452, ai_sld 453), (453, ai_aload 0 454), (454, ai_iload 3 455), (455, ai_push 2 456), (456, ai_bin (fun x y => x + y) 457), (457, ai_sld 458), (458, ai_aload 0 459), (459, ai_iload 3 460), (460, ai_push 3 461), (461, ai_bin (fun x y => x + y) 462), (462, ai_sld 463), (463, ai_callV 92 50 3 466), (466, ai_icmp (fun x y => x = y) 669 469), (469, ai_push 0 470), (470, ai_zret), (471, ai_aload 1 472), (472, ai_aload 0 473), (473, ai_iload 3 474), (474, ai_push 1 475), (475, ai_bin (fun x y => x + y) 476), (476, ai_sld 477), (477, ai_aload 0 478), (478, ai_iload 3 479), (479, ai_push 2 480), (480, ai_bin (fun x y => x + y) 481), (481, ai_sld 482), (482, ai_callV 42 1 2 485), (485, ai_aload 2 486), (486, ai_aload 0 487), (487, ai_iload 3 488), (488, ai_push 1 489), (489, ai_bin (fun x y => x + y) 490), (490, ai_sld 491), (491, ai_aload 0 492), (492, ai_iload 3 493), (493, ai_push 2 494), (494, ai_bin (fun x y => x + y) 495), (495, ai_sld 496), (496, ai_callV 93 50 2 499), (499, ai_icmp (fun x y => x = y) 669 502), (502, ai_push 0 503), (503, ai_zret), (504, ai_aload 1 505), (505, ai_aload 0 506), (506, ai_iload 3 507), (507, ai_push 1 508), (508, ai_bin (fun x y => x + y) 509), (509, ai_sld 510), (510, ai_aload 0 511), (511, ai_iload 3 512), (512, ai_push 2 513), (513, ai_bin (fun x y => x + y) 514), (514, ai_sld 515), (515, ai_callV 43 1 2 518), (518, ai_aload 2 519), (519, ai_aload 0 520), (520, ai_iload 3 521), (521, ai_push 1 522), (522, ai_bin (fun x y => x + y) 523), (523, ai_sld 524), (524, ai_aload 0 525), (525, ai_iload 3 526), (526, ai_push 2 527), (527, ai_bin (fun x y => x + y) 528), (528, ai_sld 529), (529, ai_callV 96 50 2 532), (532, ai_icmp (fun x y => x = y) 669 535), (535, ai_push 0 536), (536, ai_zret), (537, ai_aload 1 538), (538, ai_aload 0 539), (539, ai_iload 3 540), (540, ai_push 1 541), (541, ai_bin (fun x y => x + y) 542), (542, ai_sld 543), (543, ai_aload 0 544), (544, ai_iload 3 545), (545, ai_push 2 546), (546, ai_bin (fun x y => x + y) 547), (547, ai_sld 548), (548, ai_callV 44 1 2 551), (551, ai_aload 2 552), (552, ai_aload 0 553), (553, ai_iload 3 554), (554, ai_push 1 555), (555, ai_bin (fun x y => x + y) 556), (556, ai_sld 557), (557, ai_aload 0 558), (558, ai_iload 3 559), (559, ai_push 2 560), (560, ai_bin (fun x y => x + y) 561), (561, ai_sld 562), (562, ai_callV 97 50 2 565), (565, ai_icmp (fun x y => x = y) 669 568), (568, ai_push 0 569), (569, ai_zret), (570, ai_aload 1 571), (571, ai_aload 0 572), (572, ai_iload 3 573), (573, ai_push 1 574), (574, ai_bin (fun x y => x + y) 575), (575, ai_sld 576), (576, ai_aload 0 577), (577, ai_iload 3 578), (578, ai_push 2 579), (579, ai_bin (fun x y => x + y) 580), (580, ai_sld 581), (581, ai_callV 45 1 2 584), (584, ai_aload 2 585), (585, ai_aload 0 586), (586, ai_iload 3 587), (587, ai_push 1 588), (588, ai_bin (fun x y => x + y) 589), (589, ai_sld 590), (590, ai_aload 0 591), (591, ai_iload 3 592), (592, ai_push 2 593), (593, ai_bin (fun x y => x + y) 594), (594, ai_sld 595), (595, ai_callV 98 50 2 598), (598, ai_icmp (fun x y => x = y) 669 601), (601, ai_push 0 602), (602, ai_zret), (603, ai_aload 1 604), (604, ai_aload 0 605), (605, ai_iload 3 606), (606, ai_push 1 607), (607, ai_bin (fun x y => x + y) 608), (608, ai_sld 609), (609, ai_aload 0 610), (610, ai_iload 3 611), (611, ai_push 2 612), (612, ai_bin (fun x y => x + y) 613), (613, ai_sld 614), (614, ai_aload 0 615), (615, ai_iload 3 616), (616, ai_push 3 617), (617, ai_bin (fun x y => x + y) 618), (618, ai_sld 619), (619, ai_callV 46 1 3 622), (622, ai_aload 2 623), (623, ai_aload 0 624), (624, ai_iload 3 625), (625, ai_push 1 626), (626, ai_bin (fun x y => x + y) 627), (627, ai_sld 628), (628, ai_aload 0 629), (629, ai_iload 3 630), (630, ai_push 2 631), (631, ai_bin (fun x y => x + y) 632), (632, ai_sld 633), (633, ai_aload 0 634), (634, ai_iload 3 635), (635, ai_push 3 636), (636, ai_bin (fun x y => x + y) 637), (637, ai_sld 638), (638, ai_callV 99 50 3 641), (641, ai_icmp (fun x y => x = y) 669 644), (644, ai_push 0 645), (645, ai_zret), (646, ai_aload 1 647), (647, ai_aload 0 648), (648, ai_iload 3 649), (649, ai_push 1 650), (650, ai_bin (fun x y => x + y) 651), (651, ai_sld 652), (652, ai_callV 47 1 1 655), (655, ai_aload 2 656), (656, ai_aload 0 657), (657, ai_iload 3 658), (658, ai_push 1 659), (659, ai_bin (fun x y => x + y) 660), (660, ai_sld 661), (661, ai_callV 100 50 1 664), (664, ai_icmp (fun x y => x = y) 669 667), (667, ai_push 0 668), (668, ai_zret), (669, ai_iinc 3 6 672), (672, ai_goto 18), (675, ai_push 1 676), (676, ai_zret)]
def am_cs : List (List (Nat × am_T)) := [am_c0, am_c1, am_c2, am_c3, am_c4, am_c5, am_c6, am_c7, am_c8, am_c9, am_c10, am_c11, am_c12, am_c13, am_c14, am_c15, am_c16, am_c17, am_c18, am_c19, am_c20, am_c21, am_c22, am_c23, am_c24, am_c25, am_c26, am_c27, am_c28, am_c29, am_c30, am_c31, am_c32, am_c33, am_c34, am_c35, am_c36, am_c37, am_c38, am_c39, am_c40, am_c41, am_c42, am_c43, am_c44, am_c45, am_c46, am_c47, am_c48, am_c49, am_c50, am_c51, am_c52, am_c53, am_c54, am_c55, am_c56, am_c57, am_c58, am_c59, am_c60, am_c61, am_c62, am_c63, am_c64, am_c65, am_c66, am_c67, am_c68, am_c69, am_c70, am_c71, am_c72, am_c73, am_c74, am_c75, am_c76, am_c77, am_c78, am_c79, am_c80, am_c81, am_c82, am_c83, am_c84, am_c85, am_c86, am_c87, am_c88, am_c89, am_c90, am_c91, am_c92, am_c93, am_c94, am_c95, am_c96, am_c97, am_c98, am_c99, am_c100, am_c101]
def am_code (j pc : Nat) : Option am_T := (am_cs.getD j []).lookup pc
end
section
theorem at_0_0 : am_code 0 0 = some (ai_iload 0 1) := rfl
theorem at_0_1 : am_code 0 1 = some (ai_iload 1 2) := rfl
theorem at_0_2 : am_code 0 2 = some (ai_icmp (fun x y => x < y) 9 5) := rfl
theorem at_0_5 : am_code 0 5 = some (ai_iload 0 6) := rfl
theorem at_0_6 : am_code 0 6 = some (ai_goto 10) := rfl
theorem at_0_9 : am_code 0 9 = some (ai_iload 1 10) := rfl
theorem at_0_10 : am_code 0 10 = some (ai_iret) := rfl
theorem at_1_0 : am_code 1 0 = some (ai_aload 0 1) := rfl
theorem at_1_1 : am_code 1 1 = some (ai_oinit 4) := rfl
theorem at_1_4 : am_code 1 4 = some (ai_aload 0 5) := rfl
theorem at_1_5 : am_code 1 5 = some (ai_iload 1 6) := rfl
theorem at_1_6 : am_code 1 6 = some (ai_putI 22 0 9) := rfl
theorem at_1_9 : am_code 1 9 = some (ai_aload 0 10) := rfl
theorem at_1_10 : am_code 1 10 = some (ai_iload 2 11) := rfl
theorem at_1_11 : am_code 1 11 = some (ai_putI 22 1 14) := rfl
theorem at_1_14 : am_code 1 14 = some (ai_aload 0 15) := rfl
theorem at_1_15 : am_code 1 15 = some (ai_iload 3 16) := rfl
theorem at_1_16 : am_code 1 16 = some (ai_putI 22 2 19) := rfl
theorem at_1_19 : am_code 1 19 = some (ai_ret) := rfl
theorem at_2_0 : am_code 2 0 = some (ai_push 8 2) := rfl
theorem at_2_2 : am_code 2 2 = some (ai_aload 0 3) := rfl
theorem at_2_3 : am_code 2 3 = some (ai_getI 22 1 6) := rfl
theorem at_2_6 : am_code 2 6 = some (ai_bin (fun x y => x - y) 7) := rfl
theorem at_2_7 : am_code 2 7 = some (ai_istore 2 8) := rfl
theorem at_2_8 : am_code 2 8 = some (ai_iload 1 9) := rfl
theorem at_2_9 : am_code 2 9 = some (ai_iload 2 10) := rfl
theorem at_2_10 : am_code 2 10 = some (ai_bin (fun x y => x >>> (y &&& 31)) 11) := rfl
theorem at_2_11 : am_code 2 11 = some (ai_aload 0 12) := rfl
theorem at_2_12 : am_code 2 12 = some (ai_getI 22 0 15) := rfl
theorem at_2_15 : am_code 2 15 = some (ai_iload 2 16) := rfl
theorem at_2_16 : am_code 2 16 = some (ai_bin (fun x y => x >>> (y &&& 31)) 17) := rfl
theorem at_2_17 : am_code 2 17 = some (ai_icmp (fun x y => ¬ x = y) 24 20) := rfl
theorem at_2_20 : am_code 2 20 = some (ai_push 1 21) := rfl
theorem at_2_21 : am_code 2 21 = some (ai_goto 25) := rfl
theorem at_2_24 : am_code 2 24 = some (ai_push 0 25) := rfl
theorem at_2_25 : am_code 2 25 = some (ai_zret) := rfl
theorem at_3_0 : am_code 3 0 = some (ai_aload 0 1) := rfl
theorem at_3_1 : am_code 3 1 = some (ai_ifnull 8 4) := rfl
theorem at_3_4 : am_code 3 4 = some (ai_aload 1 5) := rfl
theorem at_3_5 : am_code 3 5 = some (ai_ifnonnull 22 8) := rfl
theorem at_3_8 : am_code 3 8 = some (ai_aload 0 9) := rfl
theorem at_3_9 : am_code 3 9 = some (ai_ifnonnull 20 12) := rfl
theorem at_3_12 : am_code 3 12 = some (ai_aload 1 13) := rfl
theorem at_3_13 : am_code 3 13 = some (ai_ifnonnull 20 16) := rfl
theorem at_3_16 : am_code 3 16 = some (ai_push 1 17) := rfl
theorem at_3_17 : am_code 3 17 = some (ai_goto 21) := rfl
theorem at_3_20 : am_code 3 20 = some (ai_push 0 21) := rfl
theorem at_3_21 : am_code 3 21 = some (ai_zret) := rfl
theorem at_3_22 : am_code 3 22 = some (ai_aload 0 23) := rfl
theorem at_3_23 : am_code 3 23 = some (ai_getI 22 0 26) := rfl
theorem at_3_26 : am_code 3 26 = some (ai_aload 1 27) := rfl
theorem at_3_27 : am_code 3 27 = some (ai_getI 22 0 30) := rfl
theorem at_3_30 : am_code 3 30 = some (ai_icmp (fun x y => ¬ x = y) 59 33) := rfl
theorem at_3_33 : am_code 3 33 = some (ai_aload 0 34) := rfl
theorem at_3_34 : am_code 3 34 = some (ai_getI 22 1 37) := rfl
theorem at_3_37 : am_code 3 37 = some (ai_aload 1 38) := rfl
theorem at_3_38 : am_code 3 38 = some (ai_getI 22 1 41) := rfl
theorem at_3_41 : am_code 3 41 = some (ai_icmp (fun x y => ¬ x = y) 59 44) := rfl
theorem at_3_44 : am_code 3 44 = some (ai_aload 0 45) := rfl
theorem at_3_45 : am_code 3 45 = some (ai_getI 22 2 48) := rfl
theorem at_3_48 : am_code 3 48 = some (ai_aload 1 49) := rfl
theorem at_3_49 : am_code 3 49 = some (ai_getI 22 2 52) := rfl
theorem at_3_52 : am_code 3 52 = some (ai_icmp (fun x y => ¬ x = y) 59 55) := rfl
theorem at_3_55 : am_code 3 55 = some (ai_push 1 56) := rfl
theorem at_3_56 : am_code 3 56 = some (ai_goto 60) := rfl
theorem at_3_59 : am_code 3 59 = some (ai_push 0 60) := rfl
theorem at_3_60 : am_code 3 60 = some (ai_zret) := rfl
theorem at_4_0 : am_code 4 0 = some (ai_aload 0 1) := rfl
theorem at_4_1 : am_code 4 1 = some (ai_oinit 4) := rfl
theorem at_4_4 : am_code 4 4 = some (ai_aload 0 5) := rfl
theorem at_4_5 : am_code 4 5 = some (ai_iload 1 6) := rfl
theorem at_4_6 : am_code 4 6 = some (ai_putI 19 0 9) := rfl
theorem at_4_9 : am_code 4 9 = some (ai_aload 0 10) := rfl
theorem at_4_10 : am_code 4 10 = some (ai_iload 2 11) := rfl
theorem at_4_11 : am_code 4 11 = some (ai_putI 19 1 14) := rfl
theorem at_4_14 : am_code 4 14 = some (ai_aload 0 15) := rfl
theorem at_4_15 : am_code 4 15 = some (ai_iload 3 16) := rfl
theorem at_4_16 : am_code 4 16 = some (ai_putI 19 2 19) := rfl
theorem at_4_19 : am_code 4 19 = some (ai_aload 0 20) := rfl
theorem at_4_20 : am_code 4 20 = some (ai_push 5 21) := rfl
theorem at_4_21 : am_code 4 21 = some (ai_newa 20 5 23) := rfl
theorem at_4_23 : am_code 4 23 = some (ai_putP 19 3 26) := rfl
theorem at_4_26 : am_code 4 26 = some (ai_push 0 27) := rfl
theorem at_4_27 : am_code 4 27 = some (ai_istore 6 29) := rfl
theorem at_4_29 : am_code 4 29 = some (ai_iload 6 31) := rfl
theorem at_4_31 : am_code 4 31 = some (ai_push 5 32) := rfl
theorem at_4_32 : am_code 4 32 = some (ai_icmp (fun x y => y ≤ x) 56 35) := rfl
theorem at_4_35 : am_code 4 35 = some (ai_aload 0 36) := rfl
theorem at_4_36 : am_code 4 36 = some (ai_getP 19 3 39) := rfl
theorem at_4_39 : am_code 4 39 = some (ai_iload 6 41) := rfl
theorem at_4_41 : am_code 4 41 = some (ai_aload 4 43) := rfl
theorem at_4_43 : am_code 4 43 = some (ai_iload 6 45) := rfl
theorem at_4_45 : am_code 4 45 = some (ai_aald 6 5 46) := rfl
theorem at_4_46 : am_code 4 46 = some (ai_callV 13 7 0 49) := rfl
theorem at_4_49 : am_code 4 49 = some (ai_ast 20 5 50) := rfl
theorem at_4_50 : am_code 4 50 = some (ai_iinc 6 1 53) := rfl
theorem at_4_53 : am_code 4 53 = some (ai_goto 29) := rfl
theorem at_4_56 : am_code 4 56 = some (ai_aload 0 57) := rfl
theorem at_4_57 : am_code 4 57 = some (ai_push 2 58) := rfl
theorem at_4_58 : am_code 4 58 = some (ai_newa 21 2 61) := rfl
theorem at_4_61 : am_code 4 61 = some (ai_putP 19 4 64) := rfl
theorem at_4_64 : am_code 4 64 = some (ai_push 0 65) := rfl
theorem at_4_65 : am_code 4 65 = some (ai_istore 6 67) := rfl
theorem at_4_67 : am_code 4 67 = some (ai_iload 6 69) := rfl
theorem at_4_69 : am_code 4 69 = some (ai_push 2 70) := rfl
theorem at_4_70 : am_code 4 70 = some (ai_icmp (fun x y => y ≤ x) 91 73) := rfl
theorem at_4_73 : am_code 4 73 = some (ai_aload 0 74) := rfl
theorem at_4_74 : am_code 4 74 = some (ai_getP 19 4 77) := rfl
theorem at_4_77 : am_code 4 77 = some (ai_iload 6 79) := rfl
theorem at_4_79 : am_code 4 79 = some (ai_aload 5 81) := rfl
theorem at_4_81 : am_code 4 81 = some (ai_iload 6 83) := rfl
theorem at_4_83 : am_code 4 83 = some (ai_aald 4 2 84) := rfl
theorem at_4_84 : am_code 4 84 = some (ai_aast 21 2 22 85) := rfl
theorem at_4_85 : am_code 4 85 = some (ai_iinc 6 1 88) := rfl
theorem at_4_88 : am_code 4 88 = some (ai_goto 67) := rfl
theorem at_4_91 : am_code 4 91 = some (ai_ret) := rfl
theorem at_5_0 : am_code 5 0 = some (ai_aload 0 1) := rfl
theorem at_5_1 : am_code 5 1 = some (ai_getI 19 1 4) := rfl
theorem at_5_4 : am_code 5 4 = some (ai_aload 1 5) := rfl
theorem at_5_5 : am_code 5 5 = some (ai_getI 19 1 8) := rfl
theorem at_5_8 : am_code 5 8 = some (ai_icmp (fun x y => y < x) 33 11) := rfl
theorem at_5_11 : am_code 5 11 = some (ai_aload 0 12) := rfl
theorem at_5_12 : am_code 5 12 = some (ai_getI 19 1 15) := rfl
theorem at_5_15 : am_code 5 15 = some (ai_aload 1 16) := rfl
theorem at_5_16 : am_code 5 16 = some (ai_getI 19 1 19) := rfl
theorem at_5_19 : am_code 5 19 = some (ai_icmp (fun x y => ¬ x = y) 37 22) := rfl
theorem at_5_22 : am_code 5 22 = some (ai_aload 0 23) := rfl
theorem at_5_23 : am_code 5 23 = some (ai_getI 19 2 26) := rfl
theorem at_5_26 : am_code 5 26 = some (ai_aload 1 27) := rfl
theorem at_5_27 : am_code 5 27 = some (ai_getI 19 2 30) := rfl
theorem at_5_30 : am_code 5 30 = some (ai_icmp (fun x y => x ≤ y) 37 33) := rfl
theorem at_5_33 : am_code 5 33 = some (ai_push 1 34) := rfl
theorem at_5_34 : am_code 5 34 = some (ai_goto 38) := rfl
theorem at_5_37 : am_code 5 37 = some (ai_push 0 38) := rfl
theorem at_5_38 : am_code 5 38 = some (ai_zret) := rfl
theorem at_6_0 : am_code 6 0 = some (ai_aload 0 1) := rfl
theorem at_6_1 : am_code 6 1 = some (ai_getI 19 1 4) := rfl
theorem at_6_4 : am_code 6 4 = some (ai_aload 1 5) := rfl
theorem at_6_5 : am_code 6 5 = some (ai_getI 19 1 8) := rfl
theorem at_6_8 : am_code 6 8 = some (ai_icmp (fun x y => ¬ x = y) 26 11) := rfl
theorem at_6_11 : am_code 6 11 = some (ai_aload 0 12) := rfl
theorem at_6_12 : am_code 6 12 = some (ai_getI 19 2 15) := rfl
theorem at_6_15 : am_code 6 15 = some (ai_aload 1 16) := rfl
theorem at_6_16 : am_code 6 16 = some (ai_getI 19 2 19) := rfl
theorem at_6_19 : am_code 6 19 = some (ai_icmp (fun x y => ¬ x = y) 26 22) := rfl
theorem at_6_22 : am_code 6 22 = some (ai_push 1 23) := rfl
theorem at_6_23 : am_code 6 23 = some (ai_goto 27) := rfl
theorem at_6_26 : am_code 6 26 = some (ai_push 0 27) := rfl
theorem at_6_27 : am_code 6 27 = some (ai_zret) := rfl
theorem at_7_0 : am_code 7 0 = some (ai_aload 0 1) := rfl
theorem at_7_1 : am_code 7 1 = some (ai_oinit 4) := rfl
theorem at_7_4 : am_code 7 4 = some (ai_aload 0 5) := rfl
theorem at_7_5 : am_code 7 5 = some (ai_push 5 6) := rfl
theorem at_7_6 : am_code 7 6 = some (ai_newa 8 5 8) := rfl
theorem at_7_8 : am_code 7 8 = some (ai_putP 7 8 11) := rfl
theorem at_7_11 : am_code 7 11 = some (ai_aload 0 12) := rfl
theorem at_7_12 : am_code 7 12 = some (ai_callV 10 7 0 15) := rfl
theorem at_7_15 : am_code 7 15 = some (ai_ret) := rfl
theorem at_8_0 : am_code 8 0 = some (ai_aload 0 1) := rfl
theorem at_8_1 : am_code 8 1 = some (ai_iload 1 2) := rfl
theorem at_8_2 : am_code 8 2 = some (ai_putI 7 0 5) := rfl
theorem at_8_5 : am_code 8 5 = some (ai_iload 1 6) := rfl
theorem at_8_6 : am_code 8 6 = some (ai_if (fun x => ¬ x = 0) 18 9) := rfl
theorem at_8_9 : am_code 8 9 = some (ai_aload 0 10) := rfl
theorem at_8_10 : am_code 8 10 = some (ai_push 0 11) := rfl
theorem at_8_11 : am_code 8 11 = some (ai_putI 7 1 14) := rfl
theorem at_8_14 : am_code 8 14 = some (ai_aload 0 15) := rfl
theorem at_8_15 : am_code 8 15 = some (ai_callV 9 7 0 18) := rfl
theorem at_8_18 : am_code 8 18 = some (ai_ret) := rfl
theorem at_9_0 : am_code 9 0 = some (ai_aload 0 1) := rfl
theorem at_9_1 : am_code 9 1 = some (ai_push 0 2) := rfl
theorem at_9_2 : am_code 9 2 = some (ai_putZ 7 2 5) := rfl
theorem at_9_5 : am_code 9 5 = some (ai_aload 0 6) := rfl
theorem at_9_6 : am_code 9 6 = some (ai_push 0 7) := rfl
theorem at_9_7 : am_code 9 7 = some (ai_putI 7 4 10) := rfl
theorem at_9_10 : am_code 9 10 = some (ai_aload 0 11) := rfl
theorem at_9_11 : am_code 9 11 = some (ai_push 0 12) := rfl
theorem at_9_12 : am_code 9 12 = some (ai_putZ 7 5 15) := rfl
theorem at_9_15 : am_code 9 15 = some (ai_aload 0 16) := rfl
theorem at_9_16 : am_code 9 16 = some (ai_push 0 17) := rfl
theorem at_9_17 : am_code 9 17 = some (ai_putZ 7 6 20) := rfl
theorem at_9_20 : am_code 9 20 = some (ai_aload 0 21) := rfl
theorem at_9_21 : am_code 9 21 = some (ai_callV 10 7 0 24) := rfl
theorem at_9_24 : am_code 9 24 = some (ai_ret) := rfl
theorem at_10_0 : am_code 10 0 = some (ai_push 0 1) := rfl
theorem at_10_1 : am_code 10 1 = some (ai_istore 1 2) := rfl
theorem at_10_2 : am_code 10 2 = some (ai_iload 1 3) := rfl
theorem at_10_3 : am_code 10 3 = some (ai_push 5 4) := rfl
theorem at_10_4 : am_code 10 4 = some (ai_icmp (fun x y => y ≤ x) 21 7) := rfl
theorem at_10_7 : am_code 10 7 = some (ai_aload 0 8) := rfl
theorem at_10_8 : am_code 10 8 = some (ai_getP 7 8 11) := rfl
theorem at_10_11 : am_code 10 11 = some (ai_iload 1 12) := rfl
theorem at_10_12 : am_code 10 12 = some (ai_push (-2) 14) := rfl
theorem at_10_14 : am_code 10 14 = some (ai_ast 8 5 15) := rfl
theorem at_10_15 : am_code 10 15 = some (ai_iinc 1 1 18) := rfl
theorem at_10_18 : am_code 10 18 = some (ai_goto 2) := rfl
theorem at_10_21 : am_code 10 21 = some (ai_ret) := rfl
theorem at_11_0 : am_code 11 0 = some (ai_aload 0 1) := rfl
theorem at_11_1 : am_code 11 1 = some (ai_getP 7 8 4) := rfl
theorem at_11_4 : am_code 11 4 = some (ai_iload 1 5) := rfl
theorem at_11_5 : am_code 11 5 = some (ai_ald 8 5 6) := rfl
theorem at_11_6 : am_code 11 6 = some (ai_push (-2) 8) := rfl
theorem at_11_8 : am_code 11 8 = some (ai_icmp (fun x y => ¬ x = y) 18 11) := rfl
theorem at_11_11 : am_code 11 11 = some (ai_aload 0 12) := rfl
theorem at_11_12 : am_code 11 12 = some (ai_getP 7 8 15) := rfl
theorem at_11_15 : am_code 11 15 = some (ai_iload 1 16) := rfl
theorem at_11_16 : am_code 11 16 = some (ai_push (-1) 17) := rfl
theorem at_11_17 : am_code 11 17 = some (ai_ast 8 5 18) := rfl
theorem at_11_18 : am_code 11 18 = some (ai_ret) := rfl
theorem at_12_0 : am_code 12 0 = some (ai_aload 0 1) := rfl
theorem at_12_1 : am_code 12 1 = some (ai_getI 7 4 4) := rfl
theorem at_12_4 : am_code 12 4 = some (ai_iload 1 5) := rfl
theorem at_12_5 : am_code 12 5 = some (ai_push 5 6) := rfl
theorem at_12_6 : am_code 12 6 = some (ai_bin (fun x y => x - y) 7) := rfl
theorem at_12_7 : am_code 12 7 = some (ai_icmp (fun x y => y < x) 20 10) := rfl
theorem at_12_10 : am_code 12 10 = some (ai_aload 0 11) := rfl
theorem at_12_11 : am_code 12 11 = some (ai_push 0 12) := rfl
theorem at_12_12 : am_code 12 12 = some (ai_putZ 7 2 15) := rfl
theorem at_12_15 : am_code 12 15 = some (ai_aload 0 16) := rfl
theorem at_12_16 : am_code 12 16 = some (ai_push 0 17) := rfl
theorem at_12_17 : am_code 12 17 = some (ai_putZ 7 5 20) := rfl
theorem at_12_20 : am_code 12 20 = some (ai_aload 0 21) := rfl
theorem at_12_21 : am_code 12 21 = some (ai_getI 7 6 24) := rfl
theorem at_12_24 : am_code 12 24 = some (ai_istore 2 25) := rfl
theorem at_12_25 : am_code 12 25 = some (ai_aload 0 26) := rfl
theorem at_12_26 : am_code 12 26 = some (ai_aload 0 27) := rfl
theorem at_12_27 : am_code 12 27 = some (ai_getI 7 2 30) := rfl
theorem at_12_30 : am_code 12 30 = some (ai_if (fun x => x = 0) 44 33) := rfl
theorem at_12_33 : am_code 12 33 = some (ai_aload 0 34) := rfl
theorem at_12_34 : am_code 12 34 = some (ai_getI 7 5 37) := rfl
theorem at_12_37 : am_code 12 37 = some (ai_if (fun x => x = 0) 44 40) := rfl
theorem at_12_40 : am_code 12 40 = some (ai_push 1 41) := rfl
theorem at_12_41 : am_code 12 41 = some (ai_goto 45) := rfl
theorem at_12_44 : am_code 12 44 = some (ai_push 0 45) := rfl
theorem at_12_45 : am_code 12 45 = some (ai_putZ 7 6 48) := rfl
theorem at_12_48 : am_code 12 48 = some (ai_aload 0 49) := rfl
theorem at_12_49 : am_code 12 49 = some (ai_aload 0 50) := rfl
theorem at_12_50 : am_code 12 50 = some (ai_getI 7 6 53) := rfl
theorem at_12_53 : am_code 12 53 = some (ai_if (fun x => x = 0) 64 56) := rfl
theorem at_12_56 : am_code 12 56 = some (ai_iload 2 57) := rfl
theorem at_12_57 : am_code 12 57 = some (ai_if (fun x => ¬ x = 0) 64 60) := rfl
theorem at_12_60 : am_code 12 60 = some (ai_push 1 61) := rfl
theorem at_12_61 : am_code 12 61 = some (ai_goto 65) := rfl
theorem at_12_64 : am_code 12 64 = some (ai_push 0 65) := rfl
theorem at_12_65 : am_code 12 65 = some (ai_putZ 7 7 68) := rfl
theorem at_12_68 : am_code 12 68 = some (ai_aload 0 69) := rfl
theorem at_12_69 : am_code 12 69 = some (ai_getI 7 6 72) := rfl
theorem at_12_72 : am_code 12 72 = some (ai_if (fun x => ¬ x = 0) 79 75) := rfl
theorem at_12_75 : am_code 12 75 = some (ai_aload 0 76) := rfl
theorem at_12_76 : am_code 12 76 = some (ai_callV 10 7 0 79) := rfl
theorem at_12_79 : am_code 12 79 = some (ai_ret) := rfl
theorem at_13_0 : am_code 13 0 = some (ai_aload 0 1) := rfl
theorem at_13_1 : am_code 13 1 = some (ai_getI 7 6 4) := rfl
theorem at_13_4 : am_code 13 4 = some (ai_if (fun x => x = 0) 14 7) := rfl
theorem at_13_7 : am_code 13 7 = some (ai_aload 0 8) := rfl
theorem at_13_8 : am_code 13 8 = some (ai_getI 7 0 11) := rfl
theorem at_13_11 : am_code 13 11 = some (ai_goto 15) := rfl
theorem at_13_14 : am_code 13 14 = some (ai_push 0 15) := rfl
theorem at_13_15 : am_code 13 15 = some (ai_iret) := rfl
theorem at_14_0 : am_code 14 0 = some (ai_aload 0 1) := rfl
theorem at_14_1 : am_code 14 1 = some (ai_oinit 4) := rfl
theorem at_14_4 : am_code 14 4 = some (ai_aload 0 5) := rfl
theorem at_14_5 : am_code 14 5 = some (ai_iload 1 6) := rfl
theorem at_14_6 : am_code 14 6 = some (ai_putI 3 0 9) := rfl
theorem at_14_9 : am_code 14 9 = some (ai_aload 0 10) := rfl
theorem at_14_10 : am_code 14 10 = some (ai_push 1 11) := rfl
theorem at_14_11 : am_code 14 11 = some (ai_putZ 3 1 14) := rfl
theorem at_14_14 : am_code 14 14 = some (ai_aload 0 15) := rfl
theorem at_14_15 : am_code 14 15 = some (ai_push 2 16) := rfl
theorem at_14_16 : am_code 14 16 = some (ai_newa 4 2 19) := rfl
theorem at_14_19 : am_code 14 19 = some (ai_putP 3 5 22) := rfl
theorem at_14_22 : am_code 14 22 = some (ai_aload 0 23) := rfl
theorem at_14_23 : am_code 14 23 = some (ai_push 5 24) := rfl
theorem at_14_24 : am_code 14 24 = some (ai_newa 5 5 27) := rfl
theorem at_14_27 : am_code 14 27 = some (ai_putP 3 6 30) := rfl
theorem at_14_30 : am_code 14 30 = some (ai_aload 0 31) := rfl
theorem at_14_31 : am_code 14 31 = some (ai_push 5 32) := rfl
theorem at_14_32 : am_code 14 32 = some (ai_newa 6 5 35) := rfl
theorem at_14_35 : am_code 14 35 = some (ai_putP 3 7 38) := rfl
theorem at_14_38 : am_code 14 38 = some (ai_push 0 39) := rfl
theorem at_14_39 : am_code 14 39 = some (ai_istore 2 40) := rfl
theorem at_14_40 : am_code 14 40 = some (ai_iload 2 41) := rfl
theorem at_14_41 : am_code 14 41 = some (ai_push 5 42) := rfl
theorem at_14_42 : am_code 14 42 = some (ai_icmp (fun x y => y ≤ x) 64 45) := rfl
theorem at_14_45 : am_code 14 45 = some (ai_aload 0 46) := rfl
theorem at_14_46 : am_code 14 46 = some (ai_getP 3 7 49) := rfl
theorem at_14_49 : am_code 14 49 = some (ai_iload 2 50) := rfl
theorem at_14_50 : am_code 14 50 = some (ai_new 7 9 53) := rfl
theorem at_14_53 : am_code 14 53 = some (ai_dup 54) := rfl
theorem at_14_54 : am_code 14 54 = some (ai_callV 7 7 0 57) := rfl
theorem at_14_57 : am_code 14 57 = some (ai_aast 6 5 7 58) := rfl
theorem at_14_58 : am_code 14 58 = some (ai_iinc 2 1 61) := rfl
theorem at_14_61 : am_code 14 61 = some (ai_goto 40) := rfl
theorem at_14_64 : am_code 14 64 = some (ai_ret) := rfl
theorem at_15_0 : am_code 15 0 = some (ai_aload 0 1) := rfl
theorem at_15_1 : am_code 15 1 = some (ai_push 0 2) := rfl
theorem at_15_2 : am_code 15 2 = some (ai_putI 3 2 5) := rfl
theorem at_15_5 : am_code 15 5 = some (ai_aload 0 6) := rfl
theorem at_15_6 : am_code 15 6 = some (ai_push 0 7) := rfl
theorem at_15_7 : am_code 15 7 = some (ai_putZ 3 3 10) := rfl
theorem at_15_10 : am_code 15 10 = some (ai_aload 0 11) := rfl
theorem at_15_11 : am_code 15 11 = some (ai_null 12) := rfl
theorem at_15_12 : am_code 15 12 = some (ai_putP 3 4 15) := rfl
theorem at_15_15 : am_code 15 15 = some (ai_push 0 16) := rfl
theorem at_15_16 : am_code 15 16 = some (ai_istore 1 17) := rfl
theorem at_15_17 : am_code 15 17 = some (ai_iload 1 18) := rfl
theorem at_15_18 : am_code 15 18 = some (ai_push 5 19) := rfl
theorem at_15_19 : am_code 15 19 = some (ai_icmp (fun x y => y ≤ x) 44 22) := rfl
theorem at_15_22 : am_code 15 22 = some (ai_aload 0 23) := rfl
theorem at_15_23 : am_code 15 23 = some (ai_getP 3 6 26) := rfl
theorem at_15_26 : am_code 15 26 = some (ai_iload 1 27) := rfl
theorem at_15_27 : am_code 15 27 = some (ai_null 28) := rfl
theorem at_15_28 : am_code 15 28 = some (ai_aast 5 5 19 29) := rfl
theorem at_15_29 : am_code 15 29 = some (ai_aload 0 30) := rfl
theorem at_15_30 : am_code 15 30 = some (ai_getP 3 7 33) := rfl
theorem at_15_33 : am_code 15 33 = some (ai_iload 1 34) := rfl
theorem at_15_34 : am_code 15 34 = some (ai_aald 6 5 35) := rfl
theorem at_15_35 : am_code 15 35 = some (ai_callV 9 7 0 38) := rfl
theorem at_15_38 : am_code 15 38 = some (ai_iinc 1 1 41) := rfl
theorem at_15_41 : am_code 15 41 = some (ai_goto 17) := rfl
theorem at_15_44 : am_code 15 44 = some (ai_ret) := rfl
theorem at_16_0 : am_code 16 0 = some (ai_aload 0 1) := rfl
theorem at_16_1 : am_code 16 1 = some (ai_getP 3 6 4) := rfl
theorem at_16_4 : am_code 16 4 = some (ai_iload 1 5) := rfl
theorem at_16_5 : am_code 16 5 = some (ai_null 6) := rfl
theorem at_16_6 : am_code 16 6 = some (ai_aast 5 5 19 7) := rfl
theorem at_16_7 : am_code 16 7 = some (ai_push 0 8) := rfl
theorem at_16_8 : am_code 16 8 = some (ai_istore 2 9) := rfl
theorem at_16_9 : am_code 16 9 = some (ai_iload 2 10) := rfl
theorem at_16_10 : am_code 16 10 = some (ai_push 5 11) := rfl
theorem at_16_11 : am_code 16 11 = some (ai_icmp (fun x y => y ≤ x) 33 14) := rfl
theorem at_16_14 : am_code 16 14 = some (ai_aload 0 15) := rfl
theorem at_16_15 : am_code 16 15 = some (ai_getP 3 7 18) := rfl
theorem at_16_18 : am_code 16 18 = some (ai_iload 2 19) := rfl
theorem at_16_19 : am_code 16 19 = some (ai_aald 6 5 20) := rfl
theorem at_16_20 : am_code 16 20 = some (ai_getP 7 8 23) := rfl
theorem at_16_23 : am_code 16 23 = some (ai_iload 1 24) := rfl
theorem at_16_24 : am_code 16 24 = some (ai_push (-2) 26) := rfl
theorem at_16_26 : am_code 16 26 = some (ai_ast 8 5 27) := rfl
theorem at_16_27 : am_code 16 27 = some (ai_iinc 2 1 30) := rfl
theorem at_16_30 : am_code 16 30 = some (ai_goto 9) := rfl
theorem at_16_33 : am_code 16 33 = some (ai_ret) := rfl
theorem at_17_0 : am_code 17 0 = some (ai_push 0 1) := rfl
theorem at_17_1 : am_code 17 1 = some (ai_istore 1 2) := rfl
theorem at_17_2 : am_code 17 2 = some (ai_iload 1 3) := rfl
theorem at_17_3 : am_code 17 3 = some (ai_push 5 4) := rfl
theorem at_17_4 : am_code 17 4 = some (ai_icmp (fun x y => y ≤ x) 31 7) := rfl
theorem at_17_7 : am_code 17 7 = some (ai_aload 0 8) := rfl
theorem at_17_8 : am_code 17 8 = some (ai_getP 3 7 11) := rfl
theorem at_17_11 : am_code 17 11 = some (ai_iload 1 12) := rfl
theorem at_17_12 : am_code 17 12 = some (ai_aald 6 5 13) := rfl
theorem at_17_13 : am_code 17 13 = some (ai_aload 0 14) := rfl
theorem at_17_14 : am_code 17 14 = some (ai_getP 3 7 17) := rfl
theorem at_17_17 : am_code 17 17 = some (ai_iload 1 18) := rfl
theorem at_17_18 : am_code 17 18 = some (ai_aald 6 5 19) := rfl
theorem at_17_19 : am_code 17 19 = some (ai_getI 7 2 22) := rfl
theorem at_17_22 : am_code 17 22 = some (ai_putZ 7 3 25) := rfl
theorem at_17_25 : am_code 17 25 = some (ai_iinc 1 1 28) := rfl
theorem at_17_28 : am_code 17 28 = some (ai_goto 2) := rfl
theorem at_17_31 : am_code 17 31 = some (ai_ret) := rfl
theorem at_18_0 : am_code 18 0 = some (ai_aload 0 1) := rfl
theorem at_18_1 : am_code 18 1 = some (ai_getP 3 4 4) := rfl
theorem at_18_4 : am_code 18 4 = some (ai_ifnonnull 9 7) := rfl
theorem at_18_7 : am_code 18 7 = some (ai_push 1 8) := rfl
theorem at_18_8 : am_code 18 8 = some (ai_zret) := rfl
theorem at_18_9 : am_code 18 9 = some (ai_aload 0 10) := rfl
theorem at_18_10 : am_code 18 10 = some (ai_getP 3 4 13) := rfl
theorem at_18_13 : am_code 18 13 = some (ai_getI 19 2 16) := rfl
theorem at_18_16 : am_code 18 16 = some (ai_iload 1 17) := rfl
theorem at_18_17 : am_code 18 17 = some (ai_push 2 18) := rfl
theorem at_18_18 : am_code 18 18 = some (ai_bin (fun x y => x - y) 19) := rfl
theorem at_18_19 : am_code 18 19 = some (ai_icmp (fun x y => x ≤ y) 24 22) := rfl
theorem at_18_22 : am_code 18 22 = some (ai_push 0 23) := rfl
theorem at_18_23 : am_code 18 23 = some (ai_zret) := rfl
theorem at_18_24 : am_code 18 24 = some (ai_aload 0 25) := rfl
theorem at_18_25 : am_code 18 25 = some (ai_getI 3 3 28) := rfl
theorem at_18_28 : am_code 18 28 = some (ai_if (fun x => ¬ x = 0) 56 31) := rfl
theorem at_18_31 : am_code 18 31 = some (ai_aload 0 32) := rfl
theorem at_18_32 : am_code 18 32 = some (ai_getP 3 4 35) := rfl
theorem at_18_35 : am_code 18 35 = some (ai_getI 19 2 38) := rfl
theorem at_18_38 : am_code 18 38 = some (ai_iload 1 39) := rfl
theorem at_18_39 : am_code 18 39 = some (ai_push 20 41) := rfl
theorem at_18_41 : am_code 18 41 = some (ai_bin (fun x y => x - y) 42) := rfl
theorem at_18_42 : am_code 18 42 = some (ai_icmp (fun x y => x ≤ y) 56 45) := rfl
theorem at_18_45 : am_code 18 45 = some (ai_aload 0 46) := rfl
theorem at_18_46 : am_code 18 46 = some (ai_aload 0 47) := rfl
theorem at_18_47 : am_code 18 47 = some (ai_getP 3 4 50) := rfl
theorem at_18_50 : am_code 18 50 = some (ai_callV 19 3 1 53) := rfl
theorem at_18_53 : am_code 18 53 = some (ai_if (fun x => ¬ x = 0) 60 56) := rfl
theorem at_18_56 : am_code 18 56 = some (ai_push 1 57) := rfl
theorem at_18_57 : am_code 18 57 = some (ai_goto 61) := rfl
theorem at_18_60 : am_code 18 60 = some (ai_push 0 61) := rfl
theorem at_18_61 : am_code 18 61 = some (ai_zret) := rfl
theorem at_19_0 : am_code 19 0 = some (ai_push 0 1) := rfl
theorem at_19_1 : am_code 19 1 = some (ai_istore 2 2) := rfl
theorem at_19_2 : am_code 19 2 = some (ai_iload 2 3) := rfl
theorem at_19_3 : am_code 19 3 = some (ai_push 5 4) := rfl
theorem at_19_4 : am_code 19 4 = some (ai_icmp (fun x y => y ≤ x) 33 7) := rfl
theorem at_19_7 : am_code 19 7 = some (ai_aload 1 8) := rfl
theorem at_19_8 : am_code 19 8 = some (ai_getP 19 3 11) := rfl
theorem at_19_11 : am_code 19 11 = some (ai_iload 2 12) := rfl
theorem at_19_12 : am_code 19 12 = some (ai_ald 20 5 13) := rfl
theorem at_19_13 : am_code 19 13 = some (ai_aload 0 14) := rfl
theorem at_19_14 : am_code 19 14 = some (ai_getP 3 7 17) := rfl
theorem at_19_17 : am_code 19 17 = some (ai_iload 2 18) := rfl
theorem at_19_18 : am_code 19 18 = some (ai_aald 6 5 19) := rfl
theorem at_19_19 : am_code 19 19 = some (ai_callV 13 7 0 22) := rfl
theorem at_19_22 : am_code 19 22 = some (ai_icmp (fun x y => x = y) 27 25) := rfl
theorem at_19_25 : am_code 19 25 = some (ai_push 0 26) := rfl
theorem at_19_26 : am_code 19 26 = some (ai_zret) := rfl
theorem at_19_27 : am_code 19 27 = some (ai_iinc 2 1 30) := rfl
theorem at_19_30 : am_code 19 30 = some (ai_goto 2) := rfl
theorem at_19_33 : am_code 19 33 = some (ai_push 0 34) := rfl
theorem at_19_34 : am_code 19 34 = some (ai_istore 2 35) := rfl
theorem at_19_35 : am_code 19 35 = some (ai_iload 2 36) := rfl
theorem at_19_36 : am_code 19 36 = some (ai_push 2 37) := rfl
theorem at_19_37 : am_code 19 37 = some (ai_icmp (fun x y => y ≤ x) 66 40) := rfl
theorem at_19_40 : am_code 19 40 = some (ai_aload 1 41) := rfl
theorem at_19_41 : am_code 19 41 = some (ai_getP 19 4 44) := rfl
theorem at_19_44 : am_code 19 44 = some (ai_iload 2 45) := rfl
theorem at_19_45 : am_code 19 45 = some (ai_aald 21 2 46) := rfl
theorem at_19_46 : am_code 19 46 = some (ai_aload 0 47) := rfl
theorem at_19_47 : am_code 19 47 = some (ai_getP 3 5 50) := rfl
theorem at_19_50 : am_code 19 50 = some (ai_iload 2 51) := rfl
theorem at_19_51 : am_code 19 51 = some (ai_aald 4 2 52) := rfl
theorem at_19_52 : am_code 19 52 = some (ai_callS 3 2 55) := rfl
theorem at_19_55 : am_code 19 55 = some (ai_if (fun x => ¬ x = 0) 60 58) := rfl
theorem at_19_58 : am_code 19 58 = some (ai_push 0 59) := rfl
theorem at_19_59 : am_code 19 59 = some (ai_zret) := rfl
theorem at_19_60 : am_code 19 60 = some (ai_iinc 2 1 63) := rfl
theorem at_19_63 : am_code 19 63 = some (ai_goto 35) := rfl
theorem at_19_66 : am_code 19 66 = some (ai_push 1 67) := rfl
theorem at_19_67 : am_code 19 67 = some (ai_zret) := rfl
theorem at_20_0 : am_code 20 0 = some (ai_aload 0 1) := rfl
theorem at_20_1 : am_code 20 1 = some (ai_dup 2) := rfl
theorem at_20_2 : am_code 20 2 = some (ai_getI 3 2 5) := rfl
theorem at_20_5 : am_code 20 5 = some (ai_push 1 6) := rfl
theorem at_20_6 : am_code 20 6 = some (ai_bin (fun x y => x + y) 7) := rfl
theorem at_20_7 : am_code 20 7 = some (ai_putI 3 2 10) := rfl
theorem at_20_10 : am_code 20 10 = some (ai_aload 0 11) := rfl
theorem at_20_11 : am_code 20 11 = some (ai_new 19 5 14) := rfl
theorem at_20_14 : am_code 20 14 = some (ai_dup 15) := rfl
theorem at_20_15 : am_code 20 15 = some (ai_aload 0 16) := rfl
theorem at_20_16 : am_code 20 16 = some (ai_getI 3 0 19) := rfl
theorem at_20_19 : am_code 20 19 = some (ai_aload 0 20) := rfl
theorem at_20_20 : am_code 20 20 = some (ai_getI 3 2 23) := rfl
theorem at_20_23 : am_code 20 23 = some (ai_iload 1 24) := rfl
theorem at_20_24 : am_code 20 24 = some (ai_aload 0 25) := rfl
theorem at_20_25 : am_code 20 25 = some (ai_getP 3 7 28) := rfl
theorem at_20_28 : am_code 20 28 = some (ai_aload 0 29) := rfl
theorem at_20_29 : am_code 20 29 = some (ai_getP 3 5 32) := rfl
theorem at_20_32 : am_code 20 32 = some (ai_callV 4 19 5 35) := rfl
theorem at_20_35 : am_code 20 35 = some (ai_putP 3 4 38) := rfl
theorem at_20_38 : am_code 20 38 = some (ai_aload 0 39) := rfl
theorem at_20_39 : am_code 20 39 = some (ai_push 0 40) := rfl
theorem at_20_40 : am_code 20 40 = some (ai_putZ 3 3 43) := rfl
theorem at_20_43 : am_code 20 43 = some (ai_aload 0 44) := rfl
theorem at_20_44 : am_code 20 44 = some (ai_aload 0 45) := rfl
theorem at_20_45 : am_code 20 45 = some (ai_getP 3 4 48) := rfl
theorem at_20_48 : am_code 20 48 = some (ai_aload 0 49) := rfl
theorem at_20_49 : am_code 20 49 = some (ai_getI 3 0 52) := rfl
theorem at_20_52 : am_code 20 52 = some (ai_callV 21 3 2 55) := rfl
theorem at_20_55 : am_code 20 55 = some (ai_ret) := rfl
theorem at_21_0 : am_code 21 0 = some (ai_aload 1 1) := rfl
theorem at_21_1 : am_code 21 1 = some (ai_getI 19 0 4) := rfl
theorem at_21_4 : am_code 21 4 = some (ai_istore 3 5) := rfl
theorem at_21_5 : am_code 21 5 = some (ai_aload 0 6) := rfl
theorem at_21_6 : am_code 21 6 = some (ai_getP 3 6 9) := rfl
theorem at_21_9 : am_code 21 9 = some (ai_iload 3 10) := rfl
theorem at_21_10 : am_code 21 10 = some (ai_aload 1 11) := rfl
theorem at_21_11 : am_code 21 11 = some (ai_aast 5 5 19 12) := rfl
theorem at_21_12 : am_code 21 12 = some (ai_push 0 13) := rfl
theorem at_21_13 : am_code 21 13 = some (ai_istore 4 15) := rfl
theorem at_21_15 : am_code 21 15 = some (ai_iload 4 17) := rfl
theorem at_21_17 : am_code 21 17 = some (ai_push 5 18) := rfl
theorem at_21_18 : am_code 21 18 = some (ai_icmp (fun x y => y ≤ x) 64 21) := rfl
theorem at_21_21 : am_code 21 21 = some (ai_aload 0 22) := rfl
theorem at_21_22 : am_code 21 22 = some (ai_getP 3 7 25) := rfl
theorem at_21_25 : am_code 21 25 = some (ai_iload 4 27) := rfl
theorem at_21_27 : am_code 21 27 = some (ai_aald 6 5 28) := rfl
theorem at_21_28 : am_code 21 28 = some (ai_getP 7 8 31) := rfl
theorem at_21_31 : am_code 21 31 = some (ai_iload 3 32) := rfl
theorem at_21_32 : am_code 21 32 = some (ai_aload 0 33) := rfl
theorem at_21_33 : am_code 21 33 = some (ai_getP 3 7 36) := rfl
theorem at_21_36 : am_code 21 36 = some (ai_iload 4 38) := rfl
theorem at_21_38 : am_code 21 38 = some (ai_aald 6 5 39) := rfl
theorem at_21_39 : am_code 21 39 = some (ai_getI 7 6 42) := rfl
theorem at_21_42 : am_code 21 42 = some (ai_if (fun x => x = 0) 55 45) := rfl
theorem at_21_45 : am_code 21 45 = some (ai_iload 4 47) := rfl
theorem at_21_47 : am_code 21 47 = some (ai_iload 2 48) := rfl
theorem at_21_48 : am_code 21 48 = some (ai_icmp (fun x y => x = y) 55 51) := rfl
theorem at_21_51 : am_code 21 51 = some (ai_push (-1) 52) := rfl
theorem at_21_52 : am_code 21 52 = some (ai_goto 57) := rfl
theorem at_21_55 : am_code 21 55 = some (ai_push (-2) 57) := rfl
theorem at_21_57 : am_code 21 57 = some (ai_ast 8 5 58) := rfl
theorem at_21_58 : am_code 21 58 = some (ai_iinc 4 1 61) := rfl
theorem at_21_61 : am_code 21 61 = some (ai_goto 15) := rfl
theorem at_21_64 : am_code 21 64 = some (ai_ret) := rfl
theorem at_22_0 : am_code 22 0 = some (ai_aload 0 1) := rfl
theorem at_22_1 : am_code 22 1 = some (ai_aload 0 2) := rfl
theorem at_22_2 : am_code 22 2 = some (ai_getI 3 2 5) := rfl
theorem at_22_5 : am_code 22 5 = some (ai_iload 1 6) := rfl
theorem at_22_6 : am_code 22 6 = some (ai_max 9) := rfl
theorem at_22_9 : am_code 22 9 = some (ai_putI 3 2 12) := rfl
theorem at_22_12 : am_code 22 12 = some (ai_aload 0 13) := rfl
theorem at_22_13 : am_code 22 13 = some (ai_push 1 14) := rfl
theorem at_22_14 : am_code 22 14 = some (ai_putZ 3 3 17) := rfl
theorem at_22_17 : am_code 22 17 = some (ai_ret) := rfl
theorem at_23_0 : am_code 23 0 = some (ai_aload 0 1) := rfl
theorem at_23_1 : am_code 23 1 = some (ai_oinit 4) := rfl
theorem at_23_4 : am_code 23 4 = some (ai_aload 0 5) := rfl
theorem at_23_5 : am_code 23 5 = some (ai_push 5 6) := rfl
theorem at_23_6 : am_code 23 6 = some (ai_newa 11 5 9) := rfl
theorem at_23_9 : am_code 23 9 = some (ai_putP 10 1 12) := rfl
theorem at_23_12 : am_code 23 12 = some (ai_aload 0 13) := rfl
theorem at_23_13 : am_code 23 13 = some (ai_push 5 14) := rfl
theorem at_23_14 : am_code 23 14 = some (ai_newa 12 5 16) := rfl
theorem at_23_16 : am_code 23 16 = some (ai_putP 10 2 19) := rfl
theorem at_23_19 : am_code 23 19 = some (ai_ret) := rfl
theorem at_24_0 : am_code 24 0 = some (ai_push 0 1) := rfl
theorem at_24_1 : am_code 24 1 = some (ai_istore 4 3) := rfl
theorem at_24_3 : am_code 24 3 = some (ai_push 0 4) := rfl
theorem at_24_4 : am_code 24 4 = some (ai_istore 5 6) := rfl
theorem at_24_6 : am_code 24 6 = some (ai_iload 5 8) := rfl
theorem at_24_8 : am_code 24 8 = some (ai_push 5 9) := rfl
theorem at_24_9 : am_code 24 9 = some (ai_icmp (fun x y => y ≤ x) 71 12) := rfl
theorem at_24_12 : am_code 24 12 = some (ai_aload 0 13) := rfl
theorem at_24_13 : am_code 24 13 = some (ai_getP 10 1 16) := rfl
theorem at_24_16 : am_code 24 16 = some (ai_iload 5 18) := rfl
theorem at_24_18 : am_code 24 18 = some (ai_null 19) := rfl
theorem at_24_19 : am_code 24 19 = some (ai_aast 11 5 19 20) := rfl
theorem at_24_20 : am_code 24 20 = some (ai_aload 0 21) := rfl
theorem at_24_21 : am_code 24 21 = some (ai_getP 10 2 24) := rfl
theorem at_24_24 : am_code 24 24 = some (ai_iload 5 26) := rfl
theorem at_24_26 : am_code 24 26 = some (ai_push 0 27) := rfl
theorem at_24_27 : am_code 24 27 = some (ai_zast 12 5 28) := rfl
theorem at_24_28 : am_code 24 28 = some (ai_aload 1 29) := rfl
theorem at_24_29 : am_code 24 29 = some (ai_iload 5 31) := rfl
theorem at_24_31 : am_code 24 31 = some (ai_aald 5 5 32) := rfl
theorem at_24_32 : am_code 24 32 = some (ai_ifnull 65 35) := rfl
theorem at_24_35 : am_code 24 35 = some (ai_aload 2 36) := rfl
theorem at_24_36 : am_code 24 36 = some (ai_iload 5 38) := rfl
theorem at_24_38 : am_code 24 38 = some (ai_ald 8 5 39) := rfl
theorem at_24_39 : am_code 24 39 = some (ai_iload 3 40) := rfl
theorem at_24_40 : am_code 24 40 = some (ai_callS 25 2 43) := rfl
theorem at_24_43 : am_code 24 43 = some (ai_if (fun x => x = 0) 65 46) := rfl
theorem at_24_46 : am_code 24 46 = some (ai_aload 0 47) := rfl
theorem at_24_47 : am_code 24 47 = some (ai_getP 10 1 50) := rfl
theorem at_24_50 : am_code 24 50 = some (ai_iload 5 52) := rfl
theorem at_24_52 : am_code 24 52 = some (ai_aload 1 53) := rfl
theorem at_24_53 : am_code 24 53 = some (ai_iload 5 55) := rfl
theorem at_24_55 : am_code 24 55 = some (ai_aald 5 5 56) := rfl
theorem at_24_56 : am_code 24 56 = some (ai_aast 11 5 19 57) := rfl
theorem at_24_57 : am_code 24 57 = some (ai_aload 2 58) := rfl
theorem at_24_58 : am_code 24 58 = some (ai_iload 5 60) := rfl
theorem at_24_60 : am_code 24 60 = some (ai_iload 3 61) := rfl
theorem at_24_61 : am_code 24 61 = some (ai_ast 8 5 62) := rfl
theorem at_24_62 : am_code 24 62 = some (ai_iinc 4 1 65) := rfl
theorem at_24_65 : am_code 24 65 = some (ai_iinc 5 1 68) := rfl
theorem at_24_68 : am_code 24 68 = some (ai_goto 6) := rfl
theorem at_24_71 : am_code 24 71 = some (ai_iload 4 73) := rfl
theorem at_24_73 : am_code 24 73 = some (ai_iret) := rfl
theorem at_25_0 : am_code 25 0 = some (ai_iload 0 1) := rfl
theorem at_25_1 : am_code 25 1 = some (ai_push (-2) 3) := rfl
theorem at_25_3 : am_code 25 3 = some (ai_icmp (fun x y => ¬ x = y) 8 6) := rfl
theorem at_25_6 : am_code 25 6 = some (ai_push 0 7) := rfl
theorem at_25_7 : am_code 25 7 = some (ai_zret) := rfl
theorem at_25_8 : am_code 25 8 = some (ai_iload 0 9) := rfl
theorem at_25_9 : am_code 25 9 = some (ai_push (-1) 10) := rfl
theorem at_25_10 : am_code 25 10 = some (ai_icmp (fun x y => x = y) 20 13) := rfl
theorem at_25_13 : am_code 25 13 = some (ai_iload 0 14) := rfl
theorem at_25_14 : am_code 25 14 = some (ai_iload 1 15) := rfl
theorem at_25_15 : am_code 25 15 = some (ai_push 3 16) := rfl
theorem at_25_16 : am_code 25 16 = some (ai_bin (fun x y => x - y) 17) := rfl
theorem at_25_17 : am_code 25 17 = some (ai_icmp (fun x y => y < x) 24 20) := rfl
theorem at_25_20 : am_code 25 20 = some (ai_push 1 21) := rfl
theorem at_25_21 : am_code 25 21 = some (ai_goto 25) := rfl
theorem at_25_24 : am_code 25 24 = some (ai_push 0 25) := rfl
theorem at_25_25 : am_code 25 25 = some (ai_zret) := rfl
theorem at_26_0 : am_code 26 0 = some (ai_aload 0 1) := rfl
theorem at_26_1 : am_code 26 1 = some (ai_oinit 4) := rfl
theorem at_26_4 : am_code 26 4 = some (ai_aload 0 5) := rfl
theorem at_26_5 : am_code 26 5 = some (ai_push 5 6) := rfl
theorem at_26_6 : am_code 26 6 = some (ai_push 5 7) := rfl
theorem at_26_7 : am_code 26 7 = some (ai_multi 14 15 11) := rfl
theorem at_26_11 : am_code 26 11 = some (ai_putP 13 0 14) := rfl
theorem at_26_14 : am_code 26 14 = some (ai_aload 0 15) := rfl
theorem at_26_15 : am_code 26 15 = some (ai_push 5 16) := rfl
theorem at_26_16 : am_code 26 16 = some (ai_push 5 17) := rfl
theorem at_26_17 : am_code 26 17 = some (ai_multi 16 17 21) := rfl
theorem at_26_21 : am_code 26 21 = some (ai_putP 13 1 24) := rfl
theorem at_26_24 : am_code 26 24 = some (ai_ret) := rfl
theorem at_27_0 : am_code 27 0 = some (ai_push 0 1) := rfl
theorem at_27_1 : am_code 27 1 = some (ai_istore 2 2) := rfl
theorem at_27_2 : am_code 27 2 = some (ai_iload 2 3) := rfl
theorem at_27_3 : am_code 27 3 = some (ai_push 5 4) := rfl
theorem at_27_4 : am_code 27 4 = some (ai_icmp (fun x y => y ≤ x) 70 7) := rfl
theorem at_27_7 : am_code 27 7 = some (ai_push 0 8) := rfl
theorem at_27_8 : am_code 27 8 = some (ai_istore 3 9) := rfl
theorem at_27_9 : am_code 27 9 = some (ai_iload 3 10) := rfl
theorem at_27_10 : am_code 27 10 = some (ai_push 5 11) := rfl
theorem at_27_11 : am_code 27 11 = some (ai_icmp (fun x y => y ≤ x) 64 14) := rfl
theorem at_27_14 : am_code 27 14 = some (ai_aload 0 15) := rfl
theorem at_27_15 : am_code 27 15 = some (ai_getP 13 0 18) := rfl
theorem at_27_18 : am_code 27 18 = some (ai_iload 2 19) := rfl
theorem at_27_19 : am_code 27 19 = some (ai_aald 14 5 20) := rfl
theorem at_27_20 : am_code 27 20 = some (ai_iload 3 21) := rfl
theorem at_27_21 : am_code 27 21 = some (ai_aload 1 22) := rfl
theorem at_27_22 : am_code 27 22 = some (ai_iload 2 23) := rfl
theorem at_27_23 : am_code 27 23 = some (ai_aald 5 5 24) := rfl
theorem at_27_24 : am_code 27 24 = some (ai_aload 1 25) := rfl
theorem at_27_25 : am_code 27 25 = some (ai_iload 3 26) := rfl
theorem at_27_26 : am_code 27 26 = some (ai_aald 5 5 27) := rfl
theorem at_27_27 : am_code 27 27 = some (ai_iload 2 28) := rfl
theorem at_27_28 : am_code 27 28 = some (ai_iload 3 29) := rfl
theorem at_27_29 : am_code 27 29 = some (ai_callS 28 4 32) := rfl
theorem at_27_32 : am_code 27 32 = some (ai_ast 15 5 33) := rfl
theorem at_27_33 : am_code 27 33 = some (ai_aload 0 34) := rfl
theorem at_27_34 : am_code 27 34 = some (ai_getP 13 1 37) := rfl
theorem at_27_37 : am_code 27 37 = some (ai_iload 2 38) := rfl
theorem at_27_38 : am_code 27 38 = some (ai_aald 16 5 39) := rfl
theorem at_27_39 : am_code 27 39 = some (ai_iload 3 40) := rfl
theorem at_27_40 : am_code 27 40 = some (ai_iload 2 41) := rfl
theorem at_27_41 : am_code 27 41 = some (ai_iload 3 42) := rfl
theorem at_27_42 : am_code 27 42 = some (ai_icmp (fun x y => ¬ x = y) 49 45) := rfl
theorem at_27_45 : am_code 27 45 = some (ai_push 0 46) := rfl
theorem at_27_46 : am_code 27 46 = some (ai_goto 57) := rfl
theorem at_27_49 : am_code 27 49 = some (ai_aload 0 50) := rfl
theorem at_27_50 : am_code 27 50 = some (ai_getP 13 0 53) := rfl
theorem at_27_53 : am_code 27 53 = some (ai_iload 2 54) := rfl
theorem at_27_54 : am_code 27 54 = some (ai_aald 14 5 55) := rfl
theorem at_27_55 : am_code 27 55 = some (ai_iload 3 56) := rfl
theorem at_27_56 : am_code 27 56 = some (ai_ald 15 5 57) := rfl
theorem at_27_57 : am_code 27 57 = some (ai_ast 17 5 58) := rfl
theorem at_27_58 : am_code 27 58 = some (ai_iinc 3 1 61) := rfl
theorem at_27_61 : am_code 27 61 = some (ai_goto 9) := rfl
theorem at_27_64 : am_code 27 64 = some (ai_iinc 2 1 67) := rfl
theorem at_27_67 : am_code 27 67 = some (ai_goto 2) := rfl
theorem at_27_70 : am_code 27 70 = some (ai_push 0 71) := rfl
theorem at_27_71 : am_code 27 71 = some (ai_istore 2 72) := rfl
theorem at_27_72 : am_code 27 72 = some (ai_iload 2 73) := rfl
theorem at_27_73 : am_code 27 73 = some (ai_push 5 74) := rfl
theorem at_27_74 : am_code 27 74 = some (ai_icmp (fun x y => y ≤ x) 88 77) := rfl
theorem at_27_77 : am_code 27 77 = some (ai_aload 0 78) := rfl
theorem at_27_78 : am_code 27 78 = some (ai_iload 2 79) := rfl
theorem at_27_79 : am_code 27 79 = some (ai_callV 29 13 1 82) := rfl
theorem at_27_82 : am_code 27 82 = some (ai_iinc 2 1 85) := rfl
theorem at_27_85 : am_code 27 85 = some (ai_goto 72) := rfl
theorem at_27_88 : am_code 27 88 = some (ai_ret) := rfl
theorem at_28_0 : am_code 28 0 = some (ai_aload 0 1) := rfl
theorem at_28_1 : am_code 28 1 = some (ai_ifnull 26 4) := rfl
theorem at_28_4 : am_code 28 4 = some (ai_aload 1 5) := rfl
theorem at_28_5 : am_code 28 5 = some (ai_ifnull 26 8) := rfl
theorem at_28_8 : am_code 28 8 = some (ai_aload 0 9) := rfl
theorem at_28_9 : am_code 28 9 = some (ai_getP 19 3 12) := rfl
theorem at_28_12 : am_code 28 12 = some (ai_iload 3 13) := rfl
theorem at_28_13 : am_code 28 13 = some (ai_ald 20 5 14) := rfl
theorem at_28_14 : am_code 28 14 = some (ai_if (fun x => x = 0) 26 17) := rfl
theorem at_28_17 : am_code 28 17 = some (ai_aload 1 18) := rfl
theorem at_28_18 : am_code 28 18 = some (ai_getP 19 3 21) := rfl
theorem at_28_21 : am_code 28 21 = some (ai_iload 2 22) := rfl
theorem at_28_22 : am_code 28 22 = some (ai_ald 20 5 23) := rfl
theorem at_28_23 : am_code 28 23 = some (ai_if (fun x => ¬ x = 0) 30 26) := rfl
theorem at_28_26 : am_code 28 26 = some (ai_push 1000 29) := rfl
theorem at_28_29 : am_code 28 29 = some (ai_iret) := rfl
theorem at_28_30 : am_code 28 30 = some (ai_aload 0 31) := rfl
theorem at_28_31 : am_code 28 31 = some (ai_getP 19 3 34) := rfl
theorem at_28_34 : am_code 28 34 = some (ai_iload 3 35) := rfl
theorem at_28_35 : am_code 28 35 = some (ai_ald 20 5 36) := rfl
theorem at_28_36 : am_code 28 36 = some (ai_iret) := rfl
theorem at_29_0 : am_code 29 0 = some (ai_push 0 1) := rfl
theorem at_29_1 : am_code 29 1 = some (ai_istore 2 2) := rfl
theorem at_29_2 : am_code 29 2 = some (ai_iload 2 3) := rfl
theorem at_29_3 : am_code 29 3 = some (ai_push 5 4) := rfl
theorem at_29_4 : am_code 29 4 = some (ai_icmp (fun x y => y ≤ x) 68 7) := rfl
theorem at_29_7 : am_code 29 7 = some (ai_push 0 8) := rfl
theorem at_29_8 : am_code 29 8 = some (ai_istore 3 9) := rfl
theorem at_29_9 : am_code 29 9 = some (ai_iload 3 10) := rfl
theorem at_29_10 : am_code 29 10 = some (ai_push 5 11) := rfl
theorem at_29_11 : am_code 29 11 = some (ai_icmp (fun x y => y ≤ x) 62 14) := rfl
theorem at_29_14 : am_code 29 14 = some (ai_aload 0 15) := rfl
theorem at_29_15 : am_code 29 15 = some (ai_getP 13 1 18) := rfl
theorem at_29_18 : am_code 29 18 = some (ai_iload 2 19) := rfl
theorem at_29_19 : am_code 29 19 = some (ai_aald 16 5 20) := rfl
theorem at_29_20 : am_code 29 20 = some (ai_iload 1 21) := rfl
theorem at_29_21 : am_code 29 21 = some (ai_ald 17 5 22) := rfl
theorem at_29_22 : am_code 29 22 = some (ai_aload 0 23) := rfl
theorem at_29_23 : am_code 29 23 = some (ai_getP 13 1 26) := rfl
theorem at_29_26 : am_code 29 26 = some (ai_iload 1 27) := rfl
theorem at_29_27 : am_code 29 27 = some (ai_aald 16 5 28) := rfl
theorem at_29_28 : am_code 29 28 = some (ai_iload 3 29) := rfl
theorem at_29_29 : am_code 29 29 = some (ai_ald 17 5 30) := rfl
theorem at_29_30 : am_code 29 30 = some (ai_bin (fun x y => x + y) 31) := rfl
theorem at_29_31 : am_code 29 31 = some (ai_istore 4 33) := rfl
theorem at_29_33 : am_code 29 33 = some (ai_iload 4 35) := rfl
theorem at_29_35 : am_code 29 35 = some (ai_aload 0 36) := rfl
theorem at_29_36 : am_code 29 36 = some (ai_getP 13 1 39) := rfl
theorem at_29_39 : am_code 29 39 = some (ai_iload 2 40) := rfl
theorem at_29_40 : am_code 29 40 = some (ai_aald 16 5 41) := rfl
theorem at_29_41 : am_code 29 41 = some (ai_iload 3 42) := rfl
theorem at_29_42 : am_code 29 42 = some (ai_ald 17 5 43) := rfl
theorem at_29_43 : am_code 29 43 = some (ai_icmp (fun x y => y ≤ x) 56 46) := rfl
theorem at_29_46 : am_code 29 46 = some (ai_aload 0 47) := rfl
theorem at_29_47 : am_code 29 47 = some (ai_getP 13 1 50) := rfl
theorem at_29_50 : am_code 29 50 = some (ai_iload 2 51) := rfl
theorem at_29_51 : am_code 29 51 = some (ai_aald 16 5 52) := rfl
theorem at_29_52 : am_code 29 52 = some (ai_iload 3 53) := rfl
theorem at_29_53 : am_code 29 53 = some (ai_iload 4 55) := rfl
theorem at_29_55 : am_code 29 55 = some (ai_ast 17 5 56) := rfl
theorem at_29_56 : am_code 29 56 = some (ai_iinc 3 1 59) := rfl
theorem at_29_59 : am_code 29 59 = some (ai_goto 9) := rfl
theorem at_29_62 : am_code 29 62 = some (ai_iinc 2 1 65) := rfl
theorem at_29_65 : am_code 29 65 = some (ai_goto 2) := rfl
theorem at_29_68 : am_code 29 68 = some (ai_ret) := rfl
theorem at_30_0 : am_code 30 0 = some (ai_iload 1 1) := rfl
theorem at_30_1 : am_code 30 1 = some (ai_iload 2 2) := rfl
theorem at_30_2 : am_code 30 2 = some (ai_icmp (fun x y => x = y) 19 5) := rfl
theorem at_30_5 : am_code 30 5 = some (ai_aload 0 6) := rfl
theorem at_30_6 : am_code 30 6 = some (ai_getP 13 1 9) := rfl
theorem at_30_9 : am_code 30 9 = some (ai_iload 1 10) := rfl
theorem at_30_10 : am_code 30 10 = some (ai_aald 16 5 11) := rfl
theorem at_30_11 : am_code 30 11 = some (ai_iload 2 12) := rfl
theorem at_30_12 : am_code 30 12 = some (ai_ald 17 5 13) := rfl
theorem at_30_13 : am_code 30 13 = some (ai_push 1000 16) := rfl
theorem at_30_16 : am_code 30 16 = some (ai_icmp (fun x y => ¬ x = y) 21 19) := rfl
theorem at_30_19 : am_code 30 19 = some (ai_push (-1) 20) := rfl
theorem at_30_20 : am_code 30 20 = some (ai_iret) := rfl
theorem at_30_21 : am_code 30 21 = some (ai_push 0 22) := rfl
theorem at_30_22 : am_code 30 22 = some (ai_istore 3 23) := rfl
theorem at_30_23 : am_code 30 23 = some (ai_iload 3 24) := rfl
theorem at_30_24 : am_code 30 24 = some (ai_push 5 25) := rfl
theorem at_30_25 : am_code 30 25 = some (ai_icmp (fun x y => y ≤ x) 64 28) := rfl
theorem at_30_28 : am_code 30 28 = some (ai_aload 0 29) := rfl
theorem at_30_29 : am_code 30 29 = some (ai_getP 13 0 32) := rfl
theorem at_30_32 : am_code 30 32 = some (ai_iload 1 33) := rfl
theorem at_30_33 : am_code 30 33 = some (ai_aald 14 5 34) := rfl
theorem at_30_34 : am_code 30 34 = some (ai_iload 3 35) := rfl
theorem at_30_35 : am_code 30 35 = some (ai_ald 15 5 36) := rfl
theorem at_30_36 : am_code 30 36 = some (ai_aload 0 37) := rfl
theorem at_30_37 : am_code 30 37 = some (ai_getP 13 1 40) := rfl
theorem at_30_40 : am_code 30 40 = some (ai_iload 3 41) := rfl
theorem at_30_41 : am_code 30 41 = some (ai_aald 16 5 42) := rfl
theorem at_30_42 : am_code 30 42 = some (ai_iload 2 43) := rfl
theorem at_30_43 : am_code 30 43 = some (ai_ald 17 5 44) := rfl
theorem at_30_44 : am_code 30 44 = some (ai_bin (fun x y => x + y) 45) := rfl
theorem at_30_45 : am_code 30 45 = some (ai_aload 0 46) := rfl
theorem at_30_46 : am_code 30 46 = some (ai_getP 13 1 49) := rfl
theorem at_30_49 : am_code 30 49 = some (ai_iload 1 50) := rfl
theorem at_30_50 : am_code 30 50 = some (ai_aald 16 5 51) := rfl
theorem at_30_51 : am_code 30 51 = some (ai_iload 2 52) := rfl
theorem at_30_52 : am_code 30 52 = some (ai_ald 17 5 53) := rfl
theorem at_30_53 : am_code 30 53 = some (ai_icmp (fun x y => ¬ x = y) 58 56) := rfl
theorem at_30_56 : am_code 30 56 = some (ai_iload 3 57) := rfl
theorem at_30_57 : am_code 30 57 = some (ai_iret) := rfl
theorem at_30_58 : am_code 30 58 = some (ai_iinc 3 1 61) := rfl
theorem at_30_61 : am_code 30 61 = some (ai_goto 23) := rfl
theorem at_30_64 : am_code 30 64 = some (ai_push (-1) 65) := rfl
theorem at_30_65 : am_code 30 65 = some (ai_iret) := rfl
theorem at_31_0 : am_code 31 0 = some (ai_push (-1) 1) := rfl
theorem at_31_1 : am_code 31 1 = some (ai_istore 4 3) := rfl
theorem at_31_3 : am_code 31 3 = some (ai_push (-1) 4) := rfl
theorem at_31_4 : am_code 31 4 = some (ai_istore 5 6) := rfl
theorem at_31_6 : am_code 31 6 = some (ai_push 0 7) := rfl
theorem at_31_7 : am_code 31 7 = some (ai_istore 6 9) := rfl
theorem at_31_9 : am_code 31 9 = some (ai_push 0 10) := rfl
theorem at_31_10 : am_code 31 10 = some (ai_istore 7 12) := rfl
theorem at_31_12 : am_code 31 12 = some (ai_iload 7 14) := rfl
theorem at_31_14 : am_code 31 14 = some (ai_push 5 15) := rfl
theorem at_31_15 : am_code 31 15 = some (ai_icmp (fun x y => y ≤ x) 153 18) := rfl
theorem at_31_18 : am_code 31 18 = some (ai_push 0 19) := rfl
theorem at_31_19 : am_code 31 19 = some (ai_istore 8 21) := rfl
theorem at_31_21 : am_code 31 21 = some (ai_iload 8 23) := rfl
theorem at_31_23 : am_code 31 23 = some (ai_push 2 24) := rfl
theorem at_31_24 : am_code 31 24 = some (ai_icmp (fun x y => y ≤ x) 147 27) := rfl
theorem at_31_27 : am_code 31 27 = some (ai_aload 3 28) := rfl
theorem at_31_28 : am_code 31 28 = some (ai_iload 7 30) := rfl
theorem at_31_30 : am_code 31 30 = some (ai_aald 5 5 31) := rfl
theorem at_31_31 : am_code 31 31 = some (ai_ifnonnull 38 34) := rfl
theorem at_31_34 : am_code 31 34 = some (ai_null 35) := rfl
theorem at_31_35 : am_code 31 35 = some (ai_goto 48) := rfl
theorem at_31_38 : am_code 31 38 = some (ai_aload 3 39) := rfl
theorem at_31_39 : am_code 31 39 = some (ai_iload 7 41) := rfl
theorem at_31_41 : am_code 31 41 = some (ai_aald 5 5 42) := rfl
theorem at_31_42 : am_code 31 42 = some (ai_getP 19 4 45) := rfl
theorem at_31_45 : am_code 31 45 = some (ai_iload 8 47) := rfl
theorem at_31_47 : am_code 31 47 = some (ai_aald 21 2 48) := rfl
theorem at_31_48 : am_code 31 48 = some (ai_astore 9 50) := rfl
theorem at_31_50 : am_code 31 50 = some (ai_aload 9 52) := rfl
theorem at_31_52 : am_code 31 52 = some (ai_ifnull 141 55) := rfl
theorem at_31_55 : am_code 31 55 = some (ai_aload 0 56) := rfl
theorem at_31_56 : am_code 31 56 = some (ai_getP 13 1 59) := rfl
theorem at_31_59 : am_code 31 59 = some (ai_iload 1 60) := rfl
theorem at_31_60 : am_code 31 60 = some (ai_aald 16 5 61) := rfl
theorem at_31_61 : am_code 31 61 = some (ai_iload 7 63) := rfl
theorem at_31_63 : am_code 31 63 = some (ai_ald 17 5 64) := rfl
theorem at_31_64 : am_code 31 64 = some (ai_push 1000 67) := rfl
theorem at_31_67 : am_code 31 67 = some (ai_icmp (fun x y => x = y) 141 70) := rfl
theorem at_31_70 : am_code 31 70 = some (ai_aload 9 72) := rfl
theorem at_31_72 : am_code 31 72 = some (ai_iload 2 73) := rfl
theorem at_31_73 : am_code 31 73 = some (ai_callV 2 22 1 76) := rfl
theorem at_31_76 : am_code 31 76 = some (ai_if (fun x => ¬ x = 0) 82 79) := rfl
theorem at_31_79 : am_code 31 79 = some (ai_goto 141) := rfl
theorem at_31_82 : am_code 31 82 = some (ai_aload 0 83) := rfl
theorem at_31_83 : am_code 31 83 = some (ai_getP 13 1 86) := rfl
theorem at_31_86 : am_code 31 86 = some (ai_iload 1 87) := rfl
theorem at_31_87 : am_code 31 87 = some (ai_aald 16 5 88) := rfl
theorem at_31_88 : am_code 31 88 = some (ai_iload 7 90) := rfl
theorem at_31_90 : am_code 31 90 = some (ai_ald 17 5 91) := rfl
theorem at_31_91 : am_code 31 91 = some (ai_aload 9 93) := rfl
theorem at_31_93 : am_code 31 93 = some (ai_getI 22 2 96) := rfl
theorem at_31_96 : am_code 31 96 = some (ai_bin (fun x y => x + y) 97) := rfl
theorem at_31_97 : am_code 31 97 = some (ai_istore 10 99) := rfl
theorem at_31_99 : am_code 31 99 = some (ai_aload 9 101) := rfl
theorem at_31_101 : am_code 31 101 = some (ai_getI 22 1 104) := rfl
theorem at_31_104 : am_code 31 104 = some (ai_iload 5 106) := rfl
theorem at_31_106 : am_code 31 106 = some (ai_icmp (fun x y => y < x) 126 109) := rfl
theorem at_31_109 : am_code 31 109 = some (ai_aload 9 111) := rfl
theorem at_31_111 : am_code 31 111 = some (ai_getI 22 1 114) := rfl
theorem at_31_114 : am_code 31 114 = some (ai_iload 5 116) := rfl
theorem at_31_116 : am_code 31 116 = some (ai_icmp (fun x y => ¬ x = y) 141 119) := rfl
theorem at_31_119 : am_code 31 119 = some (ai_iload 10 121) := rfl
theorem at_31_121 : am_code 31 121 = some (ai_iload 6 123) := rfl
theorem at_31_123 : am_code 31 123 = some (ai_icmp (fun x y => y ≤ x) 141 126) := rfl
theorem at_31_126 : am_code 31 126 = some (ai_iload 7 128) := rfl
theorem at_31_128 : am_code 31 128 = some (ai_istore 4 130) := rfl
theorem at_31_130 : am_code 31 130 = some (ai_aload 9 132) := rfl
theorem at_31_132 : am_code 31 132 = some (ai_getI 22 1 135) := rfl
theorem at_31_135 : am_code 31 135 = some (ai_istore 5 137) := rfl
theorem at_31_137 : am_code 31 137 = some (ai_iload 10 139) := rfl
theorem at_31_139 : am_code 31 139 = some (ai_istore 6 141) := rfl
theorem at_31_141 : am_code 31 141 = some (ai_iinc 8 1 144) := rfl
theorem at_31_144 : am_code 31 144 = some (ai_goto 21) := rfl
theorem at_31_147 : am_code 31 147 = some (ai_iinc 7 1 150) := rfl
theorem at_31_150 : am_code 31 150 = some (ai_goto 12) := rfl
theorem at_31_153 : am_code 31 153 = some (ai_iload 4 155) := rfl
theorem at_31_155 : am_code 31 155 = some (ai_iret) := rfl
theorem at_32_0 : am_code 32 0 = some (ai_aload 0 1) := rfl
theorem at_32_1 : am_code 32 1 = some (ai_oinit 4) := rfl
theorem at_32_4 : am_code 32 4 = some (ai_aload 0 5) := rfl
theorem at_32_5 : am_code 32 5 = some (ai_push 5 6) := rfl
theorem at_32_6 : am_code 32 6 = some (ai_newa 2 5 9) := rfl
theorem at_32_9 : am_code 32 9 = some (ai_putP 1 0 12) := rfl
theorem at_32_12 : am_code 32 12 = some (ai_push 0 13) := rfl
theorem at_32_13 : am_code 32 13 = some (ai_istore 1 14) := rfl
theorem at_32_14 : am_code 32 14 = some (ai_iload 1 15) := rfl
theorem at_32_15 : am_code 32 15 = some (ai_push 5 16) := rfl
theorem at_32_16 : am_code 32 16 = some (ai_icmp (fun x y => y ≤ x) 39 19) := rfl
theorem at_32_19 : am_code 32 19 = some (ai_aload 0 20) := rfl
theorem at_32_20 : am_code 32 20 = some (ai_getP 1 0 23) := rfl
theorem at_32_23 : am_code 32 23 = some (ai_iload 1 24) := rfl
theorem at_32_24 : am_code 32 24 = some (ai_new 3 8 27) := rfl
theorem at_32_27 : am_code 32 27 = some (ai_dup 28) := rfl
theorem at_32_28 : am_code 32 28 = some (ai_iload 1 29) := rfl
theorem at_32_29 : am_code 32 29 = some (ai_callV 14 3 1 32) := rfl
theorem at_32_32 : am_code 32 32 = some (ai_aast 2 5 3 33) := rfl
theorem at_32_33 : am_code 32 33 = some (ai_iinc 1 1 36) := rfl
theorem at_32_36 : am_code 32 36 = some (ai_goto 14) := rfl
theorem at_32_39 : am_code 32 39 = some (ai_aload 0 40) := rfl
theorem at_32_40 : am_code 32 40 = some (ai_push 25 42) := rfl
theorem at_32_42 : am_code 32 42 = some (ai_newa 9 25 45) := rfl
theorem at_32_45 : am_code 32 45 = some (ai_putP 1 1 48) := rfl
theorem at_32_48 : am_code 32 48 = some (ai_push 0 49) := rfl
theorem at_32_49 : am_code 32 49 = some (ai_istore 1 50) := rfl
theorem at_32_50 : am_code 32 50 = some (ai_iload 1 51) := rfl
theorem at_32_51 : am_code 32 51 = some (ai_push 25 53) := rfl
theorem at_32_53 : am_code 32 53 = some (ai_icmp (fun x y => y ≤ x) 75 56) := rfl
theorem at_32_56 : am_code 32 56 = some (ai_aload 0 57) := rfl
theorem at_32_57 : am_code 32 57 = some (ai_getP 1 1 60) := rfl
theorem at_32_60 : am_code 32 60 = some (ai_iload 1 61) := rfl
theorem at_32_61 : am_code 32 61 = some (ai_new 10 3 64) := rfl
theorem at_32_64 : am_code 32 64 = some (ai_dup 65) := rfl
theorem at_32_65 : am_code 32 65 = some (ai_callV 23 10 0 68) := rfl
theorem at_32_68 : am_code 32 68 = some (ai_aast 9 25 10 69) := rfl
theorem at_32_69 : am_code 32 69 = some (ai_iinc 1 1 72) := rfl
theorem at_32_72 : am_code 32 72 = some (ai_goto 50) := rfl
theorem at_32_75 : am_code 32 75 = some (ai_aload 0 76) := rfl
theorem at_32_76 : am_code 32 76 = some (ai_new 13 2 79) := rfl
theorem at_32_79 : am_code 32 79 = some (ai_dup 80) := rfl
theorem at_32_80 : am_code 32 80 = some (ai_callV 26 13 0 83) := rfl
theorem at_32_83 : am_code 32 83 = some (ai_putP 1 2 86) := rfl
theorem at_32_86 : am_code 32 86 = some (ai_aload 0 87) := rfl
theorem at_32_87 : am_code 32 87 = some (ai_push 7 89) := rfl
theorem at_32_89 : am_code 32 89 = some (ai_newa 18 7 91) := rfl
theorem at_32_91 : am_code 32 91 = some (ai_putP 1 3 94) := rfl
theorem at_32_94 : am_code 32 94 = some (ai_aload 0 95) := rfl
theorem at_32_95 : am_code 32 95 = some (ai_push 0 96) := rfl
theorem at_32_96 : am_code 32 96 = some (ai_putI 1 4 99) := rfl
theorem at_32_99 : am_code 32 99 = some (ai_ret) := rfl
theorem at_33_0 : am_code 33 0 = some (ai_iload 1 1) := rfl
theorem at_33_1 : am_code 33 1 = some (ai_callS 48 1 4) := rfl
theorem at_33_4 : am_code 33 4 = some (ai_if (fun x => x = 0) 29 7) := rfl
theorem at_33_7 : am_code 33 7 = some (ai_iload 2 8) := rfl
theorem at_33_8 : am_code 33 8 = some (ai_callS 48 1 11) := rfl
theorem at_33_11 : am_code 33 11 = some (ai_if (fun x => x = 0) 29 14) := rfl
theorem at_33_14 : am_code 33 14 = some (ai_iload 1 15) := rfl
theorem at_33_15 : am_code 33 15 = some (ai_iload 2 16) := rfl
theorem at_33_16 : am_code 33 16 = some (ai_icmp (fun x y => x = y) 29 19) := rfl
theorem at_33_19 : am_code 33 19 = some (ai_iload 3 20) := rfl
theorem at_33_20 : am_code 33 20 = some (ai_if (fun x => x < 0) 29 23) := rfl
theorem at_33_23 : am_code 33 23 = some (ai_iload 3 24) := rfl
theorem at_33_24 : am_code 33 24 = some (ai_push 9 26) := rfl
theorem at_33_26 : am_code 33 26 = some (ai_icmp (fun x y => x ≤ y) 31 29) := rfl
theorem at_33_29 : am_code 33 29 = some (ai_push 0 30) := rfl
theorem at_33_30 : am_code 33 30 = some (ai_zret) := rfl
theorem at_33_31 : am_code 33 31 = some (ai_aload 0 32) := rfl
theorem at_33_32 : am_code 33 32 = some (ai_getP 1 0 35) := rfl
theorem at_33_35 : am_code 33 35 = some (ai_iload 1 36) := rfl
theorem at_33_36 : am_code 33 36 = some (ai_aald 2 5 37) := rfl
theorem at_33_37 : am_code 33 37 = some (ai_getP 3 7 40) := rfl
theorem at_33_40 : am_code 33 40 = some (ai_iload 2 41) := rfl
theorem at_33_41 : am_code 33 41 = some (ai_aald 6 5 42) := rfl
theorem at_33_42 : am_code 33 42 = some (ai_getI 7 0 45) := rfl
theorem at_33_45 : am_code 33 45 = some (ai_iload 3 46) := rfl
theorem at_33_46 : am_code 33 46 = some (ai_icmp (fun x y => ¬ x = y) 51 49) := rfl
theorem at_33_49 : am_code 33 49 = some (ai_push 0 50) := rfl
theorem at_33_50 : am_code 33 50 = some (ai_zret) := rfl
theorem at_33_51 : am_code 33 51 = some (ai_aload 0 52) := rfl
theorem at_33_52 : am_code 33 52 = some (ai_getP 1 0 55) := rfl
theorem at_33_55 : am_code 33 55 = some (ai_iload 1 56) := rfl
theorem at_33_56 : am_code 33 56 = some (ai_aald 2 5 57) := rfl
theorem at_33_57 : am_code 33 57 = some (ai_getP 3 7 60) := rfl
theorem at_33_60 : am_code 33 60 = some (ai_iload 2 61) := rfl
theorem at_33_61 : am_code 33 61 = some (ai_aald 6 5 62) := rfl
theorem at_33_62 : am_code 33 62 = some (ai_iload 3 63) := rfl
theorem at_33_63 : am_code 33 63 = some (ai_callV 8 7 1 66) := rfl
theorem at_33_66 : am_code 33 66 = some (ai_aload 0 67) := rfl
theorem at_33_67 : am_code 33 67 = some (ai_getP 1 0 70) := rfl
theorem at_33_70 : am_code 33 70 = some (ai_iload 2 71) := rfl
theorem at_33_71 : am_code 33 71 = some (ai_aald 2 5 72) := rfl
theorem at_33_72 : am_code 33 72 = some (ai_getP 3 7 75) := rfl
theorem at_33_75 : am_code 33 75 = some (ai_iload 1 76) := rfl
theorem at_33_76 : am_code 33 76 = some (ai_aald 6 5 77) := rfl
theorem at_33_77 : am_code 33 77 = some (ai_iload 3 78) := rfl
theorem at_33_78 : am_code 33 78 = some (ai_callV 8 7 1 81) := rfl
theorem at_33_81 : am_code 33 81 = some (ai_push 1 82) := rfl
theorem at_33_82 : am_code 33 82 = some (ai_zret) := rfl
theorem at_34_0 : am_code 34 0 = some (ai_iload 1 1) := rfl
theorem at_34_1 : am_code 34 1 = some (ai_callS 48 1 4) := rfl
theorem at_34_4 : am_code 34 4 = some (ai_if (fun x => x = 0) 25 7) := rfl
theorem at_34_7 : am_code 34 7 = some (ai_iload 2 8) := rfl
theorem at_34_8 : am_code 34 8 = some (ai_if (fun x => x < 0) 25 11) := rfl
theorem at_34_11 : am_code 34 11 = some (ai_iload 2 12) := rfl
theorem at_34_12 : am_code 34 12 = some (ai_push 2 13) := rfl
theorem at_34_13 : am_code 34 13 = some (ai_icmp (fun x y => y ≤ x) 25 16) := rfl
theorem at_34_16 : am_code 34 16 = some (ai_iload 3 17) := rfl
theorem at_34_17 : am_code 34 17 = some (ai_iload 4 19) := rfl
theorem at_34_19 : am_code 34 19 = some (ai_callS 50 2 22) := rfl
theorem at_34_22 : am_code 34 22 = some (ai_if (fun x => ¬ x = 0) 27 25) := rfl
theorem at_34_25 : am_code 34 25 = some (ai_push 0 26) := rfl
theorem at_34_26 : am_code 34 26 = some (ai_zret) := rfl
theorem at_34_27 : am_code 34 27 = some (ai_iload 5 29) := rfl
theorem at_34_29 : am_code 34 29 = some (ai_if (fun x => x < 0) 39 32) := rfl
theorem at_34_32 : am_code 34 32 = some (ai_iload 5 34) := rfl
theorem at_34_34 : am_code 34 34 = some (ai_push 9 36) := rfl
theorem at_34_36 : am_code 34 36 = some (ai_icmp (fun x y => x ≤ y) 41 39) := rfl
theorem at_34_39 : am_code 34 39 = some (ai_push 0 40) := rfl
theorem at_34_40 : am_code 34 40 = some (ai_zret) := rfl
theorem at_34_41 : am_code 34 41 = some (ai_aload 0 42) := rfl
theorem at_34_42 : am_code 34 42 = some (ai_getP 1 0 45) := rfl
theorem at_34_45 : am_code 34 45 = some (ai_iload 1 46) := rfl
theorem at_34_46 : am_code 34 46 = some (ai_aald 2 5 47) := rfl
theorem at_34_47 : am_code 34 47 = some (ai_getP 3 5 50) := rfl
theorem at_34_50 : am_code 34 50 = some (ai_iload 2 51) := rfl
theorem at_34_51 : am_code 34 51 = some (ai_iload 5 53) := rfl
theorem at_34_53 : am_code 34 53 = some (ai_if (fun x => ¬ x = 0) 60 56) := rfl
theorem at_34_56 : am_code 34 56 = some (ai_null 57) := rfl
theorem at_34_57 : am_code 34 57 = some (ai_goto 72) := rfl
theorem at_34_60 : am_code 34 60 = some (ai_new 22 3 63) := rfl
theorem at_34_63 : am_code 34 63 = some (ai_dup 64) := rfl
theorem at_34_64 : am_code 34 64 = some (ai_iload 3 65) := rfl
theorem at_34_65 : am_code 34 65 = some (ai_iload 4 67) := rfl
theorem at_34_67 : am_code 34 67 = some (ai_iload 5 69) := rfl
theorem at_34_69 : am_code 34 69 = some (ai_callV 1 22 3 72) := rfl
theorem at_34_72 : am_code 34 72 = some (ai_aast 4 2 22 73) := rfl
theorem at_34_73 : am_code 34 73 = some (ai_push 1 74) := rfl
theorem at_34_74 : am_code 34 74 = some (ai_zret) := rfl
theorem at_35_0 : am_code 35 0 = some (ai_iload 1 1) := rfl
theorem at_35_1 : am_code 35 1 = some (ai_callS 48 1 4) := rfl
theorem at_35_4 : am_code 35 4 = some (ai_if (fun x => x = 0) 20 7) := rfl
theorem at_35_7 : am_code 35 7 = some (ai_aload 0 8) := rfl
theorem at_35_8 : am_code 35 8 = some (ai_getP 1 0 11) := rfl
theorem at_35_11 : am_code 35 11 = some (ai_iload 1 12) := rfl
theorem at_35_12 : am_code 35 12 = some (ai_aald 2 5 13) := rfl
theorem at_35_13 : am_code 35 13 = some (ai_getI 3 1 16) := rfl
theorem at_35_16 : am_code 35 16 = some (ai_iload 2 17) := rfl
theorem at_35_17 : am_code 35 17 = some (ai_icmp (fun x y => ¬ x = y) 22 20) := rfl
theorem at_35_20 : am_code 35 20 = some (ai_push 0 21) := rfl
theorem at_35_21 : am_code 35 21 = some (ai_zret) := rfl
theorem at_35_22 : am_code 35 22 = some (ai_aload 0 23) := rfl
theorem at_35_23 : am_code 35 23 = some (ai_getP 1 0 26) := rfl
theorem at_35_26 : am_code 35 26 = some (ai_iload 1 27) := rfl
theorem at_35_27 : am_code 35 27 = some (ai_aald 2 5 28) := rfl
theorem at_35_28 : am_code 35 28 = some (ai_iload 2 29) := rfl
theorem at_35_29 : am_code 35 29 = some (ai_putZ 3 1 32) := rfl
theorem at_35_32 : am_code 35 32 = some (ai_iload 2 33) := rfl
theorem at_35_33 : am_code 35 33 = some (ai_if (fun x => ¬ x = 0) 45 36) := rfl
theorem at_35_36 : am_code 35 36 = some (ai_aload 0 37) := rfl
theorem at_35_37 : am_code 35 37 = some (ai_getP 1 0 40) := rfl
theorem at_35_40 : am_code 35 40 = some (ai_iload 1 41) := rfl
theorem at_35_41 : am_code 35 41 = some (ai_aald 2 5 42) := rfl
theorem at_35_42 : am_code 35 42 = some (ai_callV 15 3 0 45) := rfl
theorem at_35_45 : am_code 35 45 = some (ai_push 1 46) := rfl
theorem at_35_46 : am_code 35 46 = some (ai_zret) := rfl
theorem at_36_0 : am_code 36 0 = some (ai_aload 0 1) := rfl
theorem at_36_1 : am_code 36 1 = some (ai_iload 1 2) := rfl
theorem at_36_2 : am_code 36 2 = some (ai_iload 2 3) := rfl
theorem at_36_3 : am_code 36 3 = some (ai_callV 52 1 2 6) := rfl
theorem at_36_6 : am_code 36 6 = some (ai_if (fun x => x = 0) 19 9) := rfl
theorem at_36_9 : am_code 36 9 = some (ai_iload 3 10) := rfl
theorem at_36_10 : am_code 36 10 = some (ai_if (fun x => x < 0) 19 13) := rfl
theorem at_36_13 : am_code 36 13 = some (ai_iload 3 14) := rfl
theorem at_36_14 : am_code 36 14 = some (ai_push 9 16) := rfl
theorem at_36_16 : am_code 36 16 = some (ai_icmp (fun x y => x ≤ y) 21 19) := rfl
theorem at_36_19 : am_code 36 19 = some (ai_push 0 20) := rfl
theorem at_36_20 : am_code 36 20 = some (ai_zret) := rfl
theorem at_36_21 : am_code 36 21 = some (ai_aload 0 22) := rfl
theorem at_36_22 : am_code 36 22 = some (ai_getP 1 0 25) := rfl
theorem at_36_25 : am_code 36 25 = some (ai_iload 1 26) := rfl
theorem at_36_26 : am_code 36 26 = some (ai_aald 2 5 27) := rfl
theorem at_36_27 : am_code 36 27 = some (ai_getP 3 7 30) := rfl
theorem at_36_30 : am_code 36 30 = some (ai_iload 2 31) := rfl
theorem at_36_31 : am_code 36 31 = some (ai_aald 6 5 32) := rfl
theorem at_36_32 : am_code 36 32 = some (ai_iload 3 33) := rfl
theorem at_36_33 : am_code 36 33 = some (ai_putI 7 1 36) := rfl
theorem at_36_36 : am_code 36 36 = some (ai_push 1 37) := rfl
theorem at_36_37 : am_code 36 37 = some (ai_zret) := rfl
theorem at_37_0 : am_code 37 0 = some (ai_iload 1 1) := rfl
theorem at_37_1 : am_code 37 1 = some (ai_push 1 2) := rfl
theorem at_37_2 : am_code 37 2 = some (ai_icmp (fun x y => x < y) 10 5) := rfl
theorem at_37_5 : am_code 37 5 = some (ai_iload 1 6) := rfl
theorem at_37_6 : am_code 37 6 = some (ai_push 4 7) := rfl
theorem at_37_7 : am_code 37 7 = some (ai_icmp (fun x y => x ≤ y) 12 10) := rfl
theorem at_37_10 : am_code 37 10 = some (ai_push 0 11) := rfl
theorem at_37_11 : am_code 37 11 = some (ai_zret) := rfl
theorem at_37_12 : am_code 37 12 = some (ai_push 0 13) := rfl
theorem at_37_13 : am_code 37 13 = some (ai_istore 2 14) := rfl
theorem at_37_14 : am_code 37 14 = some (ai_iload 2 15) := rfl
theorem at_37_15 : am_code 37 15 = some (ai_iload 1 16) := rfl
theorem at_37_16 : am_code 37 16 = some (ai_icmp (fun x y => y ≤ x) 29 19) := rfl
theorem at_37_19 : am_code 37 19 = some (ai_aload 0 20) := rfl
theorem at_37_20 : am_code 37 20 = some (ai_callV 53 1 0 23) := rfl
theorem at_37_23 : am_code 37 23 = some (ai_iinc 2 1 26) := rfl
theorem at_37_26 : am_code 37 26 = some (ai_goto 14) := rfl
theorem at_37_29 : am_code 37 29 = some (ai_push 1 30) := rfl
theorem at_37_30 : am_code 37 30 = some (ai_zret) := rfl
theorem at_38_0 : am_code 38 0 = some (ai_aload 0 1) := rfl
theorem at_38_1 : am_code 38 1 = some (ai_iload 1 2) := rfl
theorem at_38_2 : am_code 38 2 = some (ai_iload 2 3) := rfl
theorem at_38_3 : am_code 38 3 = some (ai_callV 52 1 2 6) := rfl
theorem at_38_6 : am_code 38 6 = some (ai_if (fun x => ¬ x = 0) 11 9) := rfl
theorem at_38_9 : am_code 38 9 = some (ai_push (-1) 10) := rfl
theorem at_38_10 : am_code 38 10 = some (ai_iret) := rfl
theorem at_38_11 : am_code 38 11 = some (ai_aload 0 12) := rfl
theorem at_38_12 : am_code 38 12 = some (ai_getP 1 0 15) := rfl
theorem at_38_15 : am_code 38 15 = some (ai_iload 1 16) := rfl
theorem at_38_16 : am_code 38 16 = some (ai_aald 2 5 17) := rfl
theorem at_38_17 : am_code 38 17 = some (ai_getP 3 7 20) := rfl
theorem at_38_20 : am_code 38 20 = some (ai_iload 2 21) := rfl
theorem at_38_21 : am_code 38 21 = some (ai_aald 6 5 22) := rfl
theorem at_38_22 : am_code 38 22 = some (ai_astore 3 23) := rfl
theorem at_38_23 : am_code 38 23 = some (ai_aload 3 24) := rfl
theorem at_38_24 : am_code 38 24 = some (ai_getI 7 6 27) := rfl
theorem at_38_27 : am_code 38 27 = some (ai_if (fun x => x = 0) 32 30) := rfl
theorem at_38_30 : am_code 38 30 = some (ai_push 2 31) := rfl
theorem at_38_31 : am_code 38 31 = some (ai_iret) := rfl
theorem at_38_32 : am_code 38 32 = some (ai_aload 3 33) := rfl
theorem at_38_33 : am_code 38 33 = some (ai_getI 7 2 36) := rfl
theorem at_38_36 : am_code 38 36 = some (ai_if (fun x => x = 0) 43 39) := rfl
theorem at_38_39 : am_code 38 39 = some (ai_push 1 40) := rfl
theorem at_38_40 : am_code 38 40 = some (ai_goto 44) := rfl
theorem at_38_43 : am_code 38 43 = some (ai_push 0 44) := rfl
theorem at_38_44 : am_code 38 44 = some (ai_iret) := rfl
theorem at_39_0 : am_code 39 0 = some (ai_iload 1 1) := rfl
theorem at_39_1 : am_code 39 1 = some (ai_callS 48 1 4) := rfl
theorem at_39_4 : am_code 39 4 = some (ai_if (fun x => x = 0) 14 7) := rfl
theorem at_39_7 : am_code 39 7 = some (ai_iload 2 8) := rfl
theorem at_39_8 : am_code 39 8 = some (ai_callS 48 1 11) := rfl
theorem at_39_11 : am_code 39 11 = some (ai_if (fun x => ¬ x = 0) 16 14) := rfl
theorem at_39_14 : am_code 39 14 = some (ai_push (-1) 15) := rfl
theorem at_39_15 : am_code 39 15 = some (ai_iret) := rfl
theorem at_39_16 : am_code 39 16 = some (ai_aload 0 17) := rfl
theorem at_39_17 : am_code 39 17 = some (ai_getP 1 0 20) := rfl
theorem at_39_20 : am_code 39 20 = some (ai_iload 1 21) := rfl
theorem at_39_21 : am_code 39 21 = some (ai_aald 2 5 22) := rfl
theorem at_39_22 : am_code 39 22 = some (ai_getP 3 6 25) := rfl
theorem at_39_25 : am_code 39 25 = some (ai_iload 2 26) := rfl
theorem at_39_26 : am_code 39 26 = some (ai_aald 5 5 27) := rfl
theorem at_39_27 : am_code 39 27 = some (ai_astore 3 28) := rfl
theorem at_39_28 : am_code 39 28 = some (ai_aload 3 29) := rfl
theorem at_39_29 : am_code 39 29 = some (ai_ifnonnull 36 32) := rfl
theorem at_39_32 : am_code 39 32 = some (ai_push 0 33) := rfl
theorem at_39_33 : am_code 39 33 = some (ai_goto 40) := rfl
theorem at_39_36 : am_code 39 36 = some (ai_aload 3 37) := rfl
theorem at_39_37 : am_code 39 37 = some (ai_getI 19 1 40) := rfl
theorem at_39_40 : am_code 39 40 = some (ai_iret) := rfl
theorem at_40_0 : am_code 40 0 = some (ai_iload 1 1) := rfl
theorem at_40_1 : am_code 40 1 = some (ai_callS 48 1 4) := rfl
theorem at_40_4 : am_code 40 4 = some (ai_if (fun x => x = 0) 14 7) := rfl
theorem at_40_7 : am_code 40 7 = some (ai_iload 2 8) := rfl
theorem at_40_8 : am_code 40 8 = some (ai_callS 48 1 11) := rfl
theorem at_40_11 : am_code 40 11 = some (ai_if (fun x => ¬ x = 0) 16 14) := rfl
theorem at_40_14 : am_code 40 14 = some (ai_push (-1) 15) := rfl
theorem at_40_15 : am_code 40 15 = some (ai_iret) := rfl
theorem at_40_16 : am_code 40 16 = some (ai_aload 0 17) := rfl
theorem at_40_17 : am_code 40 17 = some (ai_getP 1 0 20) := rfl
theorem at_40_20 : am_code 40 20 = some (ai_iload 1 21) := rfl
theorem at_40_21 : am_code 40 21 = some (ai_aald 2 5 22) := rfl
theorem at_40_22 : am_code 40 22 = some (ai_getP 3 6 25) := rfl
theorem at_40_25 : am_code 40 25 = some (ai_iload 2 26) := rfl
theorem at_40_26 : am_code 40 26 = some (ai_aald 5 5 27) := rfl
theorem at_40_27 : am_code 40 27 = some (ai_astore 3 28) := rfl
theorem at_40_28 : am_code 40 28 = some (ai_aload 3 29) := rfl
theorem at_40_29 : am_code 40 29 = some (ai_ifnonnull 36 32) := rfl
theorem at_40_32 : am_code 40 32 = some (ai_push (-1) 33) := rfl
theorem at_40_33 : am_code 40 33 = some (ai_goto 45) := rfl
theorem at_40_36 : am_code 40 36 = some (ai_aload 0 37) := rfl
theorem at_40_37 : am_code 40 37 = some (ai_getI 1 4 40) := rfl
theorem at_40_40 : am_code 40 40 = some (ai_aload 3 41) := rfl
theorem at_40_41 : am_code 40 41 = some (ai_getI 19 2 44) := rfl
theorem at_40_44 : am_code 40 44 = some (ai_bin (fun x y => x - y) 45) := rfl
theorem at_40_45 : am_code 40 45 = some (ai_iret) := rfl
theorem at_41_0 : am_code 41 0 = some (ai_iload 1 1) := rfl
theorem at_41_1 : am_code 41 1 = some (ai_callS 48 1 4) := rfl
theorem at_41_4 : am_code 41 4 = some (ai_if (fun x => x = 0) 21 7) := rfl
theorem at_41_7 : am_code 41 7 = some (ai_iload 2 8) := rfl
theorem at_41_8 : am_code 41 8 = some (ai_callS 48 1 11) := rfl
theorem at_41_11 : am_code 41 11 = some (ai_if (fun x => x = 0) 21 14) := rfl
theorem at_41_14 : am_code 41 14 = some (ai_iload 3 15) := rfl
theorem at_41_15 : am_code 41 15 = some (ai_callS 48 1 18) := rfl
theorem at_41_18 : am_code 41 18 = some (ai_if (fun x => ¬ x = 0) 23 21) := rfl
theorem at_41_21 : am_code 41 21 = some (ai_push (-1) 22) := rfl
theorem at_41_22 : am_code 41 22 = some (ai_iret) := rfl
theorem at_41_23 : am_code 41 23 = some (ai_aload 0 24) := rfl
theorem at_41_24 : am_code 41 24 = some (ai_getP 1 0 27) := rfl
theorem at_41_27 : am_code 41 27 = some (ai_iload 1 28) := rfl
theorem at_41_28 : am_code 41 28 = some (ai_aald 2 5 29) := rfl
theorem at_41_29 : am_code 41 29 = some (ai_getP 3 6 32) := rfl
theorem at_41_32 : am_code 41 32 = some (ai_iload 2 33) := rfl
theorem at_41_33 : am_code 41 33 = some (ai_aald 5 5 34) := rfl
theorem at_41_34 : am_code 41 34 = some (ai_astore 4 36) := rfl
theorem at_41_36 : am_code 41 36 = some (ai_aload 4 38) := rfl
theorem at_41_38 : am_code 41 38 = some (ai_ifnonnull 45 41) := rfl
theorem at_41_41 : am_code 41 41 = some (ai_push (-1) 42) := rfl
theorem at_41_42 : am_code 41 42 = some (ai_goto 52) := rfl
theorem at_41_45 : am_code 41 45 = some (ai_aload 4 47) := rfl
theorem at_41_47 : am_code 41 47 = some (ai_getP 19 3 50) := rfl
theorem at_41_50 : am_code 41 50 = some (ai_iload 3 51) := rfl
theorem at_41_51 : am_code 41 51 = some (ai_ald 20 5 52) := rfl
theorem at_41_52 : am_code 41 52 = some (ai_iret) := rfl
theorem at_42_0 : am_code 42 0 = some (ai_aload 0 1) := rfl
theorem at_42_1 : am_code 42 1 = some (ai_iload 1 2) := rfl
theorem at_42_2 : am_code 42 2 = some (ai_iload 2 3) := rfl
theorem at_42_3 : am_code 42 3 = some (ai_callV 52 1 2 6) := rfl
theorem at_42_6 : am_code 42 6 = some (ai_if (fun x => ¬ x = 0) 11 9) := rfl
theorem at_42_9 : am_code 42 9 = some (ai_push (-1) 10) := rfl
theorem at_42_10 : am_code 42 10 = some (ai_iret) := rfl
theorem at_42_11 : am_code 42 11 = some (ai_aload 0 12) := rfl
theorem at_42_12 : am_code 42 12 = some (ai_getP 1 0 15) := rfl
theorem at_42_15 : am_code 42 15 = some (ai_iload 1 16) := rfl
theorem at_42_16 : am_code 42 16 = some (ai_aald 2 5 17) := rfl
theorem at_42_17 : am_code 42 17 = some (ai_getP 3 7 20) := rfl
theorem at_42_20 : am_code 42 20 = some (ai_iload 2 21) := rfl
theorem at_42_21 : am_code 42 21 = some (ai_aald 6 5 22) := rfl
theorem at_42_22 : am_code 42 22 = some (ai_astore 3 23) := rfl
theorem at_42_23 : am_code 42 23 = some (ai_push 0 24) := rfl
theorem at_42_24 : am_code 42 24 = some (ai_istore 4 26) := rfl
theorem at_42_26 : am_code 42 26 = some (ai_push 0 27) := rfl
theorem at_42_27 : am_code 42 27 = some (ai_istore 5 29) := rfl
theorem at_42_29 : am_code 42 29 = some (ai_iload 5 31) := rfl
theorem at_42_31 : am_code 42 31 = some (ai_push 5 32) := rfl
theorem at_42_32 : am_code 42 32 = some (ai_icmp (fun x y => y ≤ x) 56 35) := rfl
theorem at_42_35 : am_code 42 35 = some (ai_aload 3 36) := rfl
theorem at_42_36 : am_code 42 36 = some (ai_getP 7 8 39) := rfl
theorem at_42_39 : am_code 42 39 = some (ai_iload 5 41) := rfl
theorem at_42_41 : am_code 42 41 = some (ai_ald 8 5 42) := rfl
theorem at_42_42 : am_code 42 42 = some (ai_push (-2) 44) := rfl
theorem at_42_44 : am_code 42 44 = some (ai_icmp (fun x y => x = y) 50 47) := rfl
theorem at_42_47 : am_code 42 47 = some (ai_iinc 4 1 50) := rfl
theorem at_42_50 : am_code 42 50 = some (ai_iinc 5 1 53) := rfl
theorem at_42_53 : am_code 42 53 = some (ai_goto 29) := rfl
theorem at_42_56 : am_code 42 56 = some (ai_iload 4 58) := rfl
theorem at_42_58 : am_code 42 58 = some (ai_iret) := rfl
theorem at_43_0 : am_code 43 0 = some (ai_aload 0 1) := rfl
theorem at_43_1 : am_code 43 1 = some (ai_iload 1 2) := rfl
theorem at_43_2 : am_code 43 2 = some (ai_callV 51 1 1 5) := rfl
theorem at_43_5 : am_code 43 5 = some (ai_if (fun x => x = 0) 15 8) := rfl
theorem at_43_8 : am_code 43 8 = some (ai_iload 2 9) := rfl
theorem at_43_9 : am_code 43 9 = some (ai_callS 48 1 12) := rfl
theorem at_43_12 : am_code 43 12 = some (ai_if (fun x => ¬ x = 0) 17 15) := rfl
theorem at_43_15 : am_code 43 15 = some (ai_push (-1) 16) := rfl
theorem at_43_16 : am_code 43 16 = some (ai_iret) := rfl
theorem at_43_17 : am_code 43 17 = some (ai_aload 0 18) := rfl
theorem at_43_18 : am_code 43 18 = some (ai_getP 1 2 21) := rfl
theorem at_43_21 : am_code 43 21 = some (ai_aload 0 22) := rfl
theorem at_43_22 : am_code 43 22 = some (ai_getP 1 0 25) := rfl
theorem at_43_25 : am_code 43 25 = some (ai_iload 1 26) := rfl
theorem at_43_26 : am_code 43 26 = some (ai_aald 2 5 27) := rfl
theorem at_43_27 : am_code 43 27 = some (ai_getP 3 6 30) := rfl
theorem at_43_30 : am_code 43 30 = some (ai_callV 27 13 1 33) := rfl
theorem at_43_33 : am_code 43 33 = some (ai_aload 0 34) := rfl
theorem at_43_34 : am_code 43 34 = some (ai_getP 1 2 37) := rfl
theorem at_43_37 : am_code 43 37 = some (ai_getP 13 1 40) := rfl
theorem at_43_40 : am_code 43 40 = some (ai_iload 1 41) := rfl
theorem at_43_41 : am_code 43 41 = some (ai_aald 16 5 42) := rfl
theorem at_43_42 : am_code 43 42 = some (ai_iload 2 43) := rfl
theorem at_43_43 : am_code 43 43 = some (ai_ald 17 5 44) := rfl
theorem at_43_44 : am_code 43 44 = some (ai_push 1000 47) := rfl
theorem at_43_47 : am_code 43 47 = some (ai_icmp (fun x y => ¬ x = y) 54 50) := rfl
theorem at_43_50 : am_code 43 50 = some (ai_push (-1) 51) := rfl
theorem at_43_51 : am_code 43 51 = some (ai_goto 65) := rfl
theorem at_43_54 : am_code 43 54 = some (ai_aload 0 55) := rfl
theorem at_43_55 : am_code 43 55 = some (ai_getP 1 2 58) := rfl
theorem at_43_58 : am_code 43 58 = some (ai_getP 13 1 61) := rfl
theorem at_43_61 : am_code 43 61 = some (ai_iload 1 62) := rfl
theorem at_43_62 : am_code 43 62 = some (ai_aald 16 5 63) := rfl
theorem at_43_63 : am_code 43 63 = some (ai_iload 2 64) := rfl
theorem at_43_64 : am_code 43 64 = some (ai_ald 17 5 65) := rfl
theorem at_43_65 : am_code 43 65 = some (ai_iret) := rfl
theorem at_44_0 : am_code 44 0 = some (ai_aload 0 1) := rfl
theorem at_44_1 : am_code 44 1 = some (ai_iload 1 2) := rfl
theorem at_44_2 : am_code 44 2 = some (ai_callV 51 1 1 5) := rfl
theorem at_44_5 : am_code 44 5 = some (ai_if (fun x => x = 0) 15 8) := rfl
theorem at_44_8 : am_code 44 8 = some (ai_iload 2 9) := rfl
theorem at_44_9 : am_code 44 9 = some (ai_callS 48 1 12) := rfl
theorem at_44_12 : am_code 44 12 = some (ai_if (fun x => ¬ x = 0) 17 15) := rfl
theorem at_44_15 : am_code 44 15 = some (ai_push (-1) 16) := rfl
theorem at_44_16 : am_code 44 16 = some (ai_iret) := rfl
theorem at_44_17 : am_code 44 17 = some (ai_aload 0 18) := rfl
theorem at_44_18 : am_code 44 18 = some (ai_getP 1 2 21) := rfl
theorem at_44_21 : am_code 44 21 = some (ai_aload 0 22) := rfl
theorem at_44_22 : am_code 44 22 = some (ai_getP 1 0 25) := rfl
theorem at_44_25 : am_code 44 25 = some (ai_iload 1 26) := rfl
theorem at_44_26 : am_code 44 26 = some (ai_aald 2 5 27) := rfl
theorem at_44_27 : am_code 44 27 = some (ai_getP 3 6 30) := rfl
theorem at_44_30 : am_code 44 30 = some (ai_callV 27 13 1 33) := rfl
theorem at_44_33 : am_code 44 33 = some (ai_aload 0 34) := rfl
theorem at_44_34 : am_code 44 34 = some (ai_getP 1 2 37) := rfl
theorem at_44_37 : am_code 44 37 = some (ai_iload 1 38) := rfl
theorem at_44_38 : am_code 44 38 = some (ai_iload 2 39) := rfl
theorem at_44_39 : am_code 44 39 = some (ai_callV 30 13 2 42) := rfl
theorem at_44_42 : am_code 44 42 = some (ai_iret) := rfl
theorem at_45_0 : am_code 45 0 = some (ai_aload 0 1) := rfl
theorem at_45_1 : am_code 45 1 = some (ai_iload 1 2) := rfl
theorem at_45_2 : am_code 45 2 = some (ai_callV 51 1 1 5) := rfl
theorem at_45_5 : am_code 45 5 = some (ai_if (fun x => x = 0) 15 8) := rfl
theorem at_45_8 : am_code 45 8 = some (ai_iload 2 9) := rfl
theorem at_45_9 : am_code 45 9 = some (ai_callS 49 1 12) := rfl
theorem at_45_12 : am_code 45 12 = some (ai_if (fun x => ¬ x = 0) 17 15) := rfl
theorem at_45_15 : am_code 45 15 = some (ai_push (-1) 16) := rfl
theorem at_45_16 : am_code 45 16 = some (ai_iret) := rfl
theorem at_45_17 : am_code 45 17 = some (ai_aload 0 18) := rfl
theorem at_45_18 : am_code 45 18 = some (ai_getP 1 2 21) := rfl
theorem at_45_21 : am_code 45 21 = some (ai_aload 0 22) := rfl
theorem at_45_22 : am_code 45 22 = some (ai_getP 1 0 25) := rfl
theorem at_45_25 : am_code 45 25 = some (ai_iload 1 26) := rfl
theorem at_45_26 : am_code 45 26 = some (ai_aald 2 5 27) := rfl
theorem at_45_27 : am_code 45 27 = some (ai_getP 3 6 30) := rfl
theorem at_45_30 : am_code 45 30 = some (ai_callV 27 13 1 33) := rfl
theorem at_45_33 : am_code 45 33 = some (ai_aload 0 34) := rfl
theorem at_45_34 : am_code 45 34 = some (ai_getP 1 2 37) := rfl
theorem at_45_37 : am_code 45 37 = some (ai_iload 1 38) := rfl
theorem at_45_38 : am_code 45 38 = some (ai_iload 2 39) := rfl
theorem at_45_39 : am_code 45 39 = some (ai_aload 0 40) := rfl
theorem at_45_40 : am_code 45 40 = some (ai_getP 1 0 43) := rfl
theorem at_45_43 : am_code 45 43 = some (ai_iload 1 44) := rfl
theorem at_45_44 : am_code 45 44 = some (ai_aald 2 5 45) := rfl
theorem at_45_45 : am_code 45 45 = some (ai_getP 3 6 48) := rfl
theorem at_45_48 : am_code 45 48 = some (ai_callV 31 13 3 51) := rfl
theorem at_45_51 : am_code 45 51 = some (ai_iret) := rfl
theorem at_46_0 : am_code 46 0 = some (ai_aload 0 1) := rfl
theorem at_46_1 : am_code 46 1 = some (ai_iload 1 2) := rfl
theorem at_46_2 : am_code 46 2 = some (ai_callV 51 1 1 5) := rfl
theorem at_46_5 : am_code 46 5 = some (ai_if (fun x => x = 0) 26 8) := rfl
theorem at_46_8 : am_code 46 8 = some (ai_iload 2 9) := rfl
theorem at_46_9 : am_code 46 9 = some (ai_callS 49 1 12) := rfl
theorem at_46_12 : am_code 46 12 = some (ai_if (fun x => x = 0) 26 15) := rfl
theorem at_46_15 : am_code 46 15 = some (ai_iload 3 16) := rfl
theorem at_46_16 : am_code 46 16 = some (ai_push 1 17) := rfl
theorem at_46_17 : am_code 46 17 = some (ai_icmp (fun x y => x < y) 26 20) := rfl
theorem at_46_20 : am_code 46 20 = some (ai_iload 3 21) := rfl
theorem at_46_21 : am_code 46 21 = some (ai_push 15 23) := rfl
theorem at_46_23 : am_code 46 23 = some (ai_icmp (fun x y => x ≤ y) 28 26) := rfl
theorem at_46_26 : am_code 46 26 = some (ai_push (-1) 27) := rfl
theorem at_46_27 : am_code 46 27 = some (ai_iret) := rfl
theorem at_46_28 : am_code 46 28 = some (ai_iload 1 29) := rfl
theorem at_46_29 : am_code 46 29 = some (ai_istore 4 31) := rfl
theorem at_46_31 : am_code 46 31 = some (ai_iload 3 32) := rfl
theorem at_46_32 : am_code 46 32 = some (ai_istore 5 34) := rfl
theorem at_46_34 : am_code 46 34 = some (ai_iload 5 36) := rfl
theorem at_46_36 : am_code 46 36 = some (ai_push 1 37) := rfl
theorem at_46_37 : am_code 46 37 = some (ai_icmp (fun x y => x < y) 161 40) := rfl
theorem at_46_40 : am_code 46 40 = some (ai_aload 0 41) := rfl
theorem at_46_41 : am_code 46 41 = some (ai_getP 1 2 44) := rfl
theorem at_46_44 : am_code 46 44 = some (ai_aload 0 45) := rfl
theorem at_46_45 : am_code 46 45 = some (ai_getP 1 0 48) := rfl
theorem at_46_48 : am_code 46 48 = some (ai_iload 4 50) := rfl
theorem at_46_50 : am_code 46 50 = some (ai_aald 2 5 51) := rfl
theorem at_46_51 : am_code 46 51 = some (ai_getP 3 6 54) := rfl
theorem at_46_54 : am_code 46 54 = some (ai_callV 27 13 1 57) := rfl
theorem at_46_57 : am_code 46 57 = some (ai_aload 0 58) := rfl
theorem at_46_58 : am_code 46 58 = some (ai_getP 1 2 61) := rfl
theorem at_46_61 : am_code 46 61 = some (ai_iload 4 63) := rfl
theorem at_46_63 : am_code 46 63 = some (ai_iload 2 64) := rfl
theorem at_46_64 : am_code 46 64 = some (ai_aload 0 65) := rfl
theorem at_46_65 : am_code 46 65 = some (ai_getP 1 0 68) := rfl
theorem at_46_68 : am_code 46 68 = some (ai_iload 4 70) := rfl
theorem at_46_70 : am_code 46 70 = some (ai_aald 2 5 71) := rfl
theorem at_46_71 : am_code 46 71 = some (ai_getP 3 6 74) := rfl
theorem at_46_74 : am_code 46 74 = some (ai_callV 31 13 3 77) := rfl
theorem at_46_77 : am_code 46 77 = some (ai_istore 6 79) := rfl
theorem at_46_79 : am_code 46 79 = some (ai_iload 6 81) := rfl
theorem at_46_81 : am_code 46 81 = some (ai_push (-1) 82) := rfl
theorem at_46_82 : am_code 46 82 = some (ai_icmp (fun x y => ¬ x = y) 92 85) := rfl
theorem at_46_85 : am_code 46 85 = some (ai_push 300 88) := rfl
theorem at_46_88 : am_code 46 88 = some (ai_iload 4 90) := rfl
theorem at_46_90 : am_code 46 90 = some (ai_bin (fun x y => x + y) 91) := rfl
theorem at_46_91 : am_code 46 91 = some (ai_iret) := rfl
theorem at_46_92 : am_code 46 92 = some (ai_iload 6 94) := rfl
theorem at_46_94 : am_code 46 94 = some (ai_iload 4 96) := rfl
theorem at_46_96 : am_code 46 96 = some (ai_icmp (fun x y => ¬ x = y) 105 99) := rfl
theorem at_46_99 : am_code 46 99 = some (ai_push 100 101) := rfl
theorem at_46_101 : am_code 46 101 = some (ai_iload 4 103) := rfl
theorem at_46_103 : am_code 46 103 = some (ai_bin (fun x y => x + y) 104) := rfl
theorem at_46_104 : am_code 46 104 = some (ai_iret) := rfl
theorem at_46_105 : am_code 46 105 = some (ai_iload 5 107) := rfl
theorem at_46_107 : am_code 46 107 = some (ai_push 1 108) := rfl
theorem at_46_108 : am_code 46 108 = some (ai_icmp (fun x y => x ≤ y) 155 111) := rfl
theorem at_46_111 : am_code 46 111 = some (ai_aload 0 112) := rfl
theorem at_46_112 : am_code 46 112 = some (ai_getP 1 2 115) := rfl
theorem at_46_115 : am_code 46 115 = some (ai_iload 4 117) := rfl
theorem at_46_117 : am_code 46 117 = some (ai_iload 6 119) := rfl
theorem at_46_119 : am_code 46 119 = some (ai_callV 30 13 2 122) := rfl
theorem at_46_122 : am_code 46 122 = some (ai_istore 7 124) := rfl
theorem at_46_124 : am_code 46 124 = some (ai_aload 0 125) := rfl
theorem at_46_125 : am_code 46 125 = some (ai_iload 4 127) := rfl
theorem at_46_127 : am_code 46 127 = some (ai_iload 7 129) := rfl
theorem at_46_129 : am_code 46 129 = some (ai_callV 52 1 2 132) := rfl
theorem at_46_132 : am_code 46 132 = some (ai_if (fun x => x = 0) 144 135) := rfl
theorem at_46_135 : am_code 46 135 = some (ai_aload 0 136) := rfl
theorem at_46_136 : am_code 46 136 = some (ai_iload 7 138) := rfl
theorem at_46_138 : am_code 46 138 = some (ai_callV 51 1 1 141) := rfl
theorem at_46_141 : am_code 46 141 = some (ai_if (fun x => ¬ x = 0) 151 144) := rfl
theorem at_46_144 : am_code 46 144 = some (ai_push 400 147) := rfl
theorem at_46_147 : am_code 46 147 = some (ai_iload 4 149) := rfl
theorem at_46_149 : am_code 46 149 = some (ai_bin (fun x y => x + y) 150) := rfl
theorem at_46_150 : am_code 46 150 = some (ai_iret) := rfl
theorem at_46_151 : am_code 46 151 = some (ai_iload 7 153) := rfl
theorem at_46_153 : am_code 46 153 = some (ai_istore 4 155) := rfl
theorem at_46_155 : am_code 46 155 = some (ai_iinc 5 (-1) 158) := rfl
theorem at_46_158 : am_code 46 158 = some (ai_goto 34) := rfl
theorem at_46_161 : am_code 46 161 = some (ai_push 200 164) := rfl
theorem at_46_164 : am_code 46 164 = some (ai_iload 4 166) := rfl
theorem at_46_166 : am_code 46 166 = some (ai_bin (fun x y => x + y) 167) := rfl
theorem at_46_167 : am_code 46 167 = some (ai_iret) := rfl
theorem at_47_0 : am_code 47 0 = some (ai_iload 1 1) := rfl
theorem at_47_1 : am_code 47 1 = some (ai_if (fun x => x < 0) 10 4) := rfl
theorem at_47_4 : am_code 47 4 = some (ai_iload 1 5) := rfl
theorem at_47_5 : am_code 47 5 = some (ai_push 7 7) := rfl
theorem at_47_7 : am_code 47 7 = some (ai_icmp (fun x y => x < y) 14 10) := rfl
theorem at_47_10 : am_code 47 10 = some (ai_push (-1) 11) := rfl
theorem at_47_11 : am_code 47 11 = some (ai_goto 20) := rfl
theorem at_47_14 : am_code 47 14 = some (ai_aload 0 15) := rfl
theorem at_47_15 : am_code 47 15 = some (ai_getP 1 3 18) := rfl
theorem at_47_18 : am_code 47 18 = some (ai_iload 1 19) := rfl
theorem at_47_19 : am_code 47 19 = some (ai_ald 18 7 20) := rfl
theorem at_47_20 : am_code 47 20 = some (ai_iret) := rfl
theorem at_48_0 : am_code 48 0 = some (ai_iload 0 1) := rfl
theorem at_48_1 : am_code 48 1 = some (ai_if (fun x => x < 0) 13 4) := rfl
theorem at_48_4 : am_code 48 4 = some (ai_iload 0 5) := rfl
theorem at_48_5 : am_code 48 5 = some (ai_push 5 6) := rfl
theorem at_48_6 : am_code 48 6 = some (ai_icmp (fun x y => y ≤ x) 13 9) := rfl
theorem at_48_9 : am_code 48 9 = some (ai_push 1 10) := rfl
theorem at_48_10 : am_code 48 10 = some (ai_goto 14) := rfl
theorem at_48_13 : am_code 48 13 = some (ai_push 0 14) := rfl
theorem at_48_14 : am_code 48 14 = some (ai_zret) := rfl
theorem at_49_0 : am_code 49 0 = some (ai_iload 0 1) := rfl
theorem at_49_1 : am_code 49 1 = some (ai_if (fun x => x < 0) 15 4) := rfl
theorem at_49_4 : am_code 49 4 = some (ai_iload 0 5) := rfl
theorem at_49_5 : am_code 49 5 = some (ai_push 255 8) := rfl
theorem at_49_8 : am_code 49 8 = some (ai_icmp (fun x y => y < x) 15 11) := rfl
theorem at_49_11 : am_code 49 11 = some (ai_push 1 12) := rfl
theorem at_49_12 : am_code 49 12 = some (ai_goto 16) := rfl
theorem at_49_15 : am_code 49 15 = some (ai_push 0 16) := rfl
theorem at_49_16 : am_code 49 16 = some (ai_zret) := rfl
theorem at_50_0 : am_code 50 0 = some (ai_iload 0 1) := rfl
theorem at_50_1 : am_code 50 1 = some (ai_callS 49 1 4) := rfl
theorem at_50_4 : am_code 50 4 = some (ai_if (fun x => x = 0) 17 7) := rfl
theorem at_50_7 : am_code 50 7 = some (ai_iload 1 8) := rfl
theorem at_50_8 : am_code 50 8 = some (ai_if (fun x => x < 0) 17 11) := rfl
theorem at_50_11 : am_code 50 11 = some (ai_iload 1 12) := rfl
theorem at_50_12 : am_code 50 12 = some (ai_push 8 14) := rfl
theorem at_50_14 : am_code 50 14 = some (ai_icmp (fun x y => x ≤ y) 19 17) := rfl
theorem at_50_17 : am_code 50 17 = some (ai_push 0 18) := rfl
theorem at_50_18 : am_code 50 18 = some (ai_zret) := rfl
theorem at_50_19 : am_code 50 19 = some (ai_push 1 20) := rfl
theorem at_50_20 : am_code 50 20 = some (ai_push 8 22) := rfl
theorem at_50_22 : am_code 50 22 = some (ai_iload 1 23) := rfl
theorem at_50_23 : am_code 50 23 = some (ai_bin (fun x y => x - y) 24) := rfl
theorem at_50_24 : am_code 50 24 = some (ai_bin (fun x y => x <<< (y &&& 31)) 25) := rfl
theorem at_50_25 : am_code 50 25 = some (ai_push 1 26) := rfl
theorem at_50_26 : am_code 50 26 = some (ai_bin (fun x y => x - y) 27) := rfl
theorem at_50_27 : am_code 50 27 = some (ai_istore 2 28) := rfl
theorem at_50_28 : am_code 50 28 = some (ai_iload 0 29) := rfl
theorem at_50_29 : am_code 50 29 = some (ai_iload 2 30) := rfl
theorem at_50_30 : am_code 50 30 = some (ai_bin (fun x y => x &&& y) 31) := rfl
theorem at_50_31 : am_code 50 31 = some (ai_if (fun x => ¬ x = 0) 38 34) := rfl
theorem at_50_34 : am_code 50 34 = some (ai_push 1 35) := rfl
theorem at_50_35 : am_code 50 35 = some (ai_goto 39) := rfl
theorem at_50_38 : am_code 50 38 = some (ai_push 0 39) := rfl
theorem at_50_39 : am_code 50 39 = some (ai_zret) := rfl
theorem at_51_0 : am_code 51 0 = some (ai_iload 1 1) := rfl
theorem at_51_1 : am_code 51 1 = some (ai_callS 48 1 4) := rfl
theorem at_51_4 : am_code 51 4 = some (ai_if (fun x => x = 0) 23 7) := rfl
theorem at_51_7 : am_code 51 7 = some (ai_aload 0 8) := rfl
theorem at_51_8 : am_code 51 8 = some (ai_getP 1 0 11) := rfl
theorem at_51_11 : am_code 51 11 = some (ai_iload 1 12) := rfl
theorem at_51_12 : am_code 51 12 = some (ai_aald 2 5 13) := rfl
theorem at_51_13 : am_code 51 13 = some (ai_getI 3 1 16) := rfl
theorem at_51_16 : am_code 51 16 = some (ai_if (fun x => x = 0) 23 19) := rfl
theorem at_51_19 : am_code 51 19 = some (ai_push 1 20) := rfl
theorem at_51_20 : am_code 51 20 = some (ai_goto 24) := rfl
theorem at_51_23 : am_code 51 23 = some (ai_push 0 24) := rfl
theorem at_51_24 : am_code 51 24 = some (ai_zret) := rfl
theorem at_52_0 : am_code 52 0 = some (ai_iload 1 1) := rfl
theorem at_52_1 : am_code 52 1 = some (ai_callS 48 1 4) := rfl
theorem at_52_4 : am_code 52 4 = some (ai_if (fun x => x = 0) 35 7) := rfl
theorem at_52_7 : am_code 52 7 = some (ai_iload 2 8) := rfl
theorem at_52_8 : am_code 52 8 = some (ai_callS 48 1 11) := rfl
theorem at_52_11 : am_code 52 11 = some (ai_if (fun x => x = 0) 35 14) := rfl
theorem at_52_14 : am_code 52 14 = some (ai_aload 0 15) := rfl
theorem at_52_15 : am_code 52 15 = some (ai_getP 1 0 18) := rfl
theorem at_52_18 : am_code 52 18 = some (ai_iload 1 19) := rfl
theorem at_52_19 : am_code 52 19 = some (ai_aald 2 5 20) := rfl
theorem at_52_20 : am_code 52 20 = some (ai_getP 3 7 23) := rfl
theorem at_52_23 : am_code 52 23 = some (ai_iload 2 24) := rfl
theorem at_52_24 : am_code 52 24 = some (ai_aald 6 5 25) := rfl
theorem at_52_25 : am_code 52 25 = some (ai_getI 7 0 28) := rfl
theorem at_52_28 : am_code 52 28 = some (ai_if (fun x => x = 0) 35 31) := rfl
theorem at_52_31 : am_code 52 31 = some (ai_push 1 32) := rfl
theorem at_52_32 : am_code 52 32 = some (ai_goto 36) := rfl
theorem at_52_35 : am_code 52 35 = some (ai_push 0 36) := rfl
theorem at_52_36 : am_code 52 36 = some (ai_zret) := rfl
theorem at_53_0 : am_code 53 0 = some (ai_aload 0 1) := rfl
theorem at_53_1 : am_code 53 1 = some (ai_dup 2) := rfl
theorem at_53_2 : am_code 53 2 = some (ai_getI 1 4 5) := rfl
theorem at_53_5 : am_code 53 5 = some (ai_push 1 6) := rfl
theorem at_53_6 : am_code 53 6 = some (ai_bin (fun x y => x + y) 7) := rfl
theorem at_53_7 : am_code 53 7 = some (ai_putI 1 4 10) := rfl
theorem at_53_10 : am_code 53 10 = some (ai_aload 0 11) := rfl
theorem at_53_11 : am_code 53 11 = some (ai_callV 55 1 0 14) := rfl
theorem at_53_14 : am_code 53 14 = some (ai_aload 0 15) := rfl
theorem at_53_15 : am_code 53 15 = some (ai_getI 1 4 18) := rfl
theorem at_53_18 : am_code 53 18 = some (ai_push 2 19) := rfl
theorem at_53_19 : am_code 53 19 = some (ai_div (fun x y => x - x / y * y) 20) := rfl
theorem at_53_20 : am_code 53 20 = some (ai_if (fun x => ¬ x = 0) 27 23) := rfl
theorem at_53_23 : am_code 53 23 = some (ai_aload 0 24) := rfl
theorem at_53_24 : am_code 53 24 = some (ai_callV 56 1 0 27) := rfl
theorem at_53_27 : am_code 53 27 = some (ai_aload 0 28) := rfl
theorem at_53_28 : am_code 53 28 = some (ai_callV 58 1 0 31) := rfl
theorem at_53_31 : am_code 53 31 = some (ai_aload 0 32) := rfl
theorem at_53_32 : am_code 53 32 = some (ai_callV 60 1 0 35) := rfl
theorem at_53_35 : am_code 53 35 = some (ai_aload 0 36) := rfl
theorem at_53_36 : am_code 53 36 = some (ai_callV 61 1 0 39) := rfl
theorem at_53_39 : am_code 53 39 = some (ai_aload 0 40) := rfl
theorem at_53_40 : am_code 53 40 = some (ai_callV 62 1 0 43) := rfl
theorem at_53_43 : am_code 53 43 = some (ai_ret) := rfl
theorem at_54_0 : am_code 54 0 = some (ai_aload 0 1) := rfl
theorem at_54_1 : am_code 54 1 = some (ai_getP 1 0 4) := rfl
theorem at_54_4 : am_code 54 4 = some (ai_iload 1 5) := rfl
theorem at_54_5 : am_code 54 5 = some (ai_aald 2 5 6) := rfl
theorem at_54_6 : am_code 54 6 = some (ai_getP 3 7 9) := rfl
theorem at_54_9 : am_code 54 9 = some (ai_iload 2 10) := rfl
theorem at_54_10 : am_code 54 10 = some (ai_aald 6 5 11) := rfl
theorem at_54_11 : am_code 54 11 = some (ai_astore 3 12) := rfl
theorem at_54_12 : am_code 54 12 = some (ai_aload 3 13) := rfl
theorem at_54_13 : am_code 54 13 = some (ai_getI 7 1 16) := rfl
theorem at_54_16 : am_code 54 16 = some (ai_if (fun x => x ≤ 0) 41 19) := rfl
theorem at_54_19 : am_code 54 19 = some (ai_aload 3 20) := rfl
theorem at_54_20 : am_code 54 20 = some (ai_dup 21) := rfl
theorem at_54_21 : am_code 54 21 = some (ai_getI 7 1 24) := rfl
theorem at_54_24 : am_code 54 24 = some (ai_push 1 25) := rfl
theorem at_54_25 : am_code 54 25 = some (ai_bin (fun x y => x - y) 26) := rfl
theorem at_54_26 : am_code 54 26 = some (ai_putI 7 1 29) := rfl
theorem at_54_29 : am_code 54 29 = some (ai_aload 0 30) := rfl
theorem at_54_30 : am_code 54 30 = some (ai_getP 1 3 33) := rfl
theorem at_54_33 : am_code 54 33 = some (ai_push 4 34) := rfl
theorem at_54_34 : am_code 54 34 = some (ai_dup2 35) := rfl
theorem at_54_35 : am_code 54 35 = some (ai_ald 18 7 36) := rfl
theorem at_54_36 : am_code 54 36 = some (ai_push 1 37) := rfl
theorem at_54_37 : am_code 54 37 = some (ai_bin (fun x y => x + y) 38) := rfl
theorem at_54_38 : am_code 54 38 = some (ai_ast 18 7 39) := rfl
theorem at_54_39 : am_code 54 39 = some (ai_push 0 40) := rfl
theorem at_54_40 : am_code 54 40 = some (ai_zret) := rfl
theorem at_54_41 : am_code 54 41 = some (ai_aload 0 42) := rfl
theorem at_54_42 : am_code 54 42 = some (ai_getP 1 0 45) := rfl
theorem at_54_45 : am_code 54 45 = some (ai_iload 2 46) := rfl
theorem at_54_46 : am_code 54 46 = some (ai_aald 2 5 47) := rfl
theorem at_54_47 : am_code 54 47 = some (ai_getI 3 1 50) := rfl
theorem at_54_50 : am_code 54 50 = some (ai_if (fun x => ¬ x = 0) 65 53) := rfl
theorem at_54_53 : am_code 54 53 = some (ai_aload 0 54) := rfl
theorem at_54_54 : am_code 54 54 = some (ai_getP 1 3 57) := rfl
theorem at_54_57 : am_code 54 57 = some (ai_push 4 58) := rfl
theorem at_54_58 : am_code 54 58 = some (ai_dup2 59) := rfl
theorem at_54_59 : am_code 54 59 = some (ai_ald 18 7 60) := rfl
theorem at_54_60 : am_code 54 60 = some (ai_push 1 61) := rfl
theorem at_54_61 : am_code 54 61 = some (ai_bin (fun x y => x + y) 62) := rfl
theorem at_54_62 : am_code 54 62 = some (ai_ast 18 7 63) := rfl
theorem at_54_63 : am_code 54 63 = some (ai_push 0 64) := rfl
theorem at_54_64 : am_code 54 64 = some (ai_zret) := rfl
theorem at_54_65 : am_code 54 65 = some (ai_push 1 66) := rfl
theorem at_54_66 : am_code 54 66 = some (ai_zret) := rfl
theorem at_55_0 : am_code 55 0 = some (ai_push 0 1) := rfl
theorem at_55_1 : am_code 55 1 = some (ai_istore 1 2) := rfl
theorem at_55_2 : am_code 55 2 = some (ai_iload 1 3) := rfl
theorem at_55_3 : am_code 55 3 = some (ai_push 5 4) := rfl
theorem at_55_4 : am_code 55 4 = some (ai_icmp (fun x y => y ≤ x) 66 7) := rfl
theorem at_55_7 : am_code 55 7 = some (ai_push 0 8) := rfl
theorem at_55_8 : am_code 55 8 = some (ai_istore 2 9) := rfl
theorem at_55_9 : am_code 55 9 = some (ai_iload 2 10) := rfl
theorem at_55_10 : am_code 55 10 = some (ai_push 5 11) := rfl
theorem at_55_11 : am_code 55 11 = some (ai_icmp (fun x y => y ≤ x) 60 14) := rfl
theorem at_55_14 : am_code 55 14 = some (ai_aload 0 15) := rfl
theorem at_55_15 : am_code 55 15 = some (ai_getP 1 0 18) := rfl
theorem at_55_18 : am_code 55 18 = some (ai_iload 1 19) := rfl
theorem at_55_19 : am_code 55 19 = some (ai_aald 2 5 20) := rfl
theorem at_55_20 : am_code 55 20 = some (ai_getP 3 6 23) := rfl
theorem at_55_23 : am_code 55 23 = some (ai_iload 2 24) := rfl
theorem at_55_24 : am_code 55 24 = some (ai_aald 5 5 25) := rfl
theorem at_55_25 : am_code 55 25 = some (ai_astore 3 26) := rfl
theorem at_55_26 : am_code 55 26 = some (ai_aload 3 27) := rfl
theorem at_55_27 : am_code 55 27 = some (ai_ifnull 54 30) := rfl
theorem at_55_30 : am_code 55 30 = some (ai_aload 3 31) := rfl
theorem at_55_31 : am_code 55 31 = some (ai_getI 19 2 34) := rfl
theorem at_55_34 : am_code 55 34 = some (ai_aload 0 35) := rfl
theorem at_55_35 : am_code 55 35 = some (ai_getI 1 4 38) := rfl
theorem at_55_38 : am_code 55 38 = some (ai_push 40 40) := rfl
theorem at_55_40 : am_code 55 40 = some (ai_bin (fun x y => x - y) 41) := rfl
theorem at_55_41 : am_code 55 41 = some (ai_icmp (fun x y => y < x) 54 44) := rfl
theorem at_55_44 : am_code 55 44 = some (ai_aload 0 45) := rfl
theorem at_55_45 : am_code 55 45 = some (ai_getP 1 0 48) := rfl
theorem at_55_48 : am_code 55 48 = some (ai_iload 1 49) := rfl
theorem at_55_49 : am_code 55 49 = some (ai_aald 2 5 50) := rfl
theorem at_55_50 : am_code 55 50 = some (ai_iload 2 51) := rfl
theorem at_55_51 : am_code 55 51 = some (ai_callV 16 3 1 54) := rfl
theorem at_55_54 : am_code 55 54 = some (ai_iinc 2 1 57) := rfl
theorem at_55_57 : am_code 55 57 = some (ai_goto 9) := rfl
theorem at_55_60 : am_code 55 60 = some (ai_iinc 1 1 63) := rfl
theorem at_55_63 : am_code 55 63 = some (ai_goto 2) := rfl
theorem at_55_66 : am_code 55 66 = some (ai_ret) := rfl
theorem at_56_0 : am_code 56 0 = some (ai_push 0 1) := rfl
theorem at_56_1 : am_code 56 1 = some (ai_istore 1 2) := rfl
theorem at_56_2 : am_code 56 2 = some (ai_iload 1 3) := rfl
theorem at_56_3 : am_code 56 3 = some (ai_push 5 4) := rfl
theorem at_56_4 : am_code 56 4 = some (ai_icmp (fun x y => y ≤ x) 22 7) := rfl
theorem at_56_7 : am_code 56 7 = some (ai_aload 0 8) := rfl
theorem at_56_8 : am_code 56 8 = some (ai_getP 1 0 11) := rfl
theorem at_56_11 : am_code 56 11 = some (ai_iload 1 12) := rfl
theorem at_56_12 : am_code 56 12 = some (ai_aald 2 5 13) := rfl
theorem at_56_13 : am_code 56 13 = some (ai_callV 17 3 0 16) := rfl
theorem at_56_16 : am_code 56 16 = some (ai_iinc 1 1 19) := rfl
theorem at_56_19 : am_code 56 19 = some (ai_goto 2) := rfl
theorem at_56_22 : am_code 56 22 = some (ai_push 0 23) := rfl
theorem at_56_23 : am_code 56 23 = some (ai_istore 1 24) := rfl
theorem at_56_24 : am_code 56 24 = some (ai_iload 1 25) := rfl
theorem at_56_25 : am_code 56 25 = some (ai_push 5 26) := rfl
theorem at_56_26 : am_code 56 26 = some (ai_icmp (fun x y => y ≤ x) 75 29) := rfl
theorem at_56_29 : am_code 56 29 = some (ai_push 0 30) := rfl
theorem at_56_30 : am_code 56 30 = some (ai_istore 2 31) := rfl
theorem at_56_31 : am_code 56 31 = some (ai_iload 2 32) := rfl
theorem at_56_32 : am_code 56 32 = some (ai_push 5 33) := rfl
theorem at_56_33 : am_code 56 33 = some (ai_icmp (fun x y => y ≤ x) 69 36) := rfl
theorem at_56_36 : am_code 56 36 = some (ai_aload 0 37) := rfl
theorem at_56_37 : am_code 56 37 = some (ai_getP 1 0 40) := rfl
theorem at_56_40 : am_code 56 40 = some (ai_iload 1 41) := rfl
theorem at_56_41 : am_code 56 41 = some (ai_aald 2 5 42) := rfl
theorem at_56_42 : am_code 56 42 = some (ai_getI 3 1 45) := rfl
theorem at_56_45 : am_code 56 45 = some (ai_if (fun x => x = 0) 63 48) := rfl
theorem at_56_48 : am_code 56 48 = some (ai_aload 0 49) := rfl
theorem at_56_49 : am_code 56 49 = some (ai_iload 1 50) := rfl
theorem at_56_50 : am_code 56 50 = some (ai_iload 2 51) := rfl
theorem at_56_51 : am_code 56 51 = some (ai_callV 52 1 2 54) := rfl
theorem at_56_54 : am_code 56 54 = some (ai_if (fun x => x = 0) 63 57) := rfl
theorem at_56_57 : am_code 56 57 = some (ai_aload 0 58) := rfl
theorem at_56_58 : am_code 56 58 = some (ai_iload 1 59) := rfl
theorem at_56_59 : am_code 56 59 = some (ai_iload 2 60) := rfl
theorem at_56_60 : am_code 56 60 = some (ai_callV 57 1 2 63) := rfl
theorem at_56_63 : am_code 56 63 = some (ai_iinc 2 1 66) := rfl
theorem at_56_66 : am_code 56 66 = some (ai_goto 31) := rfl
theorem at_56_69 : am_code 56 69 = some (ai_iinc 1 1 72) := rfl
theorem at_56_72 : am_code 56 72 = some (ai_goto 24) := rfl
theorem at_56_75 : am_code 56 75 = some (ai_ret) := rfl
theorem at_57_0 : am_code 57 0 = some (ai_aload 0 1) := rfl
theorem at_57_1 : am_code 57 1 = some (ai_getP 1 3 4) := rfl
theorem at_57_4 : am_code 57 4 = some (ai_push 0 5) := rfl
theorem at_57_5 : am_code 57 5 = some (ai_dup2 6) := rfl
theorem at_57_6 : am_code 57 6 = some (ai_ald 18 7 7) := rfl
theorem at_57_7 : am_code 57 7 = some (ai_push 1 8) := rfl
theorem at_57_8 : am_code 57 8 = some (ai_bin (fun x y => x + y) 9) := rfl
theorem at_57_9 : am_code 57 9 = some (ai_ast 18 7 10) := rfl
theorem at_57_10 : am_code 57 10 = some (ai_aload 0 11) := rfl
theorem at_57_11 : am_code 57 11 = some (ai_iload 1 12) := rfl
theorem at_57_12 : am_code 57 12 = some (ai_iload 2 13) := rfl
theorem at_57_13 : am_code 57 13 = some (ai_callV 54 1 2 16) := rfl
theorem at_57_16 : am_code 57 16 = some (ai_if (fun x => x = 0) 62 19) := rfl
theorem at_57_19 : am_code 57 19 = some (ai_aload 0 20) := rfl
theorem at_57_20 : am_code 57 20 = some (ai_getP 1 0 23) := rfl
theorem at_57_23 : am_code 57 23 = some (ai_iload 2 24) := rfl
theorem at_57_24 : am_code 57 24 = some (ai_aald 2 5 25) := rfl
theorem at_57_25 : am_code 57 25 = some (ai_getP 3 7 28) := rfl
theorem at_57_28 : am_code 57 28 = some (ai_iload 1 29) := rfl
theorem at_57_29 : am_code 57 29 = some (ai_aald 6 5 30) := rfl
theorem at_57_30 : am_code 57 30 = some (ai_astore 3 31) := rfl
theorem at_57_31 : am_code 57 31 = some (ai_aload 3 32) := rfl
theorem at_57_32 : am_code 57 32 = some (ai_push 1 33) := rfl
theorem at_57_33 : am_code 57 33 = some (ai_putZ 7 2 36) := rfl
theorem at_57_36 : am_code 57 36 = some (ai_aload 3 37) := rfl
theorem at_57_37 : am_code 57 37 = some (ai_aload 0 38) := rfl
theorem at_57_38 : am_code 57 38 = some (ai_getI 1 4 41) := rfl
theorem at_57_41 : am_code 57 41 = some (ai_putI 7 4 44) := rfl
theorem at_57_44 : am_code 57 44 = some (ai_aload 3 45) := rfl
theorem at_57_45 : am_code 57 45 = some (ai_aload 0 46) := rfl
theorem at_57_46 : am_code 57 46 = some (ai_getP 1 0 49) := rfl
theorem at_57_49 : am_code 57 49 = some (ai_iload 1 50) := rfl
theorem at_57_50 : am_code 57 50 = some (ai_aald 2 5 51) := rfl
theorem at_57_51 : am_code 57 51 = some (ai_getP 3 7 54) := rfl
theorem at_57_54 : am_code 57 54 = some (ai_iload 2 55) := rfl
theorem at_57_55 : am_code 57 55 = some (ai_aald 6 5 56) := rfl
theorem at_57_56 : am_code 57 56 = some (ai_getI 7 3 59) := rfl
theorem at_57_59 : am_code 57 59 = some (ai_putZ 7 5 62) := rfl
theorem at_57_62 : am_code 57 62 = some (ai_ret) := rfl
theorem at_58_0 : am_code 58 0 = some (ai_push 0 1) := rfl
theorem at_58_1 : am_code 58 1 = some (ai_istore 1 2) := rfl
theorem at_58_2 : am_code 58 2 = some (ai_iload 1 3) := rfl
theorem at_58_3 : am_code 58 3 = some (ai_push 5 4) := rfl
theorem at_58_4 : am_code 58 4 = some (ai_icmp (fun x y => y ≤ x) 44 7) := rfl
theorem at_58_7 : am_code 58 7 = some (ai_push 0 8) := rfl
theorem at_58_8 : am_code 58 8 = some (ai_istore 2 9) := rfl
theorem at_58_9 : am_code 58 9 = some (ai_iload 2 10) := rfl
theorem at_58_10 : am_code 58 10 = some (ai_push 5 11) := rfl
theorem at_58_11 : am_code 58 11 = some (ai_icmp (fun x y => y ≤ x) 38 14) := rfl
theorem at_58_14 : am_code 58 14 = some (ai_aload 0 15) := rfl
theorem at_58_15 : am_code 58 15 = some (ai_getP 1 0 18) := rfl
theorem at_58_18 : am_code 58 18 = some (ai_iload 1 19) := rfl
theorem at_58_19 : am_code 58 19 = some (ai_aald 2 5 20) := rfl
theorem at_58_20 : am_code 58 20 = some (ai_getP 3 7 23) := rfl
theorem at_58_23 : am_code 58 23 = some (ai_iload 2 24) := rfl
theorem at_58_24 : am_code 58 24 = some (ai_aald 6 5 25) := rfl
theorem at_58_25 : am_code 58 25 = some (ai_aload 0 26) := rfl
theorem at_58_26 : am_code 58 26 = some (ai_getI 1 4 29) := rfl
theorem at_58_29 : am_code 58 29 = some (ai_callV 12 7 1 32) := rfl
theorem at_58_32 : am_code 58 32 = some (ai_iinc 2 1 35) := rfl
theorem at_58_35 : am_code 58 35 = some (ai_goto 9) := rfl
theorem at_58_38 : am_code 58 38 = some (ai_iinc 1 1 41) := rfl
theorem at_58_41 : am_code 58 41 = some (ai_goto 2) := rfl
theorem at_58_44 : am_code 58 44 = some (ai_push 0 45) := rfl
theorem at_58_45 : am_code 58 45 = some (ai_istore 1 46) := rfl
theorem at_58_46 : am_code 58 46 = some (ai_iload 1 47) := rfl
theorem at_58_47 : am_code 58 47 = some (ai_push 5 48) := rfl
theorem at_58_48 : am_code 58 48 = some (ai_icmp (fun x y => y ≤ x) 116 51) := rfl
theorem at_58_51 : am_code 58 51 = some (ai_push 0 52) := rfl
theorem at_58_52 : am_code 58 52 = some (ai_istore 2 53) := rfl
theorem at_58_53 : am_code 58 53 = some (ai_iload 2 54) := rfl
theorem at_58_54 : am_code 58 54 = some (ai_push 5 55) := rfl
theorem at_58_55 : am_code 58 55 = some (ai_icmp (fun x y => y ≤ x) 110 58) := rfl
theorem at_58_58 : am_code 58 58 = some (ai_aload 0 59) := rfl
theorem at_58_59 : am_code 58 59 = some (ai_getP 1 0 62) := rfl
theorem at_58_62 : am_code 58 62 = some (ai_iload 1 63) := rfl
theorem at_58_63 : am_code 58 63 = some (ai_aald 2 5 64) := rfl
theorem at_58_64 : am_code 58 64 = some (ai_getP 3 7 67) := rfl
theorem at_58_67 : am_code 58 67 = some (ai_iload 2 68) := rfl
theorem at_58_68 : am_code 58 68 = some (ai_aald 6 5 69) := rfl
theorem at_58_69 : am_code 58 69 = some (ai_getI 7 7 72) := rfl
theorem at_58_72 : am_code 58 72 = some (ai_if (fun x => x = 0) 104 75) := rfl
theorem at_58_75 : am_code 58 75 = some (ai_aload 0 76) := rfl
theorem at_58_76 : am_code 58 76 = some (ai_iload 1 77) := rfl
theorem at_58_77 : am_code 58 77 = some (ai_iload 2 78) := rfl
theorem at_58_78 : am_code 58 78 = some (ai_callV 59 1 2 81) := rfl
theorem at_58_81 : am_code 58 81 = some (ai_aload 0 82) := rfl
theorem at_58_82 : am_code 58 82 = some (ai_getP 1 0 85) := rfl
theorem at_58_85 : am_code 58 85 = some (ai_iload 2 86) := rfl
theorem at_58_86 : am_code 58 86 = some (ai_aald 2 5 87) := rfl
theorem at_58_87 : am_code 58 87 = some (ai_getP 3 7 90) := rfl
theorem at_58_90 : am_code 58 90 = some (ai_iload 1 91) := rfl
theorem at_58_91 : am_code 58 91 = some (ai_aald 6 5 92) := rfl
theorem at_58_92 : am_code 58 92 = some (ai_getI 7 6 95) := rfl
theorem at_58_95 : am_code 58 95 = some (ai_if (fun x => x = 0) 104 98) := rfl
theorem at_58_98 : am_code 58 98 = some (ai_aload 0 99) := rfl
theorem at_58_99 : am_code 58 99 = some (ai_iload 2 100) := rfl
theorem at_58_100 : am_code 58 100 = some (ai_iload 1 101) := rfl
theorem at_58_101 : am_code 58 101 = some (ai_callV 59 1 2 104) := rfl
theorem at_58_104 : am_code 58 104 = some (ai_iinc 2 1 107) := rfl
theorem at_58_107 : am_code 58 107 = some (ai_goto 53) := rfl
theorem at_58_110 : am_code 58 110 = some (ai_iinc 1 1 113) := rfl
theorem at_58_113 : am_code 58 113 = some (ai_goto 46) := rfl
theorem at_58_116 : am_code 58 116 = some (ai_ret) := rfl
theorem at_59_0 : am_code 59 0 = some (ai_push 0 1) := rfl
theorem at_59_1 : am_code 59 1 = some (ai_istore 3 2) := rfl
theorem at_59_2 : am_code 59 2 = some (ai_iload 3 3) := rfl
theorem at_59_3 : am_code 59 3 = some (ai_push 5 4) := rfl
theorem at_59_4 : am_code 59 4 = some (ai_icmp (fun x y => y ≤ x) 74 7) := rfl
theorem at_59_7 : am_code 59 7 = some (ai_aload 0 8) := rfl
theorem at_59_8 : am_code 59 8 = some (ai_getP 1 0 11) := rfl
theorem at_59_11 : am_code 59 11 = some (ai_iload 1 12) := rfl
theorem at_59_12 : am_code 59 12 = some (ai_aald 2 5 13) := rfl
theorem at_59_13 : am_code 59 13 = some (ai_getP 3 6 16) := rfl
theorem at_59_16 : am_code 59 16 = some (ai_iload 3 17) := rfl
theorem at_59_17 : am_code 59 17 = some (ai_aald 5 5 18) := rfl
theorem at_59_18 : am_code 59 18 = some (ai_astore 4 20) := rfl
theorem at_59_20 : am_code 59 20 = some (ai_aload 0 21) := rfl
theorem at_59_21 : am_code 59 21 = some (ai_getP 1 0 24) := rfl
theorem at_59_24 : am_code 59 24 = some (ai_iload 2 25) := rfl
theorem at_59_25 : am_code 59 25 = some (ai_aald 2 5 26) := rfl
theorem at_59_26 : am_code 59 26 = some (ai_getP 3 6 29) := rfl
theorem at_59_29 : am_code 59 29 = some (ai_iload 3 30) := rfl
theorem at_59_30 : am_code 59 30 = some (ai_aald 5 5 31) := rfl
theorem at_59_31 : am_code 59 31 = some (ai_astore 5 33) := rfl
theorem at_59_33 : am_code 59 33 = some (ai_aload 4 35) := rfl
theorem at_59_35 : am_code 59 35 = some (ai_ifnull 68 38) := rfl
theorem at_59_38 : am_code 59 38 = some (ai_aload 5 40) := rfl
theorem at_59_40 : am_code 59 40 = some (ai_ifnull 53 43) := rfl
theorem at_59_43 : am_code 59 43 = some (ai_aload 4 45) := rfl
theorem at_59_45 : am_code 59 45 = some (ai_aload 5 47) := rfl
theorem at_59_47 : am_code 59 47 = some (ai_callV 5 19 1 50) := rfl
theorem at_59_50 : am_code 59 50 = some (ai_if (fun x => x = 0) 68 53) := rfl
theorem at_59_53 : am_code 59 53 = some (ai_aload 0 54) := rfl
theorem at_59_54 : am_code 59 54 = some (ai_getP 1 0 57) := rfl
theorem at_59_57 : am_code 59 57 = some (ai_iload 1 58) := rfl
theorem at_59_58 : am_code 59 58 = some (ai_aald 2 5 59) := rfl
theorem at_59_59 : am_code 59 59 = some (ai_getP 3 7 62) := rfl
theorem at_59_62 : am_code 59 62 = some (ai_iload 2 63) := rfl
theorem at_59_63 : am_code 59 63 = some (ai_aald 6 5 64) := rfl
theorem at_59_64 : am_code 59 64 = some (ai_iload 3 65) := rfl
theorem at_59_65 : am_code 59 65 = some (ai_callV 11 7 1 68) := rfl
theorem at_59_68 : am_code 59 68 = some (ai_iinc 3 1 71) := rfl
theorem at_59_71 : am_code 59 71 = some (ai_goto 2) := rfl
theorem at_59_74 : am_code 59 74 = some (ai_ret) := rfl
theorem at_60_0 : am_code 60 0 = some (ai_push 0 1) := rfl
theorem at_60_1 : am_code 60 1 = some (ai_istore 1 2) := rfl
theorem at_60_2 : am_code 60 2 = some (ai_iload 1 3) := rfl
theorem at_60_3 : am_code 60 3 = some (ai_push 5 4) := rfl
theorem at_60_4 : am_code 60 4 = some (ai_icmp (fun x y => y ≤ x) 64 7) := rfl
theorem at_60_7 : am_code 60 7 = some (ai_aload 0 8) := rfl
theorem at_60_8 : am_code 60 8 = some (ai_getP 1 0 11) := rfl
theorem at_60_11 : am_code 60 11 = some (ai_iload 1 12) := rfl
theorem at_60_12 : am_code 60 12 = some (ai_aald 2 5 13) := rfl
theorem at_60_13 : am_code 60 13 = some (ai_getI 3 1 16) := rfl
theorem at_60_16 : am_code 60 16 = some (ai_if (fun x => x = 0) 58 19) := rfl
theorem at_60_19 : am_code 60 19 = some (ai_aload 0 20) := rfl
theorem at_60_20 : am_code 60 20 = some (ai_getP 1 0 23) := rfl
theorem at_60_23 : am_code 60 23 = some (ai_iload 1 24) := rfl
theorem at_60_24 : am_code 60 24 = some (ai_aald 2 5 25) := rfl
theorem at_60_25 : am_code 60 25 = some (ai_aload 0 26) := rfl
theorem at_60_26 : am_code 60 26 = some (ai_getI 1 4 29) := rfl
theorem at_60_29 : am_code 60 29 = some (ai_callV 18 3 1 32) := rfl
theorem at_60_32 : am_code 60 32 = some (ai_if (fun x => x = 0) 58 35) := rfl
theorem at_60_35 : am_code 60 35 = some (ai_aload 0 36) := rfl
theorem at_60_36 : am_code 60 36 = some (ai_getP 1 0 39) := rfl
theorem at_60_39 : am_code 60 39 = some (ai_iload 1 40) := rfl
theorem at_60_40 : am_code 60 40 = some (ai_aald 2 5 41) := rfl
theorem at_60_41 : am_code 60 41 = some (ai_aload 0 42) := rfl
theorem at_60_42 : am_code 60 42 = some (ai_getI 1 4 45) := rfl
theorem at_60_45 : am_code 60 45 = some (ai_callV 20 3 1 48) := rfl
theorem at_60_48 : am_code 60 48 = some (ai_aload 0 49) := rfl
theorem at_60_49 : am_code 60 49 = some (ai_getP 1 3 52) := rfl
theorem at_60_52 : am_code 60 52 = some (ai_push 5 53) := rfl
theorem at_60_53 : am_code 60 53 = some (ai_dup2 54) := rfl
theorem at_60_54 : am_code 60 54 = some (ai_ald 18 7 55) := rfl
theorem at_60_55 : am_code 60 55 = some (ai_push 1 56) := rfl
theorem at_60_56 : am_code 60 56 = some (ai_bin (fun x y => x + y) 57) := rfl
theorem at_60_57 : am_code 60 57 = some (ai_ast 18 7 58) := rfl
theorem at_60_58 : am_code 60 58 = some (ai_iinc 1 1 61) := rfl
theorem at_60_61 : am_code 60 61 = some (ai_goto 2) := rfl
theorem at_60_64 : am_code 60 64 = some (ai_ret) := rfl
theorem at_61_0 : am_code 61 0 = some (ai_push 0 1) := rfl
theorem at_61_1 : am_code 61 1 = some (ai_istore 1 2) := rfl
theorem at_61_2 : am_code 61 2 = some (ai_iload 1 3) := rfl
theorem at_61_3 : am_code 61 3 = some (ai_push 5 4) := rfl
theorem at_61_4 : am_code 61 4 = some (ai_icmp (fun x y => y ≤ x) 111 7) := rfl
theorem at_61_7 : am_code 61 7 = some (ai_push 0 8) := rfl
theorem at_61_8 : am_code 61 8 = some (ai_istore 2 9) := rfl
theorem at_61_9 : am_code 61 9 = some (ai_iload 2 10) := rfl
theorem at_61_10 : am_code 61 10 = some (ai_push 5 11) := rfl
theorem at_61_11 : am_code 61 11 = some (ai_icmp (fun x y => y ≤ x) 105 14) := rfl
theorem at_61_14 : am_code 61 14 = some (ai_aload 0 15) := rfl
theorem at_61_15 : am_code 61 15 = some (ai_getP 1 1 18) := rfl
theorem at_61_18 : am_code 61 18 = some (ai_iload 1 19) := rfl
theorem at_61_19 : am_code 61 19 = some (ai_push 5 20) := rfl
theorem at_61_20 : am_code 61 20 = some (ai_bin (fun x y => x * y) 21) := rfl
theorem at_61_21 : am_code 61 21 = some (ai_iload 2 22) := rfl
theorem at_61_22 : am_code 61 22 = some (ai_bin (fun x y => x + y) 23) := rfl
theorem at_61_23 : am_code 61 23 = some (ai_aald 9 25 24) := rfl
theorem at_61_24 : am_code 61 24 = some (ai_astore 3 25) := rfl
theorem at_61_25 : am_code 61 25 = some (ai_aload 3 26) := rfl
theorem at_61_26 : am_code 61 26 = some (ai_aload 0 27) := rfl
theorem at_61_27 : am_code 61 27 = some (ai_getP 1 0 30) := rfl
theorem at_61_30 : am_code 61 30 = some (ai_iload 1 31) := rfl
theorem at_61_31 : am_code 61 31 = some (ai_aald 2 5 32) := rfl
theorem at_61_32 : am_code 61 32 = some (ai_getP 3 6 35) := rfl
theorem at_61_35 : am_code 61 35 = some (ai_aload 0 36) := rfl
theorem at_61_36 : am_code 61 36 = some (ai_getP 1 0 39) := rfl
theorem at_61_39 : am_code 61 39 = some (ai_iload 1 40) := rfl
theorem at_61_40 : am_code 61 40 = some (ai_aald 2 5 41) := rfl
theorem at_61_41 : am_code 61 41 = some (ai_getP 3 7 44) := rfl
theorem at_61_44 : am_code 61 44 = some (ai_iload 2 45) := rfl
theorem at_61_45 : am_code 61 45 = some (ai_aald 6 5 46) := rfl
theorem at_61_46 : am_code 61 46 = some (ai_getP 7 8 49) := rfl
theorem at_61_49 : am_code 61 49 = some (ai_aload 0 50) := rfl
theorem at_61_50 : am_code 61 50 = some (ai_getI 1 4 53) := rfl
theorem at_61_53 : am_code 61 53 = some (ai_callV 24 10 3 56) := rfl
theorem at_61_56 : am_code 61 56 = some (ai_istore 4 58) := rfl
theorem at_61_58 : am_code 61 58 = some (ai_aload 3 59) := rfl
theorem at_61_59 : am_code 61 59 = some (ai_push 0 60) := rfl
theorem at_61_60 : am_code 61 60 = some (ai_putZ 10 0 63) := rfl
theorem at_61_63 : am_code 61 63 = some (ai_iload 4 65) := rfl
theorem at_61_65 : am_code 61 65 = some (ai_if (fun x => x ≤ 0) 99 68) := rfl
theorem at_61_68 : am_code 61 68 = some (ai_aload 0 69) := rfl
theorem at_61_69 : am_code 61 69 = some (ai_getP 1 3 72) := rfl
theorem at_61_72 : am_code 61 72 = some (ai_push 1 73) := rfl
theorem at_61_73 : am_code 61 73 = some (ai_dup2 74) := rfl
theorem at_61_74 : am_code 61 74 = some (ai_ald 18 7 75) := rfl
theorem at_61_75 : am_code 61 75 = some (ai_push 1 76) := rfl
theorem at_61_76 : am_code 61 76 = some (ai_bin (fun x y => x + y) 77) := rfl
theorem at_61_77 : am_code 61 77 = some (ai_ast 18 7 78) := rfl
theorem at_61_78 : am_code 61 78 = some (ai_aload 0 79) := rfl
theorem at_61_79 : am_code 61 79 = some (ai_getP 1 3 82) := rfl
theorem at_61_82 : am_code 61 82 = some (ai_push 2 83) := rfl
theorem at_61_83 : am_code 61 83 = some (ai_dup2 84) := rfl
theorem at_61_84 : am_code 61 84 = some (ai_ald 18 7 85) := rfl
theorem at_61_85 : am_code 61 85 = some (ai_iload 4 87) := rfl
theorem at_61_87 : am_code 61 87 = some (ai_bin (fun x y => x + y) 88) := rfl
theorem at_61_88 : am_code 61 88 = some (ai_ast 18 7 89) := rfl
theorem at_61_89 : am_code 61 89 = some (ai_aload 3 90) := rfl
theorem at_61_90 : am_code 61 90 = some (ai_aload 0 91) := rfl
theorem at_61_91 : am_code 61 91 = some (ai_iload 1 92) := rfl
theorem at_61_92 : am_code 61 92 = some (ai_iload 2 93) := rfl
theorem at_61_93 : am_code 61 93 = some (ai_callV 54 1 2 96) := rfl
theorem at_61_96 : am_code 61 96 = some (ai_putZ 10 0 99) := rfl
theorem at_61_99 : am_code 61 99 = some (ai_iinc 2 1 102) := rfl
theorem at_61_102 : am_code 61 102 = some (ai_goto 9) := rfl
theorem at_61_105 : am_code 61 105 = some (ai_iinc 1 1 108) := rfl
theorem at_61_108 : am_code 61 108 = some (ai_goto 2) := rfl
theorem at_61_111 : am_code 61 111 = some (ai_ret) := rfl
theorem at_62_0 : am_code 62 0 = some (ai_push 0 1) := rfl
theorem at_62_1 : am_code 62 1 = some (ai_istore 1 2) := rfl
theorem at_62_2 : am_code 62 2 = some (ai_iload 1 3) := rfl
theorem at_62_3 : am_code 62 3 = some (ai_push 5 4) := rfl
theorem at_62_4 : am_code 62 4 = some (ai_icmp (fun x y => y ≤ x) 68 7) := rfl
theorem at_62_7 : am_code 62 7 = some (ai_push 0 8) := rfl
theorem at_62_8 : am_code 62 8 = some (ai_istore 2 9) := rfl
theorem at_62_9 : am_code 62 9 = some (ai_iload 2 10) := rfl
theorem at_62_10 : am_code 62 10 = some (ai_push 5 11) := rfl
theorem at_62_11 : am_code 62 11 = some (ai_icmp (fun x y => y ≤ x) 62 14) := rfl
theorem at_62_14 : am_code 62 14 = some (ai_aload 0 15) := rfl
theorem at_62_15 : am_code 62 15 = some (ai_getP 1 1 18) := rfl
theorem at_62_18 : am_code 62 18 = some (ai_iload 1 19) := rfl
theorem at_62_19 : am_code 62 19 = some (ai_push 5 20) := rfl
theorem at_62_20 : am_code 62 20 = some (ai_bin (fun x y => x * y) 21) := rfl
theorem at_62_21 : am_code 62 21 = some (ai_iload 2 22) := rfl
theorem at_62_22 : am_code 62 22 = some (ai_bin (fun x y => x + y) 23) := rfl
theorem at_62_23 : am_code 62 23 = some (ai_aald 9 25 24) := rfl
theorem at_62_24 : am_code 62 24 = some (ai_astore 3 25) := rfl
theorem at_62_25 : am_code 62 25 = some (ai_aload 3 26) := rfl
theorem at_62_26 : am_code 62 26 = some (ai_getI 10 0 29) := rfl
theorem at_62_29 : am_code 62 29 = some (ai_if (fun x => x = 0) 56 32) := rfl
theorem at_62_32 : am_code 62 32 = some (ai_aload 0 33) := rfl
theorem at_62_33 : am_code 62 33 = some (ai_getP 1 0 36) := rfl
theorem at_62_36 : am_code 62 36 = some (ai_iload 2 37) := rfl
theorem at_62_37 : am_code 62 37 = some (ai_aald 2 5 38) := rfl
theorem at_62_38 : am_code 62 38 = some (ai_getP 3 7 41) := rfl
theorem at_62_41 : am_code 62 41 = some (ai_iload 1 42) := rfl
theorem at_62_42 : am_code 62 42 = some (ai_aald 6 5 43) := rfl
theorem at_62_43 : am_code 62 43 = some (ai_getI 7 6 46) := rfl
theorem at_62_46 : am_code 62 46 = some (ai_if (fun x => x = 0) 56 49) := rfl
theorem at_62_49 : am_code 62 49 = some (ai_aload 0 50) := rfl
theorem at_62_50 : am_code 62 50 = some (ai_aload 3 51) := rfl
theorem at_62_51 : am_code 62 51 = some (ai_iload 1 52) := rfl
theorem at_62_52 : am_code 62 52 = some (ai_iload 2 53) := rfl
theorem at_62_53 : am_code 62 53 = some (ai_callV 63 1 3 56) := rfl
theorem at_62_56 : am_code 62 56 = some (ai_iinc 2 1 59) := rfl
theorem at_62_59 : am_code 62 59 = some (ai_goto 9) := rfl
theorem at_62_62 : am_code 62 62 = some (ai_iinc 1 1 65) := rfl
theorem at_62_65 : am_code 62 65 = some (ai_goto 2) := rfl
theorem at_62_68 : am_code 62 68 = some (ai_ret) := rfl
theorem at_63_0 : am_code 63 0 = some (ai_push 0 1) := rfl
theorem at_63_1 : am_code 63 1 = some (ai_istore 4 3) := rfl
theorem at_63_3 : am_code 63 3 = some (ai_push 0 4) := rfl
theorem at_63_4 : am_code 63 4 = some (ai_istore 5 6) := rfl
theorem at_63_6 : am_code 63 6 = some (ai_iload 5 8) := rfl
theorem at_63_8 : am_code 63 8 = some (ai_push 5 9) := rfl
theorem at_63_9 : am_code 63 9 = some (ai_icmp (fun x y => y ≤ x) 54 12) := rfl
theorem at_63_12 : am_code 63 12 = some (ai_aload 1 13) := rfl
theorem at_63_13 : am_code 63 13 = some (ai_getP 10 1 16) := rfl
theorem at_63_16 : am_code 63 16 = some (ai_iload 5 18) := rfl
theorem at_63_18 : am_code 63 18 = some (ai_aald 11 5 19) := rfl
theorem at_63_19 : am_code 63 19 = some (ai_astore 6 21) := rfl
theorem at_63_21 : am_code 63 21 = some (ai_aload 6 23) := rfl
theorem at_63_23 : am_code 63 23 = some (ai_ifnull 48 26) := rfl
theorem at_63_26 : am_code 63 26 = some (ai_aload 0 27) := rfl
theorem at_63_27 : am_code 63 27 = some (ai_aload 6 29) := rfl
theorem at_63_29 : am_code 63 29 = some (ai_iload 2 30) := rfl
theorem at_63_30 : am_code 63 30 = some (ai_iload 3 31) := rfl
theorem at_63_31 : am_code 63 31 = some (ai_callV 64 1 3 34) := rfl
theorem at_63_34 : am_code 63 34 = some (ai_if (fun x => x = 0) 48 37) := rfl
theorem at_63_37 : am_code 63 37 = some (ai_aload 1 38) := rfl
theorem at_63_38 : am_code 63 38 = some (ai_getP 10 2 41) := rfl
theorem at_63_41 : am_code 63 41 = some (ai_iload 5 43) := rfl
theorem at_63_43 : am_code 63 43 = some (ai_push 1 44) := rfl
theorem at_63_44 : am_code 63 44 = some (ai_zast 12 5 45) := rfl
theorem at_63_45 : am_code 63 45 = some (ai_push 1 46) := rfl
theorem at_63_46 : am_code 63 46 = some (ai_istore 4 48) := rfl
theorem at_63_48 : am_code 63 48 = some (ai_iinc 5 1 51) := rfl
theorem at_63_51 : am_code 63 51 = some (ai_goto 6) := rfl
theorem at_63_54 : am_code 63 54 = some (ai_iload 4 56) := rfl
theorem at_63_56 : am_code 63 56 = some (ai_if (fun x => x = 0) 66 59) := rfl
theorem at_63_59 : am_code 63 59 = some (ai_aload 0 60) := rfl
theorem at_63_60 : am_code 63 60 = some (ai_aload 1 61) := rfl
theorem at_63_61 : am_code 63 61 = some (ai_iload 2 62) := rfl
theorem at_63_62 : am_code 63 62 = some (ai_iload 3 63) := rfl
theorem at_63_63 : am_code 63 63 = some (ai_callV 65 1 3 66) := rfl
theorem at_63_66 : am_code 63 66 = some (ai_ret) := rfl
theorem at_64_0 : am_code 64 0 = some (ai_aload 0 1) := rfl
theorem at_64_1 : am_code 64 1 = some (ai_getP 1 0 4) := rfl
theorem at_64_4 : am_code 64 4 = some (ai_iload 3 5) := rfl
theorem at_64_5 : am_code 64 5 = some (ai_aald 2 5 6) := rfl
theorem at_64_6 : am_code 64 6 = some (ai_astore 4 8) := rfl
theorem at_64_8 : am_code 64 8 = some (ai_aload 1 9) := rfl
theorem at_64_9 : am_code 64 9 = some (ai_getI 19 0 12) := rfl
theorem at_64_12 : am_code 64 12 = some (ai_istore 5 14) := rfl
theorem at_64_14 : am_code 64 14 = some (ai_aload 4 16) := rfl
theorem at_64_16 : am_code 64 16 = some (ai_getP 3 6 19) := rfl
theorem at_64_19 : am_code 64 19 = some (ai_iload 5 21) := rfl
theorem at_64_21 : am_code 64 21 = some (ai_aald 5 5 22) := rfl
theorem at_64_22 : am_code 64 22 = some (ai_astore 6 24) := rfl
theorem at_64_24 : am_code 64 24 = some (ai_aload 6 26) := rfl
theorem at_64_26 : am_code 64 26 = some (ai_ifnull 38 29) := rfl
theorem at_64_29 : am_code 64 29 = some (ai_aload 1 30) := rfl
theorem at_64_30 : am_code 64 30 = some (ai_aload 6 32) := rfl
theorem at_64_32 : am_code 64 32 = some (ai_callV 5 19 1 35) := rfl
theorem at_64_35 : am_code 64 35 = some (ai_if (fun x => x = 0) 76 38) := rfl
theorem at_64_38 : am_code 64 38 = some (ai_iload 5 40) := rfl
theorem at_64_40 : am_code 64 40 = some (ai_iload 3 41) := rfl
theorem at_64_41 : am_code 64 41 = some (ai_icmp (fun x y => ¬ x = y) 56 44) := rfl
theorem at_64_44 : am_code 64 44 = some (ai_aload 4 46) := rfl
theorem at_64_46 : am_code 64 46 = some (ai_aload 1 47) := rfl
theorem at_64_47 : am_code 64 47 = some (ai_getI 19 1 50) := rfl
theorem at_64_50 : am_code 64 50 = some (ai_callV 22 3 1 53) := rfl
theorem at_64_53 : am_code 64 53 = some (ai_goto 74) := rfl
theorem at_64_56 : am_code 64 56 = some (ai_aload 4 58) := rfl
theorem at_64_58 : am_code 64 58 = some (ai_aload 1 59) := rfl
theorem at_64_59 : am_code 64 59 = some (ai_iload 2 60) := rfl
theorem at_64_60 : am_code 64 60 = some (ai_callV 21 3 2 63) := rfl
theorem at_64_63 : am_code 64 63 = some (ai_aload 0 64) := rfl
theorem at_64_64 : am_code 64 64 = some (ai_getP 1 3 67) := rfl
theorem at_64_67 : am_code 64 67 = some (ai_push 6 69) := rfl
theorem at_64_69 : am_code 64 69 = some (ai_dup2 70) := rfl
theorem at_64_70 : am_code 64 70 = some (ai_ald 18 7 71) := rfl
theorem at_64_71 : am_code 64 71 = some (ai_push 1 72) := rfl
theorem at_64_72 : am_code 64 72 = some (ai_bin (fun x y => x + y) 73) := rfl
theorem at_64_73 : am_code 64 73 = some (ai_ast 18 7 74) := rfl
theorem at_64_74 : am_code 64 74 = some (ai_push 1 75) := rfl
theorem at_64_75 : am_code 64 75 = some (ai_zret) := rfl
theorem at_64_76 : am_code 64 76 = some (ai_aload 6 78) := rfl
theorem at_64_78 : am_code 64 78 = some (ai_aload 1 79) := rfl
theorem at_64_79 : am_code 64 79 = some (ai_callV 5 19 1 82) := rfl
theorem at_64_82 : am_code 64 82 = some (ai_if (fun x => x = 0) 99 85) := rfl
theorem at_64_85 : am_code 64 85 = some (ai_aload 4 87) := rfl
theorem at_64_87 : am_code 64 87 = some (ai_getP 3 7 90) := rfl
theorem at_64_90 : am_code 64 90 = some (ai_iload 2 91) := rfl
theorem at_64_91 : am_code 64 91 = some (ai_aald 6 5 92) := rfl
theorem at_64_92 : am_code 64 92 = some (ai_iload 5 94) := rfl
theorem at_64_94 : am_code 64 94 = some (ai_callV 11 7 1 97) := rfl
theorem at_64_97 : am_code 64 97 = some (ai_push 0 98) := rfl
theorem at_64_98 : am_code 64 98 = some (ai_zret) := rfl
theorem at_64_99 : am_code 64 99 = some (ai_aload 4 101) := rfl
theorem at_64_101 : am_code 64 101 = some (ai_getP 3 7 104) := rfl
theorem at_64_104 : am_code 64 104 = some (ai_iload 2 105) := rfl
theorem at_64_105 : am_code 64 105 = some (ai_aald 6 5 106) := rfl
theorem at_64_106 : am_code 64 106 = some (ai_getP 7 8 109) := rfl
theorem at_64_109 : am_code 64 109 = some (ai_iload 5 111) := rfl
theorem at_64_111 : am_code 64 111 = some (ai_push (-2) 113) := rfl
theorem at_64_113 : am_code 64 113 = some (ai_ast 8 5 114) := rfl
theorem at_64_114 : am_code 64 114 = some (ai_push 1 115) := rfl
theorem at_64_115 : am_code 64 115 = some (ai_zret) := rfl
theorem at_65_0 : am_code 65 0 = some (ai_aload 0 1) := rfl
theorem at_65_1 : am_code 65 1 = some (ai_getP 1 3 4) := rfl
theorem at_65_4 : am_code 65 4 = some (ai_push 3 5) := rfl
theorem at_65_5 : am_code 65 5 = some (ai_dup2 6) := rfl
theorem at_65_6 : am_code 65 6 = some (ai_ald 18 7 7) := rfl
theorem at_65_7 : am_code 65 7 = some (ai_push 1 8) := rfl
theorem at_65_8 : am_code 65 8 = some (ai_bin (fun x y => x + y) 9) := rfl
theorem at_65_9 : am_code 65 9 = some (ai_ast 18 7 10) := rfl
theorem at_65_10 : am_code 65 10 = some (ai_aload 0 11) := rfl
theorem at_65_11 : am_code 65 11 = some (ai_iload 3 12) := rfl
theorem at_65_12 : am_code 65 12 = some (ai_iload 2 13) := rfl
theorem at_65_13 : am_code 65 13 = some (ai_callV 54 1 2 16) := rfl
theorem at_65_16 : am_code 65 16 = some (ai_if (fun x => ¬ x = 0) 20 19) := rfl
theorem at_65_19 : am_code 65 19 = some (ai_ret) := rfl
theorem at_65_20 : am_code 65 20 = some (ai_push 0 21) := rfl
theorem at_65_21 : am_code 65 21 = some (ai_istore 4 23) := rfl
theorem at_65_23 : am_code 65 23 = some (ai_iload 4 25) := rfl
theorem at_65_25 : am_code 65 25 = some (ai_push 5 26) := rfl
theorem at_65_26 : am_code 65 26 = some (ai_icmp (fun x y => y ≤ x) 107 29) := rfl
theorem at_65_29 : am_code 65 29 = some (ai_aload 0 30) := rfl
theorem at_65_30 : am_code 65 30 = some (ai_getP 1 0 33) := rfl
theorem at_65_33 : am_code 65 33 = some (ai_iload 2 34) := rfl
theorem at_65_34 : am_code 65 34 = some (ai_aald 2 5 35) := rfl
theorem at_65_35 : am_code 65 35 = some (ai_getP 3 6 38) := rfl
theorem at_65_38 : am_code 65 38 = some (ai_iload 4 40) := rfl
theorem at_65_40 : am_code 65 40 = some (ai_aald 5 5 41) := rfl
theorem at_65_41 : am_code 65 41 = some (ai_astore 5 43) := rfl
theorem at_65_43 : am_code 65 43 = some (ai_aload 1 44) := rfl
theorem at_65_44 : am_code 65 44 = some (ai_getP 10 1 47) := rfl
theorem at_65_47 : am_code 65 47 = some (ai_iload 4 49) := rfl
theorem at_65_49 : am_code 65 49 = some (ai_aald 11 5 50) := rfl
theorem at_65_50 : am_code 65 50 = some (ai_astore 6 52) := rfl
theorem at_65_52 : am_code 65 52 = some (ai_aload 1 53) := rfl
theorem at_65_53 : am_code 65 53 = some (ai_getP 10 2 56) := rfl
theorem at_65_56 : am_code 65 56 = some (ai_iload 4 58) := rfl
theorem at_65_58 : am_code 65 58 = some (ai_ald 12 5 59) := rfl
theorem at_65_59 : am_code 65 59 = some (ai_if (fun x => x = 0) 101 62) := rfl
theorem at_65_62 : am_code 65 62 = some (ai_aload 5 64) := rfl
theorem at_65_64 : am_code 65 64 = some (ai_ifnull 101 67) := rfl
theorem at_65_67 : am_code 65 67 = some (ai_aload 6 69) := rfl
theorem at_65_69 : am_code 65 69 = some (ai_ifnull 101 72) := rfl
theorem at_65_72 : am_code 65 72 = some (ai_aload 5 74) := rfl
theorem at_65_74 : am_code 65 74 = some (ai_aload 6 76) := rfl
theorem at_65_76 : am_code 65 76 = some (ai_callV 6 19 1 79) := rfl
theorem at_65_79 : am_code 65 79 = some (ai_if (fun x => x = 0) 101 82) := rfl
theorem at_65_82 : am_code 65 82 = some (ai_aload 0 83) := rfl
theorem at_65_83 : am_code 65 83 = some (ai_getP 1 0 86) := rfl
theorem at_65_86 : am_code 65 86 = some (ai_iload 2 87) := rfl
theorem at_65_87 : am_code 65 87 = some (ai_aald 2 5 88) := rfl
theorem at_65_88 : am_code 65 88 = some (ai_getP 3 7 91) := rfl
theorem at_65_91 : am_code 65 91 = some (ai_iload 3 92) := rfl
theorem at_65_92 : am_code 65 92 = some (ai_aald 6 5 93) := rfl
theorem at_65_93 : am_code 65 93 = some (ai_getP 7 8 96) := rfl
theorem at_65_96 : am_code 65 96 = some (ai_iload 4 98) := rfl
theorem at_65_98 : am_code 65 98 = some (ai_push (-2) 100) := rfl
theorem at_65_100 : am_code 65 100 = some (ai_ast 8 5 101) := rfl
theorem at_65_101 : am_code 65 101 = some (ai_iinc 4 1 104) := rfl
theorem at_65_104 : am_code 65 104 = some (ai_goto 23) := rfl
theorem at_65_107 : am_code 65 107 = some (ai_ret) := rfl
theorem at_66_0 : am_code 66 0 = some (ai_aload 0 1) := rfl
theorem at_66_1 : am_code 66 1 = some (ai_oinit 4) := rfl
theorem at_66_4 : am_code 66 4 = some (ai_aload 0 5) := rfl
theorem at_66_5 : am_code 66 5 = some (ai_push 5 6) := rfl
theorem at_66_6 : am_code 66 6 = some (ai_newa 51 5 8) := rfl
theorem at_66_8 : am_code 66 8 = some (ai_putP 50 1 11) := rfl
theorem at_66_11 : am_code 66 11 = some (ai_aload 0 12) := rfl
theorem at_66_12 : am_code 66 12 = some (ai_push 25 14) := rfl
theorem at_66_14 : am_code 66 14 = some (ai_newa 52 25 16) := rfl
theorem at_66_16 : am_code 66 16 = some (ai_putP 50 2 19) := rfl
theorem at_66_19 : am_code 66 19 = some (ai_aload 0 20) := rfl
theorem at_66_20 : am_code 66 20 = some (ai_push 25 22) := rfl
theorem at_66_22 : am_code 66 22 = some (ai_newa 53 25 24) := rfl
theorem at_66_24 : am_code 66 24 = some (ai_putP 50 3 27) := rfl
theorem at_66_27 : am_code 66 27 = some (ai_aload 0 28) := rfl
theorem at_66_28 : am_code 66 28 = some (ai_push 25 30) := rfl
theorem at_66_30 : am_code 66 30 = some (ai_newa 54 25 32) := rfl
theorem at_66_32 : am_code 66 32 = some (ai_putP 50 4 35) := rfl
theorem at_66_35 : am_code 66 35 = some (ai_aload 0 36) := rfl
theorem at_66_36 : am_code 66 36 = some (ai_push 25 38) := rfl
theorem at_66_38 : am_code 66 38 = some (ai_newa 55 25 40) := rfl
theorem at_66_40 : am_code 66 40 = some (ai_putP 50 5 43) := rfl
theorem at_66_43 : am_code 66 43 = some (ai_aload 0 44) := rfl
theorem at_66_44 : am_code 66 44 = some (ai_push 25 46) := rfl
theorem at_66_46 : am_code 66 46 = some (ai_newa 56 25 48) := rfl
theorem at_66_48 : am_code 66 48 = some (ai_putP 50 6 51) := rfl
theorem at_66_51 : am_code 66 51 = some (ai_aload 0 52) := rfl
theorem at_66_52 : am_code 66 52 = some (ai_push 25 54) := rfl
theorem at_66_54 : am_code 66 54 = some (ai_newa 57 25 56) := rfl
theorem at_66_56 : am_code 66 56 = some (ai_putP 50 7 59) := rfl
theorem at_66_59 : am_code 66 59 = some (ai_aload 0 60) := rfl
theorem at_66_60 : am_code 66 60 = some (ai_push 25 62) := rfl
theorem at_66_62 : am_code 66 62 = some (ai_newa 58 25 64) := rfl
theorem at_66_64 : am_code 66 64 = some (ai_putP 50 8 67) := rfl
theorem at_66_67 : am_code 66 67 = some (ai_aload 0 68) := rfl
theorem at_66_68 : am_code 66 68 = some (ai_push 25 70) := rfl
theorem at_66_70 : am_code 66 70 = some (ai_newa 59 25 72) := rfl
theorem at_66_72 : am_code 66 72 = some (ai_putP 50 9 75) := rfl
theorem at_66_75 : am_code 66 75 = some (ai_aload 0 76) := rfl
theorem at_66_76 : am_code 66 76 = some (ai_push 7 78) := rfl
theorem at_66_78 : am_code 66 78 = some (ai_newa 60 7 80) := rfl
theorem at_66_80 : am_code 66 80 = some (ai_putP 50 10 83) := rfl
theorem at_66_83 : am_code 66 83 = some (ai_aload 0 84) := rfl
theorem at_66_84 : am_code 66 84 = some (ai_push 60 86) := rfl
theorem at_66_86 : am_code 66 86 = some (ai_newa 61 60 88) := rfl
theorem at_66_88 : am_code 66 88 = some (ai_putP 50 11 91) := rfl
theorem at_66_91 : am_code 66 91 = some (ai_aload 0 92) := rfl
theorem at_66_92 : am_code 66 92 = some (ai_push 60 94) := rfl
theorem at_66_94 : am_code 66 94 = some (ai_newa 62 60 96) := rfl
theorem at_66_96 : am_code 66 96 = some (ai_putP 50 12 99) := rfl
theorem at_66_99 : am_code 66 99 = some (ai_aload 0 100) := rfl
theorem at_66_100 : am_code 66 100 = some (ai_push 300 103) := rfl
theorem at_66_103 : am_code 66 103 = some (ai_newa 63 300 105) := rfl
theorem at_66_105 : am_code 66 105 = some (ai_putP 50 13 108) := rfl
theorem at_66_108 : am_code 66 108 = some (ai_aload 0 109) := rfl
theorem at_66_109 : am_code 66 109 = some (ai_push 120 111) := rfl
theorem at_66_111 : am_code 66 111 = some (ai_newa 64 120 113) := rfl
theorem at_66_113 : am_code 66 113 = some (ai_putP 50 14 116) := rfl
theorem at_66_116 : am_code 66 116 = some (ai_aload 0 117) := rfl
theorem at_66_117 : am_code 66 117 = some (ai_push 120 119) := rfl
theorem at_66_119 : am_code 66 119 = some (ai_newa 65 120 121) := rfl
theorem at_66_121 : am_code 66 121 = some (ai_putP 50 15 124) := rfl
theorem at_66_124 : am_code 66 124 = some (ai_aload 0 125) := rfl
theorem at_66_125 : am_code 66 125 = some (ai_push 120 127) := rfl
theorem at_66_127 : am_code 66 127 = some (ai_newa 66 120 129) := rfl
theorem at_66_129 : am_code 66 129 = some (ai_putP 50 16 132) := rfl
theorem at_66_132 : am_code 66 132 = some (ai_aload 0 133) := rfl
theorem at_66_133 : am_code 66 133 = some (ai_push 5 134) := rfl
theorem at_66_134 : am_code 66 134 = some (ai_newa 67 5 136) := rfl
theorem at_66_136 : am_code 66 136 = some (ai_putP 50 17 139) := rfl
theorem at_66_139 : am_code 66 139 = some (ai_aload 0 140) := rfl
theorem at_66_140 : am_code 66 140 = some (ai_push 5 141) := rfl
theorem at_66_141 : am_code 66 141 = some (ai_newa 68 5 143) := rfl
theorem at_66_143 : am_code 66 143 = some (ai_putP 50 18 146) := rfl
theorem at_66_146 : am_code 66 146 = some (ai_aload 0 147) := rfl
theorem at_66_147 : am_code 66 147 = some (ai_push 125 149) := rfl
theorem at_66_149 : am_code 66 149 = some (ai_newa 69 125 151) := rfl
theorem at_66_151 : am_code 66 151 = some (ai_putP 50 19 154) := rfl
theorem at_66_154 : am_code 66 154 = some (ai_aload 0 155) := rfl
theorem at_66_155 : am_code 66 155 = some (ai_push 125 157) := rfl
theorem at_66_157 : am_code 66 157 = some (ai_newa 70 125 159) := rfl
theorem at_66_159 : am_code 66 159 = some (ai_putP 50 20 162) := rfl
theorem at_66_162 : am_code 66 162 = some (ai_aload 0 163) := rfl
theorem at_66_163 : am_code 66 163 = some (ai_push 125 165) := rfl
theorem at_66_165 : am_code 66 165 = some (ai_newa 71 125 167) := rfl
theorem at_66_167 : am_code 66 167 = some (ai_putP 50 21 170) := rfl
theorem at_66_170 : am_code 66 170 = some (ai_aload 0 171) := rfl
theorem at_66_171 : am_code 66 171 = some (ai_push 25 173) := rfl
theorem at_66_173 : am_code 66 173 = some (ai_newa 72 25 175) := rfl
theorem at_66_175 : am_code 66 175 = some (ai_putP 50 22 178) := rfl
theorem at_66_178 : am_code 66 178 = some (ai_aload 0 179) := rfl
theorem at_66_179 : am_code 66 179 = some (ai_push 5 180) := rfl
theorem at_66_180 : am_code 66 180 = some (ai_newa 73 5 182) := rfl
theorem at_66_182 : am_code 66 182 = some (ai_putP 50 23 185) := rfl
theorem at_66_185 : am_code 66 185 = some (ai_aload 0 186) := rfl
theorem at_66_186 : am_code 66 186 = some (ai_push 25 188) := rfl
theorem at_66_188 : am_code 66 188 = some (ai_newa 74 25 190) := rfl
theorem at_66_190 : am_code 66 190 = some (ai_putP 50 24 193) := rfl
theorem at_66_193 : am_code 66 193 = some (ai_ret) := rfl
theorem at_67_0 : am_code 67 0 = some (ai_iload 0 1) := rfl
theorem at_67_1 : am_code 67 1 = some (ai_if (fun x => x < 0) 13 4) := rfl
theorem at_67_4 : am_code 67 4 = some (ai_iload 0 5) := rfl
theorem at_67_5 : am_code 67 5 = some (ai_push 4 6) := rfl
theorem at_67_6 : am_code 67 6 = some (ai_icmp (fun x y => y < x) 13 9) := rfl
theorem at_67_9 : am_code 67 9 = some (ai_push 1 10) := rfl
theorem at_67_10 : am_code 67 10 = some (ai_goto 14) := rfl
theorem at_67_13 : am_code 67 13 = some (ai_push 0 14) := rfl
theorem at_67_14 : am_code 67 14 = some (ai_zret) := rfl
theorem at_68_0 : am_code 68 0 = some (ai_iload 1 1) := rfl
theorem at_68_1 : am_code 68 1 = some (ai_callS 67 1 4) := rfl
theorem at_68_4 : am_code 68 4 = some (ai_if (fun x => x = 0) 31 7) := rfl
theorem at_68_7 : am_code 68 7 = some (ai_iload 2 8) := rfl
theorem at_68_8 : am_code 68 8 = some (ai_callS 67 1 11) := rfl
theorem at_68_11 : am_code 68 11 = some (ai_if (fun x => x = 0) 31 14) := rfl
theorem at_68_14 : am_code 68 14 = some (ai_aload 0 15) := rfl
theorem at_68_15 : am_code 68 15 = some (ai_getP 50 2 18) := rfl
theorem at_68_18 : am_code 68 18 = some (ai_push 5 19) := rfl
theorem at_68_19 : am_code 68 19 = some (ai_iload 1 20) := rfl
theorem at_68_20 : am_code 68 20 = some (ai_bin (fun x y => x * y) 21) := rfl
theorem at_68_21 : am_code 68 21 = some (ai_iload 2 22) := rfl
theorem at_68_22 : am_code 68 22 = some (ai_bin (fun x y => x + y) 23) := rfl
theorem at_68_23 : am_code 68 23 = some (ai_ald 52 25 24) := rfl
theorem at_68_24 : am_code 68 24 = some (ai_if (fun x => x ≤ 0) 31 27) := rfl
theorem at_68_27 : am_code 68 27 = some (ai_push 1 28) := rfl
theorem at_68_28 : am_code 68 28 = some (ai_goto 32) := rfl
theorem at_68_31 : am_code 68 31 = some (ai_push 0 32) := rfl
theorem at_68_32 : am_code 68 32 = some (ai_zret) := rfl
theorem at_69_0 : am_code 69 0 = some (ai_aload 0 1) := rfl
theorem at_69_1 : am_code 69 1 = some (ai_getP 50 4 4) := rfl
theorem at_69_4 : am_code 69 4 = some (ai_push 5 5) := rfl
theorem at_69_5 : am_code 69 5 = some (ai_iload 1 6) := rfl
theorem at_69_6 : am_code 69 6 = some (ai_bin (fun x y => x * y) 7) := rfl
theorem at_69_7 : am_code 69 7 = some (ai_iload 2 8) := rfl
theorem at_69_8 : am_code 69 8 = some (ai_bin (fun x y => x + y) 9) := rfl
theorem at_69_9 : am_code 69 9 = some (ai_push 0 10) := rfl
theorem at_69_10 : am_code 69 10 = some (ai_zast 54 25 11) := rfl
theorem at_69_11 : am_code 69 11 = some (ai_aload 0 12) := rfl
theorem at_69_12 : am_code 69 12 = some (ai_getP 50 6 15) := rfl
theorem at_69_15 : am_code 69 15 = some (ai_push 5 16) := rfl
theorem at_69_16 : am_code 69 16 = some (ai_iload 1 17) := rfl
theorem at_69_17 : am_code 69 17 = some (ai_bin (fun x y => x * y) 18) := rfl
theorem at_69_18 : am_code 69 18 = some (ai_iload 2 19) := rfl
theorem at_69_19 : am_code 69 19 = some (ai_bin (fun x y => x + y) 20) := rfl
theorem at_69_20 : am_code 69 20 = some (ai_push 0 21) := rfl
theorem at_69_21 : am_code 69 21 = some (ai_zast 56 25 22) := rfl
theorem at_69_22 : am_code 69 22 = some (ai_aload 0 23) := rfl
theorem at_69_23 : am_code 69 23 = some (ai_getP 50 7 26) := rfl
theorem at_69_26 : am_code 69 26 = some (ai_push 5 27) := rfl
theorem at_69_27 : am_code 69 27 = some (ai_iload 1 28) := rfl
theorem at_69_28 : am_code 69 28 = some (ai_bin (fun x y => x * y) 29) := rfl
theorem at_69_29 : am_code 69 29 = some (ai_iload 2 30) := rfl
theorem at_69_30 : am_code 69 30 = some (ai_bin (fun x y => x + y) 31) := rfl
theorem at_69_31 : am_code 69 31 = some (ai_push 0 32) := rfl
theorem at_69_32 : am_code 69 32 = some (ai_zast 57 25 33) := rfl
theorem at_69_33 : am_code 69 33 = some (ai_push 0 34) := rfl
theorem at_69_34 : am_code 69 34 = some (ai_istore 3 35) := rfl
theorem at_69_35 : am_code 69 35 = some (ai_iload 3 36) := rfl
theorem at_69_36 : am_code 69 36 = some (ai_push 5 37) := rfl
theorem at_69_37 : am_code 69 37 = some (ai_icmp (fun x y => y ≤ x) 61 40) := rfl
theorem at_69_40 : am_code 69 40 = some (ai_aload 0 41) := rfl
theorem at_69_41 : am_code 69 41 = some (ai_getP 50 19 44) := rfl
theorem at_69_44 : am_code 69 44 = some (ai_push 5 45) := rfl
theorem at_69_45 : am_code 69 45 = some (ai_push 5 46) := rfl
theorem at_69_46 : am_code 69 46 = some (ai_iload 1 47) := rfl
theorem at_69_47 : am_code 69 47 = some (ai_bin (fun x y => x * y) 48) := rfl
theorem at_69_48 : am_code 69 48 = some (ai_iload 2 49) := rfl
theorem at_69_49 : am_code 69 49 = some (ai_bin (fun x y => x + y) 50) := rfl
theorem at_69_50 : am_code 69 50 = some (ai_bin (fun x y => x * y) 51) := rfl
theorem at_69_51 : am_code 69 51 = some (ai_iload 3 52) := rfl
theorem at_69_52 : am_code 69 52 = some (ai_bin (fun x y => x + y) 53) := rfl
theorem at_69_53 : am_code 69 53 = some (ai_push 0 54) := rfl
theorem at_69_54 : am_code 69 54 = some (ai_zast 69 125 55) := rfl
theorem at_69_55 : am_code 69 55 = some (ai_iinc 3 1 58) := rfl
theorem at_69_58 : am_code 69 58 = some (ai_goto 35) := rfl
theorem at_69_61 : am_code 69 61 = some (ai_ret) := rfl
theorem at_70_0 : am_code 70 0 = some (ai_iload 1 1) := rfl
theorem at_70_1 : am_code 70 1 = some (ai_callS 67 1 4) := rfl
theorem at_70_4 : am_code 70 4 = some (ai_if (fun x => x = 0) 43 7) := rfl
theorem at_70_7 : am_code 70 7 = some (ai_iload 2 8) := rfl
theorem at_70_8 : am_code 70 8 = some (ai_callS 67 1 11) := rfl
theorem at_70_11 : am_code 70 11 = some (ai_if (fun x => x = 0) 43 14) := rfl
theorem at_70_14 : am_code 70 14 = some (ai_iload 1 15) := rfl
theorem at_70_15 : am_code 70 15 = some (ai_iload 2 16) := rfl
theorem at_70_16 : am_code 70 16 = some (ai_icmp (fun x y => x = y) 43 19) := rfl
theorem at_70_19 : am_code 70 19 = some (ai_iload 3 20) := rfl
theorem at_70_20 : am_code 70 20 = some (ai_if (fun x => x < 0) 43 23) := rfl
theorem at_70_23 : am_code 70 23 = some (ai_iload 3 24) := rfl
theorem at_70_24 : am_code 70 24 = some (ai_push 9 26) := rfl
theorem at_70_26 : am_code 70 26 = some (ai_icmp (fun x y => y < x) 43 29) := rfl
theorem at_70_29 : am_code 70 29 = some (ai_aload 0 30) := rfl
theorem at_70_30 : am_code 70 30 = some (ai_getP 50 2 33) := rfl
theorem at_70_33 : am_code 70 33 = some (ai_push 5 34) := rfl
theorem at_70_34 : am_code 70 34 = some (ai_iload 1 35) := rfl
theorem at_70_35 : am_code 70 35 = some (ai_bin (fun x y => x * y) 36) := rfl
theorem at_70_36 : am_code 70 36 = some (ai_iload 2 37) := rfl
theorem at_70_37 : am_code 70 37 = some (ai_bin (fun x y => x + y) 38) := rfl
theorem at_70_38 : am_code 70 38 = some (ai_ald 52 25 39) := rfl
theorem at_70_39 : am_code 70 39 = some (ai_iload 3 40) := rfl
theorem at_70_40 : am_code 70 40 = some (ai_icmp (fun x y => ¬ x = y) 45 43) := rfl
theorem at_70_43 : am_code 70 43 = some (ai_push 0 44) := rfl
theorem at_70_44 : am_code 70 44 = some (ai_zret) := rfl
theorem at_70_45 : am_code 70 45 = some (ai_iload 3 46) := rfl
theorem at_70_46 : am_code 70 46 = some (ai_if (fun x => ¬ x = 0) 61 49) := rfl
theorem at_70_49 : am_code 70 49 = some (ai_aload 0 50) := rfl
theorem at_70_50 : am_code 70 50 = some (ai_iload 1 51) := rfl
theorem at_70_51 : am_code 70 51 = some (ai_iload 2 52) := rfl
theorem at_70_52 : am_code 70 52 = some (ai_callV 69 50 2 55) := rfl
theorem at_70_55 : am_code 70 55 = some (ai_aload 0 56) := rfl
theorem at_70_56 : am_code 70 56 = some (ai_iload 2 57) := rfl
theorem at_70_57 : am_code 70 57 = some (ai_iload 1 58) := rfl
theorem at_70_58 : am_code 70 58 = some (ai_callV 69 50 2 61) := rfl
theorem at_70_61 : am_code 70 61 = some (ai_aload 0 62) := rfl
theorem at_70_62 : am_code 70 62 = some (ai_getP 50 2 65) := rfl
theorem at_70_65 : am_code 70 65 = some (ai_push 5 66) := rfl
theorem at_70_66 : am_code 70 66 = some (ai_iload 1 67) := rfl
theorem at_70_67 : am_code 70 67 = some (ai_bin (fun x y => x * y) 68) := rfl
theorem at_70_68 : am_code 70 68 = some (ai_iload 2 69) := rfl
theorem at_70_69 : am_code 70 69 = some (ai_bin (fun x y => x + y) 70) := rfl
theorem at_70_70 : am_code 70 70 = some (ai_ald 52 25 71) := rfl
theorem at_70_71 : am_code 70 71 = some (ai_if (fun x => ¬ x = 0) 96 74) := rfl
theorem at_70_74 : am_code 70 74 = some (ai_aload 0 75) := rfl
theorem at_70_75 : am_code 70 75 = some (ai_getP 50 3 78) := rfl
theorem at_70_78 : am_code 70 78 = some (ai_push 5 79) := rfl
theorem at_70_79 : am_code 70 79 = some (ai_iload 1 80) := rfl
theorem at_70_80 : am_code 70 80 = some (ai_bin (fun x y => x * y) 81) := rfl
theorem at_70_81 : am_code 70 81 = some (ai_iload 2 82) := rfl
theorem at_70_82 : am_code 70 82 = some (ai_bin (fun x y => x + y) 83) := rfl
theorem at_70_83 : am_code 70 83 = some (ai_push 0 84) := rfl
theorem at_70_84 : am_code 70 84 = some (ai_ast 53 25 85) := rfl
theorem at_70_85 : am_code 70 85 = some (ai_aload 0 86) := rfl
theorem at_70_86 : am_code 70 86 = some (ai_getP 50 3 89) := rfl
theorem at_70_89 : am_code 70 89 = some (ai_push 5 90) := rfl
theorem at_70_90 : am_code 70 90 = some (ai_iload 2 91) := rfl
theorem at_70_91 : am_code 70 91 = some (ai_bin (fun x y => x * y) 92) := rfl
theorem at_70_92 : am_code 70 92 = some (ai_iload 1 93) := rfl
theorem at_70_93 : am_code 70 93 = some (ai_bin (fun x y => x + y) 94) := rfl
theorem at_70_94 : am_code 70 94 = some (ai_push 0 95) := rfl
theorem at_70_95 : am_code 70 95 = some (ai_ast 53 25 96) := rfl
theorem at_70_96 : am_code 70 96 = some (ai_aload 0 97) := rfl
theorem at_70_97 : am_code 70 97 = some (ai_getP 50 2 100) := rfl
theorem at_70_100 : am_code 70 100 = some (ai_push 5 101) := rfl
theorem at_70_101 : am_code 70 101 = some (ai_iload 1 102) := rfl
theorem at_70_102 : am_code 70 102 = some (ai_bin (fun x y => x * y) 103) := rfl
theorem at_70_103 : am_code 70 103 = some (ai_iload 2 104) := rfl
theorem at_70_104 : am_code 70 104 = some (ai_bin (fun x y => x + y) 105) := rfl
theorem at_70_105 : am_code 70 105 = some (ai_iload 3 106) := rfl
theorem at_70_106 : am_code 70 106 = some (ai_ast 52 25 107) := rfl
theorem at_70_107 : am_code 70 107 = some (ai_aload 0 108) := rfl
theorem at_70_108 : am_code 70 108 = some (ai_getP 50 2 111) := rfl
theorem at_70_111 : am_code 70 111 = some (ai_push 5 112) := rfl
theorem at_70_112 : am_code 70 112 = some (ai_iload 2 113) := rfl
theorem at_70_113 : am_code 70 113 = some (ai_bin (fun x y => x * y) 114) := rfl
theorem at_70_114 : am_code 70 114 = some (ai_iload 1 115) := rfl
theorem at_70_115 : am_code 70 115 = some (ai_bin (fun x y => x + y) 116) := rfl
theorem at_70_116 : am_code 70 116 = some (ai_iload 3 117) := rfl
theorem at_70_117 : am_code 70 117 = some (ai_ast 52 25 118) := rfl
theorem at_70_118 : am_code 70 118 = some (ai_push 1 119) := rfl
theorem at_70_119 : am_code 70 119 = some (ai_zret) := rfl
theorem at_71_0 : am_code 71 0 = some (ai_iload 1 1) := rfl
theorem at_71_1 : am_code 71 1 = some (ai_callS 67 1 4) := rfl
theorem at_71_4 : am_code 71 4 = some (ai_if (fun x => x = 0) 51 7) := rfl
theorem at_71_7 : am_code 71 7 = some (ai_iload 2 8) := rfl
theorem at_71_8 : am_code 71 8 = some (ai_if (fun x => x < 0) 51 11) := rfl
theorem at_71_11 : am_code 71 11 = some (ai_iload 2 12) := rfl
theorem at_71_12 : am_code 71 12 = some (ai_push 1 13) := rfl
theorem at_71_13 : am_code 71 13 = some (ai_icmp (fun x y => y < x) 51 16) := rfl
theorem at_71_16 : am_code 71 16 = some (ai_iload 4 18) := rfl
theorem at_71_18 : am_code 71 18 = some (ai_if (fun x => x < 0) 51 21) := rfl
theorem at_71_21 : am_code 71 21 = some (ai_iload 4 23) := rfl
theorem at_71_23 : am_code 71 23 = some (ai_push 8 25) := rfl
theorem at_71_25 : am_code 71 25 = some (ai_icmp (fun x y => y < x) 51 28) := rfl
theorem at_71_28 : am_code 71 28 = some (ai_iload 3 29) := rfl
theorem at_71_29 : am_code 71 29 = some (ai_if (fun x => x < 0) 51 32) := rfl
theorem at_71_32 : am_code 71 32 = some (ai_iload 3 33) := rfl
theorem at_71_33 : am_code 71 33 = some (ai_push 255 36) := rfl
theorem at_71_36 : am_code 71 36 = some (ai_icmp (fun x y => y < x) 51 39) := rfl
theorem at_71_39 : am_code 71 39 = some (ai_iload 5 41) := rfl
theorem at_71_41 : am_code 71 41 = some (ai_if (fun x => x < 0) 51 44) := rfl
theorem at_71_44 : am_code 71 44 = some (ai_iload 5 46) := rfl
theorem at_71_46 : am_code 71 46 = some (ai_push 9 48) := rfl
theorem at_71_48 : am_code 71 48 = some (ai_icmp (fun x y => x ≤ y) 53 51) := rfl
theorem at_71_51 : am_code 71 51 = some (ai_push 0 52) := rfl
theorem at_71_52 : am_code 71 52 = some (ai_zret) := rfl
theorem at_71_53 : am_code 71 53 = some (ai_iload 3 54) := rfl
theorem at_71_54 : am_code 71 54 = some (ai_push 1 55) := rfl
theorem at_71_55 : am_code 71 55 = some (ai_push 8 57) := rfl
theorem at_71_57 : am_code 71 57 = some (ai_iload 4 59) := rfl
theorem at_71_59 : am_code 71 59 = some (ai_bin (fun x y => x - y) 60) := rfl
theorem at_71_60 : am_code 71 60 = some (ai_bin (fun x y => x <<< (y &&& 31)) 61) := rfl
theorem at_71_61 : am_code 71 61 = some (ai_push 1 62) := rfl
theorem at_71_62 : am_code 71 62 = some (ai_bin (fun x y => x - y) 63) := rfl
theorem at_71_63 : am_code 71 63 = some (ai_bin (fun x y => x &&& y) 64) := rfl
theorem at_71_64 : am_code 71 64 = some (ai_if (fun x => x = 0) 69 67) := rfl
theorem at_71_67 : am_code 71 67 = some (ai_push 0 68) := rfl
theorem at_71_68 : am_code 71 68 = some (ai_zret) := rfl
theorem at_71_69 : am_code 71 69 = some (ai_push 2 70) := rfl
theorem at_71_70 : am_code 71 70 = some (ai_push 55 72) := rfl
theorem at_71_72 : am_code 71 72 = some (ai_iload 1 73) := rfl
theorem at_71_73 : am_code 71 73 = some (ai_bin (fun x y => x + y) 74) := rfl
theorem at_71_74 : am_code 71 74 = some (ai_bin (fun x y => x * y) 75) := rfl
theorem at_71_75 : am_code 71 75 = some (ai_iload 2 76) := rfl
theorem at_71_76 : am_code 71 76 = some (ai_bin (fun x y => x + y) 77) := rfl
theorem at_71_77 : am_code 71 77 = some (ai_istore 6 79) := rfl
theorem at_71_79 : am_code 71 79 = some (ai_aload 0 80) := rfl
theorem at_71_80 : am_code 71 80 = some (ai_getP 50 14 83) := rfl
theorem at_71_83 : am_code 71 83 = some (ai_iload 6 85) := rfl
theorem at_71_85 : am_code 71 85 = some (ai_iload 5 87) := rfl
theorem at_71_87 : am_code 71 87 = some (ai_if (fun x => x ≤ 0) 94 90) := rfl
theorem at_71_90 : am_code 71 90 = some (ai_iload 3 91) := rfl
theorem at_71_91 : am_code 71 91 = some (ai_goto 95) := rfl
theorem at_71_94 : am_code 71 94 = some (ai_push 0 95) := rfl
theorem at_71_95 : am_code 71 95 = some (ai_ast 64 120 96) := rfl
theorem at_71_96 : am_code 71 96 = some (ai_aload 0 97) := rfl
theorem at_71_97 : am_code 71 97 = some (ai_getP 50 15 100) := rfl
theorem at_71_100 : am_code 71 100 = some (ai_iload 6 102) := rfl
theorem at_71_102 : am_code 71 102 = some (ai_iload 5 104) := rfl
theorem at_71_104 : am_code 71 104 = some (ai_if (fun x => x ≤ 0) 112 107) := rfl
theorem at_71_107 : am_code 71 107 = some (ai_iload 4 109) := rfl
theorem at_71_109 : am_code 71 109 = some (ai_goto 113) := rfl
theorem at_71_112 : am_code 71 112 = some (ai_push 0 113) := rfl
theorem at_71_113 : am_code 71 113 = some (ai_ast 65 120 114) := rfl
theorem at_71_114 : am_code 71 114 = some (ai_aload 0 115) := rfl
theorem at_71_115 : am_code 71 115 = some (ai_getP 50 16 118) := rfl
theorem at_71_118 : am_code 71 118 = some (ai_iload 6 120) := rfl
theorem at_71_120 : am_code 71 120 = some (ai_iload 5 122) := rfl
theorem at_71_122 : am_code 71 122 = some (ai_ast 66 120 123) := rfl
theorem at_71_123 : am_code 71 123 = some (ai_push 1 124) := rfl
theorem at_71_124 : am_code 71 124 = some (ai_zret) := rfl
theorem at_72_0 : am_code 72 0 = some (ai_iload 1 1) := rfl
theorem at_72_1 : am_code 72 1 = some (ai_callS 67 1 4) := rfl
theorem at_72_4 : am_code 72 4 = some (ai_if (fun x => x = 0) 17 7) := rfl
theorem at_72_7 : am_code 72 7 = some (ai_aload 0 8) := rfl
theorem at_72_8 : am_code 72 8 = some (ai_getP 50 1 11) := rfl
theorem at_72_11 : am_code 72 11 = some (ai_iload 1 12) := rfl
theorem at_72_12 : am_code 72 12 = some (ai_ald 51 5 13) := rfl
theorem at_72_13 : am_code 72 13 = some (ai_iload 2 14) := rfl
theorem at_72_14 : am_code 72 14 = some (ai_icmp (fun x y => x = y) 19 17) := rfl
theorem at_72_17 : am_code 72 17 = some (ai_push 0 18) := rfl
theorem at_72_18 : am_code 72 18 = some (ai_zret) := rfl
theorem at_72_19 : am_code 72 19 = some (ai_aload 0 20) := rfl
theorem at_72_20 : am_code 72 20 = some (ai_getP 50 1 23) := rfl
theorem at_72_23 : am_code 72 23 = some (ai_iload 1 24) := rfl
theorem at_72_24 : am_code 72 24 = some (ai_iload 2 25) := rfl
theorem at_72_25 : am_code 72 25 = some (ai_if (fun x => ¬ x = 0) 32 28) := rfl
theorem at_72_28 : am_code 72 28 = some (ai_push 1 29) := rfl
theorem at_72_29 : am_code 72 29 = some (ai_goto 33) := rfl
theorem at_72_32 : am_code 72 32 = some (ai_push 0 33) := rfl
theorem at_72_33 : am_code 72 33 = some (ai_zast 51 5 34) := rfl
theorem at_72_34 : am_code 72 34 = some (ai_push 0 35) := rfl
theorem at_72_35 : am_code 72 35 = some (ai_istore 3 36) := rfl
theorem at_72_36 : am_code 72 36 = some (ai_iload 3 37) := rfl
theorem at_72_37 : am_code 72 37 = some (ai_push 5 38) := rfl
theorem at_72_38 : am_code 72 38 = some (ai_icmp (fun x y => y ≤ x) 68 41) := rfl
theorem at_72_41 : am_code 72 41 = some (ai_iload 2 42) := rfl
theorem at_72_42 : am_code 72 42 = some (ai_if (fun x => ¬ x = 0) 68 45) := rfl
theorem at_72_45 : am_code 72 45 = some (ai_aload 0 46) := rfl
theorem at_72_46 : am_code 72 46 = some (ai_iload 1 47) := rfl
theorem at_72_47 : am_code 72 47 = some (ai_iload 3 48) := rfl
theorem at_72_48 : am_code 72 48 = some (ai_callV 69 50 2 51) := rfl
theorem at_72_51 : am_code 72 51 = some (ai_aload 0 52) := rfl
theorem at_72_52 : am_code 72 52 = some (ai_getP 50 11 55) := rfl
theorem at_72_55 : am_code 72 55 = some (ai_push 5 56) := rfl
theorem at_72_56 : am_code 72 56 = some (ai_iload 1 57) := rfl
theorem at_72_57 : am_code 72 57 = some (ai_bin (fun x y => x * y) 58) := rfl
theorem at_72_58 : am_code 72 58 = some (ai_iload 3 59) := rfl
theorem at_72_59 : am_code 72 59 = some (ai_bin (fun x y => x + y) 60) := rfl
theorem at_72_60 : am_code 72 60 = some (ai_push 0 61) := rfl
theorem at_72_61 : am_code 72 61 = some (ai_ast 61 60 62) := rfl
theorem at_72_62 : am_code 72 62 = some (ai_iinc 3 1 65) := rfl
theorem at_72_65 : am_code 72 65 = some (ai_goto 36) := rfl
theorem at_72_68 : am_code 72 68 = some (ai_iload 2 69) := rfl
theorem at_72_69 : am_code 72 69 = some (ai_if (fun x => ¬ x = 0) 96 72) := rfl
theorem at_72_72 : am_code 72 72 = some (ai_aload 0 73) := rfl
theorem at_72_73 : am_code 72 73 = some (ai_getP 50 11 76) := rfl
theorem at_72_76 : am_code 72 76 = some (ai_push 50 78) := rfl
theorem at_72_78 : am_code 72 78 = some (ai_iload 1 79) := rfl
theorem at_72_79 : am_code 72 79 = some (ai_bin (fun x y => x + y) 80) := rfl
theorem at_72_80 : am_code 72 80 = some (ai_push 0 81) := rfl
theorem at_72_81 : am_code 72 81 = some (ai_ast 61 60 82) := rfl
theorem at_72_82 : am_code 72 82 = some (ai_aload 0 83) := rfl
theorem at_72_83 : am_code 72 83 = some (ai_getP 50 17 86) := rfl
theorem at_72_86 : am_code 72 86 = some (ai_iload 1 87) := rfl
theorem at_72_87 : am_code 72 87 = some (ai_push 0 88) := rfl
theorem at_72_88 : am_code 72 88 = some (ai_ast 67 5 89) := rfl
theorem at_72_89 : am_code 72 89 = some (ai_aload 0 90) := rfl
theorem at_72_90 : am_code 72 90 = some (ai_getP 50 18 93) := rfl
theorem at_72_93 : am_code 72 93 = some (ai_iload 1 94) := rfl
theorem at_72_94 : am_code 72 94 = some (ai_push 0 95) := rfl
theorem at_72_95 : am_code 72 95 = some (ai_zast 68 5 96) := rfl
theorem at_72_96 : am_code 72 96 = some (ai_push 1 97) := rfl
theorem at_72_97 : am_code 72 97 = some (ai_zret) := rfl
theorem at_73_0 : am_code 73 0 = some (ai_aload 0 1) := rfl
theorem at_73_1 : am_code 73 1 = some (ai_iload 1 2) := rfl
theorem at_73_2 : am_code 73 2 = some (ai_iload 2 3) := rfl
theorem at_73_3 : am_code 73 3 = some (ai_callV 68 50 2 6) := rfl
theorem at_73_6 : am_code 73 6 = some (ai_if (fun x => x = 0) 19 9) := rfl
theorem at_73_9 : am_code 73 9 = some (ai_iload 3 10) := rfl
theorem at_73_10 : am_code 73 10 = some (ai_if (fun x => x < 0) 19 13) := rfl
theorem at_73_13 : am_code 73 13 = some (ai_iload 3 14) := rfl
theorem at_73_14 : am_code 73 14 = some (ai_push 9 16) := rfl
theorem at_73_16 : am_code 73 16 = some (ai_icmp (fun x y => x ≤ y) 21 19) := rfl
theorem at_73_19 : am_code 73 19 = some (ai_push 0 20) := rfl
theorem at_73_20 : am_code 73 20 = some (ai_zret) := rfl
theorem at_73_21 : am_code 73 21 = some (ai_aload 0 22) := rfl
theorem at_73_22 : am_code 73 22 = some (ai_getP 50 3 25) := rfl
theorem at_73_25 : am_code 73 25 = some (ai_push 5 26) := rfl
theorem at_73_26 : am_code 73 26 = some (ai_iload 1 27) := rfl
theorem at_73_27 : am_code 73 27 = some (ai_bin (fun x y => x * y) 28) := rfl
theorem at_73_28 : am_code 73 28 = some (ai_iload 2 29) := rfl
theorem at_73_29 : am_code 73 29 = some (ai_bin (fun x y => x + y) 30) := rfl
theorem at_73_30 : am_code 73 30 = some (ai_iload 3 31) := rfl
theorem at_73_31 : am_code 73 31 = some (ai_ast 53 25 32) := rfl
theorem at_73_32 : am_code 73 32 = some (ai_push 1 33) := rfl
theorem at_73_33 : am_code 73 33 = some (ai_zret) := rfl
theorem at_74_0 : am_code 74 0 = some (ai_aload 0 1) := rfl
theorem at_74_1 : am_code 74 1 = some (ai_getP 50 11 4) := rfl
theorem at_74_4 : am_code 74 4 = some (ai_iload 2 5) := rfl
theorem at_74_5 : am_code 74 5 = some (ai_aload 0 6) := rfl
theorem at_74_6 : am_code 74 6 = some (ai_getP 50 11 9) := rfl
theorem at_74_9 : am_code 74 9 = some (ai_iload 1 10) := rfl
theorem at_74_10 : am_code 74 10 = some (ai_ald 61 60 11) := rfl
theorem at_74_11 : am_code 74 11 = some (ai_ast 61 60 12) := rfl
theorem at_74_12 : am_code 74 12 = some (ai_aload 0 13) := rfl
theorem at_74_13 : am_code 74 13 = some (ai_getP 50 12 16) := rfl
theorem at_74_16 : am_code 74 16 = some (ai_iload 2 17) := rfl
theorem at_74_17 : am_code 74 17 = some (ai_aload 0 18) := rfl
theorem at_74_18 : am_code 74 18 = some (ai_getP 50 12 21) := rfl
theorem at_74_21 : am_code 74 21 = some (ai_iload 1 22) := rfl
theorem at_74_22 : am_code 74 22 = some (ai_ald 62 60 23) := rfl
theorem at_74_23 : am_code 74 23 = some (ai_ast 62 60 24) := rfl
theorem at_74_24 : am_code 74 24 = some (ai_push 0 25) := rfl
theorem at_74_25 : am_code 74 25 = some (ai_istore 3 26) := rfl
theorem at_74_26 : am_code 74 26 = some (ai_iload 3 27) := rfl
theorem at_74_27 : am_code 74 27 = some (ai_push 5 28) := rfl
theorem at_74_28 : am_code 74 28 = some (ai_icmp (fun x y => y ≤ x) 57 31) := rfl
theorem at_74_31 : am_code 74 31 = some (ai_aload 0 32) := rfl
theorem at_74_32 : am_code 74 32 = some (ai_getP 50 13 35) := rfl
theorem at_74_35 : am_code 74 35 = some (ai_push 5 36) := rfl
theorem at_74_36 : am_code 74 36 = some (ai_iload 2 37) := rfl
theorem at_74_37 : am_code 74 37 = some (ai_bin (fun x y => x * y) 38) := rfl
theorem at_74_38 : am_code 74 38 = some (ai_iload 3 39) := rfl
theorem at_74_39 : am_code 74 39 = some (ai_bin (fun x y => x + y) 40) := rfl
theorem at_74_40 : am_code 74 40 = some (ai_aload 0 41) := rfl
theorem at_74_41 : am_code 74 41 = some (ai_getP 50 13 44) := rfl
theorem at_74_44 : am_code 74 44 = some (ai_push 5 45) := rfl
theorem at_74_45 : am_code 74 45 = some (ai_iload 1 46) := rfl
theorem at_74_46 : am_code 74 46 = some (ai_bin (fun x y => x * y) 47) := rfl
theorem at_74_47 : am_code 74 47 = some (ai_iload 3 48) := rfl
theorem at_74_48 : am_code 74 48 = some (ai_bin (fun x y => x + y) 49) := rfl
theorem at_74_49 : am_code 74 49 = some (ai_ald 63 300 50) := rfl
theorem at_74_50 : am_code 74 50 = some (ai_ast 63 300 51) := rfl
theorem at_74_51 : am_code 74 51 = some (ai_iinc 3 1 54) := rfl
theorem at_74_54 : am_code 74 54 = some (ai_goto 26) := rfl
theorem at_74_57 : am_code 74 57 = some (ai_push 0 58) := rfl
theorem at_74_58 : am_code 74 58 = some (ai_istore 3 59) := rfl
theorem at_74_59 : am_code 74 59 = some (ai_iload 3 60) := rfl
theorem at_74_60 : am_code 74 60 = some (ai_push 2 61) := rfl
theorem at_74_61 : am_code 74 61 = some (ai_icmp (fun x y => y ≤ x) 130 64) := rfl
theorem at_74_64 : am_code 74 64 = some (ai_aload 0 65) := rfl
theorem at_74_65 : am_code 74 65 = some (ai_getP 50 14 68) := rfl
theorem at_74_68 : am_code 74 68 = some (ai_push 2 69) := rfl
theorem at_74_69 : am_code 74 69 = some (ai_iload 2 70) := rfl
theorem at_74_70 : am_code 74 70 = some (ai_bin (fun x y => x * y) 71) := rfl
theorem at_74_71 : am_code 74 71 = some (ai_iload 3 72) := rfl
theorem at_74_72 : am_code 74 72 = some (ai_bin (fun x y => x + y) 73) := rfl
theorem at_74_73 : am_code 74 73 = some (ai_aload 0 74) := rfl
theorem at_74_74 : am_code 74 74 = some (ai_getP 50 14 77) := rfl
theorem at_74_77 : am_code 74 77 = some (ai_push 2 78) := rfl
theorem at_74_78 : am_code 74 78 = some (ai_iload 1 79) := rfl
theorem at_74_79 : am_code 74 79 = some (ai_bin (fun x y => x * y) 80) := rfl
theorem at_74_80 : am_code 74 80 = some (ai_iload 3 81) := rfl
theorem at_74_81 : am_code 74 81 = some (ai_bin (fun x y => x + y) 82) := rfl
theorem at_74_82 : am_code 74 82 = some (ai_ald 64 120 83) := rfl
theorem at_74_83 : am_code 74 83 = some (ai_ast 64 120 84) := rfl
theorem at_74_84 : am_code 74 84 = some (ai_aload 0 85) := rfl
theorem at_74_85 : am_code 74 85 = some (ai_getP 50 15 88) := rfl
theorem at_74_88 : am_code 74 88 = some (ai_push 2 89) := rfl
theorem at_74_89 : am_code 74 89 = some (ai_iload 2 90) := rfl
theorem at_74_90 : am_code 74 90 = some (ai_bin (fun x y => x * y) 91) := rfl
theorem at_74_91 : am_code 74 91 = some (ai_iload 3 92) := rfl
theorem at_74_92 : am_code 74 92 = some (ai_bin (fun x y => x + y) 93) := rfl
theorem at_74_93 : am_code 74 93 = some (ai_aload 0 94) := rfl
theorem at_74_94 : am_code 74 94 = some (ai_getP 50 15 97) := rfl
theorem at_74_97 : am_code 74 97 = some (ai_push 2 98) := rfl
theorem at_74_98 : am_code 74 98 = some (ai_iload 1 99) := rfl
theorem at_74_99 : am_code 74 99 = some (ai_bin (fun x y => x * y) 100) := rfl
theorem at_74_100 : am_code 74 100 = some (ai_iload 3 101) := rfl
theorem at_74_101 : am_code 74 101 = some (ai_bin (fun x y => x + y) 102) := rfl
theorem at_74_102 : am_code 74 102 = some (ai_ald 65 120 103) := rfl
theorem at_74_103 : am_code 74 103 = some (ai_ast 65 120 104) := rfl
theorem at_74_104 : am_code 74 104 = some (ai_aload 0 105) := rfl
theorem at_74_105 : am_code 74 105 = some (ai_getP 50 16 108) := rfl
theorem at_74_108 : am_code 74 108 = some (ai_push 2 109) := rfl
theorem at_74_109 : am_code 74 109 = some (ai_iload 2 110) := rfl
theorem at_74_110 : am_code 74 110 = some (ai_bin (fun x y => x * y) 111) := rfl
theorem at_74_111 : am_code 74 111 = some (ai_iload 3 112) := rfl
theorem at_74_112 : am_code 74 112 = some (ai_bin (fun x y => x + y) 113) := rfl
theorem at_74_113 : am_code 74 113 = some (ai_aload 0 114) := rfl
theorem at_74_114 : am_code 74 114 = some (ai_getP 50 16 117) := rfl
theorem at_74_117 : am_code 74 117 = some (ai_push 2 118) := rfl
theorem at_74_118 : am_code 74 118 = some (ai_iload 1 119) := rfl
theorem at_74_119 : am_code 74 119 = some (ai_bin (fun x y => x * y) 120) := rfl
theorem at_74_120 : am_code 74 120 = some (ai_iload 3 121) := rfl
theorem at_74_121 : am_code 74 121 = some (ai_bin (fun x y => x + y) 122) := rfl
theorem at_74_122 : am_code 74 122 = some (ai_ald 66 120 123) := rfl
theorem at_74_123 : am_code 74 123 = some (ai_ast 66 120 124) := rfl
theorem at_74_124 : am_code 74 124 = some (ai_iinc 3 1 127) := rfl
theorem at_74_127 : am_code 74 127 = some (ai_goto 59) := rfl
theorem at_74_130 : am_code 74 130 = some (ai_ret) := rfl
theorem at_75_0 : am_code 75 0 = some (ai_push 1 1) := rfl
theorem at_75_1 : am_code 75 1 = some (ai_istore 3 2) := rfl
theorem at_75_2 : am_code 75 2 = some (ai_push 0 3) := rfl
theorem at_75_3 : am_code 75 3 = some (ai_istore 4 5) := rfl
theorem at_75_5 : am_code 75 5 = some (ai_iload 4 7) := rfl
theorem at_75_7 : am_code 75 7 = some (ai_push 5 8) := rfl
theorem at_75_8 : am_code 75 8 = some (ai_icmp (fun x y => y ≤ x) 52 11) := rfl
theorem at_75_11 : am_code 75 11 = some (ai_iload 3 12) := rfl
theorem at_75_12 : am_code 75 12 = some (ai_if (fun x => x = 0) 44 15) := rfl
theorem at_75_15 : am_code 75 15 = some (ai_aload 0 16) := rfl
theorem at_75_16 : am_code 75 16 = some (ai_getP 50 13 19) := rfl
theorem at_75_19 : am_code 75 19 = some (ai_push 5 20) := rfl
theorem at_75_20 : am_code 75 20 = some (ai_iload 1 21) := rfl
theorem at_75_21 : am_code 75 21 = some (ai_bin (fun x y => x * y) 22) := rfl
theorem at_75_22 : am_code 75 22 = some (ai_iload 4 24) := rfl
theorem at_75_24 : am_code 75 24 = some (ai_bin (fun x y => x + y) 25) := rfl
theorem at_75_25 : am_code 75 25 = some (ai_ald 63 300 26) := rfl
theorem at_75_26 : am_code 75 26 = some (ai_aload 0 27) := rfl
theorem at_75_27 : am_code 75 27 = some (ai_getP 50 13 30) := rfl
theorem at_75_30 : am_code 75 30 = some (ai_push 5 31) := rfl
theorem at_75_31 : am_code 75 31 = some (ai_iload 2 32) := rfl
theorem at_75_32 : am_code 75 32 = some (ai_bin (fun x y => x * y) 33) := rfl
theorem at_75_33 : am_code 75 33 = some (ai_iload 4 35) := rfl
theorem at_75_35 : am_code 75 35 = some (ai_bin (fun x y => x + y) 36) := rfl
theorem at_75_36 : am_code 75 36 = some (ai_ald 63 300 37) := rfl
theorem at_75_37 : am_code 75 37 = some (ai_icmp (fun x y => ¬ x = y) 44 40) := rfl
theorem at_75_40 : am_code 75 40 = some (ai_push 1 41) := rfl
theorem at_75_41 : am_code 75 41 = some (ai_goto 45) := rfl
theorem at_75_44 : am_code 75 44 = some (ai_push 0 45) := rfl
theorem at_75_45 : am_code 75 45 = some (ai_istore 3 46) := rfl
theorem at_75_46 : am_code 75 46 = some (ai_iinc 4 1 49) := rfl
theorem at_75_49 : am_code 75 49 = some (ai_goto 5) := rfl
theorem at_75_52 : am_code 75 52 = some (ai_push 0 53) := rfl
theorem at_75_53 : am_code 75 53 = some (ai_istore 4 55) := rfl
theorem at_75_55 : am_code 75 55 = some (ai_iload 4 57) := rfl
theorem at_75_57 : am_code 75 57 = some (ai_push 2 58) := rfl
theorem at_75_58 : am_code 75 58 = some (ai_icmp (fun x y => y ≤ x) 152 61) := rfl
theorem at_75_61 : am_code 75 61 = some (ai_iload 3 62) := rfl
theorem at_75_62 : am_code 75 62 = some (ai_if (fun x => x = 0) 144 65) := rfl
theorem at_75_65 : am_code 75 65 = some (ai_aload 0 66) := rfl
theorem at_75_66 : am_code 75 66 = some (ai_getP 50 14 69) := rfl
theorem at_75_69 : am_code 75 69 = some (ai_push 2 70) := rfl
theorem at_75_70 : am_code 75 70 = some (ai_iload 1 71) := rfl
theorem at_75_71 : am_code 75 71 = some (ai_bin (fun x y => x * y) 72) := rfl
theorem at_75_72 : am_code 75 72 = some (ai_iload 4 74) := rfl
theorem at_75_74 : am_code 75 74 = some (ai_bin (fun x y => x + y) 75) := rfl
theorem at_75_75 : am_code 75 75 = some (ai_ald 64 120 76) := rfl
theorem at_75_76 : am_code 75 76 = some (ai_aload 0 77) := rfl
theorem at_75_77 : am_code 75 77 = some (ai_getP 50 14 80) := rfl
theorem at_75_80 : am_code 75 80 = some (ai_push 2 81) := rfl
theorem at_75_81 : am_code 75 81 = some (ai_iload 2 82) := rfl
theorem at_75_82 : am_code 75 82 = some (ai_bin (fun x y => x * y) 83) := rfl
theorem at_75_83 : am_code 75 83 = some (ai_iload 4 85) := rfl
theorem at_75_85 : am_code 75 85 = some (ai_bin (fun x y => x + y) 86) := rfl
theorem at_75_86 : am_code 75 86 = some (ai_ald 64 120 87) := rfl
theorem at_75_87 : am_code 75 87 = some (ai_icmp (fun x y => ¬ x = y) 144 90) := rfl
theorem at_75_90 : am_code 75 90 = some (ai_aload 0 91) := rfl
theorem at_75_91 : am_code 75 91 = some (ai_getP 50 15 94) := rfl
theorem at_75_94 : am_code 75 94 = some (ai_push 2 95) := rfl
theorem at_75_95 : am_code 75 95 = some (ai_iload 1 96) := rfl
theorem at_75_96 : am_code 75 96 = some (ai_bin (fun x y => x * y) 97) := rfl
theorem at_75_97 : am_code 75 97 = some (ai_iload 4 99) := rfl
theorem at_75_99 : am_code 75 99 = some (ai_bin (fun x y => x + y) 100) := rfl
theorem at_75_100 : am_code 75 100 = some (ai_ald 65 120 101) := rfl
theorem at_75_101 : am_code 75 101 = some (ai_aload 0 102) := rfl
theorem at_75_102 : am_code 75 102 = some (ai_getP 50 15 105) := rfl
theorem at_75_105 : am_code 75 105 = some (ai_push 2 106) := rfl
theorem at_75_106 : am_code 75 106 = some (ai_iload 2 107) := rfl
theorem at_75_107 : am_code 75 107 = some (ai_bin (fun x y => x * y) 108) := rfl
theorem at_75_108 : am_code 75 108 = some (ai_iload 4 110) := rfl
theorem at_75_110 : am_code 75 110 = some (ai_bin (fun x y => x + y) 111) := rfl
theorem at_75_111 : am_code 75 111 = some (ai_ald 65 120 112) := rfl
theorem at_75_112 : am_code 75 112 = some (ai_icmp (fun x y => ¬ x = y) 144 115) := rfl
theorem at_75_115 : am_code 75 115 = some (ai_aload 0 116) := rfl
theorem at_75_116 : am_code 75 116 = some (ai_getP 50 16 119) := rfl
theorem at_75_119 : am_code 75 119 = some (ai_push 2 120) := rfl
theorem at_75_120 : am_code 75 120 = some (ai_iload 1 121) := rfl
theorem at_75_121 : am_code 75 121 = some (ai_bin (fun x y => x * y) 122) := rfl
theorem at_75_122 : am_code 75 122 = some (ai_iload 4 124) := rfl
theorem at_75_124 : am_code 75 124 = some (ai_bin (fun x y => x + y) 125) := rfl
theorem at_75_125 : am_code 75 125 = some (ai_ald 66 120 126) := rfl
theorem at_75_126 : am_code 75 126 = some (ai_aload 0 127) := rfl
theorem at_75_127 : am_code 75 127 = some (ai_getP 50 16 130) := rfl
theorem at_75_130 : am_code 75 130 = some (ai_push 2 131) := rfl
theorem at_75_131 : am_code 75 131 = some (ai_iload 2 132) := rfl
theorem at_75_132 : am_code 75 132 = some (ai_bin (fun x y => x * y) 133) := rfl
theorem at_75_133 : am_code 75 133 = some (ai_iload 4 135) := rfl
theorem at_75_135 : am_code 75 135 = some (ai_bin (fun x y => x + y) 136) := rfl
theorem at_75_136 : am_code 75 136 = some (ai_ald 66 120 137) := rfl
theorem at_75_137 : am_code 75 137 = some (ai_icmp (fun x y => ¬ x = y) 144 140) := rfl
theorem at_75_140 : am_code 75 140 = some (ai_push 1 141) := rfl
theorem at_75_141 : am_code 75 141 = some (ai_goto 145) := rfl
theorem at_75_144 : am_code 75 144 = some (ai_push 0 145) := rfl
theorem at_75_145 : am_code 75 145 = some (ai_istore 3 146) := rfl
theorem at_75_146 : am_code 75 146 = some (ai_iinc 4 1 149) := rfl
theorem at_75_149 : am_code 75 149 = some (ai_goto 55) := rfl
theorem at_75_152 : am_code 75 152 = some (ai_iload 3 153) := rfl
theorem at_75_153 : am_code 75 153 = some (ai_zret) := rfl
theorem at_76_0 : am_code 76 0 = some (ai_aload 0 1) := rfl
theorem at_76_1 : am_code 76 1 = some (ai_getP 50 11 4) := rfl
theorem at_76_4 : am_code 76 4 = some (ai_iload 1 5) := rfl
theorem at_76_5 : am_code 76 5 = some (ai_ald 61 60 6) := rfl
theorem at_76_6 : am_code 76 6 = some (ai_aload 0 7) := rfl
theorem at_76_7 : am_code 76 7 = some (ai_getP 50 11 10) := rfl
theorem at_76_10 : am_code 76 10 = some (ai_iload 2 11) := rfl
theorem at_76_11 : am_code 76 11 = some (ai_ald 61 60 12) := rfl
theorem at_76_12 : am_code 76 12 = some (ai_icmp (fun x y => x < y) 45 15) := rfl
theorem at_76_15 : am_code 76 15 = some (ai_aload 0 16) := rfl
theorem at_76_16 : am_code 76 16 = some (ai_getP 50 11 19) := rfl
theorem at_76_19 : am_code 76 19 = some (ai_iload 1 20) := rfl
theorem at_76_20 : am_code 76 20 = some (ai_ald 61 60 21) := rfl
theorem at_76_21 : am_code 76 21 = some (ai_aload 0 22) := rfl
theorem at_76_22 : am_code 76 22 = some (ai_getP 50 11 25) := rfl
theorem at_76_25 : am_code 76 25 = some (ai_iload 2 26) := rfl
theorem at_76_26 : am_code 76 26 = some (ai_ald 61 60 27) := rfl
theorem at_76_27 : am_code 76 27 = some (ai_icmp (fun x y => ¬ x = y) 49 30) := rfl
theorem at_76_30 : am_code 76 30 = some (ai_aload 0 31) := rfl
theorem at_76_31 : am_code 76 31 = some (ai_getP 50 12 34) := rfl
theorem at_76_34 : am_code 76 34 = some (ai_iload 1 35) := rfl
theorem at_76_35 : am_code 76 35 = some (ai_ald 62 60 36) := rfl
theorem at_76_36 : am_code 76 36 = some (ai_aload 0 37) := rfl
theorem at_76_37 : am_code 76 37 = some (ai_getP 50 12 40) := rfl
theorem at_76_40 : am_code 76 40 = some (ai_iload 2 41) := rfl
theorem at_76_41 : am_code 76 41 = some (ai_ald 62 60 42) := rfl
theorem at_76_42 : am_code 76 42 = some (ai_icmp (fun x y => y ≤ x) 49 45) := rfl
theorem at_76_45 : am_code 76 45 = some (ai_push 1 46) := rfl
theorem at_76_46 : am_code 76 46 = some (ai_goto 50) := rfl
theorem at_76_49 : am_code 76 49 = some (ai_push 0 50) := rfl
theorem at_76_50 : am_code 76 50 = some (ai_zret) := rfl
theorem at_77_0 : am_code 77 0 = some (ai_aload 0 1) := rfl
theorem at_77_1 : am_code 77 1 = some (ai_getP 50 11 4) := rfl
theorem at_77_4 : am_code 77 4 = some (ai_iload 1 5) := rfl
theorem at_77_5 : am_code 77 5 = some (ai_ald 61 60 6) := rfl
theorem at_77_6 : am_code 77 6 = some (ai_aload 0 7) := rfl
theorem at_77_7 : am_code 77 7 = some (ai_getP 50 11 10) := rfl
theorem at_77_10 : am_code 77 10 = some (ai_iload 2 11) := rfl
theorem at_77_11 : am_code 77 11 = some (ai_ald 61 60 12) := rfl
theorem at_77_12 : am_code 77 12 = some (ai_icmp (fun x y => ¬ x = y) 34 15) := rfl
theorem at_77_15 : am_code 77 15 = some (ai_aload 0 16) := rfl
theorem at_77_16 : am_code 77 16 = some (ai_getP 50 12 19) := rfl
theorem at_77_19 : am_code 77 19 = some (ai_iload 1 20) := rfl
theorem at_77_20 : am_code 77 20 = some (ai_ald 62 60 21) := rfl
theorem at_77_21 : am_code 77 21 = some (ai_aload 0 22) := rfl
theorem at_77_22 : am_code 77 22 = some (ai_getP 50 12 25) := rfl
theorem at_77_25 : am_code 77 25 = some (ai_iload 2 26) := rfl
theorem at_77_26 : am_code 77 26 = some (ai_ald 62 60 27) := rfl
theorem at_77_27 : am_code 77 27 = some (ai_icmp (fun x y => ¬ x = y) 34 30) := rfl
theorem at_77_30 : am_code 77 30 = some (ai_push 1 31) := rfl
theorem at_77_31 : am_code 77 31 = some (ai_goto 35) := rfl
theorem at_77_34 : am_code 77 34 = some (ai_push 0 35) := rfl
theorem at_77_35 : am_code 77 35 = some (ai_zret) := rfl
theorem at_78_0 : am_code 78 0 = some (ai_push 5 1) := rfl
theorem at_78_1 : am_code 78 1 = some (ai_push 5 2) := rfl
theorem at_78_2 : am_code 78 2 = some (ai_iload 1 3) := rfl
theorem at_78_3 : am_code 78 3 = some (ai_bin (fun x y => x * y) 4) := rfl
theorem at_78_4 : am_code 78 4 = some (ai_iload 2 5) := rfl
theorem at_78_5 : am_code 78 5 = some (ai_bin (fun x y => x + y) 6) := rfl
theorem at_78_6 : am_code 78 6 = some (ai_bin (fun x y => x * y) 7) := rfl
theorem at_78_7 : am_code 78 7 = some (ai_iload 3 8) := rfl
theorem at_78_8 : am_code 78 8 = some (ai_bin (fun x y => x + y) 9) := rfl
theorem at_78_9 : am_code 78 9 = some (ai_istore 5 11) := rfl
theorem at_78_11 : am_code 78 11 = some (ai_aload 0 12) := rfl
theorem at_78_12 : am_code 78 12 = some (ai_getP 50 20 15) := rfl
theorem at_78_15 : am_code 78 15 = some (ai_iload 5 17) := rfl
theorem at_78_17 : am_code 78 17 = some (ai_iload 4 19) := rfl
theorem at_78_19 : am_code 78 19 = some (ai_if (fun x => ¬ x = 0) 32 22) := rfl
theorem at_78_22 : am_code 78 22 = some (ai_aload 0 23) := rfl
theorem at_78_23 : am_code 78 23 = some (ai_getP 50 19 26) := rfl
theorem at_78_26 : am_code 78 26 = some (ai_iload 5 28) := rfl
theorem at_78_28 : am_code 78 28 = some (ai_ald 69 125 29) := rfl
theorem at_78_29 : am_code 78 29 = some (ai_if (fun x => ¬ x = 0) 38 32) := rfl
theorem at_78_32 : am_code 78 32 = some (ai_push (-1000) 35) := rfl
theorem at_78_35 : am_code 78 35 = some (ai_goto 45) := rfl
theorem at_78_38 : am_code 78 38 = some (ai_aload 0 39) := rfl
theorem at_78_39 : am_code 78 39 = some (ai_getP 50 20 42) := rfl
theorem at_78_42 : am_code 78 42 = some (ai_iload 5 44) := rfl
theorem at_78_44 : am_code 78 44 = some (ai_ald 70 125 45) := rfl
theorem at_78_45 : am_code 78 45 = some (ai_ast 70 125 46) := rfl
theorem at_78_46 : am_code 78 46 = some (ai_aload 0 47) := rfl
theorem at_78_47 : am_code 78 47 = some (ai_getP 50 19 50) := rfl
theorem at_78_50 : am_code 78 50 = some (ai_iload 5 52) := rfl
theorem at_78_52 : am_code 78 52 = some (ai_push 1 53) := rfl
theorem at_78_53 : am_code 78 53 = some (ai_zast 69 125 54) := rfl
theorem at_78_54 : am_code 78 54 = some (ai_ret) := rfl
theorem at_79_0 : am_code 79 0 = some (ai_aload 0 1) := rfl
theorem at_79_1 : am_code 79 1 = some (ai_iload 3 2) := rfl
theorem at_79_2 : am_code 79 2 = some (ai_push 5 3) := rfl
theorem at_79_3 : am_code 79 3 = some (ai_iload 1 4) := rfl
theorem at_79_4 : am_code 79 4 = some (ai_bin (fun x y => x * y) 5) := rfl
theorem at_79_5 : am_code 79 5 = some (ai_iload 2 6) := rfl
theorem at_79_6 : am_code 79 6 = some (ai_bin (fun x y => x + y) 7) := rfl
theorem at_79_7 : am_code 79 7 = some (ai_callV 74 50 2 10) := rfl
theorem at_79_10 : am_code 79 10 = some (ai_push 0 11) := rfl
theorem at_79_11 : am_code 79 11 = some (ai_istore 5 13) := rfl
theorem at_79_13 : am_code 79 13 = some (ai_iload 5 15) := rfl
theorem at_79_15 : am_code 79 15 = some (ai_push 5 16) := rfl
theorem at_79_16 : am_code 79 16 = some (ai_icmp (fun x y => y ≤ x) 71 19) := rfl
theorem at_79_19 : am_code 79 19 = some (ai_aload 0 20) := rfl
theorem at_79_20 : am_code 79 20 = some (ai_getP 50 19 23) := rfl
theorem at_79_23 : am_code 79 23 = some (ai_push 5 24) := rfl
theorem at_79_24 : am_code 79 24 = some (ai_push 5 25) := rfl
theorem at_79_25 : am_code 79 25 = some (ai_iload 1 26) := rfl
theorem at_79_26 : am_code 79 26 = some (ai_bin (fun x y => x * y) 27) := rfl
theorem at_79_27 : am_code 79 27 = some (ai_iload 5 29) := rfl
theorem at_79_29 : am_code 79 29 = some (ai_bin (fun x y => x + y) 30) := rfl
theorem at_79_30 : am_code 79 30 = some (ai_bin (fun x y => x * y) 31) := rfl
theorem at_79_31 : am_code 79 31 = some (ai_iload 2 32) := rfl
theorem at_79_32 : am_code 79 32 = some (ai_bin (fun x y => x + y) 33) := rfl
theorem at_79_33 : am_code 79 33 = some (ai_push 0 34) := rfl
theorem at_79_34 : am_code 79 34 = some (ai_zast 69 125 35) := rfl
theorem at_79_35 : am_code 79 35 = some (ai_aload 0 36) := rfl
theorem at_79_36 : am_code 79 36 = some (ai_getP 50 7 39) := rfl
theorem at_79_39 : am_code 79 39 = some (ai_push 5 40) := rfl
theorem at_79_40 : am_code 79 40 = some (ai_iload 1 41) := rfl
theorem at_79_41 : am_code 79 41 = some (ai_bin (fun x y => x * y) 42) := rfl
theorem at_79_42 : am_code 79 42 = some (ai_iload 5 44) := rfl
theorem at_79_44 : am_code 79 44 = some (ai_bin (fun x y => x + y) 45) := rfl
theorem at_79_45 : am_code 79 45 = some (ai_ald 57 25 46) := rfl
theorem at_79_46 : am_code 79 46 = some (ai_if (fun x => x = 0) 65 49) := rfl
theorem at_79_49 : am_code 79 49 = some (ai_iload 5 51) := rfl
theorem at_79_51 : am_code 79 51 = some (ai_iload 4 53) := rfl
theorem at_79_53 : am_code 79 53 = some (ai_icmp (fun x y => x = y) 65 56) := rfl
theorem at_79_56 : am_code 79 56 = some (ai_aload 0 57) := rfl
theorem at_79_57 : am_code 79 57 = some (ai_iload 1 58) := rfl
theorem at_79_58 : am_code 79 58 = some (ai_iload 5 60) := rfl
theorem at_79_60 : am_code 79 60 = some (ai_iload 2 61) := rfl
theorem at_79_61 : am_code 79 61 = some (ai_push 1 62) := rfl
theorem at_79_62 : am_code 79 62 = some (ai_callV 78 50 4 65) := rfl
theorem at_79_65 : am_code 79 65 = some (ai_iinc 5 1 68) := rfl
theorem at_79_68 : am_code 79 68 = some (ai_goto 13) := rfl
theorem at_79_71 : am_code 79 71 = some (ai_ret) := rfl
theorem at_80_0 : am_code 80 0 = some (ai_aload 0 1) := rfl
theorem at_80_1 : am_code 80 1 = some (ai_getP 50 10 4) := rfl
theorem at_80_4 : am_code 80 4 = some (ai_iload 3 5) := rfl
theorem at_80_5 : am_code 80 5 = some (ai_aload 0 6) := rfl
theorem at_80_6 : am_code 80 6 = some (ai_getP 50 10 9) := rfl
theorem at_80_9 : am_code 80 9 = some (ai_iload 3 10) := rfl
theorem at_80_10 : am_code 80 10 = some (ai_ald 60 7 11) := rfl
theorem at_80_11 : am_code 80 11 = some (ai_push 1 12) := rfl
theorem at_80_12 : am_code 80 12 = some (ai_bin (fun x y => x + y) 13) := rfl
theorem at_80_13 : am_code 80 13 = some (ai_ast 60 7 14) := rfl
theorem at_80_14 : am_code 80 14 = some (ai_aload 0 15) := rfl
theorem at_80_15 : am_code 80 15 = some (ai_getP 50 3 18) := rfl
theorem at_80_18 : am_code 80 18 = some (ai_push 5 19) := rfl
theorem at_80_19 : am_code 80 19 = some (ai_iload 1 20) := rfl
theorem at_80_20 : am_code 80 20 = some (ai_bin (fun x y => x * y) 21) := rfl
theorem at_80_21 : am_code 80 21 = some (ai_iload 2 22) := rfl
theorem at_80_22 : am_code 80 22 = some (ai_bin (fun x y => x + y) 23) := rfl
theorem at_80_23 : am_code 80 23 = some (ai_ald 53 25 24) := rfl
theorem at_80_24 : am_code 80 24 = some (ai_if (fun x => 0 < x) 36 27) := rfl
theorem at_80_27 : am_code 80 27 = some (ai_aload 0 28) := rfl
theorem at_80_28 : am_code 80 28 = some (ai_getP 50 1 31) := rfl
theorem at_80_31 : am_code 80 31 = some (ai_iload 2 32) := rfl
theorem at_80_32 : am_code 80 32 = some (ai_ald 51 5 33) := rfl
theorem at_80_33 : am_code 80 33 = some (ai_if (fun x => x = 0) 40 36) := rfl
theorem at_80_36 : am_code 80 36 = some (ai_push 1 37) := rfl
theorem at_80_37 : am_code 80 37 = some (ai_goto 41) := rfl
theorem at_80_40 : am_code 80 40 = some (ai_push 0 41) := rfl
theorem at_80_41 : am_code 80 41 = some (ai_istore 4 43) := rfl
theorem at_80_43 : am_code 80 43 = some (ai_aload 0 44) := rfl
theorem at_80_44 : am_code 80 44 = some (ai_getP 50 3 47) := rfl
theorem at_80_47 : am_code 80 47 = some (ai_push 5 48) := rfl
theorem at_80_48 : am_code 80 48 = some (ai_iload 1 49) := rfl
theorem at_80_49 : am_code 80 49 = some (ai_bin (fun x y => x * y) 50) := rfl
theorem at_80_50 : am_code 80 50 = some (ai_iload 2 51) := rfl
theorem at_80_51 : am_code 80 51 = some (ai_bin (fun x y => x + y) 52) := rfl
theorem at_80_52 : am_code 80 52 = some (ai_aload 0 53) := rfl
theorem at_80_53 : am_code 80 53 = some (ai_getP 50 3 56) := rfl
theorem at_80_56 : am_code 80 56 = some (ai_push 5 57) := rfl
theorem at_80_57 : am_code 80 57 = some (ai_iload 1 58) := rfl
theorem at_80_58 : am_code 80 58 = some (ai_bin (fun x y => x * y) 59) := rfl
theorem at_80_59 : am_code 80 59 = some (ai_iload 2 60) := rfl
theorem at_80_60 : am_code 80 60 = some (ai_bin (fun x y => x + y) 61) := rfl
theorem at_80_61 : am_code 80 61 = some (ai_ald 53 25 62) := rfl
theorem at_80_62 : am_code 80 62 = some (ai_if (fun x => x ≤ 0) 80 65) := rfl
theorem at_80_65 : am_code 80 65 = some (ai_aload 0 66) := rfl
theorem at_80_66 : am_code 80 66 = some (ai_getP 50 3 69) := rfl
theorem at_80_69 : am_code 80 69 = some (ai_push 5 70) := rfl
theorem at_80_70 : am_code 80 70 = some (ai_iload 1 71) := rfl
theorem at_80_71 : am_code 80 71 = some (ai_bin (fun x y => x * y) 72) := rfl
theorem at_80_72 : am_code 80 72 = some (ai_iload 2 73) := rfl
theorem at_80_73 : am_code 80 73 = some (ai_bin (fun x y => x + y) 74) := rfl
theorem at_80_74 : am_code 80 74 = some (ai_ald 53 25 75) := rfl
theorem at_80_75 : am_code 80 75 = some (ai_push 1 76) := rfl
theorem at_80_76 : am_code 80 76 = some (ai_bin (fun x y => x - y) 77) := rfl
theorem at_80_77 : am_code 80 77 = some (ai_goto 81) := rfl
theorem at_80_80 : am_code 80 80 = some (ai_push 0 81) := rfl
theorem at_80_81 : am_code 80 81 = some (ai_ast 53 25 82) := rfl
theorem at_80_82 : am_code 80 82 = some (ai_aload 0 83) := rfl
theorem at_80_83 : am_code 80 83 = some (ai_getP 50 10 86) := rfl
theorem at_80_86 : am_code 80 86 = some (ai_push 4 87) := rfl
theorem at_80_87 : am_code 80 87 = some (ai_iload 4 89) := rfl
theorem at_80_89 : am_code 80 89 = some (ai_if (fun x => x = 0) 103 92) := rfl
theorem at_80_92 : am_code 80 92 = some (ai_aload 0 93) := rfl
theorem at_80_93 : am_code 80 93 = some (ai_getP 50 10 96) := rfl
theorem at_80_96 : am_code 80 96 = some (ai_push 4 97) := rfl
theorem at_80_97 : am_code 80 97 = some (ai_ald 60 7 98) := rfl
theorem at_80_98 : am_code 80 98 = some (ai_push 1 99) := rfl
theorem at_80_99 : am_code 80 99 = some (ai_bin (fun x y => x + y) 100) := rfl
theorem at_80_100 : am_code 80 100 = some (ai_goto 109) := rfl
theorem at_80_103 : am_code 80 103 = some (ai_aload 0 104) := rfl
theorem at_80_104 : am_code 80 104 = some (ai_getP 50 10 107) := rfl
theorem at_80_107 : am_code 80 107 = some (ai_push 4 108) := rfl
theorem at_80_108 : am_code 80 108 = some (ai_ald 60 7 109) := rfl
theorem at_80_109 : am_code 80 109 = some (ai_ast 60 7 110) := rfl
theorem at_80_110 : am_code 80 110 = some (ai_iload 4 112) := rfl
theorem at_80_112 : am_code 80 112 = some (ai_if (fun x => ¬ x = 0) 119 115) := rfl
theorem at_80_115 : am_code 80 115 = some (ai_push 1 116) := rfl
theorem at_80_116 : am_code 80 116 = some (ai_goto 120) := rfl
theorem at_80_119 : am_code 80 119 = some (ai_push 0 120) := rfl
theorem at_80_120 : am_code 80 120 = some (ai_zret) := rfl
theorem at_81_0 : am_code 81 0 = some (ai_push 0 1) := rfl
theorem at_81_1 : am_code 81 1 = some (ai_istore 1 2) := rfl
theorem at_81_2 : am_code 81 2 = some (ai_iload 1 3) := rfl
theorem at_81_3 : am_code 81 3 = some (ai_push 25 5) := rfl
theorem at_81_5 : am_code 81 5 = some (ai_icmp (fun x y => y ≤ x) 78 8) := rfl
theorem at_81_8 : am_code 81 8 = some (ai_aload 0 9) := rfl
theorem at_81_9 : am_code 81 9 = some (ai_getP 50 11 12) := rfl
theorem at_81_12 : am_code 81 12 = some (ai_iload 1 13) := rfl
theorem at_81_13 : am_code 81 13 = some (ai_ald 61 60 14) := rfl
theorem at_81_14 : am_code 81 14 = some (ai_if (fun x => x ≤ 0) 72 17) := rfl
theorem at_81_17 : am_code 81 17 = some (ai_aload 0 18) := rfl
theorem at_81_18 : am_code 81 18 = some (ai_getP 50 12 21) := rfl
theorem at_81_21 : am_code 81 21 = some (ai_iload 1 22) := rfl
theorem at_81_22 : am_code 81 22 = some (ai_ald 62 60 23) := rfl
theorem at_81_23 : am_code 81 23 = some (ai_aload 0 24) := rfl
theorem at_81_24 : am_code 81 24 = some (ai_getI 50 0 27) := rfl
theorem at_81_27 : am_code 81 27 = some (ai_push 40 29) := rfl
theorem at_81_29 : am_code 81 29 = some (ai_bin (fun x y => x - y) 30) := rfl
theorem at_81_30 : am_code 81 30 = some (ai_icmp (fun x y => y < x) 72 33) := rfl
theorem at_81_33 : am_code 81 33 = some (ai_aload 0 34) := rfl
theorem at_81_34 : am_code 81 34 = some (ai_getP 50 11 37) := rfl
theorem at_81_37 : am_code 81 37 = some (ai_iload 1 38) := rfl
theorem at_81_38 : am_code 81 38 = some (ai_push 0 39) := rfl
theorem at_81_39 : am_code 81 39 = some (ai_ast 61 60 40) := rfl
theorem at_81_40 : am_code 81 40 = some (ai_push 0 41) := rfl
theorem at_81_41 : am_code 81 41 = some (ai_istore 2 42) := rfl
theorem at_81_42 : am_code 81 42 = some (ai_iload 2 43) := rfl
theorem at_81_43 : am_code 81 43 = some (ai_push 5 44) := rfl
theorem at_81_44 : am_code 81 44 = some (ai_icmp (fun x y => y ≤ x) 72 47) := rfl
theorem at_81_47 : am_code 81 47 = some (ai_aload 0 48) := rfl
theorem at_81_48 : am_code 81 48 = some (ai_getP 50 19 51) := rfl
theorem at_81_51 : am_code 81 51 = some (ai_push 5 52) := rfl
theorem at_81_52 : am_code 81 52 = some (ai_push 5 53) := rfl
theorem at_81_53 : am_code 81 53 = some (ai_iload 1 54) := rfl
theorem at_81_54 : am_code 81 54 = some (ai_push 5 55) := rfl
theorem at_81_55 : am_code 81 55 = some (ai_div (fun x y => x / y) 56) := rfl
theorem at_81_56 : am_code 81 56 = some (ai_bin (fun x y => x * y) 57) := rfl
theorem at_81_57 : am_code 81 57 = some (ai_iload 2 58) := rfl
theorem at_81_58 : am_code 81 58 = some (ai_bin (fun x y => x + y) 59) := rfl
theorem at_81_59 : am_code 81 59 = some (ai_bin (fun x y => x * y) 60) := rfl
theorem at_81_60 : am_code 81 60 = some (ai_iload 1 61) := rfl
theorem at_81_61 : am_code 81 61 = some (ai_push 5 62) := rfl
theorem at_81_62 : am_code 81 62 = some (ai_div (fun x y => x - x / y * y) 63) := rfl
theorem at_81_63 : am_code 81 63 = some (ai_bin (fun x y => x + y) 64) := rfl
theorem at_81_64 : am_code 81 64 = some (ai_push 0 65) := rfl
theorem at_81_65 : am_code 81 65 = some (ai_zast 69 125 66) := rfl
theorem at_81_66 : am_code 81 66 = some (ai_iinc 2 1 69) := rfl
theorem at_81_69 : am_code 81 69 = some (ai_goto 42) := rfl
theorem at_81_72 : am_code 81 72 = some (ai_iinc 1 1 75) := rfl
theorem at_81_75 : am_code 81 75 = some (ai_goto 2) := rfl
theorem at_81_78 : am_code 81 78 = some (ai_ret) := rfl
theorem at_82_0 : am_code 82 0 = some (ai_push 0 1) := rfl
theorem at_82_1 : am_code 82 1 = some (ai_istore 1 2) := rfl
theorem at_82_2 : am_code 82 2 = some (ai_iload 1 3) := rfl
theorem at_82_3 : am_code 82 3 = some (ai_push 25 5) := rfl
theorem at_82_5 : am_code 82 5 = some (ai_icmp (fun x y => y ≤ x) 26 8) := rfl
theorem at_82_8 : am_code 82 8 = some (ai_aload 0 9) := rfl
theorem at_82_9 : am_code 82 9 = some (ai_getP 50 9 12) := rfl
theorem at_82_12 : am_code 82 12 = some (ai_iload 1 13) := rfl
theorem at_82_13 : am_code 82 13 = some (ai_aload 0 14) := rfl
theorem at_82_14 : am_code 82 14 = some (ai_getP 50 4 17) := rfl
theorem at_82_17 : am_code 82 17 = some (ai_iload 1 18) := rfl
theorem at_82_18 : am_code 82 18 = some (ai_ald 54 25 19) := rfl
theorem at_82_19 : am_code 82 19 = some (ai_zast 59 25 20) := rfl
theorem at_82_20 : am_code 82 20 = some (ai_iinc 1 1 23) := rfl
theorem at_82_23 : am_code 82 23 = some (ai_goto 2) := rfl
theorem at_82_26 : am_code 82 26 = some (ai_push 0 27) := rfl
theorem at_82_27 : am_code 82 27 = some (ai_istore 1 28) := rfl
theorem at_82_28 : am_code 82 28 = some (ai_iload 1 29) := rfl
theorem at_82_29 : am_code 82 29 = some (ai_push 25 31) := rfl
theorem at_82_31 : am_code 82 31 = some (ai_icmp (fun x y => y ≤ x) 117 34) := rfl
theorem at_82_34 : am_code 82 34 = some (ai_iload 1 35) := rfl
theorem at_82_35 : am_code 82 35 = some (ai_push 5 36) := rfl
theorem at_82_36 : am_code 82 36 = some (ai_div (fun x y => x / y) 37) := rfl
theorem at_82_37 : am_code 82 37 = some (ai_istore 2 38) := rfl
theorem at_82_38 : am_code 82 38 = some (ai_iload 1 39) := rfl
theorem at_82_39 : am_code 82 39 = some (ai_push 5 40) := rfl
theorem at_82_40 : am_code 82 40 = some (ai_div (fun x y => x - x / y * y) 41) := rfl
theorem at_82_41 : am_code 82 41 = some (ai_istore 3 42) := rfl
theorem at_82_42 : am_code 82 42 = some (ai_aload 0 43) := rfl
theorem at_82_43 : am_code 82 43 = some (ai_getP 50 2 46) := rfl
theorem at_82_46 : am_code 82 46 = some (ai_iload 1 47) := rfl
theorem at_82_47 : am_code 82 47 = some (ai_ald 52 25 48) := rfl
theorem at_82_48 : am_code 82 48 = some (ai_if (fun x => x ≤ 0) 111 51) := rfl
theorem at_82_51 : am_code 82 51 = some (ai_aload 0 52) := rfl
theorem at_82_52 : am_code 82 52 = some (ai_getP 50 1 55) := rfl
theorem at_82_55 : am_code 82 55 = some (ai_iload 2 56) := rfl
theorem at_82_56 : am_code 82 56 = some (ai_ald 51 5 57) := rfl
theorem at_82_57 : am_code 82 57 = some (ai_if (fun x => ¬ x = 0) 111 60) := rfl
theorem at_82_60 : am_code 82 60 = some (ai_aload 0 61) := rfl
theorem at_82_61 : am_code 82 61 = some (ai_iload 2 62) := rfl
theorem at_82_62 : am_code 82 62 = some (ai_iload 3 63) := rfl
theorem at_82_63 : am_code 82 63 = some (ai_push 0 64) := rfl
theorem at_82_64 : am_code 82 64 = some (ai_callV 80 50 3 67) := rfl
theorem at_82_67 : am_code 82 67 = some (ai_if (fun x => x = 0) 111 70) := rfl
theorem at_82_70 : am_code 82 70 = some (ai_aload 0 71) := rfl
theorem at_82_71 : am_code 82 71 = some (ai_getP 50 4 74) := rfl
theorem at_82_74 : am_code 82 74 = some (ai_push 5 75) := rfl
theorem at_82_75 : am_code 82 75 = some (ai_iload 3 76) := rfl
theorem at_82_76 : am_code 82 76 = some (ai_bin (fun x y => x * y) 77) := rfl
theorem at_82_77 : am_code 82 77 = some (ai_iload 2 78) := rfl
theorem at_82_78 : am_code 82 78 = some (ai_bin (fun x y => x + y) 79) := rfl
theorem at_82_79 : am_code 82 79 = some (ai_push 1 80) := rfl
theorem at_82_80 : am_code 82 80 = some (ai_zast 54 25 81) := rfl
theorem at_82_81 : am_code 82 81 = some (ai_aload 0 82) := rfl
theorem at_82_82 : am_code 82 82 = some (ai_getP 50 5 85) := rfl
theorem at_82_85 : am_code 82 85 = some (ai_push 5 86) := rfl
theorem at_82_86 : am_code 82 86 = some (ai_iload 3 87) := rfl
theorem at_82_87 : am_code 82 87 = some (ai_bin (fun x y => x * y) 88) := rfl
theorem at_82_88 : am_code 82 88 = some (ai_iload 2 89) := rfl
theorem at_82_89 : am_code 82 89 = some (ai_bin (fun x y => x + y) 90) := rfl
theorem at_82_90 : am_code 82 90 = some (ai_aload 0 91) := rfl
theorem at_82_91 : am_code 82 91 = some (ai_getI 50 0 94) := rfl
theorem at_82_94 : am_code 82 94 = some (ai_ast 55 25 95) := rfl
theorem at_82_95 : am_code 82 95 = some (ai_aload 0 96) := rfl
theorem at_82_96 : am_code 82 96 = some (ai_getP 50 6 99) := rfl
theorem at_82_99 : am_code 82 99 = some (ai_push 5 100) := rfl
theorem at_82_100 : am_code 82 100 = some (ai_iload 3 101) := rfl
theorem at_82_101 : am_code 82 101 = some (ai_bin (fun x y => x * y) 102) := rfl
theorem at_82_102 : am_code 82 102 = some (ai_iload 2 103) := rfl
theorem at_82_103 : am_code 82 103 = some (ai_bin (fun x y => x + y) 104) := rfl
theorem at_82_104 : am_code 82 104 = some (ai_aload 0 105) := rfl
theorem at_82_105 : am_code 82 105 = some (ai_getP 50 9 108) := rfl
theorem at_82_108 : am_code 82 108 = some (ai_iload 1 109) := rfl
theorem at_82_109 : am_code 82 109 = some (ai_ald 59 25 110) := rfl
theorem at_82_110 : am_code 82 110 = some (ai_zast 56 25 111) := rfl
theorem at_82_111 : am_code 82 111 = some (ai_iinc 1 1 114) := rfl
theorem at_82_114 : am_code 82 114 = some (ai_goto 28) := rfl
theorem at_82_117 : am_code 82 117 = some (ai_ret) := rfl
theorem at_83_0 : am_code 83 0 = some (ai_push 0 1) := rfl
theorem at_83_1 : am_code 83 1 = some (ai_istore 1 2) := rfl
theorem at_83_2 : am_code 83 2 = some (ai_iload 1 3) := rfl
theorem at_83_3 : am_code 83 3 = some (ai_push 25 5) := rfl
theorem at_83_5 : am_code 83 5 = some (ai_icmp (fun x y => y ≤ x) 152 8) := rfl
theorem at_83_8 : am_code 83 8 = some (ai_aload 0 9) := rfl
theorem at_83_9 : am_code 83 9 = some (ai_getP 50 4 12) := rfl
theorem at_83_12 : am_code 83 12 = some (ai_iload 1 13) := rfl
theorem at_83_13 : am_code 83 13 = some (ai_ald 54 25 14) := rfl
theorem at_83_14 : am_code 83 14 = some (ai_if (fun x => x = 0) 46 17) := rfl
theorem at_83_17 : am_code 83 17 = some (ai_aload 0 18) := rfl
theorem at_83_18 : am_code 83 18 = some (ai_getP 50 5 21) := rfl
theorem at_83_21 : am_code 83 21 = some (ai_iload 1 22) := rfl
theorem at_83_22 : am_code 83 22 = some (ai_ald 55 25 23) := rfl
theorem at_83_23 : am_code 83 23 = some (ai_aload 0 24) := rfl
theorem at_83_24 : am_code 83 24 = some (ai_getI 50 0 27) := rfl
theorem at_83_27 : am_code 83 27 = some (ai_push 5 28) := rfl
theorem at_83_28 : am_code 83 28 = some (ai_bin (fun x y => x - y) 29) := rfl
theorem at_83_29 : am_code 83 29 = some (ai_icmp (fun x y => y < x) 46 32) := rfl
theorem at_83_32 : am_code 83 32 = some (ai_aload 0 33) := rfl
theorem at_83_33 : am_code 83 33 = some (ai_getP 50 4 36) := rfl
theorem at_83_36 : am_code 83 36 = some (ai_iload 1 37) := rfl
theorem at_83_37 : am_code 83 37 = some (ai_push 0 38) := rfl
theorem at_83_38 : am_code 83 38 = some (ai_zast 54 25 39) := rfl
theorem at_83_39 : am_code 83 39 = some (ai_aload 0 40) := rfl
theorem at_83_40 : am_code 83 40 = some (ai_getP 50 6 43) := rfl
theorem at_83_43 : am_code 83 43 = some (ai_iload 1 44) := rfl
theorem at_83_44 : am_code 83 44 = some (ai_push 0 45) := rfl
theorem at_83_45 : am_code 83 45 = some (ai_zast 56 25 46) := rfl
theorem at_83_46 : am_code 83 46 = some (ai_aload 0 47) := rfl
theorem at_83_47 : am_code 83 47 = some (ai_getP 50 4 50) := rfl
theorem at_83_50 : am_code 83 50 = some (ai_iload 1 51) := rfl
theorem at_83_51 : am_code 83 51 = some (ai_ald 54 25 52) := rfl
theorem at_83_52 : am_code 83 52 = some (ai_if (fun x => x = 0) 68 55) := rfl
theorem at_83_55 : am_code 83 55 = some (ai_aload 0 56) := rfl
theorem at_83_56 : am_code 83 56 = some (ai_getP 50 6 59) := rfl
theorem at_83_59 : am_code 83 59 = some (ai_iload 1 60) := rfl
theorem at_83_60 : am_code 83 60 = some (ai_ald 56 25 61) := rfl
theorem at_83_61 : am_code 83 61 = some (ai_if (fun x => x = 0) 68 64) := rfl
theorem at_83_64 : am_code 83 64 = some (ai_push 1 65) := rfl
theorem at_83_65 : am_code 83 65 = some (ai_goto 69) := rfl
theorem at_83_68 : am_code 83 68 = some (ai_push 0 69) := rfl
theorem at_83_69 : am_code 83 69 = some (ai_istore 2 70) := rfl
theorem at_83_70 : am_code 83 70 = some (ai_aload 0 71) := rfl
theorem at_83_71 : am_code 83 71 = some (ai_getP 50 8 74) := rfl
theorem at_83_74 : am_code 83 74 = some (ai_iload 1 75) := rfl
theorem at_83_75 : am_code 83 75 = some (ai_iload 2 76) := rfl
theorem at_83_76 : am_code 83 76 = some (ai_if (fun x => x = 0) 92 79) := rfl
theorem at_83_79 : am_code 83 79 = some (ai_aload 0 80) := rfl
theorem at_83_80 : am_code 83 80 = some (ai_getP 50 7 83) := rfl
theorem at_83_83 : am_code 83 83 = some (ai_iload 1 84) := rfl
theorem at_83_84 : am_code 83 84 = some (ai_ald 57 25 85) := rfl
theorem at_83_85 : am_code 83 85 = some (ai_if (fun x => ¬ x = 0) 92 88) := rfl
theorem at_83_88 : am_code 83 88 = some (ai_push 1 89) := rfl
theorem at_83_89 : am_code 83 89 = some (ai_goto 93) := rfl
theorem at_83_92 : am_code 83 92 = some (ai_push 0 93) := rfl
theorem at_83_93 : am_code 83 93 = some (ai_zast 58 25 94) := rfl
theorem at_83_94 : am_code 83 94 = some (ai_aload 0 95) := rfl
theorem at_83_95 : am_code 83 95 = some (ai_getP 50 7 98) := rfl
theorem at_83_98 : am_code 83 98 = some (ai_iload 1 99) := rfl
theorem at_83_99 : am_code 83 99 = some (ai_iload 2 100) := rfl
theorem at_83_100 : am_code 83 100 = some (ai_zast 57 25 101) := rfl
theorem at_83_101 : am_code 83 101 = some (ai_push 0 102) := rfl
theorem at_83_102 : am_code 83 102 = some (ai_istore 3 103) := rfl
theorem at_83_103 : am_code 83 103 = some (ai_iload 3 104) := rfl
theorem at_83_104 : am_code 83 104 = some (ai_push 5 105) := rfl
theorem at_83_105 : am_code 83 105 = some (ai_icmp (fun x y => y ≤ x) 146 108) := rfl
theorem at_83_108 : am_code 83 108 = some (ai_aload 0 109) := rfl
theorem at_83_109 : am_code 83 109 = some (ai_getP 50 19 112) := rfl
theorem at_83_112 : am_code 83 112 = some (ai_push 5 113) := rfl
theorem at_83_113 : am_code 83 113 = some (ai_iload 1 114) := rfl
theorem at_83_114 : am_code 83 114 = some (ai_bin (fun x y => x * y) 115) := rfl
theorem at_83_115 : am_code 83 115 = some (ai_iload 3 116) := rfl
theorem at_83_116 : am_code 83 116 = some (ai_bin (fun x y => x + y) 117) := rfl
theorem at_83_117 : am_code 83 117 = some (ai_aload 0 118) := rfl
theorem at_83_118 : am_code 83 118 = some (ai_getP 50 19 121) := rfl
theorem at_83_121 : am_code 83 121 = some (ai_push 5 122) := rfl
theorem at_83_122 : am_code 83 122 = some (ai_iload 1 123) := rfl
theorem at_83_123 : am_code 83 123 = some (ai_bin (fun x y => x * y) 124) := rfl
theorem at_83_124 : am_code 83 124 = some (ai_iload 3 125) := rfl
theorem at_83_125 : am_code 83 125 = some (ai_bin (fun x y => x + y) 126) := rfl
theorem at_83_126 : am_code 83 126 = some (ai_ald 69 125 127) := rfl
theorem at_83_127 : am_code 83 127 = some (ai_if (fun x => x = 0) 138 130) := rfl
theorem at_83_130 : am_code 83 130 = some (ai_iload 2 131) := rfl
theorem at_83_131 : am_code 83 131 = some (ai_if (fun x => x = 0) 138 134) := rfl
theorem at_83_134 : am_code 83 134 = some (ai_push 1 135) := rfl
theorem at_83_135 : am_code 83 135 = some (ai_goto 139) := rfl
theorem at_83_138 : am_code 83 138 = some (ai_push 0 139) := rfl
theorem at_83_139 : am_code 83 139 = some (ai_zast 69 125 140) := rfl
theorem at_83_140 : am_code 83 140 = some (ai_iinc 3 1 143) := rfl
theorem at_83_143 : am_code 83 143 = some (ai_goto 103) := rfl
theorem at_83_146 : am_code 83 146 = some (ai_iinc 1 1 149) := rfl
theorem at_83_149 : am_code 83 149 = some (ai_goto 2) := rfl
theorem at_83_152 : am_code 83 152 = some (ai_push 0 153) := rfl
theorem at_83_153 : am_code 83 153 = some (ai_istore 1 154) := rfl
theorem at_83_154 : am_code 83 154 = some (ai_iload 1 155) := rfl
theorem at_83_155 : am_code 83 155 = some (ai_push 25 157) := rfl
theorem at_83_157 : am_code 83 157 = some (ai_icmp (fun x y => y ≤ x) 223 160) := rfl
theorem at_83_160 : am_code 83 160 = some (ai_push 5 161) := rfl
theorem at_83_161 : am_code 83 161 = some (ai_iload 1 162) := rfl
theorem at_83_162 : am_code 83 162 = some (ai_push 5 163) := rfl
theorem at_83_163 : am_code 83 163 = some (ai_div (fun x y => x - x / y * y) 164) := rfl
theorem at_83_164 : am_code 83 164 = some (ai_bin (fun x y => x * y) 165) := rfl
theorem at_83_165 : am_code 83 165 = some (ai_iload 1 166) := rfl
theorem at_83_166 : am_code 83 166 = some (ai_push 5 167) := rfl
theorem at_83_167 : am_code 83 167 = some (ai_div (fun x y => x / y) 168) := rfl
theorem at_83_168 : am_code 83 168 = some (ai_bin (fun x y => x + y) 169) := rfl
theorem at_83_169 : am_code 83 169 = some (ai_istore 2 170) := rfl
theorem at_83_170 : am_code 83 170 = some (ai_aload 0 171) := rfl
theorem at_83_171 : am_code 83 171 = some (ai_getP 50 8 174) := rfl
theorem at_83_174 : am_code 83 174 = some (ai_iload 1 175) := rfl
theorem at_83_175 : am_code 83 175 = some (ai_ald 58 25 176) := rfl
theorem at_83_176 : am_code 83 176 = some (ai_if (fun x => x = 0) 189 179) := rfl
theorem at_83_179 : am_code 83 179 = some (ai_aload 0 180) := rfl
theorem at_83_180 : am_code 83 180 = some (ai_iload 1 181) := rfl
theorem at_83_181 : am_code 83 181 = some (ai_push 5 182) := rfl
theorem at_83_182 : am_code 83 182 = some (ai_div (fun x y => x / y) 183) := rfl
theorem at_83_183 : am_code 83 183 = some (ai_iload 1 184) := rfl
theorem at_83_184 : am_code 83 184 = some (ai_push 5 185) := rfl
theorem at_83_185 : am_code 83 185 = some (ai_div (fun x y => x - x / y * y) 186) := rfl
theorem at_83_186 : am_code 83 186 = some (ai_callV 84 50 2 189) := rfl
theorem at_83_189 : am_code 83 189 = some (ai_aload 0 190) := rfl
theorem at_83_190 : am_code 83 190 = some (ai_getP 50 8 193) := rfl
theorem at_83_193 : am_code 83 193 = some (ai_iload 1 194) := rfl
theorem at_83_194 : am_code 83 194 = some (ai_ald 58 25 195) := rfl
theorem at_83_195 : am_code 83 195 = some (ai_if (fun x => x = 0) 217 198) := rfl
theorem at_83_198 : am_code 83 198 = some (ai_aload 0 199) := rfl
theorem at_83_199 : am_code 83 199 = some (ai_getP 50 7 202) := rfl
theorem at_83_202 : am_code 83 202 = some (ai_iload 2 203) := rfl
theorem at_83_203 : am_code 83 203 = some (ai_ald 57 25 204) := rfl
theorem at_83_204 : am_code 83 204 = some (ai_if (fun x => x = 0) 217 207) := rfl
theorem at_83_207 : am_code 83 207 = some (ai_aload 0 208) := rfl
theorem at_83_208 : am_code 83 208 = some (ai_iload 1 209) := rfl
theorem at_83_209 : am_code 83 209 = some (ai_push 5 210) := rfl
theorem at_83_210 : am_code 83 210 = some (ai_div (fun x y => x - x / y * y) 211) := rfl
theorem at_83_211 : am_code 83 211 = some (ai_iload 1 212) := rfl
theorem at_83_212 : am_code 83 212 = some (ai_push 5 213) := rfl
theorem at_83_213 : am_code 83 213 = some (ai_div (fun x y => x / y) 214) := rfl
theorem at_83_214 : am_code 83 214 = some (ai_callV 84 50 2 217) := rfl
theorem at_83_217 : am_code 83 217 = some (ai_iinc 1 1 220) := rfl
theorem at_83_220 : am_code 83 220 = some (ai_goto 154) := rfl
theorem at_83_223 : am_code 83 223 = some (ai_ret) := rfl
theorem at_84_0 : am_code 84 0 = some (ai_push 0 1) := rfl
theorem at_84_1 : am_code 84 1 = some (ai_istore 3 2) := rfl
theorem at_84_2 : am_code 84 2 = some (ai_iload 3 3) := rfl
theorem at_84_3 : am_code 84 3 = some (ai_push 5 4) := rfl
theorem at_84_4 : am_code 84 4 = some (ai_icmp (fun x y => y ≤ x) 51 7) := rfl
theorem at_84_7 : am_code 84 7 = some (ai_aload 0 8) := rfl
theorem at_84_8 : am_code 84 8 = some (ai_getP 50 11 11) := rfl
theorem at_84_11 : am_code 84 11 = some (ai_push 5 12) := rfl
theorem at_84_12 : am_code 84 12 = some (ai_iload 1 13) := rfl
theorem at_84_13 : am_code 84 13 = some (ai_bin (fun x y => x * y) 14) := rfl
theorem at_84_14 : am_code 84 14 = some (ai_iload 3 15) := rfl
theorem at_84_15 : am_code 84 15 = some (ai_bin (fun x y => x + y) 16) := rfl
theorem at_84_16 : am_code 84 16 = some (ai_ald 61 60 17) := rfl
theorem at_84_17 : am_code 84 17 = some (ai_if (fun x => x ≤ 0) 45 20) := rfl
theorem at_84_20 : am_code 84 20 = some (ai_aload 0 21) := rfl
theorem at_84_21 : am_code 84 21 = some (ai_push 5 22) := rfl
theorem at_84_22 : am_code 84 22 = some (ai_iload 2 23) := rfl
theorem at_84_23 : am_code 84 23 = some (ai_bin (fun x y => x * y) 24) := rfl
theorem at_84_24 : am_code 84 24 = some (ai_iload 3 25) := rfl
theorem at_84_25 : am_code 84 25 = some (ai_bin (fun x y => x + y) 26) := rfl
theorem at_84_26 : am_code 84 26 = some (ai_push 5 27) := rfl
theorem at_84_27 : am_code 84 27 = some (ai_iload 1 28) := rfl
theorem at_84_28 : am_code 84 28 = some (ai_bin (fun x y => x * y) 29) := rfl
theorem at_84_29 : am_code 84 29 = some (ai_iload 3 30) := rfl
theorem at_84_30 : am_code 84 30 = some (ai_bin (fun x y => x + y) 31) := rfl
theorem at_84_31 : am_code 84 31 = some (ai_callV 76 50 2 34) := rfl
theorem at_84_34 : am_code 84 34 = some (ai_if (fun x => x = 0) 45 37) := rfl
theorem at_84_37 : am_code 84 37 = some (ai_aload 0 38) := rfl
theorem at_84_38 : am_code 84 38 = some (ai_iload 1 39) := rfl
theorem at_84_39 : am_code 84 39 = some (ai_iload 2 40) := rfl
theorem at_84_40 : am_code 84 40 = some (ai_iload 3 41) := rfl
theorem at_84_41 : am_code 84 41 = some (ai_push 0 42) := rfl
theorem at_84_42 : am_code 84 42 = some (ai_callV 78 50 4 45) := rfl
theorem at_84_45 : am_code 84 45 = some (ai_iinc 3 1 48) := rfl
theorem at_84_48 : am_code 84 48 = some (ai_goto 2) := rfl
theorem at_84_51 : am_code 84 51 = some (ai_ret) := rfl
theorem at_85_0 : am_code 85 0 = some (ai_push 55 2) := rfl
theorem at_85_2 : am_code 85 2 = some (ai_iload 1 3) := rfl
theorem at_85_3 : am_code 85 3 = some (ai_bin (fun x y => x + y) 4) := rfl
theorem at_85_4 : am_code 85 4 = some (ai_istore 2 5) := rfl
theorem at_85_5 : am_code 85 5 = some (ai_push 50 7) := rfl
theorem at_85_7 : am_code 85 7 = some (ai_iload 1 8) := rfl
theorem at_85_8 : am_code 85 8 = some (ai_bin (fun x y => x + y) 9) := rfl
theorem at_85_9 : am_code 85 9 = some (ai_istore 3 10) := rfl
theorem at_85_10 : am_code 85 10 = some (ai_push 0 11) := rfl
theorem at_85_11 : am_code 85 11 = some (ai_istore 4 13) := rfl
theorem at_85_13 : am_code 85 13 = some (ai_iload 4 15) := rfl
theorem at_85_15 : am_code 85 15 = some (ai_push 5 16) := rfl
theorem at_85_16 : am_code 85 16 = some (ai_icmp (fun x y => y ≤ x) 65 19) := rfl
theorem at_85_19 : am_code 85 19 = some (ai_aload 0 20) := rfl
theorem at_85_20 : am_code 85 20 = some (ai_getP 50 13 23) := rfl
theorem at_85_23 : am_code 85 23 = some (ai_push 5 24) := rfl
theorem at_85_24 : am_code 85 24 = some (ai_iload 2 25) := rfl
theorem at_85_25 : am_code 85 25 = some (ai_bin (fun x y => x * y) 26) := rfl
theorem at_85_26 : am_code 85 26 = some (ai_iload 4 28) := rfl
theorem at_85_28 : am_code 85 28 = some (ai_bin (fun x y => x + y) 29) := rfl
theorem at_85_29 : am_code 85 29 = some (ai_aload 0 30) := rfl
theorem at_85_30 : am_code 85 30 = some (ai_getP 50 7 33) := rfl
theorem at_85_33 : am_code 85 33 = some (ai_push 5 34) := rfl
theorem at_85_34 : am_code 85 34 = some (ai_iload 1 35) := rfl
theorem at_85_35 : am_code 85 35 = some (ai_bin (fun x y => x * y) 36) := rfl
theorem at_85_36 : am_code 85 36 = some (ai_iload 4 38) := rfl
theorem at_85_38 : am_code 85 38 = some (ai_bin (fun x y => x + y) 39) := rfl
theorem at_85_39 : am_code 85 39 = some (ai_ald 57 25 40) := rfl
theorem at_85_40 : am_code 85 40 = some (ai_if (fun x => x = 0) 57 43) := rfl
theorem at_85_43 : am_code 85 43 = some (ai_aload 0 44) := rfl
theorem at_85_44 : am_code 85 44 = some (ai_getP 50 2 47) := rfl
theorem at_85_47 : am_code 85 47 = some (ai_push 5 48) := rfl
theorem at_85_48 : am_code 85 48 = some (ai_iload 1 49) := rfl
theorem at_85_49 : am_code 85 49 = some (ai_bin (fun x y => x * y) 50) := rfl
theorem at_85_50 : am_code 85 50 = some (ai_iload 4 52) := rfl
theorem at_85_52 : am_code 85 52 = some (ai_bin (fun x y => x + y) 53) := rfl
theorem at_85_53 : am_code 85 53 = some (ai_ald 52 25 54) := rfl
theorem at_85_54 : am_code 85 54 = some (ai_goto 58) := rfl
theorem at_85_57 : am_code 85 57 = some (ai_push 0 58) := rfl
theorem at_85_58 : am_code 85 58 = some (ai_ast 63 300 59) := rfl
theorem at_85_59 : am_code 85 59 = some (ai_iinc 4 1 62) := rfl
theorem at_85_62 : am_code 85 62 = some (ai_goto 13) := rfl
theorem at_85_65 : am_code 85 65 = some (ai_aload 0 66) := rfl
theorem at_85_66 : am_code 85 66 = some (ai_iload 2 67) := rfl
theorem at_85_67 : am_code 85 67 = some (ai_iload 3 68) := rfl
theorem at_85_68 : am_code 85 68 = some (ai_callV 75 50 2 71) := rfl
theorem at_85_71 : am_code 85 71 = some (ai_if (fun x => x = 0) 99 74) := rfl
theorem at_85_74 : am_code 85 74 = some (ai_aload 0 75) := rfl
theorem at_85_75 : am_code 85 75 = some (ai_getP 50 12 78) := rfl
theorem at_85_78 : am_code 85 78 = some (ai_iload 3 79) := rfl
theorem at_85_79 : am_code 85 79 = some (ai_ald 62 60 80) := rfl
theorem at_85_80 : am_code 85 80 = some (ai_aload 0 81) := rfl
theorem at_85_81 : am_code 85 81 = some (ai_getI 50 0 84) := rfl
theorem at_85_84 : am_code 85 84 = some (ai_push 20 86) := rfl
theorem at_85_86 : am_code 85 86 = some (ai_bin (fun x y => x - y) 87) := rfl
theorem at_85_87 : am_code 85 87 = some (ai_icmp (fun x y => x ≤ y) 99 90) := rfl
theorem at_85_90 : am_code 85 90 = some (ai_aload 0 91) := rfl
theorem at_85_91 : am_code 85 91 = some (ai_getP 50 18 94) := rfl
theorem at_85_94 : am_code 85 94 = some (ai_iload 1 95) := rfl
theorem at_85_95 : am_code 85 95 = some (ai_ald 68 5 96) := rfl
theorem at_85_96 : am_code 85 96 = some (ai_if (fun x => x = 0) 103 99) := rfl
theorem at_85_99 : am_code 85 99 = some (ai_push 1 100) := rfl
theorem at_85_100 : am_code 85 100 = some (ai_goto 104) := rfl
theorem at_85_103 : am_code 85 103 = some (ai_push 0 104) := rfl
theorem at_85_104 : am_code 85 104 = some (ai_istore 4 106) := rfl
theorem at_85_106 : am_code 85 106 = some (ai_aload 0 107) := rfl
theorem at_85_107 : am_code 85 107 = some (ai_getP 50 11 110) := rfl
theorem at_85_110 : am_code 85 110 = some (ai_iload 3 111) := rfl
theorem at_85_111 : am_code 85 111 = some (ai_ald 61 60 112) := rfl
theorem at_85_112 : am_code 85 112 = some (ai_if (fun x => x = 0) 135 115) := rfl
theorem at_85_115 : am_code 85 115 = some (ai_aload 0 116) := rfl
theorem at_85_116 : am_code 85 116 = some (ai_getP 50 12 119) := rfl
theorem at_85_119 : am_code 85 119 = some (ai_iload 3 120) := rfl
theorem at_85_120 : am_code 85 120 = some (ai_ald 62 60 121) := rfl
theorem at_85_121 : am_code 85 121 = some (ai_aload 0 122) := rfl
theorem at_85_122 : am_code 85 122 = some (ai_getI 50 0 125) := rfl
theorem at_85_125 : am_code 85 125 = some (ai_push 2 126) := rfl
theorem at_85_126 : am_code 85 126 = some (ai_bin (fun x y => x - y) 127) := rfl
theorem at_85_127 : am_code 85 127 = some (ai_icmp (fun x y => y < x) 139 130) := rfl
theorem at_85_130 : am_code 85 130 = some (ai_iload 4 132) := rfl
theorem at_85_132 : am_code 85 132 = some (ai_if (fun x => x = 0) 139 135) := rfl
theorem at_85_135 : am_code 85 135 = some (ai_push 1 136) := rfl
theorem at_85_136 : am_code 85 136 = some (ai_goto 140) := rfl
theorem at_85_139 : am_code 85 139 = some (ai_push 0 140) := rfl
theorem at_85_140 : am_code 85 140 = some (ai_istore 5 142) := rfl
theorem at_85_142 : am_code 85 142 = some (ai_aload 0 143) := rfl
theorem at_85_143 : am_code 85 143 = some (ai_getP 50 1 146) := rfl
theorem at_85_146 : am_code 85 146 = some (ai_iload 1 147) := rfl
theorem at_85_147 : am_code 85 147 = some (ai_ald 51 5 148) := rfl
theorem at_85_148 : am_code 85 148 = some (ai_if (fun x => ¬ x = 0) 156 151) := rfl
theorem at_85_151 : am_code 85 151 = some (ai_iload 5 153) := rfl
theorem at_85_153 : am_code 85 153 = some (ai_if (fun x => ¬ x = 0) 157 156) := rfl
theorem at_85_156 : am_code 85 156 = some (ai_ret) := rfl
theorem at_85_157 : am_code 85 157 = some (ai_aload 0 158) := rfl
theorem at_85_158 : am_code 85 158 = some (ai_getP 50 17 161) := rfl
theorem at_85_161 : am_code 85 161 = some (ai_iload 1 162) := rfl
theorem at_85_162 : am_code 85 162 = some (ai_aload 0 163) := rfl
theorem at_85_163 : am_code 85 163 = some (ai_getP 50 17 166) := rfl
theorem at_85_166 : am_code 85 166 = some (ai_iload 1 167) := rfl
theorem at_85_167 : am_code 85 167 = some (ai_ald 67 5 168) := rfl
theorem at_85_168 : am_code 85 168 = some (ai_push 1 169) := rfl
theorem at_85_169 : am_code 85 169 = some (ai_bin (fun x y => x + y) 170) := rfl
theorem at_85_170 : am_code 85 170 = some (ai_ast 67 5 171) := rfl
theorem at_85_171 : am_code 85 171 = some (ai_aload 0 172) := rfl
theorem at_85_172 : am_code 85 172 = some (ai_getP 50 11 175) := rfl
theorem at_85_175 : am_code 85 175 = some (ai_iload 2 176) := rfl
theorem at_85_176 : am_code 85 176 = some (ai_aload 0 177) := rfl
theorem at_85_177 : am_code 85 177 = some (ai_getP 50 17 180) := rfl
theorem at_85_180 : am_code 85 180 = some (ai_iload 1 181) := rfl
theorem at_85_181 : am_code 85 181 = some (ai_ald 67 5 182) := rfl
theorem at_85_182 : am_code 85 182 = some (ai_ast 61 60 183) := rfl
theorem at_85_183 : am_code 85 183 = some (ai_aload 0 184) := rfl
theorem at_85_184 : am_code 85 184 = some (ai_getP 50 12 187) := rfl
theorem at_85_187 : am_code 85 187 = some (ai_iload 2 188) := rfl
theorem at_85_188 : am_code 85 188 = some (ai_aload 0 189) := rfl
theorem at_85_189 : am_code 85 189 = some (ai_getI 50 0 192) := rfl
theorem at_85_192 : am_code 85 192 = some (ai_ast 62 60 193) := rfl
theorem at_85_193 : am_code 85 193 = some (ai_aload 0 194) := rfl
theorem at_85_194 : am_code 85 194 = some (ai_iload 2 195) := rfl
theorem at_85_195 : am_code 85 195 = some (ai_iload 3 196) := rfl
theorem at_85_196 : am_code 85 196 = some (ai_callV 74 50 2 199) := rfl
theorem at_85_199 : am_code 85 199 = some (ai_aload 0 200) := rfl
theorem at_85_200 : am_code 85 200 = some (ai_getP 50 18 203) := rfl
theorem at_85_203 : am_code 85 203 = some (ai_iload 1 204) := rfl
theorem at_85_204 : am_code 85 204 = some (ai_push 0 205) := rfl
theorem at_85_205 : am_code 85 205 = some (ai_zast 68 5 206) := rfl
theorem at_85_206 : am_code 85 206 = some (ai_aload 0 207) := rfl
theorem at_85_207 : am_code 85 207 = some (ai_getP 50 10 210) := rfl
theorem at_85_210 : am_code 85 210 = some (ai_push 5 211) := rfl
theorem at_85_211 : am_code 85 211 = some (ai_aload 0 212) := rfl
theorem at_85_212 : am_code 85 212 = some (ai_getP 50 10 215) := rfl
theorem at_85_215 : am_code 85 215 = some (ai_push 5 216) := rfl
theorem at_85_216 : am_code 85 216 = some (ai_ald 60 7 217) := rfl
theorem at_85_217 : am_code 85 217 = some (ai_push 1 218) := rfl
theorem at_85_218 : am_code 85 218 = some (ai_bin (fun x y => x + y) 219) := rfl
theorem at_85_219 : am_code 85 219 = some (ai_ast 60 7 220) := rfl
theorem at_85_220 : am_code 85 220 = some (ai_aload 0 221) := rfl
theorem at_85_221 : am_code 85 221 = some (ai_iload 1 222) := rfl
theorem at_85_222 : am_code 85 222 = some (ai_iload 1 223) := rfl
theorem at_85_223 : am_code 85 223 = some (ai_iload 2 224) := rfl
theorem at_85_224 : am_code 85 224 = some (ai_iload 1 225) := rfl
theorem at_85_225 : am_code 85 225 = some (ai_callV 79 50 4 228) := rfl
theorem at_85_228 : am_code 85 228 = some (ai_ret) := rfl
theorem at_86_0 : am_code 86 0 = some (ai_push 0 1) := rfl
theorem at_86_1 : am_code 86 1 = some (ai_istore 1 2) := rfl
theorem at_86_2 : am_code 86 2 = some (ai_iload 1 3) := rfl
theorem at_86_3 : am_code 86 3 = some (ai_push 25 5) := rfl
theorem at_86_5 : am_code 86 5 = some (ai_icmp (fun x y => y ≤ x) 23 8) := rfl
theorem at_86_8 : am_code 86 8 = some (ai_aload 0 9) := rfl
theorem at_86_9 : am_code 86 9 = some (ai_iload 1 10) := rfl
theorem at_86_10 : am_code 86 10 = some (ai_push 25 12) := rfl
theorem at_86_12 : am_code 86 12 = some (ai_iload 1 13) := rfl
theorem at_86_13 : am_code 86 13 = some (ai_bin (fun x y => x + y) 14) := rfl
theorem at_86_14 : am_code 86 14 = some (ai_callV 74 50 2 17) := rfl
theorem at_86_17 : am_code 86 17 = some (ai_iinc 1 1 20) := rfl
theorem at_86_20 : am_code 86 20 = some (ai_goto 2) := rfl
theorem at_86_23 : am_code 86 23 = some (ai_push 0 24) := rfl
theorem at_86_24 : am_code 86 24 = some (ai_istore 1 25) := rfl
theorem at_86_25 : am_code 86 25 = some (ai_iload 1 26) := rfl
theorem at_86_26 : am_code 86 26 = some (ai_push 25 28) := rfl
theorem at_86_28 : am_code 86 28 = some (ai_icmp (fun x y => y ≤ x) 198 31) := rfl
theorem at_86_31 : am_code 86 31 = some (ai_push 0 32) := rfl
theorem at_86_32 : am_code 86 32 = some (ai_istore 2 33) := rfl
theorem at_86_33 : am_code 86 33 = some (ai_push 0 34) := rfl
theorem at_86_34 : am_code 86 34 = some (ai_istore 3 35) := rfl
theorem at_86_35 : am_code 86 35 = some (ai_iload 3 36) := rfl
theorem at_86_36 : am_code 86 36 = some (ai_push 5 37) := rfl
theorem at_86_37 : am_code 86 37 = some (ai_icmp (fun x y => y ≤ x) 149 40) := rfl
theorem at_86_40 : am_code 86 40 = some (ai_push 5 41) := rfl
theorem at_86_41 : am_code 86 41 = some (ai_iload 1 42) := rfl
theorem at_86_42 : am_code 86 42 = some (ai_bin (fun x y => x * y) 43) := rfl
theorem at_86_43 : am_code 86 43 = some (ai_iload 3 44) := rfl
theorem at_86_44 : am_code 86 44 = some (ai_bin (fun x y => x + y) 45) := rfl
theorem at_86_45 : am_code 86 45 = some (ai_istore 4 47) := rfl
theorem at_86_47 : am_code 86 47 = some (ai_aload 0 48) := rfl
theorem at_86_48 : am_code 86 48 = some (ai_getP 50 21 51) := rfl
theorem at_86_51 : am_code 86 51 = some (ai_iload 4 53) := rfl
theorem at_86_53 : am_code 86 53 = some (ai_aload 0 54) := rfl
theorem at_86_54 : am_code 86 54 = some (ai_getP 50 7 57) := rfl
theorem at_86_57 : am_code 86 57 = some (ai_iload 1 58) := rfl
theorem at_86_58 : am_code 86 58 = some (ai_ald 57 25 59) := rfl
theorem at_86_59 : am_code 86 59 = some (ai_if (fun x => x = 0) 92 62) := rfl
theorem at_86_62 : am_code 86 62 = some (ai_aload 0 63) := rfl
theorem at_86_63 : am_code 86 63 = some (ai_getP 50 19 66) := rfl
theorem at_86_66 : am_code 86 66 = some (ai_iload 4 68) := rfl
theorem at_86_68 : am_code 86 68 = some (ai_ald 69 125 69) := rfl
theorem at_86_69 : am_code 86 69 = some (ai_if (fun x => x = 0) 92 72) := rfl
theorem at_86_72 : am_code 86 72 = some (ai_aload 0 73) := rfl
theorem at_86_73 : am_code 86 73 = some (ai_getP 50 20 76) := rfl
theorem at_86_76 : am_code 86 76 = some (ai_iload 4 78) := rfl
theorem at_86_78 : am_code 86 78 = some (ai_ald 70 125 79) := rfl
theorem at_86_79 : am_code 86 79 = some (ai_aload 0 80) := rfl
theorem at_86_80 : am_code 86 80 = some (ai_getI 50 0 83) := rfl
theorem at_86_83 : am_code 86 83 = some (ai_push 3 84) := rfl
theorem at_86_84 : am_code 86 84 = some (ai_bin (fun x y => x - y) 85) := rfl
theorem at_86_85 : am_code 86 85 = some (ai_icmp (fun x y => y < x) 92 88) := rfl
theorem at_86_88 : am_code 86 88 = some (ai_push 1 89) := rfl
theorem at_86_89 : am_code 86 89 = some (ai_goto 93) := rfl
theorem at_86_92 : am_code 86 92 = some (ai_push 0 93) := rfl
theorem at_86_93 : am_code 86 93 = some (ai_zast 71 125 94) := rfl
theorem at_86_94 : am_code 86 94 = some (ai_aload 0 95) := rfl
theorem at_86_95 : am_code 86 95 = some (ai_getP 50 20 98) := rfl
theorem at_86_98 : am_code 86 98 = some (ai_iload 4 100) := rfl
theorem at_86_100 : am_code 86 100 = some (ai_aload 0 101) := rfl
theorem at_86_101 : am_code 86 101 = some (ai_getP 50 21 104) := rfl
theorem at_86_104 : am_code 86 104 = some (ai_iload 4 106) := rfl
theorem at_86_106 : am_code 86 106 = some (ai_ald 71 125 107) := rfl
theorem at_86_107 : am_code 86 107 = some (ai_if (fun x => x = 0) 117 110) := rfl
theorem at_86_110 : am_code 86 110 = some (ai_aload 0 111) := rfl
theorem at_86_111 : am_code 86 111 = some (ai_getI 50 0 114) := rfl
theorem at_86_114 : am_code 86 114 = some (ai_goto 124) := rfl
theorem at_86_117 : am_code 86 117 = some (ai_aload 0 118) := rfl
theorem at_86_118 : am_code 86 118 = some (ai_getP 50 20 121) := rfl
theorem at_86_121 : am_code 86 121 = some (ai_iload 4 123) := rfl
theorem at_86_123 : am_code 86 123 = some (ai_ald 70 125 124) := rfl
theorem at_86_124 : am_code 86 124 = some (ai_ast 70 125 125) := rfl
theorem at_86_125 : am_code 86 125 = some (ai_aload 0 126) := rfl
theorem at_86_126 : am_code 86 126 = some (ai_getP 50 21 129) := rfl
theorem at_86_129 : am_code 86 129 = some (ai_iload 4 131) := rfl
theorem at_86_131 : am_code 86 131 = some (ai_ald 71 125 132) := rfl
theorem at_86_132 : am_code 86 132 = some (ai_if (fun x => x = 0) 141 135) := rfl
theorem at_86_135 : am_code 86 135 = some (ai_iload 2 136) := rfl
theorem at_86_136 : am_code 86 136 = some (ai_push 1 137) := rfl
theorem at_86_137 : am_code 86 137 = some (ai_bin (fun x y => x + y) 138) := rfl
theorem at_86_138 : am_code 86 138 = some (ai_goto 142) := rfl
theorem at_86_141 : am_code 86 141 = some (ai_iload 2 142) := rfl
theorem at_86_142 : am_code 86 142 = some (ai_istore 2 143) := rfl
theorem at_86_143 : am_code 86 143 = some (ai_iinc 3 1 146) := rfl
theorem at_86_146 : am_code 86 146 = some (ai_goto 35) := rfl
theorem at_86_149 : am_code 86 149 = some (ai_aload 0 150) := rfl
theorem at_86_150 : am_code 86 150 = some (ai_getP 50 10 153) := rfl
theorem at_86_153 : am_code 86 153 = some (ai_push 2 154) := rfl
theorem at_86_154 : am_code 86 154 = some (ai_aload 0 155) := rfl
theorem at_86_155 : am_code 86 155 = some (ai_getP 50 10 158) := rfl
theorem at_86_158 : am_code 86 158 = some (ai_push 2 159) := rfl
theorem at_86_159 : am_code 86 159 = some (ai_ald 60 7 160) := rfl
theorem at_86_160 : am_code 86 160 = some (ai_iload 2 161) := rfl
theorem at_86_161 : am_code 86 161 = some (ai_bin (fun x y => x + y) 162) := rfl
theorem at_86_162 : am_code 86 162 = some (ai_ast 60 7 163) := rfl
theorem at_86_163 : am_code 86 163 = some (ai_aload 0 164) := rfl
theorem at_86_164 : am_code 86 164 = some (ai_getP 50 22 167) := rfl
theorem at_86_167 : am_code 86 167 = some (ai_iload 1 168) := rfl
theorem at_86_168 : am_code 86 168 = some (ai_iload 2 169) := rfl
theorem at_86_169 : am_code 86 169 = some (ai_if (fun x => x ≤ 0) 190 172) := rfl
theorem at_86_172 : am_code 86 172 = some (ai_aload 0 173) := rfl
theorem at_86_173 : am_code 86 173 = some (ai_iload 1 174) := rfl
theorem at_86_174 : am_code 86 174 = some (ai_push 5 175) := rfl
theorem at_86_175 : am_code 86 175 = some (ai_div (fun x y => x / y) 176) := rfl
theorem at_86_176 : am_code 86 176 = some (ai_iload 1 177) := rfl
theorem at_86_177 : am_code 86 177 = some (ai_push 5 178) := rfl
theorem at_86_178 : am_code 86 178 = some (ai_div (fun x y => x - x / y * y) 179) := rfl
theorem at_86_179 : am_code 86 179 = some (ai_push 1 180) := rfl
theorem at_86_180 : am_code 86 180 = some (ai_callV 80 50 3 183) := rfl
theorem at_86_183 : am_code 86 183 = some (ai_if (fun x => x = 0) 190 186) := rfl
theorem at_86_186 : am_code 86 186 = some (ai_push 1 187) := rfl
theorem at_86_187 : am_code 86 187 = some (ai_goto 191) := rfl
theorem at_86_190 : am_code 86 190 = some (ai_push 0 191) := rfl
theorem at_86_191 : am_code 86 191 = some (ai_zast 72 25 192) := rfl
theorem at_86_192 : am_code 86 192 = some (ai_iinc 1 1 195) := rfl
theorem at_86_195 : am_code 86 195 = some (ai_goto 25) := rfl
theorem at_86_198 : am_code 86 198 = some (ai_ret) := rfl
set_option maxRecDepth 100000 in
theorem at_87_0 : am_code 87 0 = some (ai_push 0 1) := rfl
set_option maxRecDepth 100000 in
theorem at_87_1 : am_code 87 1 = some (ai_istore 3 2) := rfl
set_option maxRecDepth 100000 in
theorem at_87_2 : am_code 87 2 = some (ai_push 0 3) := rfl
set_option maxRecDepth 100000 in
theorem at_87_3 : am_code 87 3 = some (ai_istore 4 5) := rfl
set_option maxRecDepth 100000 in
theorem at_87_5 : am_code 87 5 = some (ai_iload 4 7) := rfl
set_option maxRecDepth 100000 in
theorem at_87_7 : am_code 87 7 = some (ai_push 5 8) := rfl
set_option maxRecDepth 100000 in
theorem at_87_8 : am_code 87 8 = some (ai_icmp (fun x y => y ≤ x) 249 11) := rfl
set_option maxRecDepth 100000 in
theorem at_87_11 : am_code 87 11 = some (ai_push 25 13) := rfl
set_option maxRecDepth 100000 in
theorem at_87_13 : am_code 87 13 = some (ai_push 5 14) := rfl
set_option maxRecDepth 100000 in
theorem at_87_14 : am_code 87 14 = some (ai_iload 1 15) := rfl
set_option maxRecDepth 100000 in
theorem at_87_15 : am_code 87 15 = some (ai_bin (fun x y => x * y) 16) := rfl
set_option maxRecDepth 100000 in
theorem at_87_16 : am_code 87 16 = some (ai_bin (fun x y => x + y) 17) := rfl
set_option maxRecDepth 100000 in
theorem at_87_17 : am_code 87 17 = some (ai_iload 4 19) := rfl
set_option maxRecDepth 100000 in
theorem at_87_19 : am_code 87 19 = some (ai_bin (fun x y => x + y) 20) := rfl
set_option maxRecDepth 100000 in
theorem at_87_20 : am_code 87 20 = some (ai_istore 5 22) := rfl
set_option maxRecDepth 100000 in
theorem at_87_22 : am_code 87 22 = some (ai_push 5 23) := rfl
set_option maxRecDepth 100000 in
theorem at_87_23 : am_code 87 23 = some (ai_iload 2 24) := rfl
set_option maxRecDepth 100000 in
theorem at_87_24 : am_code 87 24 = some (ai_bin (fun x y => x * y) 25) := rfl
set_option maxRecDepth 100000 in
theorem at_87_25 : am_code 87 25 = some (ai_iload 4 27) := rfl
set_option maxRecDepth 100000 in
theorem at_87_27 : am_code 87 27 = some (ai_bin (fun x y => x + y) 28) := rfl
set_option maxRecDepth 100000 in
theorem at_87_28 : am_code 87 28 = some (ai_istore 6 30) := rfl
set_option maxRecDepth 100000 in
theorem at_87_30 : am_code 87 30 = some (ai_aload 0 31) := rfl
set_option maxRecDepth 100000 in
theorem at_87_31 : am_code 87 31 = some (ai_getP 50 23 34) := rfl
set_option maxRecDepth 100000 in
theorem at_87_34 : am_code 87 34 = some (ai_iload 4 36) := rfl
set_option maxRecDepth 100000 in
theorem at_87_36 : am_code 87 36 = some (ai_push 0 37) := rfl
set_option maxRecDepth 100000 in
theorem at_87_37 : am_code 87 37 = some (ai_zast 73 5 38) := rfl
set_option maxRecDepth 100000 in
theorem at_87_38 : am_code 87 38 = some (ai_aload 0 39) := rfl
set_option maxRecDepth 100000 in
theorem at_87_39 : am_code 87 39 = some (ai_getP 50 21 42) := rfl
set_option maxRecDepth 100000 in
theorem at_87_42 : am_code 87 42 = some (ai_push 5 43) := rfl
set_option maxRecDepth 100000 in
theorem at_87_43 : am_code 87 43 = some (ai_push 5 44) := rfl
set_option maxRecDepth 100000 in
theorem at_87_44 : am_code 87 44 = some (ai_iload 1 45) := rfl
set_option maxRecDepth 100000 in
theorem at_87_45 : am_code 87 45 = some (ai_bin (fun x y => x * y) 46) := rfl
set_option maxRecDepth 100000 in
theorem at_87_46 : am_code 87 46 = some (ai_iload 2 47) := rfl
set_option maxRecDepth 100000 in
theorem at_87_47 : am_code 87 47 = some (ai_bin (fun x y => x + y) 48) := rfl
set_option maxRecDepth 100000 in
theorem at_87_48 : am_code 87 48 = some (ai_bin (fun x y => x * y) 49) := rfl
set_option maxRecDepth 100000 in
theorem at_87_49 : am_code 87 49 = some (ai_iload 4 51) := rfl
set_option maxRecDepth 100000 in
theorem at_87_51 : am_code 87 51 = some (ai_bin (fun x y => x + y) 52) := rfl
set_option maxRecDepth 100000 in
theorem at_87_52 : am_code 87 52 = some (ai_ald 71 125 53) := rfl
set_option maxRecDepth 100000 in
theorem at_87_53 : am_code 87 53 = some (ai_if (fun x => x = 0) 243 56) := rfl
set_option maxRecDepth 100000 in
theorem at_87_56 : am_code 87 56 = some (ai_aload 0 57) := rfl
set_option maxRecDepth 100000 in
theorem at_87_57 : am_code 87 57 = some (ai_iload 6 59) := rfl
set_option maxRecDepth 100000 in
theorem at_87_59 : am_code 87 59 = some (ai_iload 5 61) := rfl
set_option maxRecDepth 100000 in
theorem at_87_61 : am_code 87 61 = some (ai_callV 76 50 2 64) := rfl
set_option maxRecDepth 100000 in
theorem at_87_64 : am_code 87 64 = some (ai_istore 7 66) := rfl
set_option maxRecDepth 100000 in
theorem at_87_66 : am_code 87 66 = some (ai_aload 0 67) := rfl
set_option maxRecDepth 100000 in
theorem at_87_67 : am_code 87 67 = some (ai_getP 50 23 70) := rfl
set_option maxRecDepth 100000 in
theorem at_87_70 : am_code 87 70 = some (ai_iload 4 72) := rfl
set_option maxRecDepth 100000 in
theorem at_87_72 : am_code 87 72 = some (ai_iload 7 74) := rfl
set_option maxRecDepth 100000 in
theorem at_87_74 : am_code 87 74 = some (ai_if (fun x => ¬ x = 0) 88 77) := rfl
set_option maxRecDepth 100000 in
theorem at_87_77 : am_code 87 77 = some (ai_aload 0 78) := rfl
set_option maxRecDepth 100000 in
theorem at_87_78 : am_code 87 78 = some (ai_iload 6 80) := rfl
set_option maxRecDepth 100000 in
theorem at_87_80 : am_code 87 80 = some (ai_iload 5 82) := rfl
set_option maxRecDepth 100000 in
theorem at_87_82 : am_code 87 82 = some (ai_callV 77 50 2 85) := rfl
set_option maxRecDepth 100000 in
theorem at_87_85 : am_code 87 85 = some (ai_if (fun x => x = 0) 92 88) := rfl
set_option maxRecDepth 100000 in
theorem at_87_88 : am_code 87 88 = some (ai_push 1 89) := rfl
set_option maxRecDepth 100000 in
theorem at_87_89 : am_code 87 89 = some (ai_goto 93) := rfl
set_option maxRecDepth 100000 in
theorem at_87_92 : am_code 87 92 = some (ai_push 0 93) := rfl
set_option maxRecDepth 100000 in
theorem at_87_93 : am_code 87 93 = some (ai_zast 73 5 94) := rfl
set_option maxRecDepth 100000 in
theorem at_87_94 : am_code 87 94 = some (ai_aload 0 95) := rfl
set_option maxRecDepth 100000 in
theorem at_87_95 : am_code 87 95 = some (ai_getP 50 23 98) := rfl
set_option maxRecDepth 100000 in
theorem at_87_98 : am_code 87 98 = some (ai_iload 4 100) := rfl
set_option maxRecDepth 100000 in
theorem at_87_100 : am_code 87 100 = some (ai_ald 73 5 101) := rfl
set_option maxRecDepth 100000 in
theorem at_87_101 : am_code 87 101 = some (ai_if (fun x => x = 0) 110 104) := rfl
set_option maxRecDepth 100000 in
theorem at_87_104 : am_code 87 104 = some (ai_iload 3 105) := rfl
set_option maxRecDepth 100000 in
theorem at_87_105 : am_code 87 105 = some (ai_push 1 106) := rfl
set_option maxRecDepth 100000 in
theorem at_87_106 : am_code 87 106 = some (ai_bin (fun x y => x + y) 107) := rfl
set_option maxRecDepth 100000 in
theorem at_87_107 : am_code 87 107 = some (ai_goto 111) := rfl
set_option maxRecDepth 100000 in
theorem at_87_110 : am_code 87 110 = some (ai_iload 3 111) := rfl
set_option maxRecDepth 100000 in
theorem at_87_111 : am_code 87 111 = some (ai_istore 3 112) := rfl
set_option maxRecDepth 100000 in
theorem at_87_112 : am_code 87 112 = some (ai_iload 7 114) := rfl
set_option maxRecDepth 100000 in
theorem at_87_114 : am_code 87 114 = some (ai_if (fun x => x = 0) 171 117) := rfl
set_option maxRecDepth 100000 in
theorem at_87_117 : am_code 87 117 = some (ai_iload 4 119) := rfl
set_option maxRecDepth 100000 in
theorem at_87_119 : am_code 87 119 = some (ai_iload 2 120) := rfl
set_option maxRecDepth 100000 in
theorem at_87_120 : am_code 87 120 = some (ai_icmp (fun x y => ¬ x = y) 171 123) := rfl
set_option maxRecDepth 100000 in
theorem at_87_123 : am_code 87 123 = some (ai_aload 0 124) := rfl
set_option maxRecDepth 100000 in
theorem at_87_124 : am_code 87 124 = some (ai_getP 50 17 127) := rfl
set_option maxRecDepth 100000 in
theorem at_87_127 : am_code 87 127 = some (ai_iload 2 128) := rfl
set_option maxRecDepth 100000 in
theorem at_87_128 : am_code 87 128 = some (ai_aload 0 129) := rfl
set_option maxRecDepth 100000 in
theorem at_87_129 : am_code 87 129 = some (ai_getP 50 11 132) := rfl
set_option maxRecDepth 100000 in
theorem at_87_132 : am_code 87 132 = some (ai_iload 5 134) := rfl
set_option maxRecDepth 100000 in
theorem at_87_134 : am_code 87 134 = some (ai_ald 61 60 135) := rfl
set_option maxRecDepth 100000 in
theorem at_87_135 : am_code 87 135 = some (ai_aload 0 136) := rfl
set_option maxRecDepth 100000 in
theorem at_87_136 : am_code 87 136 = some (ai_getP 50 17 139) := rfl
set_option maxRecDepth 100000 in
theorem at_87_139 : am_code 87 139 = some (ai_iload 2 140) := rfl
set_option maxRecDepth 100000 in
theorem at_87_140 : am_code 87 140 = some (ai_ald 67 5 141) := rfl
set_option maxRecDepth 100000 in
theorem at_87_141 : am_code 87 141 = some (ai_icmp (fun x y => x ≤ y) 154 144) := rfl
set_option maxRecDepth 100000 in
theorem at_87_144 : am_code 87 144 = some (ai_aload 0 145) := rfl
set_option maxRecDepth 100000 in
theorem at_87_145 : am_code 87 145 = some (ai_getP 50 11 148) := rfl
set_option maxRecDepth 100000 in
theorem at_87_148 : am_code 87 148 = some (ai_iload 5 150) := rfl
set_option maxRecDepth 100000 in
theorem at_87_150 : am_code 87 150 = some (ai_ald 61 60 151) := rfl
set_option maxRecDepth 100000 in
theorem at_87_151 : am_code 87 151 = some (ai_goto 160) := rfl
set_option maxRecDepth 100000 in
theorem at_87_154 : am_code 87 154 = some (ai_aload 0 155) := rfl
set_option maxRecDepth 100000 in
theorem at_87_155 : am_code 87 155 = some (ai_getP 50 17 158) := rfl
set_option maxRecDepth 100000 in
theorem at_87_158 : am_code 87 158 = some (ai_iload 2 159) := rfl
set_option maxRecDepth 100000 in
theorem at_87_159 : am_code 87 159 = some (ai_ald 67 5 160) := rfl
set_option maxRecDepth 100000 in
theorem at_87_160 : am_code 87 160 = some (ai_ast 67 5 161) := rfl
set_option maxRecDepth 100000 in
theorem at_87_161 : am_code 87 161 = some (ai_aload 0 162) := rfl
set_option maxRecDepth 100000 in
theorem at_87_162 : am_code 87 162 = some (ai_getP 50 18 165) := rfl
set_option maxRecDepth 100000 in
theorem at_87_165 : am_code 87 165 = some (ai_iload 2 166) := rfl
set_option maxRecDepth 100000 in
theorem at_87_166 : am_code 87 166 = some (ai_push 1 167) := rfl
set_option maxRecDepth 100000 in
theorem at_87_167 : am_code 87 167 = some (ai_zast 68 5 168) := rfl
set_option maxRecDepth 100000 in
theorem at_87_168 : am_code 87 168 = some (ai_goto 243) := rfl
set_option maxRecDepth 100000 in
theorem at_87_171 : am_code 87 171 = some (ai_iload 7 173) := rfl
set_option maxRecDepth 100000 in
theorem at_87_173 : am_code 87 173 = some (ai_if (fun x => x = 0) 205 176) := rfl
set_option maxRecDepth 100000 in
theorem at_87_176 : am_code 87 176 = some (ai_aload 0 177) := rfl
set_option maxRecDepth 100000 in
theorem at_87_177 : am_code 87 177 = some (ai_getP 50 10 180) := rfl
set_option maxRecDepth 100000 in
theorem at_87_180 : am_code 87 180 = some (ai_push 6 182) := rfl
set_option maxRecDepth 100000 in
theorem at_87_182 : am_code 87 182 = some (ai_aload 0 183) := rfl
set_option maxRecDepth 100000 in
theorem at_87_183 : am_code 87 183 = some (ai_getP 50 10 186) := rfl
set_option maxRecDepth 100000 in
theorem at_87_186 : am_code 87 186 = some (ai_push 6 188) := rfl
set_option maxRecDepth 100000 in
theorem at_87_188 : am_code 87 188 = some (ai_ald 60 7 189) := rfl
set_option maxRecDepth 100000 in
theorem at_87_189 : am_code 87 189 = some (ai_push 1 190) := rfl
set_option maxRecDepth 100000 in
theorem at_87_190 : am_code 87 190 = some (ai_bin (fun x y => x + y) 191) := rfl
set_option maxRecDepth 100000 in
theorem at_87_191 : am_code 87 191 = some (ai_ast 60 7 192) := rfl
set_option maxRecDepth 100000 in
theorem at_87_192 : am_code 87 192 = some (ai_aload 0 193) := rfl
set_option maxRecDepth 100000 in
theorem at_87_193 : am_code 87 193 = some (ai_iload 2 194) := rfl
set_option maxRecDepth 100000 in
theorem at_87_194 : am_code 87 194 = some (ai_iload 4 196) := rfl
set_option maxRecDepth 100000 in
theorem at_87_196 : am_code 87 196 = some (ai_iload 5 198) := rfl
set_option maxRecDepth 100000 in
theorem at_87_198 : am_code 87 198 = some (ai_iload 1 199) := rfl
set_option maxRecDepth 100000 in
theorem at_87_199 : am_code 87 199 = some (ai_callV 79 50 4 202) := rfl
set_option maxRecDepth 100000 in
theorem at_87_202 : am_code 87 202 = some (ai_goto 243) := rfl
set_option maxRecDepth 100000 in
theorem at_87_205 : am_code 87 205 = some (ai_aload 0 206) := rfl
set_option maxRecDepth 100000 in
theorem at_87_206 : am_code 87 206 = some (ai_getP 50 23 209) := rfl
set_option maxRecDepth 100000 in
theorem at_87_209 : am_code 87 209 = some (ai_iload 4 211) := rfl
set_option maxRecDepth 100000 in
theorem at_87_211 : am_code 87 211 = some (ai_ald 73 5 212) := rfl
set_option maxRecDepth 100000 in
theorem at_87_212 : am_code 87 212 = some (ai_if (fun x => x = 0) 234 215) := rfl
set_option maxRecDepth 100000 in
theorem at_87_215 : am_code 87 215 = some (ai_aload 0 216) := rfl
set_option maxRecDepth 100000 in
theorem at_87_216 : am_code 87 216 = some (ai_getP 50 19 219) := rfl
set_option maxRecDepth 100000 in
theorem at_87_219 : am_code 87 219 = some (ai_push 5 220) := rfl
set_option maxRecDepth 100000 in
theorem at_87_220 : am_code 87 220 = some (ai_push 5 221) := rfl
set_option maxRecDepth 100000 in
theorem at_87_221 : am_code 87 221 = some (ai_iload 2 222) := rfl
set_option maxRecDepth 100000 in
theorem at_87_222 : am_code 87 222 = some (ai_bin (fun x y => x * y) 223) := rfl
set_option maxRecDepth 100000 in
theorem at_87_223 : am_code 87 223 = some (ai_iload 1 224) := rfl
set_option maxRecDepth 100000 in
theorem at_87_224 : am_code 87 224 = some (ai_bin (fun x y => x + y) 225) := rfl
set_option maxRecDepth 100000 in
theorem at_87_225 : am_code 87 225 = some (ai_bin (fun x y => x * y) 226) := rfl
set_option maxRecDepth 100000 in
theorem at_87_226 : am_code 87 226 = some (ai_iload 4 228) := rfl
set_option maxRecDepth 100000 in
theorem at_87_228 : am_code 87 228 = some (ai_bin (fun x y => x + y) 229) := rfl
set_option maxRecDepth 100000 in
theorem at_87_229 : am_code 87 229 = some (ai_push 0 230) := rfl
set_option maxRecDepth 100000 in
theorem at_87_230 : am_code 87 230 = some (ai_zast 69 125 231) := rfl
set_option maxRecDepth 100000 in
theorem at_87_231 : am_code 87 231 = some (ai_goto 243) := rfl
set_option maxRecDepth 100000 in
theorem at_87_234 : am_code 87 234 = some (ai_aload 0 235) := rfl
set_option maxRecDepth 100000 in
theorem at_87_235 : am_code 87 235 = some (ai_iload 2 236) := rfl
set_option maxRecDepth 100000 in
theorem at_87_236 : am_code 87 236 = some (ai_iload 1 237) := rfl
set_option maxRecDepth 100000 in
theorem at_87_237 : am_code 87 237 = some (ai_iload 4 239) := rfl
set_option maxRecDepth 100000 in
theorem at_87_239 : am_code 87 239 = some (ai_push 0 240) := rfl
set_option maxRecDepth 100000 in
theorem at_87_240 : am_code 87 240 = some (ai_callV 78 50 4 243) := rfl
set_option maxRecDepth 100000 in
theorem at_87_243 : am_code 87 243 = some (ai_iinc 4 1 246) := rfl
set_option maxRecDepth 100000 in
theorem at_87_246 : am_code 87 246 = some (ai_goto 5) := rfl
set_option maxRecDepth 100000 in
theorem at_87_249 : am_code 87 249 = some (ai_iload 3 250) := rfl
set_option maxRecDepth 100000 in
theorem at_87_250 : am_code 87 250 = some (ai_if (fun x => x = 0) 263 253) := rfl
set_option maxRecDepth 100000 in
theorem at_87_253 : am_code 87 253 = some (ai_aload 0 254) := rfl
set_option maxRecDepth 100000 in
theorem at_87_254 : am_code 87 254 = some (ai_iload 2 255) := rfl
set_option maxRecDepth 100000 in
theorem at_87_255 : am_code 87 255 = some (ai_iload 1 256) := rfl
set_option maxRecDepth 100000 in
theorem at_87_256 : am_code 87 256 = some (ai_push 3 257) := rfl
set_option maxRecDepth 100000 in
theorem at_87_257 : am_code 87 257 = some (ai_callV 80 50 3 260) := rfl
set_option maxRecDepth 100000 in
theorem at_87_260 : am_code 87 260 = some (ai_if (fun x => ¬ x = 0) 264 263) := rfl
set_option maxRecDepth 100000 in
theorem at_87_263 : am_code 87 263 = some (ai_ret) := rfl
set_option maxRecDepth 100000 in
theorem at_87_264 : am_code 87 264 = some (ai_push 0 265) := rfl
set_option maxRecDepth 100000 in
theorem at_87_265 : am_code 87 265 = some (ai_istore 4 267) := rfl
set_option maxRecDepth 100000 in
theorem at_87_267 : am_code 87 267 = some (ai_iload 4 269) := rfl
set_option maxRecDepth 100000 in
theorem at_87_269 : am_code 87 269 = some (ai_push 5 270) := rfl
set_option maxRecDepth 100000 in
theorem at_87_270 : am_code 87 270 = some (ai_icmp (fun x y => y ≤ x) 353 273) := rfl
set_option maxRecDepth 100000 in
theorem at_87_273 : am_code 87 273 = some (ai_aload 0 274) := rfl
set_option maxRecDepth 100000 in
theorem at_87_274 : am_code 87 274 = some (ai_getP 50 11 277) := rfl
set_option maxRecDepth 100000 in
theorem at_87_277 : am_code 87 277 = some (ai_push 5 278) := rfl
set_option maxRecDepth 100000 in
theorem at_87_278 : am_code 87 278 = some (ai_iload 1 279) := rfl
set_option maxRecDepth 100000 in
theorem at_87_279 : am_code 87 279 = some (ai_bin (fun x y => x * y) 280) := rfl
set_option maxRecDepth 100000 in
theorem at_87_280 : am_code 87 280 = some (ai_iload 4 282) := rfl
set_option maxRecDepth 100000 in
theorem at_87_282 : am_code 87 282 = some (ai_bin (fun x y => x + y) 283) := rfl
set_option maxRecDepth 100000 in
theorem at_87_283 : am_code 87 283 = some (ai_ald 61 60 284) := rfl
set_option maxRecDepth 100000 in
theorem at_87_284 : am_code 87 284 = some (ai_if (fun x => x ≤ 0) 313 287) := rfl
set_option maxRecDepth 100000 in
theorem at_87_287 : am_code 87 287 = some (ai_aload 0 288) := rfl
set_option maxRecDepth 100000 in
theorem at_87_288 : am_code 87 288 = some (ai_push 5 289) := rfl
set_option maxRecDepth 100000 in
theorem at_87_289 : am_code 87 289 = some (ai_iload 1 290) := rfl
set_option maxRecDepth 100000 in
theorem at_87_290 : am_code 87 290 = some (ai_bin (fun x y => x * y) 291) := rfl
set_option maxRecDepth 100000 in
theorem at_87_291 : am_code 87 291 = some (ai_iload 4 293) := rfl
set_option maxRecDepth 100000 in
theorem at_87_293 : am_code 87 293 = some (ai_bin (fun x y => x + y) 294) := rfl
set_option maxRecDepth 100000 in
theorem at_87_294 : am_code 87 294 = some (ai_push 25 296) := rfl
set_option maxRecDepth 100000 in
theorem at_87_296 : am_code 87 296 = some (ai_push 5 297) := rfl
set_option maxRecDepth 100000 in
theorem at_87_297 : am_code 87 297 = some (ai_iload 1 298) := rfl
set_option maxRecDepth 100000 in
theorem at_87_298 : am_code 87 298 = some (ai_bin (fun x y => x * y) 299) := rfl
set_option maxRecDepth 100000 in
theorem at_87_299 : am_code 87 299 = some (ai_bin (fun x y => x + y) 300) := rfl
set_option maxRecDepth 100000 in
theorem at_87_300 : am_code 87 300 = some (ai_iload 4 302) := rfl
set_option maxRecDepth 100000 in
theorem at_87_302 : am_code 87 302 = some (ai_bin (fun x y => x + y) 303) := rfl
set_option maxRecDepth 100000 in
theorem at_87_303 : am_code 87 303 = some (ai_callV 77 50 2 306) := rfl
set_option maxRecDepth 100000 in
theorem at_87_306 : am_code 87 306 = some (ai_if (fun x => x = 0) 313 309) := rfl
set_option maxRecDepth 100000 in
theorem at_87_309 : am_code 87 309 = some (ai_push 1 310) := rfl
set_option maxRecDepth 100000 in
theorem at_87_310 : am_code 87 310 = some (ai_goto 314) := rfl
set_option maxRecDepth 100000 in
theorem at_87_313 : am_code 87 313 = some (ai_push 0 314) := rfl
set_option maxRecDepth 100000 in
theorem at_87_314 : am_code 87 314 = some (ai_istore 5 316) := rfl
set_option maxRecDepth 100000 in
theorem at_87_316 : am_code 87 316 = some (ai_aload 0 317) := rfl
set_option maxRecDepth 100000 in
theorem at_87_317 : am_code 87 317 = some (ai_getP 50 23 320) := rfl
set_option maxRecDepth 100000 in
theorem at_87_320 : am_code 87 320 = some (ai_iload 4 322) := rfl
set_option maxRecDepth 100000 in
theorem at_87_322 : am_code 87 322 = some (ai_ald 73 5 323) := rfl
set_option maxRecDepth 100000 in
theorem at_87_323 : am_code 87 323 = some (ai_if (fun x => x = 0) 347 326) := rfl
set_option maxRecDepth 100000 in
theorem at_87_326 : am_code 87 326 = some (ai_iload 5 328) := rfl
set_option maxRecDepth 100000 in
theorem at_87_328 : am_code 87 328 = some (ai_if (fun x => x = 0) 347 331) := rfl
set_option maxRecDepth 100000 in
theorem at_87_331 : am_code 87 331 = some (ai_aload 0 332) := rfl
set_option maxRecDepth 100000 in
theorem at_87_332 : am_code 87 332 = some (ai_getP 50 19 335) := rfl
set_option maxRecDepth 100000 in
theorem at_87_335 : am_code 87 335 = some (ai_push 5 336) := rfl
set_option maxRecDepth 100000 in
theorem at_87_336 : am_code 87 336 = some (ai_push 5 337) := rfl
set_option maxRecDepth 100000 in
theorem at_87_337 : am_code 87 337 = some (ai_iload 1 338) := rfl
set_option maxRecDepth 100000 in
theorem at_87_338 : am_code 87 338 = some (ai_bin (fun x y => x * y) 339) := rfl
set_option maxRecDepth 100000 in
theorem at_87_339 : am_code 87 339 = some (ai_iload 2 340) := rfl
set_option maxRecDepth 100000 in
theorem at_87_340 : am_code 87 340 = some (ai_bin (fun x y => x + y) 341) := rfl
set_option maxRecDepth 100000 in
theorem at_87_341 : am_code 87 341 = some (ai_bin (fun x y => x * y) 342) := rfl
set_option maxRecDepth 100000 in
theorem at_87_342 : am_code 87 342 = some (ai_iload 4 344) := rfl
set_option maxRecDepth 100000 in
theorem at_87_344 : am_code 87 344 = some (ai_bin (fun x y => x + y) 345) := rfl
set_option maxRecDepth 100000 in
theorem at_87_345 : am_code 87 345 = some (ai_push 0 346) := rfl
set_option maxRecDepth 100000 in
theorem at_87_346 : am_code 87 346 = some (ai_zast 69 125 347) := rfl
set_option maxRecDepth 100000 in
theorem at_87_347 : am_code 87 347 = some (ai_iinc 4 1 350) := rfl
set_option maxRecDepth 100000 in
theorem at_87_350 : am_code 87 350 = some (ai_goto 267) := rfl
set_option maxRecDepth 100000 in
theorem at_87_353 : am_code 87 353 = some (ai_ret) := rfl
theorem at_88_0 : am_code 88 0 = some (ai_iload 1 1) := rfl
theorem at_88_1 : am_code 88 1 = some (ai_push 1 2) := rfl
theorem at_88_2 : am_code 88 2 = some (ai_icmp (fun x y => x < y) 10 5) := rfl
theorem at_88_5 : am_code 88 5 = some (ai_iload 1 6) := rfl
theorem at_88_6 : am_code 88 6 = some (ai_push 4 7) := rfl
theorem at_88_7 : am_code 88 7 = some (ai_icmp (fun x y => x ≤ y) 12 10) := rfl
theorem at_88_10 : am_code 88 10 = some (ai_push 0 11) := rfl
theorem at_88_11 : am_code 88 11 = some (ai_zret) := rfl
theorem at_88_12 : am_code 88 12 = some (ai_push 0 13) := rfl
theorem at_88_13 : am_code 88 13 = some (ai_istore 2 14) := rfl
theorem at_88_14 : am_code 88 14 = some (ai_iload 2 15) := rfl
theorem at_88_15 : am_code 88 15 = some (ai_iload 1 16) := rfl
theorem at_88_16 : am_code 88 16 = some (ai_icmp (fun x y => y ≤ x) 128 19) := rfl
theorem at_88_19 : am_code 88 19 = some (ai_aload 0 20) := rfl
theorem at_88_20 : am_code 88 20 = some (ai_aload 0 21) := rfl
theorem at_88_21 : am_code 88 21 = some (ai_getI 50 0 24) := rfl
theorem at_88_24 : am_code 88 24 = some (ai_push 1 25) := rfl
theorem at_88_25 : am_code 88 25 = some (ai_bin (fun x y => x + y) 26) := rfl
theorem at_88_26 : am_code 88 26 = some (ai_putI 50 0 29) := rfl
theorem at_88_29 : am_code 88 29 = some (ai_aload 0 30) := rfl
theorem at_88_30 : am_code 88 30 = some (ai_callV 81 50 0 33) := rfl
theorem at_88_33 : am_code 88 33 = some (ai_aload 0 34) := rfl
theorem at_88_34 : am_code 88 34 = some (ai_getI 50 0 37) := rfl
theorem at_88_37 : am_code 88 37 = some (ai_push 2 38) := rfl
theorem at_88_38 : am_code 88 38 = some (ai_div (fun x y => x - x / y * y) 39) := rfl
theorem at_88_39 : am_code 88 39 = some (ai_if (fun x => ¬ x = 0) 46 42) := rfl
theorem at_88_42 : am_code 88 42 = some (ai_aload 0 43) := rfl
theorem at_88_43 : am_code 88 43 = some (ai_callV 82 50 0 46) := rfl
theorem at_88_46 : am_code 88 46 = some (ai_aload 0 47) := rfl
theorem at_88_47 : am_code 88 47 = some (ai_callV 83 50 0 50) := rfl
theorem at_88_50 : am_code 88 50 = some (ai_push 0 51) := rfl
theorem at_88_51 : am_code 88 51 = some (ai_istore 3 52) := rfl
theorem at_88_52 : am_code 88 52 = some (ai_iload 3 53) := rfl
theorem at_88_53 : am_code 88 53 = some (ai_push 5 54) := rfl
theorem at_88_54 : am_code 88 54 = some (ai_icmp (fun x y => y ≤ x) 68 57) := rfl
theorem at_88_57 : am_code 88 57 = some (ai_aload 0 58) := rfl
theorem at_88_58 : am_code 88 58 = some (ai_iload 3 59) := rfl
theorem at_88_59 : am_code 88 59 = some (ai_callV 85 50 1 62) := rfl
theorem at_88_62 : am_code 88 62 = some (ai_iinc 3 1 65) := rfl
theorem at_88_65 : am_code 88 65 = some (ai_goto 52) := rfl
theorem at_88_68 : am_code 88 68 = some (ai_aload 0 69) := rfl
theorem at_88_69 : am_code 88 69 = some (ai_callV 86 50 0 72) := rfl
theorem at_88_72 : am_code 88 72 = some (ai_push 0 73) := rfl
theorem at_88_73 : am_code 88 73 = some (ai_istore 3 74) := rfl
theorem at_88_74 : am_code 88 74 = some (ai_iload 3 75) := rfl
theorem at_88_75 : am_code 88 75 = some (ai_push 25 77) := rfl
theorem at_88_77 : am_code 88 77 = some (ai_icmp (fun x y => y ≤ x) 122 80) := rfl
theorem at_88_80 : am_code 88 80 = some (ai_aload 0 81) := rfl
theorem at_88_81 : am_code 88 81 = some (ai_getP 50 22 84) := rfl
theorem at_88_84 : am_code 88 84 = some (ai_iload 3 85) := rfl
theorem at_88_85 : am_code 88 85 = some (ai_ald 72 25 86) := rfl
theorem at_88_86 : am_code 88 86 = some (ai_if (fun x => x = 0) 116 89) := rfl
theorem at_88_89 : am_code 88 89 = some (ai_aload 0 90) := rfl
theorem at_88_90 : am_code 88 90 = some (ai_getP 50 7 93) := rfl
theorem at_88_93 : am_code 88 93 = some (ai_push 5 94) := rfl
theorem at_88_94 : am_code 88 94 = some (ai_iload 3 95) := rfl
theorem at_88_95 : am_code 88 95 = some (ai_push 5 96) := rfl
theorem at_88_96 : am_code 88 96 = some (ai_div (fun x y => x - x / y * y) 97) := rfl
theorem at_88_97 : am_code 88 97 = some (ai_bin (fun x y => x * y) 98) := rfl
theorem at_88_98 : am_code 88 98 = some (ai_iload 3 99) := rfl
theorem at_88_99 : am_code 88 99 = some (ai_push 5 100) := rfl
theorem at_88_100 : am_code 88 100 = some (ai_div (fun x y => x / y) 101) := rfl
theorem at_88_101 : am_code 88 101 = some (ai_bin (fun x y => x + y) 102) := rfl
theorem at_88_102 : am_code 88 102 = some (ai_ald 57 25 103) := rfl
theorem at_88_103 : am_code 88 103 = some (ai_if (fun x => x = 0) 116 106) := rfl
theorem at_88_106 : am_code 88 106 = some (ai_aload 0 107) := rfl
theorem at_88_107 : am_code 88 107 = some (ai_iload 3 108) := rfl
theorem at_88_108 : am_code 88 108 = some (ai_push 5 109) := rfl
theorem at_88_109 : am_code 88 109 = some (ai_div (fun x y => x / y) 110) := rfl
theorem at_88_110 : am_code 88 110 = some (ai_iload 3 111) := rfl
theorem at_88_111 : am_code 88 111 = some (ai_push 5 112) := rfl
theorem at_88_112 : am_code 88 112 = some (ai_div (fun x y => x - x / y * y) 113) := rfl
theorem at_88_113 : am_code 88 113 = some (ai_callV 87 50 2 116) := rfl
theorem at_88_116 : am_code 88 116 = some (ai_iinc 3 1 119) := rfl
theorem at_88_119 : am_code 88 119 = some (ai_goto 74) := rfl
theorem at_88_122 : am_code 88 122 = some (ai_iinc 2 1 125) := rfl
theorem at_88_125 : am_code 88 125 = some (ai_goto 14) := rfl
theorem at_88_128 : am_code 88 128 = some (ai_push 1 129) := rfl
theorem at_88_129 : am_code 88 129 = some (ai_zret) := rfl
theorem at_89_0 : am_code 89 0 = some (ai_aload 0 1) := rfl
theorem at_89_1 : am_code 89 1 = some (ai_iload 1 2) := rfl
theorem at_89_2 : am_code 89 2 = some (ai_iload 2 3) := rfl
theorem at_89_3 : am_code 89 3 = some (ai_callV 68 50 2 6) := rfl
theorem at_89_6 : am_code 89 6 = some (ai_if (fun x => ¬ x = 0) 11 9) := rfl
theorem at_89_9 : am_code 89 9 = some (ai_push (-1) 10) := rfl
theorem at_89_10 : am_code 89 10 = some (ai_iret) := rfl
theorem at_89_11 : am_code 89 11 = some (ai_push 5 12) := rfl
theorem at_89_12 : am_code 89 12 = some (ai_iload 1 13) := rfl
theorem at_89_13 : am_code 89 13 = some (ai_bin (fun x y => x * y) 14) := rfl
theorem at_89_14 : am_code 89 14 = some (ai_iload 2 15) := rfl
theorem at_89_15 : am_code 89 15 = some (ai_bin (fun x y => x + y) 16) := rfl
theorem at_89_16 : am_code 89 16 = some (ai_istore 3 17) := rfl
theorem at_89_17 : am_code 89 17 = some (ai_aload 0 18) := rfl
theorem at_89_18 : am_code 89 18 = some (ai_getP 50 7 21) := rfl
theorem at_89_21 : am_code 89 21 = some (ai_iload 3 22) := rfl
theorem at_89_22 : am_code 89 22 = some (ai_ald 57 25 23) := rfl
theorem at_89_23 : am_code 89 23 = some (ai_if (fun x => x = 0) 30 26) := rfl
theorem at_89_26 : am_code 89 26 = some (ai_push 2 27) := rfl
theorem at_89_27 : am_code 89 27 = some (ai_goto 44) := rfl
theorem at_89_30 : am_code 89 30 = some (ai_aload 0 31) := rfl
theorem at_89_31 : am_code 89 31 = some (ai_getP 50 4 34) := rfl
theorem at_89_34 : am_code 89 34 = some (ai_iload 3 35) := rfl
theorem at_89_35 : am_code 89 35 = some (ai_ald 54 25 36) := rfl
theorem at_89_36 : am_code 89 36 = some (ai_if (fun x => x = 0) 43 39) := rfl
theorem at_89_39 : am_code 89 39 = some (ai_push 1 40) := rfl
theorem at_89_40 : am_code 89 40 = some (ai_goto 44) := rfl
theorem at_89_43 : am_code 89 43 = some (ai_push 0 44) := rfl
theorem at_89_44 : am_code 89 44 = some (ai_iret) := rfl
theorem at_90_0 : am_code 90 0 = some (ai_iload 1 1) := rfl
theorem at_90_1 : am_code 90 1 = some (ai_callS 67 1 4) := rfl
theorem at_90_4 : am_code 90 4 = some (ai_if (fun x => x = 0) 27 7) := rfl
theorem at_90_7 : am_code 90 7 = some (ai_iload 2 8) := rfl
theorem at_90_8 : am_code 90 8 = some (ai_callS 67 1 11) := rfl
theorem at_90_11 : am_code 90 11 = some (ai_if (fun x => x = 0) 27 14) := rfl
theorem at_90_14 : am_code 90 14 = some (ai_aload 0 15) := rfl
theorem at_90_15 : am_code 90 15 = some (ai_getP 50 11 18) := rfl
theorem at_90_18 : am_code 90 18 = some (ai_push 5 19) := rfl
theorem at_90_19 : am_code 90 19 = some (ai_iload 1 20) := rfl
theorem at_90_20 : am_code 90 20 = some (ai_bin (fun x y => x * y) 21) := rfl
theorem at_90_21 : am_code 90 21 = some (ai_iload 2 22) := rfl
theorem at_90_22 : am_code 90 22 = some (ai_bin (fun x y => x + y) 23) := rfl
theorem at_90_23 : am_code 90 23 = some (ai_ald 61 60 24) := rfl
theorem at_90_24 : am_code 90 24 = some (ai_goto 28) := rfl
theorem at_90_27 : am_code 90 27 = some (ai_push (-1) 28) := rfl
theorem at_90_28 : am_code 90 28 = some (ai_iret) := rfl
theorem at_91_0 : am_code 91 0 = some (ai_iload 1 1) := rfl
theorem at_91_1 : am_code 91 1 = some (ai_callS 67 1 4) := rfl
theorem at_91_4 : am_code 91 4 = some (ai_if (fun x => x = 0) 45 7) := rfl
theorem at_91_7 : am_code 91 7 = some (ai_iload 2 8) := rfl
theorem at_91_8 : am_code 91 8 = some (ai_callS 67 1 11) := rfl
theorem at_91_11 : am_code 91 11 = some (ai_if (fun x => x = 0) 45 14) := rfl
theorem at_91_14 : am_code 91 14 = some (ai_aload 0 15) := rfl
theorem at_91_15 : am_code 91 15 = some (ai_getP 50 11 18) := rfl
theorem at_91_18 : am_code 91 18 = some (ai_push 5 19) := rfl
theorem at_91_19 : am_code 91 19 = some (ai_iload 1 20) := rfl
theorem at_91_20 : am_code 91 20 = some (ai_bin (fun x y => x * y) 21) := rfl
theorem at_91_21 : am_code 91 21 = some (ai_iload 2 22) := rfl
theorem at_91_22 : am_code 91 22 = some (ai_bin (fun x y => x + y) 23) := rfl
theorem at_91_23 : am_code 91 23 = some (ai_ald 61 60 24) := rfl
theorem at_91_24 : am_code 91 24 = some (ai_if (fun x => x ≤ 0) 45 27) := rfl
theorem at_91_27 : am_code 91 27 = some (ai_aload 0 28) := rfl
theorem at_91_28 : am_code 91 28 = some (ai_getI 50 0 31) := rfl
theorem at_91_31 : am_code 91 31 = some (ai_aload 0 32) := rfl
theorem at_91_32 : am_code 91 32 = some (ai_getP 50 12 35) := rfl
theorem at_91_35 : am_code 91 35 = some (ai_push 5 36) := rfl
theorem at_91_36 : am_code 91 36 = some (ai_iload 1 37) := rfl
theorem at_91_37 : am_code 91 37 = some (ai_bin (fun x y => x * y) 38) := rfl
theorem at_91_38 : am_code 91 38 = some (ai_iload 2 39) := rfl
theorem at_91_39 : am_code 91 39 = some (ai_bin (fun x y => x + y) 40) := rfl
theorem at_91_40 : am_code 91 40 = some (ai_ald 62 60 41) := rfl
theorem at_91_41 : am_code 91 41 = some (ai_bin (fun x y => x - y) 42) := rfl
theorem at_91_42 : am_code 91 42 = some (ai_goto 46) := rfl
theorem at_91_45 : am_code 91 45 = some (ai_push (-1) 46) := rfl
theorem at_91_46 : am_code 91 46 = some (ai_iret) := rfl
theorem at_92_0 : am_code 92 0 = some (ai_iload 1 1) := rfl
theorem at_92_1 : am_code 92 1 = some (ai_callS 67 1 4) := rfl
theorem at_92_4 : am_code 92 4 = some (ai_if (fun x => x = 0) 51 7) := rfl
theorem at_92_7 : am_code 92 7 = some (ai_iload 2 8) := rfl
theorem at_92_8 : am_code 92 8 = some (ai_callS 67 1 11) := rfl
theorem at_92_11 : am_code 92 11 = some (ai_if (fun x => x = 0) 51 14) := rfl
theorem at_92_14 : am_code 92 14 = some (ai_iload 3 15) := rfl
theorem at_92_15 : am_code 92 15 = some (ai_callS 67 1 18) := rfl
theorem at_92_18 : am_code 92 18 = some (ai_if (fun x => x = 0) 51 21) := rfl
theorem at_92_21 : am_code 92 21 = some (ai_aload 0 22) := rfl
theorem at_92_22 : am_code 92 22 = some (ai_getP 50 11 25) := rfl
theorem at_92_25 : am_code 92 25 = some (ai_push 5 26) := rfl
theorem at_92_26 : am_code 92 26 = some (ai_iload 1 27) := rfl
theorem at_92_27 : am_code 92 27 = some (ai_bin (fun x y => x * y) 28) := rfl
theorem at_92_28 : am_code 92 28 = some (ai_iload 2 29) := rfl
theorem at_92_29 : am_code 92 29 = some (ai_bin (fun x y => x + y) 30) := rfl
theorem at_92_30 : am_code 92 30 = some (ai_ald 61 60 31) := rfl
theorem at_92_31 : am_code 92 31 = some (ai_if (fun x => x ≤ 0) 51 34) := rfl
theorem at_92_34 : am_code 92 34 = some (ai_aload 0 35) := rfl
theorem at_92_35 : am_code 92 35 = some (ai_getP 50 13 38) := rfl
theorem at_92_38 : am_code 92 38 = some (ai_push 5 39) := rfl
theorem at_92_39 : am_code 92 39 = some (ai_push 5 40) := rfl
theorem at_92_40 : am_code 92 40 = some (ai_iload 1 41) := rfl
theorem at_92_41 : am_code 92 41 = some (ai_bin (fun x y => x * y) 42) := rfl
theorem at_92_42 : am_code 92 42 = some (ai_iload 2 43) := rfl
theorem at_92_43 : am_code 92 43 = some (ai_bin (fun x y => x + y) 44) := rfl
theorem at_92_44 : am_code 92 44 = some (ai_bin (fun x y => x * y) 45) := rfl
theorem at_92_45 : am_code 92 45 = some (ai_iload 3 46) := rfl
theorem at_92_46 : am_code 92 46 = some (ai_bin (fun x y => x + y) 47) := rfl
theorem at_92_47 : am_code 92 47 = some (ai_ald 63 300 48) := rfl
theorem at_92_48 : am_code 92 48 = some (ai_goto 52) := rfl
theorem at_92_51 : am_code 92 51 = some (ai_push (-1) 52) := rfl
theorem at_92_52 : am_code 92 52 = some (ai_iret) := rfl
theorem at_93_0 : am_code 93 0 = some (ai_aload 0 1) := rfl
theorem at_93_1 : am_code 93 1 = some (ai_iload 1 2) := rfl
theorem at_93_2 : am_code 93 2 = some (ai_iload 2 3) := rfl
theorem at_93_3 : am_code 93 3 = some (ai_callV 68 50 2 6) := rfl
theorem at_93_6 : am_code 93 6 = some (ai_if (fun x => ¬ x = 0) 11 9) := rfl
theorem at_93_9 : am_code 93 9 = some (ai_push (-1) 10) := rfl
theorem at_93_10 : am_code 93 10 = some (ai_iret) := rfl
theorem at_93_11 : am_code 93 11 = some (ai_push 0 12) := rfl
theorem at_93_12 : am_code 93 12 = some (ai_istore 3 13) := rfl
theorem at_93_13 : am_code 93 13 = some (ai_push 0 14) := rfl
theorem at_93_14 : am_code 93 14 = some (ai_istore 4 16) := rfl
theorem at_93_16 : am_code 93 16 = some (ai_iload 4 18) := rfl
theorem at_93_18 : am_code 93 18 = some (ai_push 5 19) := rfl
theorem at_93_19 : am_code 93 19 = some (ai_icmp (fun x y => y ≤ x) 54 22) := rfl
theorem at_93_22 : am_code 93 22 = some (ai_aload 0 23) := rfl
theorem at_93_23 : am_code 93 23 = some (ai_getP 50 19 26) := rfl
theorem at_93_26 : am_code 93 26 = some (ai_push 5 27) := rfl
theorem at_93_27 : am_code 93 27 = some (ai_push 5 28) := rfl
theorem at_93_28 : am_code 93 28 = some (ai_iload 1 29) := rfl
theorem at_93_29 : am_code 93 29 = some (ai_bin (fun x y => x * y) 30) := rfl
theorem at_93_30 : am_code 93 30 = some (ai_iload 2 31) := rfl
theorem at_93_31 : am_code 93 31 = some (ai_bin (fun x y => x + y) 32) := rfl
theorem at_93_32 : am_code 93 32 = some (ai_bin (fun x y => x * y) 33) := rfl
theorem at_93_33 : am_code 93 33 = some (ai_iload 4 35) := rfl
theorem at_93_35 : am_code 93 35 = some (ai_bin (fun x y => x + y) 36) := rfl
theorem at_93_36 : am_code 93 36 = some (ai_ald 69 125 37) := rfl
theorem at_93_37 : am_code 93 37 = some (ai_if (fun x => x = 0) 46 40) := rfl
theorem at_93_40 : am_code 93 40 = some (ai_iload 3 41) := rfl
theorem at_93_41 : am_code 93 41 = some (ai_push 1 42) := rfl
theorem at_93_42 : am_code 93 42 = some (ai_bin (fun x y => x + y) 43) := rfl
theorem at_93_43 : am_code 93 43 = some (ai_goto 47) := rfl
theorem at_93_46 : am_code 93 46 = some (ai_iload 3 47) := rfl
theorem at_93_47 : am_code 93 47 = some (ai_istore 3 48) := rfl
theorem at_93_48 : am_code 93 48 = some (ai_iinc 4 1 51) := rfl
theorem at_93_51 : am_code 93 51 = some (ai_goto 16) := rfl
theorem at_93_54 : am_code 93 54 = some (ai_iload 3 55) := rfl
theorem at_93_55 : am_code 93 55 = some (ai_iret) := rfl
theorem at_94_0 : am_code 94 0 = some (ai_aload 0 1) := rfl
theorem at_94_1 : am_code 94 1 = some (ai_getP 50 11 4) := rfl
theorem at_94_4 : am_code 94 4 = some (ai_push 5 5) := rfl
theorem at_94_5 : am_code 94 5 = some (ai_iload 1 6) := rfl
theorem at_94_6 : am_code 94 6 = some (ai_bin (fun x y => x * y) 7) := rfl
theorem at_94_7 : am_code 94 7 = some (ai_iload 2 8) := rfl
theorem at_94_8 : am_code 94 8 = some (ai_bin (fun x y => x + y) 9) := rfl
theorem at_94_9 : am_code 94 9 = some (ai_ald 61 60 10) := rfl
theorem at_94_10 : am_code 94 10 = some (ai_if (fun x => x ≤ 0) 47 13) := rfl
theorem at_94_13 : am_code 94 13 = some (ai_aload 0 14) := rfl
theorem at_94_14 : am_code 94 14 = some (ai_getP 50 11 17) := rfl
theorem at_94_17 : am_code 94 17 = some (ai_push 5 18) := rfl
theorem at_94_18 : am_code 94 18 = some (ai_iload 1 19) := rfl
theorem at_94_19 : am_code 94 19 = some (ai_bin (fun x y => x * y) 20) := rfl
theorem at_94_20 : am_code 94 20 = some (ai_iload 3 21) := rfl
theorem at_94_21 : am_code 94 21 = some (ai_bin (fun x y => x + y) 22) := rfl
theorem at_94_22 : am_code 94 22 = some (ai_ald 61 60 23) := rfl
theorem at_94_23 : am_code 94 23 = some (ai_if (fun x => x ≤ 0) 47 26) := rfl
theorem at_94_26 : am_code 94 26 = some (ai_aload 0 27) := rfl
theorem at_94_27 : am_code 94 27 = some (ai_getP 50 13 30) := rfl
theorem at_94_30 : am_code 94 30 = some (ai_push 5 31) := rfl
theorem at_94_31 : am_code 94 31 = some (ai_push 5 32) := rfl
theorem at_94_32 : am_code 94 32 = some (ai_iload 1 33) := rfl
theorem at_94_33 : am_code 94 33 = some (ai_bin (fun x y => x * y) 34) := rfl
theorem at_94_34 : am_code 94 34 = some (ai_iload 3 35) := rfl
theorem at_94_35 : am_code 94 35 = some (ai_bin (fun x y => x + y) 36) := rfl
theorem at_94_36 : am_code 94 36 = some (ai_bin (fun x y => x * y) 37) := rfl
theorem at_94_37 : am_code 94 37 = some (ai_iload 2 38) := rfl
theorem at_94_38 : am_code 94 38 = some (ai_bin (fun x y => x + y) 39) := rfl
theorem at_94_39 : am_code 94 39 = some (ai_ald 63 300 40) := rfl
theorem at_94_40 : am_code 94 40 = some (ai_if (fun x => x ≤ 0) 47 43) := rfl
theorem at_94_43 : am_code 94 43 = some (ai_push 1 44) := rfl
theorem at_94_44 : am_code 94 44 = some (ai_goto 48) := rfl
theorem at_94_47 : am_code 94 47 = some (ai_push 0 48) := rfl
theorem at_94_48 : am_code 94 48 = some (ai_istore 4 50) := rfl
theorem at_94_50 : am_code 94 50 = some (ai_aload 0 51) := rfl
theorem at_94_51 : am_code 94 51 = some (ai_getP 50 13 54) := rfl
theorem at_94_54 : am_code 94 54 = some (ai_push 5 55) := rfl
theorem at_94_55 : am_code 94 55 = some (ai_push 5 56) := rfl
theorem at_94_56 : am_code 94 56 = some (ai_iload 1 57) := rfl
theorem at_94_57 : am_code 94 57 = some (ai_bin (fun x y => x * y) 58) := rfl
theorem at_94_58 : am_code 94 58 = some (ai_iload 2 59) := rfl
theorem at_94_59 : am_code 94 59 = some (ai_bin (fun x y => x + y) 60) := rfl
theorem at_94_60 : am_code 94 60 = some (ai_bin (fun x y => x * y) 61) := rfl
theorem at_94_61 : am_code 94 61 = some (ai_iload 3 62) := rfl
theorem at_94_62 : am_code 94 62 = some (ai_bin (fun x y => x + y) 63) := rfl
theorem at_94_63 : am_code 94 63 = some (ai_ald 63 300 64) := rfl
theorem at_94_64 : am_code 94 64 = some (ai_istore 5 66) := rfl
theorem at_94_66 : am_code 94 66 = some (ai_iload 4 68) := rfl
theorem at_94_68 : am_code 94 68 = some (ai_if (fun x => x = 0) 81 71) := rfl
theorem at_94_71 : am_code 94 71 = some (ai_iload 5 73) := rfl
theorem at_94_73 : am_code 94 73 = some (ai_if (fun x => x ≤ 0) 81 76) := rfl
theorem at_94_76 : am_code 94 76 = some (ai_iload 5 78) := rfl
theorem at_94_78 : am_code 94 78 = some (ai_goto 84) := rfl
theorem at_94_81 : am_code 94 81 = some (ai_push 1000 84) := rfl
theorem at_94_84 : am_code 94 84 = some (ai_iret) := rfl
theorem at_95_0 : am_code 95 0 = some (ai_push 0 1) := rfl
theorem at_95_1 : am_code 95 1 = some (ai_istore 2 2) := rfl
theorem at_95_2 : am_code 95 2 = some (ai_iload 2 3) := rfl
theorem at_95_3 : am_code 95 3 = some (ai_push 25 5) := rfl
theorem at_95_5 : am_code 95 5 = some (ai_icmp (fun x y => y ≤ x) 42 8) := rfl
theorem at_95_8 : am_code 95 8 = some (ai_aload 0 9) := rfl
theorem at_95_9 : am_code 95 9 = some (ai_getP 50 24 12) := rfl
theorem at_95_12 : am_code 95 12 = some (ai_iload 2 13) := rfl
theorem at_95_13 : am_code 95 13 = some (ai_iload 2 14) := rfl
theorem at_95_14 : am_code 95 14 = some (ai_push 6 16) := rfl
theorem at_95_16 : am_code 95 16 = some (ai_div (fun x y => x - x / y * y) 17) := rfl
theorem at_95_17 : am_code 95 17 = some (ai_if (fun x => ¬ x = 0) 24 20) := rfl
theorem at_95_20 : am_code 95 20 = some (ai_push 0 21) := rfl
theorem at_95_21 : am_code 95 21 = some (ai_goto 35) := rfl
theorem at_95_24 : am_code 95 24 = some (ai_aload 0 25) := rfl
theorem at_95_25 : am_code 95 25 = some (ai_iload 1 26) := rfl
theorem at_95_26 : am_code 95 26 = some (ai_iload 2 27) := rfl
theorem at_95_27 : am_code 95 27 = some (ai_push 5 28) := rfl
theorem at_95_28 : am_code 95 28 = some (ai_div (fun x y => x / y) 29) := rfl
theorem at_95_29 : am_code 95 29 = some (ai_iload 2 30) := rfl
theorem at_95_30 : am_code 95 30 = some (ai_push 5 31) := rfl
theorem at_95_31 : am_code 95 31 = some (ai_div (fun x y => x - x / y * y) 32) := rfl
theorem at_95_32 : am_code 95 32 = some (ai_callV 94 50 3 35) := rfl
theorem at_95_35 : am_code 95 35 = some (ai_ast 74 25 36) := rfl
theorem at_95_36 : am_code 95 36 = some (ai_iinc 2 1 39) := rfl
theorem at_95_39 : am_code 95 39 = some (ai_goto 2) := rfl
theorem at_95_42 : am_code 95 42 = some (ai_push 0 43) := rfl
theorem at_95_43 : am_code 95 43 = some (ai_istore 2 44) := rfl
theorem at_95_44 : am_code 95 44 = some (ai_iload 2 45) := rfl
theorem at_95_45 : am_code 95 45 = some (ai_push 5 46) := rfl
theorem at_95_46 : am_code 95 46 = some (ai_icmp (fun x y => y ≤ x) 124 49) := rfl
theorem at_95_49 : am_code 95 49 = some (ai_push 0 50) := rfl
theorem at_95_50 : am_code 95 50 = some (ai_istore 3 51) := rfl
theorem at_95_51 : am_code 95 51 = some (ai_iload 3 52) := rfl
theorem at_95_52 : am_code 95 52 = some (ai_push 25 54) := rfl
theorem at_95_54 : am_code 95 54 = some (ai_icmp (fun x y => y ≤ x) 118 57) := rfl
theorem at_95_57 : am_code 95 57 = some (ai_aload 0 58) := rfl
theorem at_95_58 : am_code 95 58 = some (ai_getP 50 24 61) := rfl
theorem at_95_61 : am_code 95 61 = some (ai_iload 3 62) := rfl
theorem at_95_62 : am_code 95 62 = some (ai_push 5 63) := rfl
theorem at_95_63 : am_code 95 63 = some (ai_div (fun x y => x / y) 64) := rfl
theorem at_95_64 : am_code 95 64 = some (ai_push 5 65) := rfl
theorem at_95_65 : am_code 95 65 = some (ai_bin (fun x y => x * y) 66) := rfl
theorem at_95_66 : am_code 95 66 = some (ai_iload 2 67) := rfl
theorem at_95_67 : am_code 95 67 = some (ai_bin (fun x y => x + y) 68) := rfl
theorem at_95_68 : am_code 95 68 = some (ai_ald 74 25 69) := rfl
theorem at_95_69 : am_code 95 69 = some (ai_aload 0 70) := rfl
theorem at_95_70 : am_code 95 70 = some (ai_getP 50 24 73) := rfl
theorem at_95_73 : am_code 95 73 = some (ai_push 5 74) := rfl
theorem at_95_74 : am_code 95 74 = some (ai_iload 2 75) := rfl
theorem at_95_75 : am_code 95 75 = some (ai_bin (fun x y => x * y) 76) := rfl
theorem at_95_76 : am_code 95 76 = some (ai_iload 3 77) := rfl
theorem at_95_77 : am_code 95 77 = some (ai_push 5 78) := rfl
theorem at_95_78 : am_code 95 78 = some (ai_div (fun x y => x - x / y * y) 79) := rfl
theorem at_95_79 : am_code 95 79 = some (ai_bin (fun x y => x + y) 80) := rfl
theorem at_95_80 : am_code 95 80 = some (ai_ald 74 25 81) := rfl
theorem at_95_81 : am_code 95 81 = some (ai_bin (fun x y => x + y) 82) := rfl
theorem at_95_82 : am_code 95 82 = some (ai_istore 4 84) := rfl
theorem at_95_84 : am_code 95 84 = some (ai_aload 0 85) := rfl
theorem at_95_85 : am_code 95 85 = some (ai_getP 50 24 88) := rfl
theorem at_95_88 : am_code 95 88 = some (ai_iload 3 89) := rfl
theorem at_95_89 : am_code 95 89 = some (ai_iload 4 91) := rfl
theorem at_95_91 : am_code 95 91 = some (ai_aload 0 92) := rfl
theorem at_95_92 : am_code 95 92 = some (ai_getP 50 24 95) := rfl
theorem at_95_95 : am_code 95 95 = some (ai_iload 3 96) := rfl
theorem at_95_96 : am_code 95 96 = some (ai_ald 74 25 97) := rfl
theorem at_95_97 : am_code 95 97 = some (ai_icmp (fun x y => y ≤ x) 105 100) := rfl
theorem at_95_100 : am_code 95 100 = some (ai_iload 4 102) := rfl
theorem at_95_102 : am_code 95 102 = some (ai_goto 111) := rfl
theorem at_95_105 : am_code 95 105 = some (ai_aload 0 106) := rfl
theorem at_95_106 : am_code 95 106 = some (ai_getP 50 24 109) := rfl
theorem at_95_109 : am_code 95 109 = some (ai_iload 3 110) := rfl
theorem at_95_110 : am_code 95 110 = some (ai_ald 74 25 111) := rfl
theorem at_95_111 : am_code 95 111 = some (ai_ast 74 25 112) := rfl
theorem at_95_112 : am_code 95 112 = some (ai_iinc 3 1 115) := rfl
theorem at_95_115 : am_code 95 115 = some (ai_goto 51) := rfl
theorem at_95_118 : am_code 95 118 = some (ai_iinc 2 1 121) := rfl
theorem at_95_121 : am_code 95 121 = some (ai_goto 44) := rfl
theorem at_95_124 : am_code 95 124 = some (ai_ret) := rfl
theorem at_96_0 : am_code 96 0 = some (ai_iload 1 1) := rfl
theorem at_96_1 : am_code 96 1 = some (ai_callS 67 1 4) := rfl
theorem at_96_4 : am_code 96 4 = some (ai_if (fun x => x = 0) 23 7) := rfl
theorem at_96_7 : am_code 96 7 = some (ai_iload 2 8) := rfl
theorem at_96_8 : am_code 96 8 = some (ai_callS 67 1 11) := rfl
theorem at_96_11 : am_code 96 11 = some (ai_if (fun x => x = 0) 23 14) := rfl
theorem at_96_14 : am_code 96 14 = some (ai_aload 0 15) := rfl
theorem at_96_15 : am_code 96 15 = some (ai_getP 50 1 18) := rfl
theorem at_96_18 : am_code 96 18 = some (ai_iload 1 19) := rfl
theorem at_96_19 : am_code 96 19 = some (ai_ald 51 5 20) := rfl
theorem at_96_20 : am_code 96 20 = some (ai_if (fun x => x = 0) 25 23) := rfl
theorem at_96_23 : am_code 96 23 = some (ai_push (-1) 24) := rfl
theorem at_96_24 : am_code 96 24 = some (ai_iret) := rfl
theorem at_96_25 : am_code 96 25 = some (ai_aload 0 26) := rfl
theorem at_96_26 : am_code 96 26 = some (ai_iload 1 27) := rfl
theorem at_96_27 : am_code 96 27 = some (ai_callV 95 50 1 30) := rfl
theorem at_96_30 : am_code 96 30 = some (ai_aload 0 31) := rfl
theorem at_96_31 : am_code 96 31 = some (ai_getP 50 24 34) := rfl
theorem at_96_34 : am_code 96 34 = some (ai_push 5 35) := rfl
theorem at_96_35 : am_code 96 35 = some (ai_iload 1 36) := rfl
theorem at_96_36 : am_code 96 36 = some (ai_bin (fun x y => x * y) 37) := rfl
theorem at_96_37 : am_code 96 37 = some (ai_iload 2 38) := rfl
theorem at_96_38 : am_code 96 38 = some (ai_bin (fun x y => x + y) 39) := rfl
theorem at_96_39 : am_code 96 39 = some (ai_ald 74 25 40) := rfl
theorem at_96_40 : am_code 96 40 = some (ai_push 1000 43) := rfl
theorem at_96_43 : am_code 96 43 = some (ai_icmp (fun x y => y ≤ x) 59 46) := rfl
theorem at_96_46 : am_code 96 46 = some (ai_aload 0 47) := rfl
theorem at_96_47 : am_code 96 47 = some (ai_getP 50 24 50) := rfl
theorem at_96_50 : am_code 96 50 = some (ai_push 5 51) := rfl
theorem at_96_51 : am_code 96 51 = some (ai_iload 1 52) := rfl
theorem at_96_52 : am_code 96 52 = some (ai_bin (fun x y => x * y) 53) := rfl
theorem at_96_53 : am_code 96 53 = some (ai_iload 2 54) := rfl
theorem at_96_54 : am_code 96 54 = some (ai_bin (fun x y => x + y) 55) := rfl
theorem at_96_55 : am_code 96 55 = some (ai_ald 74 25 56) := rfl
theorem at_96_56 : am_code 96 56 = some (ai_goto 60) := rfl
theorem at_96_59 : am_code 96 59 = some (ai_push (-1) 60) := rfl
theorem at_96_60 : am_code 96 60 = some (ai_iret) := rfl
theorem at_97_0 : am_code 97 0 = some (ai_iload 1 1) := rfl
theorem at_97_1 : am_code 97 1 = some (ai_callS 67 1 4) := rfl
theorem at_97_4 : am_code 97 4 = some (ai_if (fun x => x = 0) 28 7) := rfl
theorem at_97_7 : am_code 97 7 = some (ai_iload 2 8) := rfl
theorem at_97_8 : am_code 97 8 = some (ai_callS 67 1 11) := rfl
theorem at_97_11 : am_code 97 11 = some (ai_if (fun x => x = 0) 28 14) := rfl
theorem at_97_14 : am_code 97 14 = some (ai_aload 0 15) := rfl
theorem at_97_15 : am_code 97 15 = some (ai_getP 50 1 18) := rfl
theorem at_97_18 : am_code 97 18 = some (ai_iload 1 19) := rfl
theorem at_97_19 : am_code 97 19 = some (ai_ald 51 5 20) := rfl
theorem at_97_20 : am_code 97 20 = some (ai_if (fun x => ¬ x = 0) 28 23) := rfl
theorem at_97_23 : am_code 97 23 = some (ai_iload 1 24) := rfl
theorem at_97_24 : am_code 97 24 = some (ai_iload 2 25) := rfl
theorem at_97_25 : am_code 97 25 = some (ai_icmp (fun x y => ¬ x = y) 30 28) := rfl
theorem at_97_28 : am_code 97 28 = some (ai_push (-1) 29) := rfl
theorem at_97_29 : am_code 97 29 = some (ai_iret) := rfl
theorem at_97_30 : am_code 97 30 = some (ai_aload 0 31) := rfl
theorem at_97_31 : am_code 97 31 = some (ai_iload 1 32) := rfl
theorem at_97_32 : am_code 97 32 = some (ai_callV 95 50 1 35) := rfl
theorem at_97_35 : am_code 97 35 = some (ai_push (-1) 36) := rfl
theorem at_97_36 : am_code 97 36 = some (ai_istore 3 37) := rfl
theorem at_97_37 : am_code 97 37 = some (ai_push 4 38) := rfl
theorem at_97_38 : am_code 97 38 = some (ai_istore 4 40) := rfl
theorem at_97_40 : am_code 97 40 = some (ai_iload 4 42) := rfl
theorem at_97_42 : am_code 97 42 = some (ai_if (fun x => x < 0) 131 45) := rfl
theorem at_97_45 : am_code 97 45 = some (ai_iload 4 47) := rfl
theorem at_97_47 : am_code 97 47 = some (ai_iload 1 48) := rfl
theorem at_97_48 : am_code 97 48 = some (ai_icmp (fun x y => ¬ x = y) 57 51) := rfl
theorem at_97_51 : am_code 97 51 = some (ai_push 1000 54) := rfl
theorem at_97_54 : am_code 97 54 = some (ai_goto 65) := rfl
theorem at_97_57 : am_code 97 57 = some (ai_aload 0 58) := rfl
theorem at_97_58 : am_code 97 58 = some (ai_iload 1 59) := rfl
theorem at_97_59 : am_code 97 59 = some (ai_iload 1 60) := rfl
theorem at_97_60 : am_code 97 60 = some (ai_iload 4 62) := rfl
theorem at_97_62 : am_code 97 62 = some (ai_callV 94 50 3 65) := rfl
theorem at_97_65 : am_code 97 65 = some (ai_istore 5 67) := rfl
theorem at_97_67 : am_code 97 67 = some (ai_aload 0 68) := rfl
theorem at_97_68 : am_code 97 68 = some (ai_getP 50 24 71) := rfl
theorem at_97_71 : am_code 97 71 = some (ai_push 5 72) := rfl
theorem at_97_72 : am_code 97 72 = some (ai_iload 1 73) := rfl
theorem at_97_73 : am_code 97 73 = some (ai_bin (fun x y => x * y) 74) := rfl
theorem at_97_74 : am_code 97 74 = some (ai_iload 2 75) := rfl
theorem at_97_75 : am_code 97 75 = some (ai_bin (fun x y => x + y) 76) := rfl
theorem at_97_76 : am_code 97 76 = some (ai_ald 74 25 77) := rfl
theorem at_97_77 : am_code 97 77 = some (ai_push 1000 80) := rfl
theorem at_97_80 : am_code 97 80 = some (ai_icmp (fun x y => y ≤ x) 123 83) := rfl
theorem at_97_83 : am_code 97 83 = some (ai_iload 5 85) := rfl
theorem at_97_85 : am_code 97 85 = some (ai_push 1000 88) := rfl
theorem at_97_88 : am_code 97 88 = some (ai_icmp (fun x y => y ≤ x) 123 91) := rfl
theorem at_97_91 : am_code 97 91 = some (ai_iload 5 93) := rfl
theorem at_97_93 : am_code 97 93 = some (ai_aload 0 94) := rfl
theorem at_97_94 : am_code 97 94 = some (ai_getP 50 24 97) := rfl
theorem at_97_97 : am_code 97 97 = some (ai_push 5 98) := rfl
theorem at_97_98 : am_code 97 98 = some (ai_iload 4 100) := rfl
theorem at_97_100 : am_code 97 100 = some (ai_bin (fun x y => x * y) 101) := rfl
theorem at_97_101 : am_code 97 101 = some (ai_iload 2 102) := rfl
theorem at_97_102 : am_code 97 102 = some (ai_bin (fun x y => x + y) 103) := rfl
theorem at_97_103 : am_code 97 103 = some (ai_ald 74 25 104) := rfl
theorem at_97_104 : am_code 97 104 = some (ai_bin (fun x y => x + y) 105) := rfl
theorem at_97_105 : am_code 97 105 = some (ai_aload 0 106) := rfl
theorem at_97_106 : am_code 97 106 = some (ai_getP 50 24 109) := rfl
theorem at_97_109 : am_code 97 109 = some (ai_push 5 110) := rfl
theorem at_97_110 : am_code 97 110 = some (ai_iload 1 111) := rfl
theorem at_97_111 : am_code 97 111 = some (ai_bin (fun x y => x * y) 112) := rfl
theorem at_97_112 : am_code 97 112 = some (ai_iload 2 113) := rfl
theorem at_97_113 : am_code 97 113 = some (ai_bin (fun x y => x + y) 114) := rfl
theorem at_97_114 : am_code 97 114 = some (ai_ald 74 25 115) := rfl
theorem at_97_115 : am_code 97 115 = some (ai_icmp (fun x y => ¬ x = y) 123 118) := rfl
theorem at_97_118 : am_code 97 118 = some (ai_iload 4 120) := rfl
theorem at_97_120 : am_code 97 120 = some (ai_goto 124) := rfl
theorem at_97_123 : am_code 97 123 = some (ai_iload 3 124) := rfl
theorem at_97_124 : am_code 97 124 = some (ai_istore 3 125) := rfl
theorem at_97_125 : am_code 97 125 = some (ai_iinc 4 (-1) 128) := rfl
theorem at_97_128 : am_code 97 128 = some (ai_goto 40) := rfl
theorem at_97_131 : am_code 97 131 = some (ai_iload 3 132) := rfl
theorem at_97_132 : am_code 97 132 = some (ai_iret) := rfl
theorem at_98_0 : am_code 98 0 = some (ai_iload 1 1) := rfl
theorem at_98_1 : am_code 98 1 = some (ai_callS 67 1 4) := rfl
theorem at_98_4 : am_code 98 4 = some (ai_if (fun x => x = 0) 27 7) := rfl
theorem at_98_7 : am_code 98 7 = some (ai_aload 0 8) := rfl
theorem at_98_8 : am_code 98 8 = some (ai_getP 50 1 11) := rfl
theorem at_98_11 : am_code 98 11 = some (ai_iload 1 12) := rfl
theorem at_98_12 : am_code 98 12 = some (ai_ald 51 5 13) := rfl
theorem at_98_13 : am_code 98 13 = some (ai_if (fun x => ¬ x = 0) 27 16) := rfl
theorem at_98_16 : am_code 98 16 = some (ai_iload 2 17) := rfl
theorem at_98_17 : am_code 98 17 = some (ai_if (fun x => x < 0) 27 20) := rfl
theorem at_98_20 : am_code 98 20 = some (ai_iload 2 21) := rfl
theorem at_98_21 : am_code 98 21 = some (ai_push 255 24) := rfl
theorem at_98_24 : am_code 98 24 = some (ai_icmp (fun x y => x ≤ y) 29 27) := rfl
theorem at_98_27 : am_code 98 27 = some (ai_push (-1) 28) := rfl
theorem at_98_28 : am_code 98 28 = some (ai_iret) := rfl
theorem at_98_29 : am_code 98 29 = some (ai_aload 0 30) := rfl
theorem at_98_30 : am_code 98 30 = some (ai_iload 1 31) := rfl
theorem at_98_31 : am_code 98 31 = some (ai_callV 95 50 1 34) := rfl
theorem at_98_34 : am_code 98 34 = some (ai_push (-1) 35) := rfl
theorem at_98_35 : am_code 98 35 = some (ai_istore 3 36) := rfl
theorem at_98_36 : am_code 98 36 = some (ai_push (-1) 37) := rfl
theorem at_98_37 : am_code 98 37 = some (ai_istore 4 39) := rfl
theorem at_98_39 : am_code 98 39 = some (ai_push 0 40) := rfl
theorem at_98_40 : am_code 98 40 = some (ai_istore 5 42) := rfl
theorem at_98_42 : am_code 98 42 = some (ai_push 0 43) := rfl
theorem at_98_43 : am_code 98 43 = some (ai_istore 6 45) := rfl
theorem at_98_45 : am_code 98 45 = some (ai_iload 6 47) := rfl
theorem at_98_47 : am_code 98 47 = some (ai_push 10 49) := rfl
theorem at_98_49 : am_code 98 49 = some (ai_icmp (fun x y => y ≤ x) 233 52) := rfl
theorem at_98_52 : am_code 98 52 = some (ai_iload 6 54) := rfl
theorem at_98_54 : am_code 98 54 = some (ai_push 2 55) := rfl
theorem at_98_55 : am_code 98 55 = some (ai_div (fun x y => x / y) 56) := rfl
theorem at_98_56 : am_code 98 56 = some (ai_istore 7 58) := rfl
theorem at_98_58 : am_code 98 58 = some (ai_push 2 59) := rfl
theorem at_98_59 : am_code 98 59 = some (ai_push 5 60) := rfl
theorem at_98_60 : am_code 98 60 = some (ai_iload 1 61) := rfl
theorem at_98_61 : am_code 98 61 = some (ai_bin (fun x y => x * y) 62) := rfl
theorem at_98_62 : am_code 98 62 = some (ai_iload 7 64) := rfl
theorem at_98_64 : am_code 98 64 = some (ai_bin (fun x y => x + y) 65) := rfl
theorem at_98_65 : am_code 98 65 = some (ai_bin (fun x y => x * y) 66) := rfl
theorem at_98_66 : am_code 98 66 = some (ai_iload 6 68) := rfl
theorem at_98_68 : am_code 98 68 = some (ai_push 2 69) := rfl
theorem at_98_69 : am_code 98 69 = some (ai_div (fun x y => x - x / y * y) 70) := rfl
theorem at_98_70 : am_code 98 70 = some (ai_bin (fun x y => x + y) 71) := rfl
theorem at_98_71 : am_code 98 71 = some (ai_istore 8 73) := rfl
theorem at_98_73 : am_code 98 73 = some (ai_aload 0 74) := rfl
theorem at_98_74 : am_code 98 74 = some (ai_getP 50 11 77) := rfl
theorem at_98_77 : am_code 98 77 = some (ai_push 5 78) := rfl
theorem at_98_78 : am_code 98 78 = some (ai_iload 1 79) := rfl
theorem at_98_79 : am_code 98 79 = some (ai_bin (fun x y => x * y) 80) := rfl
theorem at_98_80 : am_code 98 80 = some (ai_iload 7 82) := rfl
theorem at_98_82 : am_code 98 82 = some (ai_bin (fun x y => x + y) 83) := rfl
theorem at_98_83 : am_code 98 83 = some (ai_ald 61 60 84) := rfl
theorem at_98_84 : am_code 98 84 = some (ai_if (fun x => x ≤ 0) 151 87) := rfl
theorem at_98_87 : am_code 98 87 = some (ai_aload 0 88) := rfl
theorem at_98_88 : am_code 98 88 = some (ai_getP 50 24 91) := rfl
theorem at_98_91 : am_code 98 91 = some (ai_push 5 92) := rfl
theorem at_98_92 : am_code 98 92 = some (ai_iload 1 93) := rfl
theorem at_98_93 : am_code 98 93 = some (ai_bin (fun x y => x * y) 94) := rfl
theorem at_98_94 : am_code 98 94 = some (ai_iload 7 96) := rfl
theorem at_98_96 : am_code 98 96 = some (ai_bin (fun x y => x + y) 97) := rfl
theorem at_98_97 : am_code 98 97 = some (ai_ald 74 25 98) := rfl
theorem at_98_98 : am_code 98 98 = some (ai_push 1000 101) := rfl
theorem at_98_101 : am_code 98 101 = some (ai_icmp (fun x y => y ≤ x) 151 104) := rfl
theorem at_98_104 : am_code 98 104 = some (ai_aload 0 105) := rfl
theorem at_98_105 : am_code 98 105 = some (ai_getP 50 16 108) := rfl
theorem at_98_108 : am_code 98 108 = some (ai_iload 8 110) := rfl
theorem at_98_110 : am_code 98 110 = some (ai_ald 66 120 111) := rfl
theorem at_98_111 : am_code 98 111 = some (ai_if (fun x => x ≤ 0) 151 114) := rfl
theorem at_98_114 : am_code 98 114 = some (ai_iload 2 115) := rfl
theorem at_98_115 : am_code 98 115 = some (ai_push 8 117) := rfl
theorem at_98_117 : am_code 98 117 = some (ai_aload 0 118) := rfl
theorem at_98_118 : am_code 98 118 = some (ai_getP 50 15 121) := rfl
theorem at_98_121 : am_code 98 121 = some (ai_iload 8 123) := rfl
theorem at_98_123 : am_code 98 123 = some (ai_ald 65 120 124) := rfl
theorem at_98_124 : am_code 98 124 = some (ai_bin (fun x y => x - y) 125) := rfl
theorem at_98_125 : am_code 98 125 = some (ai_bin (fun x y => x >>> (y &&& 31)) 126) := rfl
theorem at_98_126 : am_code 98 126 = some (ai_aload 0 127) := rfl
theorem at_98_127 : am_code 98 127 = some (ai_getP 50 14 130) := rfl
theorem at_98_130 : am_code 98 130 = some (ai_iload 8 132) := rfl
theorem at_98_132 : am_code 98 132 = some (ai_ald 64 120 133) := rfl
theorem at_98_133 : am_code 98 133 = some (ai_push 8 135) := rfl
theorem at_98_135 : am_code 98 135 = some (ai_aload 0 136) := rfl
theorem at_98_136 : am_code 98 136 = some (ai_getP 50 15 139) := rfl
theorem at_98_139 : am_code 98 139 = some (ai_iload 8 141) := rfl
theorem at_98_141 : am_code 98 141 = some (ai_ald 65 120 142) := rfl
theorem at_98_142 : am_code 98 142 = some (ai_bin (fun x y => x - y) 143) := rfl
theorem at_98_143 : am_code 98 143 = some (ai_bin (fun x y => x >>> (y &&& 31)) 144) := rfl
theorem at_98_144 : am_code 98 144 = some (ai_icmp (fun x y => ¬ x = y) 151 147) := rfl
theorem at_98_147 : am_code 98 147 = some (ai_push 1 148) := rfl
theorem at_98_148 : am_code 98 148 = some (ai_goto 152) := rfl
theorem at_98_151 : am_code 98 151 = some (ai_push 0 152) := rfl
theorem at_98_152 : am_code 98 152 = some (ai_istore 9 154) := rfl
theorem at_98_154 : am_code 98 154 = some (ai_aload 0 155) := rfl
theorem at_98_155 : am_code 98 155 = some (ai_getP 50 24 158) := rfl
theorem at_98_158 : am_code 98 158 = some (ai_push 5 159) := rfl
theorem at_98_159 : am_code 98 159 = some (ai_iload 1 160) := rfl
theorem at_98_160 : am_code 98 160 = some (ai_bin (fun x y => x * y) 161) := rfl
theorem at_98_161 : am_code 98 161 = some (ai_iload 7 163) := rfl
theorem at_98_163 : am_code 98 163 = some (ai_bin (fun x y => x + y) 164) := rfl
theorem at_98_164 : am_code 98 164 = some (ai_ald 74 25 165) := rfl
theorem at_98_165 : am_code 98 165 = some (ai_aload 0 166) := rfl
theorem at_98_166 : am_code 98 166 = some (ai_getP 50 16 169) := rfl
theorem at_98_169 : am_code 98 169 = some (ai_iload 8 171) := rfl
theorem at_98_171 : am_code 98 171 = some (ai_ald 66 120 172) := rfl
theorem at_98_172 : am_code 98 172 = some (ai_bin (fun x y => x + y) 173) := rfl
theorem at_98_173 : am_code 98 173 = some (ai_istore 10 175) := rfl
theorem at_98_175 : am_code 98 175 = some (ai_iload 9 177) := rfl
theorem at_98_177 : am_code 98 177 = some (ai_if (fun x => x = 0) 227 180) := rfl
theorem at_98_180 : am_code 98 180 = some (ai_aload 0 181) := rfl
theorem at_98_181 : am_code 98 181 = some (ai_getP 50 15 184) := rfl
theorem at_98_184 : am_code 98 184 = some (ai_iload 8 186) := rfl
theorem at_98_186 : am_code 98 186 = some (ai_ald 65 120 187) := rfl
theorem at_98_187 : am_code 98 187 = some (ai_iload 4 189) := rfl
theorem at_98_189 : am_code 98 189 = some (ai_icmp (fun x y => y < x) 211 192) := rfl
theorem at_98_192 : am_code 98 192 = some (ai_aload 0 193) := rfl
theorem at_98_193 : am_code 98 193 = some (ai_getP 50 15 196) := rfl
theorem at_98_196 : am_code 98 196 = some (ai_iload 8 198) := rfl
theorem at_98_198 : am_code 98 198 = some (ai_ald 65 120 199) := rfl
theorem at_98_199 : am_code 98 199 = some (ai_iload 4 201) := rfl
theorem at_98_201 : am_code 98 201 = some (ai_icmp (fun x y => ¬ x = y) 227 204) := rfl
theorem at_98_204 : am_code 98 204 = some (ai_iload 10 206) := rfl
theorem at_98_206 : am_code 98 206 = some (ai_iload 5 208) := rfl
theorem at_98_208 : am_code 98 208 = some (ai_icmp (fun x y => y ≤ x) 227 211) := rfl
theorem at_98_211 : am_code 98 211 = some (ai_iload 7 213) := rfl
theorem at_98_213 : am_code 98 213 = some (ai_istore 3 214) := rfl
theorem at_98_214 : am_code 98 214 = some (ai_aload 0 215) := rfl
theorem at_98_215 : am_code 98 215 = some (ai_getP 50 15 218) := rfl
theorem at_98_218 : am_code 98 218 = some (ai_iload 8 220) := rfl
theorem at_98_220 : am_code 98 220 = some (ai_ald 65 120 221) := rfl
theorem at_98_221 : am_code 98 221 = some (ai_istore 4 223) := rfl
theorem at_98_223 : am_code 98 223 = some (ai_iload 10 225) := rfl
theorem at_98_225 : am_code 98 225 = some (ai_istore 5 227) := rfl
theorem at_98_227 : am_code 98 227 = some (ai_iinc 6 1 230) := rfl
theorem at_98_230 : am_code 98 230 = some (ai_goto 45) := rfl
theorem at_98_233 : am_code 98 233 = some (ai_iload 3 234) := rfl
theorem at_98_234 : am_code 98 234 = some (ai_iret) := rfl
theorem at_99_0 : am_code 99 0 = some (ai_iload 1 1) := rfl
theorem at_99_1 : am_code 99 1 = some (ai_callS 67 1 4) := rfl
theorem at_99_4 : am_code 99 4 = some (ai_if (fun x => x = 0) 38 7) := rfl
theorem at_99_7 : am_code 99 7 = some (ai_aload 0 8) := rfl
theorem at_99_8 : am_code 99 8 = some (ai_getP 50 1 11) := rfl
theorem at_99_11 : am_code 99 11 = some (ai_iload 1 12) := rfl
theorem at_99_12 : am_code 99 12 = some (ai_ald 51 5 13) := rfl
theorem at_99_13 : am_code 99 13 = some (ai_if (fun x => ¬ x = 0) 38 16) := rfl
theorem at_99_16 : am_code 99 16 = some (ai_iload 2 17) := rfl
theorem at_99_17 : am_code 99 17 = some (ai_if (fun x => x < 0) 38 20) := rfl
theorem at_99_20 : am_code 99 20 = some (ai_iload 2 21) := rfl
theorem at_99_21 : am_code 99 21 = some (ai_push 255 24) := rfl
theorem at_99_24 : am_code 99 24 = some (ai_icmp (fun x y => y < x) 38 27) := rfl
theorem at_99_27 : am_code 99 27 = some (ai_iload 3 28) := rfl
theorem at_99_28 : am_code 99 28 = some (ai_push 1 29) := rfl
theorem at_99_29 : am_code 99 29 = some (ai_icmp (fun x y => x < y) 38 32) := rfl
theorem at_99_32 : am_code 99 32 = some (ai_iload 3 33) := rfl
theorem at_99_33 : am_code 99 33 = some (ai_push 15 35) := rfl
theorem at_99_35 : am_code 99 35 = some (ai_icmp (fun x y => x ≤ y) 40 38) := rfl
theorem at_99_38 : am_code 99 38 = some (ai_push (-1) 39) := rfl
theorem at_99_39 : am_code 99 39 = some (ai_iret) := rfl
theorem at_99_40 : am_code 99 40 = some (ai_iload 1 41) := rfl
theorem at_99_41 : am_code 99 41 = some (ai_istore 4 43) := rfl
theorem at_99_43 : am_code 99 43 = some (ai_iload 3 44) := rfl
theorem at_99_44 : am_code 99 44 = some (ai_istore 5 46) := rfl
theorem at_99_46 : am_code 99 46 = some (ai_push 0 47) := rfl
theorem at_99_47 : am_code 99 47 = some (ai_istore 6 49) := rfl
theorem at_99_49 : am_code 99 49 = some (ai_iload 6 51) := rfl
theorem at_99_51 : am_code 99 51 = some (ai_push 16 53) := rfl
theorem at_99_53 : am_code 99 53 = some (ai_icmp (fun x y => y ≤ x) 157 56) := rfl
theorem at_99_56 : am_code 99 56 = some (ai_aload 0 57) := rfl
theorem at_99_57 : am_code 99 57 = some (ai_iload 4 59) := rfl
theorem at_99_59 : am_code 99 59 = some (ai_iload 2 60) := rfl
theorem at_99_60 : am_code 99 60 = some (ai_callV 98 50 2 63) := rfl
theorem at_99_63 : am_code 99 63 = some (ai_istore 7 65) := rfl
theorem at_99_65 : am_code 99 65 = some (ai_iload 7 67) := rfl
theorem at_99_67 : am_code 99 67 = some (ai_if (fun x => 0 ≤ x) 77 70) := rfl
theorem at_99_70 : am_code 99 70 = some (ai_push 300 73) := rfl
theorem at_99_73 : am_code 99 73 = some (ai_iload 4 75) := rfl
theorem at_99_75 : am_code 99 75 = some (ai_bin (fun x y => x + y) 76) := rfl
theorem at_99_76 : am_code 99 76 = some (ai_iret) := rfl
theorem at_99_77 : am_code 99 77 = some (ai_iload 7 79) := rfl
theorem at_99_79 : am_code 99 79 = some (ai_iload 4 81) := rfl
theorem at_99_81 : am_code 99 81 = some (ai_icmp (fun x y => ¬ x = y) 90 84) := rfl
theorem at_99_84 : am_code 99 84 = some (ai_push 100 86) := rfl
theorem at_99_86 : am_code 99 86 = some (ai_iload 4 88) := rfl
theorem at_99_88 : am_code 99 88 = some (ai_bin (fun x y => x + y) 89) := rfl
theorem at_99_89 : am_code 99 89 = some (ai_iret) := rfl
theorem at_99_90 : am_code 99 90 = some (ai_iload 5 92) := rfl
theorem at_99_92 : am_code 99 92 = some (ai_push 1 93) := rfl
theorem at_99_93 : am_code 99 93 = some (ai_icmp (fun x y => ¬ x = y) 103 96) := rfl
theorem at_99_96 : am_code 99 96 = some (ai_push 200 99) := rfl
theorem at_99_99 : am_code 99 99 = some (ai_iload 4 101) := rfl
theorem at_99_101 : am_code 99 101 = some (ai_bin (fun x y => x + y) 102) := rfl
theorem at_99_102 : am_code 99 102 = some (ai_iret) := rfl
theorem at_99_103 : am_code 99 103 = some (ai_iload 5 105) := rfl
theorem at_99_105 : am_code 99 105 = some (ai_push 1 106) := rfl
theorem at_99_106 : am_code 99 106 = some (ai_bin (fun x y => x - y) 107) := rfl
theorem at_99_107 : am_code 99 107 = some (ai_istore 5 109) := rfl
theorem at_99_109 : am_code 99 109 = some (ai_aload 0 110) := rfl
theorem at_99_110 : am_code 99 110 = some (ai_iload 4 112) := rfl
theorem at_99_112 : am_code 99 112 = some (ai_iload 7 114) := rfl
theorem at_99_114 : am_code 99 114 = some (ai_callV 97 50 2 117) := rfl
theorem at_99_117 : am_code 99 117 = some (ai_istore 8 119) := rfl
theorem at_99_119 : am_code 99 119 = some (ai_aload 0 120) := rfl
theorem at_99_120 : am_code 99 120 = some (ai_iload 4 122) := rfl
theorem at_99_122 : am_code 99 122 = some (ai_iload 8 124) := rfl
theorem at_99_124 : am_code 99 124 = some (ai_callV 68 50 2 127) := rfl
theorem at_99_127 : am_code 99 127 = some (ai_if (fun x => x = 0) 140 130) := rfl
theorem at_99_130 : am_code 99 130 = some (ai_aload 0 131) := rfl
theorem at_99_131 : am_code 99 131 = some (ai_getP 50 1 134) := rfl
theorem at_99_134 : am_code 99 134 = some (ai_iload 8 136) := rfl
theorem at_99_136 : am_code 99 136 = some (ai_ald 51 5 137) := rfl
theorem at_99_137 : am_code 99 137 = some (ai_if (fun x => x = 0) 147 140) := rfl
theorem at_99_140 : am_code 99 140 = some (ai_push 400 143) := rfl
theorem at_99_143 : am_code 99 143 = some (ai_iload 4 145) := rfl
theorem at_99_145 : am_code 99 145 = some (ai_bin (fun x y => x + y) 146) := rfl
theorem at_99_146 : am_code 99 146 = some (ai_iret) := rfl
theorem at_99_147 : am_code 99 147 = some (ai_iload 8 149) := rfl
theorem at_99_149 : am_code 99 149 = some (ai_istore 4 151) := rfl
theorem at_99_151 : am_code 99 151 = some (ai_iinc 6 1 154) := rfl
theorem at_99_154 : am_code 99 154 = some (ai_goto 49) := rfl
theorem at_99_157 : am_code 99 157 = some (ai_push (-1) 158) := rfl
theorem at_99_158 : am_code 99 158 = some (ai_iret) := rfl
theorem at_100_0 : am_code 100 0 = some (ai_iload 1 1) := rfl
theorem at_100_1 : am_code 100 1 = some (ai_if (fun x => x < 0) 10 4) := rfl
theorem at_100_4 : am_code 100 4 = some (ai_iload 1 5) := rfl
theorem at_100_5 : am_code 100 5 = some (ai_push 6 7) := rfl
theorem at_100_7 : am_code 100 7 = some (ai_icmp (fun x y => x ≤ y) 14 10) := rfl
theorem at_100_10 : am_code 100 10 = some (ai_push (-1) 11) := rfl
theorem at_100_11 : am_code 100 11 = some (ai_goto 20) := rfl
theorem at_100_14 : am_code 100 14 = some (ai_aload 0 15) := rfl
theorem at_100_15 : am_code 100 15 = some (ai_getP 50 10 18) := rfl
theorem at_100_18 : am_code 100 18 = some (ai_iload 1 19) := rfl
theorem at_100_19 : am_code 100 19 = some (ai_ald 60 7 20) := rfl
theorem at_100_20 : am_code 100 20 = some (ai_iret) := rfl
set_option maxRecDepth 100000 in
theorem at_101_0 : am_code 101 0 = some (ai_new 1 5 3) := rfl
set_option maxRecDepth 100000 in
theorem at_101_3 : am_code 101 3 = some (ai_dup 4) := rfl
set_option maxRecDepth 100000 in
theorem at_101_4 : am_code 101 4 = some (ai_callV 32 1 0 7) := rfl
set_option maxRecDepth 100000 in
theorem at_101_7 : am_code 101 7 = some (ai_astore 1 8) := rfl
set_option maxRecDepth 100000 in
theorem at_101_8 : am_code 101 8 = some (ai_new 50 25 11) := rfl
set_option maxRecDepth 100000 in
theorem at_101_11 : am_code 101 11 = some (ai_dup 12) := rfl
set_option maxRecDepth 100000 in
theorem at_101_12 : am_code 101 12 = some (ai_callV 66 50 0 15) := rfl
set_option maxRecDepth 100000 in
theorem at_101_15 : am_code 101 15 = some (ai_astore 2 16) := rfl
set_option maxRecDepth 100000 in
theorem at_101_16 : am_code 101 16 = some (ai_push 0 17) := rfl
set_option maxRecDepth 100000 in
theorem at_101_17 : am_code 101 17 = some (ai_istore 3 18) := rfl
set_option maxRecDepth 100000 in
theorem at_101_18 : am_code 101 18 = some (ai_iload 3 19) := rfl
set_option maxRecDepth 100000 in
theorem at_101_19 : am_code 101 19 = some (ai_aload 0 20) := rfl
set_option maxRecDepth 100000 in
theorem at_101_20 : am_code 101 20 = some (ai_slen 21) := rfl
set_option maxRecDepth 100000 in
theorem at_101_21 : am_code 101 21 = some (ai_push 6 23) := rfl
set_option maxRecDepth 100000 in
theorem at_101_23 : am_code 101 23 = some (ai_bin (fun x y => x - y) 24) := rfl
set_option maxRecDepth 100000 in
theorem at_101_24 : am_code 101 24 = some (ai_icmp (fun x y => y < x) 675 27) := rfl
set_option maxRecDepth 100000 in
theorem at_101_27 : am_code 101 27 = some (ai_aload 0 28) := rfl
set_option maxRecDepth 100000 in
theorem at_101_28 : am_code 101 28 = some (ai_iload 3 29) := rfl
set_option maxRecDepth 100000 in
theorem at_101_29 : am_code 101 29 = some (ai_sld 30) := rfl
set_option maxRecDepth 100000 in
theorem at_101_30 : am_code 101 30 = some (ai_push 15 32) := rfl
set_option maxRecDepth 100000 in
theorem at_101_32 : am_code 101 32 = some (ai_bin (fun x y => x &&& y) 33) := rfl
set_option maxRecDepth 100000 in
theorem at_101_33 : am_code 101 33 = some (ai_switch 0 14 [108, 151, 214, 263, 306, 329, 362, 395, 428, 471, 504, 537, 570, 603, 646] 669) := rfl
set_option maxRecDepth 100000 in
theorem at_101_108 : am_code 101 108 = some (ai_aload 1 109) := rfl
set_option maxRecDepth 100000 in
theorem at_101_109 : am_code 101 109 = some (ai_aload 0 110) := rfl
set_option maxRecDepth 100000 in
theorem at_101_110 : am_code 101 110 = some (ai_iload 3 111) := rfl
set_option maxRecDepth 100000 in
theorem at_101_111 : am_code 101 111 = some (ai_push 1 112) := rfl
set_option maxRecDepth 100000 in
theorem at_101_112 : am_code 101 112 = some (ai_bin (fun x y => x + y) 113) := rfl
set_option maxRecDepth 100000 in
theorem at_101_113 : am_code 101 113 = some (ai_sld 114) := rfl
set_option maxRecDepth 100000 in
theorem at_101_114 : am_code 101 114 = some (ai_aload 0 115) := rfl
set_option maxRecDepth 100000 in
theorem at_101_115 : am_code 101 115 = some (ai_iload 3 116) := rfl
set_option maxRecDepth 100000 in
theorem at_101_116 : am_code 101 116 = some (ai_push 2 117) := rfl
set_option maxRecDepth 100000 in
theorem at_101_117 : am_code 101 117 = some (ai_bin (fun x y => x + y) 118) := rfl
set_option maxRecDepth 100000 in
theorem at_101_118 : am_code 101 118 = some (ai_sld 119) := rfl
set_option maxRecDepth 100000 in
theorem at_101_119 : am_code 101 119 = some (ai_aload 0 120) := rfl
set_option maxRecDepth 100000 in
theorem at_101_120 : am_code 101 120 = some (ai_iload 3 121) := rfl
set_option maxRecDepth 100000 in
theorem at_101_121 : am_code 101 121 = some (ai_push 3 122) := rfl
set_option maxRecDepth 100000 in
theorem at_101_122 : am_code 101 122 = some (ai_bin (fun x y => x + y) 123) := rfl
set_option maxRecDepth 100000 in
theorem at_101_123 : am_code 101 123 = some (ai_sld 124) := rfl
set_option maxRecDepth 100000 in
theorem at_101_124 : am_code 101 124 = some (ai_callV 33 1 3 127) := rfl
set_option maxRecDepth 100000 in
theorem at_101_127 : am_code 101 127 = some (ai_aload 2 128) := rfl
set_option maxRecDepth 100000 in
theorem at_101_128 : am_code 101 128 = some (ai_aload 0 129) := rfl
set_option maxRecDepth 100000 in
theorem at_101_129 : am_code 101 129 = some (ai_iload 3 130) := rfl
set_option maxRecDepth 100000 in
theorem at_101_130 : am_code 101 130 = some (ai_push 1 131) := rfl
set_option maxRecDepth 100000 in
theorem at_101_131 : am_code 101 131 = some (ai_bin (fun x y => x + y) 132) := rfl
set_option maxRecDepth 100000 in
theorem at_101_132 : am_code 101 132 = some (ai_sld 133) := rfl
set_option maxRecDepth 100000 in
theorem at_101_133 : am_code 101 133 = some (ai_aload 0 134) := rfl
set_option maxRecDepth 100000 in
theorem at_101_134 : am_code 101 134 = some (ai_iload 3 135) := rfl
set_option maxRecDepth 100000 in
theorem at_101_135 : am_code 101 135 = some (ai_push 2 136) := rfl
set_option maxRecDepth 100000 in
theorem at_101_136 : am_code 101 136 = some (ai_bin (fun x y => x + y) 137) := rfl
set_option maxRecDepth 100000 in
theorem at_101_137 : am_code 101 137 = some (ai_sld 138) := rfl
set_option maxRecDepth 100000 in
theorem at_101_138 : am_code 101 138 = some (ai_aload 0 139) := rfl
set_option maxRecDepth 100000 in
theorem at_101_139 : am_code 101 139 = some (ai_iload 3 140) := rfl
set_option maxRecDepth 100000 in
theorem at_101_140 : am_code 101 140 = some (ai_push 3 141) := rfl
set_option maxRecDepth 100000 in
theorem at_101_141 : am_code 101 141 = some (ai_bin (fun x y => x + y) 142) := rfl
set_option maxRecDepth 100000 in
theorem at_101_142 : am_code 101 142 = some (ai_sld 143) := rfl
set_option maxRecDepth 100000 in
theorem at_101_143 : am_code 101 143 = some (ai_callV 70 50 3 146) := rfl
set_option maxRecDepth 100000 in
theorem at_101_146 : am_code 101 146 = some (ai_icmp (fun x y => x = y) 669 149) := rfl
set_option maxRecDepth 100000 in
theorem at_101_149 : am_code 101 149 = some (ai_push 0 150) := rfl
set_option maxRecDepth 100000 in
theorem at_101_150 : am_code 101 150 = some (ai_zret) := rfl
set_option maxRecDepth 100000 in
theorem at_101_151 : am_code 101 151 = some (ai_aload 1 152) := rfl
set_option maxRecDepth 100000 in
theorem at_101_152 : am_code 101 152 = some (ai_aload 0 153) := rfl
set_option maxRecDepth 100000 in
theorem at_101_153 : am_code 101 153 = some (ai_iload 3 154) := rfl
set_option maxRecDepth 100000 in
theorem at_101_154 : am_code 101 154 = some (ai_push 1 155) := rfl
set_option maxRecDepth 100000 in
theorem at_101_155 : am_code 101 155 = some (ai_bin (fun x y => x + y) 156) := rfl
set_option maxRecDepth 100000 in
theorem at_101_156 : am_code 101 156 = some (ai_sld 157) := rfl
set_option maxRecDepth 100000 in
theorem at_101_157 : am_code 101 157 = some (ai_aload 0 158) := rfl
set_option maxRecDepth 100000 in
theorem at_101_158 : am_code 101 158 = some (ai_iload 3 159) := rfl
set_option maxRecDepth 100000 in
theorem at_101_159 : am_code 101 159 = some (ai_push 2 160) := rfl
set_option maxRecDepth 100000 in
theorem at_101_160 : am_code 101 160 = some (ai_bin (fun x y => x + y) 161) := rfl
set_option maxRecDepth 100000 in
theorem at_101_161 : am_code 101 161 = some (ai_sld 162) := rfl
set_option maxRecDepth 100000 in
theorem at_101_162 : am_code 101 162 = some (ai_aload 0 163) := rfl
set_option maxRecDepth 100000 in
theorem at_101_163 : am_code 101 163 = some (ai_iload 3 164) := rfl
set_option maxRecDepth 100000 in
theorem at_101_164 : am_code 101 164 = some (ai_push 3 165) := rfl
set_option maxRecDepth 100000 in
theorem at_101_165 : am_code 101 165 = some (ai_bin (fun x y => x + y) 166) := rfl
set_option maxRecDepth 100000 in
theorem at_101_166 : am_code 101 166 = some (ai_sld 167) := rfl
set_option maxRecDepth 100000 in
theorem at_101_167 : am_code 101 167 = some (ai_aload 0 168) := rfl
set_option maxRecDepth 100000 in
theorem at_101_168 : am_code 101 168 = some (ai_iload 3 169) := rfl
set_option maxRecDepth 100000 in
theorem at_101_169 : am_code 101 169 = some (ai_push 4 170) := rfl
set_option maxRecDepth 100000 in
theorem at_101_170 : am_code 101 170 = some (ai_bin (fun x y => x + y) 171) := rfl
set_option maxRecDepth 100000 in
theorem at_101_171 : am_code 101 171 = some (ai_sld 172) := rfl
set_option maxRecDepth 100000 in
theorem at_101_172 : am_code 101 172 = some (ai_aload 0 173) := rfl
set_option maxRecDepth 100000 in
theorem at_101_173 : am_code 101 173 = some (ai_iload 3 174) := rfl
set_option maxRecDepth 100000 in
theorem at_101_174 : am_code 101 174 = some (ai_push 5 175) := rfl
set_option maxRecDepth 100000 in
theorem at_101_175 : am_code 101 175 = some (ai_bin (fun x y => x + y) 176) := rfl
set_option maxRecDepth 100000 in
theorem at_101_176 : am_code 101 176 = some (ai_sld 177) := rfl
set_option maxRecDepth 100000 in
theorem at_101_177 : am_code 101 177 = some (ai_callV 34 1 5 180) := rfl
set_option maxRecDepth 100000 in
theorem at_101_180 : am_code 101 180 = some (ai_aload 2 181) := rfl
set_option maxRecDepth 100000 in
theorem at_101_181 : am_code 101 181 = some (ai_aload 0 182) := rfl
set_option maxRecDepth 100000 in
theorem at_101_182 : am_code 101 182 = some (ai_iload 3 183) := rfl
set_option maxRecDepth 100000 in
theorem at_101_183 : am_code 101 183 = some (ai_push 1 184) := rfl
set_option maxRecDepth 100000 in
theorem at_101_184 : am_code 101 184 = some (ai_bin (fun x y => x + y) 185) := rfl
set_option maxRecDepth 100000 in
theorem at_101_185 : am_code 101 185 = some (ai_sld 186) := rfl
set_option maxRecDepth 100000 in
theorem at_101_186 : am_code 101 186 = some (ai_aload 0 187) := rfl
set_option maxRecDepth 100000 in
theorem at_101_187 : am_code 101 187 = some (ai_iload 3 188) := rfl
set_option maxRecDepth 100000 in
theorem at_101_188 : am_code 101 188 = some (ai_push 2 189) := rfl
set_option maxRecDepth 100000 in
theorem at_101_189 : am_code 101 189 = some (ai_bin (fun x y => x + y) 190) := rfl
set_option maxRecDepth 100000 in
theorem at_101_190 : am_code 101 190 = some (ai_sld 191) := rfl
set_option maxRecDepth 100000 in
theorem at_101_191 : am_code 101 191 = some (ai_aload 0 192) := rfl
set_option maxRecDepth 100000 in
theorem at_101_192 : am_code 101 192 = some (ai_iload 3 193) := rfl
set_option maxRecDepth 100000 in
theorem at_101_193 : am_code 101 193 = some (ai_push 3 194) := rfl
set_option maxRecDepth 100000 in
theorem at_101_194 : am_code 101 194 = some (ai_bin (fun x y => x + y) 195) := rfl
set_option maxRecDepth 100000 in
theorem at_101_195 : am_code 101 195 = some (ai_sld 196) := rfl
set_option maxRecDepth 100000 in
theorem at_101_196 : am_code 101 196 = some (ai_aload 0 197) := rfl
set_option maxRecDepth 100000 in
theorem at_101_197 : am_code 101 197 = some (ai_iload 3 198) := rfl
set_option maxRecDepth 100000 in
theorem at_101_198 : am_code 101 198 = some (ai_push 4 199) := rfl
set_option maxRecDepth 100000 in
theorem at_101_199 : am_code 101 199 = some (ai_bin (fun x y => x + y) 200) := rfl
set_option maxRecDepth 100000 in
theorem at_101_200 : am_code 101 200 = some (ai_sld 201) := rfl
set_option maxRecDepth 100000 in
theorem at_101_201 : am_code 101 201 = some (ai_aload 0 202) := rfl
set_option maxRecDepth 100000 in
theorem at_101_202 : am_code 101 202 = some (ai_iload 3 203) := rfl
set_option maxRecDepth 100000 in
theorem at_101_203 : am_code 101 203 = some (ai_push 5 204) := rfl
set_option maxRecDepth 100000 in
theorem at_101_204 : am_code 101 204 = some (ai_bin (fun x y => x + y) 205) := rfl
set_option maxRecDepth 100000 in
theorem at_101_205 : am_code 101 205 = some (ai_sld 206) := rfl
set_option maxRecDepth 100000 in
theorem at_101_206 : am_code 101 206 = some (ai_callV 71 50 5 209) := rfl
set_option maxRecDepth 100000 in
theorem at_101_209 : am_code 101 209 = some (ai_icmp (fun x y => x = y) 669 212) := rfl
set_option maxRecDepth 100000 in
theorem at_101_212 : am_code 101 212 = some (ai_push 0 213) := rfl
set_option maxRecDepth 100000 in
theorem at_101_213 : am_code 101 213 = some (ai_zret) := rfl
set_option maxRecDepth 100000 in
theorem at_101_214 : am_code 101 214 = some (ai_aload 1 215) := rfl
set_option maxRecDepth 100000 in
theorem at_101_215 : am_code 101 215 = some (ai_aload 0 216) := rfl
set_option maxRecDepth 100000 in
theorem at_101_216 : am_code 101 216 = some (ai_iload 3 217) := rfl
set_option maxRecDepth 100000 in
theorem at_101_217 : am_code 101 217 = some (ai_push 1 218) := rfl
set_option maxRecDepth 100000 in
theorem at_101_218 : am_code 101 218 = some (ai_bin (fun x y => x + y) 219) := rfl
set_option maxRecDepth 100000 in
theorem at_101_219 : am_code 101 219 = some (ai_sld 220) := rfl
set_option maxRecDepth 100000 in
theorem at_101_220 : am_code 101 220 = some (ai_aload 0 221) := rfl
set_option maxRecDepth 100000 in
theorem at_101_221 : am_code 101 221 = some (ai_iload 3 222) := rfl
set_option maxRecDepth 100000 in
theorem at_101_222 : am_code 101 222 = some (ai_push 2 223) := rfl
set_option maxRecDepth 100000 in
theorem at_101_223 : am_code 101 223 = some (ai_bin (fun x y => x + y) 224) := rfl
set_option maxRecDepth 100000 in
theorem at_101_224 : am_code 101 224 = some (ai_sld 225) := rfl
set_option maxRecDepth 100000 in
theorem at_101_225 : am_code 101 225 = some (ai_if (fun x => x = 0) 232 228) := rfl
set_option maxRecDepth 100000 in
theorem at_101_228 : am_code 101 228 = some (ai_push 1 229) := rfl
set_option maxRecDepth 100000 in
theorem at_101_229 : am_code 101 229 = some (ai_goto 233) := rfl
set_option maxRecDepth 100000 in
theorem at_101_232 : am_code 101 232 = some (ai_push 0 233) := rfl
set_option maxRecDepth 100000 in
theorem at_101_233 : am_code 101 233 = some (ai_callV 35 1 2 236) := rfl
set_option maxRecDepth 100000 in
theorem at_101_236 : am_code 101 236 = some (ai_aload 2 237) := rfl
set_option maxRecDepth 100000 in
theorem at_101_237 : am_code 101 237 = some (ai_aload 0 238) := rfl
set_option maxRecDepth 100000 in
theorem at_101_238 : am_code 101 238 = some (ai_iload 3 239) := rfl
set_option maxRecDepth 100000 in
theorem at_101_239 : am_code 101 239 = some (ai_push 1 240) := rfl
set_option maxRecDepth 100000 in
theorem at_101_240 : am_code 101 240 = some (ai_bin (fun x y => x + y) 241) := rfl
set_option maxRecDepth 100000 in
theorem at_101_241 : am_code 101 241 = some (ai_sld 242) := rfl
set_option maxRecDepth 100000 in
theorem at_101_242 : am_code 101 242 = some (ai_aload 0 243) := rfl
set_option maxRecDepth 100000 in
theorem at_101_243 : am_code 101 243 = some (ai_iload 3 244) := rfl
set_option maxRecDepth 100000 in
theorem at_101_244 : am_code 101 244 = some (ai_push 2 245) := rfl
set_option maxRecDepth 100000 in
theorem at_101_245 : am_code 101 245 = some (ai_bin (fun x y => x + y) 246) := rfl
set_option maxRecDepth 100000 in
theorem at_101_246 : am_code 101 246 = some (ai_sld 247) := rfl
set_option maxRecDepth 100000 in
theorem at_101_247 : am_code 101 247 = some (ai_if (fun x => x = 0) 254 250) := rfl
set_option maxRecDepth 100000 in
theorem at_101_250 : am_code 101 250 = some (ai_push 1 251) := rfl
set_option maxRecDepth 100000 in
theorem at_101_251 : am_code 101 251 = some (ai_goto 255) := rfl
set_option maxRecDepth 100000 in
theorem at_101_254 : am_code 101 254 = some (ai_push 0 255) := rfl
set_option maxRecDepth 100000 in
theorem at_101_255 : am_code 101 255 = some (ai_callV 72 50 2 258) := rfl
set_option maxRecDepth 100000 in
theorem at_101_258 : am_code 101 258 = some (ai_icmp (fun x y => x = y) 669 261) := rfl
set_option maxRecDepth 100000 in
theorem at_101_261 : am_code 101 261 = some (ai_push 0 262) := rfl
set_option maxRecDepth 100000 in
theorem at_101_262 : am_code 101 262 = some (ai_zret) := rfl
set_option maxRecDepth 100000 in
theorem at_101_263 : am_code 101 263 = some (ai_aload 1 264) := rfl
set_option maxRecDepth 100000 in
theorem at_101_264 : am_code 101 264 = some (ai_aload 0 265) := rfl
set_option maxRecDepth 100000 in
theorem at_101_265 : am_code 101 265 = some (ai_iload 3 266) := rfl
set_option maxRecDepth 100000 in
theorem at_101_266 : am_code 101 266 = some (ai_push 1 267) := rfl
set_option maxRecDepth 100000 in
theorem at_101_267 : am_code 101 267 = some (ai_bin (fun x y => x + y) 268) := rfl
set_option maxRecDepth 100000 in
theorem at_101_268 : am_code 101 268 = some (ai_sld 269) := rfl
set_option maxRecDepth 100000 in
theorem at_101_269 : am_code 101 269 = some (ai_aload 0 270) := rfl
set_option maxRecDepth 100000 in
theorem at_101_270 : am_code 101 270 = some (ai_iload 3 271) := rfl
set_option maxRecDepth 100000 in
theorem at_101_271 : am_code 101 271 = some (ai_push 2 272) := rfl
set_option maxRecDepth 100000 in
theorem at_101_272 : am_code 101 272 = some (ai_bin (fun x y => x + y) 273) := rfl
set_option maxRecDepth 100000 in
theorem at_101_273 : am_code 101 273 = some (ai_sld 274) := rfl
set_option maxRecDepth 100000 in
theorem at_101_274 : am_code 101 274 = some (ai_aload 0 275) := rfl
set_option maxRecDepth 100000 in
theorem at_101_275 : am_code 101 275 = some (ai_iload 3 276) := rfl
set_option maxRecDepth 100000 in
theorem at_101_276 : am_code 101 276 = some (ai_push 3 277) := rfl
set_option maxRecDepth 100000 in
theorem at_101_277 : am_code 101 277 = some (ai_bin (fun x y => x + y) 278) := rfl
set_option maxRecDepth 100000 in
theorem at_101_278 : am_code 101 278 = some (ai_sld 279) := rfl
set_option maxRecDepth 100000 in
theorem at_101_279 : am_code 101 279 = some (ai_callV 36 1 3 282) := rfl
set_option maxRecDepth 100000 in
theorem at_101_282 : am_code 101 282 = some (ai_aload 2 283) := rfl
set_option maxRecDepth 100000 in
theorem at_101_283 : am_code 101 283 = some (ai_aload 0 284) := rfl
set_option maxRecDepth 100000 in
theorem at_101_284 : am_code 101 284 = some (ai_iload 3 285) := rfl
set_option maxRecDepth 100000 in
theorem at_101_285 : am_code 101 285 = some (ai_push 1 286) := rfl
set_option maxRecDepth 100000 in
theorem at_101_286 : am_code 101 286 = some (ai_bin (fun x y => x + y) 287) := rfl
set_option maxRecDepth 100000 in
theorem at_101_287 : am_code 101 287 = some (ai_sld 288) := rfl
set_option maxRecDepth 100000 in
theorem at_101_288 : am_code 101 288 = some (ai_aload 0 289) := rfl
set_option maxRecDepth 100000 in
theorem at_101_289 : am_code 101 289 = some (ai_iload 3 290) := rfl
set_option maxRecDepth 100000 in
theorem at_101_290 : am_code 101 290 = some (ai_push 2 291) := rfl
set_option maxRecDepth 100000 in
theorem at_101_291 : am_code 101 291 = some (ai_bin (fun x y => x + y) 292) := rfl
set_option maxRecDepth 100000 in
theorem at_101_292 : am_code 101 292 = some (ai_sld 293) := rfl
set_option maxRecDepth 100000 in
theorem at_101_293 : am_code 101 293 = some (ai_aload 0 294) := rfl
set_option maxRecDepth 100000 in
theorem at_101_294 : am_code 101 294 = some (ai_iload 3 295) := rfl
set_option maxRecDepth 100000 in
theorem at_101_295 : am_code 101 295 = some (ai_push 3 296) := rfl
set_option maxRecDepth 100000 in
theorem at_101_296 : am_code 101 296 = some (ai_bin (fun x y => x + y) 297) := rfl
set_option maxRecDepth 100000 in
theorem at_101_297 : am_code 101 297 = some (ai_sld 298) := rfl
set_option maxRecDepth 100000 in
theorem at_101_298 : am_code 101 298 = some (ai_callV 73 50 3 301) := rfl
set_option maxRecDepth 100000 in
theorem at_101_301 : am_code 101 301 = some (ai_icmp (fun x y => x = y) 669 304) := rfl
set_option maxRecDepth 100000 in
theorem at_101_304 : am_code 101 304 = some (ai_push 0 305) := rfl
set_option maxRecDepth 100000 in
theorem at_101_305 : am_code 101 305 = some (ai_zret) := rfl
set_option maxRecDepth 100000 in
theorem at_101_306 : am_code 101 306 = some (ai_aload 1 307) := rfl
set_option maxRecDepth 100000 in
theorem at_101_307 : am_code 101 307 = some (ai_aload 0 308) := rfl
set_option maxRecDepth 100000 in
theorem at_101_308 : am_code 101 308 = some (ai_iload 3 309) := rfl
set_option maxRecDepth 100000 in
theorem at_101_309 : am_code 101 309 = some (ai_push 1 310) := rfl
set_option maxRecDepth 100000 in
theorem at_101_310 : am_code 101 310 = some (ai_bin (fun x y => x + y) 311) := rfl
set_option maxRecDepth 100000 in
theorem at_101_311 : am_code 101 311 = some (ai_sld 312) := rfl
set_option maxRecDepth 100000 in
theorem at_101_312 : am_code 101 312 = some (ai_callV 37 1 1 315) := rfl
set_option maxRecDepth 100000 in
theorem at_101_315 : am_code 101 315 = some (ai_aload 2 316) := rfl
set_option maxRecDepth 100000 in
theorem at_101_316 : am_code 101 316 = some (ai_aload 0 317) := rfl
set_option maxRecDepth 100000 in
theorem at_101_317 : am_code 101 317 = some (ai_iload 3 318) := rfl
set_option maxRecDepth 100000 in
theorem at_101_318 : am_code 101 318 = some (ai_push 1 319) := rfl
set_option maxRecDepth 100000 in
theorem at_101_319 : am_code 101 319 = some (ai_bin (fun x y => x + y) 320) := rfl
set_option maxRecDepth 100000 in
theorem at_101_320 : am_code 101 320 = some (ai_sld 321) := rfl
set_option maxRecDepth 100000 in
theorem at_101_321 : am_code 101 321 = some (ai_callV 88 50 1 324) := rfl
set_option maxRecDepth 100000 in
theorem at_101_324 : am_code 101 324 = some (ai_icmp (fun x y => x = y) 669 327) := rfl
set_option maxRecDepth 100000 in
theorem at_101_327 : am_code 101 327 = some (ai_push 0 328) := rfl
set_option maxRecDepth 100000 in
theorem at_101_328 : am_code 101 328 = some (ai_zret) := rfl
set_option maxRecDepth 100000 in
theorem at_101_329 : am_code 101 329 = some (ai_aload 1 330) := rfl
set_option maxRecDepth 100000 in
theorem at_101_330 : am_code 101 330 = some (ai_aload 0 331) := rfl
set_option maxRecDepth 100000 in
theorem at_101_331 : am_code 101 331 = some (ai_iload 3 332) := rfl
set_option maxRecDepth 100000 in
theorem at_101_332 : am_code 101 332 = some (ai_push 1 333) := rfl
set_option maxRecDepth 100000 in
theorem at_101_333 : am_code 101 333 = some (ai_bin (fun x y => x + y) 334) := rfl
set_option maxRecDepth 100000 in
theorem at_101_334 : am_code 101 334 = some (ai_sld 335) := rfl
set_option maxRecDepth 100000 in
theorem at_101_335 : am_code 101 335 = some (ai_aload 0 336) := rfl
set_option maxRecDepth 100000 in
theorem at_101_336 : am_code 101 336 = some (ai_iload 3 337) := rfl
set_option maxRecDepth 100000 in
theorem at_101_337 : am_code 101 337 = some (ai_push 2 338) := rfl
set_option maxRecDepth 100000 in
theorem at_101_338 : am_code 101 338 = some (ai_bin (fun x y => x + y) 339) := rfl
set_option maxRecDepth 100000 in
theorem at_101_339 : am_code 101 339 = some (ai_sld 340) := rfl
set_option maxRecDepth 100000 in
theorem at_101_340 : am_code 101 340 = some (ai_callV 38 1 2 343) := rfl
set_option maxRecDepth 100000 in
theorem at_101_343 : am_code 101 343 = some (ai_aload 2 344) := rfl
set_option maxRecDepth 100000 in
theorem at_101_344 : am_code 101 344 = some (ai_aload 0 345) := rfl
set_option maxRecDepth 100000 in
theorem at_101_345 : am_code 101 345 = some (ai_iload 3 346) := rfl
set_option maxRecDepth 100000 in
theorem at_101_346 : am_code 101 346 = some (ai_push 1 347) := rfl
set_option maxRecDepth 100000 in
theorem at_101_347 : am_code 101 347 = some (ai_bin (fun x y => x + y) 348) := rfl
set_option maxRecDepth 100000 in
theorem at_101_348 : am_code 101 348 = some (ai_sld 349) := rfl
set_option maxRecDepth 100000 in
theorem at_101_349 : am_code 101 349 = some (ai_aload 0 350) := rfl
set_option maxRecDepth 100000 in
theorem at_101_350 : am_code 101 350 = some (ai_iload 3 351) := rfl
set_option maxRecDepth 100000 in
theorem at_101_351 : am_code 101 351 = some (ai_push 2 352) := rfl
set_option maxRecDepth 100000 in
theorem at_101_352 : am_code 101 352 = some (ai_bin (fun x y => x + y) 353) := rfl
set_option maxRecDepth 100000 in
theorem at_101_353 : am_code 101 353 = some (ai_sld 354) := rfl
set_option maxRecDepth 100000 in
theorem at_101_354 : am_code 101 354 = some (ai_callV 89 50 2 357) := rfl
set_option maxRecDepth 100000 in
theorem at_101_357 : am_code 101 357 = some (ai_icmp (fun x y => x = y) 669 360) := rfl
set_option maxRecDepth 100000 in
theorem at_101_360 : am_code 101 360 = some (ai_push 0 361) := rfl
set_option maxRecDepth 100000 in
theorem at_101_361 : am_code 101 361 = some (ai_zret) := rfl
set_option maxRecDepth 100000 in
theorem at_101_362 : am_code 101 362 = some (ai_aload 1 363) := rfl
set_option maxRecDepth 100000 in
theorem at_101_363 : am_code 101 363 = some (ai_aload 0 364) := rfl
set_option maxRecDepth 100000 in
theorem at_101_364 : am_code 101 364 = some (ai_iload 3 365) := rfl
set_option maxRecDepth 100000 in
theorem at_101_365 : am_code 101 365 = some (ai_push 1 366) := rfl
set_option maxRecDepth 100000 in
theorem at_101_366 : am_code 101 366 = some (ai_bin (fun x y => x + y) 367) := rfl
set_option maxRecDepth 100000 in
theorem at_101_367 : am_code 101 367 = some (ai_sld 368) := rfl
set_option maxRecDepth 100000 in
theorem at_101_368 : am_code 101 368 = some (ai_aload 0 369) := rfl
set_option maxRecDepth 100000 in
theorem at_101_369 : am_code 101 369 = some (ai_iload 3 370) := rfl
set_option maxRecDepth 100000 in
theorem at_101_370 : am_code 101 370 = some (ai_push 2 371) := rfl
set_option maxRecDepth 100000 in
theorem at_101_371 : am_code 101 371 = some (ai_bin (fun x y => x + y) 372) := rfl
set_option maxRecDepth 100000 in
theorem at_101_372 : am_code 101 372 = some (ai_sld 373) := rfl
set_option maxRecDepth 100000 in
theorem at_101_373 : am_code 101 373 = some (ai_callV 39 1 2 376) := rfl
set_option maxRecDepth 100000 in
theorem at_101_376 : am_code 101 376 = some (ai_aload 2 377) := rfl
set_option maxRecDepth 100000 in
theorem at_101_377 : am_code 101 377 = some (ai_aload 0 378) := rfl
set_option maxRecDepth 100000 in
theorem at_101_378 : am_code 101 378 = some (ai_iload 3 379) := rfl
set_option maxRecDepth 100000 in
theorem at_101_379 : am_code 101 379 = some (ai_push 1 380) := rfl
set_option maxRecDepth 100000 in
theorem at_101_380 : am_code 101 380 = some (ai_bin (fun x y => x + y) 381) := rfl
set_option maxRecDepth 100000 in
theorem at_101_381 : am_code 101 381 = some (ai_sld 382) := rfl
set_option maxRecDepth 100000 in
theorem at_101_382 : am_code 101 382 = some (ai_aload 0 383) := rfl
set_option maxRecDepth 100000 in
theorem at_101_383 : am_code 101 383 = some (ai_iload 3 384) := rfl
set_option maxRecDepth 100000 in
theorem at_101_384 : am_code 101 384 = some (ai_push 2 385) := rfl
set_option maxRecDepth 100000 in
theorem at_101_385 : am_code 101 385 = some (ai_bin (fun x y => x + y) 386) := rfl
set_option maxRecDepth 100000 in
theorem at_101_386 : am_code 101 386 = some (ai_sld 387) := rfl
set_option maxRecDepth 100000 in
theorem at_101_387 : am_code 101 387 = some (ai_callV 90 50 2 390) := rfl
set_option maxRecDepth 100000 in
theorem at_101_390 : am_code 101 390 = some (ai_icmp (fun x y => x = y) 669 393) := rfl
set_option maxRecDepth 100000 in
theorem at_101_393 : am_code 101 393 = some (ai_push 0 394) := rfl
set_option maxRecDepth 100000 in
theorem at_101_394 : am_code 101 394 = some (ai_zret) := rfl
set_option maxRecDepth 100000 in
theorem at_101_395 : am_code 101 395 = some (ai_aload 1 396) := rfl
set_option maxRecDepth 100000 in
theorem at_101_396 : am_code 101 396 = some (ai_aload 0 397) := rfl
set_option maxRecDepth 100000 in
theorem at_101_397 : am_code 101 397 = some (ai_iload 3 398) := rfl
set_option maxRecDepth 100000 in
theorem at_101_398 : am_code 101 398 = some (ai_push 1 399) := rfl
set_option maxRecDepth 100000 in
theorem at_101_399 : am_code 101 399 = some (ai_bin (fun x y => x + y) 400) := rfl
set_option maxRecDepth 100000 in
theorem at_101_400 : am_code 101 400 = some (ai_sld 401) := rfl
set_option maxRecDepth 100000 in
theorem at_101_401 : am_code 101 401 = some (ai_aload 0 402) := rfl
set_option maxRecDepth 100000 in
theorem at_101_402 : am_code 101 402 = some (ai_iload 3 403) := rfl
set_option maxRecDepth 100000 in
theorem at_101_403 : am_code 101 403 = some (ai_push 2 404) := rfl
set_option maxRecDepth 100000 in
theorem at_101_404 : am_code 101 404 = some (ai_bin (fun x y => x + y) 405) := rfl
set_option maxRecDepth 100000 in
theorem at_101_405 : am_code 101 405 = some (ai_sld 406) := rfl
set_option maxRecDepth 100000 in
theorem at_101_406 : am_code 101 406 = some (ai_callV 40 1 2 409) := rfl
set_option maxRecDepth 100000 in
theorem at_101_409 : am_code 101 409 = some (ai_aload 2 410) := rfl
set_option maxRecDepth 100000 in
theorem at_101_410 : am_code 101 410 = some (ai_aload 0 411) := rfl
set_option maxRecDepth 100000 in
theorem at_101_411 : am_code 101 411 = some (ai_iload 3 412) := rfl
set_option maxRecDepth 100000 in
theorem at_101_412 : am_code 101 412 = some (ai_push 1 413) := rfl
set_option maxRecDepth 100000 in
theorem at_101_413 : am_code 101 413 = some (ai_bin (fun x y => x + y) 414) := rfl
set_option maxRecDepth 100000 in
theorem at_101_414 : am_code 101 414 = some (ai_sld 415) := rfl
set_option maxRecDepth 100000 in
theorem at_101_415 : am_code 101 415 = some (ai_aload 0 416) := rfl
set_option maxRecDepth 100000 in
theorem at_101_416 : am_code 101 416 = some (ai_iload 3 417) := rfl
set_option maxRecDepth 100000 in
theorem at_101_417 : am_code 101 417 = some (ai_push 2 418) := rfl
set_option maxRecDepth 100000 in
theorem at_101_418 : am_code 101 418 = some (ai_bin (fun x y => x + y) 419) := rfl
set_option maxRecDepth 100000 in
theorem at_101_419 : am_code 101 419 = some (ai_sld 420) := rfl
set_option maxRecDepth 100000 in
theorem at_101_420 : am_code 101 420 = some (ai_callV 91 50 2 423) := rfl
set_option maxRecDepth 100000 in
theorem at_101_423 : am_code 101 423 = some (ai_icmp (fun x y => x = y) 669 426) := rfl
set_option maxRecDepth 100000 in
theorem at_101_426 : am_code 101 426 = some (ai_push 0 427) := rfl
set_option maxRecDepth 100000 in
theorem at_101_427 : am_code 101 427 = some (ai_zret) := rfl
set_option maxRecDepth 100000 in
theorem at_101_428 : am_code 101 428 = some (ai_aload 1 429) := rfl
set_option maxRecDepth 100000 in
theorem at_101_429 : am_code 101 429 = some (ai_aload 0 430) := rfl
set_option maxRecDepth 100000 in
theorem at_101_430 : am_code 101 430 = some (ai_iload 3 431) := rfl
set_option maxRecDepth 100000 in
theorem at_101_431 : am_code 101 431 = some (ai_push 1 432) := rfl
set_option maxRecDepth 100000 in
theorem at_101_432 : am_code 101 432 = some (ai_bin (fun x y => x + y) 433) := rfl
set_option maxRecDepth 100000 in
theorem at_101_433 : am_code 101 433 = some (ai_sld 434) := rfl
set_option maxRecDepth 100000 in
theorem at_101_434 : am_code 101 434 = some (ai_aload 0 435) := rfl
set_option maxRecDepth 100000 in
theorem at_101_435 : am_code 101 435 = some (ai_iload 3 436) := rfl
set_option maxRecDepth 100000 in
theorem at_101_436 : am_code 101 436 = some (ai_push 2 437) := rfl
set_option maxRecDepth 100000 in
theorem at_101_437 : am_code 101 437 = some (ai_bin (fun x y => x + y) 438) := rfl
set_option maxRecDepth 100000 in
theorem at_101_438 : am_code 101 438 = some (ai_sld 439) := rfl
set_option maxRecDepth 100000 in
theorem at_101_439 : am_code 101 439 = some (ai_aload 0 440) := rfl
set_option maxRecDepth 100000 in
theorem at_101_440 : am_code 101 440 = some (ai_iload 3 441) := rfl
set_option maxRecDepth 100000 in
theorem at_101_441 : am_code 101 441 = some (ai_push 3 442) := rfl
set_option maxRecDepth 100000 in
theorem at_101_442 : am_code 101 442 = some (ai_bin (fun x y => x + y) 443) := rfl
set_option maxRecDepth 100000 in
theorem at_101_443 : am_code 101 443 = some (ai_sld 444) := rfl
set_option maxRecDepth 100000 in
theorem at_101_444 : am_code 101 444 = some (ai_callV 41 1 3 447) := rfl
set_option maxRecDepth 100000 in
theorem at_101_447 : am_code 101 447 = some (ai_aload 2 448) := rfl
set_option maxRecDepth 100000 in
theorem at_101_448 : am_code 101 448 = some (ai_aload 0 449) := rfl
set_option maxRecDepth 100000 in
theorem at_101_449 : am_code 101 449 = some (ai_iload 3 450) := rfl
set_option maxRecDepth 100000 in
theorem at_101_450 : am_code 101 450 = some (ai_push 1 451) := rfl
set_option maxRecDepth 100000 in
theorem at_101_451 : am_code 101 451 = some (ai_bin (fun x y => x + y) 452) := rfl
set_option maxRecDepth 100000 in
theorem at_101_452 : am_code 101 452 = some (ai_sld 453) := rfl
set_option maxRecDepth 100000 in
theorem at_101_453 : am_code 101 453 = some (ai_aload 0 454) := rfl
set_option maxRecDepth 100000 in
theorem at_101_454 : am_code 101 454 = some (ai_iload 3 455) := rfl
set_option maxRecDepth 100000 in
theorem at_101_455 : am_code 101 455 = some (ai_push 2 456) := rfl
set_option maxRecDepth 100000 in
theorem at_101_456 : am_code 101 456 = some (ai_bin (fun x y => x + y) 457) := rfl
set_option maxRecDepth 100000 in
theorem at_101_457 : am_code 101 457 = some (ai_sld 458) := rfl
set_option maxRecDepth 100000 in
theorem at_101_458 : am_code 101 458 = some (ai_aload 0 459) := rfl
set_option maxRecDepth 100000 in
theorem at_101_459 : am_code 101 459 = some (ai_iload 3 460) := rfl
set_option maxRecDepth 100000 in
theorem at_101_460 : am_code 101 460 = some (ai_push 3 461) := rfl
set_option maxRecDepth 100000 in
theorem at_101_461 : am_code 101 461 = some (ai_bin (fun x y => x + y) 462) := rfl
set_option maxRecDepth 100000 in
theorem at_101_462 : am_code 101 462 = some (ai_sld 463) := rfl
set_option maxRecDepth 100000 in
theorem at_101_463 : am_code 101 463 = some (ai_callV 92 50 3 466) := rfl
set_option maxRecDepth 100000 in
theorem at_101_466 : am_code 101 466 = some (ai_icmp (fun x y => x = y) 669 469) := rfl
set_option maxRecDepth 100000 in
theorem at_101_469 : am_code 101 469 = some (ai_push 0 470) := rfl
set_option maxRecDepth 100000 in
theorem at_101_470 : am_code 101 470 = some (ai_zret) := rfl
set_option maxRecDepth 100000 in
theorem at_101_471 : am_code 101 471 = some (ai_aload 1 472) := rfl
set_option maxRecDepth 100000 in
theorem at_101_472 : am_code 101 472 = some (ai_aload 0 473) := rfl
set_option maxRecDepth 100000 in
theorem at_101_473 : am_code 101 473 = some (ai_iload 3 474) := rfl
set_option maxRecDepth 100000 in
theorem at_101_474 : am_code 101 474 = some (ai_push 1 475) := rfl
set_option maxRecDepth 100000 in
theorem at_101_475 : am_code 101 475 = some (ai_bin (fun x y => x + y) 476) := rfl
set_option maxRecDepth 100000 in
theorem at_101_476 : am_code 101 476 = some (ai_sld 477) := rfl
set_option maxRecDepth 100000 in
theorem at_101_477 : am_code 101 477 = some (ai_aload 0 478) := rfl
set_option maxRecDepth 100000 in
theorem at_101_478 : am_code 101 478 = some (ai_iload 3 479) := rfl
set_option maxRecDepth 100000 in
theorem at_101_479 : am_code 101 479 = some (ai_push 2 480) := rfl
set_option maxRecDepth 100000 in
theorem at_101_480 : am_code 101 480 = some (ai_bin (fun x y => x + y) 481) := rfl
set_option maxRecDepth 100000 in
theorem at_101_481 : am_code 101 481 = some (ai_sld 482) := rfl
set_option maxRecDepth 100000 in
theorem at_101_482 : am_code 101 482 = some (ai_callV 42 1 2 485) := rfl
set_option maxRecDepth 100000 in
theorem at_101_485 : am_code 101 485 = some (ai_aload 2 486) := rfl
set_option maxRecDepth 100000 in
theorem at_101_486 : am_code 101 486 = some (ai_aload 0 487) := rfl
set_option maxRecDepth 100000 in
theorem at_101_487 : am_code 101 487 = some (ai_iload 3 488) := rfl
set_option maxRecDepth 100000 in
theorem at_101_488 : am_code 101 488 = some (ai_push 1 489) := rfl
set_option maxRecDepth 100000 in
theorem at_101_489 : am_code 101 489 = some (ai_bin (fun x y => x + y) 490) := rfl
set_option maxRecDepth 100000 in
theorem at_101_490 : am_code 101 490 = some (ai_sld 491) := rfl
set_option maxRecDepth 100000 in
theorem at_101_491 : am_code 101 491 = some (ai_aload 0 492) := rfl
set_option maxRecDepth 100000 in
theorem at_101_492 : am_code 101 492 = some (ai_iload 3 493) := rfl
set_option maxRecDepth 100000 in
theorem at_101_493 : am_code 101 493 = some (ai_push 2 494) := rfl
set_option maxRecDepth 100000 in
theorem at_101_494 : am_code 101 494 = some (ai_bin (fun x y => x + y) 495) := rfl
set_option maxRecDepth 100000 in
theorem at_101_495 : am_code 101 495 = some (ai_sld 496) := rfl
set_option maxRecDepth 100000 in
theorem at_101_496 : am_code 101 496 = some (ai_callV 93 50 2 499) := rfl
set_option maxRecDepth 100000 in
theorem at_101_499 : am_code 101 499 = some (ai_icmp (fun x y => x = y) 669 502) := rfl
set_option maxRecDepth 100000 in
theorem at_101_502 : am_code 101 502 = some (ai_push 0 503) := rfl
set_option maxRecDepth 100000 in
theorem at_101_503 : am_code 101 503 = some (ai_zret) := rfl
set_option maxRecDepth 100000 in
theorem at_101_504 : am_code 101 504 = some (ai_aload 1 505) := rfl
set_option maxRecDepth 100000 in
theorem at_101_505 : am_code 101 505 = some (ai_aload 0 506) := rfl
set_option maxRecDepth 100000 in
theorem at_101_506 : am_code 101 506 = some (ai_iload 3 507) := rfl
set_option maxRecDepth 100000 in
theorem at_101_507 : am_code 101 507 = some (ai_push 1 508) := rfl
set_option maxRecDepth 100000 in
theorem at_101_508 : am_code 101 508 = some (ai_bin (fun x y => x + y) 509) := rfl
set_option maxRecDepth 100000 in
theorem at_101_509 : am_code 101 509 = some (ai_sld 510) := rfl
set_option maxRecDepth 100000 in
theorem at_101_510 : am_code 101 510 = some (ai_aload 0 511) := rfl
set_option maxRecDepth 100000 in
theorem at_101_511 : am_code 101 511 = some (ai_iload 3 512) := rfl
set_option maxRecDepth 100000 in
theorem at_101_512 : am_code 101 512 = some (ai_push 2 513) := rfl
set_option maxRecDepth 100000 in
theorem at_101_513 : am_code 101 513 = some (ai_bin (fun x y => x + y) 514) := rfl
set_option maxRecDepth 100000 in
theorem at_101_514 : am_code 101 514 = some (ai_sld 515) := rfl
set_option maxRecDepth 100000 in
theorem at_101_515 : am_code 101 515 = some (ai_callV 43 1 2 518) := rfl
set_option maxRecDepth 100000 in
theorem at_101_518 : am_code 101 518 = some (ai_aload 2 519) := rfl
set_option maxRecDepth 100000 in
theorem at_101_519 : am_code 101 519 = some (ai_aload 0 520) := rfl
set_option maxRecDepth 100000 in
theorem at_101_520 : am_code 101 520 = some (ai_iload 3 521) := rfl
set_option maxRecDepth 100000 in
theorem at_101_521 : am_code 101 521 = some (ai_push 1 522) := rfl
set_option maxRecDepth 100000 in
theorem at_101_522 : am_code 101 522 = some (ai_bin (fun x y => x + y) 523) := rfl
set_option maxRecDepth 100000 in
theorem at_101_523 : am_code 101 523 = some (ai_sld 524) := rfl
set_option maxRecDepth 100000 in
theorem at_101_524 : am_code 101 524 = some (ai_aload 0 525) := rfl
set_option maxRecDepth 100000 in
theorem at_101_525 : am_code 101 525 = some (ai_iload 3 526) := rfl
set_option maxRecDepth 100000 in
theorem at_101_526 : am_code 101 526 = some (ai_push 2 527) := rfl
set_option maxRecDepth 100000 in
theorem at_101_527 : am_code 101 527 = some (ai_bin (fun x y => x + y) 528) := rfl
set_option maxRecDepth 100000 in
theorem at_101_528 : am_code 101 528 = some (ai_sld 529) := rfl
set_option maxRecDepth 100000 in
theorem at_101_529 : am_code 101 529 = some (ai_callV 96 50 2 532) := rfl
set_option maxRecDepth 100000 in
theorem at_101_532 : am_code 101 532 = some (ai_icmp (fun x y => x = y) 669 535) := rfl
set_option maxRecDepth 100000 in
theorem at_101_535 : am_code 101 535 = some (ai_push 0 536) := rfl
set_option maxRecDepth 100000 in
theorem at_101_536 : am_code 101 536 = some (ai_zret) := rfl
set_option maxRecDepth 100000 in
theorem at_101_537 : am_code 101 537 = some (ai_aload 1 538) := rfl
set_option maxRecDepth 100000 in
theorem at_101_538 : am_code 101 538 = some (ai_aload 0 539) := rfl
set_option maxRecDepth 100000 in
theorem at_101_539 : am_code 101 539 = some (ai_iload 3 540) := rfl
set_option maxRecDepth 100000 in
theorem at_101_540 : am_code 101 540 = some (ai_push 1 541) := rfl
set_option maxRecDepth 100000 in
theorem at_101_541 : am_code 101 541 = some (ai_bin (fun x y => x + y) 542) := rfl
set_option maxRecDepth 100000 in
theorem at_101_542 : am_code 101 542 = some (ai_sld 543) := rfl
set_option maxRecDepth 100000 in
theorem at_101_543 : am_code 101 543 = some (ai_aload 0 544) := rfl
set_option maxRecDepth 100000 in
theorem at_101_544 : am_code 101 544 = some (ai_iload 3 545) := rfl
set_option maxRecDepth 100000 in
theorem at_101_545 : am_code 101 545 = some (ai_push 2 546) := rfl
set_option maxRecDepth 100000 in
theorem at_101_546 : am_code 101 546 = some (ai_bin (fun x y => x + y) 547) := rfl
set_option maxRecDepth 100000 in
theorem at_101_547 : am_code 101 547 = some (ai_sld 548) := rfl
set_option maxRecDepth 100000 in
theorem at_101_548 : am_code 101 548 = some (ai_callV 44 1 2 551) := rfl
set_option maxRecDepth 100000 in
theorem at_101_551 : am_code 101 551 = some (ai_aload 2 552) := rfl
set_option maxRecDepth 100000 in
theorem at_101_552 : am_code 101 552 = some (ai_aload 0 553) := rfl
set_option maxRecDepth 100000 in
theorem at_101_553 : am_code 101 553 = some (ai_iload 3 554) := rfl
set_option maxRecDepth 100000 in
theorem at_101_554 : am_code 101 554 = some (ai_push 1 555) := rfl
set_option maxRecDepth 100000 in
theorem at_101_555 : am_code 101 555 = some (ai_bin (fun x y => x + y) 556) := rfl
set_option maxRecDepth 100000 in
theorem at_101_556 : am_code 101 556 = some (ai_sld 557) := rfl
set_option maxRecDepth 100000 in
theorem at_101_557 : am_code 101 557 = some (ai_aload 0 558) := rfl
set_option maxRecDepth 100000 in
theorem at_101_558 : am_code 101 558 = some (ai_iload 3 559) := rfl
set_option maxRecDepth 100000 in
theorem at_101_559 : am_code 101 559 = some (ai_push 2 560) := rfl
set_option maxRecDepth 100000 in
theorem at_101_560 : am_code 101 560 = some (ai_bin (fun x y => x + y) 561) := rfl
set_option maxRecDepth 100000 in
theorem at_101_561 : am_code 101 561 = some (ai_sld 562) := rfl
set_option maxRecDepth 100000 in
theorem at_101_562 : am_code 101 562 = some (ai_callV 97 50 2 565) := rfl
set_option maxRecDepth 100000 in
theorem at_101_565 : am_code 101 565 = some (ai_icmp (fun x y => x = y) 669 568) := rfl
set_option maxRecDepth 100000 in
theorem at_101_568 : am_code 101 568 = some (ai_push 0 569) := rfl
set_option maxRecDepth 100000 in
theorem at_101_569 : am_code 101 569 = some (ai_zret) := rfl
set_option maxRecDepth 100000 in
theorem at_101_570 : am_code 101 570 = some (ai_aload 1 571) := rfl
set_option maxRecDepth 100000 in
theorem at_101_571 : am_code 101 571 = some (ai_aload 0 572) := rfl
set_option maxRecDepth 100000 in
theorem at_101_572 : am_code 101 572 = some (ai_iload 3 573) := rfl
set_option maxRecDepth 100000 in
theorem at_101_573 : am_code 101 573 = some (ai_push 1 574) := rfl
set_option maxRecDepth 100000 in
theorem at_101_574 : am_code 101 574 = some (ai_bin (fun x y => x + y) 575) := rfl
set_option maxRecDepth 100000 in
theorem at_101_575 : am_code 101 575 = some (ai_sld 576) := rfl
set_option maxRecDepth 100000 in
theorem at_101_576 : am_code 101 576 = some (ai_aload 0 577) := rfl
set_option maxRecDepth 100000 in
theorem at_101_577 : am_code 101 577 = some (ai_iload 3 578) := rfl
set_option maxRecDepth 100000 in
theorem at_101_578 : am_code 101 578 = some (ai_push 2 579) := rfl
set_option maxRecDepth 100000 in
theorem at_101_579 : am_code 101 579 = some (ai_bin (fun x y => x + y) 580) := rfl
set_option maxRecDepth 100000 in
theorem at_101_580 : am_code 101 580 = some (ai_sld 581) := rfl
set_option maxRecDepth 100000 in
theorem at_101_581 : am_code 101 581 = some (ai_callV 45 1 2 584) := rfl
set_option maxRecDepth 100000 in
theorem at_101_584 : am_code 101 584 = some (ai_aload 2 585) := rfl
set_option maxRecDepth 100000 in
theorem at_101_585 : am_code 101 585 = some (ai_aload 0 586) := rfl
set_option maxRecDepth 100000 in
theorem at_101_586 : am_code 101 586 = some (ai_iload 3 587) := rfl
set_option maxRecDepth 100000 in
theorem at_101_587 : am_code 101 587 = some (ai_push 1 588) := rfl
set_option maxRecDepth 100000 in
theorem at_101_588 : am_code 101 588 = some (ai_bin (fun x y => x + y) 589) := rfl
set_option maxRecDepth 100000 in
theorem at_101_589 : am_code 101 589 = some (ai_sld 590) := rfl
set_option maxRecDepth 100000 in
theorem at_101_590 : am_code 101 590 = some (ai_aload 0 591) := rfl
set_option maxRecDepth 100000 in
theorem at_101_591 : am_code 101 591 = some (ai_iload 3 592) := rfl
set_option maxRecDepth 100000 in
theorem at_101_592 : am_code 101 592 = some (ai_push 2 593) := rfl
set_option maxRecDepth 100000 in
theorem at_101_593 : am_code 101 593 = some (ai_bin (fun x y => x + y) 594) := rfl
set_option maxRecDepth 100000 in
theorem at_101_594 : am_code 101 594 = some (ai_sld 595) := rfl
set_option maxRecDepth 100000 in
theorem at_101_595 : am_code 101 595 = some (ai_callV 98 50 2 598) := rfl
set_option maxRecDepth 100000 in
theorem at_101_598 : am_code 101 598 = some (ai_icmp (fun x y => x = y) 669 601) := rfl
set_option maxRecDepth 100000 in
theorem at_101_601 : am_code 101 601 = some (ai_push 0 602) := rfl
set_option maxRecDepth 100000 in
theorem at_101_602 : am_code 101 602 = some (ai_zret) := rfl
set_option maxRecDepth 100000 in
theorem at_101_603 : am_code 101 603 = some (ai_aload 1 604) := rfl
set_option maxRecDepth 100000 in
theorem at_101_604 : am_code 101 604 = some (ai_aload 0 605) := rfl
set_option maxRecDepth 100000 in
theorem at_101_605 : am_code 101 605 = some (ai_iload 3 606) := rfl
set_option maxRecDepth 100000 in
theorem at_101_606 : am_code 101 606 = some (ai_push 1 607) := rfl
set_option maxRecDepth 100000 in
theorem at_101_607 : am_code 101 607 = some (ai_bin (fun x y => x + y) 608) := rfl
set_option maxRecDepth 100000 in
theorem at_101_608 : am_code 101 608 = some (ai_sld 609) := rfl
set_option maxRecDepth 100000 in
theorem at_101_609 : am_code 101 609 = some (ai_aload 0 610) := rfl
set_option maxRecDepth 100000 in
theorem at_101_610 : am_code 101 610 = some (ai_iload 3 611) := rfl
set_option maxRecDepth 100000 in
theorem at_101_611 : am_code 101 611 = some (ai_push 2 612) := rfl
set_option maxRecDepth 100000 in
theorem at_101_612 : am_code 101 612 = some (ai_bin (fun x y => x + y) 613) := rfl
set_option maxRecDepth 100000 in
theorem at_101_613 : am_code 101 613 = some (ai_sld 614) := rfl
set_option maxRecDepth 100000 in
theorem at_101_614 : am_code 101 614 = some (ai_aload 0 615) := rfl
set_option maxRecDepth 100000 in
theorem at_101_615 : am_code 101 615 = some (ai_iload 3 616) := rfl
set_option maxRecDepth 100000 in
theorem at_101_616 : am_code 101 616 = some (ai_push 3 617) := rfl
set_option maxRecDepth 100000 in
theorem at_101_617 : am_code 101 617 = some (ai_bin (fun x y => x + y) 618) := rfl
set_option maxRecDepth 100000 in
theorem at_101_618 : am_code 101 618 = some (ai_sld 619) := rfl
set_option maxRecDepth 100000 in
theorem at_101_619 : am_code 101 619 = some (ai_callV 46 1 3 622) := rfl
set_option maxRecDepth 100000 in
theorem at_101_622 : am_code 101 622 = some (ai_aload 2 623) := rfl
set_option maxRecDepth 100000 in
theorem at_101_623 : am_code 101 623 = some (ai_aload 0 624) := rfl
set_option maxRecDepth 100000 in
theorem at_101_624 : am_code 101 624 = some (ai_iload 3 625) := rfl
set_option maxRecDepth 100000 in
theorem at_101_625 : am_code 101 625 = some (ai_push 1 626) := rfl
set_option maxRecDepth 100000 in
theorem at_101_626 : am_code 101 626 = some (ai_bin (fun x y => x + y) 627) := rfl
set_option maxRecDepth 100000 in
theorem at_101_627 : am_code 101 627 = some (ai_sld 628) := rfl
set_option maxRecDepth 100000 in
theorem at_101_628 : am_code 101 628 = some (ai_aload 0 629) := rfl
set_option maxRecDepth 100000 in
theorem at_101_629 : am_code 101 629 = some (ai_iload 3 630) := rfl
set_option maxRecDepth 100000 in
theorem at_101_630 : am_code 101 630 = some (ai_push 2 631) := rfl
set_option maxRecDepth 100000 in
theorem at_101_631 : am_code 101 631 = some (ai_bin (fun x y => x + y) 632) := rfl
set_option maxRecDepth 100000 in
theorem at_101_632 : am_code 101 632 = some (ai_sld 633) := rfl
set_option maxRecDepth 100000 in
theorem at_101_633 : am_code 101 633 = some (ai_aload 0 634) := rfl
set_option maxRecDepth 100000 in
theorem at_101_634 : am_code 101 634 = some (ai_iload 3 635) := rfl
set_option maxRecDepth 100000 in
theorem at_101_635 : am_code 101 635 = some (ai_push 3 636) := rfl
set_option maxRecDepth 100000 in
theorem at_101_636 : am_code 101 636 = some (ai_bin (fun x y => x + y) 637) := rfl
set_option maxRecDepth 100000 in
theorem at_101_637 : am_code 101 637 = some (ai_sld 638) := rfl
set_option maxRecDepth 100000 in
theorem at_101_638 : am_code 101 638 = some (ai_callV 99 50 3 641) := rfl
set_option maxRecDepth 100000 in
theorem at_101_641 : am_code 101 641 = some (ai_icmp (fun x y => x = y) 669 644) := rfl
set_option maxRecDepth 100000 in
theorem at_101_644 : am_code 101 644 = some (ai_push 0 645) := rfl
set_option maxRecDepth 100000 in
theorem at_101_645 : am_code 101 645 = some (ai_zret) := rfl
set_option maxRecDepth 100000 in
theorem at_101_646 : am_code 101 646 = some (ai_aload 1 647) := rfl
set_option maxRecDepth 100000 in
theorem at_101_647 : am_code 101 647 = some (ai_aload 0 648) := rfl
set_option maxRecDepth 100000 in
theorem at_101_648 : am_code 101 648 = some (ai_iload 3 649) := rfl
set_option maxRecDepth 100000 in
theorem at_101_649 : am_code 101 649 = some (ai_push 1 650) := rfl
set_option maxRecDepth 100000 in
theorem at_101_650 : am_code 101 650 = some (ai_bin (fun x y => x + y) 651) := rfl
set_option maxRecDepth 100000 in
theorem at_101_651 : am_code 101 651 = some (ai_sld 652) := rfl
set_option maxRecDepth 100000 in
theorem at_101_652 : am_code 101 652 = some (ai_callV 47 1 1 655) := rfl
set_option maxRecDepth 100000 in
theorem at_101_655 : am_code 101 655 = some (ai_aload 2 656) := rfl
set_option maxRecDepth 100000 in
theorem at_101_656 : am_code 101 656 = some (ai_aload 0 657) := rfl
set_option maxRecDepth 100000 in
theorem at_101_657 : am_code 101 657 = some (ai_iload 3 658) := rfl
set_option maxRecDepth 100000 in
theorem at_101_658 : am_code 101 658 = some (ai_push 1 659) := rfl
set_option maxRecDepth 100000 in
theorem at_101_659 : am_code 101 659 = some (ai_bin (fun x y => x + y) 660) := rfl
set_option maxRecDepth 100000 in
theorem at_101_660 : am_code 101 660 = some (ai_sld 661) := rfl
set_option maxRecDepth 100000 in
theorem at_101_661 : am_code 101 661 = some (ai_callV 100 50 1 664) := rfl
set_option maxRecDepth 100000 in
theorem at_101_664 : am_code 101 664 = some (ai_icmp (fun x y => x = y) 669 667) := rfl
set_option maxRecDepth 100000 in
theorem at_101_667 : am_code 101 667 = some (ai_push 0 668) := rfl
set_option maxRecDepth 100000 in
theorem at_101_668 : am_code 101 668 = some (ai_zret) := rfl
set_option maxRecDepth 100000 in
theorem at_101_669 : am_code 101 669 = some (ai_iinc 3 6 672) := rfl
set_option maxRecDepth 100000 in
theorem at_101_672 : am_code 101 672 = some (ai_goto 18) := rfl
set_option maxRecDepth 100000 in
theorem at_101_675 : am_code 101 675 = some (ai_push 1 676) := rfl
set_option maxRecDepth 100000 in
theorem at_101_676 : am_code 101 676 = some (ai_zret) := rfl
end
section
def am_entry (j : Nat) (as : List am_V) : am_L := as.map some ++ List.replicate (am_nL j - as.length) none
def am_W (C : am_C) (j : Nat) (Q : am_Q) : am_G := fun pc ls st S => ∀ X : am_G, (∀ (pc : Nat) (ls : am_L) (st : List am_V) (S : am_S) (t : am_T), am_code j pc = some t → t C X Q ls st S → X pc ls st S) → X pc ls st S
def am_call : Nat → am_C
  | 0 => fun _ _ _ _ => False
  | d + 1 => fun j as S Q => ((0 < j ∧ j < am_jL) ∧ as.length ≤ am_nL j) ∧ am_W (am_call d) j Q 0 (am_entry j as) [] S
theorem am_W.step {C : am_C} {j pc : Nat} {Q : am_Q} {ls : am_L} {st : List am_V} {S : am_S} {t : am_T} (h : am_code j pc = some t) (hm : am_mono t) (hC : am_le C C) (g : t C (am_W C j Q) Q ls st S) : am_W C j Q pc ls st S :=
  fun X hX => hX pc ls st S t h (hm C C _ _ Q Q ls st S hC (fun pc ls st S w => w X hX) (fun _ _ q => q) g)
theorem am_W.mono (hM : ∀ j pc t, am_code j pc = some t → am_mono t) {C C' : am_C} {j pc : Nat} {Q Q' : am_Q} {ls : am_L} {st : List am_V} {S : am_S} (hC : am_le C C') (hQ : ∀ S v, Q S v → Q' S v) (h : am_W C j Q pc ls st S) : am_W C' j Q' pc ls st S :=
  fun X hX => h X (fun pc ls st S t ht g => hX pc ls st S t ht (hM j pc t ht C C' X X Q Q' ls st S hC (fun _ _ _ _ g => g) hQ g))
theorem am_call_le (hM : ∀ j pc t, am_code j pc = some t → am_mono t) : ∀ d, am_le (am_call d) (am_call d) ∧ am_le (am_call d) (am_call (d + 1))
  | 0 => ⟨fun _ _ _ _ _ _ h => h.elim, fun _ _ _ _ _ _ h => h.elim⟩
  | d + 1 => ⟨fun _ _ _ _ _ hQ h => ⟨h.1, am_W.mono hM (am_call_le hM d).1 hQ h.2⟩, fun _ _ _ _ _ hQ h => ⟨h.1, am_W.mono hM (am_call_le hM d).2 hQ h.2⟩⟩
theorem am_fa {α : Type} {P : α → Prop} {a : α} {l : List α} (h : P a) (g : ∀ x ∈ l, P x) : ∀ x ∈ a :: l, P x := List.forall_mem_cons.mpr ⟨h, g⟩
theorem am_f0 {α : Type} {P : α → Prop} : ∀ x ∈ ([] : List α), P x := fun _ h => absurd h List.not_mem_nil
theorem mc_0 : ∀ x ∈ am_c0, am_mono x.2 :=
  am_fa (mn_iload _ _) <| am_fa (mn_iload _ _) <| am_fa (mn_icmp _ _ _) <| am_fa (mn_iload _ _) <| am_fa (mn_goto _) <| am_fa (mn_iload _ _) <| am_fa (mn_iret) <| am_f0
theorem mc_1 : ∀ x ∈ am_c1, am_mono x.2 :=
  am_fa (mn_aload _ _) <| am_fa (mn_oinit _) <| am_fa (mn_aload _ _) <| am_fa (mn_iload _ _) <| am_fa (mn_putI _ _ _) <| am_fa (mn_aload _ _) <| am_fa (mn_iload _ _) <| am_fa (mn_putI _ _ _) <| am_fa (mn_aload _ _) <| am_fa (mn_iload _ _) <| am_fa (mn_putI _ _ _) <| am_fa (mn_ret) <| am_f0
theorem mc_2 : ∀ x ∈ am_c2, am_mono x.2 :=
  am_fa (mn_push _ _) <| am_fa (mn_aload _ _) <| am_fa (mn_getI _ _ _) <| am_fa (mn_bin _ _) <| am_fa (mn_istore _ _) <| am_fa (mn_iload _ _) <| am_fa (mn_iload _ _) <| am_fa (mn_bin _ _) <| am_fa (mn_aload _ _) <| am_fa (mn_getI _ _ _) <| am_fa (mn_iload _ _) <| am_fa (mn_bin _ _) <| am_fa (mn_icmp _ _ _) <| am_fa (mn_push _ _) <| am_fa (mn_goto _) <| am_fa (mn_push _ _) <| am_fa (mn_zret) <| am_f0
theorem mc_3 : ∀ x ∈ am_c3, am_mono x.2 :=
  am_fa (mn_aload _ _) <| am_fa (mn_ifnull _ _) <| am_fa (mn_aload _ _) <| am_fa (mn_ifnonnull _ _) <| am_fa (mn_aload _ _) <| am_fa (mn_ifnonnull _ _) <| am_fa (mn_aload _ _) <| am_fa (mn_ifnonnull _ _) <| am_fa (mn_push _ _) <| am_fa (mn_goto _) <| am_fa (mn_push _ _) <| am_fa (mn_zret) <| am_fa (mn_aload _ _) <| am_fa (mn_getI _ _ _) <| am_fa (mn_aload _ _) <| am_fa (mn_getI _ _ _) <| am_fa (mn_icmp _ _ _) <| am_fa (mn_aload _ _) <| am_fa (mn_getI _ _ _) <| am_fa (mn_aload _ _) <| am_fa (mn_getI _ _ _) <| am_fa (mn_icmp _ _ _) <| am_fa (mn_aload _ _) <| am_fa (mn_getI _ _ _) <| am_fa (mn_aload _ _) <| am_fa (mn_getI _ _ _) <| am_fa (mn_icmp _ _ _) <| am_fa (mn_push _ _) <| am_fa (mn_goto _) <| am_fa (mn_push _ _) <| am_fa (mn_zret) <| am_f0
theorem mc_4 : ∀ x ∈ am_c4, am_mono x.2 :=
  am_fa (mn_aload _ _) <| am_fa (mn_oinit _) <| am_fa (mn_aload _ _) <| am_fa (mn_iload _ _) <| am_fa (mn_putI _ _ _) <| am_fa (mn_aload _ _) <| am_fa (mn_iload _ _) <| am_fa (mn_putI _ _ _) <| am_fa (mn_aload _ _) <| am_fa (mn_iload _ _) <| am_fa (mn_putI _ _ _) <| am_fa (mn_aload _ _) <| am_fa (mn_push _ _) <| am_fa (mn_newa _ _ _) <| am_fa (mn_putP _ _ _) <| am_fa (mn_push _ _) <| am_fa (mn_istore _ _) <| am_fa (mn_iload _ _) <| am_fa (mn_push _ _) <| am_fa (mn_icmp _ _ _) <| am_fa (mn_aload _ _) <| am_fa (mn_getP _ _ _) <| am_fa (mn_iload _ _) <| am_fa (mn_aload _ _) <| am_fa (mn_iload _ _) <| am_fa (mn_aald _ _ _) <| am_fa (mn_callV _ _ _ _) <| am_fa (mn_ast _ _ _) <| am_fa (mn_iinc _ _ _) <| am_fa (mn_goto _) <| am_fa (mn_aload _ _) <| am_fa (mn_push _ _) <| am_fa (mn_newa _ _ _) <| am_fa (mn_putP _ _ _) <| am_fa (mn_push _ _) <| am_fa (mn_istore _ _) <| am_fa (mn_iload _ _) <| am_fa (mn_push _ _) <| am_fa (mn_icmp _ _ _) <| am_fa (mn_aload _ _) <| am_fa (mn_getP _ _ _) <| am_fa (mn_iload _ _) <| am_fa (mn_aload _ _) <| am_fa (mn_iload _ _) <| am_fa (mn_aald _ _ _) <| am_fa (mn_aast _ _ _ _) <| am_fa (mn_iinc _ _ _) <| am_fa (mn_goto _) <| am_fa (mn_ret) <| am_f0
theorem mc_5 : ∀ x ∈ am_c5, am_mono x.2 :=
  am_fa (mn_aload _ _) <| am_fa (mn_getI _ _ _) <| am_fa (mn_aload _ _) <| am_fa (mn_getI _ _ _) <| am_fa (mn_icmp _ _ _) <| am_fa (mn_aload _ _) <| am_fa (mn_getI _ _ _) <| am_fa (mn_aload _ _) <| am_fa (mn_getI _ _ _) <| am_fa (mn_icmp _ _ _) <| am_fa (mn_aload _ _) <| am_fa (mn_getI _ _ _) <| am_fa (mn_aload _ _) <| am_fa (mn_getI _ _ _) <| am_fa (mn_icmp _ _ _) <| am_fa (mn_push _ _) <| am_fa (mn_goto _) <| am_fa (mn_push _ _) <| am_fa (mn_zret) <| am_f0
theorem mc_6 : ∀ x ∈ am_c6, am_mono x.2 :=
  am_fa (mn_aload _ _) <| am_fa (mn_getI _ _ _) <| am_fa (mn_aload _ _) <| am_fa (mn_getI _ _ _) <| am_fa (mn_icmp _ _ _) <| am_fa (mn_aload _ _) <| am_fa (mn_getI _ _ _) <| am_fa (mn_aload _ _) <| am_fa (mn_getI _ _ _) <| am_fa (mn_icmp _ _ _) <| am_fa (mn_push _ _) <| am_fa (mn_goto _) <| am_fa (mn_push _ _) <| am_fa (mn_zret) <| am_f0
theorem mc_7 : ∀ x ∈ am_c7, am_mono x.2 :=
  am_fa (mn_aload _ _) <| am_fa (mn_oinit _) <| am_fa (mn_aload _ _) <| am_fa (mn_push _ _) <| am_fa (mn_newa _ _ _) <| am_fa (mn_putP _ _ _) <| am_fa (mn_aload _ _) <| am_fa (mn_callV _ _ _ _) <| am_fa (mn_ret) <| am_f0
theorem mc_8 : ∀ x ∈ am_c8, am_mono x.2 :=
  am_fa (mn_aload _ _) <| am_fa (mn_iload _ _) <| am_fa (mn_putI _ _ _) <| am_fa (mn_iload _ _) <| am_fa (mn_if _ _ _) <| am_fa (mn_aload _ _) <| am_fa (mn_push _ _) <| am_fa (mn_putI _ _ _) <| am_fa (mn_aload _ _) <| am_fa (mn_callV _ _ _ _) <| am_fa (mn_ret) <| am_f0
theorem mc_9 : ∀ x ∈ am_c9, am_mono x.2 :=
  am_fa (mn_aload _ _) <| am_fa (mn_push _ _) <| am_fa (mn_putZ _ _ _) <| am_fa (mn_aload _ _) <| am_fa (mn_push _ _) <| am_fa (mn_putI _ _ _) <| am_fa (mn_aload _ _) <| am_fa (mn_push _ _) <| am_fa (mn_putZ _ _ _) <| am_fa (mn_aload _ _) <| am_fa (mn_push _ _) <| am_fa (mn_putZ _ _ _) <| am_fa (mn_aload _ _) <| am_fa (mn_callV _ _ _ _) <| am_fa (mn_ret) <| am_f0
theorem mc_10 : ∀ x ∈ am_c10, am_mono x.2 :=
  am_fa (mn_push _ _) <| am_fa (mn_istore _ _) <| am_fa (mn_iload _ _) <| am_fa (mn_push _ _) <| am_fa (mn_icmp _ _ _) <| am_fa (mn_aload _ _) <| am_fa (mn_getP _ _ _) <| am_fa (mn_iload _ _) <| am_fa (mn_push _ _) <| am_fa (mn_ast _ _ _) <| am_fa (mn_iinc _ _ _) <| am_fa (mn_goto _) <| am_fa (mn_ret) <| am_f0
theorem mc_11 : ∀ x ∈ am_c11, am_mono x.2 :=
  am_fa (mn_aload _ _) <| am_fa (mn_getP _ _ _) <| am_fa (mn_iload _ _) <| am_fa (mn_ald _ _ _) <| am_fa (mn_push _ _) <| am_fa (mn_icmp _ _ _) <| am_fa (mn_aload _ _) <| am_fa (mn_getP _ _ _) <| am_fa (mn_iload _ _) <| am_fa (mn_push _ _) <| am_fa (mn_ast _ _ _) <| am_fa (mn_ret) <| am_f0
theorem mc_12 : ∀ x ∈ am_c12, am_mono x.2 :=
  am_fa (mn_aload _ _) <| am_fa (mn_getI _ _ _) <| am_fa (mn_iload _ _) <| am_fa (mn_push _ _) <| am_fa (mn_bin _ _) <| am_fa (mn_icmp _ _ _) <| am_fa (mn_aload _ _) <| am_fa (mn_push _ _) <| am_fa (mn_putZ _ _ _) <| am_fa (mn_aload _ _) <| am_fa (mn_push _ _) <| am_fa (mn_putZ _ _ _) <| am_fa (mn_aload _ _) <| am_fa (mn_getI _ _ _) <| am_fa (mn_istore _ _) <| am_fa (mn_aload _ _) <| am_fa (mn_aload _ _) <| am_fa (mn_getI _ _ _) <| am_fa (mn_if _ _ _) <| am_fa (mn_aload _ _) <| am_fa (mn_getI _ _ _) <| am_fa (mn_if _ _ _) <| am_fa (mn_push _ _) <| am_fa (mn_goto _) <| am_fa (mn_push _ _) <| am_fa (mn_putZ _ _ _) <| am_fa (mn_aload _ _) <| am_fa (mn_aload _ _) <| am_fa (mn_getI _ _ _) <| am_fa (mn_if _ _ _) <| am_fa (mn_iload _ _) <| am_fa (mn_if _ _ _) <| am_fa (mn_push _ _) <| am_fa (mn_goto _) <| am_fa (mn_push _ _) <| am_fa (mn_putZ _ _ _) <| am_fa (mn_aload _ _) <| am_fa (mn_getI _ _ _) <| am_fa (mn_if _ _ _) <| am_fa (mn_aload _ _) <| am_fa (mn_callV _ _ _ _) <| am_fa (mn_ret) <| am_f0
theorem mc_13 : ∀ x ∈ am_c13, am_mono x.2 :=
  am_fa (mn_aload _ _) <| am_fa (mn_getI _ _ _) <| am_fa (mn_if _ _ _) <| am_fa (mn_aload _ _) <| am_fa (mn_getI _ _ _) <| am_fa (mn_goto _) <| am_fa (mn_push _ _) <| am_fa (mn_iret) <| am_f0
theorem mc_14 : ∀ x ∈ am_c14, am_mono x.2 :=
  am_fa (mn_aload _ _) <| am_fa (mn_oinit _) <| am_fa (mn_aload _ _) <| am_fa (mn_iload _ _) <| am_fa (mn_putI _ _ _) <| am_fa (mn_aload _ _) <| am_fa (mn_push _ _) <| am_fa (mn_putZ _ _ _) <| am_fa (mn_aload _ _) <| am_fa (mn_push _ _) <| am_fa (mn_newa _ _ _) <| am_fa (mn_putP _ _ _) <| am_fa (mn_aload _ _) <| am_fa (mn_push _ _) <| am_fa (mn_newa _ _ _) <| am_fa (mn_putP _ _ _) <| am_fa (mn_aload _ _) <| am_fa (mn_push _ _) <| am_fa (mn_newa _ _ _) <| am_fa (mn_putP _ _ _) <| am_fa (mn_push _ _) <| am_fa (mn_istore _ _) <| am_fa (mn_iload _ _) <| am_fa (mn_push _ _) <| am_fa (mn_icmp _ _ _) <| am_fa (mn_aload _ _) <| am_fa (mn_getP _ _ _) <| am_fa (mn_iload _ _) <| am_fa (mn_new _ _ _) <| am_fa (mn_dup _) <| am_fa (mn_callV _ _ _ _) <| am_fa (mn_aast _ _ _ _) <| am_fa (mn_iinc _ _ _) <| am_fa (mn_goto _) <| am_fa (mn_ret) <| am_f0
theorem mc_15 : ∀ x ∈ am_c15, am_mono x.2 :=
  am_fa (mn_aload _ _) <| am_fa (mn_push _ _) <| am_fa (mn_putI _ _ _) <| am_fa (mn_aload _ _) <| am_fa (mn_push _ _) <| am_fa (mn_putZ _ _ _) <| am_fa (mn_aload _ _) <| am_fa (mn_null _) <| am_fa (mn_putP _ _ _) <| am_fa (mn_push _ _) <| am_fa (mn_istore _ _) <| am_fa (mn_iload _ _) <| am_fa (mn_push _ _) <| am_fa (mn_icmp _ _ _) <| am_fa (mn_aload _ _) <| am_fa (mn_getP _ _ _) <| am_fa (mn_iload _ _) <| am_fa (mn_null _) <| am_fa (mn_aast _ _ _ _) <| am_fa (mn_aload _ _) <| am_fa (mn_getP _ _ _) <| am_fa (mn_iload _ _) <| am_fa (mn_aald _ _ _) <| am_fa (mn_callV _ _ _ _) <| am_fa (mn_iinc _ _ _) <| am_fa (mn_goto _) <| am_fa (mn_ret) <| am_f0
theorem mc_16 : ∀ x ∈ am_c16, am_mono x.2 :=
  am_fa (mn_aload _ _) <| am_fa (mn_getP _ _ _) <| am_fa (mn_iload _ _) <| am_fa (mn_null _) <| am_fa (mn_aast _ _ _ _) <| am_fa (mn_push _ _) <| am_fa (mn_istore _ _) <| am_fa (mn_iload _ _) <| am_fa (mn_push _ _) <| am_fa (mn_icmp _ _ _) <| am_fa (mn_aload _ _) <| am_fa (mn_getP _ _ _) <| am_fa (mn_iload _ _) <| am_fa (mn_aald _ _ _) <| am_fa (mn_getP _ _ _) <| am_fa (mn_iload _ _) <| am_fa (mn_push _ _) <| am_fa (mn_ast _ _ _) <| am_fa (mn_iinc _ _ _) <| am_fa (mn_goto _) <| am_fa (mn_ret) <| am_f0
theorem mc_17 : ∀ x ∈ am_c17, am_mono x.2 :=
  am_fa (mn_push _ _) <| am_fa (mn_istore _ _) <| am_fa (mn_iload _ _) <| am_fa (mn_push _ _) <| am_fa (mn_icmp _ _ _) <| am_fa (mn_aload _ _) <| am_fa (mn_getP _ _ _) <| am_fa (mn_iload _ _) <| am_fa (mn_aald _ _ _) <| am_fa (mn_aload _ _) <| am_fa (mn_getP _ _ _) <| am_fa (mn_iload _ _) <| am_fa (mn_aald _ _ _) <| am_fa (mn_getI _ _ _) <| am_fa (mn_putZ _ _ _) <| am_fa (mn_iinc _ _ _) <| am_fa (mn_goto _) <| am_fa (mn_ret) <| am_f0
theorem mc_18 : ∀ x ∈ am_c18, am_mono x.2 :=
  am_fa (mn_aload _ _) <| am_fa (mn_getP _ _ _) <| am_fa (mn_ifnonnull _ _) <| am_fa (mn_push _ _) <| am_fa (mn_zret) <| am_fa (mn_aload _ _) <| am_fa (mn_getP _ _ _) <| am_fa (mn_getI _ _ _) <| am_fa (mn_iload _ _) <| am_fa (mn_push _ _) <| am_fa (mn_bin _ _) <| am_fa (mn_icmp _ _ _) <| am_fa (mn_push _ _) <| am_fa (mn_zret) <| am_fa (mn_aload _ _) <| am_fa (mn_getI _ _ _) <| am_fa (mn_if _ _ _) <| am_fa (mn_aload _ _) <| am_fa (mn_getP _ _ _) <| am_fa (mn_getI _ _ _) <| am_fa (mn_iload _ _) <| am_fa (mn_push _ _) <| am_fa (mn_bin _ _) <| am_fa (mn_icmp _ _ _) <| am_fa (mn_aload _ _) <| am_fa (mn_aload _ _) <| am_fa (mn_getP _ _ _) <| am_fa (mn_callV _ _ _ _) <| am_fa (mn_if _ _ _) <| am_fa (mn_push _ _) <| am_fa (mn_goto _) <| am_fa (mn_push _ _) <| am_fa (mn_zret) <| am_f0
theorem mc_19 : ∀ x ∈ am_c19, am_mono x.2 :=
  am_fa (mn_push _ _) <| am_fa (mn_istore _ _) <| am_fa (mn_iload _ _) <| am_fa (mn_push _ _) <| am_fa (mn_icmp _ _ _) <| am_fa (mn_aload _ _) <| am_fa (mn_getP _ _ _) <| am_fa (mn_iload _ _) <| am_fa (mn_ald _ _ _) <| am_fa (mn_aload _ _) <| am_fa (mn_getP _ _ _) <| am_fa (mn_iload _ _) <| am_fa (mn_aald _ _ _) <| am_fa (mn_callV _ _ _ _) <| am_fa (mn_icmp _ _ _) <| am_fa (mn_push _ _) <| am_fa (mn_zret) <| am_fa (mn_iinc _ _ _) <| am_fa (mn_goto _) <| am_fa (mn_push _ _) <| am_fa (mn_istore _ _) <| am_fa (mn_iload _ _) <| am_fa (mn_push _ _) <| am_fa (mn_icmp _ _ _) <| am_fa (mn_aload _ _) <| am_fa (mn_getP _ _ _) <| am_fa (mn_iload _ _) <| am_fa (mn_aald _ _ _) <| am_fa (mn_aload _ _) <| am_fa (mn_getP _ _ _) <| am_fa (mn_iload _ _) <| am_fa (mn_aald _ _ _) <| am_fa (mn_callS _ _ _) <| am_fa (mn_if _ _ _) <| am_fa (mn_push _ _) <| am_fa (mn_zret) <| am_fa (mn_iinc _ _ _) <| am_fa (mn_goto _) <| am_fa (mn_push _ _) <| am_fa (mn_zret) <| am_f0
theorem mc_20 : ∀ x ∈ am_c20, am_mono x.2 :=
  am_fa (mn_aload _ _) <| am_fa (mn_dup _) <| am_fa (mn_getI _ _ _) <| am_fa (mn_push _ _) <| am_fa (mn_bin _ _) <| am_fa (mn_putI _ _ _) <| am_fa (mn_aload _ _) <| am_fa (mn_new _ _ _) <| am_fa (mn_dup _) <| am_fa (mn_aload _ _) <| am_fa (mn_getI _ _ _) <| am_fa (mn_aload _ _) <| am_fa (mn_getI _ _ _) <| am_fa (mn_iload _ _) <| am_fa (mn_aload _ _) <| am_fa (mn_getP _ _ _) <| am_fa (mn_aload _ _) <| am_fa (mn_getP _ _ _) <| am_fa (mn_callV _ _ _ _) <| am_fa (mn_putP _ _ _) <| am_fa (mn_aload _ _) <| am_fa (mn_push _ _) <| am_fa (mn_putZ _ _ _) <| am_fa (mn_aload _ _) <| am_fa (mn_aload _ _) <| am_fa (mn_getP _ _ _) <| am_fa (mn_aload _ _) <| am_fa (mn_getI _ _ _) <| am_fa (mn_callV _ _ _ _) <| am_fa (mn_ret) <| am_f0
theorem mc_21 : ∀ x ∈ am_c21, am_mono x.2 :=
  am_fa (mn_aload _ _) <| am_fa (mn_getI _ _ _) <| am_fa (mn_istore _ _) <| am_fa (mn_aload _ _) <| am_fa (mn_getP _ _ _) <| am_fa (mn_iload _ _) <| am_fa (mn_aload _ _) <| am_fa (mn_aast _ _ _ _) <| am_fa (mn_push _ _) <| am_fa (mn_istore _ _) <| am_fa (mn_iload _ _) <| am_fa (mn_push _ _) <| am_fa (mn_icmp _ _ _) <| am_fa (mn_aload _ _) <| am_fa (mn_getP _ _ _) <| am_fa (mn_iload _ _) <| am_fa (mn_aald _ _ _) <| am_fa (mn_getP _ _ _) <| am_fa (mn_iload _ _) <| am_fa (mn_aload _ _) <| am_fa (mn_getP _ _ _) <| am_fa (mn_iload _ _) <| am_fa (mn_aald _ _ _) <| am_fa (mn_getI _ _ _) <| am_fa (mn_if _ _ _) <| am_fa (mn_iload _ _) <| am_fa (mn_iload _ _) <| am_fa (mn_icmp _ _ _) <| am_fa (mn_push _ _) <| am_fa (mn_goto _) <| am_fa (mn_push _ _) <| am_fa (mn_ast _ _ _) <| am_fa (mn_iinc _ _ _) <| am_fa (mn_goto _) <| am_fa (mn_ret) <| am_f0
theorem mc_22 : ∀ x ∈ am_c22, am_mono x.2 :=
  am_fa (mn_aload _ _) <| am_fa (mn_aload _ _) <| am_fa (mn_getI _ _ _) <| am_fa (mn_iload _ _) <| am_fa (mn_max _) <| am_fa (mn_putI _ _ _) <| am_fa (mn_aload _ _) <| am_fa (mn_push _ _) <| am_fa (mn_putZ _ _ _) <| am_fa (mn_ret) <| am_f0
theorem mc_23 : ∀ x ∈ am_c23, am_mono x.2 :=
  am_fa (mn_aload _ _) <| am_fa (mn_oinit _) <| am_fa (mn_aload _ _) <| am_fa (mn_push _ _) <| am_fa (mn_newa _ _ _) <| am_fa (mn_putP _ _ _) <| am_fa (mn_aload _ _) <| am_fa (mn_push _ _) <| am_fa (mn_newa _ _ _) <| am_fa (mn_putP _ _ _) <| am_fa (mn_ret) <| am_f0
theorem mc_24 : ∀ x ∈ am_c24, am_mono x.2 :=
  am_fa (mn_push _ _) <| am_fa (mn_istore _ _) <| am_fa (mn_push _ _) <| am_fa (mn_istore _ _) <| am_fa (mn_iload _ _) <| am_fa (mn_push _ _) <| am_fa (mn_icmp _ _ _) <| am_fa (mn_aload _ _) <| am_fa (mn_getP _ _ _) <| am_fa (mn_iload _ _) <| am_fa (mn_null _) <| am_fa (mn_aast _ _ _ _) <| am_fa (mn_aload _ _) <| am_fa (mn_getP _ _ _) <| am_fa (mn_iload _ _) <| am_fa (mn_push _ _) <| am_fa (mn_zast _ _ _) <| am_fa (mn_aload _ _) <| am_fa (mn_iload _ _) <| am_fa (mn_aald _ _ _) <| am_fa (mn_ifnull _ _) <| am_fa (mn_aload _ _) <| am_fa (mn_iload _ _) <| am_fa (mn_ald _ _ _) <| am_fa (mn_iload _ _) <| am_fa (mn_callS _ _ _) <| am_fa (mn_if _ _ _) <| am_fa (mn_aload _ _) <| am_fa (mn_getP _ _ _) <| am_fa (mn_iload _ _) <| am_fa (mn_aload _ _) <| am_fa (mn_iload _ _) <| am_fa (mn_aald _ _ _) <| am_fa (mn_aast _ _ _ _) <| am_fa (mn_aload _ _) <| am_fa (mn_iload _ _) <| am_fa (mn_iload _ _) <| am_fa (mn_ast _ _ _) <| am_fa (mn_iinc _ _ _) <| am_fa (mn_iinc _ _ _) <| am_fa (mn_goto _) <| am_fa (mn_iload _ _) <| am_fa (mn_iret) <| am_f0
theorem mc_25 : ∀ x ∈ am_c25, am_mono x.2 :=
  am_fa (mn_iload _ _) <| am_fa (mn_push _ _) <| am_fa (mn_icmp _ _ _) <| am_fa (mn_push _ _) <| am_fa (mn_zret) <| am_fa (mn_iload _ _) <| am_fa (mn_push _ _) <| am_fa (mn_icmp _ _ _) <| am_fa (mn_iload _ _) <| am_fa (mn_iload _ _) <| am_fa (mn_push _ _) <| am_fa (mn_bin _ _) <| am_fa (mn_icmp _ _ _) <| am_fa (mn_push _ _) <| am_fa (mn_goto _) <| am_fa (mn_push _ _) <| am_fa (mn_zret) <| am_f0
theorem mc_26 : ∀ x ∈ am_c26, am_mono x.2 :=
  am_fa (mn_aload _ _) <| am_fa (mn_oinit _) <| am_fa (mn_aload _ _) <| am_fa (mn_push _ _) <| am_fa (mn_push _ _) <| am_fa (mn_multi _ _ _) <| am_fa (mn_putP _ _ _) <| am_fa (mn_aload _ _) <| am_fa (mn_push _ _) <| am_fa (mn_push _ _) <| am_fa (mn_multi _ _ _) <| am_fa (mn_putP _ _ _) <| am_fa (mn_ret) <| am_f0
theorem mc_27 : ∀ x ∈ am_c27, am_mono x.2 :=
  am_fa (mn_push _ _) <| am_fa (mn_istore _ _) <| am_fa (mn_iload _ _) <| am_fa (mn_push _ _) <| am_fa (mn_icmp _ _ _) <| am_fa (mn_push _ _) <| am_fa (mn_istore _ _) <| am_fa (mn_iload _ _) <| am_fa (mn_push _ _) <| am_fa (mn_icmp _ _ _) <| am_fa (mn_aload _ _) <| am_fa (mn_getP _ _ _) <| am_fa (mn_iload _ _) <| am_fa (mn_aald _ _ _) <| am_fa (mn_iload _ _) <| am_fa (mn_aload _ _) <| am_fa (mn_iload _ _) <| am_fa (mn_aald _ _ _) <| am_fa (mn_aload _ _) <| am_fa (mn_iload _ _) <| am_fa (mn_aald _ _ _) <| am_fa (mn_iload _ _) <| am_fa (mn_iload _ _) <| am_fa (mn_callS _ _ _) <| am_fa (mn_ast _ _ _) <| am_fa (mn_aload _ _) <| am_fa (mn_getP _ _ _) <| am_fa (mn_iload _ _) <| am_fa (mn_aald _ _ _) <| am_fa (mn_iload _ _) <| am_fa (mn_iload _ _) <| am_fa (mn_iload _ _) <| am_fa (mn_icmp _ _ _) <| am_fa (mn_push _ _) <| am_fa (mn_goto _) <| am_fa (mn_aload _ _) <| am_fa (mn_getP _ _ _) <| am_fa (mn_iload _ _) <| am_fa (mn_aald _ _ _) <| am_fa (mn_iload _ _) <| am_fa (mn_ald _ _ _) <| am_fa (mn_ast _ _ _) <| am_fa (mn_iinc _ _ _) <| am_fa (mn_goto _) <| am_fa (mn_iinc _ _ _) <| am_fa (mn_goto _) <| am_fa (mn_push _ _) <| am_fa (mn_istore _ _) <| am_fa (mn_iload _ _) <| am_fa (mn_push _ _) <| am_fa (mn_icmp _ _ _) <| am_fa (mn_aload _ _) <| am_fa (mn_iload _ _) <| am_fa (mn_callV _ _ _ _) <| am_fa (mn_iinc _ _ _) <| am_fa (mn_goto _) <| am_fa (mn_ret) <| am_f0
theorem mc_28 : ∀ x ∈ am_c28, am_mono x.2 :=
  am_fa (mn_aload _ _) <| am_fa (mn_ifnull _ _) <| am_fa (mn_aload _ _) <| am_fa (mn_ifnull _ _) <| am_fa (mn_aload _ _) <| am_fa (mn_getP _ _ _) <| am_fa (mn_iload _ _) <| am_fa (mn_ald _ _ _) <| am_fa (mn_if _ _ _) <| am_fa (mn_aload _ _) <| am_fa (mn_getP _ _ _) <| am_fa (mn_iload _ _) <| am_fa (mn_ald _ _ _) <| am_fa (mn_if _ _ _) <| am_fa (mn_push _ _) <| am_fa (mn_iret) <| am_fa (mn_aload _ _) <| am_fa (mn_getP _ _ _) <| am_fa (mn_iload _ _) <| am_fa (mn_ald _ _ _) <| am_fa (mn_iret) <| am_f0
theorem mc_29 : ∀ x ∈ am_c29, am_mono x.2 :=
  am_fa (mn_push _ _) <| am_fa (mn_istore _ _) <| am_fa (mn_iload _ _) <| am_fa (mn_push _ _) <| am_fa (mn_icmp _ _ _) <| am_fa (mn_push _ _) <| am_fa (mn_istore _ _) <| am_fa (mn_iload _ _) <| am_fa (mn_push _ _) <| am_fa (mn_icmp _ _ _) <| am_fa (mn_aload _ _) <| am_fa (mn_getP _ _ _) <| am_fa (mn_iload _ _) <| am_fa (mn_aald _ _ _) <| am_fa (mn_iload _ _) <| am_fa (mn_ald _ _ _) <| am_fa (mn_aload _ _) <| am_fa (mn_getP _ _ _) <| am_fa (mn_iload _ _) <| am_fa (mn_aald _ _ _) <| am_fa (mn_iload _ _) <| am_fa (mn_ald _ _ _) <| am_fa (mn_bin _ _) <| am_fa (mn_istore _ _) <| am_fa (mn_iload _ _) <| am_fa (mn_aload _ _) <| am_fa (mn_getP _ _ _) <| am_fa (mn_iload _ _) <| am_fa (mn_aald _ _ _) <| am_fa (mn_iload _ _) <| am_fa (mn_ald _ _ _) <| am_fa (mn_icmp _ _ _) <| am_fa (mn_aload _ _) <| am_fa (mn_getP _ _ _) <| am_fa (mn_iload _ _) <| am_fa (mn_aald _ _ _) <| am_fa (mn_iload _ _) <| am_fa (mn_iload _ _) <| am_fa (mn_ast _ _ _) <| am_fa (mn_iinc _ _ _) <| am_fa (mn_goto _) <| am_fa (mn_iinc _ _ _) <| am_fa (mn_goto _) <| am_fa (mn_ret) <| am_f0
theorem mc_30 : ∀ x ∈ am_c30, am_mono x.2 :=
  am_fa (mn_iload _ _) <| am_fa (mn_iload _ _) <| am_fa (mn_icmp _ _ _) <| am_fa (mn_aload _ _) <| am_fa (mn_getP _ _ _) <| am_fa (mn_iload _ _) <| am_fa (mn_aald _ _ _) <| am_fa (mn_iload _ _) <| am_fa (mn_ald _ _ _) <| am_fa (mn_push _ _) <| am_fa (mn_icmp _ _ _) <| am_fa (mn_push _ _) <| am_fa (mn_iret) <| am_fa (mn_push _ _) <| am_fa (mn_istore _ _) <| am_fa (mn_iload _ _) <| am_fa (mn_push _ _) <| am_fa (mn_icmp _ _ _) <| am_fa (mn_aload _ _) <| am_fa (mn_getP _ _ _) <| am_fa (mn_iload _ _) <| am_fa (mn_aald _ _ _) <| am_fa (mn_iload _ _) <| am_fa (mn_ald _ _ _) <| am_fa (mn_aload _ _) <| am_fa (mn_getP _ _ _) <| am_fa (mn_iload _ _) <| am_fa (mn_aald _ _ _) <| am_fa (mn_iload _ _) <| am_fa (mn_ald _ _ _) <| am_fa (mn_bin _ _) <| am_fa (mn_aload _ _) <| am_fa (mn_getP _ _ _) <| am_fa (mn_iload _ _) <| am_fa (mn_aald _ _ _) <| am_fa (mn_iload _ _) <| am_fa (mn_ald _ _ _) <| am_fa (mn_icmp _ _ _) <| am_fa (mn_iload _ _) <| am_fa (mn_iret) <| am_fa (mn_iinc _ _ _) <| am_fa (mn_goto _) <| am_fa (mn_push _ _) <| am_fa (mn_iret) <| am_f0
theorem mc_31 : ∀ x ∈ am_c31, am_mono x.2 :=
  am_fa (mn_push _ _) <| am_fa (mn_istore _ _) <| am_fa (mn_push _ _) <| am_fa (mn_istore _ _) <| am_fa (mn_push _ _) <| am_fa (mn_istore _ _) <| am_fa (mn_push _ _) <| am_fa (mn_istore _ _) <| am_fa (mn_iload _ _) <| am_fa (mn_push _ _) <| am_fa (mn_icmp _ _ _) <| am_fa (mn_push _ _) <| am_fa (mn_istore _ _) <| am_fa (mn_iload _ _) <| am_fa (mn_push _ _) <| am_fa (mn_icmp _ _ _) <| am_fa (mn_aload _ _) <| am_fa (mn_iload _ _) <| am_fa (mn_aald _ _ _) <| am_fa (mn_ifnonnull _ _) <| am_fa (mn_null _) <| am_fa (mn_goto _) <| am_fa (mn_aload _ _) <| am_fa (mn_iload _ _) <| am_fa (mn_aald _ _ _) <| am_fa (mn_getP _ _ _) <| am_fa (mn_iload _ _) <| am_fa (mn_aald _ _ _) <| am_fa (mn_astore _ _) <| am_fa (mn_aload _ _) <| am_fa (mn_ifnull _ _) <| am_fa (mn_aload _ _) <| am_fa (mn_getP _ _ _) <| am_fa (mn_iload _ _) <| am_fa (mn_aald _ _ _) <| am_fa (mn_iload _ _) <| am_fa (mn_ald _ _ _) <| am_fa (mn_push _ _) <| am_fa (mn_icmp _ _ _) <| am_fa (mn_aload _ _) <| am_fa (mn_iload _ _) <| am_fa (mn_callV _ _ _ _) <| am_fa (mn_if _ _ _) <| am_fa (mn_goto _) <| am_fa (mn_aload _ _) <| am_fa (mn_getP _ _ _) <| am_fa (mn_iload _ _) <| am_fa (mn_aald _ _ _) <| am_fa (mn_iload _ _) <| am_fa (mn_ald _ _ _) <| am_fa (mn_aload _ _) <| am_fa (mn_getI _ _ _) <| am_fa (mn_bin _ _) <| am_fa (mn_istore _ _) <| am_fa (mn_aload _ _) <| am_fa (mn_getI _ _ _) <| am_fa (mn_iload _ _) <| am_fa (mn_icmp _ _ _) <| am_fa (mn_aload _ _) <| am_fa (mn_getI _ _ _) <| am_fa (mn_iload _ _) <| am_fa (mn_icmp _ _ _) <| am_fa (mn_iload _ _) <| am_fa (mn_iload _ _) <| am_fa (mn_icmp _ _ _) <| am_fa (mn_iload _ _) <| am_fa (mn_istore _ _) <| am_fa (mn_aload _ _) <| am_fa (mn_getI _ _ _) <| am_fa (mn_istore _ _) <| am_fa (mn_iload _ _) <| am_fa (mn_istore _ _) <| am_fa (mn_iinc _ _ _) <| am_fa (mn_goto _) <| am_fa (mn_iinc _ _ _) <| am_fa (mn_goto _) <| am_fa (mn_iload _ _) <| am_fa (mn_iret) <| am_f0
theorem mc_32 : ∀ x ∈ am_c32, am_mono x.2 :=
  am_fa (mn_aload _ _) <| am_fa (mn_oinit _) <| am_fa (mn_aload _ _) <| am_fa (mn_push _ _) <| am_fa (mn_newa _ _ _) <| am_fa (mn_putP _ _ _) <| am_fa (mn_push _ _) <| am_fa (mn_istore _ _) <| am_fa (mn_iload _ _) <| am_fa (mn_push _ _) <| am_fa (mn_icmp _ _ _) <| am_fa (mn_aload _ _) <| am_fa (mn_getP _ _ _) <| am_fa (mn_iload _ _) <| am_fa (mn_new _ _ _) <| am_fa (mn_dup _) <| am_fa (mn_iload _ _) <| am_fa (mn_callV _ _ _ _) <| am_fa (mn_aast _ _ _ _) <| am_fa (mn_iinc _ _ _) <| am_fa (mn_goto _) <| am_fa (mn_aload _ _) <| am_fa (mn_push _ _) <| am_fa (mn_newa _ _ _) <| am_fa (mn_putP _ _ _) <| am_fa (mn_push _ _) <| am_fa (mn_istore _ _) <| am_fa (mn_iload _ _) <| am_fa (mn_push _ _) <| am_fa (mn_icmp _ _ _) <| am_fa (mn_aload _ _) <| am_fa (mn_getP _ _ _) <| am_fa (mn_iload _ _) <| am_fa (mn_new _ _ _) <| am_fa (mn_dup _) <| am_fa (mn_callV _ _ _ _) <| am_fa (mn_aast _ _ _ _) <| am_fa (mn_iinc _ _ _) <| am_fa (mn_goto _) <| am_fa (mn_aload _ _) <| am_fa (mn_new _ _ _) <| am_fa (mn_dup _) <| am_fa (mn_callV _ _ _ _) <| am_fa (mn_putP _ _ _) <| am_fa (mn_aload _ _) <| am_fa (mn_push _ _) <| am_fa (mn_newa _ _ _) <| am_fa (mn_putP _ _ _) <| am_fa (mn_aload _ _) <| am_fa (mn_push _ _) <| am_fa (mn_putI _ _ _) <| am_fa (mn_ret) <| am_f0
theorem mc_33 : ∀ x ∈ am_c33, am_mono x.2 :=
  am_fa (mn_iload _ _) <| am_fa (mn_callS _ _ _) <| am_fa (mn_if _ _ _) <| am_fa (mn_iload _ _) <| am_fa (mn_callS _ _ _) <| am_fa (mn_if _ _ _) <| am_fa (mn_iload _ _) <| am_fa (mn_iload _ _) <| am_fa (mn_icmp _ _ _) <| am_fa (mn_iload _ _) <| am_fa (mn_if _ _ _) <| am_fa (mn_iload _ _) <| am_fa (mn_push _ _) <| am_fa (mn_icmp _ _ _) <| am_fa (mn_push _ _) <| am_fa (mn_zret) <| am_fa (mn_aload _ _) <| am_fa (mn_getP _ _ _) <| am_fa (mn_iload _ _) <| am_fa (mn_aald _ _ _) <| am_fa (mn_getP _ _ _) <| am_fa (mn_iload _ _) <| am_fa (mn_aald _ _ _) <| am_fa (mn_getI _ _ _) <| am_fa (mn_iload _ _) <| am_fa (mn_icmp _ _ _) <| am_fa (mn_push _ _) <| am_fa (mn_zret) <| am_fa (mn_aload _ _) <| am_fa (mn_getP _ _ _) <| am_fa (mn_iload _ _) <| am_fa (mn_aald _ _ _) <| am_fa (mn_getP _ _ _) <| am_fa (mn_iload _ _) <| am_fa (mn_aald _ _ _) <| am_fa (mn_iload _ _) <| am_fa (mn_callV _ _ _ _) <| am_fa (mn_aload _ _) <| am_fa (mn_getP _ _ _) <| am_fa (mn_iload _ _) <| am_fa (mn_aald _ _ _) <| am_fa (mn_getP _ _ _) <| am_fa (mn_iload _ _) <| am_fa (mn_aald _ _ _) <| am_fa (mn_iload _ _) <| am_fa (mn_callV _ _ _ _) <| am_fa (mn_push _ _) <| am_fa (mn_zret) <| am_f0
theorem mc_34 : ∀ x ∈ am_c34, am_mono x.2 :=
  am_fa (mn_iload _ _) <| am_fa (mn_callS _ _ _) <| am_fa (mn_if _ _ _) <| am_fa (mn_iload _ _) <| am_fa (mn_if _ _ _) <| am_fa (mn_iload _ _) <| am_fa (mn_push _ _) <| am_fa (mn_icmp _ _ _) <| am_fa (mn_iload _ _) <| am_fa (mn_iload _ _) <| am_fa (mn_callS _ _ _) <| am_fa (mn_if _ _ _) <| am_fa (mn_push _ _) <| am_fa (mn_zret) <| am_fa (mn_iload _ _) <| am_fa (mn_if _ _ _) <| am_fa (mn_iload _ _) <| am_fa (mn_push _ _) <| am_fa (mn_icmp _ _ _) <| am_fa (mn_push _ _) <| am_fa (mn_zret) <| am_fa (mn_aload _ _) <| am_fa (mn_getP _ _ _) <| am_fa (mn_iload _ _) <| am_fa (mn_aald _ _ _) <| am_fa (mn_getP _ _ _) <| am_fa (mn_iload _ _) <| am_fa (mn_iload _ _) <| am_fa (mn_if _ _ _) <| am_fa (mn_null _) <| am_fa (mn_goto _) <| am_fa (mn_new _ _ _) <| am_fa (mn_dup _) <| am_fa (mn_iload _ _) <| am_fa (mn_iload _ _) <| am_fa (mn_iload _ _) <| am_fa (mn_callV _ _ _ _) <| am_fa (mn_aast _ _ _ _) <| am_fa (mn_push _ _) <| am_fa (mn_zret) <| am_f0
theorem mc_35 : ∀ x ∈ am_c35, am_mono x.2 :=
  am_fa (mn_iload _ _) <| am_fa (mn_callS _ _ _) <| am_fa (mn_if _ _ _) <| am_fa (mn_aload _ _) <| am_fa (mn_getP _ _ _) <| am_fa (mn_iload _ _) <| am_fa (mn_aald _ _ _) <| am_fa (mn_getI _ _ _) <| am_fa (mn_iload _ _) <| am_fa (mn_icmp _ _ _) <| am_fa (mn_push _ _) <| am_fa (mn_zret) <| am_fa (mn_aload _ _) <| am_fa (mn_getP _ _ _) <| am_fa (mn_iload _ _) <| am_fa (mn_aald _ _ _) <| am_fa (mn_iload _ _) <| am_fa (mn_putZ _ _ _) <| am_fa (mn_iload _ _) <| am_fa (mn_if _ _ _) <| am_fa (mn_aload _ _) <| am_fa (mn_getP _ _ _) <| am_fa (mn_iload _ _) <| am_fa (mn_aald _ _ _) <| am_fa (mn_callV _ _ _ _) <| am_fa (mn_push _ _) <| am_fa (mn_zret) <| am_f0
theorem mc_36 : ∀ x ∈ am_c36, am_mono x.2 :=
  am_fa (mn_aload _ _) <| am_fa (mn_iload _ _) <| am_fa (mn_iload _ _) <| am_fa (mn_callV _ _ _ _) <| am_fa (mn_if _ _ _) <| am_fa (mn_iload _ _) <| am_fa (mn_if _ _ _) <| am_fa (mn_iload _ _) <| am_fa (mn_push _ _) <| am_fa (mn_icmp _ _ _) <| am_fa (mn_push _ _) <| am_fa (mn_zret) <| am_fa (mn_aload _ _) <| am_fa (mn_getP _ _ _) <| am_fa (mn_iload _ _) <| am_fa (mn_aald _ _ _) <| am_fa (mn_getP _ _ _) <| am_fa (mn_iload _ _) <| am_fa (mn_aald _ _ _) <| am_fa (mn_iload _ _) <| am_fa (mn_putI _ _ _) <| am_fa (mn_push _ _) <| am_fa (mn_zret) <| am_f0
theorem mc_37 : ∀ x ∈ am_c37, am_mono x.2 :=
  am_fa (mn_iload _ _) <| am_fa (mn_push _ _) <| am_fa (mn_icmp _ _ _) <| am_fa (mn_iload _ _) <| am_fa (mn_push _ _) <| am_fa (mn_icmp _ _ _) <| am_fa (mn_push _ _) <| am_fa (mn_zret) <| am_fa (mn_push _ _) <| am_fa (mn_istore _ _) <| am_fa (mn_iload _ _) <| am_fa (mn_iload _ _) <| am_fa (mn_icmp _ _ _) <| am_fa (mn_aload _ _) <| am_fa (mn_callV _ _ _ _) <| am_fa (mn_iinc _ _ _) <| am_fa (mn_goto _) <| am_fa (mn_push _ _) <| am_fa (mn_zret) <| am_f0
theorem mc_38 : ∀ x ∈ am_c38, am_mono x.2 :=
  am_fa (mn_aload _ _) <| am_fa (mn_iload _ _) <| am_fa (mn_iload _ _) <| am_fa (mn_callV _ _ _ _) <| am_fa (mn_if _ _ _) <| am_fa (mn_push _ _) <| am_fa (mn_iret) <| am_fa (mn_aload _ _) <| am_fa (mn_getP _ _ _) <| am_fa (mn_iload _ _) <| am_fa (mn_aald _ _ _) <| am_fa (mn_getP _ _ _) <| am_fa (mn_iload _ _) <| am_fa (mn_aald _ _ _) <| am_fa (mn_astore _ _) <| am_fa (mn_aload _ _) <| am_fa (mn_getI _ _ _) <| am_fa (mn_if _ _ _) <| am_fa (mn_push _ _) <| am_fa (mn_iret) <| am_fa (mn_aload _ _) <| am_fa (mn_getI _ _ _) <| am_fa (mn_if _ _ _) <| am_fa (mn_push _ _) <| am_fa (mn_goto _) <| am_fa (mn_push _ _) <| am_fa (mn_iret) <| am_f0
theorem mc_39 : ∀ x ∈ am_c39, am_mono x.2 :=
  am_fa (mn_iload _ _) <| am_fa (mn_callS _ _ _) <| am_fa (mn_if _ _ _) <| am_fa (mn_iload _ _) <| am_fa (mn_callS _ _ _) <| am_fa (mn_if _ _ _) <| am_fa (mn_push _ _) <| am_fa (mn_iret) <| am_fa (mn_aload _ _) <| am_fa (mn_getP _ _ _) <| am_fa (mn_iload _ _) <| am_fa (mn_aald _ _ _) <| am_fa (mn_getP _ _ _) <| am_fa (mn_iload _ _) <| am_fa (mn_aald _ _ _) <| am_fa (mn_astore _ _) <| am_fa (mn_aload _ _) <| am_fa (mn_ifnonnull _ _) <| am_fa (mn_push _ _) <| am_fa (mn_goto _) <| am_fa (mn_aload _ _) <| am_fa (mn_getI _ _ _) <| am_fa (mn_iret) <| am_f0
theorem mc_40 : ∀ x ∈ am_c40, am_mono x.2 :=
  am_fa (mn_iload _ _) <| am_fa (mn_callS _ _ _) <| am_fa (mn_if _ _ _) <| am_fa (mn_iload _ _) <| am_fa (mn_callS _ _ _) <| am_fa (mn_if _ _ _) <| am_fa (mn_push _ _) <| am_fa (mn_iret) <| am_fa (mn_aload _ _) <| am_fa (mn_getP _ _ _) <| am_fa (mn_iload _ _) <| am_fa (mn_aald _ _ _) <| am_fa (mn_getP _ _ _) <| am_fa (mn_iload _ _) <| am_fa (mn_aald _ _ _) <| am_fa (mn_astore _ _) <| am_fa (mn_aload _ _) <| am_fa (mn_ifnonnull _ _) <| am_fa (mn_push _ _) <| am_fa (mn_goto _) <| am_fa (mn_aload _ _) <| am_fa (mn_getI _ _ _) <| am_fa (mn_aload _ _) <| am_fa (mn_getI _ _ _) <| am_fa (mn_bin _ _) <| am_fa (mn_iret) <| am_f0
theorem mc_41 : ∀ x ∈ am_c41, am_mono x.2 :=
  am_fa (mn_iload _ _) <| am_fa (mn_callS _ _ _) <| am_fa (mn_if _ _ _) <| am_fa (mn_iload _ _) <| am_fa (mn_callS _ _ _) <| am_fa (mn_if _ _ _) <| am_fa (mn_iload _ _) <| am_fa (mn_callS _ _ _) <| am_fa (mn_if _ _ _) <| am_fa (mn_push _ _) <| am_fa (mn_iret) <| am_fa (mn_aload _ _) <| am_fa (mn_getP _ _ _) <| am_fa (mn_iload _ _) <| am_fa (mn_aald _ _ _) <| am_fa (mn_getP _ _ _) <| am_fa (mn_iload _ _) <| am_fa (mn_aald _ _ _) <| am_fa (mn_astore _ _) <| am_fa (mn_aload _ _) <| am_fa (mn_ifnonnull _ _) <| am_fa (mn_push _ _) <| am_fa (mn_goto _) <| am_fa (mn_aload _ _) <| am_fa (mn_getP _ _ _) <| am_fa (mn_iload _ _) <| am_fa (mn_ald _ _ _) <| am_fa (mn_iret) <| am_f0
theorem mc_42 : ∀ x ∈ am_c42, am_mono x.2 :=
  am_fa (mn_aload _ _) <| am_fa (mn_iload _ _) <| am_fa (mn_iload _ _) <| am_fa (mn_callV _ _ _ _) <| am_fa (mn_if _ _ _) <| am_fa (mn_push _ _) <| am_fa (mn_iret) <| am_fa (mn_aload _ _) <| am_fa (mn_getP _ _ _) <| am_fa (mn_iload _ _) <| am_fa (mn_aald _ _ _) <| am_fa (mn_getP _ _ _) <| am_fa (mn_iload _ _) <| am_fa (mn_aald _ _ _) <| am_fa (mn_astore _ _) <| am_fa (mn_push _ _) <| am_fa (mn_istore _ _) <| am_fa (mn_push _ _) <| am_fa (mn_istore _ _) <| am_fa (mn_iload _ _) <| am_fa (mn_push _ _) <| am_fa (mn_icmp _ _ _) <| am_fa (mn_aload _ _) <| am_fa (mn_getP _ _ _) <| am_fa (mn_iload _ _) <| am_fa (mn_ald _ _ _) <| am_fa (mn_push _ _) <| am_fa (mn_icmp _ _ _) <| am_fa (mn_iinc _ _ _) <| am_fa (mn_iinc _ _ _) <| am_fa (mn_goto _) <| am_fa (mn_iload _ _) <| am_fa (mn_iret) <| am_f0
theorem mc_43 : ∀ x ∈ am_c43, am_mono x.2 :=
  am_fa (mn_aload _ _) <| am_fa (mn_iload _ _) <| am_fa (mn_callV _ _ _ _) <| am_fa (mn_if _ _ _) <| am_fa (mn_iload _ _) <| am_fa (mn_callS _ _ _) <| am_fa (mn_if _ _ _) <| am_fa (mn_push _ _) <| am_fa (mn_iret) <| am_fa (mn_aload _ _) <| am_fa (mn_getP _ _ _) <| am_fa (mn_aload _ _) <| am_fa (mn_getP _ _ _) <| am_fa (mn_iload _ _) <| am_fa (mn_aald _ _ _) <| am_fa (mn_getP _ _ _) <| am_fa (mn_callV _ _ _ _) <| am_fa (mn_aload _ _) <| am_fa (mn_getP _ _ _) <| am_fa (mn_getP _ _ _) <| am_fa (mn_iload _ _) <| am_fa (mn_aald _ _ _) <| am_fa (mn_iload _ _) <| am_fa (mn_ald _ _ _) <| am_fa (mn_push _ _) <| am_fa (mn_icmp _ _ _) <| am_fa (mn_push _ _) <| am_fa (mn_goto _) <| am_fa (mn_aload _ _) <| am_fa (mn_getP _ _ _) <| am_fa (mn_getP _ _ _) <| am_fa (mn_iload _ _) <| am_fa (mn_aald _ _ _) <| am_fa (mn_iload _ _) <| am_fa (mn_ald _ _ _) <| am_fa (mn_iret) <| am_f0
theorem mc_44 : ∀ x ∈ am_c44, am_mono x.2 :=
  am_fa (mn_aload _ _) <| am_fa (mn_iload _ _) <| am_fa (mn_callV _ _ _ _) <| am_fa (mn_if _ _ _) <| am_fa (mn_iload _ _) <| am_fa (mn_callS _ _ _) <| am_fa (mn_if _ _ _) <| am_fa (mn_push _ _) <| am_fa (mn_iret) <| am_fa (mn_aload _ _) <| am_fa (mn_getP _ _ _) <| am_fa (mn_aload _ _) <| am_fa (mn_getP _ _ _) <| am_fa (mn_iload _ _) <| am_fa (mn_aald _ _ _) <| am_fa (mn_getP _ _ _) <| am_fa (mn_callV _ _ _ _) <| am_fa (mn_aload _ _) <| am_fa (mn_getP _ _ _) <| am_fa (mn_iload _ _) <| am_fa (mn_iload _ _) <| am_fa (mn_callV _ _ _ _) <| am_fa (mn_iret) <| am_f0
theorem mc_45 : ∀ x ∈ am_c45, am_mono x.2 :=
  am_fa (mn_aload _ _) <| am_fa (mn_iload _ _) <| am_fa (mn_callV _ _ _ _) <| am_fa (mn_if _ _ _) <| am_fa (mn_iload _ _) <| am_fa (mn_callS _ _ _) <| am_fa (mn_if _ _ _) <| am_fa (mn_push _ _) <| am_fa (mn_iret) <| am_fa (mn_aload _ _) <| am_fa (mn_getP _ _ _) <| am_fa (mn_aload _ _) <| am_fa (mn_getP _ _ _) <| am_fa (mn_iload _ _) <| am_fa (mn_aald _ _ _) <| am_fa (mn_getP _ _ _) <| am_fa (mn_callV _ _ _ _) <| am_fa (mn_aload _ _) <| am_fa (mn_getP _ _ _) <| am_fa (mn_iload _ _) <| am_fa (mn_iload _ _) <| am_fa (mn_aload _ _) <| am_fa (mn_getP _ _ _) <| am_fa (mn_iload _ _) <| am_fa (mn_aald _ _ _) <| am_fa (mn_getP _ _ _) <| am_fa (mn_callV _ _ _ _) <| am_fa (mn_iret) <| am_f0
theorem mc_46 : ∀ x ∈ am_c46, am_mono x.2 :=
  am_fa (mn_aload _ _) <| am_fa (mn_iload _ _) <| am_fa (mn_callV _ _ _ _) <| am_fa (mn_if _ _ _) <| am_fa (mn_iload _ _) <| am_fa (mn_callS _ _ _) <| am_fa (mn_if _ _ _) <| am_fa (mn_iload _ _) <| am_fa (mn_push _ _) <| am_fa (mn_icmp _ _ _) <| am_fa (mn_iload _ _) <| am_fa (mn_push _ _) <| am_fa (mn_icmp _ _ _) <| am_fa (mn_push _ _) <| am_fa (mn_iret) <| am_fa (mn_iload _ _) <| am_fa (mn_istore _ _) <| am_fa (mn_iload _ _) <| am_fa (mn_istore _ _) <| am_fa (mn_iload _ _) <| am_fa (mn_push _ _) <| am_fa (mn_icmp _ _ _) <| am_fa (mn_aload _ _) <| am_fa (mn_getP _ _ _) <| am_fa (mn_aload _ _) <| am_fa (mn_getP _ _ _) <| am_fa (mn_iload _ _) <| am_fa (mn_aald _ _ _) <| am_fa (mn_getP _ _ _) <| am_fa (mn_callV _ _ _ _) <| am_fa (mn_aload _ _) <| am_fa (mn_getP _ _ _) <| am_fa (mn_iload _ _) <| am_fa (mn_iload _ _) <| am_fa (mn_aload _ _) <| am_fa (mn_getP _ _ _) <| am_fa (mn_iload _ _) <| am_fa (mn_aald _ _ _) <| am_fa (mn_getP _ _ _) <| am_fa (mn_callV _ _ _ _) <| am_fa (mn_istore _ _) <| am_fa (mn_iload _ _) <| am_fa (mn_push _ _) <| am_fa (mn_icmp _ _ _) <| am_fa (mn_push _ _) <| am_fa (mn_iload _ _) <| am_fa (mn_bin _ _) <| am_fa (mn_iret) <| am_fa (mn_iload _ _) <| am_fa (mn_iload _ _) <| am_fa (mn_icmp _ _ _) <| am_fa (mn_push _ _) <| am_fa (mn_iload _ _) <| am_fa (mn_bin _ _) <| am_fa (mn_iret) <| am_fa (mn_iload _ _) <| am_fa (mn_push _ _) <| am_fa (mn_icmp _ _ _) <| am_fa (mn_aload _ _) <| am_fa (mn_getP _ _ _) <| am_fa (mn_iload _ _) <| am_fa (mn_iload _ _) <| am_fa (mn_callV _ _ _ _) <| am_fa (mn_istore _ _) <| am_fa (mn_aload _ _) <| am_fa (mn_iload _ _) <| am_fa (mn_iload _ _) <| am_fa (mn_callV _ _ _ _) <| am_fa (mn_if _ _ _) <| am_fa (mn_aload _ _) <| am_fa (mn_iload _ _) <| am_fa (mn_callV _ _ _ _) <| am_fa (mn_if _ _ _) <| am_fa (mn_push _ _) <| am_fa (mn_iload _ _) <| am_fa (mn_bin _ _) <| am_fa (mn_iret) <| am_fa (mn_iload _ _) <| am_fa (mn_istore _ _) <| am_fa (mn_iinc _ _ _) <| am_fa (mn_goto _) <| am_fa (mn_push _ _) <| am_fa (mn_iload _ _) <| am_fa (mn_bin _ _) <| am_fa (mn_iret) <| am_f0
theorem mc_47 : ∀ x ∈ am_c47, am_mono x.2 :=
  am_fa (mn_iload _ _) <| am_fa (mn_if _ _ _) <| am_fa (mn_iload _ _) <| am_fa (mn_push _ _) <| am_fa (mn_icmp _ _ _) <| am_fa (mn_push _ _) <| am_fa (mn_goto _) <| am_fa (mn_aload _ _) <| am_fa (mn_getP _ _ _) <| am_fa (mn_iload _ _) <| am_fa (mn_ald _ _ _) <| am_fa (mn_iret) <| am_f0
theorem mc_48 : ∀ x ∈ am_c48, am_mono x.2 :=
  am_fa (mn_iload _ _) <| am_fa (mn_if _ _ _) <| am_fa (mn_iload _ _) <| am_fa (mn_push _ _) <| am_fa (mn_icmp _ _ _) <| am_fa (mn_push _ _) <| am_fa (mn_goto _) <| am_fa (mn_push _ _) <| am_fa (mn_zret) <| am_f0
theorem mc_49 : ∀ x ∈ am_c49, am_mono x.2 :=
  am_fa (mn_iload _ _) <| am_fa (mn_if _ _ _) <| am_fa (mn_iload _ _) <| am_fa (mn_push _ _) <| am_fa (mn_icmp _ _ _) <| am_fa (mn_push _ _) <| am_fa (mn_goto _) <| am_fa (mn_push _ _) <| am_fa (mn_zret) <| am_f0
theorem mc_50 : ∀ x ∈ am_c50, am_mono x.2 :=
  am_fa (mn_iload _ _) <| am_fa (mn_callS _ _ _) <| am_fa (mn_if _ _ _) <| am_fa (mn_iload _ _) <| am_fa (mn_if _ _ _) <| am_fa (mn_iload _ _) <| am_fa (mn_push _ _) <| am_fa (mn_icmp _ _ _) <| am_fa (mn_push _ _) <| am_fa (mn_zret) <| am_fa (mn_push _ _) <| am_fa (mn_push _ _) <| am_fa (mn_iload _ _) <| am_fa (mn_bin _ _) <| am_fa (mn_bin _ _) <| am_fa (mn_push _ _) <| am_fa (mn_bin _ _) <| am_fa (mn_istore _ _) <| am_fa (mn_iload _ _) <| am_fa (mn_iload _ _) <| am_fa (mn_bin _ _) <| am_fa (mn_if _ _ _) <| am_fa (mn_push _ _) <| am_fa (mn_goto _) <| am_fa (mn_push _ _) <| am_fa (mn_zret) <| am_f0
theorem mc_51 : ∀ x ∈ am_c51, am_mono x.2 :=
  am_fa (mn_iload _ _) <| am_fa (mn_callS _ _ _) <| am_fa (mn_if _ _ _) <| am_fa (mn_aload _ _) <| am_fa (mn_getP _ _ _) <| am_fa (mn_iload _ _) <| am_fa (mn_aald _ _ _) <| am_fa (mn_getI _ _ _) <| am_fa (mn_if _ _ _) <| am_fa (mn_push _ _) <| am_fa (mn_goto _) <| am_fa (mn_push _ _) <| am_fa (mn_zret) <| am_f0
theorem mc_52 : ∀ x ∈ am_c52, am_mono x.2 :=
  am_fa (mn_iload _ _) <| am_fa (mn_callS _ _ _) <| am_fa (mn_if _ _ _) <| am_fa (mn_iload _ _) <| am_fa (mn_callS _ _ _) <| am_fa (mn_if _ _ _) <| am_fa (mn_aload _ _) <| am_fa (mn_getP _ _ _) <| am_fa (mn_iload _ _) <| am_fa (mn_aald _ _ _) <| am_fa (mn_getP _ _ _) <| am_fa (mn_iload _ _) <| am_fa (mn_aald _ _ _) <| am_fa (mn_getI _ _ _) <| am_fa (mn_if _ _ _) <| am_fa (mn_push _ _) <| am_fa (mn_goto _) <| am_fa (mn_push _ _) <| am_fa (mn_zret) <| am_f0
theorem mc_53 : ∀ x ∈ am_c53, am_mono x.2 :=
  am_fa (mn_aload _ _) <| am_fa (mn_dup _) <| am_fa (mn_getI _ _ _) <| am_fa (mn_push _ _) <| am_fa (mn_bin _ _) <| am_fa (mn_putI _ _ _) <| am_fa (mn_aload _ _) <| am_fa (mn_callV _ _ _ _) <| am_fa (mn_aload _ _) <| am_fa (mn_getI _ _ _) <| am_fa (mn_push _ _) <| am_fa (mn_div _ _) <| am_fa (mn_if _ _ _) <| am_fa (mn_aload _ _) <| am_fa (mn_callV _ _ _ _) <| am_fa (mn_aload _ _) <| am_fa (mn_callV _ _ _ _) <| am_fa (mn_aload _ _) <| am_fa (mn_callV _ _ _ _) <| am_fa (mn_aload _ _) <| am_fa (mn_callV _ _ _ _) <| am_fa (mn_aload _ _) <| am_fa (mn_callV _ _ _ _) <| am_fa (mn_ret) <| am_f0
theorem mc_54 : ∀ x ∈ am_c54, am_mono x.2 :=
  am_fa (mn_aload _ _) <| am_fa (mn_getP _ _ _) <| am_fa (mn_iload _ _) <| am_fa (mn_aald _ _ _) <| am_fa (mn_getP _ _ _) <| am_fa (mn_iload _ _) <| am_fa (mn_aald _ _ _) <| am_fa (mn_astore _ _) <| am_fa (mn_aload _ _) <| am_fa (mn_getI _ _ _) <| am_fa (mn_if _ _ _) <| am_fa (mn_aload _ _) <| am_fa (mn_dup _) <| am_fa (mn_getI _ _ _) <| am_fa (mn_push _ _) <| am_fa (mn_bin _ _) <| am_fa (mn_putI _ _ _) <| am_fa (mn_aload _ _) <| am_fa (mn_getP _ _ _) <| am_fa (mn_push _ _) <| am_fa (mn_dup2 _) <| am_fa (mn_ald _ _ _) <| am_fa (mn_push _ _) <| am_fa (mn_bin _ _) <| am_fa (mn_ast _ _ _) <| am_fa (mn_push _ _) <| am_fa (mn_zret) <| am_fa (mn_aload _ _) <| am_fa (mn_getP _ _ _) <| am_fa (mn_iload _ _) <| am_fa (mn_aald _ _ _) <| am_fa (mn_getI _ _ _) <| am_fa (mn_if _ _ _) <| am_fa (mn_aload _ _) <| am_fa (mn_getP _ _ _) <| am_fa (mn_push _ _) <| am_fa (mn_dup2 _) <| am_fa (mn_ald _ _ _) <| am_fa (mn_push _ _) <| am_fa (mn_bin _ _) <| am_fa (mn_ast _ _ _) <| am_fa (mn_push _ _) <| am_fa (mn_zret) <| am_fa (mn_push _ _) <| am_fa (mn_zret) <| am_f0
theorem mc_55 : ∀ x ∈ am_c55, am_mono x.2 :=
  am_fa (mn_push _ _) <| am_fa (mn_istore _ _) <| am_fa (mn_iload _ _) <| am_fa (mn_push _ _) <| am_fa (mn_icmp _ _ _) <| am_fa (mn_push _ _) <| am_fa (mn_istore _ _) <| am_fa (mn_iload _ _) <| am_fa (mn_push _ _) <| am_fa (mn_icmp _ _ _) <| am_fa (mn_aload _ _) <| am_fa (mn_getP _ _ _) <| am_fa (mn_iload _ _) <| am_fa (mn_aald _ _ _) <| am_fa (mn_getP _ _ _) <| am_fa (mn_iload _ _) <| am_fa (mn_aald _ _ _) <| am_fa (mn_astore _ _) <| am_fa (mn_aload _ _) <| am_fa (mn_ifnull _ _) <| am_fa (mn_aload _ _) <| am_fa (mn_getI _ _ _) <| am_fa (mn_aload _ _) <| am_fa (mn_getI _ _ _) <| am_fa (mn_push _ _) <| am_fa (mn_bin _ _) <| am_fa (mn_icmp _ _ _) <| am_fa (mn_aload _ _) <| am_fa (mn_getP _ _ _) <| am_fa (mn_iload _ _) <| am_fa (mn_aald _ _ _) <| am_fa (mn_iload _ _) <| am_fa (mn_callV _ _ _ _) <| am_fa (mn_iinc _ _ _) <| am_fa (mn_goto _) <| am_fa (mn_iinc _ _ _) <| am_fa (mn_goto _) <| am_fa (mn_ret) <| am_f0
theorem mc_56 : ∀ x ∈ am_c56, am_mono x.2 :=
  am_fa (mn_push _ _) <| am_fa (mn_istore _ _) <| am_fa (mn_iload _ _) <| am_fa (mn_push _ _) <| am_fa (mn_icmp _ _ _) <| am_fa (mn_aload _ _) <| am_fa (mn_getP _ _ _) <| am_fa (mn_iload _ _) <| am_fa (mn_aald _ _ _) <| am_fa (mn_callV _ _ _ _) <| am_fa (mn_iinc _ _ _) <| am_fa (mn_goto _) <| am_fa (mn_push _ _) <| am_fa (mn_istore _ _) <| am_fa (mn_iload _ _) <| am_fa (mn_push _ _) <| am_fa (mn_icmp _ _ _) <| am_fa (mn_push _ _) <| am_fa (mn_istore _ _) <| am_fa (mn_iload _ _) <| am_fa (mn_push _ _) <| am_fa (mn_icmp _ _ _) <| am_fa (mn_aload _ _) <| am_fa (mn_getP _ _ _) <| am_fa (mn_iload _ _) <| am_fa (mn_aald _ _ _) <| am_fa (mn_getI _ _ _) <| am_fa (mn_if _ _ _) <| am_fa (mn_aload _ _) <| am_fa (mn_iload _ _) <| am_fa (mn_iload _ _) <| am_fa (mn_callV _ _ _ _) <| am_fa (mn_if _ _ _) <| am_fa (mn_aload _ _) <| am_fa (mn_iload _ _) <| am_fa (mn_iload _ _) <| am_fa (mn_callV _ _ _ _) <| am_fa (mn_iinc _ _ _) <| am_fa (mn_goto _) <| am_fa (mn_iinc _ _ _) <| am_fa (mn_goto _) <| am_fa (mn_ret) <| am_f0
theorem mc_57 : ∀ x ∈ am_c57, am_mono x.2 :=
  am_fa (mn_aload _ _) <| am_fa (mn_getP _ _ _) <| am_fa (mn_push _ _) <| am_fa (mn_dup2 _) <| am_fa (mn_ald _ _ _) <| am_fa (mn_push _ _) <| am_fa (mn_bin _ _) <| am_fa (mn_ast _ _ _) <| am_fa (mn_aload _ _) <| am_fa (mn_iload _ _) <| am_fa (mn_iload _ _) <| am_fa (mn_callV _ _ _ _) <| am_fa (mn_if _ _ _) <| am_fa (mn_aload _ _) <| am_fa (mn_getP _ _ _) <| am_fa (mn_iload _ _) <| am_fa (mn_aald _ _ _) <| am_fa (mn_getP _ _ _) <| am_fa (mn_iload _ _) <| am_fa (mn_aald _ _ _) <| am_fa (mn_astore _ _) <| am_fa (mn_aload _ _) <| am_fa (mn_push _ _) <| am_fa (mn_putZ _ _ _) <| am_fa (mn_aload _ _) <| am_fa (mn_aload _ _) <| am_fa (mn_getI _ _ _) <| am_fa (mn_putI _ _ _) <| am_fa (mn_aload _ _) <| am_fa (mn_aload _ _) <| am_fa (mn_getP _ _ _) <| am_fa (mn_iload _ _) <| am_fa (mn_aald _ _ _) <| am_fa (mn_getP _ _ _) <| am_fa (mn_iload _ _) <| am_fa (mn_aald _ _ _) <| am_fa (mn_getI _ _ _) <| am_fa (mn_putZ _ _ _) <| am_fa (mn_ret) <| am_f0
theorem mc_58 : ∀ x ∈ am_c58, am_mono x.2 :=
  am_fa (mn_push _ _) <| am_fa (mn_istore _ _) <| am_fa (mn_iload _ _) <| am_fa (mn_push _ _) <| am_fa (mn_icmp _ _ _) <| am_fa (mn_push _ _) <| am_fa (mn_istore _ _) <| am_fa (mn_iload _ _) <| am_fa (mn_push _ _) <| am_fa (mn_icmp _ _ _) <| am_fa (mn_aload _ _) <| am_fa (mn_getP _ _ _) <| am_fa (mn_iload _ _) <| am_fa (mn_aald _ _ _) <| am_fa (mn_getP _ _ _) <| am_fa (mn_iload _ _) <| am_fa (mn_aald _ _ _) <| am_fa (mn_aload _ _) <| am_fa (mn_getI _ _ _) <| am_fa (mn_callV _ _ _ _) <| am_fa (mn_iinc _ _ _) <| am_fa (mn_goto _) <| am_fa (mn_iinc _ _ _) <| am_fa (mn_goto _) <| am_fa (mn_push _ _) <| am_fa (mn_istore _ _) <| am_fa (mn_iload _ _) <| am_fa (mn_push _ _) <| am_fa (mn_icmp _ _ _) <| am_fa (mn_push _ _) <| am_fa (mn_istore _ _) <| am_fa (mn_iload _ _) <| am_fa (mn_push _ _) <| am_fa (mn_icmp _ _ _) <| am_fa (mn_aload _ _) <| am_fa (mn_getP _ _ _) <| am_fa (mn_iload _ _) <| am_fa (mn_aald _ _ _) <| am_fa (mn_getP _ _ _) <| am_fa (mn_iload _ _) <| am_fa (mn_aald _ _ _) <| am_fa (mn_getI _ _ _) <| am_fa (mn_if _ _ _) <| am_fa (mn_aload _ _) <| am_fa (mn_iload _ _) <| am_fa (mn_iload _ _) <| am_fa (mn_callV _ _ _ _) <| am_fa (mn_aload _ _) <| am_fa (mn_getP _ _ _) <| am_fa (mn_iload _ _) <| am_fa (mn_aald _ _ _) <| am_fa (mn_getP _ _ _) <| am_fa (mn_iload _ _) <| am_fa (mn_aald _ _ _) <| am_fa (mn_getI _ _ _) <| am_fa (mn_if _ _ _) <| am_fa (mn_aload _ _) <| am_fa (mn_iload _ _) <| am_fa (mn_iload _ _) <| am_fa (mn_callV _ _ _ _) <| am_fa (mn_iinc _ _ _) <| am_fa (mn_goto _) <| am_fa (mn_iinc _ _ _) <| am_fa (mn_goto _) <| am_fa (mn_ret) <| am_f0
theorem mc_59 : ∀ x ∈ am_c59, am_mono x.2 :=
  am_fa (mn_push _ _) <| am_fa (mn_istore _ _) <| am_fa (mn_iload _ _) <| am_fa (mn_push _ _) <| am_fa (mn_icmp _ _ _) <| am_fa (mn_aload _ _) <| am_fa (mn_getP _ _ _) <| am_fa (mn_iload _ _) <| am_fa (mn_aald _ _ _) <| am_fa (mn_getP _ _ _) <| am_fa (mn_iload _ _) <| am_fa (mn_aald _ _ _) <| am_fa (mn_astore _ _) <| am_fa (mn_aload _ _) <| am_fa (mn_getP _ _ _) <| am_fa (mn_iload _ _) <| am_fa (mn_aald _ _ _) <| am_fa (mn_getP _ _ _) <| am_fa (mn_iload _ _) <| am_fa (mn_aald _ _ _) <| am_fa (mn_astore _ _) <| am_fa (mn_aload _ _) <| am_fa (mn_ifnull _ _) <| am_fa (mn_aload _ _) <| am_fa (mn_ifnull _ _) <| am_fa (mn_aload _ _) <| am_fa (mn_aload _ _) <| am_fa (mn_callV _ _ _ _) <| am_fa (mn_if _ _ _) <| am_fa (mn_aload _ _) <| am_fa (mn_getP _ _ _) <| am_fa (mn_iload _ _) <| am_fa (mn_aald _ _ _) <| am_fa (mn_getP _ _ _) <| am_fa (mn_iload _ _) <| am_fa (mn_aald _ _ _) <| am_fa (mn_iload _ _) <| am_fa (mn_callV _ _ _ _) <| am_fa (mn_iinc _ _ _) <| am_fa (mn_goto _) <| am_fa (mn_ret) <| am_f0
theorem mc_60 : ∀ x ∈ am_c60, am_mono x.2 :=
  am_fa (mn_push _ _) <| am_fa (mn_istore _ _) <| am_fa (mn_iload _ _) <| am_fa (mn_push _ _) <| am_fa (mn_icmp _ _ _) <| am_fa (mn_aload _ _) <| am_fa (mn_getP _ _ _) <| am_fa (mn_iload _ _) <| am_fa (mn_aald _ _ _) <| am_fa (mn_getI _ _ _) <| am_fa (mn_if _ _ _) <| am_fa (mn_aload _ _) <| am_fa (mn_getP _ _ _) <| am_fa (mn_iload _ _) <| am_fa (mn_aald _ _ _) <| am_fa (mn_aload _ _) <| am_fa (mn_getI _ _ _) <| am_fa (mn_callV _ _ _ _) <| am_fa (mn_if _ _ _) <| am_fa (mn_aload _ _) <| am_fa (mn_getP _ _ _) <| am_fa (mn_iload _ _) <| am_fa (mn_aald _ _ _) <| am_fa (mn_aload _ _) <| am_fa (mn_getI _ _ _) <| am_fa (mn_callV _ _ _ _) <| am_fa (mn_aload _ _) <| am_fa (mn_getP _ _ _) <| am_fa (mn_push _ _) <| am_fa (mn_dup2 _) <| am_fa (mn_ald _ _ _) <| am_fa (mn_push _ _) <| am_fa (mn_bin _ _) <| am_fa (mn_ast _ _ _) <| am_fa (mn_iinc _ _ _) <| am_fa (mn_goto _) <| am_fa (mn_ret) <| am_f0
theorem mc_61 : ∀ x ∈ am_c61, am_mono x.2 :=
  am_fa (mn_push _ _) <| am_fa (mn_istore _ _) <| am_fa (mn_iload _ _) <| am_fa (mn_push _ _) <| am_fa (mn_icmp _ _ _) <| am_fa (mn_push _ _) <| am_fa (mn_istore _ _) <| am_fa (mn_iload _ _) <| am_fa (mn_push _ _) <| am_fa (mn_icmp _ _ _) <| am_fa (mn_aload _ _) <| am_fa (mn_getP _ _ _) <| am_fa (mn_iload _ _) <| am_fa (mn_push _ _) <| am_fa (mn_bin _ _) <| am_fa (mn_iload _ _) <| am_fa (mn_bin _ _) <| am_fa (mn_aald _ _ _) <| am_fa (mn_astore _ _) <| am_fa (mn_aload _ _) <| am_fa (mn_aload _ _) <| am_fa (mn_getP _ _ _) <| am_fa (mn_iload _ _) <| am_fa (mn_aald _ _ _) <| am_fa (mn_getP _ _ _) <| am_fa (mn_aload _ _) <| am_fa (mn_getP _ _ _) <| am_fa (mn_iload _ _) <| am_fa (mn_aald _ _ _) <| am_fa (mn_getP _ _ _) <| am_fa (mn_iload _ _) <| am_fa (mn_aald _ _ _) <| am_fa (mn_getP _ _ _) <| am_fa (mn_aload _ _) <| am_fa (mn_getI _ _ _) <| am_fa (mn_callV _ _ _ _) <| am_fa (mn_istore _ _) <| am_fa (mn_aload _ _) <| am_fa (mn_push _ _) <| am_fa (mn_putZ _ _ _) <| am_fa (mn_iload _ _) <| am_fa (mn_if _ _ _) <| am_fa (mn_aload _ _) <| am_fa (mn_getP _ _ _) <| am_fa (mn_push _ _) <| am_fa (mn_dup2 _) <| am_fa (mn_ald _ _ _) <| am_fa (mn_push _ _) <| am_fa (mn_bin _ _) <| am_fa (mn_ast _ _ _) <| am_fa (mn_aload _ _) <| am_fa (mn_getP _ _ _) <| am_fa (mn_push _ _) <| am_fa (mn_dup2 _) <| am_fa (mn_ald _ _ _) <| am_fa (mn_iload _ _) <| am_fa (mn_bin _ _) <| am_fa (mn_ast _ _ _) <| am_fa (mn_aload _ _) <| am_fa (mn_aload _ _) <| am_fa (mn_iload _ _) <| am_fa (mn_iload _ _) <| am_fa (mn_callV _ _ _ _) <| am_fa (mn_putZ _ _ _) <| am_fa (mn_iinc _ _ _) <| am_fa (mn_goto _) <| am_fa (mn_iinc _ _ _) <| am_fa (mn_goto _) <| am_fa (mn_ret) <| am_f0
theorem mc_62 : ∀ x ∈ am_c62, am_mono x.2 :=
  am_fa (mn_push _ _) <| am_fa (mn_istore _ _) <| am_fa (mn_iload _ _) <| am_fa (mn_push _ _) <| am_fa (mn_icmp _ _ _) <| am_fa (mn_push _ _) <| am_fa (mn_istore _ _) <| am_fa (mn_iload _ _) <| am_fa (mn_push _ _) <| am_fa (mn_icmp _ _ _) <| am_fa (mn_aload _ _) <| am_fa (mn_getP _ _ _) <| am_fa (mn_iload _ _) <| am_fa (mn_push _ _) <| am_fa (mn_bin _ _) <| am_fa (mn_iload _ _) <| am_fa (mn_bin _ _) <| am_fa (mn_aald _ _ _) <| am_fa (mn_astore _ _) <| am_fa (mn_aload _ _) <| am_fa (mn_getI _ _ _) <| am_fa (mn_if _ _ _) <| am_fa (mn_aload _ _) <| am_fa (mn_getP _ _ _) <| am_fa (mn_iload _ _) <| am_fa (mn_aald _ _ _) <| am_fa (mn_getP _ _ _) <| am_fa (mn_iload _ _) <| am_fa (mn_aald _ _ _) <| am_fa (mn_getI _ _ _) <| am_fa (mn_if _ _ _) <| am_fa (mn_aload _ _) <| am_fa (mn_aload _ _) <| am_fa (mn_iload _ _) <| am_fa (mn_iload _ _) <| am_fa (mn_callV _ _ _ _) <| am_fa (mn_iinc _ _ _) <| am_fa (mn_goto _) <| am_fa (mn_iinc _ _ _) <| am_fa (mn_goto _) <| am_fa (mn_ret) <| am_f0
theorem mc_63 : ∀ x ∈ am_c63, am_mono x.2 :=
  am_fa (mn_push _ _) <| am_fa (mn_istore _ _) <| am_fa (mn_push _ _) <| am_fa (mn_istore _ _) <| am_fa (mn_iload _ _) <| am_fa (mn_push _ _) <| am_fa (mn_icmp _ _ _) <| am_fa (mn_aload _ _) <| am_fa (mn_getP _ _ _) <| am_fa (mn_iload _ _) <| am_fa (mn_aald _ _ _) <| am_fa (mn_astore _ _) <| am_fa (mn_aload _ _) <| am_fa (mn_ifnull _ _) <| am_fa (mn_aload _ _) <| am_fa (mn_aload _ _) <| am_fa (mn_iload _ _) <| am_fa (mn_iload _ _) <| am_fa (mn_callV _ _ _ _) <| am_fa (mn_if _ _ _) <| am_fa (mn_aload _ _) <| am_fa (mn_getP _ _ _) <| am_fa (mn_iload _ _) <| am_fa (mn_push _ _) <| am_fa (mn_zast _ _ _) <| am_fa (mn_push _ _) <| am_fa (mn_istore _ _) <| am_fa (mn_iinc _ _ _) <| am_fa (mn_goto _) <| am_fa (mn_iload _ _) <| am_fa (mn_if _ _ _) <| am_fa (mn_aload _ _) <| am_fa (mn_aload _ _) <| am_fa (mn_iload _ _) <| am_fa (mn_iload _ _) <| am_fa (mn_callV _ _ _ _) <| am_fa (mn_ret) <| am_f0
theorem mc_64 : ∀ x ∈ am_c64, am_mono x.2 :=
  am_fa (mn_aload _ _) <| am_fa (mn_getP _ _ _) <| am_fa (mn_iload _ _) <| am_fa (mn_aald _ _ _) <| am_fa (mn_astore _ _) <| am_fa (mn_aload _ _) <| am_fa (mn_getI _ _ _) <| am_fa (mn_istore _ _) <| am_fa (mn_aload _ _) <| am_fa (mn_getP _ _ _) <| am_fa (mn_iload _ _) <| am_fa (mn_aald _ _ _) <| am_fa (mn_astore _ _) <| am_fa (mn_aload _ _) <| am_fa (mn_ifnull _ _) <| am_fa (mn_aload _ _) <| am_fa (mn_aload _ _) <| am_fa (mn_callV _ _ _ _) <| am_fa (mn_if _ _ _) <| am_fa (mn_iload _ _) <| am_fa (mn_iload _ _) <| am_fa (mn_icmp _ _ _) <| am_fa (mn_aload _ _) <| am_fa (mn_aload _ _) <| am_fa (mn_getI _ _ _) <| am_fa (mn_callV _ _ _ _) <| am_fa (mn_goto _) <| am_fa (mn_aload _ _) <| am_fa (mn_aload _ _) <| am_fa (mn_iload _ _) <| am_fa (mn_callV _ _ _ _) <| am_fa (mn_aload _ _) <| am_fa (mn_getP _ _ _) <| am_fa (mn_push _ _) <| am_fa (mn_dup2 _) <| am_fa (mn_ald _ _ _) <| am_fa (mn_push _ _) <| am_fa (mn_bin _ _) <| am_fa (mn_ast _ _ _) <| am_fa (mn_push _ _) <| am_fa (mn_zret) <| am_fa (mn_aload _ _) <| am_fa (mn_aload _ _) <| am_fa (mn_callV _ _ _ _) <| am_fa (mn_if _ _ _) <| am_fa (mn_aload _ _) <| am_fa (mn_getP _ _ _) <| am_fa (mn_iload _ _) <| am_fa (mn_aald _ _ _) <| am_fa (mn_iload _ _) <| am_fa (mn_callV _ _ _ _) <| am_fa (mn_push _ _) <| am_fa (mn_zret) <| am_fa (mn_aload _ _) <| am_fa (mn_getP _ _ _) <| am_fa (mn_iload _ _) <| am_fa (mn_aald _ _ _) <| am_fa (mn_getP _ _ _) <| am_fa (mn_iload _ _) <| am_fa (mn_push _ _) <| am_fa (mn_ast _ _ _) <| am_fa (mn_push _ _) <| am_fa (mn_zret) <| am_f0
theorem mc_65 : ∀ x ∈ am_c65, am_mono x.2 :=
  am_fa (mn_aload _ _) <| am_fa (mn_getP _ _ _) <| am_fa (mn_push _ _) <| am_fa (mn_dup2 _) <| am_fa (mn_ald _ _ _) <| am_fa (mn_push _ _) <| am_fa (mn_bin _ _) <| am_fa (mn_ast _ _ _) <| am_fa (mn_aload _ _) <| am_fa (mn_iload _ _) <| am_fa (mn_iload _ _) <| am_fa (mn_callV _ _ _ _) <| am_fa (mn_if _ _ _) <| am_fa (mn_ret) <| am_fa (mn_push _ _) <| am_fa (mn_istore _ _) <| am_fa (mn_iload _ _) <| am_fa (mn_push _ _) <| am_fa (mn_icmp _ _ _) <| am_fa (mn_aload _ _) <| am_fa (mn_getP _ _ _) <| am_fa (mn_iload _ _) <| am_fa (mn_aald _ _ _) <| am_fa (mn_getP _ _ _) <| am_fa (mn_iload _ _) <| am_fa (mn_aald _ _ _) <| am_fa (mn_astore _ _) <| am_fa (mn_aload _ _) <| am_fa (mn_getP _ _ _) <| am_fa (mn_iload _ _) <| am_fa (mn_aald _ _ _) <| am_fa (mn_astore _ _) <| am_fa (mn_aload _ _) <| am_fa (mn_getP _ _ _) <| am_fa (mn_iload _ _) <| am_fa (mn_ald _ _ _) <| am_fa (mn_if _ _ _) <| am_fa (mn_aload _ _) <| am_fa (mn_ifnull _ _) <| am_fa (mn_aload _ _) <| am_fa (mn_ifnull _ _) <| am_fa (mn_aload _ _) <| am_fa (mn_aload _ _) <| am_fa (mn_callV _ _ _ _) <| am_fa (mn_if _ _ _) <| am_fa (mn_aload _ _) <| am_fa (mn_getP _ _ _) <| am_fa (mn_iload _ _) <| am_fa (mn_aald _ _ _) <| am_fa (mn_getP _ _ _) <| am_fa (mn_iload _ _) <| am_fa (mn_aald _ _ _) <| am_fa (mn_getP _ _ _) <| am_fa (mn_iload _ _) <| am_fa (mn_push _ _) <| am_fa (mn_ast _ _ _) <| am_fa (mn_iinc _ _ _) <| am_fa (mn_goto _) <| am_fa (mn_ret) <| am_f0
theorem mc_66 : ∀ x ∈ am_c66, am_mono x.2 :=
  am_fa (mn_aload _ _) <| am_fa (mn_oinit _) <| am_fa (mn_aload _ _) <| am_fa (mn_push _ _) <| am_fa (mn_newa _ _ _) <| am_fa (mn_putP _ _ _) <| am_fa (mn_aload _ _) <| am_fa (mn_push _ _) <| am_fa (mn_newa _ _ _) <| am_fa (mn_putP _ _ _) <| am_fa (mn_aload _ _) <| am_fa (mn_push _ _) <| am_fa (mn_newa _ _ _) <| am_fa (mn_putP _ _ _) <| am_fa (mn_aload _ _) <| am_fa (mn_push _ _) <| am_fa (mn_newa _ _ _) <| am_fa (mn_putP _ _ _) <| am_fa (mn_aload _ _) <| am_fa (mn_push _ _) <| am_fa (mn_newa _ _ _) <| am_fa (mn_putP _ _ _) <| am_fa (mn_aload _ _) <| am_fa (mn_push _ _) <| am_fa (mn_newa _ _ _) <| am_fa (mn_putP _ _ _) <| am_fa (mn_aload _ _) <| am_fa (mn_push _ _) <| am_fa (mn_newa _ _ _) <| am_fa (mn_putP _ _ _) <| am_fa (mn_aload _ _) <| am_fa (mn_push _ _) <| am_fa (mn_newa _ _ _) <| am_fa (mn_putP _ _ _) <| am_fa (mn_aload _ _) <| am_fa (mn_push _ _) <| am_fa (mn_newa _ _ _) <| am_fa (mn_putP _ _ _) <| am_fa (mn_aload _ _) <| am_fa (mn_push _ _) <| am_fa (mn_newa _ _ _) <| am_fa (mn_putP _ _ _) <| am_fa (mn_aload _ _) <| am_fa (mn_push _ _) <| am_fa (mn_newa _ _ _) <| am_fa (mn_putP _ _ _) <| am_fa (mn_aload _ _) <| am_fa (mn_push _ _) <| am_fa (mn_newa _ _ _) <| am_fa (mn_putP _ _ _) <| am_fa (mn_aload _ _) <| am_fa (mn_push _ _) <| am_fa (mn_newa _ _ _) <| am_fa (mn_putP _ _ _) <| am_fa (mn_aload _ _) <| am_fa (mn_push _ _) <| am_fa (mn_newa _ _ _) <| am_fa (mn_putP _ _ _) <| am_fa (mn_aload _ _) <| am_fa (mn_push _ _) <| am_fa (mn_newa _ _ _) <| am_fa (mn_putP _ _ _) <| am_fa (mn_aload _ _) <| am_fa (mn_push _ _) <| am_fa (mn_newa _ _ _) <| am_fa (mn_putP _ _ _) <| am_fa (mn_aload _ _) <| am_fa (mn_push _ _) <| am_fa (mn_newa _ _ _) <| am_fa (mn_putP _ _ _) <| am_fa (mn_aload _ _) <| am_fa (mn_push _ _) <| am_fa (mn_newa _ _ _) <| am_fa (mn_putP _ _ _) <| am_fa (mn_aload _ _) <| am_fa (mn_push _ _) <| am_fa (mn_newa _ _ _) <| am_fa (mn_putP _ _ _) <| am_fa (mn_aload _ _) <| am_fa (mn_push _ _) <| am_fa (mn_newa _ _ _) <| am_fa (mn_putP _ _ _) <| am_fa (mn_aload _ _) <| am_fa (mn_push _ _) <| am_fa (mn_newa _ _ _) <| am_fa (mn_putP _ _ _) <| am_fa (mn_aload _ _) <| am_fa (mn_push _ _) <| am_fa (mn_newa _ _ _) <| am_fa (mn_putP _ _ _) <| am_fa (mn_aload _ _) <| am_fa (mn_push _ _) <| am_fa (mn_newa _ _ _) <| am_fa (mn_putP _ _ _) <| am_fa (mn_aload _ _) <| am_fa (mn_push _ _) <| am_fa (mn_newa _ _ _) <| am_fa (mn_putP _ _ _) <| am_fa (mn_ret) <| am_f0
theorem mc_67 : ∀ x ∈ am_c67, am_mono x.2 :=
  am_fa (mn_iload _ _) <| am_fa (mn_if _ _ _) <| am_fa (mn_iload _ _) <| am_fa (mn_push _ _) <| am_fa (mn_icmp _ _ _) <| am_fa (mn_push _ _) <| am_fa (mn_goto _) <| am_fa (mn_push _ _) <| am_fa (mn_zret) <| am_f0
theorem mc_68 : ∀ x ∈ am_c68, am_mono x.2 :=
  am_fa (mn_iload _ _) <| am_fa (mn_callS _ _ _) <| am_fa (mn_if _ _ _) <| am_fa (mn_iload _ _) <| am_fa (mn_callS _ _ _) <| am_fa (mn_if _ _ _) <| am_fa (mn_aload _ _) <| am_fa (mn_getP _ _ _) <| am_fa (mn_push _ _) <| am_fa (mn_iload _ _) <| am_fa (mn_bin _ _) <| am_fa (mn_iload _ _) <| am_fa (mn_bin _ _) <| am_fa (mn_ald _ _ _) <| am_fa (mn_if _ _ _) <| am_fa (mn_push _ _) <| am_fa (mn_goto _) <| am_fa (mn_push _ _) <| am_fa (mn_zret) <| am_f0
theorem mc_69 : ∀ x ∈ am_c69, am_mono x.2 :=
  am_fa (mn_aload _ _) <| am_fa (mn_getP _ _ _) <| am_fa (mn_push _ _) <| am_fa (mn_iload _ _) <| am_fa (mn_bin _ _) <| am_fa (mn_iload _ _) <| am_fa (mn_bin _ _) <| am_fa (mn_push _ _) <| am_fa (mn_zast _ _ _) <| am_fa (mn_aload _ _) <| am_fa (mn_getP _ _ _) <| am_fa (mn_push _ _) <| am_fa (mn_iload _ _) <| am_fa (mn_bin _ _) <| am_fa (mn_iload _ _) <| am_fa (mn_bin _ _) <| am_fa (mn_push _ _) <| am_fa (mn_zast _ _ _) <| am_fa (mn_aload _ _) <| am_fa (mn_getP _ _ _) <| am_fa (mn_push _ _) <| am_fa (mn_iload _ _) <| am_fa (mn_bin _ _) <| am_fa (mn_iload _ _) <| am_fa (mn_bin _ _) <| am_fa (mn_push _ _) <| am_fa (mn_zast _ _ _) <| am_fa (mn_push _ _) <| am_fa (mn_istore _ _) <| am_fa (mn_iload _ _) <| am_fa (mn_push _ _) <| am_fa (mn_icmp _ _ _) <| am_fa (mn_aload _ _) <| am_fa (mn_getP _ _ _) <| am_fa (mn_push _ _) <| am_fa (mn_push _ _) <| am_fa (mn_iload _ _) <| am_fa (mn_bin _ _) <| am_fa (mn_iload _ _) <| am_fa (mn_bin _ _) <| am_fa (mn_bin _ _) <| am_fa (mn_iload _ _) <| am_fa (mn_bin _ _) <| am_fa (mn_push _ _) <| am_fa (mn_zast _ _ _) <| am_fa (mn_iinc _ _ _) <| am_fa (mn_goto _) <| am_fa (mn_ret) <| am_f0
theorem mc_70 : ∀ x ∈ am_c70, am_mono x.2 :=
  am_fa (mn_iload _ _) <| am_fa (mn_callS _ _ _) <| am_fa (mn_if _ _ _) <| am_fa (mn_iload _ _) <| am_fa (mn_callS _ _ _) <| am_fa (mn_if _ _ _) <| am_fa (mn_iload _ _) <| am_fa (mn_iload _ _) <| am_fa (mn_icmp _ _ _) <| am_fa (mn_iload _ _) <| am_fa (mn_if _ _ _) <| am_fa (mn_iload _ _) <| am_fa (mn_push _ _) <| am_fa (mn_icmp _ _ _) <| am_fa (mn_aload _ _) <| am_fa (mn_getP _ _ _) <| am_fa (mn_push _ _) <| am_fa (mn_iload _ _) <| am_fa (mn_bin _ _) <| am_fa (mn_iload _ _) <| am_fa (mn_bin _ _) <| am_fa (mn_ald _ _ _) <| am_fa (mn_iload _ _) <| am_fa (mn_icmp _ _ _) <| am_fa (mn_push _ _) <| am_fa (mn_zret) <| am_fa (mn_iload _ _) <| am_fa (mn_if _ _ _) <| am_fa (mn_aload _ _) <| am_fa (mn_iload _ _) <| am_fa (mn_iload _ _) <| am_fa (mn_callV _ _ _ _) <| am_fa (mn_aload _ _) <| am_fa (mn_iload _ _) <| am_fa (mn_iload _ _) <| am_fa (mn_callV _ _ _ _) <| am_fa (mn_aload _ _) <| am_fa (mn_getP _ _ _) <| am_fa (mn_push _ _) <| am_fa (mn_iload _ _) <| am_fa (mn_bin _ _) <| am_fa (mn_iload _ _) <| am_fa (mn_bin _ _) <| am_fa (mn_ald _ _ _) <| am_fa (mn_if _ _ _) <| am_fa (mn_aload _ _) <| am_fa (mn_getP _ _ _) <| am_fa (mn_push _ _) <| am_fa (mn_iload _ _) <| am_fa (mn_bin _ _) <| am_fa (mn_iload _ _) <| am_fa (mn_bin _ _) <| am_fa (mn_push _ _) <| am_fa (mn_ast _ _ _) <| am_fa (mn_aload _ _) <| am_fa (mn_getP _ _ _) <| am_fa (mn_push _ _) <| am_fa (mn_iload _ _) <| am_fa (mn_bin _ _) <| am_fa (mn_iload _ _) <| am_fa (mn_bin _ _) <| am_fa (mn_push _ _) <| am_fa (mn_ast _ _ _) <| am_fa (mn_aload _ _) <| am_fa (mn_getP _ _ _) <| am_fa (mn_push _ _) <| am_fa (mn_iload _ _) <| am_fa (mn_bin _ _) <| am_fa (mn_iload _ _) <| am_fa (mn_bin _ _) <| am_fa (mn_iload _ _) <| am_fa (mn_ast _ _ _) <| am_fa (mn_aload _ _) <| am_fa (mn_getP _ _ _) <| am_fa (mn_push _ _) <| am_fa (mn_iload _ _) <| am_fa (mn_bin _ _) <| am_fa (mn_iload _ _) <| am_fa (mn_bin _ _) <| am_fa (mn_iload _ _) <| am_fa (mn_ast _ _ _) <| am_fa (mn_push _ _) <| am_fa (mn_zret) <| am_f0
theorem mc_71 : ∀ x ∈ am_c71, am_mono x.2 :=
  am_fa (mn_iload _ _) <| am_fa (mn_callS _ _ _) <| am_fa (mn_if _ _ _) <| am_fa (mn_iload _ _) <| am_fa (mn_if _ _ _) <| am_fa (mn_iload _ _) <| am_fa (mn_push _ _) <| am_fa (mn_icmp _ _ _) <| am_fa (mn_iload _ _) <| am_fa (mn_if _ _ _) <| am_fa (mn_iload _ _) <| am_fa (mn_push _ _) <| am_fa (mn_icmp _ _ _) <| am_fa (mn_iload _ _) <| am_fa (mn_if _ _ _) <| am_fa (mn_iload _ _) <| am_fa (mn_push _ _) <| am_fa (mn_icmp _ _ _) <| am_fa (mn_iload _ _) <| am_fa (mn_if _ _ _) <| am_fa (mn_iload _ _) <| am_fa (mn_push _ _) <| am_fa (mn_icmp _ _ _) <| am_fa (mn_push _ _) <| am_fa (mn_zret) <| am_fa (mn_iload _ _) <| am_fa (mn_push _ _) <| am_fa (mn_push _ _) <| am_fa (mn_iload _ _) <| am_fa (mn_bin _ _) <| am_fa (mn_bin _ _) <| am_fa (mn_push _ _) <| am_fa (mn_bin _ _) <| am_fa (mn_bin _ _) <| am_fa (mn_if _ _ _) <| am_fa (mn_push _ _) <| am_fa (mn_zret) <| am_fa (mn_push _ _) <| am_fa (mn_push _ _) <| am_fa (mn_iload _ _) <| am_fa (mn_bin _ _) <| am_fa (mn_bin _ _) <| am_fa (mn_iload _ _) <| am_fa (mn_bin _ _) <| am_fa (mn_istore _ _) <| am_fa (mn_aload _ _) <| am_fa (mn_getP _ _ _) <| am_fa (mn_iload _ _) <| am_fa (mn_iload _ _) <| am_fa (mn_if _ _ _) <| am_fa (mn_iload _ _) <| am_fa (mn_goto _) <| am_fa (mn_push _ _) <| am_fa (mn_ast _ _ _) <| am_fa (mn_aload _ _) <| am_fa (mn_getP _ _ _) <| am_fa (mn_iload _ _) <| am_fa (mn_iload _ _) <| am_fa (mn_if _ _ _) <| am_fa (mn_iload _ _) <| am_fa (mn_goto _) <| am_fa (mn_push _ _) <| am_fa (mn_ast _ _ _) <| am_fa (mn_aload _ _) <| am_fa (mn_getP _ _ _) <| am_fa (mn_iload _ _) <| am_fa (mn_iload _ _) <| am_fa (mn_ast _ _ _) <| am_fa (mn_push _ _) <| am_fa (mn_zret) <| am_f0
theorem mc_72 : ∀ x ∈ am_c72, am_mono x.2 :=
  am_fa (mn_iload _ _) <| am_fa (mn_callS _ _ _) <| am_fa (mn_if _ _ _) <| am_fa (mn_aload _ _) <| am_fa (mn_getP _ _ _) <| am_fa (mn_iload _ _) <| am_fa (mn_ald _ _ _) <| am_fa (mn_iload _ _) <| am_fa (mn_icmp _ _ _) <| am_fa (mn_push _ _) <| am_fa (mn_zret) <| am_fa (mn_aload _ _) <| am_fa (mn_getP _ _ _) <| am_fa (mn_iload _ _) <| am_fa (mn_iload _ _) <| am_fa (mn_if _ _ _) <| am_fa (mn_push _ _) <| am_fa (mn_goto _) <| am_fa (mn_push _ _) <| am_fa (mn_zast _ _ _) <| am_fa (mn_push _ _) <| am_fa (mn_istore _ _) <| am_fa (mn_iload _ _) <| am_fa (mn_push _ _) <| am_fa (mn_icmp _ _ _) <| am_fa (mn_iload _ _) <| am_fa (mn_if _ _ _) <| am_fa (mn_aload _ _) <| am_fa (mn_iload _ _) <| am_fa (mn_iload _ _) <| am_fa (mn_callV _ _ _ _) <| am_fa (mn_aload _ _) <| am_fa (mn_getP _ _ _) <| am_fa (mn_push _ _) <| am_fa (mn_iload _ _) <| am_fa (mn_bin _ _) <| am_fa (mn_iload _ _) <| am_fa (mn_bin _ _) <| am_fa (mn_push _ _) <| am_fa (mn_ast _ _ _) <| am_fa (mn_iinc _ _ _) <| am_fa (mn_goto _) <| am_fa (mn_iload _ _) <| am_fa (mn_if _ _ _) <| am_fa (mn_aload _ _) <| am_fa (mn_getP _ _ _) <| am_fa (mn_push _ _) <| am_fa (mn_iload _ _) <| am_fa (mn_bin _ _) <| am_fa (mn_push _ _) <| am_fa (mn_ast _ _ _) <| am_fa (mn_aload _ _) <| am_fa (mn_getP _ _ _) <| am_fa (mn_iload _ _) <| am_fa (mn_push _ _) <| am_fa (mn_ast _ _ _) <| am_fa (mn_aload _ _) <| am_fa (mn_getP _ _ _) <| am_fa (mn_iload _ _) <| am_fa (mn_push _ _) <| am_fa (mn_zast _ _ _) <| am_fa (mn_push _ _) <| am_fa (mn_zret) <| am_f0
theorem mc_73 : ∀ x ∈ am_c73, am_mono x.2 :=
  am_fa (mn_aload _ _) <| am_fa (mn_iload _ _) <| am_fa (mn_iload _ _) <| am_fa (mn_callV _ _ _ _) <| am_fa (mn_if _ _ _) <| am_fa (mn_iload _ _) <| am_fa (mn_if _ _ _) <| am_fa (mn_iload _ _) <| am_fa (mn_push _ _) <| am_fa (mn_icmp _ _ _) <| am_fa (mn_push _ _) <| am_fa (mn_zret) <| am_fa (mn_aload _ _) <| am_fa (mn_getP _ _ _) <| am_fa (mn_push _ _) <| am_fa (mn_iload _ _) <| am_fa (mn_bin _ _) <| am_fa (mn_iload _ _) <| am_fa (mn_bin _ _) <| am_fa (mn_iload _ _) <| am_fa (mn_ast _ _ _) <| am_fa (mn_push _ _) <| am_fa (mn_zret) <| am_f0
theorem mc_74 : ∀ x ∈ am_c74, am_mono x.2 :=
  am_fa (mn_aload _ _) <| am_fa (mn_getP _ _ _) <| am_fa (mn_iload _ _) <| am_fa (mn_aload _ _) <| am_fa (mn_getP _ _ _) <| am_fa (mn_iload _ _) <| am_fa (mn_ald _ _ _) <| am_fa (mn_ast _ _ _) <| am_fa (mn_aload _ _) <| am_fa (mn_getP _ _ _) <| am_fa (mn_iload _ _) <| am_fa (mn_aload _ _) <| am_fa (mn_getP _ _ _) <| am_fa (mn_iload _ _) <| am_fa (mn_ald _ _ _) <| am_fa (mn_ast _ _ _) <| am_fa (mn_push _ _) <| am_fa (mn_istore _ _) <| am_fa (mn_iload _ _) <| am_fa (mn_push _ _) <| am_fa (mn_icmp _ _ _) <| am_fa (mn_aload _ _) <| am_fa (mn_getP _ _ _) <| am_fa (mn_push _ _) <| am_fa (mn_iload _ _) <| am_fa (mn_bin _ _) <| am_fa (mn_iload _ _) <| am_fa (mn_bin _ _) <| am_fa (mn_aload _ _) <| am_fa (mn_getP _ _ _) <| am_fa (mn_push _ _) <| am_fa (mn_iload _ _) <| am_fa (mn_bin _ _) <| am_fa (mn_iload _ _) <| am_fa (mn_bin _ _) <| am_fa (mn_ald _ _ _) <| am_fa (mn_ast _ _ _) <| am_fa (mn_iinc _ _ _) <| am_fa (mn_goto _) <| am_fa (mn_push _ _) <| am_fa (mn_istore _ _) <| am_fa (mn_iload _ _) <| am_fa (mn_push _ _) <| am_fa (mn_icmp _ _ _) <| am_fa (mn_aload _ _) <| am_fa (mn_getP _ _ _) <| am_fa (mn_push _ _) <| am_fa (mn_iload _ _) <| am_fa (mn_bin _ _) <| am_fa (mn_iload _ _) <| am_fa (mn_bin _ _) <| am_fa (mn_aload _ _) <| am_fa (mn_getP _ _ _) <| am_fa (mn_push _ _) <| am_fa (mn_iload _ _) <| am_fa (mn_bin _ _) <| am_fa (mn_iload _ _) <| am_fa (mn_bin _ _) <| am_fa (mn_ald _ _ _) <| am_fa (mn_ast _ _ _) <| am_fa (mn_aload _ _) <| am_fa (mn_getP _ _ _) <| am_fa (mn_push _ _) <| am_fa (mn_iload _ _) <| am_fa (mn_bin _ _) <| am_fa (mn_iload _ _) <| am_fa (mn_bin _ _) <| am_fa (mn_aload _ _) <| am_fa (mn_getP _ _ _) <| am_fa (mn_push _ _) <| am_fa (mn_iload _ _) <| am_fa (mn_bin _ _) <| am_fa (mn_iload _ _) <| am_fa (mn_bin _ _) <| am_fa (mn_ald _ _ _) <| am_fa (mn_ast _ _ _) <| am_fa (mn_aload _ _) <| am_fa (mn_getP _ _ _) <| am_fa (mn_push _ _) <| am_fa (mn_iload _ _) <| am_fa (mn_bin _ _) <| am_fa (mn_iload _ _) <| am_fa (mn_bin _ _) <| am_fa (mn_aload _ _) <| am_fa (mn_getP _ _ _) <| am_fa (mn_push _ _) <| am_fa (mn_iload _ _) <| am_fa (mn_bin _ _) <| am_fa (mn_iload _ _) <| am_fa (mn_bin _ _) <| am_fa (mn_ald _ _ _) <| am_fa (mn_ast _ _ _) <| am_fa (mn_iinc _ _ _) <| am_fa (mn_goto _) <| am_fa (mn_ret) <| am_f0
theorem mc_75 : ∀ x ∈ am_c75, am_mono x.2 :=
  am_fa (mn_push _ _) <| am_fa (mn_istore _ _) <| am_fa (mn_push _ _) <| am_fa (mn_istore _ _) <| am_fa (mn_iload _ _) <| am_fa (mn_push _ _) <| am_fa (mn_icmp _ _ _) <| am_fa (mn_iload _ _) <| am_fa (mn_if _ _ _) <| am_fa (mn_aload _ _) <| am_fa (mn_getP _ _ _) <| am_fa (mn_push _ _) <| am_fa (mn_iload _ _) <| am_fa (mn_bin _ _) <| am_fa (mn_iload _ _) <| am_fa (mn_bin _ _) <| am_fa (mn_ald _ _ _) <| am_fa (mn_aload _ _) <| am_fa (mn_getP _ _ _) <| am_fa (mn_push _ _) <| am_fa (mn_iload _ _) <| am_fa (mn_bin _ _) <| am_fa (mn_iload _ _) <| am_fa (mn_bin _ _) <| am_fa (mn_ald _ _ _) <| am_fa (mn_icmp _ _ _) <| am_fa (mn_push _ _) <| am_fa (mn_goto _) <| am_fa (mn_push _ _) <| am_fa (mn_istore _ _) <| am_fa (mn_iinc _ _ _) <| am_fa (mn_goto _) <| am_fa (mn_push _ _) <| am_fa (mn_istore _ _) <| am_fa (mn_iload _ _) <| am_fa (mn_push _ _) <| am_fa (mn_icmp _ _ _) <| am_fa (mn_iload _ _) <| am_fa (mn_if _ _ _) <| am_fa (mn_aload _ _) <| am_fa (mn_getP _ _ _) <| am_fa (mn_push _ _) <| am_fa (mn_iload _ _) <| am_fa (mn_bin _ _) <| am_fa (mn_iload _ _) <| am_fa (mn_bin _ _) <| am_fa (mn_ald _ _ _) <| am_fa (mn_aload _ _) <| am_fa (mn_getP _ _ _) <| am_fa (mn_push _ _) <| am_fa (mn_iload _ _) <| am_fa (mn_bin _ _) <| am_fa (mn_iload _ _) <| am_fa (mn_bin _ _) <| am_fa (mn_ald _ _ _) <| am_fa (mn_icmp _ _ _) <| am_fa (mn_aload _ _) <| am_fa (mn_getP _ _ _) <| am_fa (mn_push _ _) <| am_fa (mn_iload _ _) <| am_fa (mn_bin _ _) <| am_fa (mn_iload _ _) <| am_fa (mn_bin _ _) <| am_fa (mn_ald _ _ _) <| am_fa (mn_aload _ _) <| am_fa (mn_getP _ _ _) <| am_fa (mn_push _ _) <| am_fa (mn_iload _ _) <| am_fa (mn_bin _ _) <| am_fa (mn_iload _ _) <| am_fa (mn_bin _ _) <| am_fa (mn_ald _ _ _) <| am_fa (mn_icmp _ _ _) <| am_fa (mn_aload _ _) <| am_fa (mn_getP _ _ _) <| am_fa (mn_push _ _) <| am_fa (mn_iload _ _) <| am_fa (mn_bin _ _) <| am_fa (mn_iload _ _) <| am_fa (mn_bin _ _) <| am_fa (mn_ald _ _ _) <| am_fa (mn_aload _ _) <| am_fa (mn_getP _ _ _) <| am_fa (mn_push _ _) <| am_fa (mn_iload _ _) <| am_fa (mn_bin _ _) <| am_fa (mn_iload _ _) <| am_fa (mn_bin _ _) <| am_fa (mn_ald _ _ _) <| am_fa (mn_icmp _ _ _) <| am_fa (mn_push _ _) <| am_fa (mn_goto _) <| am_fa (mn_push _ _) <| am_fa (mn_istore _ _) <| am_fa (mn_iinc _ _ _) <| am_fa (mn_goto _) <| am_fa (mn_iload _ _) <| am_fa (mn_zret) <| am_f0
theorem mc_76 : ∀ x ∈ am_c76, am_mono x.2 :=
  am_fa (mn_aload _ _) <| am_fa (mn_getP _ _ _) <| am_fa (mn_iload _ _) <| am_fa (mn_ald _ _ _) <| am_fa (mn_aload _ _) <| am_fa (mn_getP _ _ _) <| am_fa (mn_iload _ _) <| am_fa (mn_ald _ _ _) <| am_fa (mn_icmp _ _ _) <| am_fa (mn_aload _ _) <| am_fa (mn_getP _ _ _) <| am_fa (mn_iload _ _) <| am_fa (mn_ald _ _ _) <| am_fa (mn_aload _ _) <| am_fa (mn_getP _ _ _) <| am_fa (mn_iload _ _) <| am_fa (mn_ald _ _ _) <| am_fa (mn_icmp _ _ _) <| am_fa (mn_aload _ _) <| am_fa (mn_getP _ _ _) <| am_fa (mn_iload _ _) <| am_fa (mn_ald _ _ _) <| am_fa (mn_aload _ _) <| am_fa (mn_getP _ _ _) <| am_fa (mn_iload _ _) <| am_fa (mn_ald _ _ _) <| am_fa (mn_icmp _ _ _) <| am_fa (mn_push _ _) <| am_fa (mn_goto _) <| am_fa (mn_push _ _) <| am_fa (mn_zret) <| am_f0
theorem mc_77 : ∀ x ∈ am_c77, am_mono x.2 :=
  am_fa (mn_aload _ _) <| am_fa (mn_getP _ _ _) <| am_fa (mn_iload _ _) <| am_fa (mn_ald _ _ _) <| am_fa (mn_aload _ _) <| am_fa (mn_getP _ _ _) <| am_fa (mn_iload _ _) <| am_fa (mn_ald _ _ _) <| am_fa (mn_icmp _ _ _) <| am_fa (mn_aload _ _) <| am_fa (mn_getP _ _ _) <| am_fa (mn_iload _ _) <| am_fa (mn_ald _ _ _) <| am_fa (mn_aload _ _) <| am_fa (mn_getP _ _ _) <| am_fa (mn_iload _ _) <| am_fa (mn_ald _ _ _) <| am_fa (mn_icmp _ _ _) <| am_fa (mn_push _ _) <| am_fa (mn_goto _) <| am_fa (mn_push _ _) <| am_fa (mn_zret) <| am_f0
theorem mc_78 : ∀ x ∈ am_c78, am_mono x.2 :=
  am_fa (mn_push _ _) <| am_fa (mn_push _ _) <| am_fa (mn_iload _ _) <| am_fa (mn_bin _ _) <| am_fa (mn_iload _ _) <| am_fa (mn_bin _ _) <| am_fa (mn_bin _ _) <| am_fa (mn_iload _ _) <| am_fa (mn_bin _ _) <| am_fa (mn_istore _ _) <| am_fa (mn_aload _ _) <| am_fa (mn_getP _ _ _) <| am_fa (mn_iload _ _) <| am_fa (mn_iload _ _) <| am_fa (mn_if _ _ _) <| am_fa (mn_aload _ _) <| am_fa (mn_getP _ _ _) <| am_fa (mn_iload _ _) <| am_fa (mn_ald _ _ _) <| am_fa (mn_if _ _ _) <| am_fa (mn_push _ _) <| am_fa (mn_goto _) <| am_fa (mn_aload _ _) <| am_fa (mn_getP _ _ _) <| am_fa (mn_iload _ _) <| am_fa (mn_ald _ _ _) <| am_fa (mn_ast _ _ _) <| am_fa (mn_aload _ _) <| am_fa (mn_getP _ _ _) <| am_fa (mn_iload _ _) <| am_fa (mn_push _ _) <| am_fa (mn_zast _ _ _) <| am_fa (mn_ret) <| am_f0
theorem mc_79 : ∀ x ∈ am_c79, am_mono x.2 :=
  am_fa (mn_aload _ _) <| am_fa (mn_iload _ _) <| am_fa (mn_push _ _) <| am_fa (mn_iload _ _) <| am_fa (mn_bin _ _) <| am_fa (mn_iload _ _) <| am_fa (mn_bin _ _) <| am_fa (mn_callV _ _ _ _) <| am_fa (mn_push _ _) <| am_fa (mn_istore _ _) <| am_fa (mn_iload _ _) <| am_fa (mn_push _ _) <| am_fa (mn_icmp _ _ _) <| am_fa (mn_aload _ _) <| am_fa (mn_getP _ _ _) <| am_fa (mn_push _ _) <| am_fa (mn_push _ _) <| am_fa (mn_iload _ _) <| am_fa (mn_bin _ _) <| am_fa (mn_iload _ _) <| am_fa (mn_bin _ _) <| am_fa (mn_bin _ _) <| am_fa (mn_iload _ _) <| am_fa (mn_bin _ _) <| am_fa (mn_push _ _) <| am_fa (mn_zast _ _ _) <| am_fa (mn_aload _ _) <| am_fa (mn_getP _ _ _) <| am_fa (mn_push _ _) <| am_fa (mn_iload _ _) <| am_fa (mn_bin _ _) <| am_fa (mn_iload _ _) <| am_fa (mn_bin _ _) <| am_fa (mn_ald _ _ _) <| am_fa (mn_if _ _ _) <| am_fa (mn_iload _ _) <| am_fa (mn_iload _ _) <| am_fa (mn_icmp _ _ _) <| am_fa (mn_aload _ _) <| am_fa (mn_iload _ _) <| am_fa (mn_iload _ _) <| am_fa (mn_iload _ _) <| am_fa (mn_push _ _) <| am_fa (mn_callV _ _ _ _) <| am_fa (mn_iinc _ _ _) <| am_fa (mn_goto _) <| am_fa (mn_ret) <| am_f0
theorem mc_80 : ∀ x ∈ am_c80, am_mono x.2 :=
  am_fa (mn_aload _ _) <| am_fa (mn_getP _ _ _) <| am_fa (mn_iload _ _) <| am_fa (mn_aload _ _) <| am_fa (mn_getP _ _ _) <| am_fa (mn_iload _ _) <| am_fa (mn_ald _ _ _) <| am_fa (mn_push _ _) <| am_fa (mn_bin _ _) <| am_fa (mn_ast _ _ _) <| am_fa (mn_aload _ _) <| am_fa (mn_getP _ _ _) <| am_fa (mn_push _ _) <| am_fa (mn_iload _ _) <| am_fa (mn_bin _ _) <| am_fa (mn_iload _ _) <| am_fa (mn_bin _ _) <| am_fa (mn_ald _ _ _) <| am_fa (mn_if _ _ _) <| am_fa (mn_aload _ _) <| am_fa (mn_getP _ _ _) <| am_fa (mn_iload _ _) <| am_fa (mn_ald _ _ _) <| am_fa (mn_if _ _ _) <| am_fa (mn_push _ _) <| am_fa (mn_goto _) <| am_fa (mn_push _ _) <| am_fa (mn_istore _ _) <| am_fa (mn_aload _ _) <| am_fa (mn_getP _ _ _) <| am_fa (mn_push _ _) <| am_fa (mn_iload _ _) <| am_fa (mn_bin _ _) <| am_fa (mn_iload _ _) <| am_fa (mn_bin _ _) <| am_fa (mn_aload _ _) <| am_fa (mn_getP _ _ _) <| am_fa (mn_push _ _) <| am_fa (mn_iload _ _) <| am_fa (mn_bin _ _) <| am_fa (mn_iload _ _) <| am_fa (mn_bin _ _) <| am_fa (mn_ald _ _ _) <| am_fa (mn_if _ _ _) <| am_fa (mn_aload _ _) <| am_fa (mn_getP _ _ _) <| am_fa (mn_push _ _) <| am_fa (mn_iload _ _) <| am_fa (mn_bin _ _) <| am_fa (mn_iload _ _) <| am_fa (mn_bin _ _) <| am_fa (mn_ald _ _ _) <| am_fa (mn_push _ _) <| am_fa (mn_bin _ _) <| am_fa (mn_goto _) <| am_fa (mn_push _ _) <| am_fa (mn_ast _ _ _) <| am_fa (mn_aload _ _) <| am_fa (mn_getP _ _ _) <| am_fa (mn_push _ _) <| am_fa (mn_iload _ _) <| am_fa (mn_if _ _ _) <| am_fa (mn_aload _ _) <| am_fa (mn_getP _ _ _) <| am_fa (mn_push _ _) <| am_fa (mn_ald _ _ _) <| am_fa (mn_push _ _) <| am_fa (mn_bin _ _) <| am_fa (mn_goto _) <| am_fa (mn_aload _ _) <| am_fa (mn_getP _ _ _) <| am_fa (mn_push _ _) <| am_fa (mn_ald _ _ _) <| am_fa (mn_ast _ _ _) <| am_fa (mn_iload _ _) <| am_fa (mn_if _ _ _) <| am_fa (mn_push _ _) <| am_fa (mn_goto _) <| am_fa (mn_push _ _) <| am_fa (mn_zret) <| am_f0
theorem mc_81 : ∀ x ∈ am_c81, am_mono x.2 :=
  am_fa (mn_push _ _) <| am_fa (mn_istore _ _) <| am_fa (mn_iload _ _) <| am_fa (mn_push _ _) <| am_fa (mn_icmp _ _ _) <| am_fa (mn_aload _ _) <| am_fa (mn_getP _ _ _) <| am_fa (mn_iload _ _) <| am_fa (mn_ald _ _ _) <| am_fa (mn_if _ _ _) <| am_fa (mn_aload _ _) <| am_fa (mn_getP _ _ _) <| am_fa (mn_iload _ _) <| am_fa (mn_ald _ _ _) <| am_fa (mn_aload _ _) <| am_fa (mn_getI _ _ _) <| am_fa (mn_push _ _) <| am_fa (mn_bin _ _) <| am_fa (mn_icmp _ _ _) <| am_fa (mn_aload _ _) <| am_fa (mn_getP _ _ _) <| am_fa (mn_iload _ _) <| am_fa (mn_push _ _) <| am_fa (mn_ast _ _ _) <| am_fa (mn_push _ _) <| am_fa (mn_istore _ _) <| am_fa (mn_iload _ _) <| am_fa (mn_push _ _) <| am_fa (mn_icmp _ _ _) <| am_fa (mn_aload _ _) <| am_fa (mn_getP _ _ _) <| am_fa (mn_push _ _) <| am_fa (mn_push _ _) <| am_fa (mn_iload _ _) <| am_fa (mn_push _ _) <| am_fa (mn_div _ _) <| am_fa (mn_bin _ _) <| am_fa (mn_iload _ _) <| am_fa (mn_bin _ _) <| am_fa (mn_bin _ _) <| am_fa (mn_iload _ _) <| am_fa (mn_push _ _) <| am_fa (mn_div _ _) <| am_fa (mn_bin _ _) <| am_fa (mn_push _ _) <| am_fa (mn_zast _ _ _) <| am_fa (mn_iinc _ _ _) <| am_fa (mn_goto _) <| am_fa (mn_iinc _ _ _) <| am_fa (mn_goto _) <| am_fa (mn_ret) <| am_f0
theorem mc_82 : ∀ x ∈ am_c82, am_mono x.2 :=
  am_fa (mn_push _ _) <| am_fa (mn_istore _ _) <| am_fa (mn_iload _ _) <| am_fa (mn_push _ _) <| am_fa (mn_icmp _ _ _) <| am_fa (mn_aload _ _) <| am_fa (mn_getP _ _ _) <| am_fa (mn_iload _ _) <| am_fa (mn_aload _ _) <| am_fa (mn_getP _ _ _) <| am_fa (mn_iload _ _) <| am_fa (mn_ald _ _ _) <| am_fa (mn_zast _ _ _) <| am_fa (mn_iinc _ _ _) <| am_fa (mn_goto _) <| am_fa (mn_push _ _) <| am_fa (mn_istore _ _) <| am_fa (mn_iload _ _) <| am_fa (mn_push _ _) <| am_fa (mn_icmp _ _ _) <| am_fa (mn_iload _ _) <| am_fa (mn_push _ _) <| am_fa (mn_div _ _) <| am_fa (mn_istore _ _) <| am_fa (mn_iload _ _) <| am_fa (mn_push _ _) <| am_fa (mn_div _ _) <| am_fa (mn_istore _ _) <| am_fa (mn_aload _ _) <| am_fa (mn_getP _ _ _) <| am_fa (mn_iload _ _) <| am_fa (mn_ald _ _ _) <| am_fa (mn_if _ _ _) <| am_fa (mn_aload _ _) <| am_fa (mn_getP _ _ _) <| am_fa (mn_iload _ _) <| am_fa (mn_ald _ _ _) <| am_fa (mn_if _ _ _) <| am_fa (mn_aload _ _) <| am_fa (mn_iload _ _) <| am_fa (mn_iload _ _) <| am_fa (mn_push _ _) <| am_fa (mn_callV _ _ _ _) <| am_fa (mn_if _ _ _) <| am_fa (mn_aload _ _) <| am_fa (mn_getP _ _ _) <| am_fa (mn_push _ _) <| am_fa (mn_iload _ _) <| am_fa (mn_bin _ _) <| am_fa (mn_iload _ _) <| am_fa (mn_bin _ _) <| am_fa (mn_push _ _) <| am_fa (mn_zast _ _ _) <| am_fa (mn_aload _ _) <| am_fa (mn_getP _ _ _) <| am_fa (mn_push _ _) <| am_fa (mn_iload _ _) <| am_fa (mn_bin _ _) <| am_fa (mn_iload _ _) <| am_fa (mn_bin _ _) <| am_fa (mn_aload _ _) <| am_fa (mn_getI _ _ _) <| am_fa (mn_ast _ _ _) <| am_fa (mn_aload _ _) <| am_fa (mn_getP _ _ _) <| am_fa (mn_push _ _) <| am_fa (mn_iload _ _) <| am_fa (mn_bin _ _) <| am_fa (mn_iload _ _) <| am_fa (mn_bin _ _) <| am_fa (mn_aload _ _) <| am_fa (mn_getP _ _ _) <| am_fa (mn_iload _ _) <| am_fa (mn_ald _ _ _) <| am_fa (mn_zast _ _ _) <| am_fa (mn_iinc _ _ _) <| am_fa (mn_goto _) <| am_fa (mn_ret) <| am_f0
theorem mc_83 : ∀ x ∈ am_c83, am_mono x.2 :=
  am_fa (mn_push _ _) <| am_fa (mn_istore _ _) <| am_fa (mn_iload _ _) <| am_fa (mn_push _ _) <| am_fa (mn_icmp _ _ _) <| am_fa (mn_aload _ _) <| am_fa (mn_getP _ _ _) <| am_fa (mn_iload _ _) <| am_fa (mn_ald _ _ _) <| am_fa (mn_if _ _ _) <| am_fa (mn_aload _ _) <| am_fa (mn_getP _ _ _) <| am_fa (mn_iload _ _) <| am_fa (mn_ald _ _ _) <| am_fa (mn_aload _ _) <| am_fa (mn_getI _ _ _) <| am_fa (mn_push _ _) <| am_fa (mn_bin _ _) <| am_fa (mn_icmp _ _ _) <| am_fa (mn_aload _ _) <| am_fa (mn_getP _ _ _) <| am_fa (mn_iload _ _) <| am_fa (mn_push _ _) <| am_fa (mn_zast _ _ _) <| am_fa (mn_aload _ _) <| am_fa (mn_getP _ _ _) <| am_fa (mn_iload _ _) <| am_fa (mn_push _ _) <| am_fa (mn_zast _ _ _) <| am_fa (mn_aload _ _) <| am_fa (mn_getP _ _ _) <| am_fa (mn_iload _ _) <| am_fa (mn_ald _ _ _) <| am_fa (mn_if _ _ _) <| am_fa (mn_aload _ _) <| am_fa (mn_getP _ _ _) <| am_fa (mn_iload _ _) <| am_fa (mn_ald _ _ _) <| am_fa (mn_if _ _ _) <| am_fa (mn_push _ _) <| am_fa (mn_goto _) <| am_fa (mn_push _ _) <| am_fa (mn_istore _ _) <| am_fa (mn_aload _ _) <| am_fa (mn_getP _ _ _) <| am_fa (mn_iload _ _) <| am_fa (mn_iload _ _) <| am_fa (mn_if _ _ _) <| am_fa (mn_aload _ _) <| am_fa (mn_getP _ _ _) <| am_fa (mn_iload _ _) <| am_fa (mn_ald _ _ _) <| am_fa (mn_if _ _ _) <| am_fa (mn_push _ _) <| am_fa (mn_goto _) <| am_fa (mn_push _ _) <| am_fa (mn_zast _ _ _) <| am_fa (mn_aload _ _) <| am_fa (mn_getP _ _ _) <| am_fa (mn_iload _ _) <| am_fa (mn_iload _ _) <| am_fa (mn_zast _ _ _) <| am_fa (mn_push _ _) <| am_fa (mn_istore _ _) <| am_fa (mn_iload _ _) <| am_fa (mn_push _ _) <| am_fa (mn_icmp _ _ _) <| am_fa (mn_aload _ _) <| am_fa (mn_getP _ _ _) <| am_fa (mn_push _ _) <| am_fa (mn_iload _ _) <| am_fa (mn_bin _ _) <| am_fa (mn_iload _ _) <| am_fa (mn_bin _ _) <| am_fa (mn_aload _ _) <| am_fa (mn_getP _ _ _) <| am_fa (mn_push _ _) <| am_fa (mn_iload _ _) <| am_fa (mn_bin _ _) <| am_fa (mn_iload _ _) <| am_fa (mn_bin _ _) <| am_fa (mn_ald _ _ _) <| am_fa (mn_if _ _ _) <| am_fa (mn_iload _ _) <| am_fa (mn_if _ _ _) <| am_fa (mn_push _ _) <| am_fa (mn_goto _) <| am_fa (mn_push _ _) <| am_fa (mn_zast _ _ _) <| am_fa (mn_iinc _ _ _) <| am_fa (mn_goto _) <| am_fa (mn_iinc _ _ _) <| am_fa (mn_goto _) <| am_fa (mn_push _ _) <| am_fa (mn_istore _ _) <| am_fa (mn_iload _ _) <| am_fa (mn_push _ _) <| am_fa (mn_icmp _ _ _) <| am_fa (mn_push _ _) <| am_fa (mn_iload _ _) <| am_fa (mn_push _ _) <| am_fa (mn_div _ _) <| am_fa (mn_bin _ _) <| am_fa (mn_iload _ _) <| am_fa (mn_push _ _) <| am_fa (mn_div _ _) <| am_fa (mn_bin _ _) <| am_fa (mn_istore _ _) <| am_fa (mn_aload _ _) <| am_fa (mn_getP _ _ _) <| am_fa (mn_iload _ _) <| am_fa (mn_ald _ _ _) <| am_fa (mn_if _ _ _) <| am_fa (mn_aload _ _) <| am_fa (mn_iload _ _) <| am_fa (mn_push _ _) <| am_fa (mn_div _ _) <| am_fa (mn_iload _ _) <| am_fa (mn_push _ _) <| am_fa (mn_div _ _) <| am_fa (mn_callV _ _ _ _) <| am_fa (mn_aload _ _) <| am_fa (mn_getP _ _ _) <| am_fa (mn_iload _ _) <| am_fa (mn_ald _ _ _) <| am_fa (mn_if _ _ _) <| am_fa (mn_aload _ _) <| am_fa (mn_getP _ _ _) <| am_fa (mn_iload _ _) <| am_fa (mn_ald _ _ _) <| am_fa (mn_if _ _ _) <| am_fa (mn_aload _ _) <| am_fa (mn_iload _ _) <| am_fa (mn_push _ _) <| am_fa (mn_div _ _) <| am_fa (mn_iload _ _) <| am_fa (mn_push _ _) <| am_fa (mn_div _ _) <| am_fa (mn_callV _ _ _ _) <| am_fa (mn_iinc _ _ _) <| am_fa (mn_goto _) <| am_fa (mn_ret) <| am_f0
theorem mc_84 : ∀ x ∈ am_c84, am_mono x.2 :=
  am_fa (mn_push _ _) <| am_fa (mn_istore _ _) <| am_fa (mn_iload _ _) <| am_fa (mn_push _ _) <| am_fa (mn_icmp _ _ _) <| am_fa (mn_aload _ _) <| am_fa (mn_getP _ _ _) <| am_fa (mn_push _ _) <| am_fa (mn_iload _ _) <| am_fa (mn_bin _ _) <| am_fa (mn_iload _ _) <| am_fa (mn_bin _ _) <| am_fa (mn_ald _ _ _) <| am_fa (mn_if _ _ _) <| am_fa (mn_aload _ _) <| am_fa (mn_push _ _) <| am_fa (mn_iload _ _) <| am_fa (mn_bin _ _) <| am_fa (mn_iload _ _) <| am_fa (mn_bin _ _) <| am_fa (mn_push _ _) <| am_fa (mn_iload _ _) <| am_fa (mn_bin _ _) <| am_fa (mn_iload _ _) <| am_fa (mn_bin _ _) <| am_fa (mn_callV _ _ _ _) <| am_fa (mn_if _ _ _) <| am_fa (mn_aload _ _) <| am_fa (mn_iload _ _) <| am_fa (mn_iload _ _) <| am_fa (mn_iload _ _) <| am_fa (mn_push _ _) <| am_fa (mn_callV _ _ _ _) <| am_fa (mn_iinc _ _ _) <| am_fa (mn_goto _) <| am_fa (mn_ret) <| am_f0
theorem mc_85 : ∀ x ∈ am_c85, am_mono x.2 :=
  am_fa (mn_push _ _) <| am_fa (mn_iload _ _) <| am_fa (mn_bin _ _) <| am_fa (mn_istore _ _) <| am_fa (mn_push _ _) <| am_fa (mn_iload _ _) <| am_fa (mn_bin _ _) <| am_fa (mn_istore _ _) <| am_fa (mn_push _ _) <| am_fa (mn_istore _ _) <| am_fa (mn_iload _ _) <| am_fa (mn_push _ _) <| am_fa (mn_icmp _ _ _) <| am_fa (mn_aload _ _) <| am_fa (mn_getP _ _ _) <| am_fa (mn_push _ _) <| am_fa (mn_iload _ _) <| am_fa (mn_bin _ _) <| am_fa (mn_iload _ _) <| am_fa (mn_bin _ _) <| am_fa (mn_aload _ _) <| am_fa (mn_getP _ _ _) <| am_fa (mn_push _ _) <| am_fa (mn_iload _ _) <| am_fa (mn_bin _ _) <| am_fa (mn_iload _ _) <| am_fa (mn_bin _ _) <| am_fa (mn_ald _ _ _) <| am_fa (mn_if _ _ _) <| am_fa (mn_aload _ _) <| am_fa (mn_getP _ _ _) <| am_fa (mn_push _ _) <| am_fa (mn_iload _ _) <| am_fa (mn_bin _ _) <| am_fa (mn_iload _ _) <| am_fa (mn_bin _ _) <| am_fa (mn_ald _ _ _) <| am_fa (mn_goto _) <| am_fa (mn_push _ _) <| am_fa (mn_ast _ _ _) <| am_fa (mn_iinc _ _ _) <| am_fa (mn_goto _) <| am_fa (mn_aload _ _) <| am_fa (mn_iload _ _) <| am_fa (mn_iload _ _) <| am_fa (mn_callV _ _ _ _) <| am_fa (mn_if _ _ _) <| am_fa (mn_aload _ _) <| am_fa (mn_getP _ _ _) <| am_fa (mn_iload _ _) <| am_fa (mn_ald _ _ _) <| am_fa (mn_aload _ _) <| am_fa (mn_getI _ _ _) <| am_fa (mn_push _ _) <| am_fa (mn_bin _ _) <| am_fa (mn_icmp _ _ _) <| am_fa (mn_aload _ _) <| am_fa (mn_getP _ _ _) <| am_fa (mn_iload _ _) <| am_fa (mn_ald _ _ _) <| am_fa (mn_if _ _ _) <| am_fa (mn_push _ _) <| am_fa (mn_goto _) <| am_fa (mn_push _ _) <| am_fa (mn_istore _ _) <| am_fa (mn_aload _ _) <| am_fa (mn_getP _ _ _) <| am_fa (mn_iload _ _) <| am_fa (mn_ald _ _ _) <| am_fa (mn_if _ _ _) <| am_fa (mn_aload _ _) <| am_fa (mn_getP _ _ _) <| am_fa (mn_iload _ _) <| am_fa (mn_ald _ _ _) <| am_fa (mn_aload _ _) <| am_fa (mn_getI _ _ _) <| am_fa (mn_push _ _) <| am_fa (mn_bin _ _) <| am_fa (mn_icmp _ _ _) <| am_fa (mn_iload _ _) <| am_fa (mn_if _ _ _) <| am_fa (mn_push _ _) <| am_fa (mn_goto _) <| am_fa (mn_push _ _) <| am_fa (mn_istore _ _) <| am_fa (mn_aload _ _) <| am_fa (mn_getP _ _ _) <| am_fa (mn_iload _ _) <| am_fa (mn_ald _ _ _) <| am_fa (mn_if _ _ _) <| am_fa (mn_iload _ _) <| am_fa (mn_if _ _ _) <| am_fa (mn_ret) <| am_fa (mn_aload _ _) <| am_fa (mn_getP _ _ _) <| am_fa (mn_iload _ _) <| am_fa (mn_aload _ _) <| am_fa (mn_getP _ _ _) <| am_fa (mn_iload _ _) <| am_fa (mn_ald _ _ _) <| am_fa (mn_push _ _) <| am_fa (mn_bin _ _) <| am_fa (mn_ast _ _ _) <| am_fa (mn_aload _ _) <| am_fa (mn_getP _ _ _) <| am_fa (mn_iload _ _) <| am_fa (mn_aload _ _) <| am_fa (mn_getP _ _ _) <| am_fa (mn_iload _ _) <| am_fa (mn_ald _ _ _) <| am_fa (mn_ast _ _ _) <| am_fa (mn_aload _ _) <| am_fa (mn_getP _ _ _) <| am_fa (mn_iload _ _) <| am_fa (mn_aload _ _) <| am_fa (mn_getI _ _ _) <| am_fa (mn_ast _ _ _) <| am_fa (mn_aload _ _) <| am_fa (mn_iload _ _) <| am_fa (mn_iload _ _) <| am_fa (mn_callV _ _ _ _) <| am_fa (mn_aload _ _) <| am_fa (mn_getP _ _ _) <| am_fa (mn_iload _ _) <| am_fa (mn_push _ _) <| am_fa (mn_zast _ _ _) <| am_fa (mn_aload _ _) <| am_fa (mn_getP _ _ _) <| am_fa (mn_push _ _) <| am_fa (mn_aload _ _) <| am_fa (mn_getP _ _ _) <| am_fa (mn_push _ _) <| am_fa (mn_ald _ _ _) <| am_fa (mn_push _ _) <| am_fa (mn_bin _ _) <| am_fa (mn_ast _ _ _) <| am_fa (mn_aload _ _) <| am_fa (mn_iload _ _) <| am_fa (mn_iload _ _) <| am_fa (mn_iload _ _) <| am_fa (mn_iload _ _) <| am_fa (mn_callV _ _ _ _) <| am_fa (mn_ret) <| am_f0
theorem mc_86 : ∀ x ∈ am_c86, am_mono x.2 :=
  am_fa (mn_push _ _) <| am_fa (mn_istore _ _) <| am_fa (mn_iload _ _) <| am_fa (mn_push _ _) <| am_fa (mn_icmp _ _ _) <| am_fa (mn_aload _ _) <| am_fa (mn_iload _ _) <| am_fa (mn_push _ _) <| am_fa (mn_iload _ _) <| am_fa (mn_bin _ _) <| am_fa (mn_callV _ _ _ _) <| am_fa (mn_iinc _ _ _) <| am_fa (mn_goto _) <| am_fa (mn_push _ _) <| am_fa (mn_istore _ _) <| am_fa (mn_iload _ _) <| am_fa (mn_push _ _) <| am_fa (mn_icmp _ _ _) <| am_fa (mn_push _ _) <| am_fa (mn_istore _ _) <| am_fa (mn_push _ _) <| am_fa (mn_istore _ _) <| am_fa (mn_iload _ _) <| am_fa (mn_push _ _) <| am_fa (mn_icmp _ _ _) <| am_fa (mn_push _ _) <| am_fa (mn_iload _ _) <| am_fa (mn_bin _ _) <| am_fa (mn_iload _ _) <| am_fa (mn_bin _ _) <| am_fa (mn_istore _ _) <| am_fa (mn_aload _ _) <| am_fa (mn_getP _ _ _) <| am_fa (mn_iload _ _) <| am_fa (mn_aload _ _) <| am_fa (mn_getP _ _ _) <| am_fa (mn_iload _ _) <| am_fa (mn_ald _ _ _) <| am_fa (mn_if _ _ _) <| am_fa (mn_aload _ _) <| am_fa (mn_getP _ _ _) <| am_fa (mn_iload _ _) <| am_fa (mn_ald _ _ _) <| am_fa (mn_if _ _ _) <| am_fa (mn_aload _ _) <| am_fa (mn_getP _ _ _) <| am_fa (mn_iload _ _) <| am_fa (mn_ald _ _ _) <| am_fa (mn_aload _ _) <| am_fa (mn_getI _ _ _) <| am_fa (mn_push _ _) <| am_fa (mn_bin _ _) <| am_fa (mn_icmp _ _ _) <| am_fa (mn_push _ _) <| am_fa (mn_goto _) <| am_fa (mn_push _ _) <| am_fa (mn_zast _ _ _) <| am_fa (mn_aload _ _) <| am_fa (mn_getP _ _ _) <| am_fa (mn_iload _ _) <| am_fa (mn_aload _ _) <| am_fa (mn_getP _ _ _) <| am_fa (mn_iload _ _) <| am_fa (mn_ald _ _ _) <| am_fa (mn_if _ _ _) <| am_fa (mn_aload _ _) <| am_fa (mn_getI _ _ _) <| am_fa (mn_goto _) <| am_fa (mn_aload _ _) <| am_fa (mn_getP _ _ _) <| am_fa (mn_iload _ _) <| am_fa (mn_ald _ _ _) <| am_fa (mn_ast _ _ _) <| am_fa (mn_aload _ _) <| am_fa (mn_getP _ _ _) <| am_fa (mn_iload _ _) <| am_fa (mn_ald _ _ _) <| am_fa (mn_if _ _ _) <| am_fa (mn_iload _ _) <| am_fa (mn_push _ _) <| am_fa (mn_bin _ _) <| am_fa (mn_goto _) <| am_fa (mn_iload _ _) <| am_fa (mn_istore _ _) <| am_fa (mn_iinc _ _ _) <| am_fa (mn_goto _) <| am_fa (mn_aload _ _) <| am_fa (mn_getP _ _ _) <| am_fa (mn_push _ _) <| am_fa (mn_aload _ _) <| am_fa (mn_getP _ _ _) <| am_fa (mn_push _ _) <| am_fa (mn_ald _ _ _) <| am_fa (mn_iload _ _) <| am_fa (mn_bin _ _) <| am_fa (mn_ast _ _ _) <| am_fa (mn_aload _ _) <| am_fa (mn_getP _ _ _) <| am_fa (mn_iload _ _) <| am_fa (mn_iload _ _) <| am_fa (mn_if _ _ _) <| am_fa (mn_aload _ _) <| am_fa (mn_iload _ _) <| am_fa (mn_push _ _) <| am_fa (mn_div _ _) <| am_fa (mn_iload _ _) <| am_fa (mn_push _ _) <| am_fa (mn_div _ _) <| am_fa (mn_push _ _) <| am_fa (mn_callV _ _ _ _) <| am_fa (mn_if _ _ _) <| am_fa (mn_push _ _) <| am_fa (mn_goto _) <| am_fa (mn_push _ _) <| am_fa (mn_zast _ _ _) <| am_fa (mn_iinc _ _ _) <| am_fa (mn_goto _) <| am_fa (mn_ret) <| am_f0
set_option maxRecDepth 100000 in
theorem mc_87 : ∀ x ∈ am_c87, am_mono x.2 :=
  am_fa (mn_push _ _) <| am_fa (mn_istore _ _) <| am_fa (mn_push _ _) <| am_fa (mn_istore _ _) <| am_fa (mn_iload _ _) <| am_fa (mn_push _ _) <| am_fa (mn_icmp _ _ _) <| am_fa (mn_push _ _) <| am_fa (mn_push _ _) <| am_fa (mn_iload _ _) <| am_fa (mn_bin _ _) <| am_fa (mn_bin _ _) <| am_fa (mn_iload _ _) <| am_fa (mn_bin _ _) <| am_fa (mn_istore _ _) <| am_fa (mn_push _ _) <| am_fa (mn_iload _ _) <| am_fa (mn_bin _ _) <| am_fa (mn_iload _ _) <| am_fa (mn_bin _ _) <| am_fa (mn_istore _ _) <| am_fa (mn_aload _ _) <| am_fa (mn_getP _ _ _) <| am_fa (mn_iload _ _) <| am_fa (mn_push _ _) <| am_fa (mn_zast _ _ _) <| am_fa (mn_aload _ _) <| am_fa (mn_getP _ _ _) <| am_fa (mn_push _ _) <| am_fa (mn_push _ _) <| am_fa (mn_iload _ _) <| am_fa (mn_bin _ _) <| am_fa (mn_iload _ _) <| am_fa (mn_bin _ _) <| am_fa (mn_bin _ _) <| am_fa (mn_iload _ _) <| am_fa (mn_bin _ _) <| am_fa (mn_ald _ _ _) <| am_fa (mn_if _ _ _) <| am_fa (mn_aload _ _) <| am_fa (mn_iload _ _) <| am_fa (mn_iload _ _) <| am_fa (mn_callV _ _ _ _) <| am_fa (mn_istore _ _) <| am_fa (mn_aload _ _) <| am_fa (mn_getP _ _ _) <| am_fa (mn_iload _ _) <| am_fa (mn_iload _ _) <| am_fa (mn_if _ _ _) <| am_fa (mn_aload _ _) <| am_fa (mn_iload _ _) <| am_fa (mn_iload _ _) <| am_fa (mn_callV _ _ _ _) <| am_fa (mn_if _ _ _) <| am_fa (mn_push _ _) <| am_fa (mn_goto _) <| am_fa (mn_push _ _) <| am_fa (mn_zast _ _ _) <| am_fa (mn_aload _ _) <| am_fa (mn_getP _ _ _) <| am_fa (mn_iload _ _) <| am_fa (mn_ald _ _ _) <| am_fa (mn_if _ _ _) <| am_fa (mn_iload _ _) <| am_fa (mn_push _ _) <| am_fa (mn_bin _ _) <| am_fa (mn_goto _) <| am_fa (mn_iload _ _) <| am_fa (mn_istore _ _) <| am_fa (mn_iload _ _) <| am_fa (mn_if _ _ _) <| am_fa (mn_iload _ _) <| am_fa (mn_iload _ _) <| am_fa (mn_icmp _ _ _) <| am_fa (mn_aload _ _) <| am_fa (mn_getP _ _ _) <| am_fa (mn_iload _ _) <| am_fa (mn_aload _ _) <| am_fa (mn_getP _ _ _) <| am_fa (mn_iload _ _) <| am_fa (mn_ald _ _ _) <| am_fa (mn_aload _ _) <| am_fa (mn_getP _ _ _) <| am_fa (mn_iload _ _) <| am_fa (mn_ald _ _ _) <| am_fa (mn_icmp _ _ _) <| am_fa (mn_aload _ _) <| am_fa (mn_getP _ _ _) <| am_fa (mn_iload _ _) <| am_fa (mn_ald _ _ _) <| am_fa (mn_goto _) <| am_fa (mn_aload _ _) <| am_fa (mn_getP _ _ _) <| am_fa (mn_iload _ _) <| am_fa (mn_ald _ _ _) <| am_fa (mn_ast _ _ _) <| am_fa (mn_aload _ _) <| am_fa (mn_getP _ _ _) <| am_fa (mn_iload _ _) <| am_fa (mn_push _ _) <| am_fa (mn_zast _ _ _) <| am_fa (mn_goto _) <| am_fa (mn_iload _ _) <| am_fa (mn_if _ _ _) <| am_fa (mn_aload _ _) <| am_fa (mn_getP _ _ _) <| am_fa (mn_push _ _) <| am_fa (mn_aload _ _) <| am_fa (mn_getP _ _ _) <| am_fa (mn_push _ _) <| am_fa (mn_ald _ _ _) <| am_fa (mn_push _ _) <| am_fa (mn_bin _ _) <| am_fa (mn_ast _ _ _) <| am_fa (mn_aload _ _) <| am_fa (mn_iload _ _) <| am_fa (mn_iload _ _) <| am_fa (mn_iload _ _) <| am_fa (mn_iload _ _) <| am_fa (mn_callV _ _ _ _) <| am_fa (mn_goto _) <| am_fa (mn_aload _ _) <| am_fa (mn_getP _ _ _) <| am_fa (mn_iload _ _) <| am_fa (mn_ald _ _ _) <| am_fa (mn_if _ _ _) <| am_fa (mn_aload _ _) <| am_fa (mn_getP _ _ _) <| am_fa (mn_push _ _) <| am_fa (mn_push _ _) <| am_fa (mn_iload _ _) <| am_fa (mn_bin _ _) <| am_fa (mn_iload _ _) <| am_fa (mn_bin _ _) <| am_fa (mn_bin _ _) <| am_fa (mn_iload _ _) <| am_fa (mn_bin _ _) <| am_fa (mn_push _ _) <| am_fa (mn_zast _ _ _) <| am_fa (mn_goto _) <| am_fa (mn_aload _ _) <| am_fa (mn_iload _ _) <| am_fa (mn_iload _ _) <| am_fa (mn_iload _ _) <| am_fa (mn_push _ _) <| am_fa (mn_callV _ _ _ _) <| am_fa (mn_iinc _ _ _) <| am_fa (mn_goto _) <| am_fa (mn_iload _ _) <| am_fa (mn_if _ _ _) <| am_fa (mn_aload _ _) <| am_fa (mn_iload _ _) <| am_fa (mn_iload _ _) <| am_fa (mn_push _ _) <| am_fa (mn_callV _ _ _ _) <| am_fa (mn_if _ _ _) <| am_fa (mn_ret) <| am_fa (mn_push _ _) <| am_fa (mn_istore _ _) <| am_fa (mn_iload _ _) <| am_fa (mn_push _ _) <| am_fa (mn_icmp _ _ _) <| am_fa (mn_aload _ _) <| am_fa (mn_getP _ _ _) <| am_fa (mn_push _ _) <| am_fa (mn_iload _ _) <| am_fa (mn_bin _ _) <| am_fa (mn_iload _ _) <| am_fa (mn_bin _ _) <| am_fa (mn_ald _ _ _) <| am_fa (mn_if _ _ _) <| am_fa (mn_aload _ _) <| am_fa (mn_push _ _) <| am_fa (mn_iload _ _) <| am_fa (mn_bin _ _) <| am_fa (mn_iload _ _) <| am_fa (mn_bin _ _) <| am_fa (mn_push _ _) <| am_fa (mn_push _ _) <| am_fa (mn_iload _ _) <| am_fa (mn_bin _ _) <| am_fa (mn_bin _ _) <| am_fa (mn_iload _ _) <| am_fa (mn_bin _ _) <| am_fa (mn_callV _ _ _ _) <| am_fa (mn_if _ _ _) <| am_fa (mn_push _ _) <| am_fa (mn_goto _) <| am_fa (mn_push _ _) <| am_fa (mn_istore _ _) <| am_fa (mn_aload _ _) <| am_fa (mn_getP _ _ _) <| am_fa (mn_iload _ _) <| am_fa (mn_ald _ _ _) <| am_fa (mn_if _ _ _) <| am_fa (mn_iload _ _) <| am_fa (mn_if _ _ _) <| am_fa (mn_aload _ _) <| am_fa (mn_getP _ _ _) <| am_fa (mn_push _ _) <| am_fa (mn_push _ _) <| am_fa (mn_iload _ _) <| am_fa (mn_bin _ _) <| am_fa (mn_iload _ _) <| am_fa (mn_bin _ _) <| am_fa (mn_bin _ _) <| am_fa (mn_iload _ _) <| am_fa (mn_bin _ _) <| am_fa (mn_push _ _) <| am_fa (mn_zast _ _ _) <| am_fa (mn_iinc _ _ _) <| am_fa (mn_goto _) <| am_fa (mn_ret) <| am_f0
theorem mc_88 : ∀ x ∈ am_c88, am_mono x.2 :=
  am_fa (mn_iload _ _) <| am_fa (mn_push _ _) <| am_fa (mn_icmp _ _ _) <| am_fa (mn_iload _ _) <| am_fa (mn_push _ _) <| am_fa (mn_icmp _ _ _) <| am_fa (mn_push _ _) <| am_fa (mn_zret) <| am_fa (mn_push _ _) <| am_fa (mn_istore _ _) <| am_fa (mn_iload _ _) <| am_fa (mn_iload _ _) <| am_fa (mn_icmp _ _ _) <| am_fa (mn_aload _ _) <| am_fa (mn_aload _ _) <| am_fa (mn_getI _ _ _) <| am_fa (mn_push _ _) <| am_fa (mn_bin _ _) <| am_fa (mn_putI _ _ _) <| am_fa (mn_aload _ _) <| am_fa (mn_callV _ _ _ _) <| am_fa (mn_aload _ _) <| am_fa (mn_getI _ _ _) <| am_fa (mn_push _ _) <| am_fa (mn_div _ _) <| am_fa (mn_if _ _ _) <| am_fa (mn_aload _ _) <| am_fa (mn_callV _ _ _ _) <| am_fa (mn_aload _ _) <| am_fa (mn_callV _ _ _ _) <| am_fa (mn_push _ _) <| am_fa (mn_istore _ _) <| am_fa (mn_iload _ _) <| am_fa (mn_push _ _) <| am_fa (mn_icmp _ _ _) <| am_fa (mn_aload _ _) <| am_fa (mn_iload _ _) <| am_fa (mn_callV _ _ _ _) <| am_fa (mn_iinc _ _ _) <| am_fa (mn_goto _) <| am_fa (mn_aload _ _) <| am_fa (mn_callV _ _ _ _) <| am_fa (mn_push _ _) <| am_fa (mn_istore _ _) <| am_fa (mn_iload _ _) <| am_fa (mn_push _ _) <| am_fa (mn_icmp _ _ _) <| am_fa (mn_aload _ _) <| am_fa (mn_getP _ _ _) <| am_fa (mn_iload _ _) <| am_fa (mn_ald _ _ _) <| am_fa (mn_if _ _ _) <| am_fa (mn_aload _ _) <| am_fa (mn_getP _ _ _) <| am_fa (mn_push _ _) <| am_fa (mn_iload _ _) <| am_fa (mn_push _ _) <| am_fa (mn_div _ _) <| am_fa (mn_bin _ _) <| am_fa (mn_iload _ _) <| am_fa (mn_push _ _) <| am_fa (mn_div _ _) <| am_fa (mn_bin _ _) <| am_fa (mn_ald _ _ _) <| am_fa (mn_if _ _ _) <| am_fa (mn_aload _ _) <| am_fa (mn_iload _ _) <| am_fa (mn_push _ _) <| am_fa (mn_div _ _) <| am_fa (mn_iload _ _) <| am_fa (mn_push _ _) <| am_fa (mn_div _ _) <| am_fa (mn_callV _ _ _ _) <| am_fa (mn_iinc _ _ _) <| am_fa (mn_goto _) <| am_fa (mn_iinc _ _ _) <| am_fa (mn_goto _) <| am_fa (mn_push _ _) <| am_fa (mn_zret) <| am_f0
theorem mc_89 : ∀ x ∈ am_c89, am_mono x.2 :=
  am_fa (mn_aload _ _) <| am_fa (mn_iload _ _) <| am_fa (mn_iload _ _) <| am_fa (mn_callV _ _ _ _) <| am_fa (mn_if _ _ _) <| am_fa (mn_push _ _) <| am_fa (mn_iret) <| am_fa (mn_push _ _) <| am_fa (mn_iload _ _) <| am_fa (mn_bin _ _) <| am_fa (mn_iload _ _) <| am_fa (mn_bin _ _) <| am_fa (mn_istore _ _) <| am_fa (mn_aload _ _) <| am_fa (mn_getP _ _ _) <| am_fa (mn_iload _ _) <| am_fa (mn_ald _ _ _) <| am_fa (mn_if _ _ _) <| am_fa (mn_push _ _) <| am_fa (mn_goto _) <| am_fa (mn_aload _ _) <| am_fa (mn_getP _ _ _) <| am_fa (mn_iload _ _) <| am_fa (mn_ald _ _ _) <| am_fa (mn_if _ _ _) <| am_fa (mn_push _ _) <| am_fa (mn_goto _) <| am_fa (mn_push _ _) <| am_fa (mn_iret) <| am_f0
theorem mc_90 : ∀ x ∈ am_c90, am_mono x.2 :=
  am_fa (mn_iload _ _) <| am_fa (mn_callS _ _ _) <| am_fa (mn_if _ _ _) <| am_fa (mn_iload _ _) <| am_fa (mn_callS _ _ _) <| am_fa (mn_if _ _ _) <| am_fa (mn_aload _ _) <| am_fa (mn_getP _ _ _) <| am_fa (mn_push _ _) <| am_fa (mn_iload _ _) <| am_fa (mn_bin _ _) <| am_fa (mn_iload _ _) <| am_fa (mn_bin _ _) <| am_fa (mn_ald _ _ _) <| am_fa (mn_goto _) <| am_fa (mn_push _ _) <| am_fa (mn_iret) <| am_f0
theorem mc_91 : ∀ x ∈ am_c91, am_mono x.2 :=
  am_fa (mn_iload _ _) <| am_fa (mn_callS _ _ _) <| am_fa (mn_if _ _ _) <| am_fa (mn_iload _ _) <| am_fa (mn_callS _ _ _) <| am_fa (mn_if _ _ _) <| am_fa (mn_aload _ _) <| am_fa (mn_getP _ _ _) <| am_fa (mn_push _ _) <| am_fa (mn_iload _ _) <| am_fa (mn_bin _ _) <| am_fa (mn_iload _ _) <| am_fa (mn_bin _ _) <| am_fa (mn_ald _ _ _) <| am_fa (mn_if _ _ _) <| am_fa (mn_aload _ _) <| am_fa (mn_getI _ _ _) <| am_fa (mn_aload _ _) <| am_fa (mn_getP _ _ _) <| am_fa (mn_push _ _) <| am_fa (mn_iload _ _) <| am_fa (mn_bin _ _) <| am_fa (mn_iload _ _) <| am_fa (mn_bin _ _) <| am_fa (mn_ald _ _ _) <| am_fa (mn_bin _ _) <| am_fa (mn_goto _) <| am_fa (mn_push _ _) <| am_fa (mn_iret) <| am_f0
theorem mc_92 : ∀ x ∈ am_c92, am_mono x.2 :=
  am_fa (mn_iload _ _) <| am_fa (mn_callS _ _ _) <| am_fa (mn_if _ _ _) <| am_fa (mn_iload _ _) <| am_fa (mn_callS _ _ _) <| am_fa (mn_if _ _ _) <| am_fa (mn_iload _ _) <| am_fa (mn_callS _ _ _) <| am_fa (mn_if _ _ _) <| am_fa (mn_aload _ _) <| am_fa (mn_getP _ _ _) <| am_fa (mn_push _ _) <| am_fa (mn_iload _ _) <| am_fa (mn_bin _ _) <| am_fa (mn_iload _ _) <| am_fa (mn_bin _ _) <| am_fa (mn_ald _ _ _) <| am_fa (mn_if _ _ _) <| am_fa (mn_aload _ _) <| am_fa (mn_getP _ _ _) <| am_fa (mn_push _ _) <| am_fa (mn_push _ _) <| am_fa (mn_iload _ _) <| am_fa (mn_bin _ _) <| am_fa (mn_iload _ _) <| am_fa (mn_bin _ _) <| am_fa (mn_bin _ _) <| am_fa (mn_iload _ _) <| am_fa (mn_bin _ _) <| am_fa (mn_ald _ _ _) <| am_fa (mn_goto _) <| am_fa (mn_push _ _) <| am_fa (mn_iret) <| am_f0
theorem mc_93 : ∀ x ∈ am_c93, am_mono x.2 :=
  am_fa (mn_aload _ _) <| am_fa (mn_iload _ _) <| am_fa (mn_iload _ _) <| am_fa (mn_callV _ _ _ _) <| am_fa (mn_if _ _ _) <| am_fa (mn_push _ _) <| am_fa (mn_iret) <| am_fa (mn_push _ _) <| am_fa (mn_istore _ _) <| am_fa (mn_push _ _) <| am_fa (mn_istore _ _) <| am_fa (mn_iload _ _) <| am_fa (mn_push _ _) <| am_fa (mn_icmp _ _ _) <| am_fa (mn_aload _ _) <| am_fa (mn_getP _ _ _) <| am_fa (mn_push _ _) <| am_fa (mn_push _ _) <| am_fa (mn_iload _ _) <| am_fa (mn_bin _ _) <| am_fa (mn_iload _ _) <| am_fa (mn_bin _ _) <| am_fa (mn_bin _ _) <| am_fa (mn_iload _ _) <| am_fa (mn_bin _ _) <| am_fa (mn_ald _ _ _) <| am_fa (mn_if _ _ _) <| am_fa (mn_iload _ _) <| am_fa (mn_push _ _) <| am_fa (mn_bin _ _) <| am_fa (mn_goto _) <| am_fa (mn_iload _ _) <| am_fa (mn_istore _ _) <| am_fa (mn_iinc _ _ _) <| am_fa (mn_goto _) <| am_fa (mn_iload _ _) <| am_fa (mn_iret) <| am_f0
theorem mc_94 : ∀ x ∈ am_c94, am_mono x.2 :=
  am_fa (mn_aload _ _) <| am_fa (mn_getP _ _ _) <| am_fa (mn_push _ _) <| am_fa (mn_iload _ _) <| am_fa (mn_bin _ _) <| am_fa (mn_iload _ _) <| am_fa (mn_bin _ _) <| am_fa (mn_ald _ _ _) <| am_fa (mn_if _ _ _) <| am_fa (mn_aload _ _) <| am_fa (mn_getP _ _ _) <| am_fa (mn_push _ _) <| am_fa (mn_iload _ _) <| am_fa (mn_bin _ _) <| am_fa (mn_iload _ _) <| am_fa (mn_bin _ _) <| am_fa (mn_ald _ _ _) <| am_fa (mn_if _ _ _) <| am_fa (mn_aload _ _) <| am_fa (mn_getP _ _ _) <| am_fa (mn_push _ _) <| am_fa (mn_push _ _) <| am_fa (mn_iload _ _) <| am_fa (mn_bin _ _) <| am_fa (mn_iload _ _) <| am_fa (mn_bin _ _) <| am_fa (mn_bin _ _) <| am_fa (mn_iload _ _) <| am_fa (mn_bin _ _) <| am_fa (mn_ald _ _ _) <| am_fa (mn_if _ _ _) <| am_fa (mn_push _ _) <| am_fa (mn_goto _) <| am_fa (mn_push _ _) <| am_fa (mn_istore _ _) <| am_fa (mn_aload _ _) <| am_fa (mn_getP _ _ _) <| am_fa (mn_push _ _) <| am_fa (mn_push _ _) <| am_fa (mn_iload _ _) <| am_fa (mn_bin _ _) <| am_fa (mn_iload _ _) <| am_fa (mn_bin _ _) <| am_fa (mn_bin _ _) <| am_fa (mn_iload _ _) <| am_fa (mn_bin _ _) <| am_fa (mn_ald _ _ _) <| am_fa (mn_istore _ _) <| am_fa (mn_iload _ _) <| am_fa (mn_if _ _ _) <| am_fa (mn_iload _ _) <| am_fa (mn_if _ _ _) <| am_fa (mn_iload _ _) <| am_fa (mn_goto _) <| am_fa (mn_push _ _) <| am_fa (mn_iret) <| am_f0
theorem mc_95 : ∀ x ∈ am_c95, am_mono x.2 :=
  am_fa (mn_push _ _) <| am_fa (mn_istore _ _) <| am_fa (mn_iload _ _) <| am_fa (mn_push _ _) <| am_fa (mn_icmp _ _ _) <| am_fa (mn_aload _ _) <| am_fa (mn_getP _ _ _) <| am_fa (mn_iload _ _) <| am_fa (mn_iload _ _) <| am_fa (mn_push _ _) <| am_fa (mn_div _ _) <| am_fa (mn_if _ _ _) <| am_fa (mn_push _ _) <| am_fa (mn_goto _) <| am_fa (mn_aload _ _) <| am_fa (mn_iload _ _) <| am_fa (mn_iload _ _) <| am_fa (mn_push _ _) <| am_fa (mn_div _ _) <| am_fa (mn_iload _ _) <| am_fa (mn_push _ _) <| am_fa (mn_div _ _) <| am_fa (mn_callV _ _ _ _) <| am_fa (mn_ast _ _ _) <| am_fa (mn_iinc _ _ _) <| am_fa (mn_goto _) <| am_fa (mn_push _ _) <| am_fa (mn_istore _ _) <| am_fa (mn_iload _ _) <| am_fa (mn_push _ _) <| am_fa (mn_icmp _ _ _) <| am_fa (mn_push _ _) <| am_fa (mn_istore _ _) <| am_fa (mn_iload _ _) <| am_fa (mn_push _ _) <| am_fa (mn_icmp _ _ _) <| am_fa (mn_aload _ _) <| am_fa (mn_getP _ _ _) <| am_fa (mn_iload _ _) <| am_fa (mn_push _ _) <| am_fa (mn_div _ _) <| am_fa (mn_push _ _) <| am_fa (mn_bin _ _) <| am_fa (mn_iload _ _) <| am_fa (mn_bin _ _) <| am_fa (mn_ald _ _ _) <| am_fa (mn_aload _ _) <| am_fa (mn_getP _ _ _) <| am_fa (mn_push _ _) <| am_fa (mn_iload _ _) <| am_fa (mn_bin _ _) <| am_fa (mn_iload _ _) <| am_fa (mn_push _ _) <| am_fa (mn_div _ _) <| am_fa (mn_bin _ _) <| am_fa (mn_ald _ _ _) <| am_fa (mn_bin _ _) <| am_fa (mn_istore _ _) <| am_fa (mn_aload _ _) <| am_fa (mn_getP _ _ _) <| am_fa (mn_iload _ _) <| am_fa (mn_iload _ _) <| am_fa (mn_aload _ _) <| am_fa (mn_getP _ _ _) <| am_fa (mn_iload _ _) <| am_fa (mn_ald _ _ _) <| am_fa (mn_icmp _ _ _) <| am_fa (mn_iload _ _) <| am_fa (mn_goto _) <| am_fa (mn_aload _ _) <| am_fa (mn_getP _ _ _) <| am_fa (mn_iload _ _) <| am_fa (mn_ald _ _ _) <| am_fa (mn_ast _ _ _) <| am_fa (mn_iinc _ _ _) <| am_fa (mn_goto _) <| am_fa (mn_iinc _ _ _) <| am_fa (mn_goto _) <| am_fa (mn_ret) <| am_f0
theorem mc_96 : ∀ x ∈ am_c96, am_mono x.2 :=
  am_fa (mn_iload _ _) <| am_fa (mn_callS _ _ _) <| am_fa (mn_if _ _ _) <| am_fa (mn_iload _ _) <| am_fa (mn_callS _ _ _) <| am_fa (mn_if _ _ _) <| am_fa (mn_aload _ _) <| am_fa (mn_getP _ _ _) <| am_fa (mn_iload _ _) <| am_fa (mn_ald _ _ _) <| am_fa (mn_if _ _ _) <| am_fa (mn_push _ _) <| am_fa (mn_iret) <| am_fa (mn_aload _ _) <| am_fa (mn_iload _ _) <| am_fa (mn_callV _ _ _ _) <| am_fa (mn_aload _ _) <| am_fa (mn_getP _ _ _) <| am_fa (mn_push _ _) <| am_fa (mn_iload _ _) <| am_fa (mn_bin _ _) <| am_fa (mn_iload _ _) <| am_fa (mn_bin _ _) <| am_fa (mn_ald _ _ _) <| am_fa (mn_push _ _) <| am_fa (mn_icmp _ _ _) <| am_fa (mn_aload _ _) <| am_fa (mn_getP _ _ _) <| am_fa (mn_push _ _) <| am_fa (mn_iload _ _) <| am_fa (mn_bin _ _) <| am_fa (mn_iload _ _) <| am_fa (mn_bin _ _) <| am_fa (mn_ald _ _ _) <| am_fa (mn_goto _) <| am_fa (mn_push _ _) <| am_fa (mn_iret) <| am_f0
theorem mc_97 : ∀ x ∈ am_c97, am_mono x.2 :=
  am_fa (mn_iload _ _) <| am_fa (mn_callS _ _ _) <| am_fa (mn_if _ _ _) <| am_fa (mn_iload _ _) <| am_fa (mn_callS _ _ _) <| am_fa (mn_if _ _ _) <| am_fa (mn_aload _ _) <| am_fa (mn_getP _ _ _) <| am_fa (mn_iload _ _) <| am_fa (mn_ald _ _ _) <| am_fa (mn_if _ _ _) <| am_fa (mn_iload _ _) <| am_fa (mn_iload _ _) <| am_fa (mn_icmp _ _ _) <| am_fa (mn_push _ _) <| am_fa (mn_iret) <| am_fa (mn_aload _ _) <| am_fa (mn_iload _ _) <| am_fa (mn_callV _ _ _ _) <| am_fa (mn_push _ _) <| am_fa (mn_istore _ _) <| am_fa (mn_push _ _) <| am_fa (mn_istore _ _) <| am_fa (mn_iload _ _) <| am_fa (mn_if _ _ _) <| am_fa (mn_iload _ _) <| am_fa (mn_iload _ _) <| am_fa (mn_icmp _ _ _) <| am_fa (mn_push _ _) <| am_fa (mn_goto _) <| am_fa (mn_aload _ _) <| am_fa (mn_iload _ _) <| am_fa (mn_iload _ _) <| am_fa (mn_iload _ _) <| am_fa (mn_callV _ _ _ _) <| am_fa (mn_istore _ _) <| am_fa (mn_aload _ _) <| am_fa (mn_getP _ _ _) <| am_fa (mn_push _ _) <| am_fa (mn_iload _ _) <| am_fa (mn_bin _ _) <| am_fa (mn_iload _ _) <| am_fa (mn_bin _ _) <| am_fa (mn_ald _ _ _) <| am_fa (mn_push _ _) <| am_fa (mn_icmp _ _ _) <| am_fa (mn_iload _ _) <| am_fa (mn_push _ _) <| am_fa (mn_icmp _ _ _) <| am_fa (mn_iload _ _) <| am_fa (mn_aload _ _) <| am_fa (mn_getP _ _ _) <| am_fa (mn_push _ _) <| am_fa (mn_iload _ _) <| am_fa (mn_bin _ _) <| am_fa (mn_iload _ _) <| am_fa (mn_bin _ _) <| am_fa (mn_ald _ _ _) <| am_fa (mn_bin _ _) <| am_fa (mn_aload _ _) <| am_fa (mn_getP _ _ _) <| am_fa (mn_push _ _) <| am_fa (mn_iload _ _) <| am_fa (mn_bin _ _) <| am_fa (mn_iload _ _) <| am_fa (mn_bin _ _) <| am_fa (mn_ald _ _ _) <| am_fa (mn_icmp _ _ _) <| am_fa (mn_iload _ _) <| am_fa (mn_goto _) <| am_fa (mn_iload _ _) <| am_fa (mn_istore _ _) <| am_fa (mn_iinc _ _ _) <| am_fa (mn_goto _) <| am_fa (mn_iload _ _) <| am_fa (mn_iret) <| am_f0
theorem mc_98 : ∀ x ∈ am_c98, am_mono x.2 :=
  am_fa (mn_iload _ _) <| am_fa (mn_callS _ _ _) <| am_fa (mn_if _ _ _) <| am_fa (mn_aload _ _) <| am_fa (mn_getP _ _ _) <| am_fa (mn_iload _ _) <| am_fa (mn_ald _ _ _) <| am_fa (mn_if _ _ _) <| am_fa (mn_iload _ _) <| am_fa (mn_if _ _ _) <| am_fa (mn_iload _ _) <| am_fa (mn_push _ _) <| am_fa (mn_icmp _ _ _) <| am_fa (mn_push _ _) <| am_fa (mn_iret) <| am_fa (mn_aload _ _) <| am_fa (mn_iload _ _) <| am_fa (mn_callV _ _ _ _) <| am_fa (mn_push _ _) <| am_fa (mn_istore _ _) <| am_fa (mn_push _ _) <| am_fa (mn_istore _ _) <| am_fa (mn_push _ _) <| am_fa (mn_istore _ _) <| am_fa (mn_push _ _) <| am_fa (mn_istore _ _) <| am_fa (mn_iload _ _) <| am_fa (mn_push _ _) <| am_fa (mn_icmp _ _ _) <| am_fa (mn_iload _ _) <| am_fa (mn_push _ _) <| am_fa (mn_div _ _) <| am_fa (mn_istore _ _) <| am_fa (mn_push _ _) <| am_fa (mn_push _ _) <| am_fa (mn_iload _ _) <| am_fa (mn_bin _ _) <| am_fa (mn_iload _ _) <| am_fa (mn_bin _ _) <| am_fa (mn_bin _ _) <| am_fa (mn_iload _ _) <| am_fa (mn_push _ _) <| am_fa (mn_div _ _) <| am_fa (mn_bin _ _) <| am_fa (mn_istore _ _) <| am_fa (mn_aload _ _) <| am_fa (mn_getP _ _ _) <| am_fa (mn_push _ _) <| am_fa (mn_iload _ _) <| am_fa (mn_bin _ _) <| am_fa (mn_iload _ _) <| am_fa (mn_bin _ _) <| am_fa (mn_ald _ _ _) <| am_fa (mn_if _ _ _) <| am_fa (mn_aload _ _) <| am_fa (mn_getP _ _ _) <| am_fa (mn_push _ _) <| am_fa (mn_iload _ _) <| am_fa (mn_bin _ _) <| am_fa (mn_iload _ _) <| am_fa (mn_bin _ _) <| am_fa (mn_ald _ _ _) <| am_fa (mn_push _ _) <| am_fa (mn_icmp _ _ _) <| am_fa (mn_aload _ _) <| am_fa (mn_getP _ _ _) <| am_fa (mn_iload _ _) <| am_fa (mn_ald _ _ _) <| am_fa (mn_if _ _ _) <| am_fa (mn_iload _ _) <| am_fa (mn_push _ _) <| am_fa (mn_aload _ _) <| am_fa (mn_getP _ _ _) <| am_fa (mn_iload _ _) <| am_fa (mn_ald _ _ _) <| am_fa (mn_bin _ _) <| am_fa (mn_bin _ _) <| am_fa (mn_aload _ _) <| am_fa (mn_getP _ _ _) <| am_fa (mn_iload _ _) <| am_fa (mn_ald _ _ _) <| am_fa (mn_push _ _) <| am_fa (mn_aload _ _) <| am_fa (mn_getP _ _ _) <| am_fa (mn_iload _ _) <| am_fa (mn_ald _ _ _) <| am_fa (mn_bin _ _) <| am_fa (mn_bin _ _) <| am_fa (mn_icmp _ _ _) <| am_fa (mn_push _ _) <| am_fa (mn_goto _) <| am_fa (mn_push _ _) <| am_fa (mn_istore _ _) <| am_fa (mn_aload _ _) <| am_fa (mn_getP _ _ _) <| am_fa (mn_push _ _) <| am_fa (mn_iload _ _) <| am_fa (mn_bin _ _) <| am_fa (mn_iload _ _) <| am_fa (mn_bin _ _) <| am_fa (mn_ald _ _ _) <| am_fa (mn_aload _ _) <| am_fa (mn_getP _ _ _) <| am_fa (mn_iload _ _) <| am_fa (mn_ald _ _ _) <| am_fa (mn_bin _ _) <| am_fa (mn_istore _ _) <| am_fa (mn_iload _ _) <| am_fa (mn_if _ _ _) <| am_fa (mn_aload _ _) <| am_fa (mn_getP _ _ _) <| am_fa (mn_iload _ _) <| am_fa (mn_ald _ _ _) <| am_fa (mn_iload _ _) <| am_fa (mn_icmp _ _ _) <| am_fa (mn_aload _ _) <| am_fa (mn_getP _ _ _) <| am_fa (mn_iload _ _) <| am_fa (mn_ald _ _ _) <| am_fa (mn_iload _ _) <| am_fa (mn_icmp _ _ _) <| am_fa (mn_iload _ _) <| am_fa (mn_iload _ _) <| am_fa (mn_icmp _ _ _) <| am_fa (mn_iload _ _) <| am_fa (mn_istore _ _) <| am_fa (mn_aload _ _) <| am_fa (mn_getP _ _ _) <| am_fa (mn_iload _ _) <| am_fa (mn_ald _ _ _) <| am_fa (mn_istore _ _) <| am_fa (mn_iload _ _) <| am_fa (mn_istore _ _) <| am_fa (mn_iinc _ _ _) <| am_fa (mn_goto _) <| am_fa (mn_iload _ _) <| am_fa (mn_iret) <| am_f0
theorem mc_99 : ∀ x ∈ am_c99, am_mono x.2 :=
  am_fa (mn_iload _ _) <| am_fa (mn_callS _ _ _) <| am_fa (mn_if _ _ _) <| am_fa (mn_aload _ _) <| am_fa (mn_getP _ _ _) <| am_fa (mn_iload _ _) <| am_fa (mn_ald _ _ _) <| am_fa (mn_if _ _ _) <| am_fa (mn_iload _ _) <| am_fa (mn_if _ _ _) <| am_fa (mn_iload _ _) <| am_fa (mn_push _ _) <| am_fa (mn_icmp _ _ _) <| am_fa (mn_iload _ _) <| am_fa (mn_push _ _) <| am_fa (mn_icmp _ _ _) <| am_fa (mn_iload _ _) <| am_fa (mn_push _ _) <| am_fa (mn_icmp _ _ _) <| am_fa (mn_push _ _) <| am_fa (mn_iret) <| am_fa (mn_iload _ _) <| am_fa (mn_istore _ _) <| am_fa (mn_iload _ _) <| am_fa (mn_istore _ _) <| am_fa (mn_push _ _) <| am_fa (mn_istore _ _) <| am_fa (mn_iload _ _) <| am_fa (mn_push _ _) <| am_fa (mn_icmp _ _ _) <| am_fa (mn_aload _ _) <| am_fa (mn_iload _ _) <| am_fa (mn_iload _ _) <| am_fa (mn_callV _ _ _ _) <| am_fa (mn_istore _ _) <| am_fa (mn_iload _ _) <| am_fa (mn_if _ _ _) <| am_fa (mn_push _ _) <| am_fa (mn_iload _ _) <| am_fa (mn_bin _ _) <| am_fa (mn_iret) <| am_fa (mn_iload _ _) <| am_fa (mn_iload _ _) <| am_fa (mn_icmp _ _ _) <| am_fa (mn_push _ _) <| am_fa (mn_iload _ _) <| am_fa (mn_bin _ _) <| am_fa (mn_iret) <| am_fa (mn_iload _ _) <| am_fa (mn_push _ _) <| am_fa (mn_icmp _ _ _) <| am_fa (mn_push _ _) <| am_fa (mn_iload _ _) <| am_fa (mn_bin _ _) <| am_fa (mn_iret) <| am_fa (mn_iload _ _) <| am_fa (mn_push _ _) <| am_fa (mn_bin _ _) <| am_fa (mn_istore _ _) <| am_fa (mn_aload _ _) <| am_fa (mn_iload _ _) <| am_fa (mn_iload _ _) <| am_fa (mn_callV _ _ _ _) <| am_fa (mn_istore _ _) <| am_fa (mn_aload _ _) <| am_fa (mn_iload _ _) <| am_fa (mn_iload _ _) <| am_fa (mn_callV _ _ _ _) <| am_fa (mn_if _ _ _) <| am_fa (mn_aload _ _) <| am_fa (mn_getP _ _ _) <| am_fa (mn_iload _ _) <| am_fa (mn_ald _ _ _) <| am_fa (mn_if _ _ _) <| am_fa (mn_push _ _) <| am_fa (mn_iload _ _) <| am_fa (mn_bin _ _) <| am_fa (mn_iret) <| am_fa (mn_iload _ _) <| am_fa (mn_istore _ _) <| am_fa (mn_iinc _ _ _) <| am_fa (mn_goto _) <| am_fa (mn_push _ _) <| am_fa (mn_iret) <| am_f0
theorem mc_100 : ∀ x ∈ am_c100, am_mono x.2 :=
  am_fa (mn_iload _ _) <| am_fa (mn_if _ _ _) <| am_fa (mn_iload _ _) <| am_fa (mn_push _ _) <| am_fa (mn_icmp _ _ _) <| am_fa (mn_push _ _) <| am_fa (mn_goto _) <| am_fa (mn_aload _ _) <| am_fa (mn_getP _ _ _) <| am_fa (mn_iload _ _) <| am_fa (mn_ald _ _ _) <| am_fa (mn_iret) <| am_f0
set_option maxRecDepth 100000 in
theorem mc_101 : ∀ x ∈ am_c101, am_mono x.2 :=
  am_fa (mn_new _ _ _) <| am_fa (mn_dup _) <| am_fa (mn_callV _ _ _ _) <| am_fa (mn_astore _ _) <| am_fa (mn_new _ _ _) <| am_fa (mn_dup _) <| am_fa (mn_callV _ _ _ _) <| am_fa (mn_astore _ _) <| am_fa (mn_push _ _) <| am_fa (mn_istore _ _) <| am_fa (mn_iload _ _) <| am_fa (mn_aload _ _) <| am_fa (mn_slen _) <| am_fa (mn_push _ _) <| am_fa (mn_bin _ _) <| am_fa (mn_icmp _ _ _) <| am_fa (mn_aload _ _) <| am_fa (mn_iload _ _) <| am_fa (mn_sld _) <| am_fa (mn_push _ _) <| am_fa (mn_bin _ _) <| am_fa (mn_switch _ _ _ _) <| am_fa (mn_aload _ _) <| am_fa (mn_aload _ _) <| am_fa (mn_iload _ _) <| am_fa (mn_push _ _) <| am_fa (mn_bin _ _) <| am_fa (mn_sld _) <| am_fa (mn_aload _ _) <| am_fa (mn_iload _ _) <| am_fa (mn_push _ _) <| am_fa (mn_bin _ _) <| am_fa (mn_sld _) <| am_fa (mn_aload _ _) <| am_fa (mn_iload _ _) <| am_fa (mn_push _ _) <| am_fa (mn_bin _ _) <| am_fa (mn_sld _) <| am_fa (mn_callV _ _ _ _) <| am_fa (mn_aload _ _) <| am_fa (mn_aload _ _) <| am_fa (mn_iload _ _) <| am_fa (mn_push _ _) <| am_fa (mn_bin _ _) <| am_fa (mn_sld _) <| am_fa (mn_aload _ _) <| am_fa (mn_iload _ _) <| am_fa (mn_push _ _) <| am_fa (mn_bin _ _) <| am_fa (mn_sld _) <| am_fa (mn_aload _ _) <| am_fa (mn_iload _ _) <| am_fa (mn_push _ _) <| am_fa (mn_bin _ _) <| am_fa (mn_sld _) <| am_fa (mn_callV _ _ _ _) <| am_fa (mn_icmp _ _ _) <| am_fa (mn_push _ _) <| am_fa (mn_zret) <| am_fa (mn_aload _ _) <| am_fa (mn_aload _ _) <| am_fa (mn_iload _ _) <| am_fa (mn_push _ _) <| am_fa (mn_bin _ _) <| am_fa (mn_sld _) <| am_fa (mn_aload _ _) <| am_fa (mn_iload _ _) <| am_fa (mn_push _ _) <| am_fa (mn_bin _ _) <| am_fa (mn_sld _) <| am_fa (mn_aload _ _) <| am_fa (mn_iload _ _) <| am_fa (mn_push _ _) <| am_fa (mn_bin _ _) <| am_fa (mn_sld _) <| am_fa (mn_aload _ _) <| am_fa (mn_iload _ _) <| am_fa (mn_push _ _) <| am_fa (mn_bin _ _) <| am_fa (mn_sld _) <| am_fa (mn_aload _ _) <| am_fa (mn_iload _ _) <| am_fa (mn_push _ _) <| am_fa (mn_bin _ _) <| am_fa (mn_sld _) <| am_fa (mn_callV _ _ _ _) <| am_fa (mn_aload _ _) <| am_fa (mn_aload _ _) <| am_fa (mn_iload _ _) <| am_fa (mn_push _ _) <| am_fa (mn_bin _ _) <| am_fa (mn_sld _) <| am_fa (mn_aload _ _) <| am_fa (mn_iload _ _) <| am_fa (mn_push _ _) <| am_fa (mn_bin _ _) <| am_fa (mn_sld _) <| am_fa (mn_aload _ _) <| am_fa (mn_iload _ _) <| am_fa (mn_push _ _) <| am_fa (mn_bin _ _) <| am_fa (mn_sld _) <| am_fa (mn_aload _ _) <| am_fa (mn_iload _ _) <| am_fa (mn_push _ _) <| am_fa (mn_bin _ _) <| am_fa (mn_sld _) <| am_fa (mn_aload _ _) <| am_fa (mn_iload _ _) <| am_fa (mn_push _ _) <| am_fa (mn_bin _ _) <| am_fa (mn_sld _) <| am_fa (mn_callV _ _ _ _) <| am_fa (mn_icmp _ _ _) <| am_fa (mn_push _ _) <| am_fa (mn_zret) <| am_fa (mn_aload _ _) <| am_fa (mn_aload _ _) <| am_fa (mn_iload _ _) <| am_fa (mn_push _ _) <| am_fa (mn_bin _ _) <| am_fa (mn_sld _) <| am_fa (mn_aload _ _) <| am_fa (mn_iload _ _) <| am_fa (mn_push _ _) <| am_fa (mn_bin _ _) <| am_fa (mn_sld _) <| am_fa (mn_if _ _ _) <| am_fa (mn_push _ _) <| am_fa (mn_goto _) <| am_fa (mn_push _ _) <| am_fa (mn_callV _ _ _ _) <| am_fa (mn_aload _ _) <| am_fa (mn_aload _ _) <| am_fa (mn_iload _ _) <| am_fa (mn_push _ _) <| am_fa (mn_bin _ _) <| am_fa (mn_sld _) <| am_fa (mn_aload _ _) <| am_fa (mn_iload _ _) <| am_fa (mn_push _ _) <| am_fa (mn_bin _ _) <| am_fa (mn_sld _) <| am_fa (mn_if _ _ _) <| am_fa (mn_push _ _) <| am_fa (mn_goto _) <| am_fa (mn_push _ _) <| am_fa (mn_callV _ _ _ _) <| am_fa (mn_icmp _ _ _) <| am_fa (mn_push _ _) <| am_fa (mn_zret) <| am_fa (mn_aload _ _) <| am_fa (mn_aload _ _) <| am_fa (mn_iload _ _) <| am_fa (mn_push _ _) <| am_fa (mn_bin _ _) <| am_fa (mn_sld _) <| am_fa (mn_aload _ _) <| am_fa (mn_iload _ _) <| am_fa (mn_push _ _) <| am_fa (mn_bin _ _) <| am_fa (mn_sld _) <| am_fa (mn_aload _ _) <| am_fa (mn_iload _ _) <| am_fa (mn_push _ _) <| am_fa (mn_bin _ _) <| am_fa (mn_sld _) <| am_fa (mn_callV _ _ _ _) <| am_fa (mn_aload _ _) <| am_fa (mn_aload _ _) <| am_fa (mn_iload _ _) <| am_fa (mn_push _ _) <| am_fa (mn_bin _ _) <| am_fa (mn_sld _) <| am_fa (mn_aload _ _) <| am_fa (mn_iload _ _) <| am_fa (mn_push _ _) <| am_fa (mn_bin _ _) <| am_fa (mn_sld _) <| am_fa (mn_aload _ _) <| am_fa (mn_iload _ _) <| am_fa (mn_push _ _) <| am_fa (mn_bin _ _) <| am_fa (mn_sld _) <| am_fa (mn_callV _ _ _ _) <| am_fa (mn_icmp _ _ _) <| am_fa (mn_push _ _) <| am_fa (mn_zret) <| am_fa (mn_aload _ _) <| am_fa (mn_aload _ _) <| am_fa (mn_iload _ _) <| am_fa (mn_push _ _) <| am_fa (mn_bin _ _) <| am_fa (mn_sld _) <| am_fa (mn_callV _ _ _ _) <| am_fa (mn_aload _ _) <| am_fa (mn_aload _ _) <| am_fa (mn_iload _ _) <| am_fa (mn_push _ _) <| am_fa (mn_bin _ _) <| am_fa (mn_sld _) <| am_fa (mn_callV _ _ _ _) <| am_fa (mn_icmp _ _ _) <| am_fa (mn_push _ _) <| am_fa (mn_zret) <| am_fa (mn_aload _ _) <| am_fa (mn_aload _ _) <| am_fa (mn_iload _ _) <| am_fa (mn_push _ _) <| am_fa (mn_bin _ _) <| am_fa (mn_sld _) <| am_fa (mn_aload _ _) <| am_fa (mn_iload _ _) <| am_fa (mn_push _ _) <| am_fa (mn_bin _ _) <| am_fa (mn_sld _) <| am_fa (mn_callV _ _ _ _) <| am_fa (mn_aload _ _) <| am_fa (mn_aload _ _) <| am_fa (mn_iload _ _) <| am_fa (mn_push _ _) <| am_fa (mn_bin _ _) <| am_fa (mn_sld _) <| am_fa (mn_aload _ _) <| am_fa (mn_iload _ _) <| am_fa (mn_push _ _) <| am_fa (mn_bin _ _) <| am_fa (mn_sld _) <| am_fa (mn_callV _ _ _ _) <| am_fa (mn_icmp _ _ _) <| am_fa (mn_push _ _) <| am_fa (mn_zret) <| am_fa (mn_aload _ _) <| am_fa (mn_aload _ _) <| am_fa (mn_iload _ _) <| am_fa (mn_push _ _) <| am_fa (mn_bin _ _) <| am_fa (mn_sld _) <| am_fa (mn_aload _ _) <| am_fa (mn_iload _ _) <| am_fa (mn_push _ _) <| am_fa (mn_bin _ _) <| am_fa (mn_sld _) <| am_fa (mn_callV _ _ _ _) <| am_fa (mn_aload _ _) <| am_fa (mn_aload _ _) <| am_fa (mn_iload _ _) <| am_fa (mn_push _ _) <| am_fa (mn_bin _ _) <| am_fa (mn_sld _) <| am_fa (mn_aload _ _) <| am_fa (mn_iload _ _) <| am_fa (mn_push _ _) <| am_fa (mn_bin _ _) <| am_fa (mn_sld _) <| am_fa (mn_callV _ _ _ _) <| am_fa (mn_icmp _ _ _) <| am_fa (mn_push _ _) <| am_fa (mn_zret) <| am_fa (mn_aload _ _) <| am_fa (mn_aload _ _) <| am_fa (mn_iload _ _) <| am_fa (mn_push _ _) <| am_fa (mn_bin _ _) <| am_fa (mn_sld _) <| am_fa (mn_aload _ _) <| am_fa (mn_iload _ _) <| am_fa (mn_push _ _) <| am_fa (mn_bin _ _) <| am_fa (mn_sld _) <| am_fa (mn_callV _ _ _ _) <| am_fa (mn_aload _ _) <| am_fa (mn_aload _ _) <| am_fa (mn_iload _ _) <| am_fa (mn_push _ _) <| am_fa (mn_bin _ _) <| am_fa (mn_sld _) <| am_fa (mn_aload _ _) <| am_fa (mn_iload _ _) <| am_fa (mn_push _ _) <| am_fa (mn_bin _ _) <| am_fa (mn_sld _) <| am_fa (mn_callV _ _ _ _) <| am_fa (mn_icmp _ _ _) <| am_fa (mn_push _ _) <| am_fa (mn_zret) <| am_fa (mn_aload _ _) <| am_fa (mn_aload _ _) <| am_fa (mn_iload _ _) <| am_fa (mn_push _ _) <| am_fa (mn_bin _ _) <| am_fa (mn_sld _) <| am_fa (mn_aload _ _) <| am_fa (mn_iload _ _) <| am_fa (mn_push _ _) <| am_fa (mn_bin _ _) <| am_fa (mn_sld _) <| am_fa (mn_aload _ _) <| am_fa (mn_iload _ _) <| am_fa (mn_push _ _) <| am_fa (mn_bin _ _) <| am_fa (mn_sld _) <| am_fa (mn_callV _ _ _ _) <| am_fa (mn_aload _ _) <| am_fa (mn_aload _ _) <| am_fa (mn_iload _ _) <| am_fa (mn_push _ _) <| am_fa (mn_bin _ _) <| am_fa (mn_sld _) <| am_fa (mn_aload _ _) <| am_fa (mn_iload _ _) <| am_fa (mn_push _ _) <| am_fa (mn_bin _ _) <| am_fa (mn_sld _) <| am_fa (mn_aload _ _) <| am_fa (mn_iload _ _) <| am_fa (mn_push _ _) <| am_fa (mn_bin _ _) <| am_fa (mn_sld _) <| am_fa (mn_callV _ _ _ _) <| am_fa (mn_icmp _ _ _) <| am_fa (mn_push _ _) <| am_fa (mn_zret) <| am_fa (mn_aload _ _) <| am_fa (mn_aload _ _) <| am_fa (mn_iload _ _) <| am_fa (mn_push _ _) <| am_fa (mn_bin _ _) <| am_fa (mn_sld _) <| am_fa (mn_aload _ _) <| am_fa (mn_iload _ _) <| am_fa (mn_push _ _) <| am_fa (mn_bin _ _) <| am_fa (mn_sld _) <| am_fa (mn_callV _ _ _ _) <| am_fa (mn_aload _ _) <| am_fa (mn_aload _ _) <| am_fa (mn_iload _ _) <| am_fa (mn_push _ _) <| am_fa (mn_bin _ _) <| am_fa (mn_sld _) <| am_fa (mn_aload _ _) <| am_fa (mn_iload _ _) <| am_fa (mn_push _ _) <| am_fa (mn_bin _ _) <| am_fa (mn_sld _) <| am_fa (mn_callV _ _ _ _) <| am_fa (mn_icmp _ _ _) <| am_fa (mn_push _ _) <| am_fa (mn_zret) <| am_fa (mn_aload _ _) <| am_fa (mn_aload _ _) <| am_fa (mn_iload _ _) <| am_fa (mn_push _ _) <| am_fa (mn_bin _ _) <| am_fa (mn_sld _) <| am_fa (mn_aload _ _) <| am_fa (mn_iload _ _) <| am_fa (mn_push _ _) <| am_fa (mn_bin _ _) <| am_fa (mn_sld _) <| am_fa (mn_callV _ _ _ _) <| am_fa (mn_aload _ _) <| am_fa (mn_aload _ _) <| am_fa (mn_iload _ _) <| am_fa (mn_push _ _) <| am_fa (mn_bin _ _) <| am_fa (mn_sld _) <| am_fa (mn_aload _ _) <| am_fa (mn_iload _ _) <| am_fa (mn_push _ _) <| am_fa (mn_bin _ _) <| am_fa (mn_sld _) <| am_fa (mn_callV _ _ _ _) <| am_fa (mn_icmp _ _ _) <| am_fa (mn_push _ _) <| am_fa (mn_zret) <| am_fa (mn_aload _ _) <| am_fa (mn_aload _ _) <| am_fa (mn_iload _ _) <| am_fa (mn_push _ _) <| am_fa (mn_bin _ _) <| am_fa (mn_sld _) <| am_fa (mn_aload _ _) <| am_fa (mn_iload _ _) <| am_fa (mn_push _ _) <| am_fa (mn_bin _ _) <| am_fa (mn_sld _) <| am_fa (mn_callV _ _ _ _) <| am_fa (mn_aload _ _) <| am_fa (mn_aload _ _) <| am_fa (mn_iload _ _) <| am_fa (mn_push _ _) <| am_fa (mn_bin _ _) <| am_fa (mn_sld _) <| am_fa (mn_aload _ _) <| am_fa (mn_iload _ _) <| am_fa (mn_push _ _) <| am_fa (mn_bin _ _) <| am_fa (mn_sld _) <| am_fa (mn_callV _ _ _ _) <| am_fa (mn_icmp _ _ _) <| am_fa (mn_push _ _) <| am_fa (mn_zret) <| am_fa (mn_aload _ _) <| am_fa (mn_aload _ _) <| am_fa (mn_iload _ _) <| am_fa (mn_push _ _) <| am_fa (mn_bin _ _) <| am_fa (mn_sld _) <| am_fa (mn_aload _ _) <| am_fa (mn_iload _ _) <| am_fa (mn_push _ _) <| am_fa (mn_bin _ _) <| am_fa (mn_sld _) <| am_fa (mn_callV _ _ _ _) <| am_fa (mn_aload _ _) <| am_fa (mn_aload _ _) <| am_fa (mn_iload _ _) <| am_fa (mn_push _ _) <| am_fa (mn_bin _ _) <| am_fa (mn_sld _) <| am_fa (mn_aload _ _) <| am_fa (mn_iload _ _) <| am_fa (mn_push _ _) <| am_fa (mn_bin _ _) <| am_fa (mn_sld _) <| am_fa (mn_callV _ _ _ _) <| am_fa (mn_icmp _ _ _) <| am_fa (mn_push _ _) <| am_fa (mn_zret) <| am_fa (mn_aload _ _) <| am_fa (mn_aload _ _) <| am_fa (mn_iload _ _) <| am_fa (mn_push _ _) <| am_fa (mn_bin _ _) <| am_fa (mn_sld _) <| am_fa (mn_aload _ _) <| am_fa (mn_iload _ _) <| am_fa (mn_push _ _) <| am_fa (mn_bin _ _) <| am_fa (mn_sld _) <| am_fa (mn_aload _ _) <| am_fa (mn_iload _ _) <| am_fa (mn_push _ _) <| am_fa (mn_bin _ _) <| am_fa (mn_sld _) <| am_fa (mn_callV _ _ _ _) <| am_fa (mn_aload _ _) <| am_fa (mn_aload _ _) <| am_fa (mn_iload _ _) <| am_fa (mn_push _ _) <| am_fa (mn_bin _ _) <| am_fa (mn_sld _) <| am_fa (mn_aload _ _) <| am_fa (mn_iload _ _) <| am_fa (mn_push _ _) <| am_fa (mn_bin _ _) <| am_fa (mn_sld _) <| am_fa (mn_aload _ _) <| am_fa (mn_iload _ _) <| am_fa (mn_push _ _) <| am_fa (mn_bin _ _) <| am_fa (mn_sld _) <| am_fa (mn_callV _ _ _ _) <| am_fa (mn_icmp _ _ _) <| am_fa (mn_push _ _) <| am_fa (mn_zret) <| am_fa (mn_aload _ _) <| am_fa (mn_aload _ _) <| am_fa (mn_iload _ _) <| am_fa (mn_push _ _) <| am_fa (mn_bin _ _) <| am_fa (mn_sld _) <| am_fa (mn_callV _ _ _ _) <| am_fa (mn_aload _ _) <| am_fa (mn_aload _ _) <| am_fa (mn_iload _ _) <| am_fa (mn_push _ _) <| am_fa (mn_bin _ _) <| am_fa (mn_sld _) <| am_fa (mn_callV _ _ _ _) <| am_fa (mn_icmp _ _ _) <| am_fa (mn_push _ _) <| am_fa (mn_zret) <| am_fa (mn_iinc _ _ _) <| am_fa (mn_goto _) <| am_fa (mn_push _ _) <| am_fa (mn_zret) <| am_f0
def am_gg (P : Nat → Nat → am_T → Prop) (n : Nat) (cs : List (List (Nat × am_T))) : Prop := ∀ (i : Nat) (l : List (Nat × am_T)), cs[i]? = some l → ∀ x ∈ l, P (n + i) x.1 x.2
theorem am_g0 {P : Nat → Nat → am_T → Prop} {n : Nat} : am_gg P n [] := fun i l h => by simp at h
theorem am_gs {P : Nat → Nat → am_T → Prop} {n : Nat} {l : List (Nat × am_T)} {cs : List (List (Nat × am_T))} (h : ∀ x ∈ l, P n x.1 x.2) (g : am_gg P (n + 1) cs) : am_gg P n (l :: cs) := by
  intro i l' hl x hx
  cases i with
  | zero =>
    cases hl
    exact h x hx
  | succ i =>
    have e := g i l' hl x hx
    rw [show n + 1 + i = n + (i + 1) by omega] at e
    exact e
theorem am_look {l : List (Nat × am_T)} {pc : Nat} {t : am_T} (h : l.lookup pc = some t) : (pc, t) ∈ l := by
  induction l with
  | nil => cases h
  | cons x l ih =>
    obtain ⟨q, u⟩ := x
    by_cases e : pc = q
    · subst e
      rw [List.lookup_cons, beq_self_eq_true] at h
      cases h
      exact List.mem_cons_self
    · rw [List.lookup_cons, show (pc == q) = false from by simpa using e] at h
      exact List.mem_cons_of_mem _ (ih h)
theorem am_ggu {P : Nat → Nat → am_T → Prop} (g : am_gg P 0 am_cs) : ∀ j pc t, am_code j pc = some t → P j pc t := by
  intro j pc t h
  unfold am_code at h
  rw [List.getD_eq_getElem?_getD] at h
  cases e : am_cs[j]? with
  | none => rw [e] at h; cases h
  | some l =>
    rw [e] at h
    have q := g j l e (pc, t) (am_look h)
    rw [Nat.zero_add] at q
    exact q
theorem am_monos : ∀ j pc t, am_code j pc = some t → am_mono t := am_ggu (P := fun _ _ t => am_mono t) (am_gs mc_0 <| am_gs mc_1 <| am_gs mc_2 <| am_gs mc_3 <| am_gs mc_4 <| am_gs mc_5 <| am_gs mc_6 <| am_gs mc_7 <| am_gs mc_8 <| am_gs mc_9 <| am_gs mc_10 <| am_gs mc_11 <| am_gs mc_12 <| am_gs mc_13 <| am_gs mc_14 <| am_gs mc_15 <| am_gs mc_16 <| am_gs mc_17 <| am_gs mc_18 <| am_gs mc_19 <| am_gs mc_20 <| am_gs mc_21 <| am_gs mc_22 <| am_gs mc_23 <| am_gs mc_24 <| am_gs mc_25 <| am_gs mc_26 <| am_gs mc_27 <| am_gs mc_28 <| am_gs mc_29 <| am_gs mc_30 <| am_gs mc_31 <| am_gs mc_32 <| am_gs mc_33 <| am_gs mc_34 <| am_gs mc_35 <| am_gs mc_36 <| am_gs mc_37 <| am_gs mc_38 <| am_gs mc_39 <| am_gs mc_40 <| am_gs mc_41 <| am_gs mc_42 <| am_gs mc_43 <| am_gs mc_44 <| am_gs mc_45 <| am_gs mc_46 <| am_gs mc_47 <| am_gs mc_48 <| am_gs mc_49 <| am_gs mc_50 <| am_gs mc_51 <| am_gs mc_52 <| am_gs mc_53 <| am_gs mc_54 <| am_gs mc_55 <| am_gs mc_56 <| am_gs mc_57 <| am_gs mc_58 <| am_gs mc_59 <| am_gs mc_60 <| am_gs mc_61 <| am_gs mc_62 <| am_gs mc_63 <| am_gs mc_64 <| am_gs mc_65 <| am_gs mc_66 <| am_gs mc_67 <| am_gs mc_68 <| am_gs mc_69 <| am_gs mc_70 <| am_gs mc_71 <| am_gs mc_72 <| am_gs mc_73 <| am_gs mc_74 <| am_gs mc_75 <| am_gs mc_76 <| am_gs mc_77 <| am_gs mc_78 <| am_gs mc_79 <| am_gs mc_80 <| am_gs mc_81 <| am_gs mc_82 <| am_gs mc_83 <| am_gs mc_84 <| am_gs mc_85 <| am_gs mc_86 <| am_gs mc_87 <| am_gs mc_88 <| am_gs mc_89 <| am_gs mc_90 <| am_gs mc_91 <| am_gs mc_92 <| am_gs mc_93 <| am_gs mc_94 <| am_gs mc_95 <| am_gs mc_96 <| am_gs mc_97 <| am_gs mc_98 <| am_gs mc_99 <| am_gs mc_100 <| am_gs mc_101 <| am_g0)
end
section
abbrev am_KD : Type := (String × u_T × Nat × (Nat → FieldType)) ⊕ (FieldType × Nat)
def am_T1 : u_T := fun k => match k with
  | 0 => ("LinkStateNet", "routers", "[LLinkStateNet$Router;", true)
  | 1 => ("LinkStateNet", "updates", "[LLinkStateNet$Update;", true)
  | 2 => ("LinkStateNet", "routes", "LLinkStateNet$Routes;", true)
  | 3 => ("LinkStateNet", "counts", "[I", true)
  | _ => ("LinkStateNet", "clock", "I", false)
def am_ty1 : Nat → FieldType := fun k => match k with
  | 0 => .array (.object "LinkStateNet$Router")
  | 1 => .array (.object "LinkStateNet$Update")
  | 2 => .object "LinkStateNet$Routes"
  | 3 => .array .int
  | _ => .int
def am_o1 : String × u_T × Nat × (Nat → FieldType) := ("LinkStateNet", am_T1, 5, am_ty1)
theorem am_o1_ty : ∀ x, x < am_o1.2.2.1 → parseFieldDescriptor (am_o1.2.1 x).2.2.1 = some (am_o1.2.2.2 x) := by decide +kernel
theorem am_o1_nm : ∀ x, x < am_o1.2.2.1 → ∀ y, y < am_o1.2.2.1 → x ≠ y → (am_o1.2.1 x).2.1 ≠ (am_o1.2.1 y).2.1 := by decide +kernel
theorem am_o1_dv : ∀ x, x < 5 → defaultValue (am_o1.2.2.2 x) = if (am_o1.2.2.2 x).isReference = true then .null else .int 0 := by decide +kernel
def am_T3 : u_T := fun k => match k with
  | 0 => ("LinkStateNet$Router", "id", "I", true)
  | 1 => ("LinkStateNet$Router", "on", "Z", false)
  | 2 => ("LinkStateNet$Router", "latestNumber", "I", false)
  | 3 => ("LinkStateNet$Router", "pressed", "Z", false)
  | 4 => ("LinkStateNet$Router", "latest", "LLinkStateNet$Description;", false)
  | 5 => ("LinkStateNet$Router", "stubs", "[LLinkStateNet$Stub;", true)
  | 6 => ("LinkStateNet$Router", "held", "[LLinkStateNet$Description;", true)
  | _ => ("LinkStateNet$Router", "ends", "[LLinkStateNet$LinkEnd;", true)
def am_ty3 : Nat → FieldType := fun k => match k with
  | 0 => .int
  | 1 => .boolean
  | 2 => .int
  | 3 => .boolean
  | 4 => .object "LinkStateNet$Description"
  | 5 => .array (.object "LinkStateNet$Stub")
  | 6 => .array (.object "LinkStateNet$Description")
  | _ => .array (.object "LinkStateNet$LinkEnd")
def am_o3 : String × u_T × Nat × (Nat → FieldType) := ("LinkStateNet$Router", am_T3, 8, am_ty3)
theorem am_o3_ty : ∀ x, x < am_o3.2.2.1 → parseFieldDescriptor (am_o3.2.1 x).2.2.1 = some (am_o3.2.2.2 x) := by decide +kernel
theorem am_o3_nm : ∀ x, x < am_o3.2.2.1 → ∀ y, y < am_o3.2.2.1 → x ≠ y → (am_o3.2.1 x).2.1 ≠ (am_o3.2.1 y).2.1 := by decide +kernel
theorem am_o3_dv : ∀ x, x < 8 → defaultValue (am_o3.2.2.2 x) = if (am_o3.2.2.2 x).isReference = true then .null else .int 0 := by decide +kernel
def am_T7 : u_T := fun k => match k with
  | 0 => ("LinkStateNet$LinkEnd", "cost", "I", false)
  | 1 => ("LinkStateNet$LinkEnd", "losses", "I", false)
  | 2 => ("LinkStateNet$LinkEnd", "heard", "Z", false)
  | 3 => ("LinkStateNet$LinkEnd", "heardBeforeHellos", "Z", false)
  | 4 => ("LinkStateNet$LinkEnd", "heardAt", "I", false)
  | 5 => ("LinkStateNet$LinkEnd", "mutual", "Z", false)
  | 6 => ("LinkStateNet$LinkEnd", "full", "Z", false)
  | 7 => ("LinkStateNet$LinkEnd", "becameFull", "Z", false)
  | _ => ("LinkStateNet$LinkEnd", "sentAt", "[I", true)
def am_ty7 : Nat → FieldType := fun k => match k with
  | 0 => .int
  | 1 => .int
  | 2 => .boolean
  | 3 => .boolean
  | 4 => .int
  | 5 => .boolean
  | 6 => .boolean
  | 7 => .boolean
  | _ => .array .int
def am_o7 : String × u_T × Nat × (Nat → FieldType) := ("LinkStateNet$LinkEnd", am_T7, 9, am_ty7)
theorem am_o7_ty : ∀ x, x < am_o7.2.2.1 → parseFieldDescriptor (am_o7.2.1 x).2.2.1 = some (am_o7.2.2.2 x) := by decide +kernel
theorem am_o7_nm : ∀ x, x < am_o7.2.2.1 → ∀ y, y < am_o7.2.2.1 → x ≠ y → (am_o7.2.1 x).2.1 ≠ (am_o7.2.1 y).2.1 := by decide +kernel
theorem am_o7_dv : ∀ x, x < 9 → defaultValue (am_o7.2.2.2 x) = if (am_o7.2.2.2 x).isReference = true then .null else .int 0 := by decide +kernel
def am_T10 : u_T := fun k => match k with
  | 0 => ("LinkStateNet$Update", "comes", "Z", false)
  | 1 => ("LinkStateNet$Update", "carried", "[LLinkStateNet$Description;", true)
  | _ => ("LinkStateNet$Update", "taken", "[Z", true)
def am_ty10 : Nat → FieldType := fun k => match k with
  | 0 => .boolean
  | 1 => .array (.object "LinkStateNet$Description")
  | _ => .array .boolean
def am_o10 : String × u_T × Nat × (Nat → FieldType) := ("LinkStateNet$Update", am_T10, 3, am_ty10)
theorem am_o10_ty : ∀ x, x < am_o10.2.2.1 → parseFieldDescriptor (am_o10.2.1 x).2.2.1 = some (am_o10.2.2.2 x) := by decide +kernel
theorem am_o10_nm : ∀ x, x < am_o10.2.2.1 → ∀ y, y < am_o10.2.2.1 → x ≠ y → (am_o10.2.1 x).2.1 ≠ (am_o10.2.1 y).2.1 := by decide +kernel
theorem am_o10_dv : ∀ x, x < 3 → defaultValue (am_o10.2.2.2 x) = if (am_o10.2.2.2 x).isReference = true then .null else .int 0 := by decide +kernel
def am_T13 : u_T := fun k => match k with
  | 0 => ("LinkStateNet$Routes", "edges", "[[I", true)
  | _ => ("LinkStateNet$Routes", "distances", "[[I", true)
def am_ty13 : Nat → FieldType := fun k => match k with
  | 0 => .array (.array .int)
  | _ => .array (.array .int)
def am_o13 : String × u_T × Nat × (Nat → FieldType) := ("LinkStateNet$Routes", am_T13, 2, am_ty13)
theorem am_o13_ty : ∀ x, x < am_o13.2.2.1 → parseFieldDescriptor (am_o13.2.1 x).2.2.1 = some (am_o13.2.2.2 x) := by decide +kernel
theorem am_o13_nm : ∀ x, x < am_o13.2.2.1 → ∀ y, y < am_o13.2.2.1 → x ≠ y → (am_o13.2.1 x).2.1 ≠ (am_o13.2.1 y).2.1 := by decide +kernel
theorem am_o13_dv : ∀ x, x < 2 → defaultValue (am_o13.2.2.2 x) = if (am_o13.2.2.2 x).isReference = true then .null else .int 0 := by decide +kernel
def am_T19 : u_T := fun k => match k with
  | 0 => ("LinkStateNet$Description", "origin", "I", true)
  | 1 => ("LinkStateNet$Description", "number", "I", true)
  | 2 => ("LinkStateNet$Description", "birth", "I", true)
  | 3 => ("LinkStateNet$Description", "costs", "[I", true)
  | _ => ("LinkStateNet$Description", "stubs", "[LLinkStateNet$Stub;", true)
def am_ty19 : Nat → FieldType := fun k => match k with
  | 0 => .int
  | 1 => .int
  | 2 => .int
  | 3 => .array .int
  | _ => .array (.object "LinkStateNet$Stub")
def am_o19 : String × u_T × Nat × (Nat → FieldType) := ("LinkStateNet$Description", am_T19, 5, am_ty19)
theorem am_o19_ty : ∀ x, x < am_o19.2.2.1 → parseFieldDescriptor (am_o19.2.1 x).2.2.1 = some (am_o19.2.2.2 x) := by decide +kernel
theorem am_o19_nm : ∀ x, x < am_o19.2.2.1 → ∀ y, y < am_o19.2.2.1 → x ≠ y → (am_o19.2.1 x).2.1 ≠ (am_o19.2.1 y).2.1 := by decide +kernel
theorem am_o19_dv : ∀ x, x < 5 → defaultValue (am_o19.2.2.2 x) = if (am_o19.2.2.2 x).isReference = true then .null else .int 0 := by decide +kernel
def am_T22 : u_T := fun k => match k with
  | 0 => ("LinkStateNet$Stub", "value", "I", true)
  | 1 => ("LinkStateNet$Stub", "length", "I", true)
  | _ => ("LinkStateNet$Stub", "cost", "I", true)
def am_ty22 : Nat → FieldType := fun k => match k with
  | 0 => .int
  | 1 => .int
  | _ => .int
def am_o22 : String × u_T × Nat × (Nat → FieldType) := ("LinkStateNet$Stub", am_T22, 3, am_ty22)
theorem am_o22_ty : ∀ x, x < am_o22.2.2.1 → parseFieldDescriptor (am_o22.2.1 x).2.2.1 = some (am_o22.2.2.2 x) := by decide +kernel
theorem am_o22_nm : ∀ x, x < am_o22.2.2.1 → ∀ y, y < am_o22.2.2.1 → x ≠ y → (am_o22.2.1 x).2.1 ≠ (am_o22.2.1 y).2.1 := by decide +kernel
theorem am_o22_dv : ∀ x, x < 3 → defaultValue (am_o22.2.2.2 x) = if (am_o22.2.2.2 x).isReference = true then .null else .int 0 := by decide +kernel
def am_T50 : u_T := fun k => match k with
  | 0 => ("LinkStateNetModel", "clock", "I", false)
  | 1 => ("LinkStateNetModel", "off", "[Z", false)
  | 2 => ("LinkStateNetModel", "cost", "[I", false)
  | 3 => ("LinkStateNetModel", "losses", "[I", false)
  | 4 => ("LinkStateNetModel", "heard", "[Z", false)
  | 5 => ("LinkStateNetModel", "heardAt", "[I", false)
  | 6 => ("LinkStateNetModel", "mutual", "[Z", false)
  | 7 => ("LinkStateNetModel", "full", "[Z", false)
  | 8 => ("LinkStateNetModel", "fresh", "[Z", false)
  | 9 => ("LinkStateNetModel", "said", "[Z", false)
  | 10 => ("LinkStateNetModel", "counts", "[I", false)
  | 11 => ("LinkStateNetModel", "number", "[I", false)
  | 12 => ("LinkStateNetModel", "birth", "[I", false)
  | 13 => ("LinkStateNetModel", "list", "[I", false)
  | 14 => ("LinkStateNetModel", "value", "[I", false)
  | 15 => ("LinkStateNetModel", "length", "[I", false)
  | 16 => ("LinkStateNetModel", "weight", "[I", false)
  | 17 => ("LinkStateNetModel", "latest", "[I", false)
  | 18 => ("LinkStateNetModel", "pressed", "[Z", false)
  | 19 => ("LinkStateNetModel", "owes", "[Z", false)
  | 20 => ("LinkStateNetModel", "sentAt", "[I", false)
  | 21 => ("LinkStateNetModel", "goes", "[Z", false)
  | 22 => ("LinkStateNetModel", "arrives", "[Z", false)
  | 23 => ("LinkStateNetModel", "toAck", "[Z", false)
  | _ => ("LinkStateNetModel", "far", "[I", false)
def am_ty50 : Nat → FieldType := fun k => match k with
  | 0 => .int
  | 1 => .array .boolean
  | 2 => .array .int
  | 3 => .array .int
  | 4 => .array .boolean
  | 5 => .array .int
  | 6 => .array .boolean
  | 7 => .array .boolean
  | 8 => .array .boolean
  | 9 => .array .boolean
  | 10 => .array .int
  | 11 => .array .int
  | 12 => .array .int
  | 13 => .array .int
  | 14 => .array .int
  | 15 => .array .int
  | 16 => .array .int
  | 17 => .array .int
  | 18 => .array .boolean
  | 19 => .array .boolean
  | 20 => .array .int
  | 21 => .array .boolean
  | 22 => .array .boolean
  | 23 => .array .boolean
  | _ => .array .int
def am_o50 : String × u_T × Nat × (Nat → FieldType) := ("LinkStateNetModel", am_T50, 25, am_ty50)
theorem am_o50_ty : ∀ x, x < am_o50.2.2.1 → parseFieldDescriptor (am_o50.2.1 x).2.2.1 = some (am_o50.2.2.2 x) := by decide +kernel
theorem am_o50_nm : ∀ x, x < am_o50.2.2.1 → ∀ y, y < am_o50.2.2.1 → x ≠ y → (am_o50.2.1 x).2.1 ≠ (am_o50.2.1 y).2.1 := by decide +kernel
theorem am_o50_dv : ∀ x, x < 25 → defaultValue (am_o50.2.2.2 x) = if (am_o50.2.2.2 x).isReference = true then .null else .int 0 := by decide +kernel
def am_kds : List (Nat × am_KD) := [(1, .inl am_o1), (3, .inl am_o3), (7, .inl am_o7), (10, .inl am_o10), (13, .inl am_o13), (19, .inl am_o19), (22, .inl am_o22), (50, .inl am_o50), (2, .inr (.object "LinkStateNet$Router", 5)), (4, .inr (.object "LinkStateNet$Stub", 2)), (5, .inr (.object "LinkStateNet$Description", 5)), (6, .inr (.object "LinkStateNet$LinkEnd", 5)), (8, .inr (.int, 5)), (9, .inr (.object "LinkStateNet$Update", 25)), (11, .inr (.object "LinkStateNet$Description", 5)), (12, .inr (.boolean, 5)), (14, .inr (.array .int, 5)), (15, .inr (.int, 5)), (16, .inr (.array .int, 5)), (17, .inr (.int, 5)), (18, .inr (.int, 7)), (20, .inr (.int, 5)), (21, .inr (.object "LinkStateNet$Stub", 2)), (51, .inr (.boolean, 5)), (52, .inr (.int, 25)), (53, .inr (.int, 25)), (54, .inr (.boolean, 25)), (55, .inr (.int, 25)), (56, .inr (.boolean, 25)), (57, .inr (.boolean, 25)), (58, .inr (.boolean, 25)), (59, .inr (.boolean, 25)), (60, .inr (.int, 7)), (61, .inr (.int, 60)), (62, .inr (.int, 60)), (63, .inr (.int, 300)), (64, .inr (.int, 120)), (65, .inr (.int, 120)), (66, .inr (.int, 120)), (67, .inr (.int, 5)), (68, .inr (.boolean, 5)), (69, .inr (.boolean, 125)), (70, .inr (.int, 125)), (71, .inr (.boolean, 125)), (72, .inr (.boolean, 25)), (73, .inr (.boolean, 5)), (74, .inr (.int, 25))]
def am_kd (k : Nat) : Option am_KD := am_kds.lookup k
def am_aos : List String := ["LinkStateNet$Router", "LinkStateNet$Stub", "LinkStateNet$Description", "LinkStateNet$LinkEnd", "LinkStateNet$Update"]
def am_ms : List (MethodName × ByteArray × Nat × Option FieldType) := [(⟨"java/lang/Math", "max", "(II)I"⟩, prog_10_method_65_code, 2, some .int),
  (⟨"LinkStateNet$Stub", "<init>", "(III)V"⟩, prog_6_method_1_code, 4, none),
  (⟨"LinkStateNet$Stub", "fits", "(I)Z"⟩, prog_6_method_2_code, 3, some .boolean),
  (⟨"LinkStateNet$Stub", "alike", "(LLinkStateNet$Stub;LLinkStateNet$Stub;)Z"⟩, prog_6_method_3_code, 2, some .boolean),
  (⟨"LinkStateNet$Description", "<init>", "(III[LLinkStateNet$LinkEnd;[LLinkStateNet$Stub;)V"⟩, prog_2_method_1_code, 7, none),
  (⟨"LinkStateNet$Description", "isNewerThan", "(LLinkStateNet$Description;)Z"⟩, prog_2_method_2_code, 2, some .boolean),
  (⟨"LinkStateNet$Description", "isSameAs", "(LLinkStateNet$Description;)Z"⟩, prog_2_method_3_code, 2, some .boolean),
  (⟨"LinkStateNet$LinkEnd", "<init>", "()V"⟩, prog_3_method_1_code, 1, none),
  (⟨"LinkStateNet$LinkEnd", "setCost", "(I)V"⟩, prog_3_method_2_code, 2, none),
  (⟨"LinkStateNet$LinkEnd", "forget", "()V"⟩, prog_3_method_3_code, 1, none),
  (⟨"LinkStateNet$LinkEnd", "oweNothing", "()V"⟩, prog_3_method_4_code, 2, none),
  (⟨"LinkStateNet$LinkEnd", "owe", "(I)V"⟩, prog_3_method_5_code, 2, none),
  (⟨"LinkStateNet$LinkEnd", "judge", "(I)V"⟩, prog_3_method_6_code, 3, none),
  (⟨"LinkStateNet$LinkEnd", "costToList", "()I"⟩, prog_3_method_7_code, 1, some .int),
  (⟨"LinkStateNet$Router", "<init>", "(I)V"⟩, prog_4_method_1_code, 3, none),
  (⟨"LinkStateNet$Router", "forgetAll", "()V"⟩, prog_4_method_2_code, 2, none),
  (⟨"LinkStateNet$Router", "drop", "(I)V"⟩, prog_4_method_3_code, 3, none),
  (⟨"LinkStateNet$Router", "noteWhoIsHeard", "()V"⟩, prog_4_method_4_code, 2, none),
  (⟨"LinkStateNet$Router", "mustDescribe", "(I)Z"⟩, prog_4_method_5_code, 2, some .boolean),
  (⟨"LinkStateNet$Router", "isStillTrue", "(LLinkStateNet$Description;)Z"⟩, prog_4_method_6_code, 3, some .boolean),
  (⟨"LinkStateNet$Router", "describe", "(I)V"⟩, prog_4_method_7_code, 2, none),
  (⟨"LinkStateNet$Router", "install", "(LLinkStateNet$Description;I)V"⟩, prog_4_method_8_code, 5, none),
  (⟨"LinkStateNet$Router", "outdo", "(I)V"⟩, prog_4_method_9_code, 2, none),
  (⟨"LinkStateNet$Update", "<init>", "()V"⟩, prog_7_method_1_code, 1, none),
  (⟨"LinkStateNet$Update", "load", "([LLinkStateNet$Description;[II)I"⟩, prog_7_method_2_code, 6, some .int),
  (⟨"LinkStateNet$Update", "isDue", "(II)Z"⟩, prog_7_method_3_code, 2, some .boolean),
  (⟨"LinkStateNet$Routes", "<init>", "()V"⟩, prog_5_method_1_code, 1, none),
  (⟨"LinkStateNet$Routes", "workOut", "([LLinkStateNet$Description;)V"⟩, prog_5_method_2_code, 4, none),
  (⟨"LinkStateNet$Routes", "edge", "(LLinkStateNet$Description;LLinkStateNet$Description;II)I"⟩, prog_5_method_3_code, 4, some .int),
  (⟨"LinkStateNet$Routes", "shortenThrough", "(I)V"⟩, prog_5_method_4_code, 5, none),
  (⟨"LinkStateNet$Routes", "firstHop", "(II)I"⟩, prog_5_method_5_code, 4, some .int),
  (⟨"LinkStateNet$Routes", "destination", "(II[LLinkStateNet$Description;)I"⟩, prog_5_method_6_code, 11, some .int),
  (⟨"LinkStateNet", "<init>", "()V"⟩, prog_1_method_1_code, 2, none),
  (⟨"LinkStateNet", "link", "(III)Z"⟩, prog_1_method_2_code, 4, some .boolean),
  (⟨"LinkStateNet", "stub", "(IIIII)Z"⟩, prog_1_method_3_code, 6, some .boolean),
  (⟨"LinkStateNet", "power", "(IZ)Z"⟩, prog_1_method_4_code, 3, some .boolean),
  (⟨"LinkStateNet", "lose", "(III)Z"⟩, prog_1_method_5_code, 4, some .boolean),
  (⟨"LinkStateNet", "pass", "(I)Z"⟩, prog_1_method_6_code, 3, some .boolean),
  (⟨"LinkStateNet", "neighbour", "(II)I"⟩, prog_1_method_7_code, 4, some .int),
  (⟨"LinkStateNet", "number", "(II)I"⟩, prog_1_method_8_code, 4, some .int),
  (⟨"LinkStateNet", "age", "(II)I"⟩, prog_1_method_9_code, 4, some .int),
  (⟨"LinkStateNet", "listed", "(III)I"⟩, prog_1_method_10_code, 5, some .int),
  (⟨"LinkStateNet", "owed", "(II)I"⟩, prog_1_method_11_code, 6, some .int),
  (⟨"LinkStateNet", "distance", "(II)I"⟩, prog_1_method_12_code, 3, some .int),
  (⟨"LinkStateNet", "hop", "(II)I"⟩, prog_1_method_13_code, 3, some .int),
  (⟨"LinkStateNet", "route", "(II)I"⟩, prog_1_method_14_code, 3, some .int),
  (⟨"LinkStateNet", "send", "(III)I"⟩, prog_1_method_15_code, 8, some .int),
  (⟨"LinkStateNet", "count", "(I)I"⟩, prog_1_method_16_code, 2, some .int),
  (⟨"LinkStateNet", "isRouter", "(I)Z"⟩, prog_1_method_17_code, 1, some .boolean),
  (⟨"LinkStateNet", "isAddress", "(I)Z"⟩, prog_1_method_18_code, 1, some .boolean),
  (⟨"LinkStateNet", "isPrefix", "(II)Z"⟩, prog_1_method_19_code, 3, some .boolean),
  (⟨"LinkStateNet", "isOn", "(I)Z"⟩, prog_1_method_20_code, 2, some .boolean),
  (⟨"LinkStateNet", "isLink", "(II)Z"⟩, prog_1_method_21_code, 3, some .boolean),
  (⟨"LinkStateNet", "tick", "()V"⟩, prog_1_method_22_code, 1, none),
  (⟨"LinkStateNet", "arrives", "(II)Z"⟩, prog_1_method_23_code, 4, some .boolean),
  (⟨"LinkStateNet", "dropExpired", "()V"⟩, prog_1_method_24_code, 4, none),
  (⟨"LinkStateNet", "exchangeHellos", "()V"⟩, prog_1_method_25_code, 3, none),
  (⟨"LinkStateNet", "sayHello", "(II)V"⟩, prog_1_method_26_code, 4, none),
  (⟨"LinkStateNet", "judgeNeighbours", "()V"⟩, prog_1_method_27_code, 3, none),
  (⟨"LinkStateNet", "oweWhatLacks", "(II)V"⟩, prog_1_method_28_code, 6, none),
  (⟨"LinkStateNet", "makeDescriptions", "()V"⟩, prog_1_method_29_code, 2, none),
  (⟨"LinkStateNet", "sendUpdates", "()V"⟩, prog_1_method_30_code, 5, none),
  (⟨"LinkStateNet", "deliverUpdates", "()V"⟩, prog_1_method_31_code, 4, none),
  (⟨"LinkStateNet", "deliver", "(LLinkStateNet$Update;II)V"⟩, prog_1_method_32_code, 7, none),
  (⟨"LinkStateNet", "take", "(LLinkStateNet$Description;II)Z"⟩, prog_1_method_33_code, 7, some .boolean),
  (⟨"LinkStateNet", "acknowledge", "(LLinkStateNet$Update;II)V"⟩, prog_1_method_34_code, 7, none),
  (⟨"LinkStateNetModel", "<init>", "()V"⟩, prog_9_method_1_code, 1, none),
  (⟨"LinkStateNetModel", "router", "(I)Z"⟩, prog_9_method_2_code, 1, some .boolean),
  (⟨"LinkStateNetModel", "linked", "(II)Z"⟩, prog_9_method_3_code, 3, some .boolean),
  (⟨"LinkStateNetModel", "cutOff", "(II)V"⟩, prog_9_method_4_code, 4, none),
  (⟨"LinkStateNetModel", "link", "(III)Z"⟩, prog_9_method_5_code, 4, some .boolean),
  (⟨"LinkStateNetModel", "stub", "(IIIII)Z"⟩, prog_9_method_6_code, 7, some .boolean),
  (⟨"LinkStateNetModel", "power", "(IZ)Z"⟩, prog_9_method_7_code, 4, some .boolean),
  (⟨"LinkStateNetModel", "lose", "(III)Z"⟩, prog_9_method_8_code, 4, some .boolean),
  (⟨"LinkStateNetModel", "copy", "(II)V"⟩, prog_9_method_9_code, 4, none),
  (⟨"LinkStateNetModel", "sameBody", "(II)Z"⟩, prog_9_method_10_code, 5, some .boolean),
  (⟨"LinkStateNetModel", "older", "(II)Z"⟩, prog_9_method_11_code, 3, some .boolean),
  (⟨"LinkStateNetModel", "same", "(II)Z"⟩, prog_9_method_12_code, 3, some .boolean),
  (⟨"LinkStateNetModel", "owe", "(IIIZ)V"⟩, prog_9_method_13_code, 6, none),
  (⟨"LinkStateNetModel", "install", "(IIII)V"⟩, prog_9_method_14_code, 6, none),
  (⟨"LinkStateNetModel", "over", "(III)Z"⟩, prog_9_method_15_code, 5, some .boolean),
  (⟨"LinkStateNetModel", "forget", "()V"⟩, prog_9_method_16_code, 3, none),
  (⟨"LinkStateNetModel", "hellos", "()V"⟩, prog_9_method_17_code, 4, none),
  (⟨"LinkStateNetModel", "neighbours", "()V"⟩, prog_9_method_18_code, 4, none),
  (⟨"LinkStateNetModel", "oweAll", "(II)V"⟩, prog_9_method_19_code, 4, none),
  (⟨"LinkStateNetModel", "make", "(I)V"⟩, prog_9_method_20_code, 6, none),
  (⟨"LinkStateNetModel", "sendUpdates", "()V"⟩, prog_9_method_21_code, 5, none),
  (⟨"LinkStateNetModel", "take", "(II)V"⟩, prog_9_method_22_code, 8, none),
  (⟨"LinkStateNetModel", "pass", "(I)Z"⟩, prog_9_method_23_code, 4, some .boolean),
  (⟨"LinkStateNetModel", "neighbour", "(II)I"⟩, prog_9_method_24_code, 4, some .int),
  (⟨"LinkStateNetModel", "number", "(II)I"⟩, prog_9_method_25_code, 3, some .int),
  (⟨"LinkStateNetModel", "age", "(II)I"⟩, prog_9_method_26_code, 3, some .int),
  (⟨"LinkStateNetModel", "listed", "(III)I"⟩, prog_9_method_27_code, 4, some .int),
  (⟨"LinkStateNetModel", "owed", "(II)I"⟩, prog_9_method_28_code, 5, some .int),
  (⟨"LinkStateNetModel", "edge", "(III)I"⟩, prog_9_method_29_code, 6, some .int),
  (⟨"LinkStateNetModel", "measure", "(I)V"⟩, prog_9_method_30_code, 5, none),
  (⟨"LinkStateNetModel", "distance", "(II)I"⟩, prog_9_method_31_code, 3, some .int),
  (⟨"LinkStateNetModel", "hop", "(II)I"⟩, prog_9_method_32_code, 6, some .int),
  (⟨"LinkStateNetModel", "route", "(II)I"⟩, prog_9_method_33_code, 11, some .int),
  (⟨"LinkStateNetModel", "send", "(III)I"⟩, prog_9_method_34_code, 9, some .int),
  (⟨"LinkStateNetModel", "count", "(I)I"⟩, prog_9_method_35_code, 2, some .int),
  (⟨"LinkStateNetLaw", "law", "([I)Z"⟩, code, 4, some .boolean)]
def am_m0 : MethodName × ByteArray × Nat × Option FieldType := (⟨"", "", ""⟩, ⟨#[]⟩, 0, none)
def am_y (j : Nat) : MethodName := (am_ms.getD j am_m0).1
def am_cc (j : Nat) : ByteArray := (am_ms.getD j am_m0).2.1
def am_ret (j : Nat) : Option FieldType := (am_ms.getD j am_m0).2.2.2
def am_own (j : Nat) : String := (am_y j).cls
def am_tb : List Cond := lw_tbl.filter goodWord
def am_ws (j : Nat) : List Cond := Cond.code (am_y j) (am_cc j) (am_nL j) (am_ret j) :: am_tb
end
section
def am_v (b sc : Nat) : am_V → Value
  | .inl i => .int i
  | .inr none => .null
  | .inr (some 0) => .ref sc
  | .inr (some (a + 1)) => .ref (b + a)
theorem am_v_cat (b sc : Nat) (v : am_V) : (am_v b sc v).category = 1 := by
  rcases v with i | (_ | (_ | a)) <;> rfl
def am_cv (b sc : Nat) (S : am_S) (f : Nat) (t : FieldType) (a i : Nat) : Value := if t.isReference = true then am_v b sc (.inr (am_gP S f a i)) else .int (am_gI S f a i)
def am_at (b sc : Nat) (D : va_G) (S : am_S) (H : Heap) (a k : Nat) : Prop := match am_kd k with
  | none => False
  | some (.inl o) => t_OB (b + a) (D.1 k) o.2.2.1 (D.2 k) H (fun f => am_cv b sc S (100 * k + f) (o.2.2.2 f) (a + 1) 0)
  | some (.inr r) => H[b + a]? = some (arrV (D.1 k) r.2 (fun i => am_cv b sc S (100 * k) r.1 (a + 1) i))
def am_sum (b : Nat) (H : Heap) : Nat := ((H.toList.drop b).map (fun c => c.slots.size)).sum
def am_R (b sc : Nat) (D : va_G) (S : am_S) (H : Heap) : Prop := H.size = b + S.1.1 ∧ am_sum b H = S.1.2.1 ∧ (∀ a, a < S.1.1 → am_at b sc D S H a (S.1.2.2 (a + 1))) ∧ S.1.1 ≤ am_limC ∧ S.1.2.1 ≤ am_limS
theorem am_gI_sI (S : am_S) (F n j : Nat) (v : Int32) (f a i : Nat) : am_gI (am_sI S F n j v) f a i = if f = F ∧ a = n ∧ i = j then v else am_gI S f a i := by
  unfold am_gI am_sI am_mI am_u
  by_cases h1 : F < 5000 <;> by_cases h2 : f < 5000 <;> by_cases h3 : f = F ∧ a = n ∧ i = j <;> simp [h1, h2, h3] <;> omega
theorem am_gP_sP (S : am_S) (F n j : Nat) (v : Option Nat) (f a i : Nat) : am_gP (am_sP S F n j v) f a i = if f = F ∧ a = n ∧ i = j then v else am_gP S f a i := by
  unfold am_gP am_sP am_mP am_u
  by_cases h1 : F < 5000 <;> by_cases h2 : f < 5000 <;> by_cases h3 : f = F ∧ a = n ∧ i = j <;> simp [h1, h2, h3] <;> omega
theorem am_gP_sI (S : am_S) (F n j : Nat) (v : Int32) (f a i : Nat) : am_gP (am_sI S F n j v) f a i = am_gP S f a i := by
  unfold am_gP am_sI am_mI
  by_cases h1 : F < 5000 <;> simp [h1]
theorem am_gI_sP (S : am_S) (F n j : Nat) (v : Option Nat) (f a i : Nat) : am_gI (am_sP S F n j v) f a i = am_gI S f a i := by
  unfold am_gI am_sP am_mP
  by_cases h1 : F < 5000 <;> simp [h1]
theorem am_sI_1 (S : am_S) (F n j : Nat) (v : Int32) : (am_sI S F n j v).1 = S.1 := by unfold am_sI; split <;> rfl
theorem am_sP_1 (S : am_S) (F n j : Nat) (v : Option Nat) : (am_sP S F n j v).1 = S.1 := by unfold am_sP; split <;> rfl
theorem am_cv_sI {b sc : Nat} (S : am_S) (F n j : Nat) (v : Int32) (f : Nat) (t : FieldType) (a i : Nat) (h : a = n → f = F → i ≠ j) : am_cv b sc (am_sI S F n j v) f t a i = am_cv b sc S f t a i := by
  unfold am_cv
  rw [am_gP_sI, am_gI_sI, if_neg (show ¬ (f = F ∧ a = n ∧ i = j) from fun q => h q.2.1 q.1 q.2.2)]
theorem am_cv_sP {b sc : Nat} (S : am_S) (F n j : Nat) (v : Option Nat) (f : Nat) (t : FieldType) (a i : Nat) (h : a = n → f = F → i ≠ j) : am_cv b sc (am_sP S F n j v) f t a i = am_cv b sc S f t a i := by
  unfold am_cv
  rw [am_gI_sP, am_gP_sP, if_neg (show ¬ (f = F ∧ a = n ∧ i = j) from fun q => h q.2.1 q.1 q.2.2)]
theorem am_cv_sI' {b sc : Nat} (S : am_S) (F n j : Nat) (v : Int32) (t : FieldType) (h : t.isReference = false) : am_cv b sc (am_sI S F n j v) F t n j = .int v := by
  unfold am_cv
  rw [am_gI_sI, if_pos (show F = F ∧ n = n ∧ j = j from ⟨rfl, rfl, rfl⟩), h]
  rfl
theorem am_cv_sP' {b sc : Nat} (S : am_S) (F n j : Nat) (v : Option Nat) (t : FieldType) (h : t.isReference = true) : am_cv b sc (am_sP S F n j v) F t n j = am_v b sc (.inr v) := by
  unfold am_cv
  rw [am_gP_sP, if_pos (show F = F ∧ n = n ∧ j = j from ⟨rfl, rfl, rfl⟩), if_pos h]
theorem am_sum_same {b : Nat} {H H' : Heap} (h : ∀ q : Nat, (H'[q]?).map (fun c => c.slots.size) = (H[q]?).map (fun c => c.slots.size)) : am_sum b H' = am_sum b H := by
  have e : H'.toList.map (fun c => c.slots.size) = H.toList.map (fun c => c.slots.size) := by
    apply List.ext_getElem?
    intro q
    rw [List.getElem?_map, List.getElem?_map, Array.getElem?_toList, Array.getElem?_toList]
    exact h q
  unfold am_sum
  rw [List.map_drop, List.map_drop, e]
theorem am_sum_push {b : Nat} {H : Heap} (c : Cell) (h : b ≤ H.size) : am_sum b (H.push c) = am_sum b H + c.slots.size := by
  unfold am_sum
  rw [Array.toList_push, List.drop_append_of_le_length (by simpa using h)]
  simp
theorem am_sum_upto {b n : Nat} {H H0 : Heap} (hn : H0.size = n) (hb : b ≤ n) (h : ∀ (a : Nat) (c : Cell), H0[a]? = some c → ∃ c', H[a]? = some c' ∧ c'.slots.size = c.slots.size) (hz : n ≤ H.size) : am_sum b H = am_sum b H0 + am_sum n H := by
  have e : (H.toList.map (fun c => c.slots.size)).take n = H0.toList.map (fun c => c.slots.size) := by
    apply List.ext_getElem?
    intro q
    rw [List.getElem?_take, List.getElem?_map, List.getElem?_map, Array.getElem?_toList, Array.getElem?_toList]
    by_cases hq : q < n
    · rw [if_pos hq]
      have h0 : H0[q]? = some H0[q] := Array.getElem?_eq_getElem (by omega)
      obtain ⟨c', h1, h2⟩ := h q _ h0
      rw [h0, h1]
      simp [h2]
    · rw [if_neg hq]
      have h0 : H0[q]? = none := by simp; omega
      rw [h0]
      rfl
  unfold am_sum
  rw [List.map_drop, List.map_drop, List.map_drop, ← e]
  conv => lhs; rw [← List.take_append_drop n (H.toList.map (fun c => c.slots.size))]
  rw [List.drop_append_of_le_length (by simp; omega), List.sum_append]
theorem am_R.cellN {b sc : Nat} {D : va_G} {S : am_S} {H : Heap} (h : am_R b sc D S H) {n k : Nat} (hl : am_lv S n k) : ∃ a, n = a + 1 ∧ a < S.1.1 ∧ am_at b sc D S H a k := by
  obtain ⟨h1, h2, h3⟩ := hl
  refine ⟨n - 1, by omega, by omega, ?_⟩
  have e := h.2.2.1 (n - 1) (by omega)
  rw [show n - 1 + 1 = n by omega, h3] at e
  exact e
theorem am_at.keep {b sc : Nat} {D : va_G} {S S' : am_S} {H H' : Heap} {a k : Nat} (h : am_at b sc D S H a k) (hh : H'[b + a]? = H[b + a]?) (hc : ∀ f t i, am_cv b sc S' f t (a + 1) i = am_cv b sc S f t (a + 1) i) : am_at b sc D S' H' a k := by
  unfold am_at at h ⊢
  cases hk : am_kd k with
  | none => rw [hk] at h; exact h
  | some x =>
    rw [hk] at h
    rcases x with o | r
    · exact t_OB.to (h.kept hh) (fun j _ => (hc _ _ _).symm)
    · show H'[b + a]? = _
      rw [hh, h]
      congr 2
      funext i
      exact (hc _ _ _).symm
theorem am_R.obj {b sc : Nat} {D : va_G} {S S' : am_S} {H H' : Heap} {a k f : Nat} {o : String × u_T × Nat × (Nat → FieldType)} {cell : Cell} {w : Value} (h : am_R b sc D S H) (hN : S'.1 = S.1) (ha : a < S.1.1) (hk : S.1.2.2 (a + 1) = k) (hd : am_kd k = some (.inl o)) (hf : f < o.2.2.1)
    (hap : ∀ x y, x < o.2.2.1 → y < o.2.2.1 → x ≠ y → D.2 k x ≠ D.2 k y) (c1 : H[b + a]? = some cell) (e1 : H'[b + a]? = some (cell.setSlot (D.2 k f) w)) (e2 : H'.size = H.size) (e3 : ∀ q : Nat, q ≠ b + a → H'[q]? = H[q]?)
    (hw : am_cv b sc S' (100 * k + f) (o.2.2.2 f) (a + 1) 0 = w) (ho : ∀ f' t a' i, (a' = a + 1 → f' ≠ 100 * k + f) → am_cv b sc S' f' t a' i = am_cv b sc S f' t a' i) : am_R b sc D S' H' := by
  obtain ⟨h1, h2, h3, h4⟩ := h
  refine ⟨by rw [e2, h1, hN], ?_, fun a' ha' => ?_, by rw [hN]; exact h4⟩
  · rw [hN, ← h2]
    refine am_sum_same fun q => ?_
    by_cases hq : q = b + a
    · subst hq
      rw [e1, c1]
      simp [k2_slotsz]
    · rw [e3 q hq]
  · rw [hN] at ha' ⊢
    have h0 := h3 a' ha'
    by_cases hq : a' = a
    · subst hq
      rw [hk] at h0 ⊢
      unfold am_at at h0 ⊢
      rw [hd] at h0 ⊢
      obtain ⟨cell', g1, g2, g3, g4⟩ := h0
      cases c1.symm.trans g1
      refine ⟨_, e1, g2, g3, fun j hj => ?_⟩
      rw [t_set g4 hap hf w j hj]
      congr 1
      by_cases hjf : j = f
      · subst hjf
        simp [updV, hw]
      · simp only [updV, if_neg hjf]
        exact (ho _ _ _ _ (fun _ => by omega)).symm
    · exact h0.keep (e3 _ (by omega)) (fun f' t i => ho _ _ _ _ (fun q => by omega))
theorem am_R.arr {b sc : Nat} {D : va_G} {S S' : am_S} {H H' : Heap} {a k i : Nat} {r : FieldType × Nat} {w : Value} (h : am_R b sc D S H) (hN : S'.1 = S.1) (ha : a < S.1.1) (hk : S.1.2.2 (a + 1) = k) (hd : am_kd k = some (.inr r))
    (e1 : H'[b + a]? = some ((arrV (D.1 k) r.2 (fun i => am_cv b sc S (100 * k) r.1 (a + 1) i)).setSlot i w)) (e2 : H'.size = H.size) (e3 : ∀ q : Nat, q ≠ b + a → H'[q]? = H[q]?)
    (hw : am_cv b sc S' (100 * k) r.1 (a + 1) i = w) (ho : ∀ f' t a' i', (a' = a + 1 → f' = 100 * k → i' ≠ i) → am_cv b sc S' f' t a' i' = am_cv b sc S f' t a' i') : am_R b sc D S' H' := by
  obtain ⟨h1, h2, h3, h4⟩ := h
  have c1 := h3 a ha
  rw [hk] at c1
  unfold am_at at c1
  rw [hd] at c1
  refine ⟨by rw [e2, h1, hN], ?_, fun a' ha' => ?_, by rw [hN]; exact h4⟩
  · rw [hN, ← h2]
    refine am_sum_same fun q => ?_
    by_cases hq : q = b + a
    · subst hq
      rw [e1, c1]
      simp [k2_slotsz]
    · rw [e3 q hq]
  · rw [hN] at ha' ⊢
    have h0 := h3 a' ha'
    by_cases hq : a' = a
    · subst hq
      rw [hk] at h0 ⊢
      unfold am_at
      rw [hd]
      show H'[b + a']? = _
      rw [e1, arrV_store]
      congr 2
      funext j
      by_cases hji : j = i
      · subst hji
        simp [updV, hw]
      · simp only [updV, if_neg hji]
        exact (ho _ _ _ _ (fun _ _ => hji)).symm
    · exact h0.keep (e3 _ (by omega)) (fun f' t i => ho _ _ _ _ (fun q => by omega))
theorem am_cv_nw {b sc : Nat} (S : am_S) (k n f : Nat) (t : FieldType) (a i : Nat) (h : a ≠ S.1.1 + 1) : am_cv b sc (am_nw S k n) f t a i = am_cv b sc S f t a i := by
  unfold am_cv am_gP am_gI am_nw am_mz
  by_cases h1 : k < 50 <;> simp [h1, h]
theorem am_cv_nw' {b sc : Nat} (S : am_S) (k n f : Nat) (t : FieldType) (i : Nat) (hf : f < 5000 ↔ k < 50) : am_cv b sc (am_nw S k n) f t (S.1.1 + 1) i = if t.isReference = true then .null else .int 0 := by
  unfold am_cv am_gP am_gI am_nw am_mz
  by_cases h1 : k < 50 <;> simp [h1, hf, am_v]
theorem am_R.new {b sc : Nat} {D : va_G} {S : am_S} {H H' : Heap} {k n : Nat} {cell : Cell} (h : am_R b sc D S H) (hz : cell.slots.size = n) (hc1 : S.1.1 + 1 ≤ am_limC) (hc2 : S.1.2.1 + n ≤ am_limS) (e0 : H' = H.push cell) (hc : am_at b sc D (am_nw S k n) H' S.1.1 k) : am_R b sc D (am_nw S k n) H' := by
  obtain ⟨h1, h2, h3, -⟩ := h
  subst e0
  refine ⟨by rw [Array.size_push, h1]; show _ = b + (S.1.1 + 1); omega, ?_, fun a ha => ?_, hc1, hc2⟩
  · rw [am_sum_push _ (by omega), h2, hz]
    rfl
  · have ha' : a < S.1.1 + 1 := ha
    show am_at b sc D (am_nw S k n) _ a (if a + 1 = S.1.1 + 1 then k else S.1.2.2 (a + 1))
    by_cases hq : a = S.1.1
    · subst hq
      rw [if_pos rfl]
      exact hc
    · rw [if_neg (by omega)]
      refine (h3 a (by omega)).keep ?_ (fun f t i => am_cv_nw _ _ _ _ _ _ _ (by omega))
      rw [Array.getElem?_push, if_neg (by omega)]
theorem am_cats {b sc : Nat} (r : List am_V) : ((r.map (am_v b sc)).map fun v => v.category).sum = r.length := by
  induction r with
  | nil => rfl
  | cons v r ih => simp only [List.map_cons, List.sum_cons, List.length_cons, am_v_cat, ih]; omega
theorem am_lo {b a i : Nat} {locs : List Loc} (h : ∀ q ∈ locs, b ≤ q.base) : ∀ q ∈ locs ++ [⟨b + a, i⟩], b ≤ q.base := by
  intro q hq
  rcases List.mem_append.mp hq with h1 | h1
  · exact h q h1
  · rw [List.mem_singleton.mp h1]
    exact Nat.le_add_right _ _
theorem am_nar {b sc : Nat} {t : FieldType} (h : t.isReference = true) (v : Option Nat) : narrow t (am_v b sc (.inr v)) = am_v b sc (.inr v) := by
  rcases v with _ | (_ | a) <;> cases t <;> first | rfl | simp [FieldType.isReference] at h
theorem am_fit {b sc : Nat} {t : FieldType} (h : t.isReference = true) (v : Option Nat) : fits t (am_v b sc (.inr v)) = true := by
  rcases v with _ | (_ | a) <;> cases t <;> first | rfl | simp [FieldType.isReference] at h
theorem am_apart {s : State} {args : Array Value} {Ts : List Cond} {o : String × u_T × Nat × (Nat → FieldType)} {cC : ClassId} {iS : Nat → Nat} (hts : ∀ w ∈ Ts, w.before args s = true) (hin : ∀ w ∈ u_ws o.1 o.2.1 o.2.2.1, w ∈ Ts) (hty : ∀ x, x < o.2.2.1 → parseFieldDescriptor (o.2.1 x).2.2.1 = some (o.2.2.2 x)) (hnm : ∀ x, x < o.2.2.1 → ∀ y, y < o.2.2.1 → x ≠ y → (o.2.1 x).2.1 ≠ (o.2.1 y).2.1) (hK : u_Kn s o.1 o.2.1 o.2.2.1 cC iS) : ∀ x y, x < o.2.2.1 → y < o.2.2.1 → x ≠ y → iS x ≠ iS y := by
  refine va_apart (own := "") (D := (fun _ => cC, fun _ => iS)) (cl := [(o.1, o.2.1, o.2.2.1)]) (tys := []) (ci := 0) hts hin o.2.2.2 hty hnm ⟨fun c q hq => ?_, fun k q hq => by simp at hq⟩ rfl
  cases c with
  | zero => cases hq; exact hK
  | succ c => simp at hq
end
section
def am_Kn1 (D : va_G) (U : State) (k : Nat) : Prop := match am_kd k with
  | none => True
  | some (.inl o) => u_Kn U o.1 o.2.1 o.2.2.1 (D.1 k) (D.2 k)
  | some (.inr r) => ArrOfT U (D.1 k) r.1 ∧ va_RA U (D.1 k) r.1
def am_AOI (U : State) : Prop := (Cond.arrayOver (.array .int)).before #[] U = true
theorem am_AOI.use {A : Array Value} {U : State} (h : am_AOI U) : (Cond.arrayOver (.array .int)).before A U = true := h
theorem am_AOI.moved {u U : State} (hal : u.vm.Alike U.vm) (h : am_AOI u) : am_AOI U := by
  unfold am_AOI at h ⊢
  simp only [Cond.before, Cond.holds, Cond.value] at h ⊢
  rw [hal.findClass]
  cases hf : u.vm.findClass (FieldType.array .int).toString with
  | none => rw [hf] at h; simp at h
  | some comp =>
    rw [hf] at h
    simp only [Option.bind_some] at h ⊢
    rw [hal.findIdx_congr _ (fun _ _ _ _ => rfl)]
    generalize Array.findIdx? _ u.vm.classes = fi at h ⊢
    cases fi with
    | none => simp at h
    | some c =>
      simp only [Option.bind_some] at h ⊢
      cases hk : u.vm.classes[c]? with
      | none => rw [hk] at h; simp at h
      | some k =>
        obtain ⟨k', hk', ek⟩ := hal.2.2 _ _ hk
        rw [hk] at h
        rw [hk', hal.findClass]
        have ekind : k'.kind = k.kind := by rw [ek]
        simp only [Option.map_some] at h ⊢
        rw [ekind]
        exact h
def am_Kn (D : va_G) (U : State) : Prop := (∀ k, am_Kn1 D U k) ∧ (∀ C ∈ am_aos, va_AO C U) ∧ am_AOI U
theorem am_Kn1.moved {D : va_G} {u U : State} {k : Nat} (hvm : u.vm.Alike U.vm) (h : am_Kn1 D u k) : am_Kn1 D U k := by
  unfold am_Kn1 at h ⊢
  cases hk : am_kd k with
  | none => exact trivial
  | some x =>
    rw [hk] at h
    rcases x with o | r
    · exact u_Kn_moved hvm h
    · exact ⟨arrOfT_moved hvm h.1, h.2.moved hvm⟩
theorem am_Kn.moved {D : va_G} {u U : State} (hvm : u.vm.Alike U.vm) (h : am_Kn D u) : am_Kn D U := ⟨fun k => (h.1 k).moved hvm, fun C hC => (h.2.1 C hC).moved hvm, h.2.2.moved hvm⟩
theorem am_Kn.obj {D : va_G} {U : State} {k : Nat} {o : String × u_T × Nat × (Nat → FieldType)} (h : am_Kn D U) (hd : am_kd k = some (.inl o)) : u_Kn U o.1 o.2.1 o.2.2.1 (D.1 k) (D.2 k) := by
  have h1 := h.1 k
  unfold am_Kn1 at h1
  rw [hd] at h1
  exact h1
theorem am_Kn.arr {D : va_G} {U : State} {k : Nat} {r : FieldType × Nat} (h : am_Kn D U) (hd : am_kd k = some (.inr r)) : ArrOfT U (D.1 k) r.1 ∧ va_RA U (D.1 k) r.1 := by
  have h1 := h.1 k
  unfold am_Kn1 at h1
  rw [hd] at h1
  exact h1
def am_ls (b sc nL : Nat) (ls : am_L) (A : Array Slot) : Prop := A.size = nL ∧ lv_wf A ∧ ls.length = nL ∧ ∀ (i : Nat) (v : am_V), ls[i]? = some (some v) → A[i]? = some (.val (am_v b sc v))
def am_le0 (S0 S : am_S) : Prop := S.2.1 = S0.2.1 ∧ S0.1.1 ≤ S.1.1 ∧ S0.1.2.1 ≤ S.1.2.1
theorem am_le0.sI {S0 S : am_S} (h : am_le0 S0 S) (F n i : Nat) (v : Int32) : am_le0 S0 (am_sI S F n i v) := by unfold am_sI; split <;> exact h
theorem am_le0.sP {S0 S : am_S} (h : am_le0 S0 S) (F n i : Nat) (v : Option Nat) : am_le0 S0 (am_sP S F n i v) := by unfold am_sP; split <;> exact h
theorem am_le0.nw {S0 S : am_S} (h : am_le0 S0 S) (k n : Nat) : am_le0 S0 (am_nw S k n) := ⟨h.1, Nat.le_succ_of_le h.2.1, Nat.le_trans h.2.2 (Nat.le_add_right _ _)⟩
theorem am_le0.trans {S0 S S' : am_S} (h : am_le0 S0 S) (h' : am_le0 S S') : am_le0 S0 S' := ⟨h'.1.trans h.1, Nat.le_trans h.2.1 h'.2.1, Nat.le_trans h.2.2 h'.2.2⟩
def am_Qc (b sc : Nat) (D : va_G) (S0 : am_S) (Q : am_Q) : Array Value → State → Outcome → State → Prop := fun _ st o t =>
  ∃ (S : am_S) (v : Option am_V), o = .returned (v.map (am_v b sc)) ∧ Q S v ∧ am_R b sc D S t.heap ∧ am_le0 S0 S ∧ ∀ q : Nat, q < b → t.heap[q]? = st.heap[q]?
def am_Pc (b sc : Nat) (D : va_G) (as : List am_V) (S : am_S) : Array Value → State → Prop := fun v U => v = (as.map (am_v b sc)).toArray ∧ am_R b sc D S U.heap ∧ am_Kn D U
def am_rm (d : Nat) (S : am_S) : Room := { frames := d, cells := am_limC - S.1.1, slots := am_limS - S.1.2.1, locals := 40 * d }
def am_met (l : Launch) (d j : Nat) (as : List am_V) (S : am_S) (Q : am_Q) : Prop := ∀ (b sc : Nat) (D : va_G), Met l (am_y j) (am_ws j) (am_rm d S) (am_Pc b sc D as S) (am_Qc b sc D S Q) (am_limC - S.1.1) (am_limS - S.1.2.1) (fun q => b ≤ q)
section AM
variable {l : Launch} {j d b sc : Nat} {D : va_G} {S0 : am_S} {p : Program} {e : Env} {R : Room} {s : State} {m : MethodId} {args : Array Value} {below : List Frame} {meth : Method} {c : Code} {C : am_C} {Q : am_Q} {Qw : State → Prop}
def am_rt (j pc : Nat) (v : Option am_V) : Prop := match v with
  | none => decode (am_cc j) pc = .ok (.return_, 1) ∧ am_ret j = none
  | some (.inl i) => decode (am_cc j) pc = .ok (.ireturn, 1) ∧ (am_ret j = some .int ∨ am_ret j = some .boolean ∧ (i = 0 ∨ i = 1))
  | some (.inr _) => False
def am_fin (l : Launch) (j b sc : Nat) (D : va_G) (S0 : am_S) (p : Program) (e : Env) (R : Room) (s : State) (m : MethodId) (args : Array Value) (below : List Frame) (meth : Method) (c : Code) (Q : am_Q) (Qw : State → Prop) : Prop :=
  ∀ (pc : Nat) (v : Option am_V) (S : am_S) (H : Heap) (locs : List Loc) (A : Array Slot) (cells slots : Nat), am_rt j pc v → Q S v → am_R b sc D S H → (∀ q ∈ locs, b ≤ q.base) → (∀ q : Nat, q < b → H[q]? = s.heap[q]?) → am_le0 S0 S →
    W p l e R s m args below meth c H locs cells slots Qw (F0 m pc A (v.toList.map (am_v b sc)))
def am_cx (l : Launch) (j d b sc : Nat) (D : va_G) (S0 : am_S) (p : Program) (e : Env) (R : Room) (s : State) (m : MethodId) (args : Array Value) (below : List Frame) (meth : Method) (c : Code) (Q : am_Q) (Qw : State → Prop) : Prop :=
  p.tables.exec = Jvm.exec ∧ c.code = am_cc j ∧ c.maxLocals = am_nL j ∧ s.vm.findClass (am_own j) = some m.cls ∧ (∀ w ∈ am_ws j, w.before args s = true) ∧ meth.name = (am_y j).name ∧ am_Kn D s ∧ am_R b sc D S0 s.heap ∧ (1 ≤ d ∧ d ≤ R.frames ∧ 40 * d ≤ R.locals ∧ am_limC - S0.1.1 ≤ R.cells ∧ am_limS - S0.1.2.1 ≤ R.slots) ∧ (j = am_jL → va_X sc S0.2.1.1 S0.2.1.2 s s.heap ∧ sc < b) ∧ am_fin l j b sc D S0 p e R s m args below meth c Q Qw
def am_go (l : Launch) (j b sc : Nat) (D : va_G) (S0 : am_S) (p : Program) (e : Env) (R : Room) (s : State) (m : MethodId) (args : Array Value) (below : List Frame) (meth : Method) (c : Code) (Qw : State → Prop) : am_G := fun pc ls st S =>
  ∀ (H : Heap) (locs : List Loc) (A : Array Slot) (cells slots : Nat), am_R b sc D S H → am_ls b sc (am_nL j) ls A → (∀ q ∈ locs, b ≤ q.base) → (∀ q : Nat, q < b → H[q]? = s.heap[q]?) → am_le0 S0 S →
    W p l e R s m args below meth c H locs cells slots Qw (F0 m pc A (st.map (am_v b sc)))
def am_snd (j pc : Nat) (t : am_T) : Prop := ∀ (l : Launch) (d b sc : Nat) (D : va_G) (S0 : am_S) (p : Program) (e : Env) (R : Room) (s : State) (m : MethodId) (args : Array Value) (below : List Frame) (meth : Method) (c : Code) (C : am_C) (Q : am_Q) (Qw : State → Prop),
  am_cx l j d b sc D S0 p e R s m args below meth c Q Qw → (∀ j' as S Q', C j' as S Q' → ∃ d', d = d' + 1 ∧ am_met l d' j' as S Q') →
  ∀ (ls : am_L) (st : List am_V) (S : am_S), t C (am_go l j b sc D S0 p e R s m args below meth c Qw) Q ls st S → am_go l j b sc D S0 p e R s m args below meth c Qw pc ls st S
theorem am_tight {H : Heap} {locs : List Loc} {cells slots : Nat} {S : am_S} {g : JFrame} (h0 : am_R b sc D S0 s.heap) (h : am_R b sc D S H)
    (k : W p l e R s m args below meth c H locs (S.1.1 - S0.1.1) (S.1.2.1 - S0.1.2.1) Qw g) : W p l e R s m args below meth c H locs cells slots Qw g := by
  intro T hT X
  refine k T hT { X with same := ?_ }
  obtain ⟨h1, h2, h3, h4, h5, h6⟩ := X.same
  have hTh : (T.setVm s.vm).heap = H := hT
  rw [hTh] at h2
  refine ⟨h1, by rw [hTh]; exact h2, ?_, h4, ?_, h6⟩
  · rw [hTh, h.1, h0.1]; omega
  · have e1 := am_sum_upto (b := b) (n := s.heap.size) (H := H) (H0 := s.heap) rfl (by rw [h0.1]; omega) (fun a c' hc => by
      obtain ⟨c2, g1, g2, g3, g4⟩ := h6 a c' hc
      rw [hTh] at g1
      exact ⟨c2, g1, g3⟩) h2
    rw [h.2.1, h0.2.1] at e1
    rw [hTh]
    show am_sum s.heap.size H ≤ _
    omega
theorem am_ls.get {nL : Nat} {ls : am_L} {A : Array Slot} (h : am_ls b sc nL ls A) {i : Nat} {v : am_V} (hv : ls[i]? = some (some v)) : A[i]? = some (.val (am_v b sc v)) := h.2.2.2 i v hv
def am_lw (b sc : Nat) (ls : am_L) : List (Nat × Value) := (List.range ls.length).filterMap (fun i => match ls[i]? with
  | some (some v) => some (i, am_v b sc v)
  | _ => none)
theorem am_lw_in {ls : am_L} {q : Nat × Value} : q ∈ am_lw b sc ls ↔ ∃ v, ls[q.1]? = some (some v) ∧ q.2 = am_v b sc v := by
  obtain ⟨i, w⟩ := q
  unfold am_lw
  rw [List.mem_filterMap]
  constructor
  · rintro ⟨j, hj, h⟩
    split at h
    next v hv =>
      cases h
      exact ⟨v, hv, rfl⟩
    next => cases h
  · rintro ⟨v, hv, hw⟩
    refine ⟨i, List.mem_range.mpr (List.getElem?_eq_some_iff.mp hv).1, ?_⟩
    simp only at hv hw
    rw [hv, hw]
theorem am_ls.has {nL : Nat} {ls : am_L} {A : Array Slot} (h : am_ls b sc nL ls A) : lv_has A nL (am_lw b sc ls) := by
  refine ⟨h.1, h.2.1, fun q hq => ?_⟩
  obtain ⟨v, h1, h2⟩ := am_lw_in.mp hq
  rw [h2]
  exact h.2.2.2 _ _ h1
theorem am_ls.put {nL i : Nat} {ls : am_L} {A A' : Array Slot} (h : am_ls b sc nL ls A) (hi : i < nL) (x : am_V) (h' : lv_has A' nL ((i, am_v b sc x) :: (am_lw b sc ls).filter (fun q => !(q.1 == i) && !(q.1 + 1 == i && q.2.category == 2)))) : am_ls b sc nL (ls.set i (some x)) A' := by
  refine ⟨h'.1, h'.2.1, by rw [List.length_set]; exact h.2.2.1, fun k v hk => ?_⟩
  by_cases hki : k = i
  · subst hki
    rw [List.getElem?_set_self (by rw [h.2.2.1]; exact hi)] at hk
    cases hk
    exact h'.2.2 (k, am_v b sc x) List.mem_cons_self
  · rw [List.getElem?_set_ne (Ne.symm hki)] at hk
    refine h'.2.2 (k, am_v b sc v) (List.mem_cons_of_mem _ (List.mem_filter.mpr ⟨am_lw_in.mpr ⟨v, hk, rfl⟩, ?_⟩))
    simp [hki, am_v_cat]
theorem sn_iconst {j pc nx : Nat} {n : Int} {z : Int32} (hd : decode (am_cc j) pc = .ok (.iconst n, 1)) (hv : Int32.ofInt n = z) (hnx : pc + 1 = nx) : am_snd j pc (ai_push z nx) := by
  intro l d b sc D S0 p e R s m args below meth c C Q Qw hcx hC ls st S h H locs A cells slots hR hA hlo hfr hs
  obtain ⟨hx, hb, hml, hown, hts, hnm, hK, hR0, ⟨hd1, hRf, hRl, hRc, hRs⟩, hX, hend⟩ := hcx
  subst hnx
  exact lv_iconst hx hb hd hv (h H locs A cells slots hR hA hlo hfr hs)
theorem sn_bipush {j pc nx : Nat} {n : Int} {z : Int32} (hd : decode (am_cc j) pc = .ok (.bipush n, 2)) (hv : (Int8.ofInt n).toInt32 = z) (hnx : pc + 2 = nx) : am_snd j pc (ai_push z nx) := by
  intro l d b sc D S0 p e R s m args below meth c C Q Qw hcx hC ls st S h H locs A cells slots hR hA hlo hfr hs
  obtain ⟨hx, hb, hml, hown, hts, hnm, hK, hR0, ⟨hd1, hRf, hRl, hRc, hRs⟩, hX, hend⟩ := hcx
  subst hnx
  exact lv_bipush hx hb hd hv (h H locs A cells slots hR hA hlo hfr hs)
theorem sn_sipush {j pc nx : Nat} {n : Int} {z : Int32} (hd : decode (am_cc j) pc = .ok (.sipush n, 3)) (hv : (Int16.ofInt n).toInt32 = z) (hnx : pc + 3 = nx) : am_snd j pc (ai_push z nx) := by
  intro l d b sc D S0 p e R s m args below meth c C Q Qw hcx hC ls st S h H locs A cells slots hR hA hlo hfr hs
  obtain ⟨hx, hb, hml, hown, hts, hnm, hK, hR0, ⟨hd1, hRf, hRl, hRc, hRs⟩, hX, hend⟩ := hcx
  subst hnx
  exact lv_sipush hx hb hd hv (h H locs A cells slots hR hA hlo hfr hs)
theorem sn_null {j pc nx : Nat} (hd : decode (am_cc j) pc = .ok (.aconst_null, 1)) (hnx : pc + 1 = nx) : am_snd j pc (ai_null nx) := by
  intro l d b sc D S0 p e R s m args below meth c C Q Qw hcx hC ls st S h H locs A cells slots hR hA hlo hfr hs
  obtain ⟨hx, hb, hml, hown, hts, hnm, hK, hR0, ⟨hd1, hRf, hRl, hRc, hRs⟩, hX, hend⟩ := hcx
  subst hnx
  exact lv_null hx hb hd (h H locs A cells slots hR hA hlo hfr hs)
theorem sn_iload_n {j pc nx n : Nat} {k : Fin 4} (hd : decode (am_cc j) pc = .ok (.iload_n k, 1)) (hk : (k : Nat) = n) (hnx : pc + 1 = nx) : am_snd j pc (ai_iload n nx) := by
  intro l d b sc D S0 p e R s m args below meth c C Q Qw hcx hC ls st S h H locs A cells slots hR hA hlo hfr hs
  obtain ⟨hx, hb, hml, hown, hts, hnm, hK, hR0, ⟨hd1, hRf, hRl, hRc, hRs⟩, hX, hend⟩ := hcx
  subst hnx
  obtain ⟨v, h1, h⟩ := h
  exact lv_iload_n hx hb hd hk (hA.get h1) (h H locs A cells slots hR hA hlo hfr hs)
theorem sn_iload {j pc nx n : Nat} (hd : decode (am_cc j) pc = .ok (.iload n, 2)) (hnx : pc + 2 = nx) : am_snd j pc (ai_iload n nx) := by
  intro l d b sc D S0 p e R s m args below meth c C Q Qw hcx hC ls st S h H locs A cells slots hR hA hlo hfr hs
  obtain ⟨hx, hb, hml, hown, hts, hnm, hK, hR0, ⟨hd1, hRf, hRl, hRc, hRs⟩, hX, hend⟩ := hcx
  subst hnx
  obtain ⟨v, h1, h⟩ := h
  exact lv_iload hx hb hd (hA.get h1) (h H locs A cells slots hR hA hlo hfr hs)
theorem sn_aload_n {j pc nx n : Nat} {k : Fin 4} (hd : decode (am_cc j) pc = .ok (.aload_n k, 1)) (hk : (k : Nat) = n) (hnx : pc + 1 = nx) : am_snd j pc (ai_aload n nx) := by
  intro l d b sc D S0 p e R s m args below meth c C Q Qw hcx hC ls st S h H locs A cells slots hR hA hlo hfr hs
  obtain ⟨hx, hb, hml, hown, hts, hnm, hK, hR0, ⟨hd1, hRf, hRl, hRc, hRs⟩, hX, hend⟩ := hcx
  subst hnx
  obtain ⟨v, h1, h⟩ := h
  have g := hA.get h1
  have h := h H locs A cells slots hR hA hlo hfr hs
  rcases v with _ | (_ | a)
  · exact lv_aload_nN hx hb hd hk g h
  · exact lv_aload_n hx hb hd hk g h
  · exact lv_aload_n hx hb hd hk g h
theorem sn_aload {j pc nx n : Nat} (hd : decode (am_cc j) pc = .ok (.aload n, 2)) (hnx : pc + 2 = nx) : am_snd j pc (ai_aload n nx) := by
  intro l d b sc D S0 p e R s m args below meth c C Q Qw hcx hC ls st S h H locs A cells slots hR hA hlo hfr hs
  obtain ⟨hx, hb, hml, hown, hts, hnm, hK, hR0, ⟨hd1, hRf, hRl, hRc, hRs⟩, hX, hend⟩ := hcx
  subst hnx
  obtain ⟨v, h1, h⟩ := h
  have g := hA.get h1
  have h := h H locs A cells slots hR hA hlo hfr hs
  rcases v with _ | (_ | a)
  · exact lv_aloadN hx hb hd g h
  · exact lv_aload hx hb hd g h
  · exact lv_aload hx hb hd g h
theorem sn_istore_n {j pc nx n : Nat} {k : Fin 4} (hd : decode (am_cc j) pc = .ok (.istore_n k, 1)) (hk : (k : Nat) = n) (hi : n < am_nL j) (hnx : pc + 1 = nx) : am_snd j pc (ai_istore n nx) := by
  intro l d b sc D S0 p e R s m args below meth c C Q Qw hcx hC ls st S h H locs A cells slots hR hA hlo hfr hs
  obtain ⟨hx, hb, hml, hown, hts, hnm, hK, hR0, ⟨hd1, hRf, hRl, hRc, hRs⟩, hX, hend⟩ := hcx
  subst hnx
  obtain ⟨v, r, rfl, h⟩ := h
  exact lv_istore_n hx hb hd hk hA.has hi rfl (fun A' h' => h H locs A' cells slots hR (hA.put hi (.inl v) h') hlo hfr hs)
theorem sn_istore {j pc nx n : Nat} (hd : decode (am_cc j) pc = .ok (.istore n, 2)) (hi : n < am_nL j) (hnx : pc + 2 = nx) : am_snd j pc (ai_istore n nx) := by
  intro l d b sc D S0 p e R s m args below meth c C Q Qw hcx hC ls st S h H locs A cells slots hR hA hlo hfr hs
  obtain ⟨hx, hb, hml, hown, hts, hnm, hK, hR0, ⟨hd1, hRf, hRl, hRc, hRs⟩, hX, hend⟩ := hcx
  subst hnx
  obtain ⟨v, r, rfl, h⟩ := h
  exact lv_istore hx hb hd hA.has hi rfl (fun A' h' => h H locs A' cells slots hR (hA.put hi (.inl v) h') hlo hfr hs)
theorem sn_astore_n {j pc nx n : Nat} {k : Fin 4} (hd : decode (am_cc j) pc = .ok (.astore_n k, 1)) (hk : (k : Nat) = n) (hi : n < am_nL j) (hnx : pc + 1 = nx) : am_snd j pc (ai_astore n nx) := by
  intro l d b sc D S0 p e R s m args below meth c C Q Qw hcx hC ls st S h H locs A cells slots hR hA hlo hfr hs
  obtain ⟨hx, hb, hml, hown, hts, hnm, hK, hR0, ⟨hd1, hRf, hRl, hRc, hRs⟩, hX, hend⟩ := hcx
  subst hnx
  obtain ⟨v, r, rfl, h⟩ := h
  rcases v with _ | (_ | a)
  · exact lv_astore_nN hx hb hd hk hA.has hi rfl (fun A' h' => h H locs A' cells slots hR (hA.put hi _ h') hlo hfr hs)
  · exact lv_astore_n hx hb hd hk hA.has hi rfl (fun A' h' => h H locs A' cells slots hR (hA.put hi _ h') hlo hfr hs)
  · exact lv_astore_n hx hb hd hk hA.has hi rfl (fun A' h' => h H locs A' cells slots hR (hA.put hi _ h') hlo hfr hs)
theorem sn_astore {j pc nx n : Nat} (hd : decode (am_cc j) pc = .ok (.astore n, 2)) (hi : n < am_nL j) (hnx : pc + 2 = nx) : am_snd j pc (ai_astore n nx) := by
  intro l d b sc D S0 p e R s m args below meth c C Q Qw hcx hC ls st S h H locs A cells slots hR hA hlo hfr hs
  obtain ⟨hx, hb, hml, hown, hts, hnm, hK, hR0, ⟨hd1, hRf, hRl, hRc, hRs⟩, hX, hend⟩ := hcx
  subst hnx
  obtain ⟨v, r, rfl, h⟩ := h
  rcases v with _ | (_ | a)
  · exact lv_astoreN hx hb hd hA.has hi rfl (fun A' h' => h H locs A' cells slots hR (hA.put hi _ h') hlo hfr hs)
  · exact lv_astore hx hb hd hA.has hi rfl (fun A' h' => h H locs A' cells slots hR (hA.put hi _ h') hlo hfr hs)
  · exact lv_astore hx hb hd hA.has hi rfl (fun A' h' => h H locs A' cells slots hR (hA.put hi _ h') hlo hfr hs)
theorem sn_iinc {j pc nx n : Nat} {i : Int} {z : Int32} (hd : decode (am_cc j) pc = .ok (.iinc n i, 3)) (hz : Int32.ofInt i = z) (hi : n < am_nL j) (hnx : pc + 3 = nx) : am_snd j pc (ai_iinc n z nx) := by
  intro l d b sc D S0 p e R s m args below meth c C Q Qw hcx hC ls st S h H locs A cells slots hR hA hlo hfr hs
  obtain ⟨hx, hb, hml, hown, hts, hnm, hK, hR0, ⟨hd1, hRf, hRl, hRc, hRs⟩, hX, hend⟩ := hcx
  subst hnx
  subst hz
  obtain ⟨v, h1, h⟩ := h
  obtain ⟨k, hk⟩ := List.getElem?_of_mem ((am_lw_in (q := (n, .int v))).mpr ⟨_, h1, rfl⟩ : (n, Value.int v) ∈ am_lw b sc ls)
  exact lv_iinc hx hb hd hA.has hk rfl hi rfl (fun A' h' => h H locs A' cells slots hR (hA.put hi (.inl (v + Int32.ofInt i)) h') hlo hfr hs)
theorem sn_iadd {j pc nx : Nat} (hd : decode (am_cc j) pc = .ok (.iadd, 1)) (hnx : pc + 1 = nx) : am_snd j pc (ai_bin (fun x y => x + y) nx) := by
  intro l d b sc D S0 p e R s m args below meth c C Q Qw hcx hC ls st S h H locs A cells slots hR hA hlo hfr hs
  obtain ⟨hx, hb, hml, hown, hts, hnm, hK, hR0, ⟨hd1, hRf, hRl, hRc, hRs⟩, hX, hend⟩ := hcx
  subst hnx
  obtain ⟨x, y, r, rfl, h⟩ := h
  exact lv_iadd hx hb hd (h H locs A cells slots hR hA hlo hfr hs)
theorem sn_isub {j pc nx : Nat} (hd : decode (am_cc j) pc = .ok (.isub, 1)) (hnx : pc + 1 = nx) : am_snd j pc (ai_bin (fun x y => x - y) nx) := by
  intro l d b sc D S0 p e R s m args below meth c C Q Qw hcx hC ls st S h H locs A cells slots hR hA hlo hfr hs
  obtain ⟨hx, hb, hml, hown, hts, hnm, hK, hR0, ⟨hd1, hRf, hRl, hRc, hRs⟩, hX, hend⟩ := hcx
  subst hnx
  obtain ⟨x, y, r, rfl, h⟩ := h
  exact lv_isub hx hb hd (h H locs A cells slots hR hA hlo hfr hs)
theorem sn_imul {j pc nx : Nat} (hd : decode (am_cc j) pc = .ok (.imul, 1)) (hnx : pc + 1 = nx) : am_snd j pc (ai_bin (fun x y => x * y) nx) := by
  intro l d b sc D S0 p e R s m args below meth c C Q Qw hcx hC ls st S h H locs A cells slots hR hA hlo hfr hs
  obtain ⟨hx, hb, hml, hown, hts, hnm, hK, hR0, ⟨hd1, hRf, hRl, hRc, hRs⟩, hX, hend⟩ := hcx
  subst hnx
  obtain ⟨x, y, r, rfl, h⟩ := h
  exact lv_imul hx hb hd (h H locs A cells slots hR hA hlo hfr hs)
theorem sn_iand {j pc nx : Nat} (hd : decode (am_cc j) pc = .ok (.iand, 1)) (hnx : pc + 1 = nx) : am_snd j pc (ai_bin (fun x y => x &&& y) nx) := by
  intro l d b sc D S0 p e R s m args below meth c C Q Qw hcx hC ls st S h H locs A cells slots hR hA hlo hfr hs
  obtain ⟨hx, hb, hml, hown, hts, hnm, hK, hR0, ⟨hd1, hRf, hRl, hRc, hRs⟩, hX, hend⟩ := hcx
  subst hnx
  obtain ⟨x, y, r, rfl, h⟩ := h
  exact lv_iand hx hb hd (h H locs A cells slots hR hA hlo hfr hs)
theorem sn_ishl {j pc nx : Nat} (hd : decode (am_cc j) pc = .ok (.ishl, 1)) (hnx : pc + 1 = nx) : am_snd j pc (ai_bin (fun x y => x <<< (y &&& 31)) nx) := by
  intro l d b sc D S0 p e R s m args below meth c C Q Qw hcx hC ls st S h H locs A cells slots hR hA hlo hfr hs
  obtain ⟨hx, hb, hml, hown, hts, hnm, hK, hR0, ⟨hd1, hRf, hRl, hRc, hRs⟩, hX, hend⟩ := hcx
  subst hnx
  obtain ⟨x, y, r, rfl, h⟩ := h
  exact lv_ishl hx hb hd (h H locs A cells slots hR hA hlo hfr hs)
theorem sn_ishr {j pc nx : Nat} (hd : decode (am_cc j) pc = .ok (.ishr, 1)) (hnx : pc + 1 = nx) : am_snd j pc (ai_bin (fun x y => x >>> (y &&& 31)) nx) := by
  intro l d b sc D S0 p e R s m args below meth c C Q Qw hcx hC ls st S h H locs A cells slots hR hA hlo hfr hs
  obtain ⟨hx, hb, hml, hown, hts, hnm, hK, hR0, ⟨hd1, hRf, hRl, hRc, hRs⟩, hX, hend⟩ := hcx
  subst hnx
  obtain ⟨x, y, r, rfl, h⟩ := h
  exact lv_ishr hx hb hd (h H locs A cells slots hR hA hlo hfr hs)
theorem sn_idiv {j pc nx : Nat} (hd : decode (am_cc j) pc = .ok (.idiv, 1)) (hnx : pc + 1 = nx) : am_snd j pc (ai_div (fun x y => x / y) nx) := by
  intro l d b sc D S0 p e R s m args below meth c C Q Qw hcx hC ls st S h H locs A cells slots hR hA hlo hfr hs
  obtain ⟨hx, hb, hml, hown, hts, hnm, hK, hR0, ⟨hd1, hRf, hRl, hRc, hRs⟩, hX, hend⟩ := hcx
  subst hnx
  obtain ⟨x, y, r, rfl, hy, h⟩ := h
  exact lv_idiv hx hb hd hy (h H locs A cells slots hR hA hlo hfr hs)
theorem sn_irem {j pc nx : Nat} (hd : decode (am_cc j) pc = .ok (.irem, 1)) (hnx : pc + 1 = nx) : am_snd j pc (ai_div (fun x y => x - x / y * y) nx) := by
  intro l d b sc D S0 p e R s m args below meth c C Q Qw hcx hC ls st S h H locs A cells slots hR hA hlo hfr hs
  obtain ⟨hx, hb, hml, hown, hts, hnm, hK, hR0, ⟨hd1, hRf, hRl, hRc, hRs⟩, hX, hend⟩ := hcx
  subst hnx
  obtain ⟨x, y, r, rfl, hy, h⟩ := h
  exact lv_irem hx hb hd hy (h H locs A cells slots hR hA hlo hfr hs)
theorem sn_if_eq {j pc nx tg : Nat} {off : Int} (hd : decode (am_cc j) pc = .ok (.ifCond .eq off, 3)) (ht : (pc : Int) + off = (tg : Int)) (hnx : pc + 3 = nx) : am_snd j pc (ai_if (fun x => x = 0) tg nx) := by
  intro l d b sc D S0 p e R s m args below meth c C Q Qw hcx hC ls st S h H locs A cells slots hR hA hlo hfr hs
  obtain ⟨hx, hb, hml, hown, hts, hnm, hK, hR0, ⟨hd1, hRf, hRl, hRc, hRs⟩, hX, hend⟩ := hcx
  subst hnx
  obtain ⟨x, r, rfl, h1, h2⟩ := h
  exact lv_if_eq hx hb hd ht (fun q => h1 q H locs A cells slots hR hA hlo hfr hs) (fun q => h2 q H locs A cells slots hR hA hlo hfr hs)
theorem sn_icmp_eq {j pc nx tg : Nat} {off : Int} (hd : decode (am_cc j) pc = .ok (.if_icmp .eq off, 3)) (ht : (pc : Int) + off = (tg : Int)) (hnx : pc + 3 = nx) : am_snd j pc (ai_icmp (fun x y => x = y) tg nx) := by
  intro l d b sc D S0 p e R s m args below meth c C Q Qw hcx hC ls st S h H locs A cells slots hR hA hlo hfr hs
  obtain ⟨hx, hb, hml, hown, hts, hnm, hK, hR0, ⟨hd1, hRf, hRl, hRc, hRs⟩, hX, hend⟩ := hcx
  subst hnx
  obtain ⟨x, y, r, rfl, h1, h2⟩ := h
  exact lv_icmp_eq hx hb hd ht (fun q => h1 q H locs A cells slots hR hA hlo hfr hs) (fun q => h2 q H locs A cells slots hR hA hlo hfr hs)
theorem sn_if_ne {j pc nx tg : Nat} {off : Int} (hd : decode (am_cc j) pc = .ok (.ifCond .ne off, 3)) (ht : (pc : Int) + off = (tg : Int)) (hnx : pc + 3 = nx) : am_snd j pc (ai_if (fun x => ¬ x = 0) tg nx) := by
  intro l d b sc D S0 p e R s m args below meth c C Q Qw hcx hC ls st S h H locs A cells slots hR hA hlo hfr hs
  obtain ⟨hx, hb, hml, hown, hts, hnm, hK, hR0, ⟨hd1, hRf, hRl, hRc, hRs⟩, hX, hend⟩ := hcx
  subst hnx
  obtain ⟨x, r, rfl, h1, h2⟩ := h
  exact lv_if_ne hx hb hd ht (fun q => h1 q H locs A cells slots hR hA hlo hfr hs) (fun q => h2 (fun z => z q) H locs A cells slots hR hA hlo hfr hs)
theorem sn_icmp_ne {j pc nx tg : Nat} {off : Int} (hd : decode (am_cc j) pc = .ok (.if_icmp .ne off, 3)) (ht : (pc : Int) + off = (tg : Int)) (hnx : pc + 3 = nx) : am_snd j pc (ai_icmp (fun x y => ¬ x = y) tg nx) := by
  intro l d b sc D S0 p e R s m args below meth c C Q Qw hcx hC ls st S h H locs A cells slots hR hA hlo hfr hs
  obtain ⟨hx, hb, hml, hown, hts, hnm, hK, hR0, ⟨hd1, hRf, hRl, hRc, hRs⟩, hX, hend⟩ := hcx
  subst hnx
  obtain ⟨x, y, r, rfl, h1, h2⟩ := h
  exact lv_icmp_ne hx hb hd ht (fun q => h1 q H locs A cells slots hR hA hlo hfr hs) (fun q => h2 (fun z => z q) H locs A cells slots hR hA hlo hfr hs)
theorem sn_if_lt {j pc nx tg : Nat} {off : Int} (hd : decode (am_cc j) pc = .ok (.ifCond .lt off, 3)) (ht : (pc : Int) + off = (tg : Int)) (hnx : pc + 3 = nx) : am_snd j pc (ai_if (fun x => x < 0) tg nx) := by
  intro l d b sc D S0 p e R s m args below meth c C Q Qw hcx hC ls st S h H locs A cells slots hR hA hlo hfr hs
  obtain ⟨hx, hb, hml, hown, hts, hnm, hK, hR0, ⟨hd1, hRf, hRl, hRc, hRs⟩, hX, hend⟩ := hcx
  subst hnx
  obtain ⟨x, r, rfl, h1, h2⟩ := h
  exact lv_if_lt hx hb hd ht (fun q => h1 q H locs A cells slots hR hA hlo hfr hs) (fun q => h2 q H locs A cells slots hR hA hlo hfr hs)
theorem sn_icmp_lt {j pc nx tg : Nat} {off : Int} (hd : decode (am_cc j) pc = .ok (.if_icmp .lt off, 3)) (ht : (pc : Int) + off = (tg : Int)) (hnx : pc + 3 = nx) : am_snd j pc (ai_icmp (fun x y => x < y) tg nx) := by
  intro l d b sc D S0 p e R s m args below meth c C Q Qw hcx hC ls st S h H locs A cells slots hR hA hlo hfr hs
  obtain ⟨hx, hb, hml, hown, hts, hnm, hK, hR0, ⟨hd1, hRf, hRl, hRc, hRs⟩, hX, hend⟩ := hcx
  subst hnx
  obtain ⟨x, y, r, rfl, h1, h2⟩ := h
  exact lv_icmp_lt hx hb hd ht (fun q => h1 q H locs A cells slots hR hA hlo hfr hs) (fun q => h2 q H locs A cells slots hR hA hlo hfr hs)
theorem sn_if_ge {j pc nx tg : Nat} {off : Int} (hd : decode (am_cc j) pc = .ok (.ifCond .ge off, 3)) (ht : (pc : Int) + off = (tg : Int)) (hnx : pc + 3 = nx) : am_snd j pc (ai_if (fun x => 0 ≤ x) tg nx) := by
  intro l d b sc D S0 p e R s m args below meth c C Q Qw hcx hC ls st S h H locs A cells slots hR hA hlo hfr hs
  obtain ⟨hx, hb, hml, hown, hts, hnm, hK, hR0, ⟨hd1, hRf, hRl, hRc, hRs⟩, hX, hend⟩ := hcx
  subst hnx
  obtain ⟨x, r, rfl, h1, h2⟩ := h
  exact lv_if_ge hx hb hd ht (fun q => h1 q H locs A cells slots hR hA hlo hfr hs) (fun q => h2 q H locs A cells slots hR hA hlo hfr hs)
theorem sn_icmp_ge {j pc nx tg : Nat} {off : Int} (hd : decode (am_cc j) pc = .ok (.if_icmp .ge off, 3)) (ht : (pc : Int) + off = (tg : Int)) (hnx : pc + 3 = nx) : am_snd j pc (ai_icmp (fun x y => y ≤ x) tg nx) := by
  intro l d b sc D S0 p e R s m args below meth c C Q Qw hcx hC ls st S h H locs A cells slots hR hA hlo hfr hs
  obtain ⟨hx, hb, hml, hown, hts, hnm, hK, hR0, ⟨hd1, hRf, hRl, hRc, hRs⟩, hX, hend⟩ := hcx
  subst hnx
  obtain ⟨x, y, r, rfl, h1, h2⟩ := h
  exact lv_icmp_ge hx hb hd ht (fun q => h1 q H locs A cells slots hR hA hlo hfr hs) (fun q => h2 q H locs A cells slots hR hA hlo hfr hs)
theorem sn_if_gt {j pc nx tg : Nat} {off : Int} (hd : decode (am_cc j) pc = .ok (.ifCond .gt off, 3)) (ht : (pc : Int) + off = (tg : Int)) (hnx : pc + 3 = nx) : am_snd j pc (ai_if (fun x => 0 < x) tg nx) := by
  intro l d b sc D S0 p e R s m args below meth c C Q Qw hcx hC ls st S h H locs A cells slots hR hA hlo hfr hs
  obtain ⟨hx, hb, hml, hown, hts, hnm, hK, hR0, ⟨hd1, hRf, hRl, hRc, hRs⟩, hX, hend⟩ := hcx
  subst hnx
  obtain ⟨x, r, rfl, h1, h2⟩ := h
  exact lv_if_gt hx hb hd ht (fun q => h1 q H locs A cells slots hR hA hlo hfr hs) (fun q => h2 q H locs A cells slots hR hA hlo hfr hs)
theorem sn_icmp_gt {j pc nx tg : Nat} {off : Int} (hd : decode (am_cc j) pc = .ok (.if_icmp .gt off, 3)) (ht : (pc : Int) + off = (tg : Int)) (hnx : pc + 3 = nx) : am_snd j pc (ai_icmp (fun x y => y < x) tg nx) := by
  intro l d b sc D S0 p e R s m args below meth c C Q Qw hcx hC ls st S h H locs A cells slots hR hA hlo hfr hs
  obtain ⟨hx, hb, hml, hown, hts, hnm, hK, hR0, ⟨hd1, hRf, hRl, hRc, hRs⟩, hX, hend⟩ := hcx
  subst hnx
  obtain ⟨x, y, r, rfl, h1, h2⟩ := h
  exact lv_icmp_gt hx hb hd ht (fun q => h1 q H locs A cells slots hR hA hlo hfr hs) (fun q => h2 q H locs A cells slots hR hA hlo hfr hs)
theorem sn_if_le {j pc nx tg : Nat} {off : Int} (hd : decode (am_cc j) pc = .ok (.ifCond .le off, 3)) (ht : (pc : Int) + off = (tg : Int)) (hnx : pc + 3 = nx) : am_snd j pc (ai_if (fun x => x ≤ 0) tg nx) := by
  intro l d b sc D S0 p e R s m args below meth c C Q Qw hcx hC ls st S h H locs A cells slots hR hA hlo hfr hs
  obtain ⟨hx, hb, hml, hown, hts, hnm, hK, hR0, ⟨hd1, hRf, hRl, hRc, hRs⟩, hX, hend⟩ := hcx
  subst hnx
  obtain ⟨x, r, rfl, h1, h2⟩ := h
  exact lv_if_le hx hb hd ht (fun q => h1 q H locs A cells slots hR hA hlo hfr hs) (fun q => h2 q H locs A cells slots hR hA hlo hfr hs)
theorem sn_icmp_le {j pc nx tg : Nat} {off : Int} (hd : decode (am_cc j) pc = .ok (.if_icmp .le off, 3)) (ht : (pc : Int) + off = (tg : Int)) (hnx : pc + 3 = nx) : am_snd j pc (ai_icmp (fun x y => x ≤ y) tg nx) := by
  intro l d b sc D S0 p e R s m args below meth c C Q Qw hcx hC ls st S h H locs A cells slots hR hA hlo hfr hs
  obtain ⟨hx, hb, hml, hown, hts, hnm, hK, hR0, ⟨hd1, hRf, hRl, hRc, hRs⟩, hX, hend⟩ := hcx
  subst hnx
  obtain ⟨x, y, r, rfl, h1, h2⟩ := h
  exact lv_icmp_le hx hb hd ht (fun q => h1 q H locs A cells slots hR hA hlo hfr hs) (fun q => h2 q H locs A cells slots hR hA hlo hfr hs)
theorem sn_ifnull {j pc nx tg : Nat} {off : Int} (hd : decode (am_cc j) pc = .ok (.ifnull off, 3)) (ht : (pc : Int) + off = (tg : Int)) (hnx : pc + 3 = nx) : am_snd j pc (ai_ifnull tg nx) := by
  intro l d b sc D S0 p e R s m args below meth c C Q Qw hcx hC ls st S h H locs A cells slots hR hA hlo hfr hs
  obtain ⟨hx, hb, hml, hown, hts, hnm, hK, hR0, ⟨hd1, hRf, hRl, hRc, hRs⟩, hX, hend⟩ := hcx
  subst hnx
  obtain ⟨v, r, rfl, h1, h2⟩ := h
  rcases v with _ | (_ | a)
  · exact lv_ifnullN hx hb hd ht (h1 rfl H locs A cells slots hR hA hlo hfr hs)
  · exact lv_ifnull hx hb hd (h2 _ rfl H locs A cells slots hR hA hlo hfr hs)
  · exact lv_ifnull hx hb hd (h2 _ rfl H locs A cells slots hR hA hlo hfr hs)
theorem sn_ifnonnull {j pc nx tg : Nat} {off : Int} (hd : decode (am_cc j) pc = .ok (.ifnonnull off, 3)) (ht : (pc : Int) + off = (tg : Int)) (hnx : pc + 3 = nx) : am_snd j pc (ai_ifnonnull tg nx) := by
  intro l d b sc D S0 p e R s m args below meth c C Q Qw hcx hC ls st S h H locs A cells slots hR hA hlo hfr hs
  obtain ⟨hx, hb, hml, hown, hts, hnm, hK, hR0, ⟨hd1, hRf, hRl, hRc, hRs⟩, hX, hend⟩ := hcx
  subst hnx
  obtain ⟨v, r, rfl, h1, h2⟩ := h
  rcases v with _ | (_ | a)
  · exact lv_ifnonnullN hx hb hd (h2 rfl H locs A cells slots hR hA hlo hfr hs)
  · exact lv_ifnonnull hx hb hd ht (h1 _ rfl H locs A cells slots hR hA hlo hfr hs)
  · exact lv_ifnonnull hx hb hd ht (h1 _ rfl H locs A cells slots hR hA hlo hfr hs)
theorem sn_goto {j pc tg : Nat} {off : Int} (hd : decode (am_cc j) pc = .ok (.goto off, 3)) (ht : (pc : Int) + off = (tg : Int)) : am_snd j pc (ai_goto tg) := by
  intro l d b sc D S0 p e R s m args below meth c C Q Qw hcx hC ls st S h H locs A cells slots hR hA hlo hfr hs
  obtain ⟨hx, hb, hml, hown, hts, hnm, hK, hR0, ⟨hd1, hRf, hRl, hRc, hRs⟩, hX, hend⟩ := hcx
  exact lv_goto hx hb hd ht (h H locs A cells slots hR hA hlo hfr hs)
theorem sn_dup {j pc nx : Nat} (hd : decode (am_cc j) pc = .ok (.dup, 1)) (hnx : pc + 1 = nx) : am_snd j pc (ai_dup nx) := by
  intro l d b sc D S0 p e R s m args below meth c C Q Qw hcx hC ls st S h H locs A cells slots hR hA hlo hfr hs
  obtain ⟨hx, hb, hml, hown, hts, hnm, hK, hR0, ⟨hd1, hRf, hRl, hRc, hRs⟩, hX, hend⟩ := hcx
  subst hnx
  obtain ⟨v, r, rfl, h⟩ := h
  exact lv_dup hx hb hd (am_v_cat b sc v) (h H locs A cells slots hR hA hlo hfr hs)
theorem sn_dup_x1 {j pc nx : Nat} (hd : decode (am_cc j) pc = .ok (.dup_x1, 1)) (hnx : pc + 1 = nx) : am_snd j pc (ai_dupx1 nx) := by
  intro l d b sc D S0 p e R s m args below meth c C Q Qw hcx hC ls st S h H locs A cells slots hR hA hlo hfr hs
  obtain ⟨hx, hb, hml, hown, hts, hnm, hK, hR0, ⟨hd1, hRf, hRl, hRc, hRs⟩, hX, hend⟩ := hcx
  subst hnx
  obtain ⟨v, w, r, rfl, h⟩ := h
  exact lv_dup_x1 hx hb hd (am_v_cat b sc v) (am_v_cat b sc w) (h H locs A cells slots hR hA hlo hfr hs)
theorem sn_dup2 {j pc nx : Nat} (hd : decode (am_cc j) pc = .ok (.dup2, 1)) (hnx : pc + 1 = nx) : am_snd j pc (ai_dup2 nx) := by
  intro l d b sc D S0 p e R s m args below meth c C Q Qw hcx hC ls st S h H locs A cells slots hR hA hlo hfr hs
  obtain ⟨hx, hb, hml, hown, hts, hnm, hK, hR0, ⟨hd1, hRf, hRl, hRc, hRs⟩, hX, hend⟩ := hcx
  subst hnx
  obtain ⟨v, w, r, rfl, h⟩ := h
  exact lv_dup2_11 hx hb hd (am_v_cat b sc v) (am_v_cat b sc w) (h H locs A cells slots hR hA hlo hfr hs)
theorem sn_pop {j pc nx : Nat} (hd : decode (am_cc j) pc = .ok (.pop, 1)) (hnx : pc + 1 = nx) : am_snd j pc (ai_pop nx) := by
  intro l d b sc D S0 p e R s m args below meth c C Q Qw hcx hC ls st S h H locs A cells slots hR hA hlo hfr hs
  obtain ⟨hx, hb, hml, hown, hts, hnm, hK, hR0, ⟨hd1, hRf, hRl, hRc, hRs⟩, hX, hend⟩ := hcx
  subst hnx
  obtain ⟨v, r, rfl, h⟩ := h
  exact lv_pop hx hb hd (am_v_cat b sc v) (h H locs A cells slots hR hA hlo hfr hs)
theorem sn_getI {j pc nx k f idx : Nat} {ob : String × u_T × Nat × (Nat → FieldType)} (hd : decode (am_cc j) pc = .ok (.getfield idx, 3)) (hkd : am_kd k = some (.inl ob)) (hf : f < ob.2.2.1) (hty : (ob.2.2.2 f).isReference = false) (hin : ∀ w ∈ u_ws ob.1 ob.2.1 ob.2.2.1, w ∈ am_ws j) (hlink : Cond.fieldLink (am_own j) idx (ob.2.1 f).1 (ob.2.1 f).2.1 (ob.2.1 f).2.2.1 ∈ am_ws j) (hnx : pc + 3 = nx) : am_snd j pc (ai_getI k f nx) := by
  intro l d b sc D S0 p e R s m args below meth c C Q Qw hcx hC ls st S h H locs A cells slots hR hA hlo hfr hs
  obtain ⟨hx, hb, hml, hown, hts, hnm, hK, hR0, ⟨hd1, hRf, hRl, hRc, hRs⟩, hX, hend⟩ := hcx
  subst hnx
  obtain ⟨n, r, rfl, hl, h⟩ := h
  obtain ⟨a, rfl, ha, hat⟩ := hR.cellN hl
  unfold am_at at hat
  rw [hkd] at hat
  obtain ⟨cell, q1, q2, q3, q4⟩ := hat
  obtain ⟨hS, hfc, kC, hkC, hkind⟩ := hK.obj hkd
  obtain ⟨cf, kf, fi, fd, hi, hsl⟩ := hS f hf
  refine W.getf hx hb hown (hts _ hlink) hi (u_facts hfc hkC (u_lays hts hin hf) hi).1 q1 (by rw [q3]; exact fun h => by cases h) (v := .int (am_gI S (100 * k + f) (a + 1) 0)) ?_ rfl rfl hd (h H locs A cells slots hR hA hlo hfr hs)
  rw [hsl, q4 f hf]
  show some (am_cv b sc S (100 * k + f) (ob.2.2.2 f) (a + 1) 0) = _
  unfold am_cv
  rw [hty]
  rfl
theorem sn_getP {j pc nx k f idx : Nat} {ob : String × u_T × Nat × (Nat → FieldType)} (hd : decode (am_cc j) pc = .ok (.getfield idx, 3)) (hkd : am_kd k = some (.inl ob)) (hf : f < ob.2.2.1) (hty : (ob.2.2.2 f).isReference = true) (hin : ∀ w ∈ u_ws ob.1 ob.2.1 ob.2.2.1, w ∈ am_ws j) (hlink : Cond.fieldLink (am_own j) idx (ob.2.1 f).1 (ob.2.1 f).2.1 (ob.2.1 f).2.2.1 ∈ am_ws j) (hnx : pc + 3 = nx) : am_snd j pc (ai_getP k f nx) := by
  intro l d b sc D S0 p e R s m args below meth c C Q Qw hcx hC ls st S h H locs A cells slots hR hA hlo hfr hs
  obtain ⟨hx, hb, hml, hown, hts, hnm, hK, hR0, ⟨hd1, hRf, hRl, hRc, hRs⟩, hX, hend⟩ := hcx
  subst hnx
  obtain ⟨n, r, rfl, hl, h⟩ := h
  obtain ⟨a, rfl, ha, hat⟩ := hR.cellN hl
  unfold am_at at hat
  rw [hkd] at hat
  obtain ⟨cell, q1, q2, q3, q4⟩ := hat
  obtain ⟨hS, hfc, kC, hkC, hkind⟩ := hK.obj hkd
  obtain ⟨cf, kf, fi, fd, hi, hsl⟩ := hS f hf
  refine W.getf hx hb hown (hts _ hlink) hi (u_facts hfc hkC (u_lays hts hin hf) hi).1 q1 (by rw [q3]; exact fun h => by cases h) (v := am_v b sc (.inr (am_gP S (100 * k + f) (a + 1) 0))) ?_ rfl rfl hd (h H locs A cells slots hR hA hlo hfr hs)
  rw [hsl, q4 f hf]
  show some (am_cv b sc S (100 * k + f) (ob.2.2.2 f) (a + 1) 0) = _
  unfold am_cv
  rw [hty]
  rfl
theorem sn_putI {j pc nx k f idx : Nat} {ob : String × u_T × Nat × (Nat → FieldType)} (hd : decode (am_cc j) pc = .ok (.putfield idx, 3)) (hkd : am_kd k = some (.inl ob)) (hf : f < ob.2.2.1) (hty : (ob.2.2.2 f).isReference = false) (hin : ∀ w ∈ u_ws ob.1 ob.2.1 ob.2.2.1, w ∈ am_ws j) (hlink : Cond.fieldLink (am_own j) idx (ob.2.1 f).1 (ob.2.1 f).2.1 (ob.2.1 f).2.2.1 ∈ am_ws j) (hty0 : ∀ x, x < ob.2.2.1 → parseFieldDescriptor (ob.2.1 x).2.2.1 = some (ob.2.2.2 x)) (hnm0 : ∀ x, x < ob.2.2.1 → ∀ y, y < ob.2.2.1 → x ≠ y → (ob.2.1 x).2.1 ≠ (ob.2.1 y).2.1) (hti : ob.2.2.2 f = .int) (hfin : (ob.2.1 f).2.2.2 = false) (hnx : pc + 3 = nx) : am_snd j pc (ai_putI k f nx) := by
  intro l d b sc D S0 p e R s m args below meth c C Q Qw hcx hC ls st S h H locs A cells slots hR hA hlo hfr hs
  obtain ⟨hx, hb, hml, hown, hts, hnm, hK, hR0, ⟨hd1, hRf, hRl, hRc, hRs⟩, hX, hend⟩ := hcx
  subst hnx
  obtain ⟨v, n, r, rfl, hl, h⟩ := h
  have hap := am_apart hts hin hty0 hnm0 (hK.obj hkd)
  obtain ⟨a, rfl, ha, hat⟩ := hR.cellN hl
  have hka : S.1.2.2 (a + 1) = k := hl.2.2
  unfold am_at at hat
  rw [hkd] at hat
  obtain ⟨cell, q1, q2, q3, q4⟩ := hat
  obtain ⟨hS, hfc, kC, hkC, hkind⟩ := hK.obj hkd
  obtain ⟨cf, kf, fi, fd, hi, hsl⟩ := hS f hf
  have hlay := hts _ (hin _ (u_in_lay hf))
  unfold u_lay at hlay
  rw [if_neg (by rw [hfin]; decide)] at hlay
  have hst := (u_facts hfc hkC (u_lays hts hin hf) hi).1
  have h6 := u_store (v := .int v) hfc hkC hkind hlay hi (hty0 f hf) (by rw [hti]; rfl) (by rw [hti]; rfl)
  refine W.putK hx hb (f := fd) ⟨hown, hts _ hlink, ⟨_, _, _, hi⟩, hst⟩ (by rw [q2]; exact h6) q1 q3 (by rw [hsl]; exact k2_hasslot (q4 f hf)) rfl rfl hd fun H' e1 e2 e3 => ?_
  rw [hsl] at e1 ⊢
  refine h H' _ A cells slots (hR.obj (am_sI_1 _ _ _ _ _) ha hka hkd hf hap q1 e1 e2 e3 (am_cv_sI' _ _ _ _ _ _ hty) (fun f' t a' i hne => am_cv_sI _ _ _ _ _ _ _ _ _ (fun q1 q2 => absurd q2 (hne q1)))) hA (am_lo hlo) (fun q hq => (e3 q (Nat.ne_of_lt (Nat.lt_of_lt_of_le hq (Nat.le_add_right _ _)))).trans (hfr q hq)) (hs.sI _ _ _ _)
theorem sn_putIF {j pc nx k f idx : Nat} {ob : String × u_T × Nat × (Nat → FieldType)} (hd : decode (am_cc j) pc = .ok (.putfield idx, 3)) (hkd : am_kd k = some (.inl ob)) (hf : f < ob.2.2.1) (hty : (ob.2.2.2 f).isReference = false) (hin : ∀ w ∈ u_ws ob.1 ob.2.1 ob.2.2.1, w ∈ am_ws j) (hlink : Cond.fieldLink (am_own j) idx (ob.2.1 f).1 (ob.2.1 f).2.1 (ob.2.1 f).2.2.1 ∈ am_ws j) (hty0 : ∀ x, x < ob.2.2.1 → parseFieldDescriptor (ob.2.1 x).2.2.1 = some (ob.2.2.2 x)) (hnm0 : ∀ x, x < ob.2.2.1 → ∀ y, y < ob.2.2.1 → x ≠ y → (ob.2.1 x).2.1 ≠ (ob.2.1 y).2.1) (hti : ob.2.2.2 f = .int) (hfin : (ob.2.1 f).2.2.2 = true) (hinit : (am_y j).name = "<init>") (hdecl : (ob.2.1 f).1 = am_own j) (hob : ob.1 = am_own j) (hnx : pc + 3 = nx) : am_snd j pc (ai_putI k f nx) := by
  intro l d b sc D S0 p e R s m args below meth c C Q Qw hcx hC ls st S h H locs A cells slots hR hA hlo hfr hs
  obtain ⟨hx, hb, hml, hown, hts, hnm, hK, hR0, ⟨hd1, hRf, hRl, hRc, hRs⟩, hX, hend⟩ := hcx
  subst hnx
  obtain ⟨v, n, r, rfl, hl, h⟩ := h
  have hap := am_apart hts hin hty0 hnm0 (hK.obj hkd)
  obtain ⟨a, rfl, ha, hat⟩ := hR.cellN hl
  have hka : S.1.2.2 (a + 1) = k := hl.2.2
  unfold am_at at hat
  rw [hkd] at hat
  obtain ⟨cell, q1, q2, q3, q4⟩ := hat
  obtain ⟨hS, hfc, kC, hkC, hkind⟩ := hK.obj hkd
  obtain ⟨cf, kf, fi, fd, hi, hsl⟩ := hS f hf
  have hlay := hts _ (hin _ (u_in_lay hf))
  unfold u_lay at hlay
  rw [if_pos hfin] at hlay
  have hst := (u_facts hfc hkC (u_lays hts hin hf) hi).1
  have hcf : m.cls = cf := by
    rw [hob, hdecl] at hlay
    rw [hdecl] at hi
    exact laid_decl hown hlay hi
  have h6 := u_fits (v := .int v) hfc hkC hkind (Or.inr hlay) hi (hty0 f hf) (by rw [hti]; rfl) (by rw [hti]; rfl)
  refine W.putFinK hx hb hown (hts _ hlink) hi hst hcf (hnm.trans hinit) (by rw [q2]; exact h6) q1 q3 (by rw [hsl]; exact k2_hasslot (q4 f hf)) rfl rfl hd fun H' e1 e2 e3 => ?_
  rw [hsl] at e1 ⊢
  refine h H' _ A cells slots (hR.obj (am_sI_1 _ _ _ _ _) ha hka hkd hf hap q1 e1 e2 e3 (am_cv_sI' _ _ _ _ _ _ hty) (fun f' t a' i hne => am_cv_sI _ _ _ _ _ _ _ _ _ (fun q1 q2 => absurd q2 (hne q1)))) hA (am_lo hlo) (fun q hq => (e3 q (Nat.ne_of_lt (Nat.lt_of_lt_of_le hq (Nat.le_add_right _ _)))).trans (hfr q hq)) (hs.sI _ _ _ _)
theorem sn_putZ {j pc nx k f idx : Nat} {ob : String × u_T × Nat × (Nat → FieldType)} (hd : decode (am_cc j) pc = .ok (.putfield idx, 3)) (hkd : am_kd k = some (.inl ob)) (hf : f < ob.2.2.1) (hty : (ob.2.2.2 f).isReference = false) (hin : ∀ w ∈ u_ws ob.1 ob.2.1 ob.2.2.1, w ∈ am_ws j) (hlink : Cond.fieldLink (am_own j) idx (ob.2.1 f).1 (ob.2.1 f).2.1 (ob.2.1 f).2.2.1 ∈ am_ws j) (hty0 : ∀ x, x < ob.2.2.1 → parseFieldDescriptor (ob.2.1 x).2.2.1 = some (ob.2.2.2 x)) (hnm0 : ∀ x, x < ob.2.2.1 → ∀ y, y < ob.2.2.1 → x ≠ y → (ob.2.1 x).2.1 ≠ (ob.2.1 y).2.1) (hti : ob.2.2.2 f = .boolean) (hfin : (ob.2.1 f).2.2.2 = false) (hnx : pc + 3 = nx) : am_snd j pc (ai_putZ k f nx) := by
  intro l d b sc D S0 p e R s m args below meth c C Q Qw hcx hC ls st S h H locs A cells slots hR hA hlo hfr hs
  obtain ⟨hx, hb, hml, hown, hts, hnm, hK, hR0, ⟨hd1, hRf, hRl, hRc, hRs⟩, hX, hend⟩ := hcx
  subst hnx
  obtain ⟨v, n, r, rfl, hl, hv01, h⟩ := h
  have hap := am_apart hts hin hty0 hnm0 (hK.obj hkd)
  obtain ⟨a, rfl, ha, hat⟩ := hR.cellN hl
  have hka : S.1.2.2 (a + 1) = k := hl.2.2
  unfold am_at at hat
  rw [hkd] at hat
  obtain ⟨cell, q1, q2, q3, q4⟩ := hat
  obtain ⟨hS, hfc, kC, hkC, hkind⟩ := hK.obj hkd
  obtain ⟨cf, kf, fi, fd, hi, hsl⟩ := hS f hf
  have hlay := hts _ (hin _ (u_in_lay hf))
  unfold u_lay at hlay
  rw [if_neg (by rw [hfin]; decide)] at hlay
  have hst := (u_facts hfc hkC (u_lays hts hin hf) hi).1
  have h6 := u_store (v := .int v) hfc hkC hkind hlay hi (hty0 f hf) (by rw [hti]; rcases hv01 with rfl | rfl <;> rfl) (by rw [hti]; rcases hv01 with rfl | rfl <;> rfl)
  refine W.putK hx hb (f := fd) ⟨hown, hts _ hlink, ⟨_, _, _, hi⟩, hst⟩ (by rw [q2]; exact h6) q1 q3 (by rw [hsl]; exact k2_hasslot (q4 f hf)) rfl rfl hd fun H' e1 e2 e3 => ?_
  rw [hsl] at e1 ⊢
  refine h H' _ A cells slots (hR.obj (am_sI_1 _ _ _ _ _) ha hka hkd hf hap q1 e1 e2 e3 (am_cv_sI' _ _ _ _ _ _ hty) (fun f' t a' i hne => am_cv_sI _ _ _ _ _ _ _ _ _ (fun q1 q2 => absurd q2 (hne q1)))) hA (am_lo hlo) (fun q hq => (e3 q (Nat.ne_of_lt (Nat.lt_of_lt_of_le hq (Nat.le_add_right _ _)))).trans (hfr q hq)) (hs.sI _ _ _ _)
theorem sn_putZF {j pc nx k f idx : Nat} {ob : String × u_T × Nat × (Nat → FieldType)} (hd : decode (am_cc j) pc = .ok (.putfield idx, 3)) (hkd : am_kd k = some (.inl ob)) (hf : f < ob.2.2.1) (hty : (ob.2.2.2 f).isReference = false) (hin : ∀ w ∈ u_ws ob.1 ob.2.1 ob.2.2.1, w ∈ am_ws j) (hlink : Cond.fieldLink (am_own j) idx (ob.2.1 f).1 (ob.2.1 f).2.1 (ob.2.1 f).2.2.1 ∈ am_ws j) (hty0 : ∀ x, x < ob.2.2.1 → parseFieldDescriptor (ob.2.1 x).2.2.1 = some (ob.2.2.2 x)) (hnm0 : ∀ x, x < ob.2.2.1 → ∀ y, y < ob.2.2.1 → x ≠ y → (ob.2.1 x).2.1 ≠ (ob.2.1 y).2.1) (hti : ob.2.2.2 f = .boolean) (hfin : (ob.2.1 f).2.2.2 = true) (hinit : (am_y j).name = "<init>") (hdecl : (ob.2.1 f).1 = am_own j) (hob : ob.1 = am_own j) (hnx : pc + 3 = nx) : am_snd j pc (ai_putZ k f nx) := by
  intro l d b sc D S0 p e R s m args below meth c C Q Qw hcx hC ls st S h H locs A cells slots hR hA hlo hfr hs
  obtain ⟨hx, hb, hml, hown, hts, hnm, hK, hR0, ⟨hd1, hRf, hRl, hRc, hRs⟩, hX, hend⟩ := hcx
  subst hnx
  obtain ⟨v, n, r, rfl, hl, hv01, h⟩ := h
  have hap := am_apart hts hin hty0 hnm0 (hK.obj hkd)
  obtain ⟨a, rfl, ha, hat⟩ := hR.cellN hl
  have hka : S.1.2.2 (a + 1) = k := hl.2.2
  unfold am_at at hat
  rw [hkd] at hat
  obtain ⟨cell, q1, q2, q3, q4⟩ := hat
  obtain ⟨hS, hfc, kC, hkC, hkind⟩ := hK.obj hkd
  obtain ⟨cf, kf, fi, fd, hi, hsl⟩ := hS f hf
  have hlay := hts _ (hin _ (u_in_lay hf))
  unfold u_lay at hlay
  rw [if_pos hfin] at hlay
  have hst := (u_facts hfc hkC (u_lays hts hin hf) hi).1
  have hcf : m.cls = cf := by
    rw [hob, hdecl] at hlay
    rw [hdecl] at hi
    exact laid_decl hown hlay hi
  have h6 := u_fits (v := .int v) hfc hkC hkind (Or.inr hlay) hi (hty0 f hf) (by rw [hti]; rcases hv01 with rfl | rfl <;> rfl) (by rw [hti]; rcases hv01 with rfl | rfl <;> rfl)
  refine W.putFinK hx hb hown (hts _ hlink) hi hst hcf (hnm.trans hinit) (by rw [q2]; exact h6) q1 q3 (by rw [hsl]; exact k2_hasslot (q4 f hf)) rfl rfl hd fun H' e1 e2 e3 => ?_
  rw [hsl] at e1 ⊢
  refine h H' _ A cells slots (hR.obj (am_sI_1 _ _ _ _ _) ha hka hkd hf hap q1 e1 e2 e3 (am_cv_sI' _ _ _ _ _ _ hty) (fun f' t a' i hne => am_cv_sI _ _ _ _ _ _ _ _ _ (fun q1 q2 => absurd q2 (hne q1)))) hA (am_lo hlo) (fun q hq => (e3 q (Nat.ne_of_lt (Nat.lt_of_lt_of_le hq (Nat.le_add_right _ _)))).trans (hfr q hq)) (hs.sI _ _ _ _)
theorem sn_putP {j pc nx k f idx : Nat} {ob : String × u_T × Nat × (Nat → FieldType)} (hd : decode (am_cc j) pc = .ok (.putfield idx, 3)) (hkd : am_kd k = some (.inl ob)) (hf : f < ob.2.2.1) (hty : (ob.2.2.2 f).isReference = true) (hin : ∀ w ∈ u_ws ob.1 ob.2.1 ob.2.2.1, w ∈ am_ws j) (hlink : Cond.fieldLink (am_own j) idx (ob.2.1 f).1 (ob.2.1 f).2.1 (ob.2.1 f).2.2.1 ∈ am_ws j) (hty0 : ∀ x, x < ob.2.2.1 → parseFieldDescriptor (ob.2.1 x).2.2.1 = some (ob.2.2.2 x)) (hnm0 : ∀ x, x < ob.2.2.1 → ∀ y, y < ob.2.2.1 → x ≠ y → (ob.2.1 x).2.1 ≠ (ob.2.1 y).2.1)  (hfin : (ob.2.1 f).2.2.2 = false) (hnx : pc + 3 = nx) : am_snd j pc (ai_putP k f nx) := by
  intro l d b sc D S0 p e R s m args below meth c C Q Qw hcx hC ls st S h H locs A cells slots hR hA hlo hfr hs
  obtain ⟨hx, hb, hml, hown, hts, hnm, hK, hR0, ⟨hd1, hRf, hRl, hRc, hRs⟩, hX, hend⟩ := hcx
  subst hnx
  obtain ⟨v, n, r, rfl, hl, h⟩ := h
  have hap := am_apart hts hin hty0 hnm0 (hK.obj hkd)
  obtain ⟨a, rfl, ha, hat⟩ := hR.cellN hl
  have hka : S.1.2.2 (a + 1) = k := hl.2.2
  unfold am_at at hat
  rw [hkd] at hat
  obtain ⟨cell, q1, q2, q3, q4⟩ := hat
  obtain ⟨hS, hfc, kC, hkC, hkind⟩ := hK.obj hkd
  obtain ⟨cf, kf, fi, fd, hi, hsl⟩ := hS f hf
  have hlay := hts _ (hin _ (u_in_lay hf))
  unfold u_lay at hlay
  rw [if_neg (by rw [hfin]; decide)] at hlay
  have hst := (u_facts hfc hkC (u_lays hts hin hf) hi).1
  have h6 := u_store (v := am_v b sc (.inr v)) hfc hkC hkind hlay hi (hty0 f hf) (am_nar hty v) (am_fit hty v)
  refine W.putK hx hb (f := fd) ⟨hown, hts _ hlink, ⟨_, _, _, hi⟩, hst⟩ (by rw [q2]; exact h6) q1 q3 (by rw [hsl]; exact k2_hasslot (q4 f hf)) rfl rfl hd fun H' e1 e2 e3 => ?_
  rw [hsl] at e1 ⊢
  refine h H' _ A cells slots (hR.obj (am_sP_1 _ _ _ _ _) ha hka hkd hf hap q1 e1 e2 e3 (am_cv_sP' _ _ _ _ _ _ hty) (fun f' t a' i hne => am_cv_sP _ _ _ _ _ _ _ _ _ (fun q1 q2 => absurd q2 (hne q1)))) hA (am_lo hlo) (fun q hq => (e3 q (Nat.ne_of_lt (Nat.lt_of_lt_of_le hq (Nat.le_add_right _ _)))).trans (hfr q hq)) (hs.sP _ _ _ _)
theorem sn_putPF {j pc nx k f idx : Nat} {ob : String × u_T × Nat × (Nat → FieldType)} (hd : decode (am_cc j) pc = .ok (.putfield idx, 3)) (hkd : am_kd k = some (.inl ob)) (hf : f < ob.2.2.1) (hty : (ob.2.2.2 f).isReference = true) (hin : ∀ w ∈ u_ws ob.1 ob.2.1 ob.2.2.1, w ∈ am_ws j) (hlink : Cond.fieldLink (am_own j) idx (ob.2.1 f).1 (ob.2.1 f).2.1 (ob.2.1 f).2.2.1 ∈ am_ws j) (hty0 : ∀ x, x < ob.2.2.1 → parseFieldDescriptor (ob.2.1 x).2.2.1 = some (ob.2.2.2 x)) (hnm0 : ∀ x, x < ob.2.2.1 → ∀ y, y < ob.2.2.1 → x ≠ y → (ob.2.1 x).2.1 ≠ (ob.2.1 y).2.1)  (hfin : (ob.2.1 f).2.2.2 = true) (hinit : (am_y j).name = "<init>") (hdecl : (ob.2.1 f).1 = am_own j) (hob : ob.1 = am_own j) (hnx : pc + 3 = nx) : am_snd j pc (ai_putP k f nx) := by
  intro l d b sc D S0 p e R s m args below meth c C Q Qw hcx hC ls st S h H locs A cells slots hR hA hlo hfr hs
  obtain ⟨hx, hb, hml, hown, hts, hnm, hK, hR0, ⟨hd1, hRf, hRl, hRc, hRs⟩, hX, hend⟩ := hcx
  subst hnx
  obtain ⟨v, n, r, rfl, hl, h⟩ := h
  have hap := am_apart hts hin hty0 hnm0 (hK.obj hkd)
  obtain ⟨a, rfl, ha, hat⟩ := hR.cellN hl
  have hka : S.1.2.2 (a + 1) = k := hl.2.2
  unfold am_at at hat
  rw [hkd] at hat
  obtain ⟨cell, q1, q2, q3, q4⟩ := hat
  obtain ⟨hS, hfc, kC, hkC, hkind⟩ := hK.obj hkd
  obtain ⟨cf, kf, fi, fd, hi, hsl⟩ := hS f hf
  have hlay := hts _ (hin _ (u_in_lay hf))
  unfold u_lay at hlay
  rw [if_pos hfin] at hlay
  have hst := (u_facts hfc hkC (u_lays hts hin hf) hi).1
  have hcf : m.cls = cf := by
    rw [hob, hdecl] at hlay
    rw [hdecl] at hi
    exact laid_decl hown hlay hi
  have h6 := u_fits (v := am_v b sc (.inr v)) hfc hkC hkind (Or.inr hlay) hi (hty0 f hf) (am_nar hty v) (am_fit hty v)
  refine W.putFinK hx hb hown (hts _ hlink) hi hst hcf (hnm.trans hinit) (by rw [q2]; exact h6) q1 q3 (by rw [hsl]; exact k2_hasslot (q4 f hf)) rfl rfl hd fun H' e1 e2 e3 => ?_
  rw [hsl] at e1 ⊢
  refine h H' _ A cells slots (hR.obj (am_sP_1 _ _ _ _ _) ha hka hkd hf hap q1 e1 e2 e3 (am_cv_sP' _ _ _ _ _ _ hty) (fun f' t a' i hne => am_cv_sP _ _ _ _ _ _ _ _ _ (fun q1 q2 => absurd q2 (hne q1)))) hA (am_lo hlo) (fun q hq => (e3 q (Nat.ne_of_lt (Nat.lt_of_lt_of_le hq (Nat.le_add_right _ _)))).trans (hfr q hq)) (hs.sP _ _ _ _)
theorem sn_iald {j pc nx k n : Nat} {ty : FieldType} (hd : decode (am_cc j) pc = .ok (.iaload, 1)) (hkd : am_kd k = some (.inr (ty, n))) (ht : ty = .int) (hnx : pc + 1 = nx) : am_snd j pc (ai_ald k n nx) := by
  intro l d b sc D S0 p e R s m args below meth c C Q Qw hcx hC ls st S h H locs A cells slots hR hA hlo hfr hs
  obtain ⟨hx, hb, hml, hown, hts, hnm, hK, hR0, ⟨hd1, hRf, hRl, hRc, hRs⟩, hX, hend⟩ := hcx
  subst hnx
  obtain ⟨i, q, r, rfl, hl, hin, h⟩ := h
  obtain ⟨a, rfl, ha, hat⟩ := hR.cellN hl
  unfold am_at at hat
  rw [hkd] at hat
  have hlt : i.toNatClampNeg < n := Nat.not_le.mp fun q => hin (Or.inr q)
  refine W.iald (v := .int (am_gI S (100 * k) (a + 1) i.toNatClampNeg)) hx hb hat (by have g := (hK.arr hkd).1 n; rw [ht] at g; exact g _) (fun q => by cases q) (by show ¬ (i < 0 ∨ (arrV _ _ _).slots.size ≤ _); rw [arrV_size]; exact hin) ?_ rfl rfl hd (h H locs A cells slots hR hA hlo hfr hs)
  rw [arrV_read _ _ hlt]
  unfold am_cv
  rw [ht]; rfl
theorem sn_zald {j pc nx k n : Nat} {ty : FieldType} (hd : decode (am_cc j) pc = .ok (.baload, 1)) (hkd : am_kd k = some (.inr (ty, n))) (ht : ty = .boolean) (hnx : pc + 1 = nx) : am_snd j pc (ai_ald k n nx) := by
  intro l d b sc D S0 p e R s m args below meth c C Q Qw hcx hC ls st S h H locs A cells slots hR hA hlo hfr hs
  obtain ⟨hx, hb, hml, hown, hts, hnm, hK, hR0, ⟨hd1, hRf, hRl, hRc, hRs⟩, hX, hend⟩ := hcx
  subst hnx
  obtain ⟨i, q, r, rfl, hl, hin, h⟩ := h
  obtain ⟨a, rfl, ha, hat⟩ := hR.cellN hl
  unfold am_at at hat
  rw [hkd] at hat
  have hlt : i.toNatClampNeg < n := Nat.not_le.mp fun q => hin (Or.inr q)
  refine W.zald (v := .int (am_gI S (100 * k) (a + 1) i.toNatClampNeg)) hx hb hat (by have g := (hK.arr hkd).1 n; rw [ht] at g; exact g _) (fun q => by cases q) (by show ¬ (i < 0 ∨ (arrV _ _ _).slots.size ≤ _); rw [arrV_size]; exact hin) ?_ rfl rfl hd (h H locs A cells slots hR hA hlo hfr hs)
  rw [arrV_read _ _ hlt]
  unfold am_cv
  rw [ht]; rfl
theorem sn_aald {j pc nx k n : Nat} {ty : FieldType} (hd : decode (am_cc j) pc = .ok (.aaload, 1)) (hkd : am_kd k = some (.inr (ty, n))) (ht : ty.isReference = true) (hnx : pc + 1 = nx) : am_snd j pc (ai_aald k n nx) := by
  intro l d b sc D S0 p e R s m args below meth c C Q Qw hcx hC ls st S h H locs A cells slots hR hA hlo hfr hs
  obtain ⟨hx, hb, hml, hown, hts, hnm, hK, hR0, ⟨hd1, hRf, hRl, hRc, hRs⟩, hX, hend⟩ := hcx
  subst hnx
  obtain ⟨i, q, r, rfl, hl, hin, h⟩ := h
  obtain ⟨a, rfl, ha, hat⟩ := hR.cellN hl
  unfold am_at at hat
  rw [hkd] at hat
  have hlt : i.toNatClampNeg < n := Nat.not_le.mp fun q => hin (Or.inr q)
  refine W.aald (ty := ty) (v := am_v b sc (.inr (am_gP S (100 * k) (a + 1) i.toNatClampNeg))) hx hb hat ((hK.arr hkd).1 n _) ht (fun q => by cases q) (by show ¬ (i < 0 ∨ (arrV _ _ _).slots.size ≤ _); rw [arrV_size]; exact hin) ?_ rfl rfl hd (h H locs A cells slots hR hA hlo hfr hs)
  rw [arrV_read _ _ hlt]
  unfold am_cv
  rw [if_pos ht]
theorem sn_iast {j pc nx k n : Nat} {ty : FieldType} (hd : decode (am_cc j) pc = .ok (.iastore, 1)) (hkd : am_kd k = some (.inr (ty, n))) (ht : ty = .int) (hnx : pc + 1 = nx) : am_snd j pc (ai_ast k n nx) := by
  intro l d b sc D S0 p e R s m args below meth c C Q Qw hcx hC ls st S h H locs A cells slots hR hA hlo hfr hs
  obtain ⟨hx, hb, hml, hown, hts, hnm, hK, hR0, ⟨hd1, hRf, hRl, hRc, hRs⟩, hX, hend⟩ := hcx
  subst hnx
  obtain ⟨v, i, q, r, rfl, hl, hin, h⟩ := h
  obtain ⟨a, rfl, ha, hat⟩ := hR.cellN hl
  have hka : S.1.2.2 (a + 1) = k := hl.2.2
  unfold am_at at hat
  rw [hkd] at hat
  refine W.iast hx hb hat (by have g := (hK.arr hkd).1 n; rw [ht] at g; exact g _) (fun q => by cases q) (by show ¬ (i < 0 ∨ (arrV _ _ _).slots.size ≤ _); rw [arrV_size]; exact hin) rfl rfl hd fun H' e1 e2 e3 => ?_
  exact h H' _ A cells slots (hR.arr (am_sI_1 _ _ _ _ _) ha hka hkd e1 e2 e3 (am_cv_sI' _ _ _ _ _ _ (by rw [ht]; rfl)) (fun f' t a' i' hne => am_cv_sI _ _ _ _ _ _ _ _ _ hne)) hA (am_lo hlo) (fun q hq => (e3 q (Nat.ne_of_lt (Nat.lt_of_lt_of_le hq (Nat.le_add_right _ _)))).trans (hfr q hq)) (hs.sI _ _ _ _)
theorem sn_zast {j pc nx k n : Nat} {ty : FieldType} (hd : decode (am_cc j) pc = .ok (.bastore, 1)) (hkd : am_kd k = some (.inr (ty, n))) (ht : ty = .boolean) (hnx : pc + 1 = nx) : am_snd j pc (ai_zast k n nx) := by
  intro l d b sc D S0 p e R s m args below meth c C Q Qw hcx hC ls st S h H locs A cells slots hR hA hlo hfr hs
  obtain ⟨hx, hb, hml, hown, hts, hnm, hK, hR0, ⟨hd1, hRf, hRl, hRc, hRs⟩, hX, hend⟩ := hcx
  subst hnx
  obtain ⟨v, i, q, r, rfl, hl, hin, hv01, h⟩ := h
  obtain ⟨a, rfl, ha, hat⟩ := hR.cellN hl
  have hka : S.1.2.2 (a + 1) = k := hl.2.2
  unfold am_at at hat
  rw [hkd] at hat
  refine W.zast hx hb hat (by have g := (hK.arr hkd).1 n; rw [ht] at g; exact g _) (fun q => by cases q) (by show ¬ (i < 0 ∨ (arrV _ _ _).slots.size ≤ _); rw [arrV_size]; exact hin) rfl rfl hd fun H' e1 e2 e3 => ?_
  have hnz : narrow .boolean (.int v) = .int v := by rcases hv01 with rfl | rfl <;> rfl
  rw [hnz] at e1
  exact h H' _ A cells slots (hR.arr (am_sI_1 _ _ _ _ _) ha hka hkd e1 e2 e3 (am_cv_sI' _ _ _ _ _ _ (by rw [ht]; rfl)) (fun f' t a' i' hne => am_cv_sI _ _ _ _ _ _ _ _ _ hne)) hA (am_lo hlo) (fun q hq => (e3 q (Nat.ne_of_lt (Nat.lt_of_lt_of_le hq (Nat.le_add_right _ _)))).trans (hfr q hq)) (hs.sI _ _ _ _)
theorem sn_aast {j pc nx k n k2 : Nat} {ty : FieldType} {ob : String × u_T × Nat × (Nat → FieldType)} (hd : decode (am_cc j) pc = .ok (.aastore, 1)) (hkd : am_kd k = some (.inr (ty, n))) (hkd2 : am_kd k2 = some (.inl ob)) (ht : ty = .object ob.1) (hnx : pc + 1 = nx) : am_snd j pc (ai_aast k n k2 nx) := by
  intro l d b sc D S0 p e R s m args below meth c C Q Qw hcx hC ls st S h H locs A cells slots hR hA hlo hfr hs
  obtain ⟨hx, hb, hml, hown, hts, hnm, hK, hR0, ⟨hd1, hRf, hRl, hRc, hRs⟩, hX, hend⟩ := hcx
  subst hnx
  obtain ⟨v, i, q, r, rfl, hl, hin, hv, h⟩ := h
  obtain ⟨a, rfl, ha, hat⟩ := hR.cellN hl
  have hka : S.1.2.2 (a + 1) = k := hl.2.2
  unfold am_at at hat
  rw [hkd] at hat
  have hlt : i.toNatClampNeg < n := Nat.not_le.mp fun q => hin (Or.inr q)
  rcases v with _ | q
  · refine va_WaastN (C := ob.1) hx hb hat (by have g := (hK.arr hkd).1 n; rw [ht] at g; exact g _) (fun q => by cases q) (by show ¬ (i < 0 ∨ (arrV _ _ _).slots.size ≤ _); rw [arrV_size]; exact hin) rfl rfl hd fun H' e1 e2 e3 => ?_
    exact h H' _ A cells slots (hR.arr (am_sP_1 _ _ _ _ _) ha hka hkd e1 e2 e3 (am_cv_sP' _ _ _ _ _ _ (by rw [ht]; rfl)) (fun f' t a' i' hne => am_cv_sP _ _ _ _ _ _ _ _ _ hne)) hA (am_lo hlo) (fun q hq => (e3 q (Nat.ne_of_lt (Nat.lt_of_lt_of_le hq (Nat.le_add_right _ _)))).trans (hfr q hq)) (hs.sP _ _ _ _)
  · obtain ⟨a2, rfl, ha2, hat2⟩ := hR.cellN (hv q rfl)
    unfold am_at at hat2
    rw [hkd2] at hat2
    obtain ⟨cell2, g1, g2, g3, -⟩ := hat2
    have hcls := (hK.obj hkd2).2
    have hra := (hK.arr hkd).2
    rw [ht] at hra
    obtain ⟨kA, comp, k1, k2', k3, -⟩ := hra
    have hcomp : comp = D.1 k2 := Option.some.inj (k3.symm.trans hcls.1)
    subst hcomp
    obtain ⟨kC, hkC, -⟩ := hcls.2
    refine W.aast hx hb hat (fun q h => by cases h) (fun h => by cases h) k1 k2' rfl hkC ⟨fun q => hin (Or.inl q), by show _ < (arrV _ _ _).slots.size; rw [arrV_size]; exact hlt⟩ g1 (fun q h => by rw [g3] at h; cases h) (by rw [g2]; exact hkC) (by rw [g2]; exact va_assign (hK.obj hkd2).2) rfl rfl hd fun H' e1 e2 e3 => ?_
    exact h H' _ A cells slots (hR.arr (am_sP_1 _ _ _ _ _) ha hka hkd e1 e2 e3 (am_cv_sP' _ _ _ _ _ _ (by rw [ht]; rfl)) (fun f' t a' i' hne => am_cv_sP _ _ _ _ _ _ _ _ _ hne)) hA (am_lo hlo) (fun q hq => (e3 q (Nat.ne_of_lt (Nat.lt_of_lt_of_le hq (Nat.le_add_right _ _)))).trans (hfr q hq)) (hs.sP _ _ _ _)
theorem sn_sld {j pc nx : Nat} (hd : decode (am_cc j) pc = .ok (.iaload, 1)) (hj : j = am_jL) (hnx : pc + 1 = nx) : am_snd j pc (ai_sld nx) := by
  intro l d b sc D S0 p e R s m args below meth c C Q Qw hcx hC ls st S h H locs A cells slots hR hA hlo hfr hs
  obtain ⟨hx, hb, hml, hown, hts, hnm, hK, hR0, ⟨hd1, hRf, hRl, hRc, hRs⟩, hX, hend⟩ := hcx
  subst hnx
  obtain ⟨i, r, rfl, hin, h⟩ := h
  obtain ⟨⟨scr, h1, h2, h3, h4, h5⟩, hsc⟩ := hX hj
  rw [hs.1] at hin h
  have hlt : i.toNatClampNeg < S0.2.1.1 := Nat.not_le.mp fun q => hin (Or.inr q)
  exact W.iald (v := .int (S0.2.1.2 i.toNatClampNeg)) hx hb (by rw [hfr sc hsc]; exact h1) h2 h3 (by rw [h4]; exact hin) (h5 _ hlt) rfl rfl hd (h H locs A cells slots hR hA hlo hfr hs)
theorem sn_slen {j pc nx : Nat} (hd : decode (am_cc j) pc = .ok (.arraylength, 1)) (hj : j = am_jL) (hnx : pc + 1 = nx) : am_snd j pc (ai_slen nx) := by
  intro l d b sc D S0 p e R s m args below meth c C Q Qw hcx hC ls st S h H locs A cells slots hR hA hlo hfr hs
  obtain ⟨hx, hb, hml, hown, hts, hnm, hK, hR0, ⟨hd1, hRf, hRl, hRc, hRs⟩, hX, hend⟩ := hcx
  subst hnx
  obtain ⟨r, rfl, h⟩ := h
  obtain ⟨⟨scr, h1, h2, h3, h4, h5⟩, hsc⟩ := hX hj
  rw [hs.1] at h
  exact W.alen (n := Int32.ofNat S0.2.1.1) hx hb (by rw [hfr sc hsc]; exact h1) h2 (by rw [h4]) rfl rfl hd (h H locs A cells slots hR hA hlo hfr hs)
theorem sn_new {j pc nx k n idx : Nat} {ob : String × u_T × Nat × (Nat → FieldType)} (hd : decode (am_cc j) pc = .ok (.new idx, 3)) (hkd : am_kd k = some (.inl ob)) (hN : ob.2.2.1 = n) (hk100 : ∀ f, f < n → (100 * k + f < 5000 ↔ k < 50)) (hdv : ∀ f, f < n → defaultValue (ob.2.2.2 f) = if (ob.2.2.2 f).isReference = true then .null else .int 0) (hty0 : ∀ x, x < ob.2.2.1 → parseFieldDescriptor (ob.2.1 x).2.2.1 = some (ob.2.2.2 x)) (hin : ∀ w ∈ u_ws ob.1 ob.2.1 ob.2.2.1, w ∈ am_ws j) (hcl : Cond.classLink (am_own j) idx ob.1 ∈ am_ws j) (hins : Cond.instantiable ob.1 n ∈ am_ws j) (hini : Cond.initialized ob.1 ∈ am_ws j) (hnx : pc + 3 = nx) : am_snd j pc (ai_new k n nx) := by
  intro l d b sc D S0 p e R s m args below meth c C Q Qw hcx hC ls st S h H locs A cells slots hR hA hlo hfr hs
  obtain ⟨hx, hb, hml, hown, hts, hnm, hK, hR0, ⟨hd1, hRf, hRl, hRc, hRs⟩, hX, hend⟩ := hcx
  subst hnx
  obtain ⟨hc1, hc2, h⟩ := h
  refine am_tight hR0 hR ?_
  refine W.newc hx hb hown (hts _ hcl) (hts _ hins) (hts _ hini) rfl hd ?_ ?_ fun cC kC f1 f2 f3 f4 => ?_
  · have := hs.2.1; omega
  · have := hs.2.2; omega
  have hKo := hK.obj hkd
  cases hKo.2.1.symm.trans f1
  have hR' : am_R b sc D (am_nw S k n) (H.push (blank (D.1 k) kC)) := by
    refine hR.new (cell := blank (D.1 k) kC) (by show (kC.instanceTypes.map defaultValue).size = n; rw [Array.size_map]; exact f4) hc1 hc2 rfl ?_
    unfold am_at
    rw [hkd]
    have hb0 : (H.push (blank (D.1 k) kC))[b + S.1.1]? = some (blank (D.1 k) kC) := by rw [← hR.1]; exact Array.getElem?_push_size
    refine t_OB.to (u_born ob.2.2.2 hts hin hKo f2 hb0 hty0) (fun f hf => ?_)
    rw [am_cv_nw' _ _ _ _ _ _ (hk100 f (hN ▸ hf)), hdv f (hN ▸ hf)]
  have hz : H.size = b + S.1.1 := hR.1
  have g := h (H.push (blank (D.1 k) kC)) locs A (S.1.1 - S0.1.1 + 1) (S.1.2.1 - S0.1.2.1 + n) hR' hA hlo (fun q hq => by rw [Array.getElem?_push, if_neg (by omega)]; exact hfr q hq) (hs.nw _ _)
  rw [hz]
  exact g
theorem sn_newa {j pc nx k n : Nat} {ty : FieldType} {at9 : ArrayType} (hd : decode (am_cc j) pc = .ok (.newarray at9, 2)) (hkd : am_kd k = some (.inr (ty, n))) (ht : newarray.typeOf at9 = ty) (hp : ty = .int ∨ ty = .boolean) (hn : n < 1000) (hk100 : 100 * k < 5000 ↔ k < 50) (harr : Cond.arrayClass ty ∈ am_ws j) (hnx : pc + 2 = nx) : am_snd j pc (ai_newa k n nx) := by
  intro l d b sc D S0 p e R s m args below meth c C Q Qw hcx hC ls st S h H locs A cells slots hR hA hlo hfr hs
  obtain ⟨hx, hb, hml, hown, hts, hnm, hK, hR0, ⟨hd1, hRf, hRl, hRc, hRs⟩, hX, hend⟩ := hcx
  subst hnx
  obtain ⟨i, r, rfl, rfl, hc1, hc2, h⟩ := h
  have hcl : (nI n).toNatClampNeg = n := nI_clamp (by omega)
  refine am_tight hR0 hR ?_
  refine W.newa hx hb (hts _ (by rw [ht]; exact harr)) rfl hd rfl (nI_pos (by omega)) ?_ ?_ ?_ fun cA kA comp f1 f2 f3 => ?_
  · rw [hcl, ht]; rcases hp with rfl | rfl <;> (show n * _ ≤ 536870912; simp [componentBytes]; omega)
  · have := hs.2.1; omega
  · rw [hcl]; have := hs.2.2; omega
  rw [ht] at f1 ⊢
  rw [hcl]
  have hra := (hK.arr hkd).2
  have hcA : cA = D.1 k := by
    rcases hp with rfl | rfl <;> exact Option.some.inj (f1.symm.trans hra)
  subst hcA
  have hz : H.size = b + S.1.1 := hR.1
  rw [arrV_new]
  have hR' : am_R b sc D (am_nw S k n) (H.push (arrV (D.1 k) n (fun _ => defaultValue ty))) := by
    refine hR.new (by rw [arrV_size]) hc1 hc2 rfl ?_
    unfold am_at
    rw [hkd]
    show (H.push _)[b + S.1.1]? = _
    rw [← hz, Array.getElem?_push_size]
    congr 2
    funext i
    rw [am_cv_nw' _ _ _ _ _ _ hk100]
    rcases hp with rfl | rfl <;> rfl
  have g := h (H.push (arrV (D.1 k) n (fun _ => defaultValue ty))) locs A (S.1.1 - S0.1.1 + 1) (S.1.2.1 - S0.1.2.1 + n) hR' hA hlo (fun q hq => by rw [Array.getElem?_push, if_neg (by omega)]; exact hfr q hq) (hs.nw _ _)
  rw [hz]
  exact g
theorem sn_anewa {j pc nx k n idx : Nat} {ty : FieldType} {E : String} (hd : decode (am_cc j) pc = .ok (.anewarray idx, 3)) (hkd : am_kd k = some (.inr (ty, n))) (ht : ty = .object E) (hE : E ∈ am_aos) (hn : n < 1000) (hk100 : 100 * k < 5000 ↔ k < 50) (hcl : Cond.classLink (am_own j) idx E ∈ am_ws j) (hnx : pc + 3 = nx) : am_snd j pc (ai_newa k n nx) := by
  intro l d b sc D S0 p e R s m args below meth c C Q Qw hcx hC ls st S h H locs A cells slots hR hA hlo hfr hs
  obtain ⟨hx, hb, hml, hown, hts, hnm, hK, hR0, ⟨hd1, hRf, hRl, hRc, hRs⟩, hX, hend⟩ := hcx
  subst hnx
  obtain ⟨i, r, rfl, rfl, hc1, hc2, h⟩ := h
  have hcn : (nI n).toNatClampNeg = n := nI_clamp (by omega)
  refine am_tight hR0 hR ?_
  refine W.anew hx hb hown (hts _ hcl) (va_AO.use (hK.2.1 E hE)) rfl hd rfl (nI_pos (by omega)) ?_ ?_ ?_ fun cA kA comp f1 f2 f3 f4 => ?_
  · rw [hcn]; omega
  · have := hs.2.1; omega
  · rw [hcn]; have := hs.2.2; omega
  rw [hcn]
  have hra := (hK.arr hkd).2
  rw [ht] at hra
  obtain ⟨kA2, comp2, r1, r2, r3, r4⟩ := hra
  have hcA : cA = D.1 k := Option.some.inj (f1.symm.trans r4)
  subst hcA
  have hz : H.size = b + S.1.1 := hR.1
  rw [arrV_new]
  have hR' : am_R b sc D (am_nw S k n) (H.push (arrV (D.1 k) n (fun _ => .null))) := by
    refine hR.new (by rw [arrV_size]) hc1 hc2 rfl ?_
    unfold am_at
    rw [hkd]
    show (H.push _)[b + S.1.1]? = _
    rw [← hz, Array.getElem?_push_size]
    congr 2
    funext i
    rw [am_cv_nw' _ _ _ _ _ _ hk100, ht]
    rfl
  have g := h (H.push (arrV (D.1 k) n (fun _ => .null))) locs A (S.1.1 - S0.1.1 + 1) (S.1.2.1 - S0.1.2.1 + n) hR' hA hlo (fun q hq => by rw [Array.getElem?_push, if_neg (by omega)]; exact hfr q hq) (hs.nw _ _)
  rw [hz]
  exact g
theorem sn_oinit {j pc nx idx : Nat} (hd : decode (am_cc j) pc = .ok (.invokespecial idx, 3)) (hl1 : Cond.methodLink (am_own j) idx Lib.objectInit ∈ am_ws j) (hl2 : Cond.instanceMethod Lib.objectInit ∈ am_ws j) (hl3 : Cond.code Lib.objectInit ⟨#[0xb1]⟩ 1 none ∈ am_ws j) (hnx : pc + 3 = nx) : am_snd j pc (ai_oinit nx) := by
  intro l d b sc D S0 p e R s m args below meth c C Q Qw hcx hC ls st S h H locs A cells slots hR hA hlo hfr hs
  obtain ⟨hx, hb, hml, hown, hts, hnm, hK, hR0, ⟨hd1, hRf, hRl, hRc, hRs⟩, hX, hend⟩ := hcx
  subst hnx
  obtain ⟨n, r, rfl, hr8, h⟩ := h
  have hsum := am_cats (b := b) (sc := sc) r
  rcases n with _ | a
  · exact W.objInit hx hb hown (hts _ hl1) (hts _ hl2) (hts _ hl3) rfl (hA.1.trans hml.symm) rfl hd (by omega) (by show 2 * 0 + _ + 12 ≤ _; omega) (h H locs A cells slots hR hA hlo hfr hs)
  · exact W.objInit hx hb hown (hts _ hl1) (hts _ hl2) (hts _ hl3) rfl (hA.1.trans hml.symm) rfl hd (by omega) (by show 2 * 0 + _ + 12 ≤ _; omega) (h H locs A cells slots hR hA hlo hfr hs)
theorem sn_max {j pc nx idx : Nat} (hd : decode (am_cc j) pc = .ok (.invokestatic idx, 3)) (hl1 : Cond.methodLink (am_own j) idx Lib.Math.max.name ∈ am_ws j) (hl2 : Cond.static Lib.Math.max.name ∈ am_ws j) (hl3 : Cond.initialized "java/lang/Math" ∈ am_ws j) (hl4 : Cond.code Lib.Math.max.name Lib.Math.max.code 2 (some .int) ∈ am_ws j) (hnx : pc + 3 = nx) : am_snd j pc (ai_max nx) := by
  intro l d b sc D S0 p e R s m args below meth c C Q Qw hcx hC ls st S h H locs A cells slots hR hA hlo hfr hs
  obtain ⟨hx, hb, hml, hown, hts, hnm, hK, hR0, ⟨hd1, hRf, hRl, hRc, hRs⟩, hX, hend⟩ := hcx
  subst hnx
  obtain ⟨x, y, r, rfl, hr8, h⟩ := h
  have hsum := am_cats (b := b) (sc := sc) r
  refine am_tight hR0 hR ?_
  exact va_mmax hx hb (hml.trans hA.1.symm) hown (hts _ hl1) (hts _ hl2) (hts _ hl3) (hts _ hl4) (by omega) (by omega) (by have := hR.2.2.2.1; omega) (by have := hR.2.2.2.2; omega) hd (h H locs A _ _ hR hA hlo hfr hs)
theorem am_mul_R {T : State} {S : am_S} {k k2 : Nat} (hkd : am_kd k = some (.inr (.array .int, 5))) (hkd2 : am_kd k2 = some (.inr (.int, 5))) (hk : 100 * k < 5000 ↔ k < 50) (hk2 : 100 * k2 < 5000 ↔ k2 < 50) (hR : am_R b sc D S T.heap) (hc1 : S.1.1 + 6 ≤ am_limC) (hc2 : S.1.2.1 + 30 ≤ am_limS) :
    ∀ i, i ≤ 5 → am_R b sc D (am_mul S k k2 i) (Jvm.Free.Multi.fill T (D.1 k) (D.1 k2) 5 5 (.int 0) i).heap ∧ (am_mul S k k2 i).1.1 = S.1.1 + 1 + i ∧ (am_mul S k k2 i).1.2.1 = S.1.2.1 + 5 + 5 * i ∧ (am_mul S k k2 i).1.2.2 (S.1.1 + 1) = k := by
  have hz : T.heap.size = b + S.1.1 := hR.1
  intro i
  induction i with
  | zero =>
    intro _
    have e0 : Jvm.Free.Multi.outerC (D.1 k) 5 T.heap.size 0 = arrV (D.1 k) 5 (fun _ => .null) := arrV_new _ _ _
    refine ⟨hR.new (k := k) (n := 5) (cell := Jvm.Free.Multi.outerC (D.1 k) 5 T.heap.size 0) (by rw [e0, arrV_size]) (by omega) (by omega) rfl ?_, rfl, rfl, ?_⟩
    · unfold am_at
      rw [hkd]
      show (T.heap.push (Jvm.Free.Multi.outerC (D.1 k) 5 T.heap.size 0))[b + S.1.1]? = _
      rw [← hz, Array.getElem?_push_size, e0]
      congr 2
      funext i
      rw [am_cv_nw' _ _ _ _ _ _ hk]
      rfl
    · show (if S.1.1 + 1 = S.1.1 + 1 then k else _) = k
      rw [if_pos rfl]
  | succ i ih =>
    intro hi
    obtain ⟨h1, h2, h3, h4⟩ := ih (by omega)
    obtain ⟨g1, g2, -, -⟩ := Jvm.Free.Multi.fill_facts T (D.1 k) (D.1 k2) 5 5 (.int 0) i
    have hz1 : (Jvm.Free.Multi.fill T (D.1 k) (D.1 k2) 5 5 (.int 0) i).heap.size = b + (am_mul S k k2 i).1.1 := h1.1
    have ei : Jvm.Free.Multi.innerC (D.1 k2) 5 (.int 0) = arrV (D.1 k2) 5 (fun _ => .int 0) := arrV_new _ _ _
    have h5 : am_R b sc D (am_nw (am_mul S k k2 i) k2 5) ((Jvm.Free.Multi.fill T (D.1 k) (D.1 k2) 5 5 (.int 0) i).heap.push (Jvm.Free.Multi.innerC (D.1 k2) 5 (.int 0))) := by
      refine h1.new (by rw [ei, arrV_size]) (by omega) (by omega) rfl ?_
      unfold am_at
      rw [hkd2]
      show ((Jvm.Free.Multi.fill T (D.1 k) (D.1 k2) 5 5 (.int 0) i).heap.push _)[b + (am_mul S k k2 i).1.1]? = _
      rw [← hz1, Array.getElem?_push_size, ei]
      congr 2
      funext i
      rw [am_cv_nw' _ _ _ _ _ _ hk2]
      rfl
    have hN : (am_nw (am_mul S k k2 i) k2 5).1.1 = S.1.1 + 1 + i + 1 := by show (am_mul S k k2 i).1.1 + 1 = _; rw [h2]
    have hkk : (am_nw (am_mul S k k2 i) k2 5).1.2.2 (S.1.1 + 1) = k := by
      show (if S.1.1 + 1 = (am_mul S k k2 i).1.1 + 1 then k2 else (am_mul S k k2 i).1.2.2 (S.1.1 + 1)) = k
      rw [if_neg (by omega), h4]
    have hat := h5.2.2.1 S.1.1 (by omega)
    rw [hkk] at hat
    unfold am_at at hat
    rw [hkd] at hat
    have hat' : ((Jvm.Free.Multi.fill T (D.1 k) (D.1 k2) 5 5 (.int 0) i).heap.push (Jvm.Free.Multi.innerC (D.1 k2) 5 (.int 0)))[b + S.1.1]? = some (Jvm.Free.Multi.outerC (D.1 k) 5 T.heap.size i) := by
      rw [Array.getElem?_push, if_neg (by omega), ← hz]
      exact g2
    have eo := Option.some.inj (hat'.symm.trans hat)
    refine ⟨h5.arr (a := S.1.1) (k := k) (i := i) (r := (.array .int, 5)) (w := .ref (T.heap.size + 1 + i)) (am_sP_1 _ _ _ _ _) (by omega) hkk hkd ?_ ?_ (fun q hq => ?_) ?_ (fun f' t a' i' hne => am_cv_sP _ _ _ _ _ _ _ _ _ (fun x y => hne x y)), ?_, ?_, ?_⟩
    · rw [← eo, ← hz]
      exact (Jvm.Free.Multi.fill_facts T (D.1 k) (D.1 k2) 5 5 (.int 0) (i + 1)).2.1
    · rw [(Jvm.Free.Multi.fill_facts T (D.1 k) (D.1 k2) 5 5 (.int 0) (i + 1)).1, Array.size_push, g1]
      omega
    · exact State.heap_setCell_other (s := (Jvm.Free.Multi.fill T (D.1 k) (D.1 k2) 5 5 (.int 0) i).pushCell (Jvm.Free.Multi.innerC (D.1 k2) 5 (.int 0))) (fun z => hq (z.symm.trans hz))
    · show am_cv b sc (am_sP (am_nw (am_mul S k k2 i) k2 5) (100 * k) (S.1.1 + 1) i (some (S.1.1 + 2 + i))) (100 * k) (.array .int) (S.1.1 + 1) i = _
      rw [am_cv_sP' _ _ _ _ _ _ rfl, show S.1.1 + 2 + i = (S.1.1 + 1 + i) + 1 by omega]
      show Value.ref (b + (S.1.1 + 1 + i)) = .ref (T.heap.size + 1 + i)
      rw [hz]
      exact congrArg Value.ref (show (b + (S.1.1 + 1 + i) : Nat) = b + S.1.1 + 1 + i by omega)
    · show (am_sP _ _ _ _ _).1.1 = _
      rw [am_sP_1, hN]
      omega
    · show (am_sP _ _ _ _ _).1.2.1 = _
      rw [am_sP_1]
      show (am_mul S k k2 i).1.2.1 + 5 = _
      omega
    · show (am_sP _ _ _ _ _).1.2.2 _ = _
      rw [am_sP_1]
      exact hkk
theorem am_mul_le0 {S0 S : am_S} (h : am_le0 S0 S) (k k2 : Nat) : ∀ i, am_le0 S0 (am_mul S k k2 i)
  | 0 => h.nw _ _
  | i + 1 => ((am_mul_le0 h k k2 i).nw _ _).sP _ _ _ _
theorem sn_multi {j pc nx k k2 idx : Nat} (hd : decode (am_cc j) pc = .ok (.multianewarray idx 2, 4)) (hkd : am_kd k = some (.inr (.array .int, 5))) (hkd2 : am_kd k2 = some (.inr (.int, 5))) (hk : 100 * k < 5000 ↔ k < 50) (hk2 : 100 * k2 < 5000 ↔ k2 < 50) (hcl : Cond.classLink (am_own j) idx "[[I" ∈ am_ws j) (hac : Cond.arrayClass .int ∈ am_ws j) (hnx : pc + 4 = nx) : am_snd j pc (ai_multi k k2 nx) := by
  intro l d b sc D S0 p e R s m args below meth c C Q Qw hcx hC ls st S h H locs A cells slots hR hA hlo hfr hs
  obtain ⟨hx, hb, hml, hown, hts, hnm, hK, hR0, ⟨hd1, hRf, hRl, hRc, hRs⟩, hX, hend⟩ := hcx
  subst hnx
  obtain ⟨r, rfl, hc1, hc2, h⟩ := h
  refine am_tight hR0 hR ?_
  intro T hT X
  subst hT
  have hcn : (nI 5).toNatClampNeg = 5 := nI_clamp (by omega)
  have hcl' := hts _ hcl
  rw [show "[[I" = "[" ++ (FieldType.array .int).toString from by decide +kernel] at hcl'
  obtain ⟨vm₁, cA, comp, hW, hfA, hfC, -, -, X1, stp⟩ := X.multianewarray2F hx (own := am_own j) (index := idx) (ty := .int) hown hcl' (am_AOI.use hK.2.2) (hts _ hac) (g := F0 m pc A ((.inl (nI 5) :: .inl (nI 5) :: r).map (am_v b sc))) rfl (by rw [hb]; exact hd) (n := nI 5) (k := nI 5) (rest := r.map (am_v b sc)) rfl (nI_pos (by omega)) (nI_pos (by omega)) (by rw [hcn]; omega) (by rw [hcn]; decide) (by rw [hcn]; omega) rfl rfl (by rw [hcn]; have := hs.2.1; omega) (by rw [hcn]; have := hs.2.2; omega)
  rw [hcn] at X1 stp
  have hz : T.heap.size = b + S.1.1 := hR.1
  have eA : cA = D.1 k := Option.some.inj (hfA.symm.trans (hK.arr hkd).2)
  have eC : comp = D.1 k2 := Option.some.inj (hfC.symm.trans (hK.arr hkd2).2)
  subst eA
  subst eC
  have hR' := (am_mul_R (T := T.setVm vm₁) hkd hkd2 hk hk2 hR hc1 hc2 5 (Nat.le_refl 5)).1
  obtain ⟨t, a1, b1⟩ := h _ locs A _ _ hR' hA hlo (fun q hq => by rw [Jvm.Free.Multi.fill_old (T.setVm vm₁) (D.1 k) (D.1 k2) 5 5 (.int 0) (a := q) (by show q < T.heap.size; omega) 5]; exact hfr q hq) (am_mul_le0 hs k k2 5) _ rfl X1
  refine ⟨t, stp t ?_, b1⟩
  rw [hz]
  exact a1
theorem am_after {H : Heap} {locs : List Loc} {A : Array Slot} {cells slots mc ms pc : Nat} {ls : am_L} {st0 : List Value} {r : List am_V} {S : am_S} {Q' : am_Q} {arr : Array Value} (hr : va_Run p l e R s m args below meth c H locs cells slots mc ms (F0 m pc A st0) (r.map (am_v b sc)) (am_Qc b sc D S Q' arr) (fun q => b ≤ q))
    (hQ : ∀ S' v, Q' S' v → am_go l j b sc D S0 p e R s m args below meth c Qw (pc + 3) ls (v.toList ++ r) S') (hA : am_ls b sc (am_nL j) ls A) (hlo : ∀ q ∈ locs, b ≤ q.base) (hfr : ∀ q : Nat, q < b → H[q]? = s.heap[q]?) (hs : am_le0 S0 S) :
    W p l e R s m args below meth c H locs cells slots Qw (F0 m pc A st0) := by
  intro T hT X
  obtain ⟨v, st₀, t, T', L, h0, X', hL, e1, e2, ⟨S', v', hv, hq, hR', hs', hf'⟩, st⟩ := hr T hT X
  cases hv
  obtain ⟨t2, a1, b1⟩ := hQ S' v' hq T'.heap (locs ++ L) A _ _ (by rw [e1]; exact hR') hA (fun q hq => by
    rcases List.mem_append.mp hq with h | h
    · exact hlo q h
    · exact hL q h) (fun q hq => by rw [e1, hf' q hq, h0]; exact hfr q hq) (hs.trans hs') T' rfl X'
  refine ⟨t2, st t2 ?_, b1⟩
  have ev : (v'.map (am_v b sc)).toList ++ r.map (am_v b sc) = (v'.toList ++ r).map (am_v b sc) := by cases v' <;> simp
  rw [ev]
  exact a1
theorem am_blind {as : List am_V} {S : am_S} : FrameBlind (am_Pc b sc D as S) := fun a U g mk h => ⟨h.1, h.2.1, am_Kn.moved (u := U) (U := U.calling g mk a) (Vm.Alike.refl U.vm) h.2.2⟩
theorem sn_callV {j pc nx k n idx j2 : Nat} {wt : List Cond} {ob : String × u_T × Nat × (Nat → FieldType)} (hd : decode (am_cc j) pc = .ok (.invokevirtual idx, 3)) (hj2 : am_ws j2 = Cond.code (am_y j2) (am_cc j2) (am_nL j2) (am_ret j2) :: wt) (hG : GoodIn (am_ws j) (am_ws j2)) (hml2 : am_nL j2 ≤ 21) (hini : Cond.initialized (am_y j2).cls ∈ am_ws j) (hlink : Cond.methodLink (am_own j) idx (am_y j2) ∈ am_ws j) (hdsc : (am_y j2).cls ≠ "java/lang/invoke/MethodHandle" ∧ (am_y j2).cls ≠ "java/lang/invoke/VarHandle" ∧ (parseMethodDescriptor (am_y j2).desc).map (fun d => d.parameters.length) = some n) (hkd : am_kd k = some (.inl ob)) (hcls : (am_y j2).cls = ob.1) (hinst : Cond.instanceMethod (am_y j2) ∈ am_ws j) (hsel : Cond.selects ob.1 (am_y j2) (am_y j2) ∈ am_ws j) (hnx : pc + 3 = nx) : am_snd j pc (ai_callV j2 k n nx) := by
  intro l d b sc D S0 p e R s m args below meth c C Q Qw hcx hC ls st S h H locs A cells slots hR hA hlo hfr hs
  obtain ⟨hx, hb, hml, hown, hts, hnm, hK, hR0, ⟨hd1, hRf, hRl, hRc, hRs⟩, hX, hend⟩ := hcx
  subst hnx
  obtain ⟨q, as, r, rfl, hn, hr8, hl, hcall⟩ := h
  obtain ⟨d', rfl, hmet⟩ := hC _ _ _ _ hcall
  have hM := hmet b sc D
  refine am_tight hR0 hR ?_
  have hcb : CallB R s args (am_own j) idx (am_y j2) (am_cc j2) (am_nL j2) (am_ret j2) (am_ws j2) (am_rm d' S) (am_limC - S.1.1) (am_limS - S.1.2.1) n := callB_of n hts hG hj2 rfl rfl (hts _ hini) (hts _ hlink) hdsc ⟨by show d' + 1 ≤ _; omega, by show 8 + (am_nL j2 + 11) + 40 * d' ≤ _; omega⟩
  have hsum := am_cats (b := b) (sc := sc) r
  obtain ⟨a, rfl, ha, hat⟩ := hR.cellN hl
  unfold am_at at hat
  rw [hkd] at hat
  obtain ⟨cell, q1, q2, q3, -⟩ := hat
  refine am_after (S := S) (va_runV (As := as.map (am_v b sc)) (b := b + a) (C := ob.1) ⟨hx, hb, hml, hown, hts⟩ hM ⟨hcb, hts _ hinst, hts _ hsel⟩ ⟨am_blind, ⟨cell, q1, by rw [q3]; rfl, by rw [q2]; exact (hK.obj hkd).2.1⟩, fun U hU hW => ⟨rfl, by rw [hU]; exact hR, hK.moved hW.alike⟩⟩ rfl (by rw [List.length_map]; exact hn) hA.1 (by simp [List.map_reverse, am_v]) (by show 2 * 0 + _ ≤ 8; omega) hd ⟨by have := hs.2.1; have := hR.2.2.2.1; omega, by have := hs.2.2; have := hR.2.2.2.2; omega⟩) (fun S' v hq => hq) hA hlo hfr hs
theorem sn_callI {j pc nx k n idx j2 : Nat} {wt : List Cond} (hd : decode (am_cc j) pc = .ok (.invokespecial idx, 3)) (hj2 : am_ws j2 = Cond.code (am_y j2) (am_cc j2) (am_nL j2) (am_ret j2) :: wt) (hG : GoodIn (am_ws j) (am_ws j2)) (hml2 : am_nL j2 ≤ 21) (hini : Cond.initialized (am_y j2).cls ∈ am_ws j) (hlink : Cond.methodLink (am_own j) idx (am_y j2) ∈ am_ws j) (hdsc : (am_y j2).cls ≠ "java/lang/invoke/MethodHandle" ∧ (am_y j2).cls ≠ "java/lang/invoke/VarHandle" ∧ (parseMethodDescriptor (am_y j2).desc).map (fun d => d.parameters.length) = some n) (hname : (am_y j2).name = "<init>") (hret2 : am_ret j2 = none) (hinst : Cond.instanceMethod (am_y j2) ∈ am_ws j) (hnx : pc + 3 = nx) : am_snd j pc (ai_callV j2 k n nx) := by
  intro l d b sc D S0 p e R s m args below meth c C Q Qw hcx hC ls st S h H locs A cells slots hR hA hlo hfr hs
  obtain ⟨hx, hb, hml, hown, hts, hnm, hK, hR0, ⟨hd1, hRf, hRl, hRc, hRs⟩, hX, hend⟩ := hcx
  subst hnx
  obtain ⟨q, as, r, rfl, hn, hr8, hl, hcall⟩ := h
  obtain ⟨d', rfl, hmet⟩ := hC _ _ _ _ hcall
  have hM := hmet b sc D
  refine am_tight hR0 hR ?_
  have hcb : CallB R s args (am_own j) idx (am_y j2) (am_cc j2) (am_nL j2) (am_ret j2) (am_ws j2) (am_rm d' S) (am_limC - S.1.1) (am_limS - S.1.2.1) n := callB_of n hts hG hj2 rfl rfl (hts _ hini) (hts _ hlink) hdsc ⟨by show d' + 1 ≤ _; omega, by show 8 + (am_nL j2 + 11) + 40 * d' ≤ _; omega⟩
  have hsum := am_cats (b := b) (sc := sc) r
  rw [hret2] at hcb
  obtain ⟨a, rfl, ha, hat⟩ := hR.cellN hl
  refine am_after (S := S) (va_runI (As := as.map (am_v b sc)) (b := b + a) ⟨hx, hb, hml, hown, hts⟩ hM ⟨hcb, hname, hts _ hinst⟩ ⟨am_blind, fun U hU hW => ⟨rfl, by rw [hU]; exact hR, hK.moved hW.alike⟩⟩ rfl (by rw [List.length_map]; exact hn) hA.1 (by simp [List.map_reverse, am_v]) (by show 2 * 0 + _ ≤ 8; omega) hd ⟨by have := hs.2.1; have := hR.2.2.2.1; omega, by have := hs.2.2; have := hR.2.2.2.2; omega⟩) (fun S' v hq => hq) hA hlo hfr hs
theorem sn_callS {j pc nx n idx j2 : Nat} {wt : List Cond} (hd : decode (am_cc j) pc = .ok (.invokestatic idx, 3)) (hj2 : am_ws j2 = Cond.code (am_y j2) (am_cc j2) (am_nL j2) (am_ret j2) :: wt) (hG : GoodIn (am_ws j) (am_ws j2)) (hml2 : am_nL j2 ≤ 21) (hini : Cond.initialized (am_y j2).cls ∈ am_ws j) (hlink : Cond.methodLink (am_own j) idx (am_y j2) ∈ am_ws j) (hdsc : (am_y j2).cls ≠ "java/lang/invoke/MethodHandle" ∧ (am_y j2).cls ≠ "java/lang/invoke/VarHandle" ∧ (parseMethodDescriptor (am_y j2).desc).map (fun d => d.parameters.length) = some n) (hstat : Cond.static (am_y j2) ∈ am_ws j) (hnx : pc + 3 = nx) : am_snd j pc (ai_callS j2 n nx) := by
  intro l d b sc D S0 p e R s m args below meth c C Q Qw hcx hC ls st S h H locs A cells slots hR hA hlo hfr hs
  obtain ⟨hx, hb, hml, hown, hts, hnm, hK, hR0, ⟨hd1, hRf, hRl, hRc, hRs⟩, hX, hend⟩ := hcx
  subst hnx
  obtain ⟨as, r, rfl, hn, hr8, hcall⟩ := h
  obtain ⟨d', rfl, hmet⟩ := hC _ _ _ _ hcall
  have hM := hmet b sc D
  refine am_tight hR0 hR ?_
  have hcb : CallB R s args (am_own j) idx (am_y j2) (am_cc j2) (am_nL j2) (am_ret j2) (am_ws j2) (am_rm d' S) (am_limC - S.1.1) (am_limS - S.1.2.1) n := callB_of n hts hG hj2 rfl rfl (hts _ hini) (hts _ hlink) hdsc ⟨by show d' + 1 ≤ _; omega, by show 8 + (am_nL j2 + 11) + 40 * d' ≤ _; omega⟩
  have hsum := am_cats (b := b) (sc := sc) r
  refine am_after (S := S) (va_runS (As := as.map (am_v b sc)) ⟨hx, hb, hml, hown, hts⟩ hM ⟨hcb, hts _ hstat⟩ ⟨am_blind, fun U hU hW => ⟨rfl, by rw [hU]; exact hR, hK.moved hW.alike⟩⟩ rfl (by rw [List.length_map]; exact hn) hA.1 (by simp [List.map_reverse]) (by show 2 * 0 + _ ≤ 8; omega) hd ⟨by have := hs.2.1; have := hR.2.2.2.1; omega, by have := hs.2.2; have := hR.2.2.2.2; omega⟩) (fun S' v hq => hq) hA hlo hfr hs
theorem sn_iret {j pc : Nat} (hd : decode (am_cc j) pc = .ok (.ireturn, 1)) (hr : am_ret j = some .int) : am_snd j pc (ai_iret) := by
  intro l d b sc D S0 p e R s m args below meth c C Q Qw hcx hC ls st S h H locs A cells slots hR hA hlo hfr hs
  obtain ⟨hx, hb, hml, hown, hts, hnm, hK, hR0, ⟨hd1, hRf, hRl, hRc, hRs⟩, hX, hend⟩ := hcx
  obtain ⟨v, rfl, hq⟩ := h
  exact hend pc (some (.inl v)) S H locs A cells slots ⟨hd, Or.inl hr⟩ hq hR hlo hfr hs
theorem sn_zret {j pc : Nat} (hd : decode (am_cc j) pc = .ok (.ireturn, 1)) (hr : am_ret j = some .boolean) : am_snd j pc (ai_zret) := by
  intro l d b sc D S0 p e R s m args below meth c C Q Qw hcx hC ls st S h H locs A cells slots hR hA hlo hfr hs
  obtain ⟨hx, hb, hml, hown, hts, hnm, hK, hR0, ⟨hd1, hRf, hRl, hRc, hRs⟩, hX, hend⟩ := hcx
  obtain ⟨v, rfl, hv01, hq⟩ := h
  exact hend pc (some (.inl v)) S H locs A cells slots ⟨hd, Or.inr ⟨hr, hv01⟩⟩ hq hR hlo hfr hs
theorem sn_ret {j pc : Nat} (hd : decode (am_cc j) pc = .ok (.return_, 1)) (hr : am_ret j = none) : am_snd j pc (ai_ret) := by
  intro l d b sc D S0 p e R s m args below meth c C Q Qw hcx hC ls st S h H locs A cells slots hR hA hlo hfr hs
  obtain ⟨hx, hb, hml, hown, hts, hnm, hK, hR0, ⟨hd1, hRf, hRl, hRc, hRs⟩, hX, hend⟩ := hcx
  obtain ⟨rfl, hq⟩ := h
  exact hend pc none S H locs A cells slots ⟨hd, hr⟩ hq hR hlo hfr hs
theorem sn_switch {j pc dt len : Nat} {df lo hi : Int} {offs : Array Int} {tg : List Nat} (hd : decode (am_cc j) pc = .ok (.tableswitch df lo hi offs, len)) (hdf : (pc : Int) + df = (dt : Int)) (hmap : offs.toList.map (fun o => (pc : Int) + o) = tg.map (fun t : Nat => (t : Int))) (hlen : hi - lo < tg.length) : am_snd j pc (ai_switch lo hi tg dt) := by
  intro l d b sc D S0 p e R s m args below meth c C Q Qw hcx hC ls st S h H locs A cells slots hR hA hlo hfr hs
  obtain ⟨hx, hb, hml, hown, hts, hnm, hK, hR0, ⟨hd1, hRf, hRl, hRc, hRs⟩, hX, hend⟩ := hcx
  obtain ⟨x, r, rfl, h1, h2⟩ := h
  by_cases hlow : x.toInt < lo
  · exact lv_tableOut hx hb hd (Or.inl hlow) hdf (h1 (Or.inl hlow) H locs A cells slots hR hA hlo hfr hs)
  by_cases hhi : hi < x.toInt
  · exact lv_tableOut hx hb hd (Or.inr hhi) hdf (h1 (Or.inr hhi) H locs A cells slots hR hA hlo hfr hs)
  have e0 : x.toInt = lo + ((x.toInt - lo).toNat : Int) := by omega
  generalize hi0 : (x.toInt - lo).toNat = i0 at e0
  have hi1 : i0 < tg.length := by omega
  have g2 : tg[i0]? = some tg[i0] := List.getElem?_eq_getElem hi1
  have gm : (offs.toList.map (fun o => (pc : Int) + o))[i0]? = (tg.map (fun t : Nat => (t : Int)))[i0]? := by rw [hmap]
  rw [List.getElem?_map, List.getElem?_map, g2] at gm
  simp only [Option.map_some, Option.map_eq_some_iff] at gm
  obtain ⟨off, g1, g3⟩ := gm
  have g1' : offs[i0]? = some off := by rw [← Array.getElem?_toList]; exact g1
  subst hi0
  exact lv_tableIn hx hb hd hlow hhi g1' g3 (h2 _ e0 (by omega) _ g2 H locs A cells slots hR hA hlo hfr hs)
end AM
theorem am_ls_entry {b sc j : Nat} {as : List am_V} (h : as.length ≤ am_nL j) : am_ls b sc (am_nL j) (am_entry j as) (((as.map (am_v b sc)).map Slot.val ++ List.replicate (am_nL j - (as.map (am_v b sc)).length) Slot.unset).toArray) := by
  unfold am_entry
  refine ⟨by simp; omega, ?_, by simp; omega, fun i v hv => ?_⟩
  · refine ⟨fun i v hv hc => ?_, fun i hi => ?_⟩
    · exfalso
      have : v.category = 1 := by
        simp only [List.getElem?_toArray] at hv
        rcases List.mem_append.mp (List.mem_of_getElem? hv) with h1 | h1
        · obtain ⟨w, hw, he⟩ := List.mem_map.mp h1
          obtain ⟨z, -, rfl⟩ := List.mem_map.mp hw
          cases he
          exact am_v_cat b sc z
        · cases (List.mem_replicate.mp h1).2
      omega
    · exfalso
      simp only [List.getElem?_toArray] at hi
      rcases List.mem_append.mp (List.mem_of_getElem? hi) with h1 | h1
      · obtain ⟨w, hw, he⟩ := List.mem_map.mp h1
        cases he
      · cases (List.mem_replicate.mp h1).2
  · simp only [List.getElem?_toArray]
    by_cases hi : i < as.length
    · rw [List.getElem?_append_left (by simpa using hi)] at hv ⊢
      simp only [List.getElem?_map, Option.map_eq_some_iff] at hv ⊢
      obtain ⟨w, h1, h2⟩ := hv
      cases h2
      exact ⟨_, ⟨_, h1, rfl⟩, rfl⟩
    · rw [List.getElem?_append_right (by simp; omega)] at hv
      exact absurd (List.mem_of_getElem? hv) (fun q => by cases (List.mem_replicate.mp q).2)
theorem am_sound (hcert : ∀ j pc t, am_code j pc = some t → am_snd j pc t) (hpl : ∀ j, j < am_jL → 0 < j → Jvm.plainName (am_y j).cls = true) (hhd : ∀ j, j < am_jL → am_ws j = Cond.code (am_y j) (am_cc j) (am_nL j) (am_ret j) :: (am_ws j).tail) (hown : ∀ j, j < am_jL → (am_y j).cls = am_own j) (l : Launch) :
    ∀ (d j : Nat) (as : List am_V) (S : am_S) (Q : am_Q), am_call d j as S Q → am_met l d j as S Q := by
  intro d
  induction d with
  | zero => exact fun _ _ _ _ h => h.elim
  | succ d ih =>
    intro j as S Q hcall b sc D
    have hj := hcall.1.1.2
    refine Met.ofW (cc := am_cc j) (maxL := am_nL j) (ret := am_ret j) (hpl j hj hcall.1.1.1) (hhd j hj) ?_
    intro p e s m args below meth c s₁ B hml hv
    obtain ⟨rfl, hR, hK⟩ := hv
    have hts := atoms_spec (ws := am_ws j) B.pre
    rw [entry_eq m (as.map (am_v b sc)) (fun v hv => by obtain ⟨w, -, rfl⟩ := List.mem_map.mp hv; exact am_v_cat b sc w) (am_nL j)]
    have hr := B.returns
    have hlk := B.notSynchronized
    have hx := B.exec
    have hb := B.bytes
    refine hcall.2 (am_go l j b sc D S p e _ s m _ below meth c _) (fun pc ls st S' t ht hstep => hcert j pc t ht l (d + 1) b sc D S p e _ s m _ below meth c (am_call d) Q _ ⟨hx, hb, hml, (hown j hj) ▸ findClass_of_methodNamed B.named, hts, (name_of_methodNamed B.named B.method).1, hK, hR, ⟨Nat.succ_le_succ (Nat.zero_le _), Nat.le_refl _, Nat.le_refl _, Nat.le_refl _, Nat.le_refl _⟩, fun h => absurd h (Nat.ne_of_lt hj), ?_⟩ (fun j' as' S2 Q' h' => ?_) ls st S' hstep) s.heap [] _ 0 0 hR (am_ls_entry hcall.1.2) (fun q hq => by cases hq) (fun _ _ => rfl) ⟨rfl, Nat.le_refl _, Nat.le_refl _⟩
    · intro pc v S' H locs A cells slots hrt hq hR' hlo hfr hs
      refine am_tight hR hR' (W.widen (k := am_limC - S.1.1) (n := am_limS - S.1.2.1) (by have := hR'.2.2.2.1; omega) (by have := hR'.2.2.2.2; omega) ?_)
      rcases v with _ | (i | r)
      · exact W.vret hx hb (hr.trans hrt.2) (fun t ht hW => ⟨S', none, rfl, hq, by rw [ht]; exact hR', hs, fun q hq => by rw [ht]; exact hfr q hq⟩) hlo hrt.1
      · rcases hrt with ⟨h1, h2 | ⟨h2, h3⟩⟩
        · exact W.iret (v := i) hx hb (hr.trans h2) (fun t ht hW => ⟨S', some (.inl i), rfl, hq, by rw [ht]; exact hR', hs, fun q hq => by rw [ht]; exact hfr q hq⟩) hlo h1
        · exact W.zret (v := i) hx hb (hr.trans h2) (by rcases h3 with rfl | rfl <;> rfl) (fun t ht hW => ⟨S', some (.inl i), rfl, hq, by rw [ht]; exact hR', hs, fun q hq => by rw [ht]; exact hfr q hq⟩) hlo h1
      · exact hrt.elim
    · exact ⟨d, rfl, ih j' as' S2 Q' h'⟩
end

abbrev am_w (d j : Nat) (Q : am_Q) : am_G := am_W (am_call d) j Q
theorem nI_mul (a b : Nat) : nI a * nI b = nI (a * b) := (Int32.ofNat_mul a b).symm
theorem nI_sub {a b : Nat} (h : b ≤ a) : nI a - nI b = nI (a - b) := by
  have e : nI a = nI (a - b) + nI b := by rw [nI_add, Nat.sub_add_cancel h]
  rw [e, Int32.add_sub_cancel]
theorem nI_div {a b : Nat} (ha : a < 2 ^ 31) (hb : b < 2 ^ 31) : nI a / nI b = nI (a / b) := by
  have hq : a / b ≤ a := Nat.div_le_self a b
  apply Int32.toInt_inj.mp
  rw [Int32.toInt_div, nI_toInt ha, nI_toInt hb, nI_toInt (by omega), ← Int.ofNat_tdiv]
  generalize a / b = q at hq ⊢
  exact Int.bmod_eq_of_le (by omega) (by omega)
theorem nI_rem {a b : Nat} (ha : a < 2 ^ 31) (hb : b < 2 ^ 31) : nI a - nI a / nI b * nI b = nI (a % b) := by
  rw [nI_div ha hb, nI_mul, nI_sub (Nat.div_mul_le_self a b)]
  congr 1
  have := Nat.div_add_mod a b
  have e : a / b * b = b * (a / b) := Nat.mul_comm _ _
  omega
def am_it {α : Type} (f : Nat → α → α) : Nat → α → α
  | 0, s => s
  | n + 1, s => f n (am_it f n s)
theorem am_for {α : Type} (n : Nat) (P : Nat → α → Prop) (f : Nat → α → α) (body : ∀ i, i < n → ∀ s, P (i + 1) (f i s) → P i s) (s : α) (h : P n (am_it f n s)) : P 0 s := by
  have g : ∀ i, i ≤ n → P i (am_it f i s) → P 0 s := by
    intro i
    induction i with
    | zero => exact fun _ h => h
    | succ i ih => exact fun hi h => ih (Nat.le_of_succ_le hi) (body i hi _ h)
  exact g n (Nat.le_refl n) h
theorem am_forI {α : Type} (n : Nat) (P : Nat → α → Prop) (f : Nat → α → α) (I : Nat → α → Prop) (keep : ∀ i, i < n → ∀ s, I i s → I (i + 1) (f i s)) (body : ∀ i, i < n → ∀ s, I i s → P (i + 1) (f i s) → P i s) (s : α) (h0 : I 0 s) (h : P n (am_it f n s)) : P 0 s := by
  have hI : ∀ i, i ≤ n → I i (am_it f i s) := by
    intro i
    induction i with
    | zero => exact fun _ => h0
    | succ i ih => exact fun hi => keep i hi _ (ih (Nat.le_of_succ_le hi))
  have g : ∀ i, i ≤ n → P i (am_it f i s) → P 0 s := by
    intro i
    induction i with
    | zero => exact fun _ h => h
    | succ i ih => exact fun hi h => ih (Nat.le_of_succ_le hi) (body i hi _ (hI i (Nat.le_of_succ_le hi)) h)
  exact g n (Nat.le_refl n) h
theorem am_forE {α : Type} (n : Nat) (P : Nat → α → Prop) (I : Nat → α → Prop) (body : ∀ i, i < n → ∀ s, I i s → (∀ s', I (i + 1) s' → P (i + 1) s') → P i s) (s : α) (h0 : I 0 s) (h : ∀ s', I n s' → P n s') : P 0 s := by
  have g : ∀ k i, i + k = n → ∀ s, I i s → P i s := by
    intro k
    induction k with
    | zero => intro i hi s hs; have : i = n := by omega
              subst this; exact h s hs
    | succ k ih => intro i hi s hs; exact body i (by omega) s hs (fun s' hs' => ih (i + 1) (by omega) s' hs')
  exact g n 0 (by omega) s h0
theorem am_lec (d : Nat) : am_le (am_call d) (am_call d) := (am_call_le am_monos d).1
theorem r_step {d j pc : Nat} {Q : am_Q} {ls : am_L} {st : List am_V} {S : am_S} {t : am_T} (h : am_code j pc = some t) (g : t (am_call d) (am_w d j Q) Q ls st S) : am_w d j Q pc ls st S := am_W.step h (am_monos j pc t h) (am_lec d) g
theorem r_enter {d j : Nat} {as : List am_V} {S : am_S} {Q : am_Q} {ls : am_L} (hj : 0 < j ∧ j < am_jL) (hn : as.length ≤ am_nL j) (hl : am_entry j as = ls) (k : am_w d j Q 0 ls [] S) : am_call (d + 1) j as S Q := ⟨⟨hj, hn⟩, by rw [hl]; exact k⟩
section RU
variable {d j pc nx tg : Nat} {Q : am_Q} {ls : am_L} {st : List am_V} {S : am_S}
theorem r_push {z : Int32} (h : am_code j pc = some (ai_push z nx)) (k : am_w d j Q nx ls (.inl z :: st) S) : am_w d j Q pc ls st S := r_step h k
theorem r_null (h : am_code j pc = some (ai_null nx)) (k : am_w d j Q nx ls (.inr none :: st) S) : am_w d j Q pc ls st S := r_step h k
theorem r_iload {n : Nat} {v : Int32} (h : am_code j pc = some (ai_iload n nx)) (hv : ls[n]? = some (some (.inl v))) (k : am_w d j Q nx ls (.inl v :: st) S) : am_w d j Q pc ls st S := r_step h ⟨v, hv, k⟩
theorem r_aload {n : Nat} {v : Option Nat} (h : am_code j pc = some (ai_aload n nx)) (hv : ls[n]? = some (some (.inr v))) (k : am_w d j Q nx ls (.inr v :: st) S) : am_w d j Q pc ls st S := r_step h ⟨v, hv, k⟩
theorem r_istore {n : Nat} {v : Int32} (h : am_code j pc = some (ai_istore n nx)) (k : am_w d j Q nx (ls.set n (some (.inl v))) st S) : am_w d j Q pc ls (.inl v :: st) S := r_step h ⟨v, st, rfl, k⟩
theorem r_astore {n : Nat} {v : Option Nat} (h : am_code j pc = some (ai_astore n nx)) (k : am_w d j Q nx (ls.set n (some (.inr v))) st S) : am_w d j Q pc ls (.inr v :: st) S := r_step h ⟨v, st, rfl, k⟩
theorem r_iinc {n : Nat} {v z : Int32} (h : am_code j pc = some (ai_iinc n z nx)) (hv : ls[n]? = some (some (.inl v))) (k : am_w d j Q nx (ls.set n (some (.inl (v + z)))) st S) : am_w d j Q pc ls st S := r_step h ⟨v, hv, k⟩
theorem r_iincN {n : Nat} (a : Nat) (h : am_code j pc = some (ai_iinc n 1 nx)) (hv : ls[n]? = some (some (.inl (nI a)))) (k : am_w d j Q nx (ls.set n (some (.inl (nI (a + 1))))) st S) : am_w d j Q pc ls st S := r_step h ⟨nI a, hv, by rw [nI_1]; exact k⟩
theorem r_bin {f : Int32 → Int32 → Int32} {x y : Int32} (h : am_code j pc = some (ai_bin f nx)) (k : am_w d j Q nx ls (.inl (f x y) :: st) S) : am_w d j Q pc ls (.inl y :: .inl x :: st) S := r_step h ⟨x, y, st, rfl, k⟩
theorem r_div {f : Int32 → Int32 → Int32} {x y : Int32} (h : am_code j pc = some (ai_div f nx)) (hy : ¬ y = 0) (k : am_w d j Q nx ls (.inl (f x y) :: st) S) : am_w d j Q pc ls (.inl y :: .inl x :: st) S := r_step h ⟨x, y, st, rfl, hy, k⟩
theorem r_addN {x y : Int32} (a b : Nat) (h : am_code j pc = some (ai_bin (fun x y => x + y) nx)) (hx : x = nI a) (hy : y = nI b) (k : am_w d j Q nx ls (.inl (nI (a + b)) :: st) S) : am_w d j Q pc ls (.inl y :: .inl x :: st) S := r_step h ⟨x, y, st, rfl, by subst hx; subst hy; show am_w d j Q nx ls (.inl (nI a + nI b) :: st) S; rw [nI_add]; exact k⟩
theorem r_mulN {x y : Int32} (a b : Nat) (h : am_code j pc = some (ai_bin (fun x y => x * y) nx)) (hx : x = nI a) (hy : y = nI b) (k : am_w d j Q nx ls (.inl (nI (a * b)) :: st) S) : am_w d j Q pc ls (.inl y :: .inl x :: st) S := r_step h ⟨x, y, st, rfl, by subst hx; subst hy; show am_w d j Q nx ls (.inl (nI a * nI b) :: st) S; rw [nI_mul]; exact k⟩
theorem r_subN {x y : Int32} (a b : Nat) (h : am_code j pc = some (ai_bin (fun x y => x - y) nx)) (hx : x = nI a) (hy : y = nI b) (hb : b ≤ a) (k : am_w d j Q nx ls (.inl (nI (a - b)) :: st) S) : am_w d j Q pc ls (.inl y :: .inl x :: st) S := r_step h ⟨x, y, st, rfl, by subst hx; subst hy; show am_w d j Q nx ls (.inl (nI a - nI b) :: st) S; rw [nI_sub hb]; exact k⟩
theorem r_divN {x y : Int32} (a b : Nat) (h : am_code j pc = some (ai_div (fun x y => x / y) nx)) (hx : x = nI a) (hy : y = nI b) (ha : a < 2 ^ 31) (hb : b < 2 ^ 31) (h0 : 0 < b) (k : am_w d j Q nx ls (.inl (nI (a / b)) :: st) S) : am_w d j Q pc ls (.inl y :: .inl x :: st) S := r_step h ⟨x, y, st, rfl, by subst hy; exact nI_ne0 h0 hb, by subst hx; subst hy; show am_w d j Q nx ls (.inl (nI a / nI b) :: st) S; rw [nI_div ha hb]; exact k⟩
theorem r_remN {x y : Int32} (a b : Nat) (h : am_code j pc = some (ai_div (fun x y => x - x / y * y) nx)) (hx : x = nI a) (hy : y = nI b) (ha : a < 2 ^ 31) (hb : b < 2 ^ 31) (h0 : 0 < b) (k : am_w d j Q nx ls (.inl (nI (a % b)) :: st) S) : am_w d j Q pc ls (.inl y :: .inl x :: st) S := r_step h ⟨x, y, st, rfl, by subst hy; exact nI_ne0 h0 hb, by subst hx; subst hy; show am_w d j Q nx ls (.inl (nI a - nI a / nI b * nI b) :: st) S; rw [nI_rem ha hb]; exact k⟩
theorem r_ifeq {x : Int32} (h : am_code j pc = some (ai_if (fun x => x = 0) tg nx)) (hp : x = 0 → am_w d j Q tg ls st S) (hn : ¬ x = 0 → am_w d j Q nx ls st S) : am_w d j Q pc ls (.inl x :: st) S := r_step h ⟨x, st, rfl, fun q => hp q, fun q => hn q⟩
theorem r_ifeqT {x : Int32} (h : am_code j pc = some (ai_if (fun x => x = 0) tg nx)) (hc : x = 0) (k : am_w d j Q tg ls st S) : am_w d j Q pc ls (.inl x :: st) S := r_ifeq h (fun _ => k) (fun q => absurd hc q)
theorem r_ifeqF {x : Int32} (h : am_code j pc = some (ai_if (fun x => x = 0) tg nx)) (hc : ¬ x = 0) (k : am_w d j Q nx ls st S) : am_w d j Q pc ls (.inl x :: st) S := r_ifeq h (fun q => absurd q hc) (fun _ => k)
theorem r_ifne {x : Int32} (h : am_code j pc = some (ai_if (fun x => ¬ x = 0) tg nx)) (hp : x = 0 → am_w d j Q nx ls st S) (hn : ¬ x = 0 → am_w d j Q tg ls st S) : am_w d j Q pc ls (.inl x :: st) S := r_step h ⟨x, st, rfl, fun q => hn q, fun q => hp (Classical.not_not.mp q)⟩
theorem r_ifneT {x : Int32} (h : am_code j pc = some (ai_if (fun x => ¬ x = 0) tg nx)) (hc : x = 0) (k : am_w d j Q nx ls st S) : am_w d j Q pc ls (.inl x :: st) S := r_ifne h (fun _ => k) (fun q => absurd hc q)
theorem r_ifneF {x : Int32} (h : am_code j pc = some (ai_if (fun x => ¬ x = 0) tg nx)) (hc : ¬ x = 0) (k : am_w d j Q tg ls st S) : am_w d j Q pc ls (.inl x :: st) S := r_ifne h (fun q => absurd q hc) (fun _ => k)
theorem r_iflt {x : Int32} (h : am_code j pc = some (ai_if (fun x => x < 0) tg nx)) (hp : x < 0 → am_w d j Q tg ls st S) (hn : ¬ x < 0 → am_w d j Q nx ls st S) : am_w d j Q pc ls (.inl x :: st) S := r_step h ⟨x, st, rfl, fun q => hp q, fun q => hn q⟩
theorem r_ifltT {x : Int32} (h : am_code j pc = some (ai_if (fun x => x < 0) tg nx)) (hc : x < 0) (k : am_w d j Q tg ls st S) : am_w d j Q pc ls (.inl x :: st) S := r_iflt h (fun _ => k) (fun q => absurd hc q)
theorem r_ifltF {x : Int32} (h : am_code j pc = some (ai_if (fun x => x < 0) tg nx)) (hc : ¬ x < 0) (k : am_w d j Q nx ls st S) : am_w d j Q pc ls (.inl x :: st) S := r_iflt h (fun q => absurd q hc) (fun _ => k)
theorem r_ifge {x : Int32} (h : am_code j pc = some (ai_if (fun x => 0 ≤ x) tg nx)) (hp : x < 0 → am_w d j Q nx ls st S) (hn : ¬ x < 0 → am_w d j Q tg ls st S) : am_w d j Q pc ls (.inl x :: st) S := r_step h ⟨x, st, rfl, fun q => hn (Int32.not_lt.mpr q), fun q => hp (Int32.not_le.mp q)⟩
theorem r_ifgeT {x : Int32} (h : am_code j pc = some (ai_if (fun x => 0 ≤ x) tg nx)) (hc : x < 0) (k : am_w d j Q nx ls st S) : am_w d j Q pc ls (.inl x :: st) S := r_ifge h (fun _ => k) (fun q => absurd hc q)
theorem r_ifgeF {x : Int32} (h : am_code j pc = some (ai_if (fun x => 0 ≤ x) tg nx)) (hc : ¬ x < 0) (k : am_w d j Q tg ls st S) : am_w d j Q pc ls (.inl x :: st) S := r_ifge h (fun q => absurd q hc) (fun _ => k)
theorem r_ifgt {x : Int32} (h : am_code j pc = some (ai_if (fun x => 0 < x) tg nx)) (hp : 0 < x → am_w d j Q tg ls st S) (hn : ¬ 0 < x → am_w d j Q nx ls st S) : am_w d j Q pc ls (.inl x :: st) S := r_step h ⟨x, st, rfl, fun q => hp q, fun q => hn q⟩
theorem r_ifgtT {x : Int32} (h : am_code j pc = some (ai_if (fun x => 0 < x) tg nx)) (hc : 0 < x) (k : am_w d j Q tg ls st S) : am_w d j Q pc ls (.inl x :: st) S := r_ifgt h (fun _ => k) (fun q => absurd hc q)
theorem r_ifgtF {x : Int32} (h : am_code j pc = some (ai_if (fun x => 0 < x) tg nx)) (hc : ¬ 0 < x) (k : am_w d j Q nx ls st S) : am_w d j Q pc ls (.inl x :: st) S := r_ifgt h (fun q => absurd q hc) (fun _ => k)
theorem r_ifle {x : Int32} (h : am_code j pc = some (ai_if (fun x => x ≤ 0) tg nx)) (hp : 0 < x → am_w d j Q nx ls st S) (hn : ¬ 0 < x → am_w d j Q tg ls st S) : am_w d j Q pc ls (.inl x :: st) S := r_step h ⟨x, st, rfl, fun q => hn (Int32.not_lt.mpr q), fun q => hp (Int32.not_le.mp q)⟩
theorem r_ifleT {x : Int32} (h : am_code j pc = some (ai_if (fun x => x ≤ 0) tg nx)) (hc : 0 < x) (k : am_w d j Q nx ls st S) : am_w d j Q pc ls (.inl x :: st) S := r_ifle h (fun _ => k) (fun q => absurd hc q)
theorem r_ifleF {x : Int32} (h : am_code j pc = some (ai_if (fun x => x ≤ 0) tg nx)) (hc : ¬ 0 < x) (k : am_w d j Q tg ls st S) : am_w d j Q pc ls (.inl x :: st) S := r_ifle h (fun q => absurd q hc) (fun _ => k)
theorem r_cmeq {x y : Int32} (h : am_code j pc = some (ai_icmp (fun x y => x = y) tg nx)) (hp : x = y → am_w d j Q tg ls st S) (hn : ¬ x = y → am_w d j Q nx ls st S) : am_w d j Q pc ls (.inl y :: .inl x :: st) S := r_step h ⟨x, y, st, rfl, fun q => hp q, fun q => hn q⟩
theorem r_cmeqT {x y : Int32} (h : am_code j pc = some (ai_icmp (fun x y => x = y) tg nx)) (hc : x = y) (k : am_w d j Q tg ls st S) : am_w d j Q pc ls (.inl y :: .inl x :: st) S := r_cmeq h (fun _ => k) (fun q => absurd hc q)
theorem r_cmeqF {x y : Int32} (h : am_code j pc = some (ai_icmp (fun x y => x = y) tg nx)) (hc : ¬ x = y) (k : am_w d j Q nx ls st S) : am_w d j Q pc ls (.inl y :: .inl x :: st) S := r_cmeq h (fun q => absurd q hc) (fun _ => k)
theorem r_cmeqN {x y : Int32} (a b : Nat) (h : am_code j pc = some (ai_icmp (fun x y => x = y) tg nx)) (hx : x = nI a) (hy : y = nI b) (ha : a < 2 ^ 31) (hb : b < 2 ^ 31) (hp : a = b → am_w d j Q tg ls st S) (hn : ¬ a = b → am_w d j Q nx ls st S) : am_w d j Q pc ls (.inl y :: .inl x :: st) S := r_cmeq h (fun q => hp ((nI_eq ha hb).mp (by subst hx; subst hy; exact q))) (fun q => hn (fun z => q (by subst hx; subst hy; exact (nI_eq ha hb).mpr z)))
theorem r_cmeqNT {x y : Int32} (a b : Nat) (h : am_code j pc = some (ai_icmp (fun x y => x = y) tg nx)) (hx : x = nI a) (hy : y = nI b) (ha : a < 2 ^ 31) (hb : b < 2 ^ 31) (hc : a = b) (k : am_w d j Q tg ls st S) : am_w d j Q pc ls (.inl y :: .inl x :: st) S := r_cmeqN a b h hx hy ha hb (fun _ => k) (fun q => absurd hc q)
theorem r_cmeqNF {x y : Int32} (a b : Nat) (h : am_code j pc = some (ai_icmp (fun x y => x = y) tg nx)) (hx : x = nI a) (hy : y = nI b) (ha : a < 2 ^ 31) (hb : b < 2 ^ 31) (hc : ¬ a = b) (k : am_w d j Q nx ls st S) : am_w d j Q pc ls (.inl y :: .inl x :: st) S := r_cmeqN a b h hx hy ha hb (fun q => absurd q hc) (fun _ => k)
theorem r_cmne {x y : Int32} (h : am_code j pc = some (ai_icmp (fun x y => ¬ x = y) tg nx)) (hp : x = y → am_w d j Q nx ls st S) (hn : ¬ x = y → am_w d j Q tg ls st S) : am_w d j Q pc ls (.inl y :: .inl x :: st) S := r_step h ⟨x, y, st, rfl, fun q => hn q, fun q => hp (Classical.not_not.mp q)⟩
theorem r_cmneT {x y : Int32} (h : am_code j pc = some (ai_icmp (fun x y => ¬ x = y) tg nx)) (hc : x = y) (k : am_w d j Q nx ls st S) : am_w d j Q pc ls (.inl y :: .inl x :: st) S := r_cmne h (fun _ => k) (fun q => absurd hc q)
theorem r_cmneF {x y : Int32} (h : am_code j pc = some (ai_icmp (fun x y => ¬ x = y) tg nx)) (hc : ¬ x = y) (k : am_w d j Q tg ls st S) : am_w d j Q pc ls (.inl y :: .inl x :: st) S := r_cmne h (fun q => absurd q hc) (fun _ => k)
theorem r_cmneN {x y : Int32} (a b : Nat) (h : am_code j pc = some (ai_icmp (fun x y => ¬ x = y) tg nx)) (hx : x = nI a) (hy : y = nI b) (ha : a < 2 ^ 31) (hb : b < 2 ^ 31) (hp : a = b → am_w d j Q nx ls st S) (hn : ¬ a = b → am_w d j Q tg ls st S) : am_w d j Q pc ls (.inl y :: .inl x :: st) S := r_cmne h (fun q => hp ((nI_eq ha hb).mp (by subst hx; subst hy; exact q))) (fun q => hn (fun z => q (by subst hx; subst hy; exact (nI_eq ha hb).mpr z)))
theorem r_cmneNT {x y : Int32} (a b : Nat) (h : am_code j pc = some (ai_icmp (fun x y => ¬ x = y) tg nx)) (hx : x = nI a) (hy : y = nI b) (ha : a < 2 ^ 31) (hb : b < 2 ^ 31) (hc : a = b) (k : am_w d j Q nx ls st S) : am_w d j Q pc ls (.inl y :: .inl x :: st) S := r_cmneN a b h hx hy ha hb (fun _ => k) (fun q => absurd hc q)
theorem r_cmneNF {x y : Int32} (a b : Nat) (h : am_code j pc = some (ai_icmp (fun x y => ¬ x = y) tg nx)) (hx : x = nI a) (hy : y = nI b) (ha : a < 2 ^ 31) (hb : b < 2 ^ 31) (hc : ¬ a = b) (k : am_w d j Q tg ls st S) : am_w d j Q pc ls (.inl y :: .inl x :: st) S := r_cmneN a b h hx hy ha hb (fun q => absurd q hc) (fun _ => k)
theorem r_cmlt {x y : Int32} (h : am_code j pc = some (ai_icmp (fun x y => x < y) tg nx)) (hp : x < y → am_w d j Q tg ls st S) (hn : ¬ x < y → am_w d j Q nx ls st S) : am_w d j Q pc ls (.inl y :: .inl x :: st) S := r_step h ⟨x, y, st, rfl, fun q => hp q, fun q => hn q⟩
theorem r_cmltT {x y : Int32} (h : am_code j pc = some (ai_icmp (fun x y => x < y) tg nx)) (hc : x < y) (k : am_w d j Q tg ls st S) : am_w d j Q pc ls (.inl y :: .inl x :: st) S := r_cmlt h (fun _ => k) (fun q => absurd hc q)
theorem r_cmltF {x y : Int32} (h : am_code j pc = some (ai_icmp (fun x y => x < y) tg nx)) (hc : ¬ x < y) (k : am_w d j Q nx ls st S) : am_w d j Q pc ls (.inl y :: .inl x :: st) S := r_cmlt h (fun q => absurd q hc) (fun _ => k)
theorem r_cmltN {x y : Int32} (a b : Nat) (h : am_code j pc = some (ai_icmp (fun x y => x < y) tg nx)) (hx : x = nI a) (hy : y = nI b) (ha : a < 2 ^ 31) (hb : b < 2 ^ 31) (hp : a < b → am_w d j Q tg ls st S) (hn : ¬ a < b → am_w d j Q nx ls st S) : am_w d j Q pc ls (.inl y :: .inl x :: st) S := r_cmlt h (fun q => hp ((nI_ltI ha hb).mp (by subst hx; subst hy; exact q))) (fun q => hn (fun z => q (by subst hx; subst hy; exact (nI_ltI ha hb).mpr z)))
theorem r_cmltNT {x y : Int32} (a b : Nat) (h : am_code j pc = some (ai_icmp (fun x y => x < y) tg nx)) (hx : x = nI a) (hy : y = nI b) (ha : a < 2 ^ 31) (hb : b < 2 ^ 31) (hc : a < b) (k : am_w d j Q tg ls st S) : am_w d j Q pc ls (.inl y :: .inl x :: st) S := r_cmltN a b h hx hy ha hb (fun _ => k) (fun q => absurd hc q)
theorem r_cmltNF {x y : Int32} (a b : Nat) (h : am_code j pc = some (ai_icmp (fun x y => x < y) tg nx)) (hx : x = nI a) (hy : y = nI b) (ha : a < 2 ^ 31) (hb : b < 2 ^ 31) (hc : ¬ a < b) (k : am_w d j Q nx ls st S) : am_w d j Q pc ls (.inl y :: .inl x :: st) S := r_cmltN a b h hx hy ha hb (fun q => absurd q hc) (fun _ => k)
theorem r_cmge {x y : Int32} (h : am_code j pc = some (ai_icmp (fun x y => y ≤ x) tg nx)) (hp : x < y → am_w d j Q nx ls st S) (hn : ¬ x < y → am_w d j Q tg ls st S) : am_w d j Q pc ls (.inl y :: .inl x :: st) S := r_step h ⟨x, y, st, rfl, fun q => hn (Int32.not_lt.mpr q), fun q => hp (Int32.not_le.mp q)⟩
theorem r_cmgeT {x y : Int32} (h : am_code j pc = some (ai_icmp (fun x y => y ≤ x) tg nx)) (hc : x < y) (k : am_w d j Q nx ls st S) : am_w d j Q pc ls (.inl y :: .inl x :: st) S := r_cmge h (fun _ => k) (fun q => absurd hc q)
theorem r_cmgeF {x y : Int32} (h : am_code j pc = some (ai_icmp (fun x y => y ≤ x) tg nx)) (hc : ¬ x < y) (k : am_w d j Q tg ls st S) : am_w d j Q pc ls (.inl y :: .inl x :: st) S := r_cmge h (fun q => absurd q hc) (fun _ => k)
theorem r_cmgeN {x y : Int32} (a b : Nat) (h : am_code j pc = some (ai_icmp (fun x y => y ≤ x) tg nx)) (hx : x = nI a) (hy : y = nI b) (ha : a < 2 ^ 31) (hb : b < 2 ^ 31) (hp : a < b → am_w d j Q nx ls st S) (hn : ¬ a < b → am_w d j Q tg ls st S) : am_w d j Q pc ls (.inl y :: .inl x :: st) S := r_cmge h (fun q => hp ((nI_ltI ha hb).mp (by subst hx; subst hy; exact q))) (fun q => hn (fun z => q (by subst hx; subst hy; exact (nI_ltI ha hb).mpr z)))
theorem r_cmgeNT {x y : Int32} (a b : Nat) (h : am_code j pc = some (ai_icmp (fun x y => y ≤ x) tg nx)) (hx : x = nI a) (hy : y = nI b) (ha : a < 2 ^ 31) (hb : b < 2 ^ 31) (hc : a < b) (k : am_w d j Q nx ls st S) : am_w d j Q pc ls (.inl y :: .inl x :: st) S := r_cmgeN a b h hx hy ha hb (fun _ => k) (fun q => absurd hc q)
theorem r_cmgeNF {x y : Int32} (a b : Nat) (h : am_code j pc = some (ai_icmp (fun x y => y ≤ x) tg nx)) (hx : x = nI a) (hy : y = nI b) (ha : a < 2 ^ 31) (hb : b < 2 ^ 31) (hc : ¬ a < b) (k : am_w d j Q tg ls st S) : am_w d j Q pc ls (.inl y :: .inl x :: st) S := r_cmgeN a b h hx hy ha hb (fun q => absurd q hc) (fun _ => k)
theorem r_cmgt {x y : Int32} (h : am_code j pc = some (ai_icmp (fun x y => y < x) tg nx)) (hp : y < x → am_w d j Q tg ls st S) (hn : ¬ y < x → am_w d j Q nx ls st S) : am_w d j Q pc ls (.inl y :: .inl x :: st) S := r_step h ⟨x, y, st, rfl, fun q => hp q, fun q => hn q⟩
theorem r_cmgtT {x y : Int32} (h : am_code j pc = some (ai_icmp (fun x y => y < x) tg nx)) (hc : y < x) (k : am_w d j Q tg ls st S) : am_w d j Q pc ls (.inl y :: .inl x :: st) S := r_cmgt h (fun _ => k) (fun q => absurd hc q)
theorem r_cmgtF {x y : Int32} (h : am_code j pc = some (ai_icmp (fun x y => y < x) tg nx)) (hc : ¬ y < x) (k : am_w d j Q nx ls st S) : am_w d j Q pc ls (.inl y :: .inl x :: st) S := r_cmgt h (fun q => absurd q hc) (fun _ => k)
theorem r_cmgtN {x y : Int32} (a b : Nat) (h : am_code j pc = some (ai_icmp (fun x y => y < x) tg nx)) (hx : x = nI a) (hy : y = nI b) (ha : a < 2 ^ 31) (hb : b < 2 ^ 31) (hp : b < a → am_w d j Q tg ls st S) (hn : ¬ b < a → am_w d j Q nx ls st S) : am_w d j Q pc ls (.inl y :: .inl x :: st) S := r_cmgt h (fun q => hp ((nI_ltI hb ha).mp (by subst hx; subst hy; exact q))) (fun q => hn (fun z => q (by subst hx; subst hy; exact (nI_ltI hb ha).mpr z)))
theorem r_cmgtNT {x y : Int32} (a b : Nat) (h : am_code j pc = some (ai_icmp (fun x y => y < x) tg nx)) (hx : x = nI a) (hy : y = nI b) (ha : a < 2 ^ 31) (hb : b < 2 ^ 31) (hc : b < a) (k : am_w d j Q tg ls st S) : am_w d j Q pc ls (.inl y :: .inl x :: st) S := r_cmgtN a b h hx hy ha hb (fun _ => k) (fun q => absurd hc q)
theorem r_cmgtNF {x y : Int32} (a b : Nat) (h : am_code j pc = some (ai_icmp (fun x y => y < x) tg nx)) (hx : x = nI a) (hy : y = nI b) (ha : a < 2 ^ 31) (hb : b < 2 ^ 31) (hc : ¬ b < a) (k : am_w d j Q nx ls st S) : am_w d j Q pc ls (.inl y :: .inl x :: st) S := r_cmgtN a b h hx hy ha hb (fun q => absurd q hc) (fun _ => k)
theorem r_cmle {x y : Int32} (h : am_code j pc = some (ai_icmp (fun x y => x ≤ y) tg nx)) (hp : y < x → am_w d j Q nx ls st S) (hn : ¬ y < x → am_w d j Q tg ls st S) : am_w d j Q pc ls (.inl y :: .inl x :: st) S := r_step h ⟨x, y, st, rfl, fun q => hn (Int32.not_lt.mpr q), fun q => hp (Int32.not_le.mp q)⟩
theorem r_cmleT {x y : Int32} (h : am_code j pc = some (ai_icmp (fun x y => x ≤ y) tg nx)) (hc : y < x) (k : am_w d j Q nx ls st S) : am_w d j Q pc ls (.inl y :: .inl x :: st) S := r_cmle h (fun _ => k) (fun q => absurd hc q)
theorem r_cmleF {x y : Int32} (h : am_code j pc = some (ai_icmp (fun x y => x ≤ y) tg nx)) (hc : ¬ y < x) (k : am_w d j Q tg ls st S) : am_w d j Q pc ls (.inl y :: .inl x :: st) S := r_cmle h (fun q => absurd q hc) (fun _ => k)
theorem r_cmleN {x y : Int32} (a b : Nat) (h : am_code j pc = some (ai_icmp (fun x y => x ≤ y) tg nx)) (hx : x = nI a) (hy : y = nI b) (ha : a < 2 ^ 31) (hb : b < 2 ^ 31) (hp : b < a → am_w d j Q nx ls st S) (hn : ¬ b < a → am_w d j Q tg ls st S) : am_w d j Q pc ls (.inl y :: .inl x :: st) S := r_cmle h (fun q => hp ((nI_ltI hb ha).mp (by subst hx; subst hy; exact q))) (fun q => hn (fun z => q (by subst hx; subst hy; exact (nI_ltI hb ha).mpr z)))
theorem r_cmleNT {x y : Int32} (a b : Nat) (h : am_code j pc = some (ai_icmp (fun x y => x ≤ y) tg nx)) (hx : x = nI a) (hy : y = nI b) (ha : a < 2 ^ 31) (hb : b < 2 ^ 31) (hc : b < a) (k : am_w d j Q nx ls st S) : am_w d j Q pc ls (.inl y :: .inl x :: st) S := r_cmleN a b h hx hy ha hb (fun _ => k) (fun q => absurd hc q)
theorem r_cmleNF {x y : Int32} (a b : Nat) (h : am_code j pc = some (ai_icmp (fun x y => x ≤ y) tg nx)) (hx : x = nI a) (hy : y = nI b) (ha : a < 2 ^ 31) (hb : b < 2 ^ 31) (hc : ¬ b < a) (k : am_w d j Q tg ls st S) : am_w d j Q pc ls (.inl y :: .inl x :: st) S := r_cmleN a b h hx hy ha hb (fun q => absurd q hc) (fun _ => k)
theorem r_ifnull {v : Option Nat} (h : am_code j pc = some (ai_ifnull tg nx)) (hp : v = none → am_w d j Q tg ls st S) (hn : ∀ a, v = some a → am_w d j Q nx ls st S) : am_w d j Q pc ls (.inr v :: st) S := r_step h ⟨v, st, rfl, hp, hn⟩
theorem r_ifnullT (h : am_code j pc = some (ai_ifnull tg nx)) (k : am_w d j Q tg ls st S) : am_w d j Q pc ls (.inr none :: st) S := r_ifnull h (fun _ => k) (fun _ q => by cases q)
theorem r_ifnullF {a : Nat} (h : am_code j pc = some (ai_ifnull tg nx)) (k : am_w d j Q nx ls st S) : am_w d j Q pc ls (.inr (some a) :: st) S := r_ifnull h (fun q => by cases q) (fun _ _ => k)
theorem r_ifnonnull {v : Option Nat} (h : am_code j pc = some (ai_ifnonnull tg nx)) (hp : v = none → am_w d j Q nx ls st S) (hn : ∀ a, v = some a → am_w d j Q tg ls st S) : am_w d j Q pc ls (.inr v :: st) S := r_step h ⟨v, st, rfl, hn, hp⟩
theorem r_ifnonnullT (h : am_code j pc = some (ai_ifnonnull tg nx)) (k : am_w d j Q nx ls st S) : am_w d j Q pc ls (.inr none :: st) S := r_ifnonnull h (fun _ => k) (fun _ q => by cases q)
theorem r_ifnonnullF {a : Nat} (h : am_code j pc = some (ai_ifnonnull tg nx)) (k : am_w d j Q tg ls st S) : am_w d j Q pc ls (.inr (some a) :: st) S := r_ifnonnull h (fun q => by cases q) (fun _ _ => k)
theorem r_goto (h : am_code j pc = some (ai_goto tg)) (k : am_w d j Q tg ls st S) : am_w d j Q pc ls st S := r_step h k
theorem r_dup {v : am_V} (h : am_code j pc = some (ai_dup nx)) (k : am_w d j Q nx ls (v :: v :: st) S) : am_w d j Q pc ls (v :: st) S := r_step h ⟨v, st, rfl, k⟩
theorem r_dup2 {v w : am_V} (h : am_code j pc = some (ai_dup2 nx)) (k : am_w d j Q nx ls (v :: w :: v :: w :: st) S) : am_w d j Q pc ls (v :: w :: st) S := r_step h ⟨v, w, st, rfl, k⟩
theorem r_getI {a k' f : Nat} (h : am_code j pc = some (ai_getI k' f nx)) (hl : am_lv S a k') (k : am_w d j Q nx ls (.inl (am_gI S (100 * k' + f) a 0) :: st) S) : am_w d j Q pc ls (.inr (some a) :: st) S := r_step h ⟨a, st, rfl, hl, k⟩
theorem r_getP {a k' f : Nat} (h : am_code j pc = some (ai_getP k' f nx)) (hl : am_lv S a k') (k : am_w d j Q nx ls (.inr (am_gP S (100 * k' + f) a 0) :: st) S) : am_w d j Q pc ls (.inr (some a) :: st) S := r_step h ⟨a, st, rfl, hl, k⟩
theorem r_putI {a k' f : Nat} {v : Int32} (h : am_code j pc = some (ai_putI k' f nx)) (hl : am_lv S a k') (k : am_w d j Q nx ls st (am_sI S (100 * k' + f) a 0 v)) : am_w d j Q pc ls (.inl v :: .inr (some a) :: st) S := r_step h ⟨v, a, st, rfl, hl, k⟩
theorem r_putZ {a k' f : Nat} {v : Int32} (h : am_code j pc = some (ai_putZ k' f nx)) (hl : am_lv S a k') (hv : v = 0 ∨ v = 1) (k : am_w d j Q nx ls st (am_sI S (100 * k' + f) a 0 v)) : am_w d j Q pc ls (.inl v :: .inr (some a) :: st) S := r_step h ⟨v, a, st, rfl, hl, hv, k⟩
theorem r_putP {a k' f : Nat} {v : Option Nat} (h : am_code j pc = some (ai_putP k' f nx)) (hl : am_lv S a k') (k : am_w d j Q nx ls st (am_sP S (100 * k' + f) a 0 v)) : am_w d j Q pc ls (.inr v :: .inr (some a) :: st) S := r_step h ⟨v, a, st, rfl, hl, k⟩
theorem r_ald {a k' n : Nat} {i : Int32} (h : am_code j pc = some (ai_ald k' n nx)) (hl : am_lv S a k') (x : Nat) (hi : i = nI x) (hx : x < n) (hn : n < 2 ^ 31) (k : am_w d j Q nx ls (.inl (am_gI S (100 * k') a x) :: st) S) : am_w d j Q pc ls (.inl i :: .inr (some a) :: st) S := r_step h ⟨i, a, st, rfl, hl, by subst hi; exact vp_in_nI hx hn, by subst hi; rw [nI_clamp (Nat.lt_trans hx hn)]; exact k⟩
theorem r_aald {a k' n : Nat} {i : Int32} (h : am_code j pc = some (ai_aald k' n nx)) (hl : am_lv S a k') (x : Nat) (hi : i = nI x) (hx : x < n) (hn : n < 2 ^ 31) (k : am_w d j Q nx ls (.inr (am_gP S (100 * k') a x) :: st) S) : am_w d j Q pc ls (.inl i :: .inr (some a) :: st) S := r_step h ⟨i, a, st, rfl, hl, by subst hi; exact vp_in_nI hx hn, by subst hi; rw [nI_clamp (Nat.lt_trans hx hn)]; exact k⟩
theorem r_ast {a k' n : Nat} {i v : Int32} (h : am_code j pc = some (ai_ast k' n nx)) (hl : am_lv S a k') (x : Nat) (hi : i = nI x) (hx : x < n) (hn : n < 2 ^ 31) (k : am_w d j Q nx ls st (am_sI S (100 * k') a x v)) : am_w d j Q pc ls (.inl v :: .inl i :: .inr (some a) :: st) S := r_step h ⟨v, i, a, st, rfl, hl, by subst hi; exact vp_in_nI hx hn, by subst hi; rw [nI_clamp (Nat.lt_trans hx hn)]; exact k⟩
theorem r_zast {a k' n : Nat} {i v : Int32} (h : am_code j pc = some (ai_zast k' n nx)) (hl : am_lv S a k') (x : Nat) (hi : i = nI x) (hx : x < n) (hn : n < 2 ^ 31) (hv : v = 0 ∨ v = 1) (k : am_w d j Q nx ls st (am_sI S (100 * k') a x v)) : am_w d j Q pc ls (.inl v :: .inl i :: .inr (some a) :: st) S := r_step h ⟨v, i, a, st, rfl, hl, by subst hi; exact vp_in_nI hx hn, hv, by subst hi; rw [nI_clamp (Nat.lt_trans hx hn)]; exact k⟩
theorem r_aast {a k' n k2 : Nat} {i : Int32} {v : Option Nat} (h : am_code j pc = some (ai_aast k' n k2 nx)) (hl : am_lv S a k') (x : Nat) (hi : i = nI x) (hx : x < n) (hn : n < 2 ^ 31) (hv : ∀ q, v = some q → am_lv S q k2) (k : am_w d j Q nx ls st (am_sP S (100 * k') a x v)) : am_w d j Q pc ls (.inr v :: .inl i :: .inr (some a) :: st) S := r_step h ⟨v, i, a, st, rfl, hl, by subst hi; exact vp_in_nI hx hn, hv, by subst hi; rw [nI_clamp (Nat.lt_trans hx hn)]; exact k⟩
theorem r_sld {i : Int32} (h : am_code j pc = some (ai_sld nx)) (x : Nat) (hi : i = nI x) (hx : x < S.2.1.1) (hn : S.2.1.1 < 2 ^ 31) (k : am_w d j Q nx ls (.inl (S.2.1.2 x) :: st) S) : am_w d j Q pc ls (.inl i :: .inr (some 0) :: st) S := r_step h ⟨i, st, rfl, by subst hi; exact vp_in_nI hx hn, by subst hi; rw [nI_clamp (Nat.lt_trans hx hn)]; exact k⟩
theorem r_slen (h : am_code j pc = some (ai_slen nx)) (k : am_w d j Q nx ls (.inl (nI S.2.1.1) :: st) S) : am_w d j Q pc ls (.inr (some 0) :: st) S := r_step h ⟨st, rfl, k⟩
theorem r_new {k' n : Nat} (h : am_code j pc = some (ai_new k' n nx)) (h1 : S.1.1 + 1 ≤ am_limC) (h2 : S.1.2.1 + n ≤ am_limS) (k : am_w d j Q nx ls (.inr (some (S.1.1 + 1)) :: st) (am_nw S k' n)) : am_w d j Q pc ls st S := r_step h ⟨h1, h2, k⟩
theorem r_newa {k' n : Nat} {i : Int32} (h : am_code j pc = some (ai_newa k' n nx)) (hi : i = nI n) (h1 : S.1.1 + 1 ≤ am_limC) (h2 : S.1.2.1 + n ≤ am_limS) (k : am_w d j Q nx ls (.inr (some (S.1.1 + 1)) :: st) (am_nw S k' n)) : am_w d j Q pc ls (.inl i :: st) S := r_step h ⟨i, st, rfl, hi, h1, h2, k⟩
theorem r_multi {k' k2 : Nat} {x y : Int32} (h : am_code j pc = some (ai_multi k' k2 nx)) (hx : x = nI 5) (hy : y = nI 5) (h1 : S.1.1 + 6 ≤ am_limC) (h2 : S.1.2.1 + 30 ≤ am_limS) (k : am_w d j Q nx ls (.inr (some (S.1.1 + 1)) :: st) (am_mul S k' k2 5)) : am_w d j Q pc ls (.inl y :: .inl x :: st) S := r_step h ⟨st, by rw [hx, hy], h1, h2, k⟩
theorem r_max {x y : Int32} (h : am_code j pc = some (ai_max nx)) (hr : st.length ≤ 8) (k : am_w d j Q nx ls (.inl (if x < y then y else x) :: st) S) : am_w d j Q pc ls (.inl y :: .inl x :: st) S := r_step h ⟨x, y, st, rfl, hr, k⟩
theorem r_oinit {a : Nat} (h : am_code j pc = some (ai_oinit nx)) (hr : st.length ≤ 8) (k : am_w d j Q nx ls st S) : am_w d j Q pc ls (.inr (some a) :: st) S := r_step h ⟨a, st, rfl, hr, k⟩
theorem r_callV0i {a k' j2 : Nat} {v : Int32} {S1 : am_S} (h : am_code j pc = some (ai_callV j2 k' 0 nx)) (hl : am_lv S a k') (hr : st.length ≤ 8) (hc : ∀ Q' : am_Q, Q' S1 (some (.inl v)) → am_call d j2 [.inr (some a)] S Q') (k : am_w d j Q nx ls (.inl v :: st) S1) : am_w d j Q pc ls (.inr (some a) :: st) S := r_step h ⟨a, [], st, rfl, rfl, hr, hl, hc _ k⟩
theorem r_callV0v {a k' j2 : Nat} {S1 : am_S} (h : am_code j pc = some (ai_callV j2 k' 0 nx)) (hl : am_lv S a k') (hr : st.length ≤ 8) (hc : ∀ Q' : am_Q, Q' S1 none → am_call d j2 [.inr (some a)] S Q') (k : am_w d j Q nx ls st S1) : am_w d j Q pc ls (.inr (some a) :: st) S := r_step h ⟨a, [], st, rfl, rfl, hr, hl, hc _ k⟩
theorem r_callV0z {a k' j2 : Nat} {Z : am_Q} (h : am_code j pc = some (ai_callV j2 k' 0 nx)) (hl : am_lv S a k') (hr : st.length ≤ 8) (hc : am_call d j2 [.inr (some a)] S Z) (k : ∀ S' v, Z S' v → am_w d j Q nx ls (v.toList ++ st) S') : am_w d j Q pc ls (.inr (some a) :: st) S := r_step h ⟨a, [], st, rfl, rfl, hr, hl, am_lec d _ _ _ _ _ k hc⟩
theorem r_callV1i {a k' j2 : Nat} {x0 : am_V} {v : Int32} {S1 : am_S} (h : am_code j pc = some (ai_callV j2 k' 1 nx)) (hl : am_lv S a k') (hr : st.length ≤ 8) (hc : ∀ Q' : am_Q, Q' S1 (some (.inl v)) → am_call d j2 [.inr (some a), x0] S Q') (k : am_w d j Q nx ls (.inl v :: st) S1) : am_w d j Q pc ls (x0 :: .inr (some a) :: st) S := r_step h ⟨a, [x0], st, rfl, rfl, hr, hl, hc _ k⟩
theorem r_callV1v {a k' j2 : Nat} {x0 : am_V} {S1 : am_S} (h : am_code j pc = some (ai_callV j2 k' 1 nx)) (hl : am_lv S a k') (hr : st.length ≤ 8) (hc : ∀ Q' : am_Q, Q' S1 none → am_call d j2 [.inr (some a), x0] S Q') (k : am_w d j Q nx ls st S1) : am_w d j Q pc ls (x0 :: .inr (some a) :: st) S := r_step h ⟨a, [x0], st, rfl, rfl, hr, hl, hc _ k⟩
theorem r_callV1z {a k' j2 : Nat} {x0 : am_V} {Z : am_Q} (h : am_code j pc = some (ai_callV j2 k' 1 nx)) (hl : am_lv S a k') (hr : st.length ≤ 8) (hc : am_call d j2 [.inr (some a), x0] S Z) (k : ∀ S' v, Z S' v → am_w d j Q nx ls (v.toList ++ st) S') : am_w d j Q pc ls (x0 :: .inr (some a) :: st) S := r_step h ⟨a, [x0], st, rfl, rfl, hr, hl, am_lec d _ _ _ _ _ k hc⟩
theorem r_callS1i {j2 : Nat} {x0 : am_V} {v : Int32} {S1 : am_S} (h : am_code j pc = some (ai_callS j2 1 nx)) (hr : st.length ≤ 8) (hc : ∀ Q' : am_Q, Q' S1 (some (.inl v)) → am_call d j2 [x0] S Q') (k : am_w d j Q nx ls (.inl v :: st) S1) : am_w d j Q pc ls (x0 :: st) S := r_step h ⟨[x0], st, rfl, rfl, hr, hc _ k⟩
theorem r_callS1v {j2 : Nat} {x0 : am_V} {S1 : am_S} (h : am_code j pc = some (ai_callS j2 1 nx)) (hr : st.length ≤ 8) (hc : ∀ Q' : am_Q, Q' S1 none → am_call d j2 [x0] S Q') (k : am_w d j Q nx ls st S1) : am_w d j Q pc ls (x0 :: st) S := r_step h ⟨[x0], st, rfl, rfl, hr, hc _ k⟩
theorem r_callS1z {j2 : Nat} {x0 : am_V} {Z : am_Q} (h : am_code j pc = some (ai_callS j2 1 nx)) (hr : st.length ≤ 8) (hc : am_call d j2 [x0] S Z) (k : ∀ S' v, Z S' v → am_w d j Q nx ls (v.toList ++ st) S') : am_w d j Q pc ls (x0 :: st) S := r_step h ⟨[x0], st, rfl, rfl, hr, am_lec d _ _ _ _ _ k hc⟩
theorem r_callV2i {a k' j2 : Nat} {x0 x1 : am_V} {v : Int32} {S1 : am_S} (h : am_code j pc = some (ai_callV j2 k' 2 nx)) (hl : am_lv S a k') (hr : st.length ≤ 8) (hc : ∀ Q' : am_Q, Q' S1 (some (.inl v)) → am_call d j2 [.inr (some a), x0, x1] S Q') (k : am_w d j Q nx ls (.inl v :: st) S1) : am_w d j Q pc ls (x1 :: x0 :: .inr (some a) :: st) S := r_step h ⟨a, [x0, x1], st, rfl, rfl, hr, hl, hc _ k⟩
theorem r_callV2v {a k' j2 : Nat} {x0 x1 : am_V} {S1 : am_S} (h : am_code j pc = some (ai_callV j2 k' 2 nx)) (hl : am_lv S a k') (hr : st.length ≤ 8) (hc : ∀ Q' : am_Q, Q' S1 none → am_call d j2 [.inr (some a), x0, x1] S Q') (k : am_w d j Q nx ls st S1) : am_w d j Q pc ls (x1 :: x0 :: .inr (some a) :: st) S := r_step h ⟨a, [x0, x1], st, rfl, rfl, hr, hl, hc _ k⟩
theorem r_callV2z {a k' j2 : Nat} {x0 x1 : am_V} {Z : am_Q} (h : am_code j pc = some (ai_callV j2 k' 2 nx)) (hl : am_lv S a k') (hr : st.length ≤ 8) (hc : am_call d j2 [.inr (some a), x0, x1] S Z) (k : ∀ S' v, Z S' v → am_w d j Q nx ls (v.toList ++ st) S') : am_w d j Q pc ls (x1 :: x0 :: .inr (some a) :: st) S := r_step h ⟨a, [x0, x1], st, rfl, rfl, hr, hl, am_lec d _ _ _ _ _ k hc⟩
theorem r_callS2i {j2 : Nat} {x0 x1 : am_V} {v : Int32} {S1 : am_S} (h : am_code j pc = some (ai_callS j2 2 nx)) (hr : st.length ≤ 8) (hc : ∀ Q' : am_Q, Q' S1 (some (.inl v)) → am_call d j2 [x0, x1] S Q') (k : am_w d j Q nx ls (.inl v :: st) S1) : am_w d j Q pc ls (x1 :: x0 :: st) S := r_step h ⟨[x0, x1], st, rfl, rfl, hr, hc _ k⟩
theorem r_callS2v {j2 : Nat} {x0 x1 : am_V} {S1 : am_S} (h : am_code j pc = some (ai_callS j2 2 nx)) (hr : st.length ≤ 8) (hc : ∀ Q' : am_Q, Q' S1 none → am_call d j2 [x0, x1] S Q') (k : am_w d j Q nx ls st S1) : am_w d j Q pc ls (x1 :: x0 :: st) S := r_step h ⟨[x0, x1], st, rfl, rfl, hr, hc _ k⟩
theorem r_callS2z {j2 : Nat} {x0 x1 : am_V} {Z : am_Q} (h : am_code j pc = some (ai_callS j2 2 nx)) (hr : st.length ≤ 8) (hc : am_call d j2 [x0, x1] S Z) (k : ∀ S' v, Z S' v → am_w d j Q nx ls (v.toList ++ st) S') : am_w d j Q pc ls (x1 :: x0 :: st) S := r_step h ⟨[x0, x1], st, rfl, rfl, hr, am_lec d _ _ _ _ _ k hc⟩
theorem r_callV3i {a k' j2 : Nat} {x0 x1 x2 : am_V} {v : Int32} {S1 : am_S} (h : am_code j pc = some (ai_callV j2 k' 3 nx)) (hl : am_lv S a k') (hr : st.length ≤ 8) (hc : ∀ Q' : am_Q, Q' S1 (some (.inl v)) → am_call d j2 [.inr (some a), x0, x1, x2] S Q') (k : am_w d j Q nx ls (.inl v :: st) S1) : am_w d j Q pc ls (x2 :: x1 :: x0 :: .inr (some a) :: st) S := r_step h ⟨a, [x0, x1, x2], st, rfl, rfl, hr, hl, hc _ k⟩
theorem r_callV3v {a k' j2 : Nat} {x0 x1 x2 : am_V} {S1 : am_S} (h : am_code j pc = some (ai_callV j2 k' 3 nx)) (hl : am_lv S a k') (hr : st.length ≤ 8) (hc : ∀ Q' : am_Q, Q' S1 none → am_call d j2 [.inr (some a), x0, x1, x2] S Q') (k : am_w d j Q nx ls st S1) : am_w d j Q pc ls (x2 :: x1 :: x0 :: .inr (some a) :: st) S := r_step h ⟨a, [x0, x1, x2], st, rfl, rfl, hr, hl, hc _ k⟩
theorem r_callV3z {a k' j2 : Nat} {x0 x1 x2 : am_V} {Z : am_Q} (h : am_code j pc = some (ai_callV j2 k' 3 nx)) (hl : am_lv S a k') (hr : st.length ≤ 8) (hc : am_call d j2 [.inr (some a), x0, x1, x2] S Z) (k : ∀ S' v, Z S' v → am_w d j Q nx ls (v.toList ++ st) S') : am_w d j Q pc ls (x2 :: x1 :: x0 :: .inr (some a) :: st) S := r_step h ⟨a, [x0, x1, x2], st, rfl, rfl, hr, hl, am_lec d _ _ _ _ _ k hc⟩
theorem r_callS3i {j2 : Nat} {x0 x1 x2 : am_V} {v : Int32} {S1 : am_S} (h : am_code j pc = some (ai_callS j2 3 nx)) (hr : st.length ≤ 8) (hc : ∀ Q' : am_Q, Q' S1 (some (.inl v)) → am_call d j2 [x0, x1, x2] S Q') (k : am_w d j Q nx ls (.inl v :: st) S1) : am_w d j Q pc ls (x2 :: x1 :: x0 :: st) S := r_step h ⟨[x0, x1, x2], st, rfl, rfl, hr, hc _ k⟩
theorem r_callS3v {j2 : Nat} {x0 x1 x2 : am_V} {S1 : am_S} (h : am_code j pc = some (ai_callS j2 3 nx)) (hr : st.length ≤ 8) (hc : ∀ Q' : am_Q, Q' S1 none → am_call d j2 [x0, x1, x2] S Q') (k : am_w d j Q nx ls st S1) : am_w d j Q pc ls (x2 :: x1 :: x0 :: st) S := r_step h ⟨[x0, x1, x2], st, rfl, rfl, hr, hc _ k⟩
theorem r_callS3z {j2 : Nat} {x0 x1 x2 : am_V} {Z : am_Q} (h : am_code j pc = some (ai_callS j2 3 nx)) (hr : st.length ≤ 8) (hc : am_call d j2 [x0, x1, x2] S Z) (k : ∀ S' v, Z S' v → am_w d j Q nx ls (v.toList ++ st) S') : am_w d j Q pc ls (x2 :: x1 :: x0 :: st) S := r_step h ⟨[x0, x1, x2], st, rfl, rfl, hr, am_lec d _ _ _ _ _ k hc⟩
theorem r_callV4i {a k' j2 : Nat} {x0 x1 x2 x3 : am_V} {v : Int32} {S1 : am_S} (h : am_code j pc = some (ai_callV j2 k' 4 nx)) (hl : am_lv S a k') (hr : st.length ≤ 8) (hc : ∀ Q' : am_Q, Q' S1 (some (.inl v)) → am_call d j2 [.inr (some a), x0, x1, x2, x3] S Q') (k : am_w d j Q nx ls (.inl v :: st) S1) : am_w d j Q pc ls (x3 :: x2 :: x1 :: x0 :: .inr (some a) :: st) S := r_step h ⟨a, [x0, x1, x2, x3], st, rfl, rfl, hr, hl, hc _ k⟩
theorem r_callV4v {a k' j2 : Nat} {x0 x1 x2 x3 : am_V} {S1 : am_S} (h : am_code j pc = some (ai_callV j2 k' 4 nx)) (hl : am_lv S a k') (hr : st.length ≤ 8) (hc : ∀ Q' : am_Q, Q' S1 none → am_call d j2 [.inr (some a), x0, x1, x2, x3] S Q') (k : am_w d j Q nx ls st S1) : am_w d j Q pc ls (x3 :: x2 :: x1 :: x0 :: .inr (some a) :: st) S := r_step h ⟨a, [x0, x1, x2, x3], st, rfl, rfl, hr, hl, hc _ k⟩
theorem r_callV4z {a k' j2 : Nat} {x0 x1 x2 x3 : am_V} {Z : am_Q} (h : am_code j pc = some (ai_callV j2 k' 4 nx)) (hl : am_lv S a k') (hr : st.length ≤ 8) (hc : am_call d j2 [.inr (some a), x0, x1, x2, x3] S Z) (k : ∀ S' v, Z S' v → am_w d j Q nx ls (v.toList ++ st) S') : am_w d j Q pc ls (x3 :: x2 :: x1 :: x0 :: .inr (some a) :: st) S := r_step h ⟨a, [x0, x1, x2, x3], st, rfl, rfl, hr, hl, am_lec d _ _ _ _ _ k hc⟩
theorem r_callS4i {j2 : Nat} {x0 x1 x2 x3 : am_V} {v : Int32} {S1 : am_S} (h : am_code j pc = some (ai_callS j2 4 nx)) (hr : st.length ≤ 8) (hc : ∀ Q' : am_Q, Q' S1 (some (.inl v)) → am_call d j2 [x0, x1, x2, x3] S Q') (k : am_w d j Q nx ls (.inl v :: st) S1) : am_w d j Q pc ls (x3 :: x2 :: x1 :: x0 :: st) S := r_step h ⟨[x0, x1, x2, x3], st, rfl, rfl, hr, hc _ k⟩
theorem r_callS4v {j2 : Nat} {x0 x1 x2 x3 : am_V} {S1 : am_S} (h : am_code j pc = some (ai_callS j2 4 nx)) (hr : st.length ≤ 8) (hc : ∀ Q' : am_Q, Q' S1 none → am_call d j2 [x0, x1, x2, x3] S Q') (k : am_w d j Q nx ls st S1) : am_w d j Q pc ls (x3 :: x2 :: x1 :: x0 :: st) S := r_step h ⟨[x0, x1, x2, x3], st, rfl, rfl, hr, hc _ k⟩
theorem r_callS4z {j2 : Nat} {x0 x1 x2 x3 : am_V} {Z : am_Q} (h : am_code j pc = some (ai_callS j2 4 nx)) (hr : st.length ≤ 8) (hc : am_call d j2 [x0, x1, x2, x3] S Z) (k : ∀ S' v, Z S' v → am_w d j Q nx ls (v.toList ++ st) S') : am_w d j Q pc ls (x3 :: x2 :: x1 :: x0 :: st) S := r_step h ⟨[x0, x1, x2, x3], st, rfl, rfl, hr, am_lec d _ _ _ _ _ k hc⟩
theorem r_callV5i {a k' j2 : Nat} {x0 x1 x2 x3 x4 : am_V} {v : Int32} {S1 : am_S} (h : am_code j pc = some (ai_callV j2 k' 5 nx)) (hl : am_lv S a k') (hr : st.length ≤ 8) (hc : ∀ Q' : am_Q, Q' S1 (some (.inl v)) → am_call d j2 [.inr (some a), x0, x1, x2, x3, x4] S Q') (k : am_w d j Q nx ls (.inl v :: st) S1) : am_w d j Q pc ls (x4 :: x3 :: x2 :: x1 :: x0 :: .inr (some a) :: st) S := r_step h ⟨a, [x0, x1, x2, x3, x4], st, rfl, rfl, hr, hl, hc _ k⟩
theorem r_callV5v {a k' j2 : Nat} {x0 x1 x2 x3 x4 : am_V} {S1 : am_S} (h : am_code j pc = some (ai_callV j2 k' 5 nx)) (hl : am_lv S a k') (hr : st.length ≤ 8) (hc : ∀ Q' : am_Q, Q' S1 none → am_call d j2 [.inr (some a), x0, x1, x2, x3, x4] S Q') (k : am_w d j Q nx ls st S1) : am_w d j Q pc ls (x4 :: x3 :: x2 :: x1 :: x0 :: .inr (some a) :: st) S := r_step h ⟨a, [x0, x1, x2, x3, x4], st, rfl, rfl, hr, hl, hc _ k⟩
theorem r_callV5z {a k' j2 : Nat} {x0 x1 x2 x3 x4 : am_V} {Z : am_Q} (h : am_code j pc = some (ai_callV j2 k' 5 nx)) (hl : am_lv S a k') (hr : st.length ≤ 8) (hc : am_call d j2 [.inr (some a), x0, x1, x2, x3, x4] S Z) (k : ∀ S' v, Z S' v → am_w d j Q nx ls (v.toList ++ st) S') : am_w d j Q pc ls (x4 :: x3 :: x2 :: x1 :: x0 :: .inr (some a) :: st) S := r_step h ⟨a, [x0, x1, x2, x3, x4], st, rfl, rfl, hr, hl, am_lec d _ _ _ _ _ k hc⟩
theorem r_callS5i {j2 : Nat} {x0 x1 x2 x3 x4 : am_V} {v : Int32} {S1 : am_S} (h : am_code j pc = some (ai_callS j2 5 nx)) (hr : st.length ≤ 8) (hc : ∀ Q' : am_Q, Q' S1 (some (.inl v)) → am_call d j2 [x0, x1, x2, x3, x4] S Q') (k : am_w d j Q nx ls (.inl v :: st) S1) : am_w d j Q pc ls (x4 :: x3 :: x2 :: x1 :: x0 :: st) S := r_step h ⟨[x0, x1, x2, x3, x4], st, rfl, rfl, hr, hc _ k⟩
theorem r_callS5v {j2 : Nat} {x0 x1 x2 x3 x4 : am_V} {S1 : am_S} (h : am_code j pc = some (ai_callS j2 5 nx)) (hr : st.length ≤ 8) (hc : ∀ Q' : am_Q, Q' S1 none → am_call d j2 [x0, x1, x2, x3, x4] S Q') (k : am_w d j Q nx ls st S1) : am_w d j Q pc ls (x4 :: x3 :: x2 :: x1 :: x0 :: st) S := r_step h ⟨[x0, x1, x2, x3, x4], st, rfl, rfl, hr, hc _ k⟩
theorem r_callS5z {j2 : Nat} {x0 x1 x2 x3 x4 : am_V} {Z : am_Q} (h : am_code j pc = some (ai_callS j2 5 nx)) (hr : st.length ≤ 8) (hc : am_call d j2 [x0, x1, x2, x3, x4] S Z) (k : ∀ S' v, Z S' v → am_w d j Q nx ls (v.toList ++ st) S') : am_w d j Q pc ls (x4 :: x3 :: x2 :: x1 :: x0 :: st) S := r_step h ⟨[x0, x1, x2, x3, x4], st, rfl, rfl, hr, am_lec d _ _ _ _ _ k hc⟩
theorem r_iret {v : Int32} (h : am_code j pc = some ai_iret) (hq : Q S (some (.inl v))) : am_w d j Q pc ls [.inl v] S := r_step h ⟨v, rfl, hq⟩
theorem r_zret {v : Int32} (h : am_code j pc = some ai_zret) (hv : v = 0 ∨ v = 1) (hq : Q S (some (.inl v))) : am_w d j Q pc ls [.inl v] S := r_step h ⟨v, rfl, hv, hq⟩
theorem r_ret (h : am_code j pc = some ai_ret) (hq : Q S none) : am_w d j Q pc ls [] S := r_step h ⟨rfl, hq⟩
end RU
abbrev am_I : Type := Nat → Nat → Nat → Int32
abbrev am_P : Type := Nat → Nat → Nat → Option Nat
abbrev am_K : Type := Nat × Nat × (Nat → Nat)
abbrev am_Sc : Type := Nat × (Nat → Int32)
def am_rd (μ : am_I) (k x : Nat) : Int32 := μ (100 * (51 + k)) (164 + k) x
def am_wr (μ : am_I) (k x : Nat) (v : Int32) : am_I := am_u μ (100 * (51 + k)) (164 + k) x v
def am_ck (μ : am_I) : Int32 := μ 5000 163 0
def am_wc (μ : am_I) (v : Int32) : am_I := am_u μ 5000 163 0 v
theorem am_rd_wr (μ : am_I) (k x k' x' : Nat) (v : Int32) : am_rd (am_wr μ k x v) k' x' = if k' = k ∧ x' = x then v else am_rd μ k' x' := by
  unfold am_rd am_wr am_u
  by_cases h : k' = k ∧ x' = x
  · rw [if_pos h, if_pos ⟨by rw [h.1], by rw [h.1], h.2⟩]
  · rw [if_neg h, if_neg (fun q => h ⟨by omega, q.2.2⟩)]
theorem am_rd_wc (μ : am_I) (k x : Nat) (v : Int32) : am_rd (am_wc μ v) k x = am_rd μ k x := by
  unfold am_rd am_wc am_u
  rw [if_neg (fun q => by omega)]
theorem am_ck_wr (μ : am_I) (k x : Nat) (v : Int32) : am_ck (am_wr μ k x v) = am_ck μ := by
  unfold am_ck am_wr am_u
  rw [if_neg (fun q => by omega)]
theorem am_ck_wc (μ : am_I) (v : Int32) : am_ck (am_wc μ v) = v := by
  unfold am_ck am_wc am_u
  rw [if_pos ⟨rfl, rfl, rfl⟩]
def am_TQ (K : am_K) (p : am_P) : Prop := 187 ≤ K.1 ∧ (∀ a, 163 ≤ a → a < 188 → K.2.2 a = a - 113) ∧ ∀ k, k < 24 → p (5000 + (k + 1)) 163 0 = some (164 + k)
section QU
variable {d j pc nx : Nat} {Q : am_Q} {ls : am_L} {st : List am_V} {K : am_K} {sc : am_Sc} {c : am_M} {μ : am_I} {p : am_P}
theorem am_TQ.me (T : am_TQ K p) {m : am_M} : am_lv (K, sc, c, m) 163 50 := ⟨by decide, Nat.le_trans (by decide) T.1, T.2.1 163 (by decide) (by decide)⟩
theorem am_TQ.ar (T : am_TQ K p) {m : am_M} {k : Nat} (hk : k < 24) : am_lv (K, sc, c, m) (164 + k) (51 + k) := ⟨by omega, Nat.le_trans (by omega) T.1, by have := T.2.1 (164 + k) (by omega) (by omega); show K.2.2 (164 + k) = _; omega⟩
theorem q_ck (T : am_TQ K p) (h : am_code j pc = some (ai_getI 50 0 nx)) (w : am_w d j Q nx ls (.inl (am_ck μ) :: st) (K, sc, c, (μ, p))) : am_w d j Q pc ls (.inr (some 163) :: st) (K, sc, c, (μ, p)) := r_getI h T.me w
theorem q_wc {v : Int32} (T : am_TQ K p) (h : am_code j pc = some (ai_putI 50 0 nx)) (w : am_w d j Q nx ls st (K, sc, c, (am_wc μ v, p))) : am_w d j Q pc ls (.inl v :: .inr (some 163) :: st) (K, sc, c, (μ, p)) := r_putI h T.me w
theorem q_arr (k : Nat) (T : am_TQ K p) (h : am_code j pc = some (ai_getP 50 (k + 1) nx)) (hk : k < 24) (w : am_w d j Q nx ls (.inr (some (164 + k)) :: st) (K, sc, c, (μ, p))) : am_w d j Q pc ls (.inr (some 163) :: st) (K, sc, c, (μ, p)) := by
  refine r_getP h T.me ?_
  have e : am_gP (K, sc, c, (μ, p)) (100 * 50 + (k + 1)) 163 0 = some (164 + k) := by
    unfold am_gP
    rw [if_neg (by omega)]
    exact T.2.2 k hk
  rw [e]
  exact w
theorem am_gI_q (k x : Nat) : am_gI (K, sc, c, (μ, p)) (100 * (51 + k)) (164 + k) x = am_rd μ k x := by
  unfold am_gI
  rw [if_neg (by omega)]
  rfl
theorem am_sI_q (k x : Nat) (v : Int32) : am_sI (K, sc, c, (μ, p)) (100 * (51 + k)) (164 + k) x v = (K, sc, c, (am_wr μ k x v, p)) := by
  unfold am_sI
  rw [if_neg (by omega)]
  rfl
theorem q_ald {n : Nat} {i : Int32} (k x : Nat) (T : am_TQ K p) (h : am_code j pc = some (ai_ald (51 + k) n nx)) (hk : k < 24) (hi : i = nI x) (hx : x < n) (hn : n < 2 ^ 31) (w : am_w d j Q nx ls (.inl (am_rd μ k x) :: st) (K, sc, c, (μ, p))) : am_w d j Q pc ls (.inl i :: .inr (some (164 + k)) :: st) (K, sc, c, (μ, p)) :=
  r_ald h (T.ar hk) x hi hx hn (by rw [am_gI_q]; exact w)
theorem q_ast {n : Nat} {i v : Int32} (k x : Nat) (T : am_TQ K p) (h : am_code j pc = some (ai_ast (51 + k) n nx)) (hk : k < 24) (hi : i = nI x) (hx : x < n) (hn : n < 2 ^ 31) (w : am_w d j Q nx ls st (K, sc, c, (am_wr μ k x v, p))) : am_w d j Q pc ls (.inl v :: .inl i :: .inr (some (164 + k)) :: st) (K, sc, c, (μ, p)) :=
  r_ast h (T.ar hk) x hi hx hn (by rw [am_sI_q]; exact w)
theorem q_zast {n : Nat} {i v : Int32} (k x : Nat) (T : am_TQ K p) (h : am_code j pc = some (ai_zast (51 + k) n nx)) (hk : k < 24) (hi : i = nI x) (hx : x < n) (hn : n < 2 ^ 31) (hv : v = 0 ∨ v = 1) (w : am_w d j Q nx ls st (K, sc, c, (am_wr μ k x v, p))) : am_w d j Q pc ls (.inl v :: .inl i :: .inr (some (164 + k)) :: st) (K, sc, c, (μ, p)) :=
  r_zast h (T.ar hk) x hi hx hn hv (by rw [am_sI_q]; exact w)
end QU

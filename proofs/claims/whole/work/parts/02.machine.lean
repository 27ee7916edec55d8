abbrev am_V : Type := Int32 ⊕ Option Nat
abbrev am_L : Type := List (Option am_V)
abbrev am_M : Type := (Nat → Nat → Nat → Int32) × (Nat → Nat → Nat → Option Nat)
abbrev am_S : Type := (Nat × Nat × (Nat → Nat)) × (Nat × (Nat → Int32)) × am_M × am_M
abbrev am_Q : Type := am_S → Option am_V → Prop
abbrev am_C : Type := Nat → List am_V → am_S → am_Q → Prop
abbrev am_G : Type := Nat → am_L → List am_V → am_S → Prop
abbrev am_T : Type := am_C → am_G → am_Q → am_L → List am_V → am_S → Prop
def am_limC : Nat := 700000
def am_limS : Nat := 6000000
def am_u {α : Type} (m : Nat → Nat → Nat → α) (f a i : Nat) (v : α) : Nat → Nat → Nat → α := fun f' a' i' => if f' = f ∧ a' = a ∧ i' = i then v else m f' a' i'
def am_mI (m : am_M) (f a i : Nat) (v : Int32) : am_M := (am_u m.1 f a i v, m.2)
def am_mP (m : am_M) (f a i : Nat) (v : Option Nat) : am_M := (m.1, am_u m.2 f a i v)
def am_mz (m : am_M) (a : Nat) : am_M := (fun f a' i => if a' = a then 0 else m.1 f a' i, fun f a' i => if a' = a then none else m.2 f a' i)
def am_gI (S : am_S) (f a i : Nat) : Int32 := if f < 5000 then S.2.2.1.1 f a i else S.2.2.2.1 f a i
def am_gP (S : am_S) (f a i : Nat) : Option Nat := if f < 5000 then S.2.2.1.2 f a i else S.2.2.2.2 f a i
def am_sI (S : am_S) (f a i : Nat) (v : Int32) : am_S := if f < 5000 then (S.1, S.2.1, am_mI S.2.2.1 f a i v, S.2.2.2) else (S.1, S.2.1, S.2.2.1, am_mI S.2.2.2 f a i v)
def am_sP (S : am_S) (f a i : Nat) (v : Option Nat) : am_S := if f < 5000 then (S.1, S.2.1, am_mP S.2.2.1 f a i v, S.2.2.2) else (S.1, S.2.1, S.2.2.1, am_mP S.2.2.2 f a i v)
def am_nw (S : am_S) (k n : Nat) : am_S :=
  ((S.1.1 + 1, S.1.2.1 + n, fun a => if a = S.1.1 + 1 then k else S.1.2.2 a), S.2.1, (if k < 50 then am_mz S.2.2.1 (S.1.1 + 1) else S.2.2.1), (if k < 50 then S.2.2.2 else am_mz S.2.2.2 (S.1.1 + 1)))
def am_lv (S : am_S) (a k : Nat) : Prop := 0 < a ∧ a ≤ S.1.1 ∧ S.1.2.2 a = k
def ai_push (z : Int32) (nx : Nat) : am_T := fun _ go _ ls st S => go nx ls (.inl z :: st) S
def ai_null (nx : Nat) : am_T := fun _ go _ ls st S => go nx ls (.inr none :: st) S
def ai_iload (n nx : Nat) : am_T := fun _ go _ ls st S => ∃ v : Int32, ls[n]? = some (some (.inl v)) ∧ go nx ls (.inl v :: st) S
def ai_aload (n nx : Nat) : am_T := fun _ go _ ls st S => ∃ v : Option Nat, ls[n]? = some (some (.inr v)) ∧ go nx ls (.inr v :: st) S
def ai_istore (n nx : Nat) : am_T := fun _ go _ ls st S => ∃ (v : Int32) (r : List am_V), st = .inl v :: r ∧ go nx (ls.set n (some (.inl v))) r S
def ai_astore (n nx : Nat) : am_T := fun _ go _ ls st S => ∃ (v : Option Nat) (r : List am_V), st = .inr v :: r ∧ go nx (ls.set n (some (.inr v))) r S
def ai_iinc (n : Nat) (z : Int32) (nx : Nat) : am_T := fun _ go _ ls st S => ∃ v : Int32, ls[n]? = some (some (.inl v)) ∧ go nx (ls.set n (some (.inl (v + z)))) st S
def ai_bin (f : Int32 → Int32 → Int32) (nx : Nat) : am_T := fun _ go _ ls st S => ∃ (x y : Int32) (r : List am_V), st = .inl y :: .inl x :: r ∧ go nx ls (.inl (f x y) :: r) S
def ai_div (f : Int32 → Int32 → Int32) (nx : Nat) : am_T := fun _ go _ ls st S => ∃ (x y : Int32) (r : List am_V), st = .inl y :: .inl x :: r ∧ ¬ y = 0 ∧ go nx ls (.inl (f x y) :: r) S
def ai_if (c : Int32 → Prop) (tg nx : Nat) : am_T := fun _ go _ ls st S => ∃ (x : Int32) (r : List am_V), st = .inl x :: r ∧ (c x → go tg ls r S) ∧ (¬ c x → go nx ls r S)
def ai_icmp (c : Int32 → Int32 → Prop) (tg nx : Nat) : am_T := fun _ go _ ls st S => ∃ (x y : Int32) (r : List am_V), st = .inl y :: .inl x :: r ∧ (c x y → go tg ls r S) ∧ (¬ c x y → go nx ls r S)
def ai_ifnull (tg nx : Nat) : am_T := fun _ go _ ls st S => ∃ (v : Option Nat) (r : List am_V), st = .inr v :: r ∧ (v = none → go tg ls r S) ∧ (∀ a, v = some a → go nx ls r S)
def ai_ifnonnull (tg nx : Nat) : am_T := fun _ go _ ls st S => ∃ (v : Option Nat) (r : List am_V), st = .inr v :: r ∧ (∀ a, v = some a → go tg ls r S) ∧ (v = none → go nx ls r S)
def ai_goto (tg : Nat) : am_T := fun _ go _ ls st S => go tg ls st S
def ai_dup (nx : Nat) : am_T := fun _ go _ ls st S => ∃ (v : am_V) (r : List am_V), st = v :: r ∧ go nx ls (v :: v :: r) S
def ai_dupx1 (nx : Nat) : am_T := fun _ go _ ls st S => ∃ (v w : am_V) (r : List am_V), st = v :: w :: r ∧ go nx ls (v :: w :: v :: r) S
def ai_dup2 (nx : Nat) : am_T := fun _ go _ ls st S => ∃ (v w : am_V) (r : List am_V), st = v :: w :: r ∧ go nx ls (v :: w :: v :: w :: r) S
def ai_pop (nx : Nat) : am_T := fun _ go _ ls st S => ∃ (v : am_V) (r : List am_V), st = v :: r ∧ go nx ls r S
def ai_getI (k f nx : Nat) : am_T := fun _ go _ ls st S => ∃ (a : Nat) (r : List am_V), st = .inr (some a) :: r ∧ am_lv S a k ∧ go nx ls (.inl (am_gI S (100 * k + f) a 0) :: r) S
def ai_getP (k f nx : Nat) : am_T := fun _ go _ ls st S => ∃ (a : Nat) (r : List am_V), st = .inr (some a) :: r ∧ am_lv S a k ∧ go nx ls (.inr (am_gP S (100 * k + f) a 0) :: r) S
def ai_putI (k f nx : Nat) : am_T := fun _ go _ ls st S => ∃ (v : Int32) (a : Nat) (r : List am_V), st = .inl v :: .inr (some a) :: r ∧ am_lv S a k ∧ go nx ls r (am_sI S (100 * k + f) a 0 v)
def ai_putZ (k f nx : Nat) : am_T := fun _ go _ ls st S => ∃ (v : Int32) (a : Nat) (r : List am_V), st = .inl v :: .inr (some a) :: r ∧ am_lv S a k ∧ (v = 0 ∨ v = 1) ∧ go nx ls r (am_sI S (100 * k + f) a 0 v)
def ai_putP (k f nx : Nat) : am_T := fun _ go _ ls st S => ∃ (v : Option Nat) (a : Nat) (r : List am_V), st = .inr v :: .inr (some a) :: r ∧ am_lv S a k ∧ go nx ls r (am_sP S (100 * k + f) a 0 v)
def ai_ald (k n nx : Nat) : am_T := fun _ go _ ls st S => ∃ (i : Int32) (a : Nat) (r : List am_V), st = .inl i :: .inr (some a) :: r ∧ am_lv S a k ∧ vp_in i n ∧ go nx ls (.inl (am_gI S (100 * k) a i.toNatClampNeg) :: r) S
def ai_aald (k n nx : Nat) : am_T := fun _ go _ ls st S => ∃ (i : Int32) (a : Nat) (r : List am_V), st = .inl i :: .inr (some a) :: r ∧ am_lv S a k ∧ vp_in i n ∧ go nx ls (.inr (am_gP S (100 * k) a i.toNatClampNeg) :: r) S
def ai_ast (k n nx : Nat) : am_T := fun _ go _ ls st S => ∃ (v i : Int32) (a : Nat) (r : List am_V), st = .inl v :: .inl i :: .inr (some a) :: r ∧ am_lv S a k ∧ vp_in i n ∧ go nx ls r (am_sI S (100 * k) a i.toNatClampNeg v)
def ai_zast (k n nx : Nat) : am_T := fun _ go _ ls st S => ∃ (v i : Int32) (a : Nat) (r : List am_V), st = .inl v :: .inl i :: .inr (some a) :: r ∧ am_lv S a k ∧ vp_in i n ∧ (v = 0 ∨ v = 1) ∧ go nx ls r (am_sI S (100 * k) a i.toNatClampNeg v)
def ai_aast (k n k2 nx : Nat) : am_T := fun _ go _ ls st S => ∃ (v : Option Nat) (i : Int32) (a : Nat) (r : List am_V), st = .inr v :: .inl i :: .inr (some a) :: r ∧ am_lv S a k ∧ vp_in i n ∧ (∀ q, v = some q → am_lv S q k2) ∧ go nx ls r (am_sP S (100 * k) a i.toNatClampNeg v)
def ai_sld (nx : Nat) : am_T := fun _ go _ ls st S => ∃ (i : Int32) (r : List am_V), st = .inl i :: .inr (some 0) :: r ∧ vp_in i S.2.1.1 ∧ go nx ls (.inl (S.2.1.2 i.toNatClampNeg) :: r) S
def ai_slen (nx : Nat) : am_T := fun _ go _ ls st S => ∃ r : List am_V, st = .inr (some 0) :: r ∧ go nx ls (.inl (Int32.ofNat S.2.1.1) :: r) S
def ai_new (k n nx : Nat) : am_T := fun _ go _ ls st S => S.1.1 + 1 ≤ am_limC ∧ S.1.2.1 + n ≤ am_limS ∧ go nx ls (.inr (some (S.1.1 + 1)) :: st) (am_nw S k n)
def ai_newa (k n nx : Nat) : am_T := fun _ go _ ls st S => ∃ (i : Int32) (r : List am_V), st = .inl i :: r ∧ i = nI n ∧ S.1.1 + 1 ≤ am_limC ∧ S.1.2.1 + n ≤ am_limS ∧ go nx ls (.inr (some (S.1.1 + 1)) :: r) (am_nw S k n)
def ai_oinit (nx : Nat) : am_T := fun _ go _ ls st S => ∃ (a : Nat) (r : List am_V), st = .inr (some a) :: r ∧ r.length ≤ 8 ∧ go nx ls r S
def ai_max (nx : Nat) : am_T := fun _ go _ ls st S => ∃ (x y : Int32) (r : List am_V), st = .inl y :: .inl x :: r ∧ r.length ≤ 8 ∧ go nx ls (.inl (if x < y then y else x) :: r) S
def ai_callV (j k n nx : Nat) : am_T := fun C go _ ls st S => ∃ (a : Nat) (as r : List am_V), st = as.reverse ++ .inr (some a) :: r ∧ as.length = n ∧ r.length ≤ 8 ∧ am_lv S a k ∧ C j (.inr (some a) :: as) S (fun S' v => go nx ls (v.toList ++ r) S')
def ai_callS (j n nx : Nat) : am_T := fun C go _ ls st S => ∃ as r : List am_V, st = as.reverse ++ r ∧ as.length = n ∧ r.length ≤ 8 ∧ C j as S (fun S' v => go nx ls (v.toList ++ r) S')
def ai_iret : am_T := fun _ _ Q _ st S => ∃ v : Int32, st = [.inl v] ∧ Q S (some (.inl v))
def ai_zret : am_T := fun _ _ Q _ st S => ∃ v : Int32, st = [.inl v] ∧ (v = 0 ∨ v = 1) ∧ Q S (some (.inl v))
def ai_ret : am_T := fun _ _ Q _ st S => st = [] ∧ Q S none
def ai_switch (lo hi : Int) (tg : List Nat) (df : Nat) : am_T := fun _ go _ ls st S => ∃ (x : Int32) (r : List am_V), st = .inl x :: r ∧ (x.toInt < lo ∨ hi < x.toInt → go df ls r S) ∧ (∀ i : Nat, x.toInt = lo + i → x.toInt ≤ hi → ∀ t, tg[i]? = some t → go t ls r S)
def am_mul (S : am_S) (k k2 : Nat) : Nat → am_S
  | 0 => am_nw S k 5
  | i + 1 => am_sP (am_nw (am_mul S k k2 i) k2 5) (100 * k) (S.1.1 + 1) i (some (S.1.1 + 2 + i))
def ai_multi (k k2 nx : Nat) : am_T := fun _ go _ ls st S => ∃ r : List am_V, st = .inl (nI 5) :: .inl (nI 5) :: r ∧ S.1.1 + 6 ≤ am_limC ∧ S.1.2.1 + 30 ≤ am_limS ∧ go nx ls (.inr (some (S.1.1 + 1)) :: r) (am_mul S k k2 5)

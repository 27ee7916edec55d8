section RU2
variable {d j pc nx : Nat} {Q : am_Q} {ls ls' : am_L} {st : List am_V} {S : am_S}
theorem r_istoreL {n : Nat} {v : Int32} (h : am_code j pc = some (ai_istore n nx)) (hs : ls.set n (some (.inl v)) = ls') (k : am_w d j Q nx ls' st S) : am_w d j Q pc ls (.inl v :: st) S := r_istore h (by rw [hs]; exact k)
theorem r_astoreL {n : Nat} {v : Option Nat} (h : am_code j pc = some (ai_astore n nx)) (hs : ls.set n (some (.inr v)) = ls') (k : am_w d j Q nx ls' st S) : am_w d j Q pc ls (.inr v :: st) S := r_astore h (by rw [hs]; exact k)
theorem r_iincL {n : Nat} {v z : Int32} (h : am_code j pc = some (ai_iinc n z nx)) (hv : ls[n]? = some (some (.inl v))) (hs : ls.set n (some (.inl (v + z))) = ls') (k : am_w d j Q nx ls' st S) : am_w d j Q pc ls st S := r_iinc h hv (by rw [hs]; exact k)
theorem r_iincNL {n : Nat} (a : Nat) (h : am_code j pc = some (ai_iinc n 1 nx)) (hv : ls[n]? = some (some (.inl (nI a)))) (hs : ls.set n (some (.inl (nI (a + 1)))) = ls') (k : am_w d j Q nx ls' st S) : am_w d j Q pc ls st S := r_iincN a h hv (by rw [hs]; exact k)
end RU2

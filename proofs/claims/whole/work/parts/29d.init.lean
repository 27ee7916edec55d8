def am_k0 : am_K := am_kw (0, 0, fun _ => 0) 1 5
def am_gz : am_I := am_zg (fun _ _ _ => 0) 1
def am_pz : am_P := am_zp (fun _ _ _ => none) 1
def am_z1 : am_K × am_I × am_P := fc_net am_k0 am_gz am_pz 1
def am_k2 : am_K := am_kw am_z1.1 50 25
def am_k3 : am_K := fr_mK am_k2 24
def am_u3 : am_I := fr_mg (am_zg (fun _ _ _ => 0) 163) 163 24
def am_q3 : am_P := fr_mp (am_zp (fun _ _ _ => none) 163) 163 24
theorem in_k1 : am_z1.1.1 = 162 ∧ am_z1.1.2.1 ≤ 2000 := by decide +kernel
theorem in_k3 : am_k3.1 = 187 ∧ am_k3.2.1 ≤ 6000 := by decide +kernel
theorem in_kn : ∀ a, a < 188 → 0 < a → am_k3.2.2 a = am_kn a := by decide +kernel
theorem in_p1 : am_z1.2.2 100 1 0 = some 2 ∧ am_z1.2.2 101 1 0 = some 73 ∧ am_z1.2.2 102 1 0 = some 149 ∧ am_z1.2.2 103 1 0 = some 162 := by decide +kernel
theorem in_p2 : ∀ r, r < 5 → am_z1.2.2 200 2 r = some (3 + 14 * r) ∧ am_z1.2.2 305 (3 + 14 * r) 0 = some (4 + 14 * r) ∧ am_z1.2.2 306 (3 + 14 * r) 0 = some (5 + 14 * r) ∧ am_z1.2.2 307 (3 + 14 * r) 0 = some (6 + 14 * r) := by decide +kernel
theorem in_p3 : ∀ r, r < 5 → ∀ n, n < 5 → am_z1.2.2 600 (6 + 14 * r) n = some (7 + 14 * r + 2 * n) ∧ am_z1.2.2 708 (7 + 14 * r + 2 * n) 0 = some (8 + 14 * r + 2 * n) := by decide +kernel
theorem in_p4 : ∀ i, i < 25 → am_z1.2.2 900 73 i = some (74 + 3 * i) ∧ am_z1.2.2 1001 (74 + 3 * i) 0 = some (75 + 3 * i) ∧ am_z1.2.2 1002 (74 + 3 * i) 0 = some (76 + 3 * i) := by decide +kernel
theorem in_p5 : (am_z1.2.2 1300 149 0 = some 150 ∧ am_z1.2.2 1301 149 0 = some 156) ∧ (∀ u, u < 5 → am_z1.2.2 1400 150 u = some (151 + u) ∧ am_z1.2.2 1600 156 u = some (157 + u)) := by decide +kernel
theorem in_TC : am_TC am_k3 am_z1.2.2 := ⟨⟨by rw [in_k3.1]; decide, fun a h0 h1 => in_kn a h1 h0⟩, in_p1, in_p2, in_p3, in_p4, in_p5.1, in_p5.2⟩
theorem in_TQ : am_TQ am_k3 am_q3 := by
  refine ⟨by rw [in_k3.1]; decide, fun a h0 h1 => ?_, ?_⟩
  · rw [in_kn a h1 (by omega)]
    have h : ∀ a, a < 188 → 163 ≤ a → am_kn a = a - 113 := by decide +kernel
    exact h a h1 h0
  · have h : ∀ k, k < 24 → am_q3 (5001 + k) 163 0 = some (164 + k) := by decide +kernel
    intro k hk
    rw [show 5000 + (k + 1) = 5001 + k by omega]
    exact h k hk
theorem in_h : (∀ r, r < 5 → ∀ x, x < 5 → am_z1.2.2 500 (5 + 14 * r) x = none) ∧ (∀ r, r < 5 → am_z1.2.2 304 (3 + 14 * r) 0 = none) ∧ (∀ r, r < 5 → ∀ s, s < 2 → am_z1.2.2 400 (4 + 14 * r) s = none) ∧ (∀ i, i < 25 → ∀ x, x < 5 → am_z1.2.2 1100 (75 + 3 * i) x = none) := by decide +kernel
theorem in_id : ∀ r, r < 5 → am_z1.2.1 300 (3 + 14 * r) 0 = nI r ∧ am_z1.2.1 301 (3 + 14 * r) 0 = 1 ∧ am_z1.2.1 302 (3 + 14 * r) 0 = 0 ∧ am_z1.2.1 303 (3 + 14 * r) 0 = 0 := by decide +kernel
theorem in_e : ∀ r, r < 5 → ∀ n, n < 5 → am_z1.2.1 700 (7 + 14 * r + 2 * n) 0 = 0 ∧ am_z1.2.1 701 (7 + 14 * r + 2 * n) 0 = 0 ∧ am_z1.2.1 702 (7 + 14 * r + 2 * n) 0 = 0 ∧ am_z1.2.1 705 (7 + 14 * r + 2 * n) 0 = 0 ∧ am_z1.2.1 706 (7 + 14 * r + 2 * n) 0 = 0 ∧ ∀ x, x < 5 → am_z1.2.1 800 (8 + 14 * r + 2 * n) x = -2 := by decide +kernel
theorem in_c : am_z1.2.1 104 1 0 = 0 ∧ ∀ i, i < 7 → am_z1.2.1 1800 162 i = 0 := by decide +kernel
theorem fr_mg_0 (a : Nat) : ∀ i f b x, fr_mg (fun _ _ _ => 0) a i f b x = 0
  | 0, _, _, _ => rfl
  | i + 1, f, b, x => by
    show am_zg _ _ f b x = 0
    unfold am_zg
    split
    · rfl
    · exact fr_mg_0 a i f b x
theorem in_u : ∀ f b x, am_u3 f b x = 0 := by
  have h : am_zg (fun _ _ _ => 0) 163 = (fun _ _ _ => 0) := by
    funext f b x
    unfold am_zg
    split <;> rfl
  intro f b x
  unfold am_u3
  rw [h]
  exact fr_mg_0 163 24 f b x

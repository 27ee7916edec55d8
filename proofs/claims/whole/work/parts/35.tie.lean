def am_z7 (γ : am_I) : Prop := ∀ a, γ 702 a 0 = 0 ∧ γ 703 a 0 = 0
theorem am_z7.zg {γ : am_I} (h : am_z7 γ) (b : Nat) : am_z7 (am_zg γ b) := by
  intro a
  unfold am_zg
  split
  · exact ⟨rfl, rfl⟩
  · exact h a
theorem am_z7.u {γ : am_I} (h : am_z7 γ) {F b i : Nat} {v : Int32} (h1 : ¬ F = 702) (h2 : ¬ F = 703) : am_z7 (am_u γ F b i v) := by
  intro a
  rw [am_u_ne (fun q => h1 q.symm), am_u_ne (fun q => h2 q.symm)]
  exact h a
theorem am_z7.mg {γ : am_I} (h : am_z7 γ) (b : Nat) : ∀ i, am_z7 (am_mg γ b i)
  | 0 => h.zg _
  | i + 1 => (am_z7.mg h b i).zg _
theorem am_z7.on0 {γ : am_I} (h : am_z7 γ) (s : Nat) : am_z7 (fc_on0 γ s) := am_it_keep (P := am_z7) (fun _ _ _ h => h.u (by decide) (by decide)) h
theorem am_z7.ri {K : am_K} {γ : am_I} {π : am_P} (h : am_z7 γ) (a : Nat) (o : Int32) : am_z7 (fc_ri K γ π a o).2.1 := am_it_keep (P := fun z : am_K × am_I × am_P => am_z7 z.2.1) (fun _ _ _ h => ((h.zg _).zg _).on0 _) (((((h.u (by decide) (by decide)).u (by decide) (by decide)).zg _).zg _).zg _)
theorem in_7 : am_z7 am_z1.2.1 := by
  have h0 : am_z7 am_gz := am_z7.zg (fun _ => ⟨rfl, rfl⟩) 1
  have h1 : am_z7 (fc_n1 am_k0 am_gz am_pz 1).2.1 := am_it_keep (P := fun z : am_K × am_I × am_P => am_z7 z.2.1) (fun _ _ _ h => (h.zg _).ri _ _) (h0.zg _)
  have h3 : am_z7 (fc_n3 1 (1 + 1 + 14 * 5) (fc_n1 am_k0 am_gz am_pz 1)).2.1 := am_it_keep (P := fun z : am_K × am_I × am_P => am_z7 z.2.1) (fun _ _ _ h => ((h.zg _).zg _).zg _) (h1.zg _)
  exact ((((h3.zg _).mg _ _).mg _ _).zg _).u (by decide) (by decide)
theorem in_Wf : am_Wf am_k3 am_z1.2.1 am_z1.2.2 := by
  refine ⟨in_TC, fun r hr x hx e he => ?_, fun r hr e he => ?_, fun r hr s hs q hq => ?_, fun i hi x hx e he => ?_, fun r hr => (in_id r hr).1, fun a => ⟨Or.inl (in_7 a).1, Or.inl (in_7 a).2⟩⟩
  · rw [in_h.1 r hr x hx] at he; cases he
  · rw [in_h.2.1 r hr] at he; cases he
  · rw [in_h.2.2.1 r hr s hs] at hq; cases hq
  · rw [in_h.2.2.2 i hi x hx] at he; cases he
theorem wf_lose {K : am_K} {γ : am_I} {π : am_P} (h : am_Wf K γ π) (x y z : Int32) : am_Wf K (fc_lose γ x y z).1 π := by
  unfold fc_lose
  repeat' split
  · exact h
  · exact h
  · exact h
  · exact h.g (by decide)
theorem wf_fg {K : am_K} {γ : am_I} {π : am_P} (h : am_Wf K γ π) (r n : Nat) : am_Wf K (fc_fg γ r n) π := wf_on ((((h.z (Or.inl rfl) (Or.inl rfl)).g (by decide)).g (by decide)).g (by decide)) r n
theorem wf_sc {K : am_K} {γ : am_I} {π : am_P} (h : am_Wf K γ π) (r n : Nat) (z : Int32) : am_Wf K (fc_sc γ r n z) π := by
  unfold fc_sc
  split
  · exact wf_fg ((h.g (by decide)).g (by decide)) r n
  · exact h.g (by decide)
theorem wf_link {K : am_K} {γ : am_I} {π : am_P} (h : am_Wf K γ π) (x y z : Int32) : am_Wf K (fc_link γ x y z).1 π := by
  unfold fc_link
  repeat' split
  all_goals first | exact h | exact wf_sc (wf_sc h _ _ _) _ _ _
theorem wf_wo {K : am_K} {γ : am_I} {π : am_P} (h : am_Wf K γ π) (p : am_P) (r : Nat) : am_Wf K (fc_wo γ p r) π := by
  refine (h.it (fun u _ _ h => h.it (fun v _ _ h => (h.g (by decide)).g (by decide)))).it (fun w _ _ h => h.it (fun u _ _ h => h.it (fun v _ γ h => ?_)))
  unfold fc_st_v
  split
  · exact h.g (by decide)
  · exact h

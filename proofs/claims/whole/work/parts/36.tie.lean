theorem in_rd (k x : Nat) : am_rd am_u3 k x = 0 := in_u _ _ _
theorem in_T0 : am_T0 am_z1.2.1 am_z1.2.2 am_u3 := by
  refine ⟨?_, fun i hi => ?_, fun r hr => ⟨Or.inl ⟨(in_id r hr).2.1, in_rd _ _⟩, ?_, ?_, Or.inl ⟨in_h.2.1 r hr, in_rd _ _⟩, fun s hs => Or.inl ⟨in_h.2.2.1 r hr s hs, in_rd _ _, in_rd _ _, in_rd _ _⟩⟩, fun r hr n hn => ?_, fun r hr x hx => Or.inl ⟨in_h.1 r hr x hx, in_rd _ _⟩⟩
  · rw [in_c.1]; exact (in_u _ _ _).symm
  · rw [in_c.2 i hi, in_rd]
  · rw [(in_id r hr).2.2.1, in_rd]
  · rw [(in_id r hr).2.2.2, in_rd]
  · obtain ⟨e0, e1, e2, e5, e6, ex⟩ := in_e r hr n hn
    refine ⟨?_, ?_, ?_, ?_, fun _ => e1, fun q => ?_, fun q => ?_, fun x hx => Or.inl ⟨in_rd _ _, ex x hx⟩⟩
    · rw [e0, in_rd]
    · rw [e2, in_rd]
    · rw [e5, in_rd]
    · rw [e6, in_rd]
    · rw [e1, in_rd]
    · exact absurd (in_rd _ _) q
theorem in_BB : fr_BB am_u3 := fun x => ⟨Or.inl (in_rd _ _), Or.inl (in_rd _ _)⟩

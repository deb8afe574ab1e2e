section PRM
variable {M : pm_M}
theorem fg_out {l : List Int32} {p : Nat} {lo hi : Int32} (hlo : 0 ≤ lo) (h : ¬ p < l.length) : ¬ (¬ l.getD p 0 - 48 < lo ∧ ¬ hi < l.getD p 0 - 48) := fun z => by
  have e : l.getD p 0 = 0 := by rw [List.getD_eq_getElem?_getD, List.getElem?_eq_none (by omega)]; rfl
  rw [e] at z
  exact z.1 (Int32.lt_of_lt_of_le (by decide) hlo)
theorem fg_cs {l : List Int32} {p : Nat} {lo hi : Int32} (hlo : 0 ≤ lo) : (fg l p lo hi = none ∧ ¬ (¬ l.getD p 0 - 48 < lo ∧ ¬ hi < l.getD p 0 - 48)) ∨ (fg l p lo hi = some (l.getD p 0 - 48) ∧ p < l.length ∧ ¬ l.getD p 0 - 48 < lo ∧ ¬ hi < l.getD p 0 - 48) := by
  by_cases g : p < l.length
  · by_cases g1 : lo ≤ l.getD p 0 - 48 ∧ l.getD p 0 - 48 ≤ hi
    · exact Or.inr ⟨if_pos ⟨g, g1.1, g1.2⟩, g, Int32.not_lt.mpr g1.1, Int32.not_lt.mpr g1.2⟩
    · exact Or.inl ⟨if_neg (fun z => g1 z.2), fun z => g1 ⟨Int32.not_lt.mp z.1, Int32.not_lt.mp z.2⟩⟩
  · exact Or.inl ⟨if_neg (fun z => g z.1), fg_out hlo g⟩
end PRM

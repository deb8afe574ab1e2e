/-! BOTH OBJECTS ARE MADE: both hold the empty state -/
theorem lkR_mem : ∀ (R : List (Nat × Nat × Nat)) (k f v : Nat), lkR R k f = some v → (k, f, v) ∈ R
  | [], k, f, v, h => by cases h
  | q :: t, k, f, v, h => by
    have h : (if k = q.1 ∧ f = q.2.1 then some q.2.2 else lkR t k f) = some v := h
    by_cases z : k = q.1 ∧ f = q.2.1
    · rw [if_pos z] at h
      cases h
      rw [z.1, z.2]
      exact List.mem_cons_self
    · rw [if_neg z] at h
      exact List.mem_cons_of_mem _ (lkR_mem t k f v h)
theorem lku_mem {β : Type} : ∀ (l : List (Nat × β)) (k : Nat) (v : β), l.lookup k = some v → (k, v) ∈ l
  | [], k, v, h => by cases h
  | q :: t, k, v, h => by
    obtain ⟨a, b⟩ := q
    by_cases z : k = a
    · subst z
      rw [List.lookup_cons_self] at h
      cases h
      exact List.mem_cons_self
    · have e : (k == a) = false := by rw [beq_eq_false_iff_ne]; exact z
      rw [List.lookup_cons, e] at h
      exact List.mem_cons_of_mem _ (lku_mem t k v h)
theorem i_R0 : ∀ k f, lkR iR_X11b k f = pm_R0 k f := by
  have a1 : ∀ q ∈ iR_X11b, pm_R0 q.1 q.2.1 = some q.2.2 := by decide +kernel
  have a2 : ∀ p ∈ pm_R0L, ∀ q ∈ p.2, lkR iR_X11b p.1 q.1 = some q.2 := by decide +kernel
  intro k f
  cases e : lkR iR_X11b k f with
  | some v => exact (a1 _ (lkR_mem _ k f v e)).symm
  | none =>
    cases e2 : pm_R0 k f with
    | none => rfl
    | some v =>
      unfold pm_R0 at e2
      cases e3 : pm_R0L.lookup k with
      | none => rw [e3] at e2; cases e2
      | some l =>
        rw [e3] at e2
        have := a2 _ (lku_mem _ k l e3) _ (lku_mem l f v e2)
        rw [e] at this
        cases this
def cf0 : Cf := ((0, 0, 0), fun _ => 0, fun _ => 0, fun _ => 0, (0, fun _ => 0), (0, fun _ => 0, fun _ => 0, fun _ => 0))
def as0 : As := (fun _ => none, fun _ => none, cf0, [], fun _ => none, fun _ => 0, 0, 0, 0)
theorem aw0 : aw as0 := ⟨⟨Nat.zero_le 6, Nat.le_refl 0, Nat.zero_le 99, Nat.zero_le 6, Nat.zero_le 6, fun k hk => absurd hk (Nat.not_lt_zero k), fun i hi => absurd hi (Nat.not_lt_zero i)⟩, fun k hk => (by cases hk), Nat.zero_le 20, fun k l n _ h => (by cases h), fun t l _ h => (by cases h)⟩
section INJ
variable {M : pm_M}
theorem i_ok (h : In iT_X11b iR_X11b iZ_X11b M) : pm_ok M := ⟨h.1.trans (by decide +kernel), fun k f _ => (h.2.1 k f).trans (i_R0 k f)⟩
theorem i_IC (h : In iT_X11b iR_X11b iZ_X11b M) : IC as0 M := by
  have z := h.2.2.1
  refine ⟨i_ok h, fun j hj => ?_, fun j hj => ?_, ⟨⟨?_, ?_, ?_, ?_, ?_⟩, fun k hk => absurd hk (Nat.not_lt_zero k), fun k hk => absurd hk (Nat.not_lt_zero k), fun last hl => ?_, fun a b hk => absurd hk (Nat.not_lt_zero a), fun k hk => absurd hk (Nat.not_lt_zero k), fun k hk => absurd hk (Nat.not_lt_zero k)⟩, ⟨?_, Nat.zero_le 40, fun i hi => absurd hi (Nat.not_lt_zero i)⟩, fun k hk => ?_, ⟨?_, 0, Nat.zero_le 21, ?_, fun l _ _ hl => absurd hl (Nat.not_lt_zero l)⟩, fun f hf => ?_, ?_, ?_, h.2.2.2.1 0 19⟩
  · show gI M (106 + 2 * j) 1 = -1
    rw [z]; exact (by decide +kernel : ∀ j, j < 6 → lkI iZ_X11b (106 + 2 * j) 1 = -1) j hj
  · show gI M (118 + 2 * j) 1 = -1
    rw [z]; exact (by decide +kernel : ∀ j, j < 4 → lkI iZ_X11b (118 + 2 * j) 1 = -1) j hj
  · rw [z]; exact (by decide +kernel : lkI iZ_X11b 7 0 = nI 0)
  · rw [z]; exact (by decide +kernel : lkI iZ_X11b 7 1 = nI 0)
  · rw [z]; exact (by decide +kernel : lkI iZ_X11b 7 2 = nI 0)
  · rw [z]; exact (by decide +kernel : lkI iZ_X11b 7 3 = nI 0)
  · rw [z]; exact (by decide +kernel : lkI iZ_X11b 7 4 = nI 0)
  · rcases hl with hl | hl
    · exact absurd hl (Nat.not_lt_zero last)
    · subst hl
      refine ⟨?_, ?_, fun k hk => absurd hk (Nat.not_lt_zero k)⟩
      · rw [z]; exact (by decide +kernel : lkI iZ_X11b 14 6 = nI 0)
      · rw [z]; exact (by decide +kernel : lkI iZ_X11b 15 6 = nI 0)
  · rw [z]; exact (by decide +kernel : lkI iZ_X11b 3 1 = nI 0)
  · show gI M (126 + 2 * k) 1 = -1
    rw [z]; exact (by decide +kernel : ∀ j, j < 3 → lkI iZ_X11b (126 + 2 * j) 1 = -1) k hk
  · rw [z]; exact (by decide +kernel : lkI iZ_X11b 54 0 = 0)
  · rw [z]; exact (by decide +kernel : lkI iZ_X11b 25 2 = nI 0)
  · rw [z]; exact (by decide +kernel : ∀ j, j < 6 → lkI iZ_X11b 105 j = 0) f hf
  · rw [z]; exact (by decide +kernel : lkI iZ_X11b 0 17 = 0)
  · rw [z]; exact (by decide +kernel : lkI iZ_X11b 0 18 = 0)
theorem i_IM (h : In iT_X11b iR_X11b iZ_X11b M) : IM as0 M := by
  have z := h.2.2.1
  refine ⟨i_ok h, fun j hj => ?_, fun j hj => ?_, ⟨⟨?_, ?_, ?_, ?_, ?_⟩, fun k hk => absurd hk (Nat.not_lt_zero k), fun k hk => absurd hk (Nat.not_lt_zero k)⟩, ⟨?_, fun i hi => absurd hi (Nat.not_lt_zero i)⟩, fun k hk => Or.inl ?_, fun f hf => ?_, ?_, ?_, h.2.2.2.1 132 3⟩
  · show gI M 134 j = -1
    rw [z]; exact (by decide +kernel : ∀ j, j < 6 → lkI iZ_X11b 134 j = -1) j hj
  · show gI M 137 j = -1
    rw [z]; exact (by decide +kernel : ∀ j, j < 4 → lkI iZ_X11b 137 j = -1) j hj
  · rw [z]; exact (by decide +kernel : lkI iZ_X11b 132 9 = nI 0)
  · rw [z]; exact (by decide +kernel : lkI iZ_X11b 132 10 = nI 0)
  · rw [z]; exact (by decide +kernel : lkI iZ_X11b 132 11 = nI 0)
  · rw [z]; exact (by decide +kernel : lkI iZ_X11b 132 15 = nI 0)
  · rw [z]; exact (by decide +kernel : lkI iZ_X11b 132 17 = nI 0)
  · rw [z]; exact (by decide +kernel : lkI iZ_X11b 132 33 = nI 0)
  · rw [z]; exact (by decide +kernel : ∀ j, j < 3 → lkI iZ_X11b 153 j = 0) k hk
  · rw [z]; exact (by decide +kernel : ∀ j, j < 6 → lkI iZ_X11b 133 j = 0) f hf
  · rw [z]; exact (by decide +kernel : lkI iZ_X11b 132 0 = 0)
  · rw [z]; exact (by decide +kernel : lkI iZ_X11b 132 2 = 0)
end INJ

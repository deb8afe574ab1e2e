/-! each method by a goal with any end -/
theorem eq_0 {d : Nat} {A : List Value} {M : pm_M} {Q : Option Value → pm_M → Prop} (ha : (pm_in0 A).length ≤ 3) (h : pm_WP (pm_call d) tb_0 Q 0 (pm_init 3 A) [] M) : ∃ r M', pm_call (d + 1) 0 A M r M' ∧ Q r M' := by
  obtain ⟨r, M1, hq, hw⟩ := wp_ex ms_0 xs_0 h
  exact ⟨r, M1, en_0 ha hw, hq⟩
theorem eq_1 {d : Nat} {A : List Value} {M : pm_M} {Q : Option Value → pm_M → Prop} (ha : (pm_in0 A).length ≤ 3) (h : pm_WP (pm_call d) tb_1 Q 0 (pm_init 3 A) [] M) : ∃ r M', pm_call (d + 1) 1 A M r M' ∧ Q r M' := by
  obtain ⟨r, M1, hq, hw⟩ := wp_ex ms_1 xs_1 h
  exact ⟨r, M1, en_1 ha hw, hq⟩
theorem eq_2 {d : Nat} {A : List Value} {M : pm_M} {Q : Option Value → pm_M → Prop} (ha : (pm_in0 A).length ≤ 8) (h : pm_WP (pm_call d) tb_2 Q 0 (pm_init 8 A) [] M) : ∃ r M', pm_call (d + 1) 2 A M r M' ∧ Q r M' := by
  obtain ⟨r, M1, hq, hw⟩ := wp_ex ms_2 xs_2 h
  exact ⟨r, M1, en_2 ha hw, hq⟩
theorem eq_3 {d : Nat} {A : List Value} {M : pm_M} {Q : Option Value → pm_M → Prop} (ha : (pm_in0 A).length ≤ 1) (h : pm_WP (pm_call d) tb_3 Q 0 (pm_init 1 A) [] M) : ∃ r M', pm_call (d + 1) 3 A M r M' ∧ Q r M' := by
  obtain ⟨r, M1, hq, hw⟩ := wp_ex ms_3 xs_3 h
  exact ⟨r, M1, en_3 ha hw, hq⟩
theorem eq_4 {d : Nat} {A : List Value} {M : pm_M} {Q : Option Value → pm_M → Prop} (ha : (pm_in0 A).length ≤ 1) (h : pm_WP (pm_call d) tb_4 Q 0 (pm_init 1 A) [] M) : ∃ r M', pm_call (d + 1) 4 A M r M' ∧ Q r M' := by
  obtain ⟨r, M1, hq, hw⟩ := wp_ex ms_4 xs_4 h
  exact ⟨r, M1, en_4 ha hw, hq⟩
theorem eq_5 {d : Nat} {A : List Value} {M : pm_M} {Q : Option Value → pm_M → Prop} (ha : (pm_in0 A).length ≤ 3) (h : pm_WP (pm_call d) tb_5 Q 0 (pm_init 3 A) [] M) : ∃ r M', pm_call (d + 1) 5 A M r M' ∧ Q r M' := by
  obtain ⟨r, M1, hq, hw⟩ := wp_ex ms_5 xs_5 h
  exact ⟨r, M1, en_5 ha hw, hq⟩
theorem eq_6 {d : Nat} {A : List Value} {M : pm_M} {Q : Option Value → pm_M → Prop} (ha : (pm_in0 A).length ≤ 4) (h : pm_WP (pm_call d) tb_6 Q 0 (pm_init 4 A) [] M) : ∃ r M', pm_call (d + 1) 6 A M r M' ∧ Q r M' := by
  obtain ⟨r, M1, hq, hw⟩ := wp_ex ms_6 xs_6 h
  exact ⟨r, M1, en_6 ha hw, hq⟩
theorem eq_7 {d : Nat} {A : List Value} {M : pm_M} {Q : Option Value → pm_M → Prop} (ha : (pm_in0 A).length ≤ 4) (h : pm_WP (pm_call d) tb_7 Q 0 (pm_init 4 A) [] M) : ∃ r M', pm_call (d + 1) 7 A M r M' ∧ Q r M' := by
  obtain ⟨r, M1, hq, hw⟩ := wp_ex ms_7 xs_7 h
  exact ⟨r, M1, en_7 ha hw, hq⟩
theorem eq_8 {d : Nat} {A : List Value} {M : pm_M} {Q : Option Value → pm_M → Prop} (ha : (pm_in0 A).length ≤ 5) (h : pm_WP (pm_call d) tb_8 Q 0 (pm_init 5 A) [] M) : ∃ r M', pm_call (d + 1) 8 A M r M' ∧ Q r M' := by
  obtain ⟨r, M1, hq, hw⟩ := wp_ex ms_8 xs_8 h
  exact ⟨r, M1, en_8 ha hw, hq⟩
theorem eq_9 {d : Nat} {A : List Value} {M : pm_M} {Q : Option Value → pm_M → Prop} (ha : (pm_in0 A).length ≤ 2) (h : pm_WP (pm_call d) tb_9 Q 0 (pm_init 2 A) [] M) : ∃ r M', pm_call (d + 1) 9 A M r M' ∧ Q r M' := by
  obtain ⟨r, M1, hq, hw⟩ := wp_ex ms_9 xs_9 h
  exact ⟨r, M1, en_9 ha hw, hq⟩
theorem eq_10 {d : Nat} {A : List Value} {M : pm_M} {Q : Option Value → pm_M → Prop} (ha : (pm_in0 A).length ≤ 4) (h : pm_WP (pm_call d) tb_10 Q 0 (pm_init 4 A) [] M) : ∃ r M', pm_call (d + 1) 10 A M r M' ∧ Q r M' := by
  obtain ⟨r, M1, hq, hw⟩ := wp_ex ms_10 xs_10 h
  exact ⟨r, M1, en_10 ha hw, hq⟩
theorem eq_11 {d : Nat} {A : List Value} {M : pm_M} {Q : Option Value → pm_M → Prop} (ha : (pm_in0 A).length ≤ 2) (h : pm_WP (pm_call d) tb_11 Q 0 (pm_init 2 A) [] M) : ∃ r M', pm_call (d + 1) 11 A M r M' ∧ Q r M' := by
  obtain ⟨r, M1, hq, hw⟩ := wp_ex ms_11 xs_11 h
  exact ⟨r, M1, en_11 ha hw, hq⟩
theorem eq_12 {d : Nat} {A : List Value} {M : pm_M} {Q : Option Value → pm_M → Prop} (ha : (pm_in0 A).length ≤ 4) (h : pm_WP (pm_call d) tb_12 Q 0 (pm_init 4 A) [] M) : ∃ r M', pm_call (d + 1) 12 A M r M' ∧ Q r M' := by
  obtain ⟨r, M1, hq, hw⟩ := wp_ex ms_12 xs_12 h
  exact ⟨r, M1, en_12 ha hw, hq⟩
theorem eq_13 {d : Nat} {A : List Value} {M : pm_M} {Q : Option Value → pm_M → Prop} (ha : (pm_in0 A).length ≤ 2) (h : pm_WP (pm_call d) tb_13 Q 0 (pm_init 2 A) [] M) : ∃ r M', pm_call (d + 1) 13 A M r M' ∧ Q r M' := by
  obtain ⟨r, M1, hq, hw⟩ := wp_ex ms_13 xs_13 h
  exact ⟨r, M1, en_13 ha hw, hq⟩
theorem eq_14 {d : Nat} {A : List Value} {M : pm_M} {Q : Option Value → pm_M → Prop} (ha : (pm_in0 A).length ≤ 3) (h : pm_WP (pm_call d) tb_14 Q 0 (pm_init 3 A) [] M) : ∃ r M', pm_call (d + 1) 14 A M r M' ∧ Q r M' := by
  obtain ⟨r, M1, hq, hw⟩ := wp_ex ms_14 xs_14 h
  exact ⟨r, M1, en_14 ha hw, hq⟩
theorem eq_15 {d : Nat} {A : List Value} {M : pm_M} {Q : Option Value → pm_M → Prop} (ha : (pm_in0 A).length ≤ 3) (h : pm_WP (pm_call d) tb_15 Q 0 (pm_init 3 A) [] M) : ∃ r M', pm_call (d + 1) 15 A M r M' ∧ Q r M' := by
  obtain ⟨r, M1, hq, hw⟩ := wp_ex ms_15 xs_15 h
  exact ⟨r, M1, en_15 ha hw, hq⟩
theorem eq_16 {d : Nat} {A : List Value} {M : pm_M} {Q : Option Value → pm_M → Prop} (ha : (pm_in0 A).length ≤ 3) (h : pm_WP (pm_call d) tb_16 Q 0 (pm_init 3 A) [] M) : ∃ r M', pm_call (d + 1) 16 A M r M' ∧ Q r M' := by
  obtain ⟨r, M1, hq, hw⟩ := wp_ex ms_16 xs_16 h
  exact ⟨r, M1, en_16 ha hw, hq⟩
theorem eq_17 {d : Nat} {A : List Value} {M : pm_M} {Q : Option Value → pm_M → Prop} (ha : (pm_in0 A).length ≤ 4) (h : pm_WP (pm_call d) tb_17 Q 0 (pm_init 4 A) [] M) : ∃ r M', pm_call (d + 1) 17 A M r M' ∧ Q r M' := by
  obtain ⟨r, M1, hq, hw⟩ := wp_ex ms_17 xs_17 h
  exact ⟨r, M1, en_17 ha hw, hq⟩
theorem eq_18 {d : Nat} {A : List Value} {M : pm_M} {Q : Option Value → pm_M → Prop} (ha : (pm_in0 A).length ≤ 3) (h : pm_WP (pm_call d) tb_18 Q 0 (pm_init 3 A) [] M) : ∃ r M', pm_call (d + 1) 18 A M r M' ∧ Q r M' := by
  obtain ⟨r, M1, hq, hw⟩ := wp_ex ms_18 xs_18 h
  exact ⟨r, M1, en_18 ha hw, hq⟩
theorem eq_19 {d : Nat} {A : List Value} {M : pm_M} {Q : Option Value → pm_M → Prop} (ha : (pm_in0 A).length ≤ 1) (h : pm_WP (pm_call d) tb_19 Q 0 (pm_init 1 A) [] M) : ∃ r M', pm_call (d + 1) 19 A M r M' ∧ Q r M' := by
  obtain ⟨r, M1, hq, hw⟩ := wp_ex ms_19 xs_19 h
  exact ⟨r, M1, en_19 ha hw, hq⟩
theorem eq_20 {d : Nat} {A : List Value} {M : pm_M} {Q : Option Value → pm_M → Prop} (ha : (pm_in0 A).length ≤ 5) (h : pm_WP (pm_call d) tb_20 Q 0 (pm_init 5 A) [] M) : ∃ r M', pm_call (d + 1) 20 A M r M' ∧ Q r M' := by
  obtain ⟨r, M1, hq, hw⟩ := wp_ex ms_20 xs_20 h
  exact ⟨r, M1, en_20 ha hw, hq⟩
theorem eq_21 {d : Nat} {A : List Value} {M : pm_M} {Q : Option Value → pm_M → Prop} (ha : (pm_in0 A).length ≤ 2) (h : pm_WP (pm_call d) tb_21 Q 0 (pm_init 2 A) [] M) : ∃ r M', pm_call (d + 1) 21 A M r M' ∧ Q r M' := by
  obtain ⟨r, M1, hq, hw⟩ := wp_ex ms_21 xs_21 h
  exact ⟨r, M1, en_21 ha hw, hq⟩
theorem eq_22 {d : Nat} {A : List Value} {M : pm_M} {Q : Option Value → pm_M → Prop} (ha : (pm_in0 A).length ≤ 3) (h : pm_WP (pm_call d) tb_22 Q 0 (pm_init 3 A) [] M) : ∃ r M', pm_call (d + 1) 22 A M r M' ∧ Q r M' := by
  obtain ⟨r, M1, hq, hw⟩ := wp_ex ms_22 xs_22 h
  exact ⟨r, M1, en_22 ha hw, hq⟩
theorem eq_23 {d : Nat} {A : List Value} {M : pm_M} {Q : Option Value → pm_M → Prop} (ha : (pm_in0 A).length ≤ 7) (h : pm_WP (pm_call d) tb_23 Q 0 (pm_init 7 A) [] M) : ∃ r M', pm_call (d + 1) 23 A M r M' ∧ Q r M' := by
  obtain ⟨r, M1, hq, hw⟩ := wp_ex ms_23 xs_23 h
  exact ⟨r, M1, en_23 ha hw, hq⟩
theorem eq_24 {d : Nat} {A : List Value} {M : pm_M} {Q : Option Value → pm_M → Prop} (ha : (pm_in0 A).length ≤ 5) (h : pm_WP (pm_call d) tb_24 Q 0 (pm_init 5 A) [] M) : ∃ r M', pm_call (d + 1) 24 A M r M' ∧ Q r M' := by
  obtain ⟨r, M1, hq, hw⟩ := wp_ex ms_24 xs_24 h
  exact ⟨r, M1, en_24 ha hw, hq⟩
theorem eq_25 {d : Nat} {A : List Value} {M : pm_M} {Q : Option Value → pm_M → Prop} (ha : (pm_in0 A).length ≤ 1) (h : pm_WP (pm_call d) tb_25 Q 0 (pm_init 1 A) [] M) : ∃ r M', pm_call (d + 1) 25 A M r M' ∧ Q r M' := by
  obtain ⟨r, M1, hq, hw⟩ := wp_ex ms_25 xs_25 h
  exact ⟨r, M1, en_25 ha hw, hq⟩
theorem eq_26 {d : Nat} {A : List Value} {M : pm_M} {Q : Option Value → pm_M → Prop} (ha : (pm_in0 A).length ≤ 3) (h : pm_WP (pm_call d) tb_26 Q 0 (pm_init 3 A) [] M) : ∃ r M', pm_call (d + 1) 26 A M r M' ∧ Q r M' := by
  obtain ⟨r, M1, hq, hw⟩ := wp_ex ms_26 xs_26 h
  exact ⟨r, M1, en_26 ha hw, hq⟩
theorem eq_27 {d : Nat} {A : List Value} {M : pm_M} {Q : Option Value → pm_M → Prop} (ha : (pm_in0 A).length ≤ 3) (h : pm_WP (pm_call d) tb_27 Q 0 (pm_init 3 A) [] M) : ∃ r M', pm_call (d + 1) 27 A M r M' ∧ Q r M' := by
  obtain ⟨r, M1, hq, hw⟩ := wp_ex ms_27 xs_27 h
  exact ⟨r, M1, en_27 ha hw, hq⟩
theorem eq_28 {d : Nat} {A : List Value} {M : pm_M} {Q : Option Value → pm_M → Prop} (ha : (pm_in0 A).length ≤ 3) (h : pm_WP (pm_call d) tb_28 Q 0 (pm_init 3 A) [] M) : ∃ r M', pm_call (d + 1) 28 A M r M' ∧ Q r M' := by
  obtain ⟨r, M1, hq, hw⟩ := wp_ex ms_28 xs_28 h
  exact ⟨r, M1, en_28 ha hw, hq⟩
theorem eq_29 {d : Nat} {A : List Value} {M : pm_M} {Q : Option Value → pm_M → Prop} (ha : (pm_in0 A).length ≤ 7) (h : pm_WP (pm_call d) tb_29 Q 0 (pm_init 7 A) [] M) : ∃ r M', pm_call (d + 1) 29 A M r M' ∧ Q r M' := by
  obtain ⟨r, M1, hq, hw⟩ := wp_ex ms_29 xs_29 h
  exact ⟨r, M1, en_29 ha hw, hq⟩
theorem eq_30 {d : Nat} {A : List Value} {M : pm_M} {Q : Option Value → pm_M → Prop} (ha : (pm_in0 A).length ≤ 4) (h : pm_WP (pm_call d) tb_30 Q 0 (pm_init 4 A) [] M) : ∃ r M', pm_call (d + 1) 30 A M r M' ∧ Q r M' := by
  obtain ⟨r, M1, hq, hw⟩ := wp_ex ms_30 xs_30 h
  exact ⟨r, M1, en_30 ha hw, hq⟩
theorem eq_31 {d : Nat} {A : List Value} {M : pm_M} {Q : Option Value → pm_M → Prop} (ha : (pm_in0 A).length ≤ 5) (h : pm_WP (pm_call d) tb_31 Q 0 (pm_init 5 A) [] M) : ∃ r M', pm_call (d + 1) 31 A M r M' ∧ Q r M' := by
  obtain ⟨r, M1, hq, hw⟩ := wp_ex ms_31 xs_31 h
  exact ⟨r, M1, en_31 ha hw, hq⟩
theorem eq_32 {d : Nat} {A : List Value} {M : pm_M} {Q : Option Value → pm_M → Prop} (ha : (pm_in0 A).length ≤ 4) (h : pm_WP (pm_call d) tb_32 Q 0 (pm_init 4 A) [] M) : ∃ r M', pm_call (d + 1) 32 A M r M' ∧ Q r M' := by
  obtain ⟨r, M1, hq, hw⟩ := wp_ex ms_32 xs_32 h
  exact ⟨r, M1, en_32 ha hw, hq⟩
theorem eq_33 {d : Nat} {A : List Value} {M : pm_M} {Q : Option Value → pm_M → Prop} (ha : (pm_in0 A).length ≤ 5) (h : pm_WP (pm_call d) tb_33 Q 0 (pm_init 5 A) [] M) : ∃ r M', pm_call (d + 1) 33 A M r M' ∧ Q r M' := by
  obtain ⟨r, M1, hq, hw⟩ := wp_ex ms_33 xs_33 h
  exact ⟨r, M1, en_33 ha hw, hq⟩
theorem eq_34 {d : Nat} {A : List Value} {M : pm_M} {Q : Option Value → pm_M → Prop} (ha : (pm_in0 A).length ≤ 1) (h : pm_WP (pm_call d) tb_34 Q 0 (pm_init 1 A) [] M) : ∃ r M', pm_call (d + 1) 34 A M r M' ∧ Q r M' := by
  obtain ⟨r, M1, hq, hw⟩ := wp_ex ms_34 xs_34 h
  exact ⟨r, M1, en_34 ha hw, hq⟩
theorem eq_35 {d : Nat} {A : List Value} {M : pm_M} {Q : Option Value → pm_M → Prop} (ha : (pm_in0 A).length ≤ 2) (h : pm_WP (pm_call d) tb_35 Q 0 (pm_init 2 A) [] M) : ∃ r M', pm_call (d + 1) 35 A M r M' ∧ Q r M' := by
  obtain ⟨r, M1, hq, hw⟩ := wp_ex ms_35 xs_35 h
  exact ⟨r, M1, en_35 ha hw, hq⟩
theorem eq_36 {d : Nat} {A : List Value} {M : pm_M} {Q : Option Value → pm_M → Prop} (ha : (pm_in0 A).length ≤ 1) (h : pm_WP (pm_call d) tb_36 Q 0 (pm_init 1 A) [] M) : ∃ r M', pm_call (d + 1) 36 A M r M' ∧ Q r M' := by
  obtain ⟨r, M1, hq, hw⟩ := wp_ex ms_36 xs_36 h
  exact ⟨r, M1, en_36 ha hw, hq⟩
theorem eq_37 {d : Nat} {A : List Value} {M : pm_M} {Q : Option Value → pm_M → Prop} (ha : (pm_in0 A).length ≤ 5) (h : pm_WP (pm_call d) tb_37 Q 0 (pm_init 5 A) [] M) : ∃ r M', pm_call (d + 1) 37 A M r M' ∧ Q r M' := by
  obtain ⟨r, M1, hq, hw⟩ := wp_ex ms_37 xs_37 h
  exact ⟨r, M1, en_37 ha hw, hq⟩
theorem eq_38 {d : Nat} {A : List Value} {M : pm_M} {Q : Option Value → pm_M → Prop} (ha : (pm_in0 A).length ≤ 4) (h : pm_WP (pm_call d) tb_38 Q 0 (pm_init 4 A) [] M) : ∃ r M', pm_call (d + 1) 38 A M r M' ∧ Q r M' := by
  obtain ⟨r, M1, hq, hw⟩ := wp_ex ms_38 xs_38 h
  exact ⟨r, M1, en_38 ha hw, hq⟩
theorem eq_39 {d : Nat} {A : List Value} {M : pm_M} {Q : Option Value → pm_M → Prop} (ha : (pm_in0 A).length ≤ 7) (h : pm_WP (pm_call d) tb_39 Q 0 (pm_init 7 A) [] M) : ∃ r M', pm_call (d + 1) 39 A M r M' ∧ Q r M' := by
  obtain ⟨r, M1, hq, hw⟩ := wp_ex ms_39 xs_39 h
  exact ⟨r, M1, en_39 ha hw, hq⟩
theorem eq_40 {d : Nat} {A : List Value} {M : pm_M} {Q : Option Value → pm_M → Prop} (ha : (pm_in0 A).length ≤ 2) (h : pm_WP (pm_call d) tb_40 Q 0 (pm_init 2 A) [] M) : ∃ r M', pm_call (d + 1) 40 A M r M' ∧ Q r M' := by
  obtain ⟨r, M1, hq, hw⟩ := wp_ex ms_40 xs_40 h
  exact ⟨r, M1, en_40 ha hw, hq⟩
theorem eq_41 {d : Nat} {A : List Value} {M : pm_M} {Q : Option Value → pm_M → Prop} (ha : (pm_in0 A).length ≤ 1) (h : pm_WP (pm_call d) tb_41 Q 0 (pm_init 1 A) [] M) : ∃ r M', pm_call (d + 1) 41 A M r M' ∧ Q r M' := by
  obtain ⟨r, M1, hq, hw⟩ := wp_ex ms_41 xs_41 h
  exact ⟨r, M1, en_41 ha hw, hq⟩
theorem eq_42 {d : Nat} {A : List Value} {M : pm_M} {Q : Option Value → pm_M → Prop} (ha : (pm_in0 A).length ≤ 3) (h : pm_WP (pm_call d) tb_42 Q 0 (pm_init 3 A) [] M) : ∃ r M', pm_call (d + 1) 42 A M r M' ∧ Q r M' := by
  obtain ⟨r, M1, hq, hw⟩ := wp_ex ms_42 xs_42 h
  exact ⟨r, M1, en_42 ha hw, hq⟩
theorem eq_43 {d : Nat} {A : List Value} {M : pm_M} {Q : Option Value → pm_M → Prop} (ha : (pm_in0 A).length ≤ 2) (h : pm_WP (pm_call d) tb_43 Q 0 (pm_init 2 A) [] M) : ∃ r M', pm_call (d + 1) 43 A M r M' ∧ Q r M' := by
  obtain ⟨r, M1, hq, hw⟩ := wp_ex ms_43 xs_43 h
  exact ⟨r, M1, en_43 ha hw, hq⟩
theorem eq_44 {d : Nat} {A : List Value} {M : pm_M} {Q : Option Value → pm_M → Prop} (ha : (pm_in0 A).length ≤ 1) (h : pm_WP (pm_call d) tb_44 Q 0 (pm_init 1 A) [] M) : ∃ r M', pm_call (d + 1) 44 A M r M' ∧ Q r M' := by
  obtain ⟨r, M1, hq, hw⟩ := wp_ex ms_44 xs_44 h
  exact ⟨r, M1, en_44 ha hw, hq⟩
theorem eq_45 {d : Nat} {A : List Value} {M : pm_M} {Q : Option Value → pm_M → Prop} (ha : (pm_in0 A).length ≤ 1) (h : pm_WP (pm_call d) tb_45 Q 0 (pm_init 1 A) [] M) : ∃ r M', pm_call (d + 1) 45 A M r M' ∧ Q r M' := by
  obtain ⟨r, M1, hq, hw⟩ := wp_ex ms_45 xs_45 h
  exact ⟨r, M1, en_45 ha hw, hq⟩
theorem eq_46 {d : Nat} {A : List Value} {M : pm_M} {Q : Option Value → pm_M → Prop} (ha : (pm_in0 A).length ≤ 2) (h : pm_WP (pm_call d) tb_46 Q 0 (pm_init 2 A) [] M) : ∃ r M', pm_call (d + 1) 46 A M r M' ∧ Q r M' := by
  obtain ⟨r, M1, hq, hw⟩ := wp_ex ms_46 xs_46 h
  exact ⟨r, M1, en_46 ha hw, hq⟩
theorem eq_47 {d : Nat} {A : List Value} {M : pm_M} {Q : Option Value → pm_M → Prop} (ha : (pm_in0 A).length ≤ 2) (h : pm_WP (pm_call d) tb_47 Q 0 (pm_init 2 A) [] M) : ∃ r M', pm_call (d + 1) 47 A M r M' ∧ Q r M' := by
  obtain ⟨r, M1, hq, hw⟩ := wp_ex ms_47 xs_47 h
  exact ⟨r, M1, en_47 ha hw, hq⟩
theorem eq_48 {d : Nat} {A : List Value} {M : pm_M} {Q : Option Value → pm_M → Prop} (ha : (pm_in0 A).length ≤ 4) (h : pm_WP (pm_call d) tb_48 Q 0 (pm_init 4 A) [] M) : ∃ r M', pm_call (d + 1) 48 A M r M' ∧ Q r M' := by
  obtain ⟨r, M1, hq, hw⟩ := wp_ex ms_48 xs_48 h
  exact ⟨r, M1, en_48 ha hw, hq⟩
theorem eq_49 {d : Nat} {A : List Value} {M : pm_M} {Q : Option Value → pm_M → Prop} (ha : (pm_in0 A).length ≤ 5) (h : pm_WP (pm_call d) tb_49 Q 0 (pm_init 5 A) [] M) : ∃ r M', pm_call (d + 1) 49 A M r M' ∧ Q r M' := by
  obtain ⟨r, M1, hq, hw⟩ := wp_ex ms_49 xs_49 h
  exact ⟨r, M1, en_49 ha hw, hq⟩
theorem eq_50 {d : Nat} {A : List Value} {M : pm_M} {Q : Option Value → pm_M → Prop} (ha : (pm_in0 A).length ≤ 4) (h : pm_WP (pm_call d) tb_50 Q 0 (pm_init 4 A) [] M) : ∃ r M', pm_call (d + 1) 50 A M r M' ∧ Q r M' := by
  obtain ⟨r, M1, hq, hw⟩ := wp_ex ms_50 xs_50 h
  exact ⟨r, M1, en_50 ha hw, hq⟩
theorem eq_51 {d : Nat} {A : List Value} {M : pm_M} {Q : Option Value → pm_M → Prop} (ha : (pm_in0 A).length ≤ 3) (h : pm_WP (pm_call d) tb_51 Q 0 (pm_init 3 A) [] M) : ∃ r M', pm_call (d + 1) 51 A M r M' ∧ Q r M' := by
  obtain ⟨r, M1, hq, hw⟩ := wp_ex ms_51 xs_51 h
  exact ⟨r, M1, en_51 ha hw, hq⟩
theorem eq_52 {d : Nat} {A : List Value} {M : pm_M} {Q : Option Value → pm_M → Prop} (ha : (pm_in0 A).length ≤ 3) (h : pm_WP (pm_call d) tb_52 Q 0 (pm_init 3 A) [] M) : ∃ r M', pm_call (d + 1) 52 A M r M' ∧ Q r M' := by
  obtain ⟨r, M1, hq, hw⟩ := wp_ex ms_52 xs_52 h
  exact ⟨r, M1, en_52 ha hw, hq⟩
theorem eq_53 {d : Nat} {A : List Value} {M : pm_M} {Q : Option Value → pm_M → Prop} (ha : (pm_in0 A).length ≤ 3) (h : pm_WP (pm_call d) tb_53 Q 0 (pm_init 3 A) [] M) : ∃ r M', pm_call (d + 1) 53 A M r M' ∧ Q r M' := by
  obtain ⟨r, M1, hq, hw⟩ := wp_ex ms_53 xs_53 h
  exact ⟨r, M1, en_53 ha hw, hq⟩
theorem eq_54 {d : Nat} {A : List Value} {M : pm_M} {Q : Option Value → pm_M → Prop} (ha : (pm_in0 A).length ≤ 3) (h : pm_WP (pm_call d) tb_54 Q 0 (pm_init 3 A) [] M) : ∃ r M', pm_call (d + 1) 54 A M r M' ∧ Q r M' := by
  obtain ⟨r, M1, hq, hw⟩ := wp_ex ms_54 xs_54 h
  exact ⟨r, M1, en_54 ha hw, hq⟩
theorem eq_55 {d : Nat} {A : List Value} {M : pm_M} {Q : Option Value → pm_M → Prop} (ha : (pm_in0 A).length ≤ 4) (h : pm_WP (pm_call d) tb_55 Q 0 (pm_init 4 A) [] M) : ∃ r M', pm_call (d + 1) 55 A M r M' ∧ Q r M' := by
  obtain ⟨r, M1, hq, hw⟩ := wp_ex ms_55 xs_55 h
  exact ⟨r, M1, en_55 ha hw, hq⟩
theorem eq_56 {d : Nat} {A : List Value} {M : pm_M} {Q : Option Value → pm_M → Prop} (ha : (pm_in0 A).length ≤ 3) (h : pm_WP (pm_call d) tb_56 Q 0 (pm_init 3 A) [] M) : ∃ r M', pm_call (d + 1) 56 A M r M' ∧ Q r M' := by
  obtain ⟨r, M1, hq, hw⟩ := wp_ex ms_56 xs_56 h
  exact ⟨r, M1, en_56 ha hw, hq⟩
theorem eq_57 {d : Nat} {A : List Value} {M : pm_M} {Q : Option Value → pm_M → Prop} (ha : (pm_in0 A).length ≤ 4) (h : pm_WP (pm_call d) tb_57 Q 0 (pm_init 4 A) [] M) : ∃ r M', pm_call (d + 1) 57 A M r M' ∧ Q r M' := by
  obtain ⟨r, M1, hq, hw⟩ := wp_ex ms_57 xs_57 h
  exact ⟨r, M1, en_57 ha hw, hq⟩
theorem eq_58 {d : Nat} {A : List Value} {M : pm_M} {Q : Option Value → pm_M → Prop} (ha : (pm_in0 A).length ≤ 2) (h : pm_WP (pm_call d) tb_58 Q 0 (pm_init 2 A) [] M) : ∃ r M', pm_call (d + 1) 58 A M r M' ∧ Q r M' := by
  obtain ⟨r, M1, hq, hw⟩ := wp_ex ms_58 xs_58 h
  exact ⟨r, M1, en_58 ha hw, hq⟩
theorem eq_59 {d : Nat} {A : List Value} {M : pm_M} {Q : Option Value → pm_M → Prop} (ha : (pm_in0 A).length ≤ 7) (h : pm_WP (pm_call d) tb_59 Q 0 (pm_init 7 A) [] M) : ∃ r M', pm_call (d + 1) 59 A M r M' ∧ Q r M' := by
  obtain ⟨r, M1, hq, hw⟩ := wp_ex ms_59 xs_59 h
  exact ⟨r, M1, en_59 ha hw, hq⟩
theorem eq_60 {d : Nat} {A : List Value} {M : pm_M} {Q : Option Value → pm_M → Prop} (ha : (pm_in0 A).length ≤ 4) (h : pm_WP (pm_call d) tb_60 Q 0 (pm_init 4 A) [] M) : ∃ r M', pm_call (d + 1) 60 A M r M' ∧ Q r M' := by
  obtain ⟨r, M1, hq, hw⟩ := wp_ex ms_60 xs_60 h
  exact ⟨r, M1, en_60 ha hw, hq⟩
theorem eq_61 {d : Nat} {A : List Value} {M : pm_M} {Q : Option Value → pm_M → Prop} (ha : (pm_in0 A).length ≤ 1) (h : pm_WP (pm_call d) tb_61 Q 0 (pm_init 1 A) [] M) : ∃ r M', pm_call (d + 1) 61 A M r M' ∧ Q r M' := by
  obtain ⟨r, M1, hq, hw⟩ := wp_ex ms_61 xs_61 h
  exact ⟨r, M1, en_61 ha hw, hq⟩
theorem eq_62 {d : Nat} {A : List Value} {M : pm_M} {Q : Option Value → pm_M → Prop} (ha : (pm_in0 A).length ≤ 2) (h : pm_WP (pm_call d) tb_62 Q 0 (pm_init 2 A) [] M) : ∃ r M', pm_call (d + 1) 62 A M r M' ∧ Q r M' := by
  obtain ⟨r, M1, hq, hw⟩ := wp_ex ms_62 xs_62 h
  exact ⟨r, M1, en_62 ha hw, hq⟩
theorem eq_63 {d : Nat} {A : List Value} {M : pm_M} {Q : Option Value → pm_M → Prop} (ha : (pm_in0 A).length ≤ 5) (h : pm_WP (pm_call d) tb_63 Q 0 (pm_init 5 A) [] M) : ∃ r M', pm_call (d + 1) 63 A M r M' ∧ Q r M' := by
  obtain ⟨r, M1, hq, hw⟩ := wp_ex ms_63 xs_63 h
  exact ⟨r, M1, en_63 ha hw, hq⟩
theorem eq_64 {d : Nat} {A : List Value} {M : pm_M} {Q : Option Value → pm_M → Prop} (ha : (pm_in0 A).length ≤ 8) (h : pm_WP (pm_call d) tb_64 Q 0 (pm_init 8 A) [] M) : ∃ r M', pm_call (d + 1) 64 A M r M' ∧ Q r M' := by
  obtain ⟨r, M1, hq, hw⟩ := wp_ex ms_64 xs_64 h
  exact ⟨r, M1, en_64 ha hw, hq⟩
theorem eq_65 {d : Nat} {A : List Value} {M : pm_M} {Q : Option Value → pm_M → Prop} (ha : (pm_in0 A).length ≤ 6) (h : pm_WP (pm_call d) tb_65 Q 0 (pm_init 6 A) [] M) : ∃ r M', pm_call (d + 1) 65 A M r M' ∧ Q r M' := by
  obtain ⟨r, M1, hq, hw⟩ := wp_ex ms_65 xs_65 h
  exact ⟨r, M1, en_65 ha hw, hq⟩
theorem eq_66 {d : Nat} {A : List Value} {M : pm_M} {Q : Option Value → pm_M → Prop} (ha : (pm_in0 A).length ≤ 7) (h : pm_WP (pm_call d) tb_66 Q 0 (pm_init 7 A) [] M) : ∃ r M', pm_call (d + 1) 66 A M r M' ∧ Q r M' := by
  obtain ⟨r, M1, hq, hw⟩ := wp_ex ms_66 xs_66 h
  exact ⟨r, M1, en_66 ha hw, hq⟩
theorem eq_67 {d : Nat} {A : List Value} {M : pm_M} {Q : Option Value → pm_M → Prop} (ha : (pm_in0 A).length ≤ 5) (h : pm_WP (pm_call d) tb_67 Q 0 (pm_init 5 A) [] M) : ∃ r M', pm_call (d + 1) 67 A M r M' ∧ Q r M' := by
  obtain ⟨r, M1, hq, hw⟩ := wp_ex ms_67 xs_67 h
  exact ⟨r, M1, en_67 ha hw, hq⟩
theorem eq_68 {d : Nat} {A : List Value} {M : pm_M} {Q : Option Value → pm_M → Prop} (ha : (pm_in0 A).length ≤ 5) (h : pm_WP (pm_call d) tb_68 Q 0 (pm_init 5 A) [] M) : ∃ r M', pm_call (d + 1) 68 A M r M' ∧ Q r M' := by
  obtain ⟨r, M1, hq, hw⟩ := wp_ex ms_68 xs_68 h
  exact ⟨r, M1, en_68 ha hw, hq⟩
theorem eq_69 {d : Nat} {A : List Value} {M : pm_M} {Q : Option Value → pm_M → Prop} (ha : (pm_in0 A).length ≤ 1) (h : pm_WP (pm_call d) tb_69 Q 0 (pm_init 1 A) [] M) : ∃ r M', pm_call (d + 1) 69 A M r M' ∧ Q r M' := by
  obtain ⟨r, M1, hq, hw⟩ := wp_ex ms_69 xs_69 h
  exact ⟨r, M1, en_69 ha hw, hq⟩
theorem eq_70 {d : Nat} {A : List Value} {M : pm_M} {Q : Option Value → pm_M → Prop} (ha : (pm_in0 A).length ≤ 1) (h : pm_WP (pm_call d) tb_70 Q 0 (pm_init 1 A) [] M) : ∃ r M', pm_call (d + 1) 70 A M r M' ∧ Q r M' := by
  obtain ⟨r, M1, hq, hw⟩ := wp_ex ms_70 xs_70 h
  exact ⟨r, M1, en_70 ha hw, hq⟩
theorem eq_71 {d : Nat} {A : List Value} {M : pm_M} {Q : Option Value → pm_M → Prop} (ha : (pm_in0 A).length ≤ 5) (h : pm_WP (pm_call d) tb_71 Q 0 (pm_init 5 A) [] M) : ∃ r M', pm_call (d + 1) 71 A M r M' ∧ Q r M' := by
  obtain ⟨r, M1, hq, hw⟩ := wp_ex ms_71 xs_71 h
  exact ⟨r, M1, en_71 ha hw, hq⟩
theorem eq_72 {d : Nat} {A : List Value} {M : pm_M} {Q : Option Value → pm_M → Prop} (ha : (pm_in0 A).length ≤ 4) (h : pm_WP (pm_call d) tb_72 Q 0 (pm_init 4 A) [] M) : ∃ r M', pm_call (d + 1) 72 A M r M' ∧ Q r M' := by
  obtain ⟨r, M1, hq, hw⟩ := wp_ex ms_72 xs_72 h
  exact ⟨r, M1, en_72 ha hw, hq⟩
theorem eq_73 {d : Nat} {A : List Value} {M : pm_M} {Q : Option Value → pm_M → Prop} (ha : (pm_in0 A).length ≤ 4) (h : pm_WP (pm_call d) tb_73 Q 0 (pm_init 4 A) [] M) : ∃ r M', pm_call (d + 1) 73 A M r M' ∧ Q r M' := by
  obtain ⟨r, M1, hq, hw⟩ := wp_ex ms_73 xs_73 h
  exact ⟨r, M1, en_73 ha hw, hq⟩
theorem eq_74 {d : Nat} {A : List Value} {M : pm_M} {Q : Option Value → pm_M → Prop} (ha : (pm_in0 A).length ≤ 3) (h : pm_WP (pm_call d) tb_74 Q 0 (pm_init 3 A) [] M) : ∃ r M', pm_call (d + 1) 74 A M r M' ∧ Q r M' := by
  obtain ⟨r, M1, hq, hw⟩ := wp_ex ms_74 xs_74 h
  exact ⟨r, M1, en_74 ha hw, hq⟩
theorem eq_75 {d : Nat} {A : List Value} {M : pm_M} {Q : Option Value → pm_M → Prop} (ha : (pm_in0 A).length ≤ 3) (h : pm_WP (pm_call d) tb_75 Q 0 (pm_init 3 A) [] M) : ∃ r M', pm_call (d + 1) 75 A M r M' ∧ Q r M' := by
  obtain ⟨r, M1, hq, hw⟩ := wp_ex ms_75 xs_75 h
  exact ⟨r, M1, en_75 ha hw, hq⟩
theorem eq_76 {d : Nat} {A : List Value} {M : pm_M} {Q : Option Value → pm_M → Prop} (ha : (pm_in0 A).length ≤ 2) (h : pm_WP (pm_call d) tb_76 Q 0 (pm_init 2 A) [] M) : ∃ r M', pm_call (d + 1) 76 A M r M' ∧ Q r M' := by
  obtain ⟨r, M1, hq, hw⟩ := wp_ex ms_76 xs_76 h
  exact ⟨r, M1, en_76 ha hw, hq⟩
theorem eq_77 {d : Nat} {A : List Value} {M : pm_M} {Q : Option Value → pm_M → Prop} (ha : (pm_in0 A).length ≤ 4) (h : pm_WP (pm_call d) tb_77 Q 0 (pm_init 4 A) [] M) : ∃ r M', pm_call (d + 1) 77 A M r M' ∧ Q r M' := by
  obtain ⟨r, M1, hq, hw⟩ := wp_ex ms_77 xs_77 h
  exact ⟨r, M1, en_77 ha hw, hq⟩
theorem eq_78 {d : Nat} {A : List Value} {M : pm_M} {Q : Option Value → pm_M → Prop} (ha : (pm_in0 A).length ≤ 4) (h : pm_WP (pm_call d) tb_78 Q 0 (pm_init 4 A) [] M) : ∃ r M', pm_call (d + 1) 78 A M r M' ∧ Q r M' := by
  obtain ⟨r, M1, hq, hw⟩ := wp_ex ms_78 xs_78 h
  exact ⟨r, M1, en_78 ha hw, hq⟩
theorem eq_79 {d : Nat} {A : List Value} {M : pm_M} {Q : Option Value → pm_M → Prop} (ha : (pm_in0 A).length ≤ 4) (h : pm_WP (pm_call d) tb_79 Q 0 (pm_init 4 A) [] M) : ∃ r M', pm_call (d + 1) 79 A M r M' ∧ Q r M' := by
  obtain ⟨r, M1, hq, hw⟩ := wp_ex ms_79 xs_79 h
  exact ⟨r, M1, en_79 ha hw, hq⟩
theorem eq_80 {d : Nat} {A : List Value} {M : pm_M} {Q : Option Value → pm_M → Prop} (ha : (pm_in0 A).length ≤ 2) (h : pm_WP (pm_call d) tb_80 Q 0 (pm_init 2 A) [] M) : ∃ r M', pm_call (d + 1) 80 A M r M' ∧ Q r M' := by
  obtain ⟨r, M1, hq, hw⟩ := wp_ex ms_80 xs_80 h
  exact ⟨r, M1, en_80 ha hw, hq⟩
theorem eq_81 {d : Nat} {A : List Value} {M : pm_M} {Q : Option Value → pm_M → Prop} (ha : (pm_in0 A).length ≤ 1) (h : pm_WP (pm_call d) tb_81 Q 0 (pm_init 1 A) [] M) : ∃ r M', pm_call (d + 1) 81 A M r M' ∧ Q r M' := by
  obtain ⟨r, M1, hq, hw⟩ := wp_ex ms_81 xs_81 h
  exact ⟨r, M1, en_81 ha hw, hq⟩
theorem eq_82 {d : Nat} {A : List Value} {M : pm_M} {Q : Option Value → pm_M → Prop} (ha : (pm_in0 A).length ≤ 2) (h : pm_WP (pm_call d) tb_82 Q 0 (pm_init 2 A) [] M) : ∃ r M', pm_call (d + 1) 82 A M r M' ∧ Q r M' := by
  obtain ⟨r, M1, hq, hw⟩ := wp_ex ms_82 xs_82 h
  exact ⟨r, M1, en_82 ha hw, hq⟩
theorem eq_83 {d : Nat} {A : List Value} {M : pm_M} {Q : Option Value → pm_M → Prop} (ha : (pm_in0 A).length ≤ 14) (h : pm_WP (pm_call d) tb_83 Q 0 (pm_init 14 A) [] M) : ∃ r M', pm_call (d + 1) 83 A M r M' ∧ Q r M' := by
  obtain ⟨r, M1, hq, hw⟩ := wp_ex ms_83 xs_83 h
  exact ⟨r, M1, en_83 ha hw, hq⟩
theorem eq_84 {d : Nat} {A : List Value} {M : pm_M} {Q : Option Value → pm_M → Prop} (ha : (pm_in0 A).length ≤ 4) (h : pm_WP (pm_call d) tb_84 Q 0 (pm_init 4 A) [] M) : ∃ r M', pm_call (d + 1) 84 A M r M' ∧ Q r M' := by
  obtain ⟨r, M1, hq, hw⟩ := wp_ex ms_84 xs_84 h
  exact ⟨r, M1, en_84 ha hw, hq⟩
theorem eq_85 {d : Nat} {A : List Value} {M : pm_M} {Q : Option Value → pm_M → Prop} (ha : (pm_in0 A).length ≤ 5) (h : pm_WP (pm_call d) tb_85 Q 0 (pm_init 5 A) [] M) : ∃ r M', pm_call (d + 1) 85 A M r M' ∧ Q r M' := by
  obtain ⟨r, M1, hq, hw⟩ := wp_ex ms_85 xs_85 h
  exact ⟨r, M1, en_85 ha hw, hq⟩
theorem eq_86 {d : Nat} {A : List Value} {M : pm_M} {Q : Option Value → pm_M → Prop} (ha : (pm_in0 A).length ≤ 2) (h : pm_WP (pm_call d) tb_86 Q 0 (pm_init 2 A) [] M) : ∃ r M', pm_call (d + 1) 86 A M r M' ∧ Q r M' := by
  obtain ⟨r, M1, hq, hw⟩ := wp_ex ms_86 xs_86 h
  exact ⟨r, M1, en_86 ha hw, hq⟩
theorem eq_87 {d : Nat} {A : List Value} {M : pm_M} {Q : Option Value → pm_M → Prop} (ha : (pm_in0 A).length ≤ 1) (h : pm_WP (pm_call d) tb_87 Q 0 (pm_init 1 A) [] M) : ∃ r M', pm_call (d + 1) 87 A M r M' ∧ Q r M' := by
  obtain ⟨r, M1, hq, hw⟩ := wp_ex ms_87 xs_87 h
  exact ⟨r, M1, en_87 ha hw, hq⟩
theorem eq_88 {d : Nat} {A : List Value} {M : pm_M} {Q : Option Value → pm_M → Prop} (ha : (pm_in0 A).length ≤ 4) (h : pm_WP (pm_call d) tb_88 Q 0 (pm_init 4 A) [] M) : ∃ r M', pm_call (d + 1) 88 A M r M' ∧ Q r M' := by
  obtain ⟨r, M1, hq, hw⟩ := wp_ex ms_88 xs_88 h
  exact ⟨r, M1, en_88 ha hw, hq⟩
theorem eq_89 {d : Nat} {A : List Value} {M : pm_M} {Q : Option Value → pm_M → Prop} (ha : (pm_in0 A).length ≤ 2) (h : pm_WP (pm_call d) tb_89 Q 0 (pm_init 2 A) [] M) : ∃ r M', pm_call (d + 1) 89 A M r M' ∧ Q r M' := by
  obtain ⟨r, M1, hq, hw⟩ := wp_ex ms_89 xs_89 h
  exact ⟨r, M1, en_89 ha hw, hq⟩
theorem eq_90 {d : Nat} {A : List Value} {M : pm_M} {Q : Option Value → pm_M → Prop} (ha : (pm_in0 A).length ≤ 3) (h : pm_WP (pm_call d) tb_90 Q 0 (pm_init 3 A) [] M) : ∃ r M', pm_call (d + 1) 90 A M r M' ∧ Q r M' := by
  obtain ⟨r, M1, hq, hw⟩ := wp_ex ms_90 xs_90 h
  exact ⟨r, M1, en_90 ha hw, hq⟩
theorem eq_91 {d : Nat} {A : List Value} {M : pm_M} {Q : Option Value → pm_M → Prop} (ha : (pm_in0 A).length ≤ 5) (h : pm_WP (pm_call d) tb_91 Q 0 (pm_init 5 A) [] M) : ∃ r M', pm_call (d + 1) 91 A M r M' ∧ Q r M' := by
  obtain ⟨r, M1, hq, hw⟩ := wp_ex ms_91 xs_91 h
  exact ⟨r, M1, en_91 ha hw, hq⟩
theorem eq_92 {d : Nat} {A : List Value} {M : pm_M} {Q : Option Value → pm_M → Prop} (ha : (pm_in0 A).length ≤ 4) (h : pm_WP (pm_call d) tb_92 Q 0 (pm_init 4 A) [] M) : ∃ r M', pm_call (d + 1) 92 A M r M' ∧ Q r M' := by
  obtain ⟨r, M1, hq, hw⟩ := wp_ex ms_92 xs_92 h
  exact ⟨r, M1, en_92 ha hw, hq⟩
theorem eq_93 {d : Nat} {A : List Value} {M : pm_M} {Q : Option Value → pm_M → Prop} (ha : (pm_in0 A).length ≤ 2) (h : pm_WP (pm_call d) tb_93 Q 0 (pm_init 2 A) [] M) : ∃ r M', pm_call (d + 1) 93 A M r M' ∧ Q r M' := by
  obtain ⟨r, M1, hq, hw⟩ := wp_ex ms_93 xs_93 h
  exact ⟨r, M1, en_93 ha hw, hq⟩
theorem eq_94 {d : Nat} {A : List Value} {M : pm_M} {Q : Option Value → pm_M → Prop} (ha : (pm_in0 A).length ≤ 8) (h : pm_WP (pm_call d) tb_94 Q 0 (pm_init 8 A) [] M) : ∃ r M', pm_call (d + 1) 94 A M r M' ∧ Q r M' := by
  obtain ⟨r, M1, hq, hw⟩ := wp_ex ms_94 xs_94 h
  exact ⟨r, M1, en_94 ha hw, hq⟩
theorem eq_95 {d : Nat} {A : List Value} {M : pm_M} {Q : Option Value → pm_M → Prop} (ha : (pm_in0 A).length ≤ 6) (h : pm_WP (pm_call d) tb_95 Q 0 (pm_init 6 A) [] M) : ∃ r M', pm_call (d + 1) 95 A M r M' ∧ Q r M' := by
  obtain ⟨r, M1, hq, hw⟩ := wp_ex ms_95 xs_95 h
  exact ⟨r, M1, en_95 ha hw, hq⟩
theorem eq_96 {d : Nat} {A : List Value} {M : pm_M} {Q : Option Value → pm_M → Prop} (ha : (pm_in0 A).length ≤ 3) (h : pm_WP (pm_call d) tb_96 Q 0 (pm_init 3 A) [] M) : ∃ r M', pm_call (d + 1) 96 A M r M' ∧ Q r M' := by
  obtain ⟨r, M1, hq, hw⟩ := wp_ex ms_96 xs_96 h
  exact ⟨r, M1, en_96 ha hw, hq⟩
theorem eq_97 {d : Nat} {A : List Value} {M : pm_M} {Q : Option Value → pm_M → Prop} (ha : (pm_in0 A).length ≤ 6) (h : pm_WP (pm_call d) tb_97 Q 0 (pm_init 6 A) [] M) : ∃ r M', pm_call (d + 1) 97 A M r M' ∧ Q r M' := by
  obtain ⟨r, M1, hq, hw⟩ := wp_ex ms_97 xs_97 h
  exact ⟨r, M1, en_97 ha hw, hq⟩
theorem eq_98 {d : Nat} {A : List Value} {M : pm_M} {Q : Option Value → pm_M → Prop} (ha : (pm_in0 A).length ≤ 2) (h : pm_WP (pm_call d) tb_98 Q 0 (pm_init 2 A) [] M) : ∃ r M', pm_call (d + 1) 98 A M r M' ∧ Q r M' := by
  obtain ⟨r, M1, hq, hw⟩ := wp_ex ms_98 xs_98 h
  exact ⟨r, M1, en_98 ha hw, hq⟩
theorem eq_99 {d : Nat} {A : List Value} {M : pm_M} {Q : Option Value → pm_M → Prop} (ha : (pm_in0 A).length ≤ 3) (h : pm_WP (pm_call d) tb_99 Q 0 (pm_init 3 A) [] M) : ∃ r M', pm_call (d + 1) 99 A M r M' ∧ Q r M' := by
  obtain ⟨r, M1, hq, hw⟩ := wp_ex ms_99 xs_99 h
  exact ⟨r, M1, en_99 ha hw, hq⟩
theorem eq_100 {d : Nat} {A : List Value} {M : pm_M} {Q : Option Value → pm_M → Prop} (ha : (pm_in0 A).length ≤ 3) (h : pm_WP (pm_call d) tb_100 Q 0 (pm_init 3 A) [] M) : ∃ r M', pm_call (d + 1) 100 A M r M' ∧ Q r M' := by
  obtain ⟨r, M1, hq, hw⟩ := wp_ex ms_100 xs_100 h
  exact ⟨r, M1, en_100 ha hw, hq⟩
theorem eq_101 {d : Nat} {A : List Value} {M : pm_M} {Q : Option Value → pm_M → Prop} (ha : (pm_in0 A).length ≤ 3) (h : pm_WP (pm_call d) tb_101 Q 0 (pm_init 3 A) [] M) : ∃ r M', pm_call (d + 1) 101 A M r M' ∧ Q r M' := by
  obtain ⟨r, M1, hq, hw⟩ := wp_ex ms_101 xs_101 h
  exact ⟨r, M1, en_101 ha hw, hq⟩
theorem eq_102 {d : Nat} {A : List Value} {M : pm_M} {Q : Option Value → pm_M → Prop} (ha : (pm_in0 A).length ≤ 3) (h : pm_WP (pm_call d) tb_102 Q 0 (pm_init 3 A) [] M) : ∃ r M', pm_call (d + 1) 102 A M r M' ∧ Q r M' := by
  obtain ⟨r, M1, hq, hw⟩ := wp_ex ms_102 xs_102 h
  exact ⟨r, M1, en_102 ha hw, hq⟩
theorem eq_103 {d : Nat} {A : List Value} {M : pm_M} {Q : Option Value → pm_M → Prop} (ha : (pm_in0 A).length ≤ 4) (h : pm_WP (pm_call d) tb_103 Q 0 (pm_init 4 A) [] M) : ∃ r M', pm_call (d + 1) 103 A M r M' ∧ Q r M' := by
  obtain ⟨r, M1, hq, hw⟩ := wp_ex ms_103 xs_103 h
  exact ⟨r, M1, en_103 ha hw, hq⟩
theorem eq_104 {d : Nat} {A : List Value} {M : pm_M} {Q : Option Value → pm_M → Prop} (ha : (pm_in0 A).length ≤ 2) (h : pm_WP (pm_call d) tb_104 Q 0 (pm_init 2 A) [] M) : ∃ r M', pm_call (d + 1) 104 A M r M' ∧ Q r M' := by
  obtain ⟨r, M1, hq, hw⟩ := wp_ex ms_104 xs_104 h
  exact ⟨r, M1, en_104 ha hw, hq⟩
theorem eq_105 {d : Nat} {A : List Value} {M : pm_M} {Q : Option Value → pm_M → Prop} (ha : (pm_in0 A).length ≤ 3) (h : pm_WP (pm_call d) tb_105 Q 0 (pm_init 3 A) [] M) : ∃ r M', pm_call (d + 1) 105 A M r M' ∧ Q r M' := by
  obtain ⟨r, M1, hq, hw⟩ := wp_ex ms_105 xs_105 h
  exact ⟨r, M1, en_105 ha hw, hq⟩
theorem eq_106 {d : Nat} {A : List Value} {M : pm_M} {Q : Option Value → pm_M → Prop} (ha : (pm_in0 A).length ≤ 2) (h : pm_WP (pm_call d) tb_106 Q 0 (pm_init 2 A) [] M) : ∃ r M', pm_call (d + 1) 106 A M r M' ∧ Q r M' := by
  obtain ⟨r, M1, hq, hw⟩ := wp_ex ms_106 xs_106 h
  exact ⟨r, M1, en_106 ha hw, hq⟩
theorem eq_107 {d : Nat} {A : List Value} {M : pm_M} {Q : Option Value → pm_M → Prop} (ha : (pm_in0 A).length ≤ 1) (h : pm_WP (pm_call d) tb_107 Q 0 (pm_init 1 A) [] M) : ∃ r M', pm_call (d + 1) 107 A M r M' ∧ Q r M' := by
  obtain ⟨r, M1, hq, hw⟩ := wp_ex ms_107 xs_107 h
  exact ⟨r, M1, en_107 ha hw, hq⟩
theorem eq_108 {d : Nat} {A : List Value} {M : pm_M} {Q : Option Value → pm_M → Prop} (ha : (pm_in0 A).length ≤ 2) (h : pm_WP (pm_call d) tb_108 Q 0 (pm_init 2 A) [] M) : ∃ r M', pm_call (d + 1) 108 A M r M' ∧ Q r M' := by
  obtain ⟨r, M1, hq, hw⟩ := wp_ex ms_108 xs_108 h
  exact ⟨r, M1, en_108 ha hw, hq⟩
theorem eq_109 {d : Nat} {A : List Value} {M : pm_M} {Q : Option Value → pm_M → Prop} (ha : (pm_in0 A).length ≤ 2) (h : pm_WP (pm_call d) tb_109 Q 0 (pm_init 2 A) [] M) : ∃ r M', pm_call (d + 1) 109 A M r M' ∧ Q r M' := by
  obtain ⟨r, M1, hq, hw⟩ := wp_ex ms_109 xs_109 h
  exact ⟨r, M1, en_109 ha hw, hq⟩
theorem eq_110 {d : Nat} {A : List Value} {M : pm_M} {Q : Option Value → pm_M → Prop} (ha : (pm_in0 A).length ≤ 2) (h : pm_WP (pm_call d) tb_110 Q 0 (pm_init 2 A) [] M) : ∃ r M', pm_call (d + 1) 110 A M r M' ∧ Q r M' := by
  obtain ⟨r, M1, hq, hw⟩ := wp_ex ms_110 xs_110 h
  exact ⟨r, M1, en_110 ha hw, hq⟩
theorem eq_111 {d : Nat} {A : List Value} {M : pm_M} {Q : Option Value → pm_M → Prop} (ha : (pm_in0 A).length ≤ 2) (h : pm_WP (pm_call d) tb_111 Q 0 (pm_init 2 A) [] M) : ∃ r M', pm_call (d + 1) 111 A M r M' ∧ Q r M' := by
  obtain ⟨r, M1, hq, hw⟩ := wp_ex ms_111 xs_111 h
  exact ⟨r, M1, en_111 ha hw, hq⟩
theorem eq_112 {d : Nat} {A : List Value} {M : pm_M} {Q : Option Value → pm_M → Prop} (ha : (pm_in0 A).length ≤ 9) (h : pm_WP (pm_call d) tb_112 Q 0 (pm_init 9 A) [] M) : ∃ r M', pm_call (d + 1) 112 A M r M' ∧ Q r M' := by
  obtain ⟨r, M1, hq, hw⟩ := wp_ex ms_112 xs_112 h
  exact ⟨r, M1, en_112 ha hw, hq⟩
theorem eq_113 {d : Nat} {A : List Value} {M : pm_M} {Q : Option Value → pm_M → Prop} (ha : (pm_in0 A).length ≤ 3) (h : pm_WP (pm_call d) tb_113 Q 0 (pm_init 3 A) [] M) : ∃ r M', pm_call (d + 1) 113 A M r M' ∧ Q r M' := by
  obtain ⟨r, M1, hq, hw⟩ := wp_ex ms_113 xs_113 h
  exact ⟨r, M1, en_113 ha hw, hq⟩
theorem eq_114 {d : Nat} {A : List Value} {M : pm_M} {Q : Option Value → pm_M → Prop} (ha : (pm_in0 A).length ≤ 4) (h : pm_WP (pm_call d) tb_114 Q 0 (pm_init 4 A) [] M) : ∃ r M', pm_call (d + 1) 114 A M r M' ∧ Q r M' := by
  obtain ⟨r, M1, hq, hw⟩ := wp_ex ms_114 xs_114 h
  exact ⟨r, M1, en_114 ha hw, hq⟩
theorem eq_115 {d : Nat} {A : List Value} {M : pm_M} {Q : Option Value → pm_M → Prop} (ha : (pm_in0 A).length ≤ 2) (h : pm_WP (pm_call d) tb_115 Q 0 (pm_init 2 A) [] M) : ∃ r M', pm_call (d + 1) 115 A M r M' ∧ Q r M' := by
  obtain ⟨r, M1, hq, hw⟩ := wp_ex ms_115 xs_115 h
  exact ⟨r, M1, en_115 ha hw, hq⟩
theorem eq_116 {d : Nat} {A : List Value} {M : pm_M} {Q : Option Value → pm_M → Prop} (ha : (pm_in0 A).length ≤ 4) (h : pm_WP (pm_call d) tb_116 Q 0 (pm_init 4 A) [] M) : ∃ r M', pm_call (d + 1) 116 A M r M' ∧ Q r M' := by
  obtain ⟨r, M1, hq, hw⟩ := wp_ex ms_116 xs_116 h
  exact ⟨r, M1, en_116 ha hw, hq⟩
theorem eq_117 {d : Nat} {A : List Value} {M : pm_M} {Q : Option Value → pm_M → Prop} (ha : (pm_in0 A).length ≤ 5) (h : pm_WP (pm_call d) tb_117 Q 0 (pm_init 5 A) [] M) : ∃ r M', pm_call (d + 1) 117 A M r M' ∧ Q r M' := by
  obtain ⟨r, M1, hq, hw⟩ := wp_ex ms_117 xs_117 h
  exact ⟨r, M1, en_117 ha hw, hq⟩
theorem eq_118 {d : Nat} {A : List Value} {M : pm_M} {Q : Option Value → pm_M → Prop} (ha : (pm_in0 A).length ≤ 3) (h : pm_WP (pm_call d) tb_118 Q 0 (pm_init 3 A) [] M) : ∃ r M', pm_call (d + 1) 118 A M r M' ∧ Q r M' := by
  obtain ⟨r, M1, hq, hw⟩ := wp_ex ms_118 xs_118 h
  exact ⟨r, M1, en_118 ha hw, hq⟩
theorem eq_119 {d : Nat} {A : List Value} {M : pm_M} {Q : Option Value → pm_M → Prop} (ha : (pm_in0 A).length ≤ 5) (h : pm_WP (pm_call d) tb_119 Q 0 (pm_init 5 A) [] M) : ∃ r M', pm_call (d + 1) 119 A M r M' ∧ Q r M' := by
  obtain ⟨r, M1, hq, hw⟩ := wp_ex ms_119 xs_119 h
  exact ⟨r, M1, en_119 ha hw, hq⟩
theorem eq_120 {d : Nat} {A : List Value} {M : pm_M} {Q : Option Value → pm_M → Prop} (ha : (pm_in0 A).length ≤ 5) (h : pm_WP (pm_call d) tb_120 Q 0 (pm_init 5 A) [] M) : ∃ r M', pm_call (d + 1) 120 A M r M' ∧ Q r M' := by
  obtain ⟨r, M1, hq, hw⟩ := wp_ex ms_120 xs_120 h
  exact ⟨r, M1, en_120 ha hw, hq⟩
theorem eq_121 {d : Nat} {A : List Value} {M : pm_M} {Q : Option Value → pm_M → Prop} (ha : (pm_in0 A).length ≤ 6) (h : pm_WP (pm_call d) tb_121 Q 0 (pm_init 6 A) [] M) : ∃ r M', pm_call (d + 1) 121 A M r M' ∧ Q r M' := by
  obtain ⟨r, M1, hq, hw⟩ := wp_ex ms_121 xs_121 h
  exact ⟨r, M1, en_121 ha hw, hq⟩
theorem eq_122 {d : Nat} {A : List Value} {M : pm_M} {Q : Option Value → pm_M → Prop} (ha : (pm_in0 A).length ≤ 5) (h : pm_WP (pm_call d) tb_122 Q 0 (pm_init 5 A) [] M) : ∃ r M', pm_call (d + 1) 122 A M r M' ∧ Q r M' := by
  obtain ⟨r, M1, hq, hw⟩ := wp_ex ms_122 xs_122 h
  exact ⟨r, M1, en_122 ha hw, hq⟩
theorem eq_123 {d : Nat} {A : List Value} {M : pm_M} {Q : Option Value → pm_M → Prop} (ha : (pm_in0 A).length ≤ 6) (h : pm_WP (pm_call d) tb_123 Q 0 (pm_init 6 A) [] M) : ∃ r M', pm_call (d + 1) 123 A M r M' ∧ Q r M' := by
  obtain ⟨r, M1, hq, hw⟩ := wp_ex ms_123 xs_123 h
  exact ⟨r, M1, en_123 ha hw, hq⟩
theorem eq_124 {d : Nat} {A : List Value} {M : pm_M} {Q : Option Value → pm_M → Prop} (ha : (pm_in0 A).length ≤ 9) (h : pm_WP (pm_call d) tb_124 Q 0 (pm_init 9 A) [] M) : ∃ r M', pm_call (d + 1) 124 A M r M' ∧ Q r M' := by
  obtain ⟨r, M1, hq, hw⟩ := wp_ex ms_124 xs_124 h
  exact ⟨r, M1, en_124 ha hw, hq⟩
theorem eq_125 {d : Nat} {A : List Value} {M : pm_M} {Q : Option Value → pm_M → Prop} (ha : (pm_in0 A).length ≤ 5) (h : pm_WP (pm_call d) tb_125 Q 0 (pm_init 5 A) [] M) : ∃ r M', pm_call (d + 1) 125 A M r M' ∧ Q r M' := by
  obtain ⟨r, M1, hq, hw⟩ := wp_ex ms_125 xs_125 h
  exact ⟨r, M1, en_125 ha hw, hq⟩
theorem eq_126 {d : Nat} {A : List Value} {M : pm_M} {Q : Option Value → pm_M → Prop} (ha : (pm_in0 A).length ≤ 6) (h : pm_WP (pm_call d) tb_126 Q 0 (pm_init 6 A) [] M) : ∃ r M', pm_call (d + 1) 126 A M r M' ∧ Q r M' := by
  obtain ⟨r, M1, hq, hw⟩ := wp_ex ms_126 xs_126 h
  exact ⟨r, M1, en_126 ha hw, hq⟩
theorem eq_127 {d : Nat} {A : List Value} {M : pm_M} {Q : Option Value → pm_M → Prop} (ha : (pm_in0 A).length ≤ 4) (h : pm_WP (pm_call d) tb_127 Q 0 (pm_init 4 A) [] M) : ∃ r M', pm_call (d + 1) 127 A M r M' ∧ Q r M' := by
  obtain ⟨r, M1, hq, hw⟩ := wp_ex ms_127 xs_127 h
  exact ⟨r, M1, en_127 ha hw, hq⟩
theorem eq_128 {d : Nat} {A : List Value} {M : pm_M} {Q : Option Value → pm_M → Prop} (ha : (pm_in0 A).length ≤ 9) (h : pm_WP (pm_call d) tb_128 Q 0 (pm_init 9 A) [] M) : ∃ r M', pm_call (d + 1) 128 A M r M' ∧ Q r M' := by
  obtain ⟨r, M1, hq, hw⟩ := wp_ex ms_128 xs_128 h
  exact ⟨r, M1, en_128 ha hw, hq⟩
theorem eq_129 {d : Nat} {A : List Value} {M : pm_M} {Q : Option Value → pm_M → Prop} (ha : (pm_in0 A).length ≤ 1) (h : pm_WP (pm_call d) tb_129 Q 0 (pm_init 1 A) [] M) : ∃ r M', pm_call (d + 1) 129 A M r M' ∧ Q r M' := by
  obtain ⟨r, M1, hq, hw⟩ := wp_ex ms_129 xs_129 h
  exact ⟨r, M1, en_129 ha hw, hq⟩
theorem eq_130 {d : Nat} {A : List Value} {M : pm_M} {Q : Option Value → pm_M → Prop} (ha : (pm_in0 A).length ≤ 1) (h : pm_WP (pm_call d) tb_130 Q 0 (pm_init 1 A) [] M) : ∃ r M', pm_call (d + 1) 130 A M r M' ∧ Q r M' := by
  obtain ⟨r, M1, hq, hw⟩ := wp_ex ms_130 xs_130 h
  exact ⟨r, M1, en_130 ha hw, hq⟩
theorem eq_131 {d : Nat} {A : List Value} {M : pm_M} {Q : Option Value → pm_M → Prop} (ha : (pm_in0 A).length ≤ 5) (h : pm_WP (pm_call d) tb_131 Q 0 (pm_init 5 A) [] M) : ∃ r M', pm_call (d + 1) 131 A M r M' ∧ Q r M' := by
  obtain ⟨r, M1, hq, hw⟩ := wp_ex ms_131 xs_131 h
  exact ⟨r, M1, en_131 ha hw, hq⟩
theorem eq_132 {d : Nat} {A : List Value} {M : pm_M} {Q : Option Value → pm_M → Prop} (ha : (pm_in0 A).length ≤ 2) (h : pm_WP (pm_call d) tb_132 Q 0 (pm_init 2 A) [] M) : ∃ r M', pm_call (d + 1) 132 A M r M' ∧ Q r M' := by
  obtain ⟨r, M1, hq, hw⟩ := wp_ex ms_132 xs_132 h
  exact ⟨r, M1, en_132 ha hw, hq⟩
theorem eq_133 {d : Nat} {A : List Value} {M : pm_M} {Q : Option Value → pm_M → Prop} (ha : (pm_in0 A).length ≤ 1) (h : pm_WP (pm_call d) tb_133 Q 0 (pm_init 1 A) [] M) : ∃ r M', pm_call (d + 1) 133 A M r M' ∧ Q r M' := by
  obtain ⟨r, M1, hq, hw⟩ := wp_ex ms_133 xs_133 h
  exact ⟨r, M1, en_133 ha hw, hq⟩
theorem eq_134 {d : Nat} {A : List Value} {M : pm_M} {Q : Option Value → pm_M → Prop} (ha : (pm_in0 A).length ≤ 2) (h : pm_WP (pm_call d) tb_134 Q 0 (pm_init 2 A) [] M) : ∃ r M', pm_call (d + 1) 134 A M r M' ∧ Q r M' := by
  obtain ⟨r, M1, hq, hw⟩ := wp_ex ms_134 xs_134 h
  exact ⟨r, M1, en_134 ha hw, hq⟩
theorem eq_135 {d : Nat} {A : List Value} {M : pm_M} {Q : Option Value → pm_M → Prop} (ha : (pm_in0 A).length ≤ 4) (h : pm_WP (pm_call d) tb_135 Q 0 (pm_init 4 A) [] M) : ∃ r M', pm_call (d + 1) 135 A M r M' ∧ Q r M' := by
  obtain ⟨r, M1, hq, hw⟩ := wp_ex ms_135 xs_135 h
  exact ⟨r, M1, en_135 ha hw, hq⟩
theorem eq_136 {d : Nat} {A : List Value} {M : pm_M} {Q : Option Value → pm_M → Prop} (ha : (pm_in0 A).length ≤ 2) (h : pm_WP (pm_call d) tb_136 Q 0 (pm_init 2 A) [] M) : ∃ r M', pm_call (d + 1) 136 A M r M' ∧ Q r M' := by
  obtain ⟨r, M1, hq, hw⟩ := wp_ex ms_136 xs_136 h
  exact ⟨r, M1, en_136 ha hw, hq⟩
theorem eq_137 {d : Nat} {A : List Value} {M : pm_M} {Q : Option Value → pm_M → Prop} (ha : (pm_in0 A).length ≤ 1) (h : pm_WP (pm_call d) tb_137 Q 0 (pm_init 1 A) [] M) : ∃ r M', pm_call (d + 1) 137 A M r M' ∧ Q r M' := by
  obtain ⟨r, M1, hq, hw⟩ := wp_ex ms_137 xs_137 h
  exact ⟨r, M1, en_137 ha hw, hq⟩
theorem eq_138 {d : Nat} {A : List Value} {M : pm_M} {Q : Option Value → pm_M → Prop} (ha : (pm_in0 A).length ≤ 1) (h : pm_WP (pm_call d) tb_138 Q 0 (pm_init 1 A) [] M) : ∃ r M', pm_call (d + 1) 138 A M r M' ∧ Q r M' := by
  obtain ⟨r, M1, hq, hw⟩ := wp_ex ms_138 xs_138 h
  exact ⟨r, M1, en_138 ha hw, hq⟩
theorem eq_139 {d : Nat} {A : List Value} {M : pm_M} {Q : Option Value → pm_M → Prop} (ha : (pm_in0 A).length ≤ 3) (h : pm_WP (pm_call d) tb_139 Q 0 (pm_init 3 A) [] M) : ∃ r M', pm_call (d + 1) 139 A M r M' ∧ Q r M' := by
  obtain ⟨r, M1, hq, hw⟩ := wp_ex ms_139 xs_139 h
  exact ⟨r, M1, en_139 ha hw, hq⟩
theorem eq_140 {d : Nat} {A : List Value} {M : pm_M} {Q : Option Value → pm_M → Prop} (ha : (pm_in0 A).length ≤ 5) (h : pm_WP (pm_call d) tb_140 Q 0 (pm_init 5 A) [] M) : ∃ r M', pm_call (d + 1) 140 A M r M' ∧ Q r M' := by
  obtain ⟨r, M1, hq, hw⟩ := wp_ex ms_140 xs_140 h
  exact ⟨r, M1, en_140 ha hw, hq⟩
theorem eq_141 {d : Nat} {A : List Value} {M : pm_M} {Q : Option Value → pm_M → Prop} (ha : (pm_in0 A).length ≤ 4) (h : pm_WP (pm_call d) tb_141 Q 0 (pm_init 4 A) [] M) : ∃ r M', pm_call (d + 1) 141 A M r M' ∧ Q r M' := by
  obtain ⟨r, M1, hq, hw⟩ := wp_ex ms_141 xs_141 h
  exact ⟨r, M1, en_141 ha hw, hq⟩
theorem eq_142 {d : Nat} {A : List Value} {M : pm_M} {Q : Option Value → pm_M → Prop} (ha : (pm_in0 A).length ≤ 8) (h : pm_WP (pm_call d) tb_142 Q 0 (pm_init 8 A) [] M) : ∃ r M', pm_call (d + 1) 142 A M r M' ∧ Q r M' := by
  obtain ⟨r, M1, hq, hw⟩ := wp_ex ms_142 xs_142 h
  exact ⟨r, M1, en_142 ha hw, hq⟩
theorem eq_143 {d : Nat} {A : List Value} {M : pm_M} {Q : Option Value → pm_M → Prop} (ha : (pm_in0 A).length ≤ 3) (h : pm_WP (pm_call d) tb_143 Q 0 (pm_init 3 A) [] M) : ∃ r M', pm_call (d + 1) 143 A M r M' ∧ Q r M' := by
  obtain ⟨r, M1, hq, hw⟩ := wp_ex ms_143 xs_143 h
  exact ⟨r, M1, en_143 ha hw, hq⟩
theorem eq_144 {d : Nat} {A : List Value} {M : pm_M} {Q : Option Value → pm_M → Prop} (ha : (pm_in0 A).length ≤ 4) (h : pm_WP (pm_call d) tb_144 Q 0 (pm_init 4 A) [] M) : ∃ r M', pm_call (d + 1) 144 A M r M' ∧ Q r M' := by
  obtain ⟨r, M1, hq, hw⟩ := wp_ex ms_144 xs_144 h
  exact ⟨r, M1, en_144 ha hw, hq⟩
theorem eq_145 {d : Nat} {A : List Value} {M : pm_M} {Q : Option Value → pm_M → Prop} (ha : (pm_in0 A).length ≤ 4) (h : pm_WP (pm_call d) tb_145 Q 0 (pm_init 4 A) [] M) : ∃ r M', pm_call (d + 1) 145 A M r M' ∧ Q r M' := by
  obtain ⟨r, M1, hq, hw⟩ := wp_ex ms_145 xs_145 h
  exact ⟨r, M1, en_145 ha hw, hq⟩
theorem eq_146 {d : Nat} {A : List Value} {M : pm_M} {Q : Option Value → pm_M → Prop} (ha : (pm_in0 A).length ≤ 3) (h : pm_WP (pm_call d) tb_146 Q 0 (pm_init 3 A) [] M) : ∃ r M', pm_call (d + 1) 146 A M r M' ∧ Q r M' := by
  obtain ⟨r, M1, hq, hw⟩ := wp_ex ms_146 xs_146 h
  exact ⟨r, M1, en_146 ha hw, hq⟩
theorem eq_147 {d : Nat} {A : List Value} {M : pm_M} {Q : Option Value → pm_M → Prop} (ha : (pm_in0 A).length ≤ 3) (h : pm_WP (pm_call d) tb_147 Q 0 (pm_init 3 A) [] M) : ∃ r M', pm_call (d + 1) 147 A M r M' ∧ Q r M' := by
  obtain ⟨r, M1, hq, hw⟩ := wp_ex ms_147 xs_147 h
  exact ⟨r, M1, en_147 ha hw, hq⟩
theorem eq_148 {d : Nat} {A : List Value} {M : pm_M} {Q : Option Value → pm_M → Prop} (ha : (pm_in0 A).length ≤ 4) (h : pm_WP (pm_call d) tb_148 Q 0 (pm_init 4 A) [] M) : ∃ r M', pm_call (d + 1) 148 A M r M' ∧ Q r M' := by
  obtain ⟨r, M1, hq, hw⟩ := wp_ex ms_148 xs_148 h
  exact ⟨r, M1, en_148 ha hw, hq⟩
theorem eq_149 {d : Nat} {A : List Value} {M : pm_M} {Q : Option Value → pm_M → Prop} (ha : (pm_in0 A).length ≤ 5) (h : pm_WP (pm_call d) tb_149 Q 0 (pm_init 5 A) [] M) : ∃ r M', pm_call (d + 1) 149 A M r M' ∧ Q r M' := by
  obtain ⟨r, M1, hq, hw⟩ := wp_ex ms_149 xs_149 h
  exact ⟨r, M1, en_149 ha hw, hq⟩
theorem eq_150 {d : Nat} {A : List Value} {M : pm_M} {Q : Option Value → pm_M → Prop} (ha : (pm_in0 A).length ≤ 2) (h : pm_WP (pm_call d) tb_150 Q 0 (pm_init 2 A) [] M) : ∃ r M', pm_call (d + 1) 150 A M r M' ∧ Q r M' := by
  obtain ⟨r, M1, hq, hw⟩ := wp_ex ms_150 xs_150 h
  exact ⟨r, M1, en_150 ha hw, hq⟩
theorem eq_151 {d : Nat} {A : List Value} {M : pm_M} {Q : Option Value → pm_M → Prop} (ha : (pm_in0 A).length ≤ 3) (h : pm_WP (pm_call d) tb_151 Q 0 (pm_init 3 A) [] M) : ∃ r M', pm_call (d + 1) 151 A M r M' ∧ Q r M' := by
  obtain ⟨r, M1, hq, hw⟩ := wp_ex ms_151 xs_151 h
  exact ⟨r, M1, en_151 ha hw, hq⟩
theorem eq_152 {d : Nat} {A : List Value} {M : pm_M} {Q : Option Value → pm_M → Prop} (ha : (pm_in0 A).length ≤ 2) (h : pm_WP (pm_call d) tb_152 Q 0 (pm_init 2 A) [] M) : ∃ r M', pm_call (d + 1) 152 A M r M' ∧ Q r M' := by
  obtain ⟨r, M1, hq, hw⟩ := wp_ex ms_152 xs_152 h
  exact ⟨r, M1, en_152 ha hw, hq⟩
theorem eq_153 {d : Nat} {A : List Value} {M : pm_M} {Q : Option Value → pm_M → Prop} (ha : (pm_in0 A).length ≤ 2) (h : pm_WP (pm_call d) tb_153 Q 0 (pm_init 2 A) [] M) : ∃ r M', pm_call (d + 1) 153 A M r M' ∧ Q r M' := by
  obtain ⟨r, M1, hq, hw⟩ := wp_ex ms_153 xs_153 h
  exact ⟨r, M1, en_153 ha hw, hq⟩
theorem eq_154 {d : Nat} {A : List Value} {M : pm_M} {Q : Option Value → pm_M → Prop} (ha : (pm_in0 A).length ≤ 2) (h : pm_WP (pm_call d) tb_154 Q 0 (pm_init 2 A) [] M) : ∃ r M', pm_call (d + 1) 154 A M r M' ∧ Q r M' := by
  obtain ⟨r, M1, hq, hw⟩ := wp_ex ms_154 xs_154 h
  exact ⟨r, M1, en_154 ha hw, hq⟩
theorem eq_155 {d : Nat} {A : List Value} {M : pm_M} {Q : Option Value → pm_M → Prop} (ha : (pm_in0 A).length ≤ 1) (h : pm_WP (pm_call d) tb_155 Q 0 (pm_init 1 A) [] M) : ∃ r M', pm_call (d + 1) 155 A M r M' ∧ Q r M' := by
  obtain ⟨r, M1, hq, hw⟩ := wp_ex ms_155 xs_155 h
  exact ⟨r, M1, en_155 ha hw, hq⟩
theorem eq_156 {d : Nat} {A : List Value} {M : pm_M} {Q : Option Value → pm_M → Prop} (ha : (pm_in0 A).length ≤ 2) (h : pm_WP (pm_call d) tb_156 Q 0 (pm_init 2 A) [] M) : ∃ r M', pm_call (d + 1) 156 A M r M' ∧ Q r M' := by
  obtain ⟨r, M1, hq, hw⟩ := wp_ex ms_156 xs_156 h
  exact ⟨r, M1, en_156 ha hw, hq⟩
theorem eq_157 {d : Nat} {A : List Value} {M : pm_M} {Q : Option Value → pm_M → Prop} (ha : (pm_in0 A).length ≤ 3) (h : pm_WP (pm_call d) tb_157 Q 0 (pm_init 3 A) [] M) : ∃ r M', pm_call (d + 1) 157 A M r M' ∧ Q r M' := by
  obtain ⟨r, M1, hq, hw⟩ := wp_ex ms_157 xs_157 h
  exact ⟨r, M1, en_157 ha hw, hq⟩
theorem eq_158 {d : Nat} {A : List Value} {M : pm_M} {Q : Option Value → pm_M → Prop} (ha : (pm_in0 A).length ≤ 1) (h : pm_WP (pm_call d) tb_158 Q 0 (pm_init 1 A) [] M) : ∃ r M', pm_call (d + 1) 158 A M r M' ∧ Q r M' := by
  obtain ⟨r, M1, hq, hw⟩ := wp_ex ms_158 xs_158 h
  exact ⟨r, M1, en_158 ha hw, hq⟩
theorem eq_159 {d : Nat} {A : List Value} {M : pm_M} {Q : Option Value → pm_M → Prop} (ha : (pm_in0 A).length ≤ 1) (h : pm_WP (pm_call d) tb_159 Q 0 (pm_init 1 A) [] M) : ∃ r M', pm_call (d + 1) 159 A M r M' ∧ Q r M' := by
  obtain ⟨r, M1, hq, hw⟩ := wp_ex ms_159 xs_159 h
  exact ⟨r, M1, en_159 ha hw, hq⟩
theorem eq_160 {d : Nat} {A : List Value} {M : pm_M} {Q : Option Value → pm_M → Prop} (ha : (pm_in0 A).length ≤ 1) (h : pm_WP (pm_call d) tb_160 Q 0 (pm_init 1 A) [] M) : ∃ r M', pm_call (d + 1) 160 A M r M' ∧ Q r M' := by
  obtain ⟨r, M1, hq, hw⟩ := wp_ex ms_160 xs_160 h
  exact ⟨r, M1, en_160 ha hw, hq⟩
theorem eq_161 {d : Nat} {A : List Value} {M : pm_M} {Q : Option Value → pm_M → Prop} (ha : (pm_in0 A).length ≤ 3) (h : pm_WP (pm_call d) tb_161 Q 0 (pm_init 3 A) [] M) : ∃ r M', pm_call (d + 1) 161 A M r M' ∧ Q r M' := by
  obtain ⟨r, M1, hq, hw⟩ := wp_ex ms_161 xs_161 h
  exact ⟨r, M1, en_161 ha hw, hq⟩
theorem eq_162 {d : Nat} {A : List Value} {M : pm_M} {Q : Option Value → pm_M → Prop} (ha : (pm_in0 A).length ≤ 4) (h : pm_WP (pm_call d) tb_162 Q 0 (pm_init 4 A) [] M) : ∃ r M', pm_call (d + 1) 162 A M r M' ∧ Q r M' := by
  obtain ⟨r, M1, hq, hw⟩ := wp_ex ms_162 xs_162 h
  exact ⟨r, M1, en_162 ha hw, hq⟩
theorem eq_163 {d : Nat} {A : List Value} {M : pm_M} {Q : Option Value → pm_M → Prop} (ha : (pm_in0 A).length ≤ 5) (h : pm_WP (pm_call d) tb_163 Q 0 (pm_init 5 A) [] M) : ∃ r M', pm_call (d + 1) 163 A M r M' ∧ Q r M' := by
  obtain ⟨r, M1, hq, hw⟩ := wp_ex ms_163 xs_163 h
  exact ⟨r, M1, en_163 ha hw, hq⟩
theorem eq_164 {d : Nat} {A : List Value} {M : pm_M} {Q : Option Value → pm_M → Prop} (ha : (pm_in0 A).length ≤ 3) (h : pm_WP (pm_call d) tb_164 Q 0 (pm_init 3 A) [] M) : ∃ r M', pm_call (d + 1) 164 A M r M' ∧ Q r M' := by
  obtain ⟨r, M1, hq, hw⟩ := wp_ex ms_164 xs_164 h
  exact ⟨r, M1, en_164 ha hw, hq⟩
theorem eq_165 {d : Nat} {A : List Value} {M : pm_M} {Q : Option Value → pm_M → Prop} (ha : (pm_in0 A).length ≤ 2) (h : pm_WP (pm_call d) tb_165 Q 0 (pm_init 2 A) [] M) : ∃ r M', pm_call (d + 1) 165 A M r M' ∧ Q r M' := by
  obtain ⟨r, M1, hq, hw⟩ := wp_ex ms_165 xs_165 h
  exact ⟨r, M1, en_165 ha hw, hq⟩
theorem eq_166 {d : Nat} {A : List Value} {M : pm_M} {Q : Option Value → pm_M → Prop} (ha : (pm_in0 A).length ≤ 7) (h : pm_WP (pm_call d) tb_166 Q 0 (pm_init 7 A) [] M) : ∃ r M', pm_call (d + 1) 166 A M r M' ∧ Q r M' := by
  obtain ⟨r, M1, hq, hw⟩ := wp_ex ms_166 xs_166 h
  exact ⟨r, M1, en_166 ha hw, hq⟩
theorem eq_167 {d : Nat} {A : List Value} {M : pm_M} {Q : Option Value → pm_M → Prop} (ha : (pm_in0 A).length ≤ 5) (h : pm_WP (pm_call d) tb_167 Q 0 (pm_init 5 A) [] M) : ∃ r M', pm_call (d + 1) 167 A M r M' ∧ Q r M' := by
  obtain ⟨r, M1, hq, hw⟩ := wp_ex ms_167 xs_167 h
  exact ⟨r, M1, en_167 ha hw, hq⟩
theorem eq_168 {d : Nat} {A : List Value} {M : pm_M} {Q : Option Value → pm_M → Prop} (ha : (pm_in0 A).length ≤ 1) (h : pm_WP (pm_call d) tb_168 Q 0 (pm_init 1 A) [] M) : ∃ r M', pm_call (d + 1) 168 A M r M' ∧ Q r M' := by
  obtain ⟨r, M1, hq, hw⟩ := wp_ex ms_168 xs_168 h
  exact ⟨r, M1, en_168 ha hw, hq⟩
theorem eq_169 {d : Nat} {A : List Value} {M : pm_M} {Q : Option Value → pm_M → Prop} (ha : (pm_in0 A).length ≤ 4) (h : pm_WP (pm_call d) tb_169 Q 0 (pm_init 4 A) [] M) : ∃ r M', pm_call (d + 1) 169 A M r M' ∧ Q r M' := by
  obtain ⟨r, M1, hq, hw⟩ := wp_ex ms_169 xs_169 h
  exact ⟨r, M1, en_169 ha hw, hq⟩
theorem eq_170 {d : Nat} {A : List Value} {M : pm_M} {Q : Option Value → pm_M → Prop} (ha : (pm_in0 A).length ≤ 5) (h : pm_WP (pm_call d) tb_170 Q 0 (pm_init 5 A) [] M) : ∃ r M', pm_call (d + 1) 170 A M r M' ∧ Q r M' := by
  obtain ⟨r, M1, hq, hw⟩ := wp_ex ms_170 xs_170 h
  exact ⟨r, M1, en_170 ha hw, hq⟩
theorem eq_171 {d : Nat} {A : List Value} {M : pm_M} {Q : Option Value → pm_M → Prop} (ha : (pm_in0 A).length ≤ 3) (h : pm_WP (pm_call d) tb_171 Q 0 (pm_init 3 A) [] M) : ∃ r M', pm_call (d + 1) 171 A M r M' ∧ Q r M' := by
  obtain ⟨r, M1, hq, hw⟩ := wp_ex ms_171 xs_171 h
  exact ⟨r, M1, en_171 ha hw, hq⟩
theorem eq_172 {d : Nat} {A : List Value} {M : pm_M} {Q : Option Value → pm_M → Prop} (ha : (pm_in0 A).length ≤ 5) (h : pm_WP (pm_call d) tb_172 Q 0 (pm_init 5 A) [] M) : ∃ r M', pm_call (d + 1) 172 A M r M' ∧ Q r M' := by
  obtain ⟨r, M1, hq, hw⟩ := wp_ex ms_172 xs_172 h
  exact ⟨r, M1, en_172 ha hw, hq⟩
theorem eq_173 {d : Nat} {A : List Value} {M : pm_M} {Q : Option Value → pm_M → Prop} (ha : (pm_in0 A).length ≤ 1) (h : pm_WP (pm_call d) tb_173 Q 0 (pm_init 1 A) [] M) : ∃ r M', pm_call (d + 1) 173 A M r M' ∧ Q r M' := by
  obtain ⟨r, M1, hq, hw⟩ := wp_ex ms_173 xs_173 h
  exact ⟨r, M1, en_173 ha hw, hq⟩
theorem eq_174 {d : Nat} {A : List Value} {M : pm_M} {Q : Option Value → pm_M → Prop} (ha : (pm_in0 A).length ≤ 5) (h : pm_WP (pm_call d) tb_174 Q 0 (pm_init 5 A) [] M) : ∃ r M', pm_call (d + 1) 174 A M r M' ∧ Q r M' := by
  obtain ⟨r, M1, hq, hw⟩ := wp_ex ms_174 xs_174 h
  exact ⟨r, M1, en_174 ha hw, hq⟩
theorem eq_175 {d : Nat} {A : List Value} {M : pm_M} {Q : Option Value → pm_M → Prop} (ha : (pm_in0 A).length ≤ 4) (h : pm_WP (pm_call d) tb_175 Q 0 (pm_init 4 A) [] M) : ∃ r M', pm_call (d + 1) 175 A M r M' ∧ Q r M' := by
  obtain ⟨r, M1, hq, hw⟩ := wp_ex ms_175 xs_175 h
  exact ⟨r, M1, en_175 ha hw, hq⟩
theorem eq_176 {d : Nat} {A : List Value} {M : pm_M} {Q : Option Value → pm_M → Prop} (ha : (pm_in0 A).length ≤ 4) (h : pm_WP (pm_call d) tb_176 Q 0 (pm_init 4 A) [] M) : ∃ r M', pm_call (d + 1) 176 A M r M' ∧ Q r M' := by
  obtain ⟨r, M1, hq, hw⟩ := wp_ex ms_176 xs_176 h
  exact ⟨r, M1, en_176 ha hw, hq⟩
theorem eq_177 {d : Nat} {A : List Value} {M : pm_M} {Q : Option Value → pm_M → Prop} (ha : (pm_in0 A).length ≤ 3) (h : pm_WP (pm_call d) tb_177 Q 0 (pm_init 3 A) [] M) : ∃ r M', pm_call (d + 1) 177 A M r M' ∧ Q r M' := by
  obtain ⟨r, M1, hq, hw⟩ := wp_ex ms_177 xs_177 h
  exact ⟨r, M1, en_177 ha hw, hq⟩
theorem eq_178 {d : Nat} {A : List Value} {M : pm_M} {Q : Option Value → pm_M → Prop} (ha : (pm_in0 A).length ≤ 3) (h : pm_WP (pm_call d) tb_178 Q 0 (pm_init 3 A) [] M) : ∃ r M', pm_call (d + 1) 178 A M r M' ∧ Q r M' := by
  obtain ⟨r, M1, hq, hw⟩ := wp_ex ms_178 xs_178 h
  exact ⟨r, M1, en_178 ha hw, hq⟩
theorem eq_179 {d : Nat} {A : List Value} {M : pm_M} {Q : Option Value → pm_M → Prop} (ha : (pm_in0 A).length ≤ 3) (h : pm_WP (pm_call d) tb_179 Q 0 (pm_init 3 A) [] M) : ∃ r M', pm_call (d + 1) 179 A M r M' ∧ Q r M' := by
  obtain ⟨r, M1, hq, hw⟩ := wp_ex ms_179 xs_179 h
  exact ⟨r, M1, en_179 ha hw, hq⟩
theorem eq_180 {d : Nat} {A : List Value} {M : pm_M} {Q : Option Value → pm_M → Prop} (ha : (pm_in0 A).length ≤ 2) (h : pm_WP (pm_call d) tb_180 Q 0 (pm_init 2 A) [] M) : ∃ r M', pm_call (d + 1) 180 A M r M' ∧ Q r M' := by
  obtain ⟨r, M1, hq, hw⟩ := wp_ex ms_180 xs_180 h
  exact ⟨r, M1, en_180 ha hw, hq⟩
theorem eq_181 {d : Nat} {A : List Value} {M : pm_M} {Q : Option Value → pm_M → Prop} (ha : (pm_in0 A).length ≤ 3) (h : pm_WP (pm_call d) tb_181 Q 0 (pm_init 3 A) [] M) : ∃ r M', pm_call (d + 1) 181 A M r M' ∧ Q r M' := by
  obtain ⟨r, M1, hq, hw⟩ := wp_ex ms_181 xs_181 h
  exact ⟨r, M1, en_181 ha hw, hq⟩
theorem eq_182 {d : Nat} {A : List Value} {M : pm_M} {Q : Option Value → pm_M → Prop} (ha : (pm_in0 A).length ≤ 2) (h : pm_WP (pm_call d) tb_182 Q 0 (pm_init 2 A) [] M) : ∃ r M', pm_call (d + 1) 182 A M r M' ∧ Q r M' := by
  obtain ⟨r, M1, hq, hw⟩ := wp_ex ms_182 xs_182 h
  exact ⟨r, M1, en_182 ha hw, hq⟩
theorem eq_183 {d : Nat} {A : List Value} {M : pm_M} {Q : Option Value → pm_M → Prop} (ha : (pm_in0 A).length ≤ 2) (h : pm_WP (pm_call d) tb_183 Q 0 (pm_init 2 A) [] M) : ∃ r M', pm_call (d + 1) 183 A M r M' ∧ Q r M' := by
  obtain ⟨r, M1, hq, hw⟩ := wp_ex ms_183 xs_183 h
  exact ⟨r, M1, en_183 ha hw, hq⟩
theorem eq_184 {d : Nat} {A : List Value} {M : pm_M} {Q : Option Value → pm_M → Prop} (ha : (pm_in0 A).length ≤ 2) (h : pm_WP (pm_call d) tb_184 Q 0 (pm_init 2 A) [] M) : ∃ r M', pm_call (d + 1) 184 A M r M' ∧ Q r M' := by
  obtain ⟨r, M1, hq, hw⟩ := wp_ex ms_184 xs_184 h
  exact ⟨r, M1, en_184 ha hw, hq⟩
theorem eq_185 {d : Nat} {A : List Value} {M : pm_M} {Q : Option Value → pm_M → Prop} (ha : (pm_in0 A).length ≤ 3) (h : pm_WP (pm_call d) tb_185 Q 0 (pm_init 3 A) [] M) : ∃ r M', pm_call (d + 1) 185 A M r M' ∧ Q r M' := by
  obtain ⟨r, M1, hq, hw⟩ := wp_ex ms_185 xs_185 h
  exact ⟨r, M1, en_185 ha hw, hq⟩
theorem eq_186 {d : Nat} {A : List Value} {M : pm_M} {Q : Option Value → pm_M → Prop} (ha : (pm_in0 A).length ≤ 2) (h : pm_WP (pm_call d) tb_186 Q 0 (pm_init 2 A) [] M) : ∃ r M', pm_call (d + 1) 186 A M r M' ∧ Q r M' := by
  obtain ⟨r, M1, hq, hw⟩ := wp_ex ms_186 xs_186 h
  exact ⟨r, M1, en_186 ha hw, hq⟩
theorem eq_187 {d : Nat} {A : List Value} {M : pm_M} {Q : Option Value → pm_M → Prop} (ha : (pm_in0 A).length ≤ 4) (h : pm_WP (pm_call d) tb_187 Q 0 (pm_init 4 A) [] M) : ∃ r M', pm_call (d + 1) 187 A M r M' ∧ Q r M' := by
  obtain ⟨r, M1, hq, hw⟩ := wp_ex ms_187 xs_187 h
  exact ⟨r, M1, en_187 ha hw, hq⟩
theorem eq_188 {d : Nat} {A : List Value} {M : pm_M} {Q : Option Value → pm_M → Prop} (ha : (pm_in0 A).length ≤ 1) (h : pm_WP (pm_call d) tb_188 Q 0 (pm_init 1 A) [] M) : ∃ r M', pm_call (d + 1) 188 A M r M' ∧ Q r M' := by
  obtain ⟨r, M1, hq, hw⟩ := wp_ex ms_188 xs_188 h
  exact ⟨r, M1, en_188 ha hw, hq⟩
theorem eq_189 {d : Nat} {A : List Value} {M : pm_M} {Q : Option Value → pm_M → Prop} (ha : (pm_in0 A).length ≤ 3) (h : pm_WP (pm_call d) tb_189 Q 0 (pm_init 3 A) [] M) : ∃ r M', pm_call (d + 1) 189 A M r M' ∧ Q r M' := by
  obtain ⟨r, M1, hq, hw⟩ := wp_ex ms_189 xs_189 h
  exact ⟨r, M1, en_189 ha hw, hq⟩
theorem eq_190 {d : Nat} {A : List Value} {M : pm_M} {Q : Option Value → pm_M → Prop} (ha : (pm_in0 A).length ≤ 3) (h : pm_WP (pm_call d) tb_190 Q 0 (pm_init 3 A) [] M) : ∃ r M', pm_call (d + 1) 190 A M r M' ∧ Q r M' := by
  obtain ⟨r, M1, hq, hw⟩ := wp_ex ms_190 xs_190 h
  exact ⟨r, M1, en_190 ha hw, hq⟩
theorem eq_191 {d : Nat} {A : List Value} {M : pm_M} {Q : Option Value → pm_M → Prop} (ha : (pm_in0 A).length ≤ 4) (h : pm_WP (pm_call d) tb_191 Q 0 (pm_init 4 A) [] M) : ∃ r M', pm_call (d + 1) 191 A M r M' ∧ Q r M' := by
  obtain ⟨r, M1, hq, hw⟩ := wp_ex ms_191 xs_191 h
  exact ⟨r, M1, en_191 ha hw, hq⟩
theorem eq_192 {d : Nat} {A : List Value} {M : pm_M} {Q : Option Value → pm_M → Prop} (ha : (pm_in0 A).length ≤ 4) (h : pm_WP (pm_call d) tb_192 Q 0 (pm_init 4 A) [] M) : ∃ r M', pm_call (d + 1) 192 A M r M' ∧ Q r M' := by
  obtain ⟨r, M1, hq, hw⟩ := wp_ex ms_192 xs_192 h
  exact ⟨r, M1, en_192 ha hw, hq⟩
theorem eq_193 {d : Nat} {A : List Value} {M : pm_M} {Q : Option Value → pm_M → Prop} (ha : (pm_in0 A).length ≤ 4) (h : pm_WP (pm_call d) tb_193 Q 0 (pm_init 4 A) [] M) : ∃ r M', pm_call (d + 1) 193 A M r M' ∧ Q r M' := by
  obtain ⟨r, M1, hq, hw⟩ := wp_ex ms_193 xs_193 h
  exact ⟨r, M1, en_193 ha hw, hq⟩
theorem eq_194 {d : Nat} {A : List Value} {M : pm_M} {Q : Option Value → pm_M → Prop} (ha : (pm_in0 A).length ≤ 3) (h : pm_WP (pm_call d) tb_194 Q 0 (pm_init 3 A) [] M) : ∃ r M', pm_call (d + 1) 194 A M r M' ∧ Q r M' := by
  obtain ⟨r, M1, hq, hw⟩ := wp_ex ms_194 xs_194 h
  exact ⟨r, M1, en_194 ha hw, hq⟩
theorem eq_195 {d : Nat} {A : List Value} {M : pm_M} {Q : Option Value → pm_M → Prop} (ha : (pm_in0 A).length ≤ 4) (h : pm_WP (pm_call d) tb_195 Q 0 (pm_init 4 A) [] M) : ∃ r M', pm_call (d + 1) 195 A M r M' ∧ Q r M' := by
  obtain ⟨r, M1, hq, hw⟩ := wp_ex ms_195 xs_195 h
  exact ⟨r, M1, en_195 ha hw, hq⟩
theorem eq_196 {d : Nat} {A : List Value} {M : pm_M} {Q : Option Value → pm_M → Prop} (ha : (pm_in0 A).length ≤ 3) (h : pm_WP (pm_call d) tb_196 Q 0 (pm_init 3 A) [] M) : ∃ r M', pm_call (d + 1) 196 A M r M' ∧ Q r M' := by
  obtain ⟨r, M1, hq, hw⟩ := wp_ex ms_196 xs_196 h
  exact ⟨r, M1, en_196 ha hw, hq⟩
theorem eq_197 {d : Nat} {A : List Value} {M : pm_M} {Q : Option Value → pm_M → Prop} (ha : (pm_in0 A).length ≤ 3) (h : pm_WP (pm_call d) tb_197 Q 0 (pm_init 3 A) [] M) : ∃ r M', pm_call (d + 1) 197 A M r M' ∧ Q r M' := by
  obtain ⟨r, M1, hq, hw⟩ := wp_ex ms_197 xs_197 h
  exact ⟨r, M1, en_197 ha hw, hq⟩
theorem eq_198 {d : Nat} {A : List Value} {M : pm_M} {Q : Option Value → pm_M → Prop} (ha : (pm_in0 A).length ≤ 1) (h : pm_WP (pm_call d) tb_198 Q 0 (pm_init 1 A) [] M) : ∃ r M', pm_call (d + 1) 198 A M r M' ∧ Q r M' := by
  obtain ⟨r, M1, hq, hw⟩ := wp_ex ms_198 xs_198 h
  exact ⟨r, M1, en_198 ha hw, hq⟩
theorem eq_199 {d : Nat} {A : List Value} {M : pm_M} {Q : Option Value → pm_M → Prop} (ha : (pm_in0 A).length ≤ 3) (h : pm_WP (pm_call d) tb_199 Q 0 (pm_init 3 A) [] M) : ∃ r M', pm_call (d + 1) 199 A M r M' ∧ Q r M' := by
  obtain ⟨r, M1, hq, hw⟩ := wp_ex ms_199 xs_199 h
  exact ⟨r, M1, en_199 ha hw, hq⟩
theorem eq_200 {d : Nat} {A : List Value} {M : pm_M} {Q : Option Value → pm_M → Prop} (ha : (pm_in0 A).length ≤ 3) (h : pm_WP (pm_call d) tb_200 Q 0 (pm_init 3 A) [] M) : ∃ r M', pm_call (d + 1) 200 A M r M' ∧ Q r M' := by
  obtain ⟨r, M1, hq, hw⟩ := wp_ex ms_200 xs_200 h
  exact ⟨r, M1, en_200 ha hw, hq⟩
theorem eq_201 {d : Nat} {A : List Value} {M : pm_M} {Q : Option Value → pm_M → Prop} (ha : (pm_in0 A).length ≤ 2) (h : pm_WP (pm_call d) tb_201 Q 0 (pm_init 2 A) [] M) : ∃ r M', pm_call (d + 1) 201 A M r M' ∧ Q r M' := by
  obtain ⟨r, M1, hq, hw⟩ := wp_ex ms_201 xs_201 h
  exact ⟨r, M1, en_201 ha hw, hq⟩
theorem eq_202 {d : Nat} {A : List Value} {M : pm_M} {Q : Option Value → pm_M → Prop} (ha : (pm_in0 A).length ≤ 2) (h : pm_WP (pm_call d) tb_202 Q 0 (pm_init 2 A) [] M) : ∃ r M', pm_call (d + 1) 202 A M r M' ∧ Q r M' := by
  obtain ⟨r, M1, hq, hw⟩ := wp_ex ms_202 xs_202 h
  exact ⟨r, M1, en_202 ha hw, hq⟩
theorem eq_203 {d : Nat} {A : List Value} {M : pm_M} {Q : Option Value → pm_M → Prop} (ha : (pm_in0 A).length ≤ 2) (h : pm_WP (pm_call d) tb_203 Q 0 (pm_init 2 A) [] M) : ∃ r M', pm_call (d + 1) 203 A M r M' ∧ Q r M' := by
  obtain ⟨r, M1, hq, hw⟩ := wp_ex ms_203 xs_203 h
  exact ⟨r, M1, en_203 ha hw, hq⟩
theorem eq_204 {d : Nat} {A : List Value} {M : pm_M} {Q : Option Value → pm_M → Prop} (ha : (pm_in0 A).length ≤ 2) (h : pm_WP (pm_call d) tb_204 Q 0 (pm_init 2 A) [] M) : ∃ r M', pm_call (d + 1) 204 A M r M' ∧ Q r M' := by
  obtain ⟨r, M1, hq, hw⟩ := wp_ex ms_204 xs_204 h
  exact ⟨r, M1, en_204 ha hw, hq⟩
theorem eq_205 {d : Nat} {A : List Value} {M : pm_M} {Q : Option Value → pm_M → Prop} (ha : (pm_in0 A).length ≤ 2) (h : pm_WP (pm_call d) tb_205 Q 0 (pm_init 2 A) [] M) : ∃ r M', pm_call (d + 1) 205 A M r M' ∧ Q r M' := by
  obtain ⟨r, M1, hq, hw⟩ := wp_ex ms_205 xs_205 h
  exact ⟨r, M1, en_205 ha hw, hq⟩
theorem eq_206 {d : Nat} {A : List Value} {M : pm_M} {Q : Option Value → pm_M → Prop} (ha : (pm_in0 A).length ≤ 1) (h : pm_WP (pm_call d) tb_206 Q 0 (pm_init 1 A) [] M) : ∃ r M', pm_call (d + 1) 206 A M r M' ∧ Q r M' := by
  obtain ⟨r, M1, hq, hw⟩ := wp_ex ms_206 xs_206 h
  exact ⟨r, M1, en_206 ha hw, hq⟩
theorem eq_207 {d : Nat} {A : List Value} {M : pm_M} {Q : Option Value → pm_M → Prop} (ha : (pm_in0 A).length ≤ 2) (h : pm_WP (pm_call d) tb_207 Q 0 (pm_init 2 A) [] M) : ∃ r M', pm_call (d + 1) 207 A M r M' ∧ Q r M' := by
  obtain ⟨r, M1, hq, hw⟩ := wp_ex ms_207 xs_207 h
  exact ⟨r, M1, en_207 ha hw, hq⟩
theorem eq_208 {d : Nat} {A : List Value} {M : pm_M} {Q : Option Value → pm_M → Prop} (ha : (pm_in0 A).length ≤ 2) (h : pm_WP (pm_call d) tb_208 Q 0 (pm_init 2 A) [] M) : ∃ r M', pm_call (d + 1) 208 A M r M' ∧ Q r M' := by
  obtain ⟨r, M1, hq, hw⟩ := wp_ex ms_208 xs_208 h
  exact ⟨r, M1, en_208 ha hw, hq⟩
theorem eq_209 {d : Nat} {A : List Value} {M : pm_M} {Q : Option Value → pm_M → Prop} (ha : (pm_in0 A).length ≤ 2) (h : pm_WP (pm_call d) tb_209 Q 0 (pm_init 2 A) [] M) : ∃ r M', pm_call (d + 1) 209 A M r M' ∧ Q r M' := by
  obtain ⟨r, M1, hq, hw⟩ := wp_ex ms_209 xs_209 h
  exact ⟨r, M1, en_209 ha hw, hq⟩
theorem eq_210 {d : Nat} {A : List Value} {M : pm_M} {Q : Option Value → pm_M → Prop} (ha : (pm_in0 A).length ≤ 3) (h : pm_WP (pm_call d) tb_210 Q 0 (pm_init 3 A) [] M) : ∃ r M', pm_call (d + 1) 210 A M r M' ∧ Q r M' := by
  obtain ⟨r, M1, hq, hw⟩ := wp_ex ms_210 xs_210 h
  exact ⟨r, M1, en_210 ha hw, hq⟩
theorem eq_211 {d : Nat} {A : List Value} {M : pm_M} {Q : Option Value → pm_M → Prop} (ha : (pm_in0 A).length ≤ 3) (h : pm_WP (pm_call d) tb_211 Q 0 (pm_init 3 A) [] M) : ∃ r M', pm_call (d + 1) 211 A M r M' ∧ Q r M' := by
  obtain ⟨r, M1, hq, hw⟩ := wp_ex ms_211 xs_211 h
  exact ⟨r, M1, en_211 ha hw, hq⟩
theorem eq_212 {d : Nat} {A : List Value} {M : pm_M} {Q : Option Value → pm_M → Prop} (ha : (pm_in0 A).length ≤ 3) (h : pm_WP (pm_call d) tb_212 Q 0 (pm_init 3 A) [] M) : ∃ r M', pm_call (d + 1) 212 A M r M' ∧ Q r M' := by
  obtain ⟨r, M1, hq, hw⟩ := wp_ex ms_212 xs_212 h
  exact ⟨r, M1, en_212 ha hw, hq⟩
theorem eq_213 {d : Nat} {A : List Value} {M : pm_M} {Q : Option Value → pm_M → Prop} (ha : (pm_in0 A).length ≤ 4) (h : pm_WP (pm_call d) tb_213 Q 0 (pm_init 4 A) [] M) : ∃ r M', pm_call (d + 1) 213 A M r M' ∧ Q r M' := by
  obtain ⟨r, M1, hq, hw⟩ := wp_ex ms_213 xs_213 h
  exact ⟨r, M1, en_213 ha hw, hq⟩
theorem eq_214 {d : Nat} {A : List Value} {M : pm_M} {Q : Option Value → pm_M → Prop} (ha : (pm_in0 A).length ≤ 4) (h : pm_WP (pm_call d) tb_214 Q 0 (pm_init 4 A) [] M) : ∃ r M', pm_call (d + 1) 214 A M r M' ∧ Q r M' := by
  obtain ⟨r, M1, hq, hw⟩ := wp_ex ms_214 xs_214 h
  exact ⟨r, M1, en_214 ha hw, hq⟩
theorem eq_215 {d : Nat} {A : List Value} {M : pm_M} {Q : Option Value → pm_M → Prop} (ha : (pm_in0 A).length ≤ 6) (h : pm_WP (pm_call d) tb_215 Q 0 (pm_init 6 A) [] M) : ∃ r M', pm_call (d + 1) 215 A M r M' ∧ Q r M' := by
  obtain ⟨r, M1, hq, hw⟩ := wp_ex ms_215 xs_215 h
  exact ⟨r, M1, en_215 ha hw, hq⟩
theorem eq_216 {d : Nat} {A : List Value} {M : pm_M} {Q : Option Value → pm_M → Prop} (ha : (pm_in0 A).length ≤ 3) (h : pm_WP (pm_call d) tb_216 Q 0 (pm_init 3 A) [] M) : ∃ r M', pm_call (d + 1) 216 A M r M' ∧ Q r M' := by
  obtain ⟨r, M1, hq, hw⟩ := wp_ex ms_216 xs_216 h
  exact ⟨r, M1, en_216 ha hw, hq⟩
theorem eq_217 {d : Nat} {A : List Value} {M : pm_M} {Q : Option Value → pm_M → Prop} (ha : (pm_in0 A).length ≤ 4) (h : pm_WP (pm_call d) tb_217 Q 0 (pm_init 4 A) [] M) : ∃ r M', pm_call (d + 1) 217 A M r M' ∧ Q r M' := by
  obtain ⟨r, M1, hq, hw⟩ := wp_ex ms_217 xs_217 h
  exact ⟨r, M1, en_217 ha hw, hq⟩
theorem eq_218 {d : Nat} {A : List Value} {M : pm_M} {Q : Option Value → pm_M → Prop} (ha : (pm_in0 A).length ≤ 3) (h : pm_WP (pm_call d) tb_218 Q 0 (pm_init 3 A) [] M) : ∃ r M', pm_call (d + 1) 218 A M r M' ∧ Q r M' := by
  obtain ⟨r, M1, hq, hw⟩ := wp_ex ms_218 xs_218 h
  exact ⟨r, M1, en_218 ha hw, hq⟩
theorem eq_219 {d : Nat} {A : List Value} {M : pm_M} {Q : Option Value → pm_M → Prop} (ha : (pm_in0 A).length ≤ 8) (h : pm_WP (pm_call d) tb_219 Q 0 (pm_init 8 A) [] M) : ∃ r M', pm_call (d + 1) 219 A M r M' ∧ Q r M' := by
  obtain ⟨r, M1, hq, hw⟩ := wp_ex ms_219 xs_219 h
  exact ⟨r, M1, en_219 ha hw, hq⟩
theorem eq_220 {d : Nat} {A : List Value} {M : pm_M} {Q : Option Value → pm_M → Prop} (ha : (pm_in0 A).length ≤ 6) (h : pm_WP (pm_call d) tb_220 Q 0 (pm_init 6 A) [] M) : ∃ r M', pm_call (d + 1) 220 A M r M' ∧ Q r M' := by
  obtain ⟨r, M1, hq, hw⟩ := wp_ex ms_220 xs_220 h
  exact ⟨r, M1, en_220 ha hw, hq⟩
theorem eq_221 {d : Nat} {A : List Value} {M : pm_M} {Q : Option Value → pm_M → Prop} (ha : (pm_in0 A).length ≤ 2) (h : pm_WP (pm_call d) tb_221 Q 0 (pm_init 2 A) [] M) : ∃ r M', pm_call (d + 1) 221 A M r M' ∧ Q r M' := by
  obtain ⟨r, M1, hq, hw⟩ := wp_ex ms_221 xs_221 h
  exact ⟨r, M1, en_221 ha hw, hq⟩
theorem eq_222 {d : Nat} {A : List Value} {M : pm_M} {Q : Option Value → pm_M → Prop} (ha : (pm_in0 A).length ≤ 5) (h : pm_WP (pm_call d) tb_222 Q 0 (pm_init 5 A) [] M) : ∃ r M', pm_call (d + 1) 222 A M r M' ∧ Q r M' := by
  obtain ⟨r, M1, hq, hw⟩ := wp_ex ms_222 xs_222 h
  exact ⟨r, M1, en_222 ha hw, hq⟩
theorem eq_223 {d : Nat} {A : List Value} {M : pm_M} {Q : Option Value → pm_M → Prop} (ha : (pm_in0 A).length ≤ 10) (h : pm_WP (pm_call d) tb_223 Q 0 (pm_init 10 A) [] M) : ∃ r M', pm_call (d + 1) 223 A M r M' ∧ Q r M' := by
  obtain ⟨r, M1, hq, hw⟩ := wp_ex ms_223 xs_223 h
  exact ⟨r, M1, en_223 ha hw, hq⟩
theorem eq_224 {d : Nat} {A : List Value} {M : pm_M} {Q : Option Value → pm_M → Prop} (ha : (pm_in0 A).length ≤ 3) (h : pm_WP (pm_call d) tb_224 Q 0 (pm_init 3 A) [] M) : ∃ r M', pm_call (d + 1) 224 A M r M' ∧ Q r M' := by
  obtain ⟨r, M1, hq, hw⟩ := wp_ex ms_224 xs_224 h
  exact ⟨r, M1, en_224 ha hw, hq⟩
theorem eq_225 {d : Nat} {A : List Value} {M : pm_M} {Q : Option Value → pm_M → Prop} (ha : (pm_in0 A).length ≤ 4) (h : pm_WP (pm_call d) tb_225 Q 0 (pm_init 4 A) [] M) : ∃ r M', pm_call (d + 1) 225 A M r M' ∧ Q r M' := by
  obtain ⟨r, M1, hq, hw⟩ := wp_ex ms_225 xs_225 h
  exact ⟨r, M1, en_225 ha hw, hq⟩
theorem eq_226 {d : Nat} {A : List Value} {M : pm_M} {Q : Option Value → pm_M → Prop} (ha : (pm_in0 A).length ≤ 3) (h : pm_WP (pm_call d) tb_226 Q 0 (pm_init 3 A) [] M) : ∃ r M', pm_call (d + 1) 226 A M r M' ∧ Q r M' := by
  obtain ⟨r, M1, hq, hw⟩ := wp_ex ms_226 xs_226 h
  exact ⟨r, M1, en_226 ha hw, hq⟩
theorem eq_227 {d : Nat} {A : List Value} {M : pm_M} {Q : Option Value → pm_M → Prop} (ha : (pm_in0 A).length ≤ 2) (h : pm_WP (pm_call d) tb_227 Q 0 (pm_init 2 A) [] M) : ∃ r M', pm_call (d + 1) 227 A M r M' ∧ Q r M' := by
  obtain ⟨r, M1, hq, hw⟩ := wp_ex ms_227 xs_227 h
  exact ⟨r, M1, en_227 ha hw, hq⟩
theorem eq_228 {d : Nat} {A : List Value} {M : pm_M} {Q : Option Value → pm_M → Prop} (ha : (pm_in0 A).length ≤ 4) (h : pm_WP (pm_call d) tb_228 Q 0 (pm_init 4 A) [] M) : ∃ r M', pm_call (d + 1) 228 A M r M' ∧ Q r M' := by
  obtain ⟨r, M1, hq, hw⟩ := wp_ex ms_228 xs_228 h
  exact ⟨r, M1, en_228 ha hw, hq⟩
theorem eq_229 {d : Nat} {A : List Value} {M : pm_M} {Q : Option Value → pm_M → Prop} (ha : (pm_in0 A).length ≤ 6) (h : pm_WP (pm_call d) tb_229 Q 0 (pm_init 6 A) [] M) : ∃ r M', pm_call (d + 1) 229 A M r M' ∧ Q r M' := by
  obtain ⟨r, M1, hq, hw⟩ := wp_ex ms_229 xs_229 h
  exact ⟨r, M1, en_229 ha hw, hq⟩
theorem eq_230 {d : Nat} {A : List Value} {M : pm_M} {Q : Option Value → pm_M → Prop} (ha : (pm_in0 A).length ≤ 1) (h : pm_WP (pm_call d) tb_230 Q 0 (pm_init 1 A) [] M) : ∃ r M', pm_call (d + 1) 230 A M r M' ∧ Q r M' := by
  obtain ⟨r, M1, hq, hw⟩ := wp_ex ms_230 xs_230 h
  exact ⟨r, M1, en_230 ha hw, hq⟩
theorem eq_231 {d : Nat} {A : List Value} {M : pm_M} {Q : Option Value → pm_M → Prop} (ha : (pm_in0 A).length ≤ 2) (h : pm_WP (pm_call d) tb_231 Q 0 (pm_init 2 A) [] M) : ∃ r M', pm_call (d + 1) 231 A M r M' ∧ Q r M' := by
  obtain ⟨r, M1, hq, hw⟩ := wp_ex ms_231 xs_231 h
  exact ⟨r, M1, en_231 ha hw, hq⟩
theorem eq_232 {d : Nat} {A : List Value} {M : pm_M} {Q : Option Value → pm_M → Prop} (ha : (pm_in0 A).length ≤ 6) (h : pm_WP (pm_call d) tb_232 Q 0 (pm_init 6 A) [] M) : ∃ r M', pm_call (d + 1) 232 A M r M' ∧ Q r M' := by
  obtain ⟨r, M1, hq, hw⟩ := wp_ex ms_232 xs_232 h
  exact ⟨r, M1, en_232 ha hw, hq⟩
theorem eq_233 {d : Nat} {A : List Value} {M : pm_M} {Q : Option Value → pm_M → Prop} (ha : (pm_in0 A).length ≤ 5) (h : pm_WP (pm_call d) tb_233 Q 0 (pm_init 5 A) [] M) : ∃ r M', pm_call (d + 1) 233 A M r M' ∧ Q r M' := by
  obtain ⟨r, M1, hq, hw⟩ := wp_ex ms_233 xs_233 h
  exact ⟨r, M1, en_233 ha hw, hq⟩
theorem eq_234 {d : Nat} {A : List Value} {M : pm_M} {Q : Option Value → pm_M → Prop} (ha : (pm_in0 A).length ≤ 5) (h : pm_WP (pm_call d) tb_234 Q 0 (pm_init 5 A) [] M) : ∃ r M', pm_call (d + 1) 234 A M r M' ∧ Q r M' := by
  obtain ⟨r, M1, hq, hw⟩ := wp_ex ms_234 xs_234 h
  exact ⟨r, M1, en_234 ha hw, hq⟩
theorem eq_235 {d : Nat} {A : List Value} {M : pm_M} {Q : Option Value → pm_M → Prop} (ha : (pm_in0 A).length ≤ 1) (h : pm_WP (pm_call d) tb_235 Q 0 (pm_init 1 A) [] M) : ∃ r M', pm_call (d + 1) 235 A M r M' ∧ Q r M' := by
  obtain ⟨r, M1, hq, hw⟩ := wp_ex ms_235 xs_235 h
  exact ⟨r, M1, en_235 ha hw, hq⟩
theorem eq_236 {d : Nat} {A : List Value} {M : pm_M} {Q : Option Value → pm_M → Prop} (ha : (pm_in0 A).length ≤ 5) (h : pm_WP (pm_call d) tb_236 Q 0 (pm_init 5 A) [] M) : ∃ r M', pm_call (d + 1) 236 A M r M' ∧ Q r M' := by
  obtain ⟨r, M1, hq, hw⟩ := wp_ex ms_236 xs_236 h
  exact ⟨r, M1, en_236 ha hw, hq⟩
theorem eq_237 {d : Nat} {A : List Value} {M : pm_M} {Q : Option Value → pm_M → Prop} (ha : (pm_in0 A).length ≤ 5) (h : pm_WP (pm_call d) tb_237 Q 0 (pm_init 5 A) [] M) : ∃ r M', pm_call (d + 1) 237 A M r M' ∧ Q r M' := by
  obtain ⟨r, M1, hq, hw⟩ := wp_ex ms_237 xs_237 h
  exact ⟨r, M1, en_237 ha hw, hq⟩
theorem eq_238 {d : Nat} {A : List Value} {M : pm_M} {Q : Option Value → pm_M → Prop} (ha : (pm_in0 A).length ≤ 5) (h : pm_WP (pm_call d) tb_238 Q 0 (pm_init 5 A) [] M) : ∃ r M', pm_call (d + 1) 238 A M r M' ∧ Q r M' := by
  obtain ⟨r, M1, hq, hw⟩ := wp_ex ms_238 xs_238 h
  exact ⟨r, M1, en_238 ha hw, hq⟩
theorem eq_239 {d : Nat} {A : List Value} {M : pm_M} {Q : Option Value → pm_M → Prop} (ha : (pm_in0 A).length ≤ 8) (h : pm_WP (pm_call d) tb_239 Q 0 (pm_init 8 A) [] M) : ∃ r M', pm_call (d + 1) 239 A M r M' ∧ Q r M' := by
  obtain ⟨r, M1, hq, hw⟩ := wp_ex ms_239 xs_239 h
  exact ⟨r, M1, en_239 ha hw, hq⟩
theorem eq_240 {d : Nat} {A : List Value} {M : pm_M} {Q : Option Value → pm_M → Prop} (ha : (pm_in0 A).length ≤ 5) (h : pm_WP (pm_call d) tb_240 Q 0 (pm_init 5 A) [] M) : ∃ r M', pm_call (d + 1) 240 A M r M' ∧ Q r M' := by
  obtain ⟨r, M1, hq, hw⟩ := wp_ex ms_240 xs_240 h
  exact ⟨r, M1, en_240 ha hw, hq⟩
theorem eq_241 {d : Nat} {A : List Value} {M : pm_M} {Q : Option Value → pm_M → Prop} (ha : (pm_in0 A).length ≤ 5) (h : pm_WP (pm_call d) tb_241 Q 0 (pm_init 5 A) [] M) : ∃ r M', pm_call (d + 1) 241 A M r M' ∧ Q r M' := by
  obtain ⟨r, M1, hq, hw⟩ := wp_ex ms_241 xs_241 h
  exact ⟨r, M1, en_241 ha hw, hq⟩
theorem eq_242 {d : Nat} {A : List Value} {M : pm_M} {Q : Option Value → pm_M → Prop} (ha : (pm_in0 A).length ≤ 8) (h : pm_WP (pm_call d) tb_242 Q 0 (pm_init 8 A) [] M) : ∃ r M', pm_call (d + 1) 242 A M r M' ∧ Q r M' := by
  obtain ⟨r, M1, hq, hw⟩ := wp_ex ms_242 xs_242 h
  exact ⟨r, M1, en_242 ha hw, hq⟩
theorem eq_243 {d : Nat} {A : List Value} {M : pm_M} {Q : Option Value → pm_M → Prop} (ha : (pm_in0 A).length ≤ 5) (h : pm_WP (pm_call d) tb_243 Q 0 (pm_init 5 A) [] M) : ∃ r M', pm_call (d + 1) 243 A M r M' ∧ Q r M' := by
  obtain ⟨r, M1, hq, hw⟩ := wp_ex ms_243 xs_243 h
  exact ⟨r, M1, en_243 ha hw, hq⟩
theorem eq_244 {d : Nat} {A : List Value} {M : pm_M} {Q : Option Value → pm_M → Prop} (ha : (pm_in0 A).length ≤ 3) (h : pm_WP (pm_call d) tb_244 Q 0 (pm_init 3 A) [] M) : ∃ r M', pm_call (d + 1) 244 A M r M' ∧ Q r M' := by
  obtain ⟨r, M1, hq, hw⟩ := wp_ex ms_244 xs_244 h
  exact ⟨r, M1, en_244 ha hw, hq⟩
theorem eq_245 {d : Nat} {A : List Value} {M : pm_M} {Q : Option Value → pm_M → Prop} (ha : (pm_in0 A).length ≤ 2) (h : pm_WP (pm_call d) tb_245 Q 0 (pm_init 2 A) [] M) : ∃ r M', pm_call (d + 1) 245 A M r M' ∧ Q r M' := by
  obtain ⟨r, M1, hq, hw⟩ := wp_ex ms_245 xs_245 h
  exact ⟨r, M1, en_245 ha hw, hq⟩
theorem eq_246 {d : Nat} {A : List Value} {M : pm_M} {Q : Option Value → pm_M → Prop} (ha : (pm_in0 A).length ≤ 2) (h : pm_WP (pm_call d) tb_246 Q 0 (pm_init 2 A) [] M) : ∃ r M', pm_call (d + 1) 246 A M r M' ∧ Q r M' := by
  obtain ⟨r, M1, hq, hw⟩ := wp_ex ms_246 xs_246 h
  exact ⟨r, M1, en_246 ha hw, hq⟩
theorem eq_247 {d : Nat} {A : List Value} {M : pm_M} {Q : Option Value → pm_M → Prop} (ha : (pm_in0 A).length ≤ 5) (h : pm_WP (pm_call d) tb_247 Q 0 (pm_init 5 A) [] M) : ∃ r M', pm_call (d + 1) 247 A M r M' ∧ Q r M' := by
  obtain ⟨r, M1, hq, hw⟩ := wp_ex ms_247 xs_247 h
  exact ⟨r, M1, en_247 ha hw, hq⟩
theorem eq_248 {d : Nat} {A : List Value} {M : pm_M} {Q : Option Value → pm_M → Prop} (ha : (pm_in0 A).length ≤ 5) (h : pm_WP (pm_call d) tb_248 Q 0 (pm_init 5 A) [] M) : ∃ r M', pm_call (d + 1) 248 A M r M' ∧ Q r M' := by
  obtain ⟨r, M1, hq, hw⟩ := wp_ex ms_248 xs_248 h
  exact ⟨r, M1, en_248 ha hw, hq⟩
theorem eq_249 {d : Nat} {A : List Value} {M : pm_M} {Q : Option Value → pm_M → Prop} (ha : (pm_in0 A).length ≤ 5) (h : pm_WP (pm_call d) tb_249 Q 0 (pm_init 5 A) [] M) : ∃ r M', pm_call (d + 1) 249 A M r M' ∧ Q r M' := by
  obtain ⟨r, M1, hq, hw⟩ := wp_ex ms_249 xs_249 h
  exact ⟨r, M1, en_249 ha hw, hq⟩
theorem eq_250 {d : Nat} {A : List Value} {M : pm_M} {Q : Option Value → pm_M → Prop} (ha : (pm_in0 A).length ≤ 9) (h : pm_WP (pm_call d) tb_250 Q 0 (pm_init 9 A) [] M) : ∃ r M', pm_call (d + 1) 250 A M r M' ∧ Q r M' := by
  obtain ⟨r, M1, hq, hw⟩ := wp_ex ms_250 xs_250 h
  exact ⟨r, M1, en_250 ha hw, hq⟩
theorem eq_251 {d : Nat} {A : List Value} {M : pm_M} {Q : Option Value → pm_M → Prop} (ha : (pm_in0 A).length ≤ 3) (h : pm_WP (pm_call d) tb_251 Q 0 (pm_init 3 A) [] M) : ∃ r M', pm_call (d + 1) 251 A M r M' ∧ Q r M' := by
  obtain ⟨r, M1, hq, hw⟩ := wp_ex ms_251 xs_251 h
  exact ⟨r, M1, en_251 ha hw, hq⟩
theorem eq_252 {d : Nat} {A : List Value} {M : pm_M} {Q : Option Value → pm_M → Prop} (ha : (pm_in0 A).length ≤ 9) (h : pm_WP (pm_call d) tb_252 Q 0 (pm_init 9 A) [] M) : ∃ r M', pm_call (d + 1) 252 A M r M' ∧ Q r M' := by
  obtain ⟨r, M1, hq, hw⟩ := wp_ex ms_252 xs_252 h
  exact ⟨r, M1, en_252 ha hw, hq⟩
theorem eq_253 {d : Nat} {A : List Value} {M : pm_M} {Q : Option Value → pm_M → Prop} (ha : (pm_in0 A).length ≤ 5) (h : pm_WP (pm_call d) tb_253 Q 0 (pm_init 5 A) [] M) : ∃ r M', pm_call (d + 1) 253 A M r M' ∧ Q r M' := by
  obtain ⟨r, M1, hq, hw⟩ := wp_ex ms_253 xs_253 h
  exact ⟨r, M1, en_253 ha hw, hq⟩
theorem eq_254 {d : Nat} {A : List Value} {M : pm_M} {Q : Option Value → pm_M → Prop} (ha : (pm_in0 A).length ≤ 3) (h : pm_WP (pm_call d) tb_254 Q 0 (pm_init 3 A) [] M) : ∃ r M', pm_call (d + 1) 254 A M r M' ∧ Q r M' := by
  obtain ⟨r, M1, hq, hw⟩ := wp_ex ms_254 xs_254 h
  exact ⟨r, M1, en_254 ha hw, hq⟩
theorem eq_255 {d : Nat} {A : List Value} {M : pm_M} {Q : Option Value → pm_M → Prop} (ha : (pm_in0 A).length ≤ 8) (h : pm_WP (pm_call d) tb_255 Q 0 (pm_init 8 A) [] M) : ∃ r M', pm_call (d + 1) 255 A M r M' ∧ Q r M' := by
  obtain ⟨r, M1, hq, hw⟩ := wp_ex ms_255 xs_255 h
  exact ⟨r, M1, en_255 ha hw, hq⟩
theorem eq_256 {d : Nat} {A : List Value} {M : pm_M} {Q : Option Value → pm_M → Prop} (ha : (pm_in0 A).length ≤ 4) (h : pm_WP (pm_call d) tb_256 Q 0 (pm_init 4 A) [] M) : ∃ r M', pm_call (d + 1) 256 A M r M' ∧ Q r M' := by
  obtain ⟨r, M1, hq, hw⟩ := wp_ex ms_256 xs_256 h
  exact ⟨r, M1, en_256 ha hw, hq⟩
theorem eq_257 {d : Nat} {A : List Value} {M : pm_M} {Q : Option Value → pm_M → Prop} (ha : (pm_in0 A).length ≤ 5) (h : pm_WP (pm_call d) tb_257 Q 0 (pm_init 5 A) [] M) : ∃ r M', pm_call (d + 1) 257 A M r M' ∧ Q r M' := by
  obtain ⟨r, M1, hq, hw⟩ := wp_ex ms_257 xs_257 h
  exact ⟨r, M1, en_257 ha hw, hq⟩
theorem eq_258 {d : Nat} {A : List Value} {M : pm_M} {Q : Option Value → pm_M → Prop} (ha : (pm_in0 A).length ≤ 6) (h : pm_WP (pm_call d) tb_258 Q 0 (pm_init 6 A) [] M) : ∃ r M', pm_call (d + 1) 258 A M r M' ∧ Q r M' := by
  obtain ⟨r, M1, hq, hw⟩ := wp_ex ms_258 xs_258 h
  exact ⟨r, M1, en_258 ha hw, hq⟩
theorem eq_259 {d : Nat} {A : List Value} {M : pm_M} {Q : Option Value → pm_M → Prop} (ha : (pm_in0 A).length ≤ 5) (h : pm_WP (pm_call d) tb_259 Q 0 (pm_init 5 A) [] M) : ∃ r M', pm_call (d + 1) 259 A M r M' ∧ Q r M' := by
  obtain ⟨r, M1, hq, hw⟩ := wp_ex ms_259 xs_259 h
  exact ⟨r, M1, en_259 ha hw, hq⟩
theorem eq_260 {d : Nat} {A : List Value} {M : pm_M} {Q : Option Value → pm_M → Prop} (ha : (pm_in0 A).length ≤ 7) (h : pm_WP (pm_call d) tb_260 Q 0 (pm_init 7 A) [] M) : ∃ r M', pm_call (d + 1) 260 A M r M' ∧ Q r M' := by
  obtain ⟨r, M1, hq, hw⟩ := wp_ex ms_260 xs_260 h
  exact ⟨r, M1, en_260 ha hw, hq⟩
theorem eq_261 {d : Nat} {A : List Value} {M : pm_M} {Q : Option Value → pm_M → Prop} (ha : (pm_in0 A).length ≤ 3) (h : pm_WP (pm_call d) tb_261 Q 0 (pm_init 3 A) [] M) : ∃ r M', pm_call (d + 1) 261 A M r M' ∧ Q r M' := by
  obtain ⟨r, M1, hq, hw⟩ := wp_ex ms_261 xs_261 h
  exact ⟨r, M1, en_261 ha hw, hq⟩
theorem eq_262 {d : Nat} {A : List Value} {M : pm_M} {Q : Option Value → pm_M → Prop} (ha : (pm_in0 A).length ≤ 9) (h : pm_WP (pm_call d) tb_262 Q 0 (pm_init 9 A) [] M) : ∃ r M', pm_call (d + 1) 262 A M r M' ∧ Q r M' := by
  obtain ⟨r, M1, hq, hw⟩ := wp_ex ms_262 xs_262 h
  exact ⟨r, M1, en_262 ha hw, hq⟩
theorem eq_263 {d : Nat} {A : List Value} {M : pm_M} {Q : Option Value → pm_M → Prop} (ha : (pm_in0 A).length ≤ 4) (h : pm_WP (pm_call d) tb_263 Q 0 (pm_init 4 A) [] M) : ∃ r M', pm_call (d + 1) 263 A M r M' ∧ Q r M' := by
  obtain ⟨r, M1, hq, hw⟩ := wp_ex ms_263 xs_263 h
  exact ⟨r, M1, en_263 ha hw, hq⟩
theorem eq_264 {d : Nat} {A : List Value} {M : pm_M} {Q : Option Value → pm_M → Prop} (ha : (pm_in0 A).length ≤ 2) (h : pm_WP (pm_call d) tb_264 Q 0 (pm_init 2 A) [] M) : ∃ r M', pm_call (d + 1) 264 A M r M' ∧ Q r M' := by
  obtain ⟨r, M1, hq, hw⟩ := wp_ex ms_264 xs_264 h
  exact ⟨r, M1, en_264 ha hw, hq⟩
theorem eq_265 {d : Nat} {A : List Value} {M : pm_M} {Q : Option Value → pm_M → Prop} (ha : (pm_in0 A).length ≤ 3) (h : pm_WP (pm_call d) tb_265 Q 0 (pm_init 3 A) [] M) : ∃ r M', pm_call (d + 1) 265 A M r M' ∧ Q r M' := by
  obtain ⟨r, M1, hq, hw⟩ := wp_ex ms_265 xs_265 h
  exact ⟨r, M1, en_265 ha hw, hq⟩
theorem eq_266 {d : Nat} {A : List Value} {M : pm_M} {Q : Option Value → pm_M → Prop} (ha : (pm_in0 A).length ≤ 3) (h : pm_WP (pm_call d) tb_266 Q 0 (pm_init 3 A) [] M) : ∃ r M', pm_call (d + 1) 266 A M r M' ∧ Q r M' := by
  obtain ⟨r, M1, hq, hw⟩ := wp_ex ms_266 xs_266 h
  exact ⟨r, M1, en_266 ha hw, hq⟩
theorem eq_267 {d : Nat} {A : List Value} {M : pm_M} {Q : Option Value → pm_M → Prop} (ha : (pm_in0 A).length ≤ 3) (h : pm_WP (pm_call d) tb_267 Q 0 (pm_init 3 A) [] M) : ∃ r M', pm_call (d + 1) 267 A M r M' ∧ Q r M' := by
  obtain ⟨r, M1, hq, hw⟩ := wp_ex ms_267 xs_267 h
  exact ⟨r, M1, en_267 ha hw, hq⟩
theorem eq_268 {d : Nat} {A : List Value} {M : pm_M} {Q : Option Value → pm_M → Prop} (ha : (pm_in0 A).length ≤ 1) (h : pm_WP (pm_call d) tb_268 Q 0 (pm_init 1 A) [] M) : ∃ r M', pm_call (d + 1) 268 A M r M' ∧ Q r M' := by
  obtain ⟨r, M1, hq, hw⟩ := wp_ex ms_268 xs_268 h
  exact ⟨r, M1, en_268 ha hw, hq⟩
theorem eq_269 {d : Nat} {A : List Value} {M : pm_M} {Q : Option Value → pm_M → Prop} (ha : (pm_in0 A).length ≤ 4) (h : pm_WP (pm_call d) tb_269 Q 0 (pm_init 4 A) [] M) : ∃ r M', pm_call (d + 1) 269 A M r M' ∧ Q r M' := by
  obtain ⟨r, M1, hq, hw⟩ := wp_ex ms_269 xs_269 h
  exact ⟨r, M1, en_269 ha hw, hq⟩
theorem eq_270 {d : Nat} {A : List Value} {M : pm_M} {Q : Option Value → pm_M → Prop} (ha : (pm_in0 A).length ≤ 4) (h : pm_WP (pm_call d) tb_270 Q 0 (pm_init 4 A) [] M) : ∃ r M', pm_call (d + 1) 270 A M r M' ∧ Q r M' := by
  obtain ⟨r, M1, hq, hw⟩ := wp_ex ms_270 xs_270 h
  exact ⟨r, M1, en_270 ha hw, hq⟩

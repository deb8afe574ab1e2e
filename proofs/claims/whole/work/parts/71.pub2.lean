/-! BOTH ANSWER ALIKE: rows -/
section PUBB
variable {a : As} {jc jm : Nat} {args : List Value}
theorem bo_k {x : Value} (ha : aw a) (h1 : ∀ d M, IC a M → pm_call (d + 20) jc (.ref 0 :: args) M (some x) M) (h2 : ∀ d M, IM a M → pm_call (d + 20) jm (.ref 132 :: args) M (some x) M) : Both a jc jm args := ⟨x, a, ha, fun d M h => ⟨M, h1 d M h, h, Cfr.rf M⟩, fun d M h => ⟨M, h2 d M h, h, Mfr.rf M⟩⟩
theorem bo_f {f : Nat} (ha : aw a) (hf : f < 6) (h1 : ∀ d M, IC a M → pm_call (d + 20) jc (.ref 0 :: args) M (some (.int (-3))) (sI (sI M 0 17 (nI f)) 105 f (gI M 105 f + 1))) (h2 : ∀ d M, IM a M → pm_call (d + 20) jm (.ref 132 :: args) M (some (.int (-3))) (sI (sI M 132 0 (nI f)) 133 f (gI M 133 f + 1))) : Both a jc jm args := ⟨_, fd a f, ha.fd f, fun d M h => ⟨_, h1 d M h, h.fd hf, cfr_fd _ _ _⟩, fun d M h => ⟨_, h2 d M h, h.fd hf, mfr_fd _ _ _⟩⟩
theorem bo_t {x : Value} {v : Int32} (ha : aw a) (h1 : ∀ d M, IC a M → pm_call (d + 20) jc (.ref 0 :: args) M (some x) (sI M 0 18 v)) (h2 : ∀ d M, IM a M → pm_call (d + 20) jm (.ref 132 :: args) M (some x) (sI M 132 2 v)) : Both a jc jm args := ⟨x, sA' a v, ha.told v, fun d M h => ⟨_, h1 d M h, h.told, (Cfr.rf M).sI (by decide) _ _⟩, fun d M h => ⟨_, h2 d M h, h.told, (Mfr.rf M).sI (by decide) _ _⟩⟩
end PUBB
section PUBC
variable {a : As} {M : pm_M}
theorem crow_none {M : pm_M} {o : Nat} (h : CRow M o none) : gI M o 1 = -1 := h
theorem crow_some {M : pm_M} {o : Nat} {l : List Int32} (h : CRow M o (some l)) : pm_Ro M o l := h
theorem c_refusalOfPlace (d : Nat) (hM : pm_ok M) (s i : Int32) : (s < 0 → pm_call (d + 2) 139 [.ref 0, .int s, .int i] M (some (.int (-3))) (sI (sI M 0 17 (nI 1)) 105 1 (gI M 105 1 + 1))) ∧
    (¬ s < 0 → ¬ (¬ i < 0 ∧ i < s) → pm_call (d + 2) 139 [.ref 0, .int s, .int i] M (some (.int (-3))) (sI (sI M 0 17 (nI 2)) 105 2 (gI M 105 2 + 1))) ∧
    (¬ s < 0 → (¬ i < 0 ∧ i < s) → pm_call (d + 2) 139 [.ref 0, .int s, .int i] M (some (.int 0)) M) := by
  refine ⟨fun h => ?_, fun h g => ?_, fun h g => ?_⟩
  · refine en_139 (Nat.le_of_ble_eq_true rfl) ?_
    refine st_ild rfl rfl ?_
    refine st_b1 rfl (fun zq => absurd zq (Int32.not_le.mpr h)) (fun _ => ?_)
    refine st_ald rfl rfl ?_
    refine st_k rfl ?_
    refine st_cav (As := [_]) rfl rfl rfl (by first | exact tT hM rfl | assumption | exact rw_T hM (by assumption) | exact rw_A hM (by assumption)) (Nat.le_of_ble_eq_true rfl) (c_refuse d hM (f := 1) (by decide)) ?_
    -- at 9: op_iret
    exact st_iret rfl ⟨rfl, rfl⟩
  · refine en_139 (Nat.le_of_ble_eq_true rfl) ?_
    refine st_ild rfl rfl ?_
    refine st_b1 rfl (fun _ => ?_) (fun zq => absurd (nlt0 h) zq)
    refine st_ild rfl rfl ?_
    refine st_b1 rfl (fun h1 => ?_) (fun h1 => ?_)
    -- at 11: split 19 14
    · refine st_ald rfl rfl ?_
      refine st_k rfl ?_
      refine st_cav (As := [_]) rfl rfl rfl (by first | exact tT hM rfl | assumption | exact rw_T hM (by assumption) | exact rw_A hM (by assumption)) (Nat.le_of_ble_eq_true rfl) (c_refuse d hM (f := 2) (by decide)) ?_
      refine st_go rfl ?_
      -- at 28: op_iret
      exact st_iret rfl ⟨rfl, rfl⟩
    · refine st_ild rfl rfl ?_
      refine st_ild rfl rfl ?_
      refine st_b2 rfl (fun zq => absurd zq ((fun z => g ⟨h1, z⟩))) (fun _ => ?_)
      refine st_ald rfl rfl ?_
      refine st_k rfl ?_
      refine st_cav (As := [_]) rfl rfl rfl (by first | exact tT hM rfl | assumption | exact rw_T hM (by assumption) | exact rw_A hM (by assumption)) (Nat.le_of_ble_eq_true rfl) (c_refuse d hM (f := 2) (by decide)) ?_
      refine st_go rfl ?_
      -- at 28: op_iret
      exact st_iret rfl ⟨rfl, rfl⟩
  · refine en_139 (Nat.le_of_ble_eq_true rfl) ?_
    refine st_ild rfl rfl ?_
    refine st_b1 rfl (fun _ => ?_) (fun zq => absurd (nlt0 h) zq)
    refine st_ild rfl rfl ?_
    refine st_b1 rfl (fun zq => absurd zq (g.1)) (fun _ => ?_)
    refine st_ild rfl rfl ?_
    refine st_ild rfl rfl ?_
    refine st_b2 rfl (fun _ => ?_) (fun zq => absurd (g.2) zq)
    refine st_k rfl ?_
    -- at 28: op_iret
    exact st_iret rfl ⟨rfl, rfl⟩
/-- a place of a row of n, or none -/
theorem i_cs (i : Int32) {n : Nat} (hn : n ≤ 80) : (¬ (¬ i < 0 ∧ i < nI n) ∧ ¬ (¬ i < 0 ∧ ¬ nI n - 1 < i)) ∨ ∃ j : Nat, j < n ∧ i = nI j ∧ (¬ i < 0 ∧ i < nI n) ∧ (¬ i < 0 ∧ ¬ nI n - 1 < i) := by
  rcases pk_ix i (n := n) (by omega) with h | h | ⟨j, hj, h⟩
  · exact Or.inl ⟨fun q => q.1 h, fun q => q.1 h⟩
  · refine Or.inl ⟨fun q => absurd q.2 (Int32.not_lt.mpr h), fun q => q.2 ?_⟩
    have h2 := Int32.le_iff_toInt_le.mp h
    rw [nI_toInt (by omega)] at h2
    apply Int32.lt_iff_toInt_lt.mpr
    have := pk_sub_toInt (a := n) (b := 1) (by omega) (by decide)
    have e : (nI n - 1).toInt = (n : Int) - 1 := this
    omega
  · refine Or.inr ⟨j, hj, h, ?_⟩
    subst h
    refine ⟨⟨nI_pos (by omega), nI_lt hj (by omega)⟩, nI_pos (by omega), ?_⟩
    obtain ⟨n', rfl⟩ : ∃ n', n = n' + 1 := ⟨n - 1, by omega⟩
    rw [nI_pred]
    exact nI_nlt (by omega) (by omega)
theorem m1lt : (-1 : Int32) < 0 := by decide
/-! at -/
theorem b_at (ha : aw a) (r i : Int32) : Both a 92 164 [.int r, .int i] := by
  rcases r_cs r with ⟨h1, h2⟩ | ⟨j, hj, hr, h1, h2⟩
  · refine bo_k (x := .int (-1)) ha (fun d M h => ?_) (fun d M h => ?_)
    · refine en_92 (Nat.le_of_ble_eq_true rfl) ?_
      refine st_ild rfl rfl ?_
      refine st_call (As := [_]) rfl rfl rfl (Nat.le_of_ble_eq_true rfl) (c_isRow (d + 18) r) ?_
      refine st_b1 rfl (fun zq => absurd zq ((fun z => z (b01_f h1)))) (fun _ => ?_)
      refine st_k rfl ?_
      -- at 8: op_iret
      exact st_iret rfl ⟨rfl, rfl⟩
    · refine en_164 (Nat.le_of_ble_eq_true rfl) ?_
      refine st_ild rfl rfl ?_
      refine st_call (As := [_]) rfl rfl rfl (Nat.le_of_ble_eq_true rfl) (m_isRow (d + 17) r) ?_
      refine st_b1 rfl (fun zq => absurd zq ((fun z => z (b01_f h2)))) (fun _ => ?_)
      refine st_k rfl ?_
      -- at 8: op_iret
      exact st_iret rfl ⟨rfl, rfl⟩
  have hin : vp_in (nI j) 6 := vp_in_nI hj (by decide)
  have e1 : (nI j).toNatClampNeg = j := nI_clamp (by omega)
  have ho := rw_row j hj
  cases hx : aR a j with
  | none =>
    refine bo_f ha (f := 1) (by decide) (fun d M h => ?_) (fun d M h => ?_)
    · refine en_92 (Nat.le_of_ble_eq_true rfl) ?_
      have hM := h.1
      have hz := h.2.1 j hj
      rw [hx] at hz
      subst hr
      refine st_ild rfl rfl ?_
      refine st_call (As := [_]) rfl rfl rfl (Nat.le_of_ble_eq_true rfl) (c_isRow (d + 18) _) ?_
      refine st_b1 rfl (fun _ => ?_) (fun zq => absurd (b01_t h1) zq)
      refine st_ald rfl rfl ?_
      refine st_ald rfl rfl ?_
      refine st_gR' rfl (by first | exact tT hM rfl | assumption | exact rw_T hM (by assumption) | exact rw_A hM (by assumption)) (by first | exact rR hM rfl rfl | assumption | exact rw_R hM (by assumption)) ?_
      refine st_ild rfl rfl ?_
      refine st_aald' rfl (by first | exact tT hM rfl | assumption | exact rw_T hM (by assumption) | exact rw_A hM (by assumption)) (by first | decide | assumption | exact vp_in_nI (by omega) (by decide)) (by first | assumption | exact rRow' hM (by assumption) | exact rTxt' hM (by assumption) | exact rKep' hM (by assumption) | exact rRdg' hM (by assumption)) ?_
      refine st_gI rfl (by first | exact tT hM rfl | assumption | exact rw_T hM (by assumption) | exact rw_A hM (by assumption)) ?_
      -- at 19: stop
      refine wp_e (crow_none hz) ?_
      refine st_ild rfl rfl ?_
      refine st_cav (As := [_, _]) rfl rfl rfl (by first | exact tT hM rfl | assumption | exact rw_T hM (by assumption) | exact rw_A hM (by assumption)) (Nat.le_of_ble_eq_true rfl) ((c_refusalOfPlace (d + 17) hM (-1) i).1 m1lt) ?_
      refine st_ist rfl ?_
      refine st_ild rfl rfl ?_
      refine st_b1 rfl (fun zq => absurd zq ((by decide))) (fun _ => ?_)
      refine st_ild rfl rfl ?_
      -- at 29: op_iret
      exact st_iret rfl ⟨rfl, rfl⟩
    · refine en_164 (Nat.le_of_ble_eq_true rfl) ?_
      have hM := h.1
      have hz := h.2.1 j hj
      rw [hx] at hz
      subst hr
      refine st_ild rfl rfl ?_
      refine st_call (As := [_]) rfl rfl rfl (Nat.le_of_ble_eq_true rfl) (m_isRow (d + 17) _) ?_
      refine st_b1 rfl (fun _ => ?_) (fun zq => absurd (b01_t h2) zq)
      refine st_ald rfl rfl ?_
      refine st_gR' rfl (by first | exact tT hM rfl | assumption | exact rw_T hM (by assumption) | exact rw_A hM (by assumption)) (by first | exact rR hM rfl rfl | assumption | exact rw_R hM (by assumption)) ?_
      refine st_ild rfl rfl ?_
      refine st_iald rfl (by first | exact tT hM rfl | assumption | exact rw_T hM (by assumption) | exact rw_A hM (by assumption)) (by first | decide | assumption | exact vp_in_nI (by omega) (by decide)) ?_
      -- at 15: stop
      refine wp_e (y := -1) (by rw [e1]; exact hz) ?_
      refine st_b1 rfl (fun zq => absurd zq ((by decide))) (fun _ => ?_)
      refine st_ald rfl rfl ?_
      refine st_k rfl ?_
      refine st_cav (As := [_]) rfl rfl rfl (by first | exact tT hM rfl | assumption | exact rw_T hM (by assumption) | exact rw_A hM (by assumption)) (Nat.le_of_ble_eq_true rfl) (m_meets (d + 18) hM (f := 1) (by decide)) ?_
      -- at 23: op_iret
      exact st_iret rfl ⟨rfl, rfl⟩
  | some l =>
    by_cases hl40 : l.length ≤ 80
    case neg =>
      refine ⟨.int 0, a, ha, fun d M h => ?_, fun d M h => ?_⟩
      · have hz := h.2.1 j hj
        rw [hx] at hz
        have := (crow_some hz).2.1
        omega
      · have hz := h.2.1 j hj
        rw [hx] at hz
        have := hz.2.1
        omega
    rcases i_cs i hl40 with ⟨g1, g2⟩ | ⟨t, ht, hi, g1, g2⟩
    · refine bo_f ha (f := 2) (by decide) (fun d M h => ?_) (fun d M h => ?_)
      · refine en_92 (Nat.le_of_ble_eq_true rfl) ?_
        have hM := h.1
        have hz := h.2.1 j hj
        rw [hx] at hz
        subst hr
        refine st_ild rfl rfl ?_
        refine st_call (As := [_]) rfl rfl rfl (Nat.le_of_ble_eq_true rfl) (c_isRow (d + 18) _) ?_
        refine st_b1 rfl (fun _ => ?_) (fun zq => absurd (b01_t h1) zq)
        refine st_ald rfl rfl ?_
        refine st_ald rfl rfl ?_
        refine st_gR' rfl (by first | exact tT hM rfl | assumption | exact rw_T hM (by assumption) | exact rw_A hM (by assumption)) (by first | exact rR hM rfl rfl | assumption | exact rw_R hM (by assumption)) ?_
        refine st_ild rfl rfl ?_
        refine st_aald' rfl (by first | exact tT hM rfl | assumption | exact rw_T hM (by assumption) | exact rw_A hM (by assumption)) (by first | decide | assumption | exact vp_in_nI (by omega) (by decide)) (by first | assumption | exact rRow' hM (by assumption) | exact rTxt' hM (by assumption) | exact rKep' hM (by assumption) | exact rRdg' hM (by assumption)) ?_
        refine st_gI rfl (by first | exact tT hM rfl | assumption | exact rw_T hM (by assumption) | exact rw_A hM (by assumption)) ?_
        -- at 19: stop
        refine wp_e (crow_some hz).1 ?_
        refine st_ild rfl rfl ?_
        refine st_cav (As := [_, _]) rfl rfl rfl (by first | exact tT hM rfl | assumption | exact rw_T hM (by assumption) | exact rw_A hM (by assumption)) (Nat.le_of_ble_eq_true rfl) ((c_refusalOfPlace (d + 17) hM _ i).2.1 (nI_pos (by omega)) g1) ?_
        refine st_ist rfl ?_
        refine st_ild rfl rfl ?_
        refine st_b1 rfl (fun zq => absurd zq ((by decide))) (fun _ => ?_)
        refine st_ild rfl rfl ?_
        -- at 29: op_iret
        exact st_iret rfl ⟨rfl, rfl⟩
      · refine en_164 (Nat.le_of_ble_eq_true rfl) ?_
        have hM := h.1
        have hz := h.2.1 j hj
        rw [hx] at hz
        subst hr
        have e2 : gI M 134 (nI j).toNatClampNeg = nI l.length := by rw [e1]; exact hz.1
        refine st_ild rfl rfl ?_
        refine st_call (As := [_]) rfl rfl rfl (Nat.le_of_ble_eq_true rfl) (m_isRow (d + 17) _) ?_
        refine st_b1 rfl (fun _ => ?_) (fun zq => absurd (b01_t h2) zq)
        refine st_ald rfl rfl ?_
        refine st_gR' rfl (by first | exact tT hM rfl | assumption | exact rw_T hM (by assumption) | exact rw_A hM (by assumption)) (by first | exact rR hM rfl rfl | assumption | exact rw_R hM (by assumption)) ?_
        refine st_ild rfl rfl ?_
        refine st_iald rfl (by first | exact tT hM rfl | assumption | exact rw_T hM (by assumption) | exact rw_A hM (by assumption)) (by first | decide | assumption | exact vp_in_nI (by omega) (by decide)) ?_
        -- at 15: stop
        refine wp_e e2 ?_
        refine st_b1 rfl (fun _ => ?_) (fun zq => absurd (nI_pos' (by omega)) zq)
        refine st_ild rfl rfl ?_
        refine st_k rfl ?_
        refine st_ald rfl rfl ?_
        refine st_gR' rfl (by first | exact tT hM rfl | assumption | exact rw_T hM (by assumption) | exact rw_A hM (by assumption)) (by first | exact rR hM rfl rfl | assumption | exact rw_R hM (by assumption)) ?_
        refine st_ild rfl rfl ?_
        refine st_iald rfl (by first | exact tT hM rfl | assumption | exact rw_T hM (by assumption) | exact rw_A hM (by assumption)) (by first | decide | assumption | exact vp_in_nI (by omega) (by decide)) ?_
        -- at 32: stop
        refine wp_e e2 ?_
        refine st_k rfl ?_
        refine st_ib rfl ?_
        refine st_call (As := [_, _, _]) rfl rfl rfl (Nat.le_of_ble_eq_true rfl) (m_in (d + 18) i 0 _) ?_
        refine st_b1 rfl (fun _ => ?_) (fun zq => absurd (b01_f g2) zq)
        refine st_ald rfl rfl ?_
        refine st_k rfl ?_
        refine st_cav (As := [_]) rfl rfl rfl (by first | exact tT hM rfl | assumption | exact rw_T hM (by assumption) | exact rw_A hM (by assumption)) (Nat.le_of_ble_eq_true rfl) (m_meets (d + 18) hM (f := 2) (by decide)) ?_
        -- at 59: op_iret
        exact st_iret rfl ⟨rfl, rfl⟩
    · refine bo_t (v := l.getD t 0) (x := .int 1) ha (fun d M h => ?_) (fun d M h => ?_)
      · refine en_92 (Nat.le_of_ble_eq_true rfl) ?_
        have hM := h.1
        have hz := h.2.1 j hj
        rw [hx] at hz
        subst hr
        subst hi
        have hzz := crow_some hz
        have hin2 := ro_in hzz ht
        refine st_ild rfl rfl ?_
        refine st_call (As := [_]) rfl rfl rfl (Nat.le_of_ble_eq_true rfl) (c_isRow (d + 18) _) ?_
        refine st_b1 rfl (fun _ => ?_) (fun zq => absurd (b01_t h1) zq)
        refine st_ald rfl rfl ?_
        refine st_ald rfl rfl ?_
        refine st_gR' rfl (by first | exact tT hM rfl | assumption | exact rw_T hM (by assumption) | exact rw_A hM (by assumption)) (by first | exact rR hM rfl rfl | assumption | exact rw_R hM (by assumption)) ?_
        refine st_ild rfl rfl ?_
        refine st_aald' rfl (by first | exact tT hM rfl | assumption | exact rw_T hM (by assumption) | exact rw_A hM (by assumption)) (by first | decide | assumption | exact vp_in_nI (by omega) (by decide)) (by first | assumption | exact rRow' hM (by assumption) | exact rTxt' hM (by assumption) | exact rKep' hM (by assumption) | exact rRdg' hM (by assumption)) ?_
        refine st_gI rfl (by first | exact tT hM rfl | assumption | exact rw_T hM (by assumption) | exact rw_A hM (by assumption)) ?_
        -- at 19: stop
        refine wp_e (crow_some hz).1 ?_
        refine st_ild rfl rfl ?_
        refine st_cav (As := [_, _]) rfl rfl rfl (by first | exact tT hM rfl | assumption | exact rw_T hM (by assumption) | exact rw_A hM (by assumption)) (Nat.le_of_ble_eq_true rfl) ((c_refusalOfPlace (d + 17) hM _ _).2.2 (nI_pos (by omega)) g1) ?_
        refine st_ist rfl ?_
        refine st_ild rfl rfl ?_
        refine st_b1 rfl (fun _ => ?_) (fun zq => absurd (rfl) zq)
        refine st_ald rfl rfl ?_
        refine st_ald rfl rfl ?_
        refine st_gR' rfl (by first | exact tT hM rfl | assumption | exact rw_T hM (by assumption) | exact rw_A hM (by assumption)) (by first | exact rR hM rfl rfl | assumption | exact rw_R hM (by assumption)) ?_
        refine st_ild rfl rfl ?_
        refine st_aald' rfl (by first | exact tT hM rfl | assumption | exact rw_T hM (by assumption) | exact rw_A hM (by assumption)) (by first | decide | assumption | exact vp_in_nI (by omega) (by decide)) (by first | assumption | exact rRow' hM (by assumption) | exact rTxt' hM (by assumption) | exact rKep' hM (by assumption) | exact rRdg' hM (by assumption)) ?_
        refine st_gR' rfl (by first | exact tT hM rfl | assumption | exact rw_T hM (by assumption) | exact rw_A hM (by assumption)) (by first | exact rR hM rfl rfl | assumption | exact rw_R hM (by assumption)) ?_
        refine st_ild rfl rfl ?_
        refine st_iald rfl (by first | exact tT hM rfl | assumption | exact rw_T hM (by assumption) | exact rw_A hM (by assumption)) (by first | decide | assumption | exact vp_in_nI (by omega) (by decide)) ?_
        -- at 42: stop
        refine wp_e (ro_at hzz ht) ?_
        refine st_pI rfl (by first | exact tT hM rfl | assumption | exact rw_T hM (by assumption) | exact rw_A hM (by assumption)) ?_
        refine st_k rfl ?_
        -- at 46: op_iret
        exact st_iret rfl ⟨rfl, rfl⟩
      · refine en_164 (Nat.le_of_ble_eq_true rfl) ?_
        have hM := h.1
        have hz := h.2.1 j hj
        rw [hx] at hz
        subst hr
        subst hi
        have e2 : gI M 134 (nI j).toNatClampNeg = nI l.length := by rw [e1]; exact hz.1
        have h40 := hz.2.1
        refine st_ild rfl rfl ?_
        refine st_call (As := [_]) rfl rfl rfl (Nat.le_of_ble_eq_true rfl) (m_isRow (d + 17) _) ?_
        refine st_b1 rfl (fun _ => ?_) (fun zq => absurd (b01_t h2) zq)
        refine st_ald rfl rfl ?_
        refine st_gR' rfl (by first | exact tT hM rfl | assumption | exact rw_T hM (by assumption) | exact rw_A hM (by assumption)) (by first | exact rR hM rfl rfl | assumption | exact rw_R hM (by assumption)) ?_
        refine st_ild rfl rfl ?_
        refine st_iald rfl (by first | exact tT hM rfl | assumption | exact rw_T hM (by assumption) | exact rw_A hM (by assumption)) (by first | decide | assumption | exact vp_in_nI (by omega) (by decide)) ?_
        -- at 15: stop
        refine wp_e e2 ?_
        refine st_b1 rfl (fun _ => ?_) (fun zq => absurd (nI_pos' (by omega)) zq)
        refine st_ild rfl rfl ?_
        refine st_k rfl ?_
        refine st_ald rfl rfl ?_
        refine st_gR' rfl (by first | exact tT hM rfl | assumption | exact rw_T hM (by assumption) | exact rw_A hM (by assumption)) (by first | exact rR hM rfl rfl | assumption | exact rw_R hM (by assumption)) ?_
        refine st_ild rfl rfl ?_
        refine st_iald rfl (by first | exact tT hM rfl | assumption | exact rw_T hM (by assumption) | exact rw_A hM (by assumption)) (by first | decide | assumption | exact vp_in_nI (by omega) (by decide)) ?_
        -- at 32: stop
        refine wp_e e2 ?_
        refine st_k rfl ?_
        refine st_ib rfl ?_
        refine st_call (As := [_, _, _]) rfl rfl rfl (Nat.le_of_ble_eq_true rfl) (m_in (d + 18) _ 0 _) ?_
        refine st_b1 rfl (fun zq => absurd zq (b01_t g2)) (fun _ => ?_)
        refine st_ald rfl rfl ?_
        refine st_ald rfl rfl ?_
        refine st_ild rfl rfl ?_
        refine st_ild rfl rfl ?_
        refine st_cav (As := [_, _]) rfl rfl rfl (by first | exact tT hM rfl | assumption | exact rw_T hM (by assumption) | exact rw_A hM (by assumption)) (Nat.le_of_ble_eq_true rfl) (m_rowAt (d + 18) hM hj (show t < 40 by omega)) ?_
        -- at 47: stop
        refine wp_e (hz.2.2 t ht) ?_
        refine st_k rfl ?_
        refine st_cav (As := [_, _]) rfl rfl rfl (by first | exact tT hM rfl | assumption | exact rw_T hM (by assumption) | exact rw_A hM (by assumption)) (Nat.le_of_ble_eq_true rfl) (m_tells (d + 18) hM _ _) ?_
        refine st_go rfl ?_
        -- at 59: op_iret
        exact st_iret rfl ⟨rfl, rfl⟩
/-! tear -/
theorem b_tear (ha : aw a) (r : Int32) : Both a 93 165 [.int r] := by
  rcases r_cs r with ⟨h1, h2⟩ | ⟨j, hj, hr, h1, h2⟩
  · refine bo_k (x := .int (-1)) ha (fun d M h => ?_) (fun d M h => ?_)
    · refine en_93 (Nat.le_of_ble_eq_true rfl) ?_
      refine st_ild rfl rfl ?_
      refine st_call (As := [_]) rfl rfl rfl (Nat.le_of_ble_eq_true rfl) (c_isRow (d + 18) r) ?_
      refine st_b1 rfl (fun zq => absurd zq ((fun z => z (b01_f h1)))) (fun _ => ?_)
      refine st_k rfl ?_
      -- at 8: op_iret
      exact st_iret rfl ⟨rfl, rfl⟩
    · refine en_165 (Nat.le_of_ble_eq_true rfl) ?_
      refine st_ild rfl rfl ?_
      refine st_call (As := [_]) rfl rfl rfl (Nat.le_of_ble_eq_true rfl) (m_isRow (d + 17) r) ?_
      refine st_b1 rfl (fun zq => absurd zq ((fun z => z (b01_f h2)))) (fun _ => ?_)
      refine st_k rfl ?_
      -- at 8: op_iret
      exact st_iret rfl ⟨rfl, rfl⟩
  have hin : vp_in (nI j) 6 := vp_in_nI hj (by decide)
  have e1 : (nI j).toNatClampNeg = j := nI_clamp (by omega)
  have ho := rw_row j hj
  subst hr
  cases hx : aR a j with
  | none =>
    refine bo_f ha (f := 1) (by decide) (fun d M h => ?_) (fun d M h => ?_)
    · refine en_93 (Nat.le_of_ble_eq_true rfl) ?_
      have hM := h.1
      have hz := h.2.1 j hj
      rw [hx] at hz
      refine st_ild rfl rfl ?_
      refine st_call (As := [_]) rfl rfl rfl (Nat.le_of_ble_eq_true rfl) (c_isRow (d + 18) _) ?_
      refine st_b1 rfl (fun _ => ?_) (fun zq => absurd (b01_t h1) zq)
      refine st_ald rfl rfl ?_
      refine st_gR' rfl (by first | exact tT hM rfl | assumption | exact rw_T hM (by assumption) | exact rw_A hM (by assumption)) (by first | exact rR hM rfl rfl | assumption | exact rw_R hM (by assumption)) ?_
      refine st_ild rfl rfl ?_
      refine st_aald' rfl (by first | exact tT hM rfl | assumption | exact rw_T hM (by assumption) | exact rw_A hM (by assumption)) (by first | decide | assumption | exact vp_in_nI (by omega) (by decide)) (by first | assumption | exact rRow' hM (by assumption) | exact rTxt' hM (by assumption) | exact rKep' hM (by assumption) | exact rRdg' hM (by assumption)) ?_
      refine st_gI rfl (by first | exact tT hM rfl | assumption | exact rw_T hM (by assumption) | exact rw_A hM (by assumption)) ?_
      -- at 18: stop
      refine wp_e (crow_none hz) ?_
      refine st_b1 rfl (fun zq => absurd zq ((by decide))) (fun _ => ?_)
      refine st_ald rfl rfl ?_
      refine st_k rfl ?_
      refine st_cav (As := [_]) rfl rfl rfl (by first | exact tT hM rfl | assumption | exact rw_T hM (by assumption) | exact rw_A hM (by assumption)) (Nat.le_of_ble_eq_true rfl) (c_refuse (d + 18) hM (f := 1) (by decide)) ?_
      -- at 26: op_iret
      exact st_iret rfl ⟨rfl, rfl⟩
    · refine en_165 (Nat.le_of_ble_eq_true rfl) ?_
      have hM := h.1
      have hz := h.2.1 j hj
      rw [hx] at hz
      refine st_ild rfl rfl ?_
      refine st_call (As := [_]) rfl rfl rfl (Nat.le_of_ble_eq_true rfl) (m_isRow (d + 17) _) ?_
      refine st_b1 rfl (fun _ => ?_) (fun zq => absurd (b01_t h2) zq)
      refine st_ald rfl rfl ?_
      refine st_gR' rfl (by first | exact tT hM rfl | assumption | exact rw_T hM (by assumption) | exact rw_A hM (by assumption)) (by first | exact rR hM rfl rfl | assumption | exact rw_R hM (by assumption)) ?_
      refine st_ild rfl rfl ?_
      refine st_iald rfl (by first | exact tT hM rfl | assumption | exact rw_T hM (by assumption) | exact rw_A hM (by assumption)) (by first | decide | assumption | exact vp_in_nI (by omega) (by decide)) ?_
      -- at 15: stop
      refine wp_e (y := -1) (by rw [e1]; exact hz) ?_
      refine st_b1 rfl (fun zq => absurd zq ((by decide))) (fun _ => ?_)
      refine st_ald rfl rfl ?_
      refine st_k rfl ?_
      refine st_cav (As := [_]) rfl rfl rfl (by first | exact tT hM rfl | assumption | exact rw_T hM (by assumption) | exact rw_A hM (by assumption)) (Nat.le_of_ble_eq_true rfl) (m_meets (d + 18) hM (f := 1) (by decide)) ?_
      -- at 23: op_iret
      exact st_iret rfl ⟨rfl, rfl⟩
  | some l =>
    refine ⟨.int 1, sR' a j none, ha.row _ _, fun d M h => ⟨sI M (106 + 2 * j) 1 (-1), ?_, ?_, ?_⟩, fun d M h => ⟨sI M 134 j (-1), ?_, ?_, ?_⟩⟩
    · refine en_93 (Nat.le_of_ble_eq_true rfl) ?_
      have hM := h.1
      have hz := h.2.1 j hj
      rw [hx] at hz
      have hl := (crow_some hz).2.1
      refine st_ild rfl rfl ?_
      refine st_call (As := [_]) rfl rfl rfl (Nat.le_of_ble_eq_true rfl) (c_isRow (d + 18) _) ?_
      refine st_b1 rfl (fun _ => ?_) (fun zq => absurd (b01_t h1) zq)
      refine st_ald rfl rfl ?_
      refine st_gR' rfl (by first | exact tT hM rfl | assumption | exact rw_T hM (by assumption) | exact rw_A hM (by assumption)) (by first | exact rR hM rfl rfl | assumption | exact rw_R hM (by assumption)) ?_
      refine st_ild rfl rfl ?_
      refine st_aald' rfl (by first | exact tT hM rfl | assumption | exact rw_T hM (by assumption) | exact rw_A hM (by assumption)) (by first | decide | assumption | exact vp_in_nI (by omega) (by decide)) (by first | assumption | exact rRow' hM (by assumption) | exact rTxt' hM (by assumption) | exact rKep' hM (by assumption) | exact rRdg' hM (by assumption)) ?_
      refine st_gI rfl (by first | exact tT hM rfl | assumption | exact rw_T hM (by assumption) | exact rw_A hM (by assumption)) ?_
      -- at 18: stop
      refine wp_e (crow_some hz).1 ?_
      refine st_b1 rfl (fun _ => ?_) (fun zq => absurd (nI_pos' (by omega)) zq)
      refine st_ald rfl rfl ?_
      refine st_gR' rfl (by first | exact tT hM rfl | assumption | exact rw_T hM (by assumption) | exact rw_A hM (by assumption)) (by first | exact rR hM rfl rfl | assumption | exact rw_R hM (by assumption)) ?_
      refine st_ild rfl rfl ?_
      refine st_aald' rfl (by first | exact tT hM rfl | assumption | exact rw_T hM (by assumption) | exact rw_A hM (by assumption)) (by first | decide | assumption | exact vp_in_nI (by omega) (by decide)) (by first | assumption | exact rRow' hM (by assumption) | exact rTxt' hM (by assumption) | exact rKep' hM (by assumption) | exact rRdg' hM (by assumption)) ?_
      refine st_k rfl ?_
      refine st_pI rfl (by first | exact tT hM rfl | assumption | exact rw_T hM (by assumption) | exact rw_A hM (by assumption)) ?_
      refine st_k rfl ?_
      -- at 38: op_iret
      exact st_iret rfl ⟨rfl, rfl⟩
    · exact h.row hj (S := pm_oo (106 + 2 * j)) (pm_S.rf.sI (Or.inl rfl) _ _) (fun k hk => Or.inr (Or.inr hk)) (gI_same _ _ _ _)
    · exact (Cfr.rf M).sI (by omega) _ _
    · refine en_165 (Nat.le_of_ble_eq_true rfl) ?_
      have hM := h.1
      have hz := h.2.1 j hj
      rw [hx] at hz
      have hl := hz.2.1
      have e2 : gI M 134 (nI j).toNatClampNeg = nI l.length := by rw [e1]; exact hz.1
      refine st_ild rfl rfl ?_
      refine st_call (As := [_]) rfl rfl rfl (Nat.le_of_ble_eq_true rfl) (m_isRow (d + 17) _) ?_
      refine st_b1 rfl (fun _ => ?_) (fun zq => absurd (b01_t h2) zq)
      refine st_ald rfl rfl ?_
      refine st_gR' rfl (by first | exact tT hM rfl | assumption | exact rw_T hM (by assumption) | exact rw_A hM (by assumption)) (by first | exact rR hM rfl rfl | assumption | exact rw_R hM (by assumption)) ?_
      refine st_ild rfl rfl ?_
      refine st_iald rfl (by first | exact tT hM rfl | assumption | exact rw_T hM (by assumption) | exact rw_A hM (by assumption)) (by first | decide | assumption | exact vp_in_nI (by omega) (by decide)) ?_
      -- at 15: stop
      refine wp_e e2 ?_
      refine st_b1 rfl (fun _ => ?_) (fun zq => absurd (nI_pos' (by omega)) zq)
      refine st_ald rfl rfl ?_
      refine st_gR' rfl (by first | exact tT hM rfl | assumption | exact rw_T hM (by assumption) | exact rw_A hM (by assumption)) (by first | exact rR hM rfl rfl | assumption | exact rw_R hM (by assumption)) ?_
      refine st_ild rfl rfl ?_
      refine st_k rfl ?_
      refine st_iast rfl (by first | exact tT hM rfl | assumption | exact rw_T hM (by assumption) | exact rw_A hM (by assumption)) (by first | decide | assumption | exact vp_in_nI (by omega) (by decide)) ?_
      refine st_k rfl ?_
      -- at 32: op_iret
      exact st_iret rfl ⟨rfl, by rw [e1]⟩
    · exact h.row h.1 (fun k i _ z1 _ => gI_nn z1) rfl (gI_same _ _ _ _)
    · exact (Mfr.rf M).sI (by decide) _ _
/-! lay -/
theorem set_len (l : List Int32) (t : Nat) (v : Int32) : (l.set t v).length = l.length := List.length_set ..
theorem set_gd {l : List Int32} {t i : Nat} {v : Int32} (ht : t < l.length) : (l.set t v).getD i 0 = if i = t then v else l.getD i 0 := by
  by_cases e : i = t
  · subst e
    simp [List.getD_eq_getElem?_getD, ht]
  · rw [if_neg e]
    simp [List.getD_eq_getElem?_getD, List.getElem?_set_ne (Ne.symm e)]
theorem b_lay (ha : aw a) (r i v : Int32) : Both a 91 163 [.int r, .int i, .int v] := by
  rcases r_cs r with ⟨h1, h2⟩ | ⟨j, hj, hr, h1, h2⟩
  · refine bo_k (x := .int (-1)) ha (fun d M h => ?_) (fun d M h => ?_)
    · refine en_91 (Nat.le_of_ble_eq_true rfl) ?_
      refine st_ild rfl rfl ?_
      refine st_call (As := [_]) rfl rfl rfl (Nat.le_of_ble_eq_true rfl) (c_isRow (d + 18) r) ?_
      refine st_b1 rfl (fun zq => absurd zq ((fun z => z (b01_f h1)))) (fun _ => ?_)
      refine st_k rfl ?_
      -- at 8: op_iret
      exact st_iret rfl ⟨rfl, rfl⟩
    · refine en_163 (Nat.le_of_ble_eq_true rfl) ?_
      refine st_ild rfl rfl ?_
      refine st_call (As := [_]) rfl rfl rfl (Nat.le_of_ble_eq_true rfl) (m_isRow (d + 17) r) ?_
      refine st_b1 rfl (fun zq => absurd zq ((fun z => z (b01_f h2)))) (fun _ => ?_)
      refine st_k rfl ?_
      -- at 8: op_iret
      exact st_iret rfl ⟨rfl, rfl⟩
  have hin : vp_in (nI j) 6 := vp_in_nI hj (by decide)
  have e1 : (nI j).toNatClampNeg = j := nI_clamp (by omega)
  have ho := rw_row j hj
  subst hr
  cases hx : aR a j with
  | none =>
    refine bo_f ha (f := 1) (by decide) (fun d M h => ?_) (fun d M h => ?_)
    · refine en_91 (Nat.le_of_ble_eq_true rfl) ?_
      have hM := h.1
      have hz := h.2.1 j hj
      rw [hx] at hz
      refine st_ild rfl rfl ?_
      refine st_call (As := [_]) rfl rfl rfl (Nat.le_of_ble_eq_true rfl) (c_isRow (d + 18) _) ?_
      refine st_b1 rfl (fun _ => ?_) (fun zq => absurd (b01_t h1) zq)
      refine st_ald rfl rfl ?_
      refine st_ald rfl rfl ?_
      refine st_gR' rfl (by first | exact tT hM rfl | assumption | exact rw_T hM (by assumption) | exact rw_A hM (by assumption)) (by first | exact rR hM rfl rfl | assumption | exact rw_R hM (by assumption)) ?_
      refine st_ild rfl rfl ?_
      refine st_aald' rfl (by first | exact tT hM rfl | assumption | exact rw_T hM (by assumption) | exact rw_A hM (by assumption)) (by first | decide | assumption | exact vp_in_nI (by omega) (by decide)) (by first | assumption | exact rRow' hM (by assumption) | exact rTxt' hM (by assumption) | exact rKep' hM (by assumption) | exact rRdg' hM (by assumption)) ?_
      refine st_gI rfl (by first | exact tT hM rfl | assumption | exact rw_T hM (by assumption) | exact rw_A hM (by assumption)) ?_
      -- at 19: stop
      refine wp_e (crow_none hz) ?_
      refine st_ild rfl rfl ?_
      refine st_cav (As := [_, _]) rfl rfl rfl (by first | exact tT hM rfl | assumption | exact rw_T hM (by assumption) | exact rw_A hM (by assumption)) (Nat.le_of_ble_eq_true rfl) ((c_refusalOfPlace (d + 17) hM (-1) i).1 m1lt) ?_
      refine st_ist rfl ?_
      refine st_ild rfl rfl ?_
      refine st_b1 rfl (fun zq => absurd zq ((by decide))) (fun _ => ?_)
      refine st_ild rfl rfl ?_
      -- at 32: op_iret
      exact st_iret rfl ⟨rfl, rfl⟩
    · refine en_163 (Nat.le_of_ble_eq_true rfl) ?_
      have hM := h.1
      have hz := h.2.1 j hj
      rw [hx] at hz
      refine st_ild rfl rfl ?_
      refine st_call (As := [_]) rfl rfl rfl (Nat.le_of_ble_eq_true rfl) (m_isRow (d + 17) _) ?_
      refine st_b1 rfl (fun _ => ?_) (fun zq => absurd (b01_t h2) zq)
      refine st_ald rfl rfl ?_
      refine st_gR' rfl (by first | exact tT hM rfl | assumption | exact rw_T hM (by assumption) | exact rw_A hM (by assumption)) (by first | exact rR hM rfl rfl | assumption | exact rw_R hM (by assumption)) ?_
      refine st_ild rfl rfl ?_
      refine st_iald rfl (by first | exact tT hM rfl | assumption | exact rw_T hM (by assumption) | exact rw_A hM (by assumption)) (by first | decide | assumption | exact vp_in_nI (by omega) (by decide)) ?_
      -- at 15: stop
      refine wp_e (y := -1) (by rw [e1]; exact hz) ?_
      refine st_b1 rfl (fun zq => absurd zq ((by decide))) (fun _ => ?_)
      refine st_ald rfl rfl ?_
      refine st_k rfl ?_
      refine st_cav (As := [_]) rfl rfl rfl (by first | exact tT hM rfl | assumption | exact rw_T hM (by assumption) | exact rw_A hM (by assumption)) (Nat.le_of_ble_eq_true rfl) (m_meets (d + 18) hM (f := 1) (by decide)) ?_
      -- at 23: op_iret
      exact st_iret rfl ⟨rfl, rfl⟩
  | some l =>
    by_cases hl40 : l.length ≤ 80
    case neg =>
      refine ⟨.int 0, a, ha, fun d M h => ?_, fun d M h => ?_⟩
      · have hz := h.2.1 j hj
        rw [hx] at hz
        have := (crow_some hz).2.1
        omega
      · have hz := h.2.1 j hj
        rw [hx] at hz
        have := hz.2.1
        omega
    rcases i_cs i hl40 with ⟨g1, g2⟩ | ⟨t, ht, hi, g1, g2⟩
    · refine bo_f ha (f := 2) (by decide) (fun d M h => ?_) (fun d M h => ?_)
      · refine en_91 (Nat.le_of_ble_eq_true rfl) ?_
        have hM := h.1
        have hz := h.2.1 j hj
        rw [hx] at hz
        refine st_ild rfl rfl ?_
        refine st_call (As := [_]) rfl rfl rfl (Nat.le_of_ble_eq_true rfl) (c_isRow (d + 18) _) ?_
        refine st_b1 rfl (fun _ => ?_) (fun zq => absurd (b01_t h1) zq)
        refine st_ald rfl rfl ?_
        refine st_ald rfl rfl ?_
        refine st_gR' rfl (by first | exact tT hM rfl | assumption | exact rw_T hM (by assumption) | exact rw_A hM (by assumption)) (by first | exact rR hM rfl rfl | assumption | exact rw_R hM (by assumption)) ?_
        refine st_ild rfl rfl ?_
        refine st_aald' rfl (by first | exact tT hM rfl | assumption | exact rw_T hM (by assumption) | exact rw_A hM (by assumption)) (by first | decide | assumption | exact vp_in_nI (by omega) (by decide)) (by first | assumption | exact rRow' hM (by assumption) | exact rTxt' hM (by assumption) | exact rKep' hM (by assumption) | exact rRdg' hM (by assumption)) ?_
        refine st_gI rfl (by first | exact tT hM rfl | assumption | exact rw_T hM (by assumption) | exact rw_A hM (by assumption)) ?_
        -- at 19: stop
        refine wp_e (crow_some hz).1 ?_
        refine st_ild rfl rfl ?_
        refine st_cav (As := [_, _]) rfl rfl rfl (by first | exact tT hM rfl | assumption | exact rw_T hM (by assumption) | exact rw_A hM (by assumption)) (Nat.le_of_ble_eq_true rfl) ((c_refusalOfPlace (d + 17) hM _ i).2.1 (nI_pos (by omega)) g1) ?_
        refine st_ist rfl ?_
        refine st_ild rfl rfl ?_
        refine st_b1 rfl (fun zq => absurd zq ((by decide))) (fun _ => ?_)
        refine st_ild rfl rfl ?_
        -- at 32: op_iret
        exact st_iret rfl ⟨rfl, rfl⟩
      · refine en_163 (Nat.le_of_ble_eq_true rfl) ?_
        have hM := h.1
        have hz := h.2.1 j hj
        rw [hx] at hz
        have e2 : gI M 134 (nI j).toNatClampNeg = nI l.length := by rw [e1]; exact hz.1
        refine st_ild rfl rfl ?_
        refine st_call (As := [_]) rfl rfl rfl (Nat.le_of_ble_eq_true rfl) (m_isRow (d + 17) _) ?_
        refine st_b1 rfl (fun _ => ?_) (fun zq => absurd (b01_t h2) zq)
        refine st_ald rfl rfl ?_
        refine st_gR' rfl (by first | exact tT hM rfl | assumption | exact rw_T hM (by assumption) | exact rw_A hM (by assumption)) (by first | exact rR hM rfl rfl | assumption | exact rw_R hM (by assumption)) ?_
        refine st_ild rfl rfl ?_
        refine st_iald rfl (by first | exact tT hM rfl | assumption | exact rw_T hM (by assumption) | exact rw_A hM (by assumption)) (by first | decide | assumption | exact vp_in_nI (by omega) (by decide)) ?_
        -- at 15: stop
        refine wp_e e2 ?_
        refine st_b1 rfl (fun _ => ?_) (fun zq => absurd (nI_pos' (by omega)) zq)
        refine st_ild rfl rfl ?_
        refine st_k rfl ?_
        refine st_ald rfl rfl ?_
        refine st_gR' rfl (by first | exact tT hM rfl | assumption | exact rw_T hM (by assumption) | exact rw_A hM (by assumption)) (by first | exact rR hM rfl rfl | assumption | exact rw_R hM (by assumption)) ?_
        refine st_ild rfl rfl ?_
        refine st_iald rfl (by first | exact tT hM rfl | assumption | exact rw_T hM (by assumption) | exact rw_A hM (by assumption)) (by first | decide | assumption | exact vp_in_nI (by omega) (by decide)) ?_
        -- at 32: stop
        refine wp_e e2 ?_
        refine st_k rfl ?_
        refine st_ib rfl ?_
        refine st_call (As := [_, _, _]) rfl rfl rfl (Nat.le_of_ble_eq_true rfl) (m_in (d + 18) i 0 _) ?_
        refine st_b1 rfl (fun zq => absurd zq ((fun z => z (b01_f g2)))) (fun _ => ?_)
        refine st_ald rfl rfl ?_
        refine st_k rfl ?_
        refine st_cav (As := [_]) rfl rfl rfl (by first | exact tT hM rfl | assumption | exact rw_T hM (by assumption) | exact rw_A hM (by assumption)) (Nat.le_of_ble_eq_true rfl) (m_meets (d + 18) hM (f := 2) (by decide)) ?_
        -- at 45: op_iret
        exact st_iret rfl ⟨rfl, rfl⟩
    · subst hi
      refine ⟨.int 1, sR' (sA' a (l.getD t 0)) j (some (l.set t v)), ha, fun d M h => ⟨sI (sI M 0 18 (l.getD t 0)) (106 + 2 * j + 1) t v, ?_, ?_, ?_⟩, fun d M h => ⟨sI (sI M 135 (40 * j + t) v) 132 2 (l.getD t 0), ?_, ?_, ?_⟩⟩
      · refine en_91 (Nat.le_of_ble_eq_true rfl) ?_
        have hM := h.1
        have hz := h.2.1 j hj
        rw [hx] at hz
        have hzz := crow_some hz
        have hin2 := ro_in hzz ht
        have h40 := hzz.2.1
        refine st_ild rfl rfl ?_
        refine st_call (As := [_]) rfl rfl rfl (Nat.le_of_ble_eq_true rfl) (c_isRow (d + 18) _) ?_
        refine st_b1 rfl (fun _ => ?_) (fun zq => absurd (b01_t h1) zq)
        refine st_ald rfl rfl ?_
        refine st_ald rfl rfl ?_
        refine st_gR' rfl (by first | exact tT hM rfl | assumption | exact rw_T hM (by assumption) | exact rw_A hM (by assumption)) (by first | exact rR hM rfl rfl | assumption | exact rw_R hM (by assumption)) ?_
        refine st_ild rfl rfl ?_
        refine st_aald' rfl (by first | exact tT hM rfl | assumption | exact rw_T hM (by assumption) | exact rw_A hM (by assumption)) (by first | decide | assumption | exact vp_in_nI (by omega) (by decide)) (by first | assumption | exact rRow' hM (by assumption) | exact rTxt' hM (by assumption) | exact rKep' hM (by assumption) | exact rRdg' hM (by assumption)) ?_
        refine st_gI rfl (by first | exact tT hM rfl | assumption | exact rw_T hM (by assumption) | exact rw_A hM (by assumption)) ?_
        -- at 19: stop
        refine wp_e (crow_some hz).1 ?_
        refine st_ild rfl rfl ?_
        refine st_cav (As := [_, _]) rfl rfl rfl (by first | exact tT hM rfl | assumption | exact rw_T hM (by assumption) | exact rw_A hM (by assumption)) (Nat.le_of_ble_eq_true rfl) ((c_refusalOfPlace (d + 17) hM _ _).2.2 (nI_pos (by omega)) g1) ?_
        refine st_ist rfl ?_
        refine st_ild rfl rfl ?_
        refine st_b1 rfl (fun _ => ?_) (fun zq => absurd (rfl) zq)
        refine st_ald rfl rfl ?_
        refine st_ald rfl rfl ?_
        refine st_gR' rfl (by first | exact tT hM rfl | assumption | exact rw_T hM (by assumption) | exact rw_A hM (by assumption)) (by first | exact rR hM rfl rfl | assumption | exact rw_R hM (by assumption)) ?_
        refine st_ild rfl rfl ?_
        refine st_aald' rfl (by first | exact tT hM rfl | assumption | exact rw_T hM (by assumption) | exact rw_A hM (by assumption)) (by first | decide | assumption | exact vp_in_nI (by omega) (by decide)) (by first | assumption | exact rRow' hM (by assumption) | exact rTxt' hM (by assumption) | exact rKep' hM (by assumption) | exact rRdg' hM (by assumption)) ?_
        refine st_gR' rfl (by first | exact tT hM rfl | assumption | exact rw_T hM (by assumption) | exact rw_A hM (by assumption)) (by first | exact rR hM rfl rfl | assumption | exact rw_R hM (by assumption)) ?_
        refine st_ild rfl rfl ?_
        refine st_iald rfl (by first | exact tT hM rfl | assumption | exact rw_T hM (by assumption) | exact rw_A hM (by assumption)) (by first | decide | assumption | exact vp_in_nI (by omega) (by decide)) ?_
        -- at 45: stop
        refine wp_e (ro_at hzz ht) ?_
        refine st_pI rfl (by first | exact tT hM rfl | assumption | exact rw_T hM (by assumption) | exact rw_A hM (by assumption)) ?_
        refine st_ald rfl rfl ?_
        refine st_gR' rfl (by first | exact tT hM rfl | assumption | exact rw_T hM (by assumption) | exact rw_A hM (by assumption)) (by first | exact rR hM rfl rfl | assumption | exact rw_R hM (by assumption)) ?_
        refine st_ild rfl rfl ?_
        refine st_aald' rfl (by first | exact tT hM rfl | assumption | exact rw_T hM (by assumption) | exact rw_A hM (by assumption)) (by first | decide | assumption | exact vp_in_nI (by omega) (by decide)) (by first | assumption | exact rRow' hM (by assumption) | exact rTxt' hM (by assumption) | exact rKep' hM (by assumption) | exact rRdg' hM (by assumption)) ?_
        refine st_gR' rfl (by first | exact tT hM rfl | assumption | exact rw_T hM (by assumption) | exact rw_A hM (by assumption)) (by first | exact rR hM rfl rfl | assumption | exact rw_R hM (by assumption)) ?_
        refine st_ild rfl rfl ?_
        refine st_ild rfl rfl ?_
        refine st_iast rfl (by first | exact tT hM rfl | assumption | exact rw_T hM (by assumption) | exact rw_A hM (by assumption)) (by first | decide | assumption | exact vp_in_nI (by omega) (by decide)) ?_
        refine st_k rfl ?_
        -- at 61: op_iret
        exact st_iret rfl ⟨rfl, by rw [nI_clamp (by omega)]⟩
      · have hz := h.2.1 j hj
        rw [hx] at hz
        have hzz := crow_some hz
        refine (h.told (v := l.getD t 0)).row hj (S := pm_oo (106 + 2 * j)) (pm_S.rf.sI (Or.inr rfl) _ _) (fun k hk => Or.inr (Or.inr hk)) ⟨?_, by rw [set_len]; exact hzz.2.1, fun q hq => ?_⟩
        · rw [set_len, gI_ne (Or.inl (by omega)), gI_ne (Or.inl (by omega))]
          exact hzz.1
        · rw [set_len] at hq
          rw [set_gd ht, gI_sI]
          by_cases e : q = t
          · rw [if_pos ⟨rfl, e⟩, if_pos e]
          · rw [if_neg (fun z => e z.2), if_neg e, gI_ne (Or.inl (by omega))]
            exact hzz.2.2 q hq
      · exact ((Cfr.rf M).sI (by decide) _ _).sI (by omega) _ _
      · refine en_163 (Nat.le_of_ble_eq_true rfl) ?_
        have hM := h.1
        have hz := h.2.1 j hj
        rw [hx] at hz
        have e2 : gI M 134 (nI j).toNatClampNeg = nI l.length := by rw [e1]; exact hz.1
        have h40 := hz.2.1
        have e : 40 * nI j + nI t = nI (40 * j + t) := by show nI 40 * nI j + nI t = _; rw [pk_mul, nI_add]
        have hin2 : vp_in (40 * nI j + nI t) 240 := by rw [e]; exact vp_in_nI (by omega) (by decide)
        refine st_ild rfl rfl ?_
        refine st_call (As := [_]) rfl rfl rfl (Nat.le_of_ble_eq_true rfl) (m_isRow (d + 17) _) ?_
        refine st_b1 rfl (fun _ => ?_) (fun zq => absurd (b01_t h2) zq)
        refine st_ald rfl rfl ?_
        refine st_gR' rfl (by first | exact tT hM rfl | assumption | exact rw_T hM (by assumption) | exact rw_A hM (by assumption)) (by first | exact rR hM rfl rfl | assumption | exact rw_R hM (by assumption)) ?_
        refine st_ild rfl rfl ?_
        refine st_iald rfl (by first | exact tT hM rfl | assumption | exact rw_T hM (by assumption) | exact rw_A hM (by assumption)) (by first | decide | assumption | exact vp_in_nI (by omega) (by decide)) ?_
        -- at 15: stop
        refine wp_e e2 ?_
        refine st_b1 rfl (fun _ => ?_) (fun zq => absurd (nI_pos' (by omega)) zq)
        refine st_ild rfl rfl ?_
        refine st_k rfl ?_
        refine st_ald rfl rfl ?_
        refine st_gR' rfl (by first | exact tT hM rfl | assumption | exact rw_T hM (by assumption) | exact rw_A hM (by assumption)) (by first | exact rR hM rfl rfl | assumption | exact rw_R hM (by assumption)) ?_
        refine st_ild rfl rfl ?_
        refine st_iald rfl (by first | exact tT hM rfl | assumption | exact rw_T hM (by assumption) | exact rw_A hM (by assumption)) (by first | decide | assumption | exact vp_in_nI (by omega) (by decide)) ?_
        -- at 32: stop
        refine wp_e e2 ?_
        refine st_k rfl ?_
        refine st_ib rfl ?_
        refine st_call (As := [_, _, _]) rfl rfl rfl (Nat.le_of_ble_eq_true rfl) (m_in (d + 18) _ 0 _) ?_
        refine st_b1 rfl (fun _ => ?_) (fun zq => absurd (b01_t g2) zq)
        refine st_ald rfl rfl ?_
        refine st_ild rfl rfl ?_
        refine st_ild rfl rfl ?_
        refine st_cav (As := [_, _]) rfl rfl rfl (by first | exact tT hM rfl | assumption | exact rw_T hM (by assumption) | exact rw_A hM (by assumption)) (Nat.le_of_ble_eq_true rfl) (m_rowAt (d + 18) hM hj (show t < 40 by omega)) ?_
        -- at 52: stop
        refine wp_e (hz.2.2 t ht) ?_
        refine st_ist rfl ?_
        refine st_ald rfl rfl ?_
        refine st_gR' rfl (by first | exact tT hM rfl | assumption | exact rw_T hM (by assumption) | exact rw_A hM (by assumption)) (by first | exact rR hM rfl rfl | assumption | exact rw_R hM (by assumption)) ?_
        refine st_k rfl ?_
        refine st_ild rfl rfl ?_
        refine st_ib rfl ?_
        refine st_ild rfl rfl ?_
        refine st_ib rfl ?_
        refine st_ild rfl rfl ?_
        refine st_iast rfl (by first | exact tT hM rfl | assumption | exact rw_T hM (by assumption) | exact rw_A hM (by assumption)) (by first | decide | assumption | exact vp_in_nI (by omega) (by decide)) ?_
        -- at 66: stop
        rw [e, nI_clamp (by omega)]
        refine st_ald rfl rfl ?_
        refine st_ild rfl rfl ?_
        refine st_k rfl ?_
        refine st_cav (As := [_, _]) rfl rfl rfl (by first | exact tT hM rfl | assumption | exact rw_T hM (by assumption) | exact rw_A hM (by assumption)) (Nat.le_of_ble_eq_true rfl) (m_tells (d + 18) (M := sI M 135 (40 * j + t) v) hM _ _) ?_
        -- at 73: op_iret
        exact st_iret rfl ⟨rfl, rfl⟩
      · have hz := h.2.1 j hj
        rw [hx] at hz
        have h40 := hz.2.1
        have h3 : IM (sR' a j (some (l.set t v))) (sI M 135 (40 * j + t) v) := by
          refine h.row h.1 (fun k i _ _ z2 => gI_nn (by omega)) rfl ⟨by rw [set_len, gI_ne (Or.inl (by decide))]; exact hz.1, by rw [set_len]; exact h40, fun q hq => ?_⟩
          rw [set_len] at hq
          rw [set_gd ht, gI_sI]
          by_cases e : q = t
          · rw [if_pos ⟨rfl, by omega⟩, if_pos e]
          · rw [if_neg (by omega), if_neg e]
            exact hz.2.2 q hq
        exact h3.told
      · exact ((Mfr.rf M).sI (by decide) _ _).sI (by decide) _ _
/-! what is told -/
theorem b_asked (ha : aw a) : Both a 129 158 [] := by
  refine bo_k (x := .int (aA a)) ha (fun d M h => ?_) (fun d M h => ?_)
  · refine en_129 (Nat.le_of_ble_eq_true rfl) ?_
    have hM := h.1
    refine st_ald rfl rfl ?_
    refine st_gI rfl (by first | exact tT hM rfl | assumption | exact rw_T hM (by assumption) | exact rw_A hM (by assumption)) ?_
    -- at 4: op_iret
    exact st_iret rfl ⟨by rw [h.2.2.2.2.2.2.2.2.2.1], rfl⟩
  · refine en_158 (Nat.le_of_ble_eq_true rfl) ?_
    have hM := h.1
    refine st_ald rfl rfl ?_
    refine st_gI rfl (by first | exact tT hM rfl | assumption | exact rw_T hM (by assumption) | exact rw_A hM (by assumption)) ?_
    -- at 4: op_iret
    exact st_iret rfl ⟨by rw [h.2.2.2.2.2.2.2.2.1], rfl⟩
theorem b_upper (ha : aw a) : Both a 130 159 [] := by
  refine bo_k (x := .long (aU a)) ha (fun d M h => ?_) (fun d M h => ?_)
  · refine en_130 (Nat.le_of_ble_eq_true rfl) ?_
    have hM := h.1
    refine st_ald rfl rfl ?_
    refine st_gL rfl (by first | exact tT hM rfl | assumption | exact rw_T hM (by assumption) | exact rw_A hM (by assumption)) ?_
    -- at 4: op_lret
    exact st_lret rfl ⟨by rw [h.2.2.2.2.2.2.2.2.2.2], rfl⟩
  · refine en_159 (Nat.le_of_ble_eq_true rfl) ?_
    have hM := h.1
    refine st_ald rfl rfl ?_
    refine st_gL rfl (by first | exact tT hM rfl | assumption | exact rw_T hM (by assumption) | exact rw_A hM (by assumption)) ?_
    -- at 4: op_lret
    exact st_lret rfl ⟨by rw [h.2.2.2.2.2.2.2.2.2], rfl⟩
theorem b_finding (ha : aw a) : Both a 133 155 [] := by
  refine bo_k (x := .int (aL a)) ha (fun d M h => ?_) (fun d M h => ?_)
  · refine en_133 (Nat.le_of_ble_eq_true rfl) ?_
    have hM := h.1
    refine st_ald rfl rfl ?_
    refine st_gI rfl (by first | exact tT hM rfl | assumption | exact rw_T hM (by assumption) | exact rw_A hM (by assumption)) ?_
    -- at 4: op_iret
    exact st_iret rfl ⟨by rw [h.2.2.2.2.2.2.2.2.1], rfl⟩
  · refine en_155 (Nat.le_of_ble_eq_true rfl) ?_
    have hM := h.1
    refine st_ald rfl rfl ?_
    refine st_gI rfl (by first | exact tT hM rfl | assumption | exact rw_T hM (by assumption) | exact rw_A hM (by assumption)) ?_
    -- at 4: op_iret
    exact st_iret rfl ⟨by rw [h.2.2.2.2.2.2.2.1], rfl⟩
theorem b_findings (ha : aw a) (f : Int32) : Both a 134 156 [.int f] := by
  by_cases g : ¬ f < 1 ∧ ¬ 5 < f
  · have : ∃ j : Nat, j < 6 ∧ f = nI j := by
      rcases pk_ix f (n := 6) (by decide) with h | h | ⟨j, hj, h⟩
      · exact absurd (Int32.lt_trans h (by decide)) g.1
      · have h' : (6 : Int32) ≤ f := h
        exact absurd (Int32.lt_of_lt_of_le (by decide) h') g.2
      · exact ⟨j, hj, h⟩
    obtain ⟨j, hj, hf⟩ := this
    subst hf
    have hin : vp_in (nI j) 6 := vp_in_nI hj (by decide)
    have e1 : (nI j).toNatClampNeg = j := nI_clamp (by omega)
    refine bo_k (x := .int (aF a j)) ha (fun d M h => ?_) (fun d M h => ?_)
    · refine en_134 (Nat.le_of_ble_eq_true rfl) ?_
      have hM := h.1
      refine st_ild rfl rfl ?_
      refine st_k rfl ?_
      refine st_b2 rfl (fun zq => absurd zq (g.1)) (fun _ => ?_)
      refine st_ild rfl rfl ?_
      refine st_k rfl ?_
      refine st_b2 rfl (fun _ => ?_) (fun zq => absurd (Int32.not_lt.mp g.2) zq)
      refine st_ald rfl rfl ?_
      refine st_gR' rfl (by first | exact tT hM rfl | assumption | exact rw_T hM (by assumption) | exact rw_A hM (by assumption)) (by first | exact rR hM rfl rfl | assumption | exact rw_R hM (by assumption)) ?_
      refine st_ild rfl rfl ?_
      refine st_iald rfl (by first | exact tT hM rfl | assumption | exact rw_T hM (by assumption) | exact rw_A hM (by assumption)) (by first | decide | assumption | exact vp_in_nI (by omega) (by decide)) ?_
      -- at 20: op_iret
      exact st_iret rfl ⟨by rw [e1, h.2.2.2.2.2.2.2.1 j hj], rfl⟩
    · refine en_156 (Nat.le_of_ble_eq_true rfl) ?_
      have hM := h.1
      refine st_ild rfl rfl ?_
      refine st_k rfl ?_
      refine st_k rfl ?_
      refine st_call (As := [_, _, _]) rfl rfl rfl (Nat.le_of_ble_eq_true rfl) (m_in (d + 18) _ 1 5) ?_
      refine st_b1 rfl (fun zq => absurd zq (b01_t g)) (fun _ => ?_)
      refine st_ald rfl rfl ?_
      refine st_gR' rfl (by first | exact tT hM rfl | assumption | exact rw_T hM (by assumption) | exact rw_A hM (by assumption)) (by first | exact rR hM rfl rfl | assumption | exact rw_R hM (by assumption)) ?_
      refine st_ild rfl rfl ?_
      refine st_iald rfl (by first | exact tT hM rfl | assumption | exact rw_T hM (by assumption) | exact rw_A hM (by assumption)) (by first | decide | assumption | exact vp_in_nI (by omega) (by decide)) ?_
      refine st_go rfl ?_
      -- at 19: op_iret
      exact st_iret rfl ⟨by rw [e1, h.2.2.2.2.2.2.1 j hj], rfl⟩
  · refine bo_k (x := .int (-1)) ha (fun d M h => ?_) (fun d M h => ?_)
    · refine en_134 (Nat.le_of_ble_eq_true rfl) ?_
      refine st_ild rfl rfl ?_
      refine st_k rfl ?_
      refine st_b2 rfl (fun h1 => ?_) (fun h1 => ?_)
      -- at 2: split 10 5
      · refine st_k rfl ?_
        refine st_go rfl ?_
        -- at 20: op_iret
        exact st_iret rfl ⟨rfl, rfl⟩
      · refine st_ild rfl rfl ?_
        refine st_k rfl ?_
        refine st_b2 rfl (fun zq => absurd zq ((fun z => g ⟨h1, Int32.not_lt.mpr z⟩))) (fun _ => ?_)
        refine st_k rfl ?_
        refine st_go rfl ?_
        -- at 20: op_iret
        exact st_iret rfl ⟨rfl, rfl⟩
    · refine en_156 (Nat.le_of_ble_eq_true rfl) ?_
      refine st_ild rfl rfl ?_
      refine st_k rfl ?_
      refine st_k rfl ?_
      refine st_call (As := [_, _, _]) rfl rfl rfl (Nat.le_of_ble_eq_true rfl) (m_in (d + 18) _ 1 5) ?_
      refine st_b1 rfl (fun _ => ?_) (fun zq => absurd (b01_f g) zq)
      refine st_k rfl ?_
      -- at 19: op_iret
      exact st_iret rfl ⟨rfl, rfl⟩
end PUBC

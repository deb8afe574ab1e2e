/-! BOTH ANSWER ALIKE: mean, copy -/
section PUJ
variable {a : As} {M : pm_M}
/-- the sum of the first i places -/
def sm (l : List Int32) : Nat → Int64
  | 0 => 0
  | i + 1 => sm l i + (l.getD i 0).toInt64
theorem nI64 {n : Nat} (h0 : 0 < n) (h : n < 2 ^ 31) : ¬ (nI n).toInt64 = 0 := by
  rw [nI_l h]
  intro z
  have := (lN_eq (a := n) (b := 0) h (by decide)).mp z
  omega
theorem b_mean (ha : aw a) (r : Int32) : Both a 95 167 [.int r] := by
  rcases r_cs r with ⟨h1, h2⟩ | ⟨j, hj, hr, h1, h2⟩
  · refine bo_k (x := .int (-1)) ha (fun d M h => ?_) (fun d M h => ?_)
    · refine en_95 (Nat.le_of_ble_eq_true rfl) ?_
      refine st_ild rfl rfl ?_
      refine st_call (As := [_]) rfl rfl rfl (Nat.le_of_ble_eq_true rfl) (c_isRow (d + 18) r) ?_
      refine st_b1 rfl (fun zq => absurd zq ((fun z => z (b01_f h1)))) (fun _ => ?_)
      refine st_k rfl ?_
      -- at 8: op_iret
      exact st_iret rfl ⟨rfl, rfl⟩
    · refine en_167 (Nat.le_of_ble_eq_true rfl) ?_
      refine st_ild rfl rfl ?_
      refine st_call (As := [_]) rfl rfl rfl (Nat.le_of_ble_eq_true rfl) (m_isRow (d + 17) r) ?_
      refine st_b1 rfl (fun zq => absurd zq ((fun z => z (b01_f h2)))) (fun _ => ?_)
      refine st_k rfl ?_
      -- at 8: op_iret
      exact st_iret rfl ⟨rfl, rfl⟩
  subst hr
  have hin : vp_in (nI j) 6 := vp_in_nI hj (by decide)
  have e1 : (nI j).toNatClampNeg = j := nI_clamp (by omega)
  have ho := rw_row j hj
  cases hx : aR a j with
  | none =>
    refine bo_f ha (f := 1) (by decide) (fun d M h => ?_) (fun d M h => ?_)
    · refine en_95 (Nat.le_of_ble_eq_true rfl) ?_
      have hM := h.1
      have hz := h.2.1 j hj
      rw [hx] at hz
      refine st_ild rfl rfl ?_
      refine st_call (As := [_]) rfl rfl rfl (Nat.le_of_ble_eq_true rfl) (c_isRow (d + 18) _) ?_
      refine st_b1 rfl (fun _ => ?_) (fun zq => absurd (b01_t h1) zq)
      refine st_ald rfl rfl ?_
      refine st_gR' rfl (by first | exact tT hM rfl | assumption | exact rw_T hM (by assumption) | exact rw_A hM (by assumption)) (by first | exact rR hM rfl rfl | assumption | exact rw_R hM (by assumption)) ?_
      refine st_ild rfl rfl ?_
      refine st_aald' rfl (by first | exact tT hM rfl | assumption | exact rw_T hM (by assumption) | exact rw_A hM (by assumption)) (by first | decide | assumption | exact vp_in_nI (by omega) (by decide)) (by first | assumption | exact rRow' hM (by assumption) | exact rTxt' hM (by assumption) | exact rKep' hM (by assumption) | exact rRdg' hM (by assumption)) ?_
      refine st_ast rfl ?_
      refine st_ald rfl rfl ?_
      refine st_gI rfl (by first | exact tT hM rfl | assumption | exact rw_T hM (by assumption) | exact rw_A hM (by assumption)) ?_
      -- at 20: stop
      refine wp_e (crow_none hz) ?_
      refine st_b1 rfl (fun zq => absurd zq ((by decide))) (fun _ => ?_)
      refine st_ald rfl rfl ?_
      refine st_k rfl ?_
      refine st_cav (As := [_]) rfl rfl rfl (by first | exact tT hM rfl | assumption | exact rw_T hM (by assumption) | exact rw_A hM (by assumption)) (Nat.le_of_ble_eq_true rfl) (c_refuse (d + 18) hM (f := 1) (by decide)) ?_
      -- at 28: op_iret
      exact st_iret rfl ⟨rfl, rfl⟩
    · refine en_167 (Nat.le_of_ble_eq_true rfl) ?_
      have hM := h.1
      have hz := h.2.1 j hj
      rw [hx] at hz
      refine st_ild rfl rfl ?_
      refine st_call (As := [_]) rfl rfl rfl (Nat.le_of_ble_eq_true rfl) (m_isRow (d + 17) _) ?_
      refine st_b1 rfl (fun _ => ?_) (fun zq => absurd (b01_t h2) zq)
      refine st_ald rfl rfl ?_
      refine st_gR' rfl (by first | exact tT hM rfl | assumption | exact rw_T hM (by assumption) | exact rw_A hM (by assumption)) (by first | exact rR hM rfl rfl | assumption | exact rw_R hM (by assumption)) ?_
      refine st_ild rfl rfl ?_
      refine st_iald rfl (by first | exact tT hM rfl | assumption | exact rw_T hM (by assumption) | exact rw_A hM (by assumption)) (by first | decide | assumption | exact vp_in_nI (by omega) (by decide)) ?_
      -- at 15: stop
      refine wp_e (y := -1) (by rw [e1]; exact hz) ?_
      refine st_b1 rfl (fun zq => absurd zq ((by decide))) (fun _ => ?_)
      refine st_ald rfl rfl ?_
      refine st_k rfl ?_
      refine st_cav (As := [_]) rfl rfl rfl (by first | exact tT hM rfl | assumption | exact rw_T hM (by assumption) | exact rw_A hM (by assumption)) (Nat.le_of_ble_eq_true rfl) (m_meets (d + 18) hM (f := 1) (by decide)) ?_
      -- at 23: op_iret
      exact st_iret rfl ⟨rfl, rfl⟩
  | some l =>
    by_cases hl0 : l.length = 0
    · refine bo_f ha (f := 4) (by decide) (fun d M h => ?_) (fun d M h => ?_)
      · refine en_95 (Nat.le_of_ble_eq_true rfl) ?_
        have hM := h.1
        have hz := h.2.1 j hj
        rw [hx] at hz
        have e : gI M (106 + 2 * j) 1 = nI 0 := by rw [(crow_some hz).1, hl0]
        refine st_ild rfl rfl ?_
        refine st_call (As := [_]) rfl rfl rfl (Nat.le_of_ble_eq_true rfl) (c_isRow (d + 18) _) ?_
        refine st_b1 rfl (fun _ => ?_) (fun zq => absurd (b01_t h1) zq)
        refine st_ald rfl rfl ?_
        refine st_gR' rfl (by first | exact tT hM rfl | assumption | exact rw_T hM (by assumption) | exact rw_A hM (by assumption)) (by first | exact rR hM rfl rfl | assumption | exact rw_R hM (by assumption)) ?_
        refine st_ild rfl rfl ?_
        refine st_aald' rfl (by first | exact tT hM rfl | assumption | exact rw_T hM (by assumption) | exact rw_A hM (by assumption)) (by first | decide | assumption | exact vp_in_nI (by omega) (by decide)) (by first | assumption | exact rRow' hM (by assumption) | exact rTxt' hM (by assumption) | exact rKep' hM (by assumption) | exact rRdg' hM (by assumption)) ?_
        refine st_ast rfl ?_
        refine st_ald rfl rfl ?_
        refine st_gI rfl (by first | exact tT hM rfl | assumption | exact rw_T hM (by assumption) | exact rw_A hM (by assumption)) ?_
        -- at 20: stop
        refine wp_e e ?_
        refine st_b1 rfl (fun _ => ?_) (fun zq => absurd ((by decide)) zq)
        refine st_ald rfl rfl ?_
        refine st_gI rfl (by first | exact tT hM rfl | assumption | exact rw_T hM (by assumption) | exact rw_A hM (by assumption)) ?_
        -- at 33: stop
        refine wp_e e ?_
        refine st_b1 rfl (fun zq => absurd zq ((by decide))) (fun _ => ?_)
        refine st_ald rfl rfl ?_
        refine st_k rfl ?_
        refine st_cav (As := [_]) rfl rfl rfl (by first | exact tT hM rfl | assumption | exact rw_T hM (by assumption) | exact rw_A hM (by assumption)) (Nat.le_of_ble_eq_true rfl) (c_refuse (d + 18) hM (f := 4) (by decide)) ?_
        -- at 41: op_iret
        exact st_iret rfl ⟨rfl, rfl⟩
      · refine en_167 (Nat.le_of_ble_eq_true rfl) ?_
        have hM := h.1
        have hz := h.2.1 j hj
        rw [hx] at hz
        have e : gI M 134 (nI j).toNatClampNeg = nI 0 := by rw [e1, ← hl0]; exact hz.1
        refine st_ild rfl rfl ?_
        refine st_call (As := [_]) rfl rfl rfl (Nat.le_of_ble_eq_true rfl) (m_isRow (d + 17) _) ?_
        refine st_b1 rfl (fun _ => ?_) (fun zq => absurd (b01_t h2) zq)
        refine st_ald rfl rfl ?_
        refine st_gR' rfl (by first | exact tT hM rfl | assumption | exact rw_T hM (by assumption) | exact rw_A hM (by assumption)) (by first | exact rR hM rfl rfl | assumption | exact rw_R hM (by assumption)) ?_
        refine st_ild rfl rfl ?_
        refine st_iald rfl (by first | exact tT hM rfl | assumption | exact rw_T hM (by assumption) | exact rw_A hM (by assumption)) (by first | decide | assumption | exact vp_in_nI (by omega) (by decide)) ?_
        -- at 15: stop
        refine wp_e e ?_
        refine st_b1 rfl (fun _ => ?_) (fun zq => absurd ((by decide)) zq)
        refine st_ald rfl rfl ?_
        refine st_gR' rfl (by first | exact tT hM rfl | assumption | exact rw_T hM (by assumption) | exact rw_A hM (by assumption)) (by first | exact rR hM rfl rfl | assumption | exact rw_R hM (by assumption)) ?_
        refine st_ild rfl rfl ?_
        refine st_iald rfl (by first | exact tT hM rfl | assumption | exact rw_T hM (by assumption) | exact rw_A hM (by assumption)) (by first | decide | assumption | exact vp_in_nI (by omega) (by decide)) ?_
        -- at 30: stop
        refine wp_e e ?_
        refine st_b1 rfl (fun zq => absurd zq ((by decide))) (fun _ => ?_)
        refine st_ald rfl rfl ?_
        refine st_k rfl ?_
        refine st_cav (As := [_]) rfl rfl rfl (by first | exact tT hM rfl | assumption | exact rw_T hM (by assumption) | exact rw_A hM (by assumption)) (Nat.le_of_ble_eq_true rfl) (m_meets (d + 18) hM (f := 4) (by decide)) ?_
        -- at 38: op_iret
        exact st_iret rfl ⟨rfl, rfl⟩
    · by_cases hl40 : l.length ≤ 40
      case neg =>
        refine ⟨.int 0, a, ha, fun d M h => ?_, fun d M h => ?_⟩
        · have hz := h.2.1 j hj
          rw [hx] at hz
          have := (crow_some hz).2.1
          omega
        · have hz := h.2.1 j hj
          rw [hx] at hz
          have := hz.2.1
          omega
      refine bo_t (x := .int 1) (v := (sm l l.length / (nI l.length).toInt64).toInt32) ha (fun d M h => ?_) (fun d M h => ?_)
      · refine en_95 (Nat.le_of_ble_eq_true rfl) ?_
        have hM := h.1
        have hz := h.2.1 j hj
        rw [hx] at hz
        have hzz := crow_some hz
        have loop : ∀ n i x y, x = nI i → y = sm l i → i + n = l.length → pm_WP (pm_call (d + 19)) tb_95 (fun r0 M1 => r0 = some (.int 1) ∧ M1 = sI M 0 18 (sm l l.length / (nI l.length).toInt64).toInt32) 47 [some (.ref 0), some (.int (nI j)), some (.ref (106 + 2 * j)), some (.long y), none, some (.int x)] [] M := by
          intro n
          induction n with
          | zero =>
            intro i x y hx hy hi
            subst hx; subst hy
            refine st_ild rfl rfl ?_
            refine st_ald rfl rfl ?_
            refine st_gI rfl (by first | exact tT hM rfl | assumption | exact rw_T hM (by assumption) | exact rw_A hM (by assumption)) ?_
            -- at 53: stop
            refine wp_e hzz.1 ?_
            refine st_b2 rfl (fun _ => ?_) (fun zq => absurd (nI_le (by omega) (by omega)) zq)
            refine st_ald rfl rfl ?_
            refine st_lld rfl rfl ?_
            refine st_ald rfl rfl ?_
            refine st_gI rfl (by first | exact tT hM rfl | assumption | exact rw_T hM (by assumption) | exact rw_A hM (by assumption)) ?_
            -- at 79: stop
            refine wp_e hzz.1 ?_
            refine st_i2l rfl ?_
            refine st_ldv rfl (nI64 (by omega) (by omega)) ?_
            refine st_l2i rfl ?_
            refine st_pI rfl (by first | exact tT hM rfl | assumption | exact rw_T hM (by assumption) | exact rw_A hM (by assumption)) ?_
            refine st_k rfl ?_
            -- at 86: op_iret
            exact st_iret rfl ⟨rfl, by rw [show i = l.length by omega]⟩
          | succ n ih =>
            intro i x y hx hy hi
            subst hx; subst hy
            have hin2 := ro_in hzz (show i < l.length by omega)
            refine st_ild rfl rfl ?_
            refine st_ald rfl rfl ?_
            refine st_gI rfl (by first | exact tT hM rfl | assumption | exact rw_T hM (by assumption) | exact rw_A hM (by assumption)) ?_
            -- at 53: stop
            refine wp_e hzz.1 ?_
            refine st_b2 rfl (fun zq => absurd zq (nI_ge (by omega) (by omega))) (fun _ => ?_)
            refine st_lld rfl rfl ?_
            refine st_ald rfl rfl ?_
            refine st_gR' rfl (by first | exact tT hM rfl | assumption | exact rw_T hM (by assumption) | exact rw_A hM (by assumption)) (by first | exact rR hM rfl rfl | assumption | exact rw_R hM (by assumption)) ?_
            refine st_ild rfl rfl ?_
            refine st_iald rfl (by first | exact tT hM rfl | assumption | exact rw_T hM (by assumption) | exact rw_A hM (by assumption)) (by first | decide | assumption | exact vp_in_nI (by omega) (by decide)) ?_
            -- at 64: stop
            refine wp_e (ro_at hzz (by omega)) ?_
            refine st_i2l rfl ?_
            refine st_lb rfl ?_
            refine st_lst rfl ?_
            refine st_inc rfl rfl ?_
            refine st_go rfl ?_
            -- at 47: stop
            exact ih (i + 1) _ _ (nI_1 i) rfl (by omega)
        refine st_ild rfl rfl ?_
        refine st_call (As := [_]) rfl rfl rfl (Nat.le_of_ble_eq_true rfl) (c_isRow (d + 18) _) ?_
        refine st_b1 rfl (fun _ => ?_) (fun zq => absurd (b01_t h1) zq)
        refine st_ald rfl rfl ?_
        refine st_gR' rfl (by first | exact tT hM rfl | assumption | exact rw_T hM (by assumption) | exact rw_A hM (by assumption)) (by first | exact rR hM rfl rfl | assumption | exact rw_R hM (by assumption)) ?_
        refine st_ild rfl rfl ?_
        refine st_aald' rfl (by first | exact tT hM rfl | assumption | exact rw_T hM (by assumption) | exact rw_A hM (by assumption)) (by first | decide | assumption | exact vp_in_nI (by omega) (by decide)) (by first | assumption | exact rRow' hM (by assumption) | exact rTxt' hM (by assumption) | exact rKep' hM (by assumption) | exact rRdg' hM (by assumption)) ?_
        refine st_ast rfl ?_
        refine st_ald rfl rfl ?_
        refine st_gI rfl (by first | exact tT hM rfl | assumption | exact rw_T hM (by assumption) | exact rw_A hM (by assumption)) ?_
        -- at 20: stop
        refine wp_e hzz.1 ?_
        refine st_b1 rfl (fun _ => ?_) (fun zq => absurd (nI_pos' (by omega)) zq)
        refine st_ald rfl rfl ?_
        refine st_gI rfl (by first | exact tT hM rfl | assumption | exact rw_T hM (by assumption) | exact rw_A hM (by assumption)) ?_
        -- at 33: stop
        refine wp_e hzz.1 ?_
        refine st_b1 rfl (fun _ => ?_) (fun zq => absurd (nI_ne0 (by omega) (by omega)) zq)
        refine st_k rfl ?_
        refine st_lst rfl ?_
        refine st_k rfl ?_
        refine st_ist rfl ?_
        -- at 47: stop
        exact loop l.length 0 0 0 rfl rfl (by omega)
      · refine en_167 (Nat.le_of_ble_eq_true rfl) ?_
        have hM := h.1
        have hz := h.2.1 j hj
        rw [hx] at hz
        have e : gI M 134 (nI j).toNatClampNeg = nI l.length := by rw [e1]; exact hz.1
        have loop : ∀ n i x y, x = nI i → y = sm l i → i + n = l.length → pm_WP (pm_call (d + 19)) tb_167 (fun r0 M1 => r0 = some (.int 1) ∧ M1 = sI M 132 2 (sm l l.length / (nI l.length).toInt64).toInt32) 44 [some (.ref 132), some (.int (nI j)), some (.long y), none, some (.int x)] [] M := by
          intro n
          induction n with
          | zero =>
            intro i x y hx hy hi
            subst hx; subst hy
            refine st_ild rfl rfl ?_
            refine st_ald rfl rfl ?_
            refine st_gR' rfl (by first | exact tT hM rfl | assumption | exact rw_T hM (by assumption) | exact rw_A hM (by assumption)) (by first | exact rR hM rfl rfl | assumption | exact rw_R hM (by assumption)) ?_
            refine st_ild rfl rfl ?_
            refine st_iald rfl (by first | exact tT hM rfl | assumption | exact rw_T hM (by assumption) | exact rw_A hM (by assumption)) (by first | decide | assumption | exact vp_in_nI (by omega) (by decide)) ?_
            -- at 52: stop
            refine wp_e e ?_
            refine st_b2 rfl (fun _ => ?_) (fun zq => absurd (nI_le (by omega) (by omega)) zq)
            refine st_ald rfl rfl ?_
            refine st_lld rfl rfl ?_
            refine st_ald rfl rfl ?_
            refine st_gR' rfl (by first | exact tT hM rfl | assumption | exact rw_T hM (by assumption) | exact rw_A hM (by assumption)) (by first | exact rR hM rfl rfl | assumption | exact rw_R hM (by assumption)) ?_
            refine st_ild rfl rfl ?_
            refine st_iald rfl (by first | exact tT hM rfl | assumption | exact rw_T hM (by assumption) | exact rw_A hM (by assumption)) (by first | decide | assumption | exact vp_in_nI (by omega) (by decide)) ?_
            -- at 80: stop
            refine wp_e e ?_
            refine st_i2l rfl ?_
            refine st_ldv rfl (nI64 (by omega) (by omega)) ?_
            refine st_l2i rfl ?_
            refine st_k rfl ?_
            refine st_cav (As := [_, _]) rfl rfl rfl (by first | exact tT hM rfl | assumption | exact rw_T hM (by assumption) | exact rw_A hM (by assumption)) (Nat.le_of_ble_eq_true rfl) (m_tells (d + 18) hM _ _) ?_
            -- at 87: op_iret
            exact st_iret rfl ⟨rfl, by rw [show i = l.length by omega]⟩
          | succ n ih =>
            intro i x y hx hy hi
            subst hx; subst hy
            refine st_ild rfl rfl ?_
            refine st_ald rfl rfl ?_
            refine st_gR' rfl (by first | exact tT hM rfl | assumption | exact rw_T hM (by assumption) | exact rw_A hM (by assumption)) (by first | exact rR hM rfl rfl | assumption | exact rw_R hM (by assumption)) ?_
            refine st_ild rfl rfl ?_
            refine st_iald rfl (by first | exact tT hM rfl | assumption | exact rw_T hM (by assumption) | exact rw_A hM (by assumption)) (by first | decide | assumption | exact vp_in_nI (by omega) (by decide)) ?_
            -- at 52: stop
            refine wp_e e ?_
            refine st_b2 rfl (fun zq => absurd zq (nI_ge (by omega) (by omega))) (fun _ => ?_)
            refine st_lld rfl rfl ?_
            refine st_ald rfl rfl ?_
            refine st_ild rfl rfl ?_
            refine st_ild rfl rfl ?_
            refine st_cav (As := [_, _]) rfl rfl rfl (by first | exact tT hM rfl | assumption | exact rw_T hM (by assumption) | exact rw_A hM (by assumption)) (Nat.le_of_ble_eq_true rfl) (m_rowAt (d + 18) hM hj (show i < 40 by omega)) ?_
            -- at 63: stop
            refine wp_e (hz.2.2 i (by omega)) ?_
            refine st_i2l rfl ?_
            refine st_lb rfl ?_
            refine st_lst rfl ?_
            refine st_inc rfl rfl ?_
            refine st_go rfl ?_
            -- at 44: stop
            exact ih (i + 1) _ _ (nI_1 i) rfl (by omega)
        refine st_ild rfl rfl ?_
        refine st_call (As := [_]) rfl rfl rfl (Nat.le_of_ble_eq_true rfl) (m_isRow (d + 17) _) ?_
        refine st_b1 rfl (fun _ => ?_) (fun zq => absurd (b01_t h2) zq)
        refine st_ald rfl rfl ?_
        refine st_gR' rfl (by first | exact tT hM rfl | assumption | exact rw_T hM (by assumption) | exact rw_A hM (by assumption)) (by first | exact rR hM rfl rfl | assumption | exact rw_R hM (by assumption)) ?_
        refine st_ild rfl rfl ?_
        refine st_iald rfl (by first | exact tT hM rfl | assumption | exact rw_T hM (by assumption) | exact rw_A hM (by assumption)) (by first | decide | assumption | exact vp_in_nI (by omega) (by decide)) ?_
        -- at 15: stop
        refine wp_e e ?_
        refine st_b1 rfl (fun _ => ?_) (fun zq => absurd (nI_pos' (by omega)) zq)
        refine st_ald rfl rfl ?_
        refine st_gR' rfl (by first | exact tT hM rfl | assumption | exact rw_T hM (by assumption) | exact rw_A hM (by assumption)) (by first | exact rR hM rfl rfl | assumption | exact rw_R hM (by assumption)) ?_
        refine st_ild rfl rfl ?_
        refine st_iald rfl (by first | exact tT hM rfl | assumption | exact rw_T hM (by assumption) | exact rw_A hM (by assumption)) (by first | decide | assumption | exact vp_in_nI (by omega) (by decide)) ?_
        -- at 30: stop
        refine wp_e e ?_
        refine st_b1 rfl (fun _ => ?_) (fun zq => absurd (nI_ne0 (by omega) (by omega)) zq)
        refine st_k rfl ?_
        refine st_lst rfl ?_
        refine st_k rfl ?_
        refine st_ist rfl ?_
        -- at 44: stop
        exact loop l.length 0 0 0 rfl rfl (by omega)
/-! copy -/
/-- n places of l from i on come into k from j on -/
def cpl (l k : List Int32) (i j n : Nat) : List Int32 := (List.range k.length).map (fun q => if j ≤ q ∧ q < j + n then l.getD (i + (q - j)) 0 else k.getD q 0)
theorem cpl_len (l k : List Int32) (i j n : Nat) : (cpl l k i j n).length = k.length := by simp [cpl]
theorem cpl_at {l k : List Int32} {i j n q : Nat} (hq : q < k.length) : (cpl l k i j n).getD q 0 = if j ≤ q ∧ q < j + n then l.getD (i + (q - j)) 0 else k.getD q 0 := by
  simp [cpl, List.getD_eq_getElem?_getD, List.getElem?_map, List.getElem?_range hq]
theorem st_cs {n : Nat} (hn : n ≤ 40) (i : Int32) {m : Nat} (hm : m < 2 ^ 31) : (∃ p, i = nI p ∧ p + m ≤ n ∧ ¬ i < 0 ∧ ¬ nI n < i ∧ ¬ nI n - i < nI m) ∨ (¬ (¬ i < 0 ∧ ¬ nI n < i ∧ ¬ nI n - i < nI m) ∧ (i < 0 ∨ (¬ i < 0 ∧ ¬ i.toInt64 + (nI m).toInt64 ≤ (nI n).toInt64))) := by
  by_cases g : i < 0
  · exact Or.inr ⟨fun z => z.1 g, Or.inl g⟩
  obtain ⟨p, hp, hi⟩ := nI_of g
  subst hi
  have e64 : ((nI p).toInt64 + (nI m).toInt64 ≤ (nI n).toInt64) ↔ p + m ≤ n := by
    rw [nI_l hp, nI_l hm, nI_l (show n < 2 ^ 31 by omega), lN_add]
    exact pk_lLE (by omega) (by omega)
  by_cases hb : p + m ≤ n
  · refine Or.inl ⟨p, rfl, hb, g, nI_nlt (by omega) (by omega), ?_⟩
    rw [pk_sub (by omega)]
    exact nI_nlt (by omega) (by omega)
  · refine Or.inr ⟨fun z => ?_, Or.inr ⟨g, fun z => hb (e64.mp z)⟩⟩
    have hpn : p ≤ n := Nat.not_lt.mp (fun w => z.2.1 (nI_lt w hp))
    refine z.2.2 ?_
    rw [pk_sub hpn]
    exact nI_lt (by omega) hm
theorem b_copy (ha : aw a) (r i t k n : Int32) : Both a 94 166 [.int r, .int i, .int t, .int k, .int n] := by
  rcases r_cs r with ⟨h1, h2⟩ | ⟨j, hj, hr, h1, h2⟩
  · refine bo_k (x := .int (-1)) ha (fun d M h => ?_) (fun d M h => ?_)
    · refine en_94 (Nat.le_of_ble_eq_true rfl) ?_
      refine st_ild rfl rfl ?_
      refine st_call (As := [_]) rfl rfl rfl (Nat.le_of_ble_eq_true rfl) (c_isRow (d + 18) r) ?_
      refine st_b1 rfl (fun _ => ?_) (fun zq => absurd (b01_f h1) zq)
      refine st_k rfl ?_
      -- at 15: op_iret
      exact st_iret rfl ⟨rfl, rfl⟩
    · refine en_166 (Nat.le_of_ble_eq_true rfl) ?_
      refine st_ild rfl rfl ?_
      refine st_call (As := [_]) rfl rfl rfl (Nat.le_of_ble_eq_true rfl) (m_isRow (d + 17) r) ?_
      refine st_b1 rfl (fun _ => ?_) (fun zq => absurd (b01_f h2) zq)
      refine st_k rfl ?_
      -- at 15: op_iret
      exact st_iret rfl ⟨rfl, rfl⟩
  rcases r_cs t with ⟨t1, t2⟩ | ⟨u, hu, ht, t1, t2⟩
  · refine bo_k (x := .int (-1)) ha (fun d M h => ?_) (fun d M h => ?_)
    · refine en_94 (Nat.le_of_ble_eq_true rfl) ?_
      refine st_ild rfl rfl ?_
      refine st_call (As := [_]) rfl rfl rfl (Nat.le_of_ble_eq_true rfl) (c_isRow (d + 18) r) ?_
      refine st_b1 rfl (fun zq => absurd zq (b01_t h1)) (fun _ => ?_)
      refine st_ild rfl rfl ?_
      refine st_call (As := [_]) rfl rfl rfl (Nat.le_of_ble_eq_true rfl) (c_isRow (d + 18) t) ?_
      refine st_b1 rfl (fun zq => absurd zq ((fun z => z (b01_f t1)))) (fun _ => ?_)
      refine st_k rfl ?_
      -- at 15: op_iret
      exact st_iret rfl ⟨rfl, rfl⟩
    · refine en_166 (Nat.le_of_ble_eq_true rfl) ?_
      refine st_ild rfl rfl ?_
      refine st_call (As := [_]) rfl rfl rfl (Nat.le_of_ble_eq_true rfl) (m_isRow (d + 17) r) ?_
      refine st_b1 rfl (fun zq => absurd zq (b01_t h2)) (fun _ => ?_)
      refine st_ild rfl rfl ?_
      refine st_call (As := [_]) rfl rfl rfl (Nat.le_of_ble_eq_true rfl) (m_isRow (d + 17) t) ?_
      refine st_b1 rfl (fun zq => absurd zq ((fun z => z (b01_f t2)))) (fun _ => ?_)
      refine st_k rfl ?_
      -- at 15: op_iret
      exact st_iret rfl ⟨rfl, rfl⟩
  by_cases hn0 : n < 0
  · have hn0 : ¬ 0 ≤ n := Int32.not_le.mpr hn0
    refine bo_f ha (f := 5) (by decide) (fun d M h => ?_) (fun d M h => ?_)
    · refine en_94 (Nat.le_of_ble_eq_true rfl) ?_
      have hM := h.1
      refine st_ild rfl rfl ?_
      refine st_call (As := [_]) rfl rfl rfl (Nat.le_of_ble_eq_true rfl) (c_isRow (d + 18) r) ?_
      refine st_b1 rfl (fun zq => absurd zq (b01_t h1)) (fun _ => ?_)
      refine st_ild rfl rfl ?_
      refine st_call (As := [_]) rfl rfl rfl (Nat.le_of_ble_eq_true rfl) (c_isRow (d + 18) t) ?_
      refine st_b1 rfl (fun _ => ?_) (fun zq => absurd (b01_t t1) zq)
      refine st_ild rfl rfl ?_
      refine st_b1 rfl (fun zq => absurd zq (hn0)) (fun _ => ?_)
      refine st_ald rfl rfl ?_
      refine st_k rfl ?_
      refine st_cav (As := [_]) rfl rfl rfl (by first | exact tT hM rfl | assumption | exact rw_T hM (by assumption) | exact rw_A hM (by assumption)) (Nat.le_of_ble_eq_true rfl) (c_refuse (d + 18) hM (f := 5) (by decide)) ?_
      -- at 26: op_iret
      exact st_iret rfl ⟨rfl, rfl⟩
    · refine en_166 (Nat.le_of_ble_eq_true rfl) ?_
      have hM := h.1
      refine st_ild rfl rfl ?_
      refine st_call (As := [_]) rfl rfl rfl (Nat.le_of_ble_eq_true rfl) (m_isRow (d + 17) r) ?_
      refine st_b1 rfl (fun zq => absurd zq (b01_t h2)) (fun _ => ?_)
      refine st_ild rfl rfl ?_
      refine st_call (As := [_]) rfl rfl rfl (Nat.le_of_ble_eq_true rfl) (m_isRow (d + 17) t) ?_
      refine st_b1 rfl (fun _ => ?_) (fun zq => absurd (b01_t t2) zq)
      refine st_ild rfl rfl ?_
      refine st_b1 rfl (fun zq => absurd zq (hn0)) (fun _ => ?_)
      refine st_ald rfl rfl ?_
      refine st_k rfl ?_
      refine st_cav (As := [_]) rfl rfl rfl (by first | exact tT hM rfl | assumption | exact rw_T hM (by assumption) | exact rw_A hM (by assumption)) (Nat.le_of_ble_eq_true rfl) (m_meets (d + 18) hM (f := 5) (by decide)) ?_
      -- at 26: op_iret
      exact st_iret rfl ⟨rfl, rfl⟩
  have hn1 : 0 ≤ n := nlt0 hn0
  subst hr; subst ht
  have hin : vp_in (nI j) 6 := vp_in_nI hj (by decide)
  have hinu : vp_in (nI u) 6 := vp_in_nI hu (by decide)
  have e1 : (nI j).toNatClampNeg = j := nI_clamp (by omega)
  have e1u : (nI u).toNatClampNeg = u := nI_clamp (by omega)
  have ho := rw_row j hj
  have hou := rw_row u hu
  -- what the class does up to the sizes
  cases hx : aR a j with
  | none =>
    refine bo_f ha (f := 1) (by decide) (fun d M h => ?_) (fun d M h => ?_)
    · refine en_94 (Nat.le_of_ble_eq_true rfl) ?_
      have hM := h.1
      have hz := h.2.1 j hj
      rw [hx] at hz
      refine st_ild rfl rfl ?_
      refine st_call (As := [_]) rfl rfl rfl (Nat.le_of_ble_eq_true rfl) (c_isRow (d + 18) _) ?_
      refine st_b1 rfl (fun zq => absurd zq (b01_t h1)) (fun _ => ?_)
      refine st_ild rfl rfl ?_
      refine st_call (As := [_]) rfl rfl rfl (Nat.le_of_ble_eq_true rfl) (c_isRow (d + 18) _) ?_
      refine st_b1 rfl (fun _ => ?_) (fun zq => absurd (b01_t t1) zq)
      refine st_ild rfl rfl ?_
      refine st_b1 rfl (fun _ => ?_) (fun zq => absurd (hn1) zq)
      refine st_ald rfl rfl ?_
      refine st_gR' rfl (by first | exact tT hM rfl | assumption | exact rw_T hM (by assumption) | exact rw_A hM (by assumption)) (by first | exact rR hM rfl rfl | assumption | exact rw_R hM (by assumption)) ?_
      refine st_ild rfl rfl ?_
      refine st_aald' rfl (tT hM rfl) (hin) (rRow' hM hj) ?_
      refine st_ast rfl ?_
      refine st_ald rfl rfl ?_
      refine st_gR' rfl (by first | exact tT hM rfl | assumption | exact rw_T hM (by assumption) | exact rw_A hM (by assumption)) (by first | exact rR hM rfl rfl | assumption | exact rw_R hM (by assumption)) ?_
      refine st_ild rfl rfl ?_
      refine st_aald' rfl (tT hM rfl) (hinu) (rRow' hM hu) ?_
      refine st_ast rfl ?_
      refine st_ald rfl rfl ?_
      refine st_gI rfl (rw_T hM ho) ?_
      -- at 48: stop
      refine wp_e (crow_none hz) ?_
      refine st_b1 rfl (fun _ => ?_) (fun zq => absurd ((by decide)) zq)
      refine st_ald rfl rfl ?_
      refine st_k rfl ?_
      refine st_cav (As := [_]) rfl rfl rfl (by first | exact tT hM rfl | assumption | exact rw_T hM (by assumption) | exact rw_A hM (by assumption)) (Nat.le_of_ble_eq_true rfl) (c_refuse (d + 18) hM (f := 1) (by decide)) ?_
      -- at 64: op_iret
      exact st_iret rfl ⟨rfl, rfl⟩
    · refine en_166 (Nat.le_of_ble_eq_true rfl) ?_
      have hM := h.1
      have hz := h.2.1 j hj
      rw [hx] at hz
      refine st_ild rfl rfl ?_
      refine st_call (As := [_]) rfl rfl rfl (Nat.le_of_ble_eq_true rfl) (m_isRow (d + 17) _) ?_
      refine st_b1 rfl (fun zq => absurd zq (b01_t h2)) (fun _ => ?_)
      refine st_ild rfl rfl ?_
      refine st_call (As := [_]) rfl rfl rfl (Nat.le_of_ble_eq_true rfl) (m_isRow (d + 17) _) ?_
      refine st_b1 rfl (fun _ => ?_) (fun zq => absurd (b01_t t2) zq)
      refine st_ild rfl rfl ?_
      refine st_b1 rfl (fun _ => ?_) (fun zq => absurd (hn1) zq)
      refine st_ald rfl rfl ?_
      refine st_gR' rfl (by first | exact tT hM rfl | assumption | exact rw_T hM (by assumption) | exact rw_A hM (by assumption)) (by first | exact rR hM rfl rfl | assumption | exact rw_R hM (by assumption)) ?_
      refine st_ild rfl rfl ?_
      refine st_iald rfl (by first | exact tT hM rfl | assumption | exact rw_T hM (by assumption) | exact rw_A hM (by assumption)) (hin) ?_
      -- at 33: stop
      refine wp_e (y := -1) (by rw [e1]; exact hz) ?_
      refine st_b1 rfl (fun _ => ?_) (fun zq => absurd ((by decide)) zq)
      refine st_ald rfl rfl ?_
      refine st_k rfl ?_
      refine st_cav (As := [_]) rfl rfl rfl (by first | exact tT hM rfl | assumption | exact rw_T hM (by assumption) | exact rw_A hM (by assumption)) (Nat.le_of_ble_eq_true rfl) (m_meets (d + 18) hM (f := 1) (by decide)) ?_
      -- at 50: op_iret
      exact st_iret rfl ⟨rfl, rfl⟩
  | some l =>
    by_cases hl40 : l.length ≤ 40
    case neg =>
      refine ⟨.int 0, a, ha, fun d M h => ?_, fun d M h => ?_⟩
      · have hz := h.2.1 j hj
        rw [hx] at hz
        have := (crow_some hz).2.1
        omega
      · have hz := h.2.1 j hj
        rw [hx] at hz
        have := hz.2.1
        omega
    cases hy : aR a u with
    | none =>
      refine bo_f ha (f := 1) (by decide) (fun d M h => ?_) (fun d M h => ?_)
      · refine en_94 (Nat.le_of_ble_eq_true rfl) ?_
        have hM := h.1
        have hz := h.2.1 j hj
        rw [hx] at hz
        have hw := h.2.1 u hu
        rw [hy] at hw
        refine st_ild rfl rfl ?_
        refine st_call (As := [_]) rfl rfl rfl (Nat.le_of_ble_eq_true rfl) (c_isRow (d + 18) _) ?_
        refine st_b1 rfl (fun zq => absurd zq (b01_t h1)) (fun _ => ?_)
        refine st_ild rfl rfl ?_
        refine st_call (As := [_]) rfl rfl rfl (Nat.le_of_ble_eq_true rfl) (c_isRow (d + 18) _) ?_
        refine st_b1 rfl (fun _ => ?_) (fun zq => absurd (b01_t t1) zq)
        refine st_ild rfl rfl ?_
        refine st_b1 rfl (fun _ => ?_) (fun zq => absurd (hn1) zq)
        refine st_ald rfl rfl ?_
        refine st_gR' rfl (by first | exact tT hM rfl | assumption | exact rw_T hM (by assumption) | exact rw_A hM (by assumption)) (by first | exact rR hM rfl rfl | assumption | exact rw_R hM (by assumption)) ?_
        refine st_ild rfl rfl ?_
        refine st_aald' rfl (tT hM rfl) (hin) (rRow' hM hj) ?_
        refine st_ast rfl ?_
        refine st_ald rfl rfl ?_
        refine st_gR' rfl (by first | exact tT hM rfl | assumption | exact rw_T hM (by assumption) | exact rw_A hM (by assumption)) (by first | exact rR hM rfl rfl | assumption | exact rw_R hM (by assumption)) ?_
        refine st_ild rfl rfl ?_
        refine st_aald' rfl (tT hM rfl) (hinu) (rRow' hM hu) ?_
        refine st_ast rfl ?_
        refine st_ald rfl rfl ?_
        refine st_gI rfl (rw_T hM ho) ?_
        -- at 48: stop
        refine wp_e (crow_some hz).1 ?_
        refine st_b1 rfl (fun zq => absurd zq (nI_pos (by omega))) (fun _ => ?_)
        refine st_ald rfl rfl ?_
        refine st_gI rfl (rw_T hM hou) ?_
        -- at 56: stop
        refine wp_e (crow_none hw) ?_
        refine st_b1 rfl (fun zq => absurd zq ((by decide))) (fun _ => ?_)
        refine st_ald rfl rfl ?_
        refine st_k rfl ?_
        refine st_cav (As := [_]) rfl rfl rfl (by first | exact tT hM rfl | assumption | exact rw_T hM (by assumption) | exact rw_A hM (by assumption)) (Nat.le_of_ble_eq_true rfl) (c_refuse (d + 18) hM (f := 1) (by decide)) ?_
        -- at 64: op_iret
        exact st_iret rfl ⟨rfl, rfl⟩
      · refine en_166 (Nat.le_of_ble_eq_true rfl) ?_
        have hM := h.1
        have hz := h.2.1 j hj
        rw [hx] at hz
        have hw := h.2.1 u hu
        rw [hy] at hw
        refine st_ild rfl rfl ?_
        refine st_call (As := [_]) rfl rfl rfl (Nat.le_of_ble_eq_true rfl) (m_isRow (d + 17) _) ?_
        refine st_b1 rfl (fun zq => absurd zq (b01_t h2)) (fun _ => ?_)
        refine st_ild rfl rfl ?_
        refine st_call (As := [_]) rfl rfl rfl (Nat.le_of_ble_eq_true rfl) (m_isRow (d + 17) _) ?_
        refine st_b1 rfl (fun _ => ?_) (fun zq => absurd (b01_t t2) zq)
        refine st_ild rfl rfl ?_
        refine st_b1 rfl (fun _ => ?_) (fun zq => absurd (hn1) zq)
        refine st_ald rfl rfl ?_
        refine st_gR' rfl (by first | exact tT hM rfl | assumption | exact rw_T hM (by assumption) | exact rw_A hM (by assumption)) (by first | exact rR hM rfl rfl | assumption | exact rw_R hM (by assumption)) ?_
        refine st_ild rfl rfl ?_
        refine st_iald rfl (by first | exact tT hM rfl | assumption | exact rw_T hM (by assumption) | exact rw_A hM (by assumption)) (hin) ?_
        -- at 33: stop
        refine wp_e (y := nI l.length) (by rw [e1]; exact hz.1) ?_
        refine st_b1 rfl (fun zq => absurd zq (nI_pos (by omega))) (fun _ => ?_)
        refine st_ald rfl rfl ?_
        refine st_gR' rfl (by first | exact tT hM rfl | assumption | exact rw_T hM (by assumption) | exact rw_A hM (by assumption)) (by first | exact rR hM rfl rfl | assumption | exact rw_R hM (by assumption)) ?_
        refine st_ild rfl rfl ?_
        refine st_iald rfl (by first | exact tT hM rfl | assumption | exact rw_T hM (by assumption) | exact rw_A hM (by assumption)) (hinu) ?_
        -- at 42: stop
        refine wp_e (y := -1) (by rw [e1u]; exact hw) ?_
        refine st_b1 rfl (fun zq => absurd zq ((by decide))) (fun _ => ?_)
        refine st_ald rfl rfl ?_
        refine st_k rfl ?_
        refine st_cav (As := [_]) rfl rfl rfl (by first | exact tT hM rfl | assumption | exact rw_T hM (by assumption) | exact rw_A hM (by assumption)) (Nat.le_of_ble_eq_true rfl) (m_meets (d + 18) hM (f := 1) (by decide)) ?_
        -- at 50: op_iret
        exact st_iret rfl ⟨rfl, rfl⟩
    | some l2 =>
      by_cases hl42 : l2.length ≤ 40
      case neg =>
        refine ⟨.int 0, a, ha, fun d M h => ?_, fun d M h => ?_⟩
        · have hz := h.2.1 u hu
          rw [hy] at hz
          have := (crow_some hz).2.1
          omega
        · have hz := h.2.1 u hu
          rw [hy] at hz
          have := hz.2.1
          omega
      obtain ⟨m, hm, hn2⟩ := nI_of hn0
      subst hn2
      have cpre : ∀ d M, IC a M → ∀ Q : Option Value → pm_M → Prop, pm_WP (pm_call (d + 19)) tb_94 Q 65 [some (.ref 0), some (.int (nI j)), some (.int i), some (.int (nI u)), some (.int k), some (.int (nI m)), some (.ref (106 + 2 * j)), some (.ref (106 + 2 * u))] [] M → pm_WP (pm_call (d + 19)) tb_94 Q 0 (pm_init 8 [.ref 0, .int (nI j), .int i, .int (nI u), .int k, .int (nI m)]) [] M := by
        intro d M h Q hW
        have hM := h.1
        have hz := h.2.1 j hj
        rw [hx] at hz
        have hw := h.2.1 u hu
        rw [hy] at hw
        refine st_ild rfl rfl ?_
        refine st_call (As := [_]) rfl rfl rfl (Nat.le_of_ble_eq_true rfl) (c_isRow (d + 18) _) ?_
        refine st_b1 rfl (fun zq => absurd zq (b01_t h1)) (fun _ => ?_)
        refine st_ild rfl rfl ?_
        refine st_call (As := [_]) rfl rfl rfl (Nat.le_of_ble_eq_true rfl) (c_isRow (d + 18) _) ?_
        refine st_b1 rfl (fun _ => ?_) (fun zq => absurd (b01_t t1) zq)
        refine st_ild rfl rfl ?_
        refine st_b1 rfl (fun _ => ?_) (fun zq => absurd (hn1) zq)
        refine st_ald rfl rfl ?_
        refine st_gR' rfl (by first | exact tT hM rfl | assumption | exact rw_T hM (by assumption) | exact rw_A hM (by assumption)) (by first | exact rR hM rfl rfl | assumption | exact rw_R hM (by assumption)) ?_
        refine st_ild rfl rfl ?_
        refine st_aald' rfl (tT hM rfl) (hin) (rRow' hM hj) ?_
        refine st_ast rfl ?_
        refine st_ald rfl rfl ?_
        refine st_gR' rfl (by first | exact tT hM rfl | assumption | exact rw_T hM (by assumption) | exact rw_A hM (by assumption)) (by first | exact rR hM rfl rfl | assumption | exact rw_R hM (by assumption)) ?_
        refine st_ild rfl rfl ?_
        refine st_aald' rfl (tT hM rfl) (hinu) (rRow' hM hu) ?_
        refine st_ast rfl ?_
        refine st_ald rfl rfl ?_
        refine st_gI rfl (rw_T hM ho) ?_
        -- at 48: stop
        refine wp_e (crow_some hz).1 ?_
        refine st_b1 rfl (fun zq => absurd zq (nI_pos (by omega))) (fun _ => ?_)
        refine st_ald rfl rfl ?_
        refine st_gI rfl (rw_T hM hou) ?_
        -- at 56: stop
        refine wp_e (crow_some hw).1 ?_
        refine st_b1 rfl (fun _ => ?_) (fun zq => absurd (nI_pos' (by omega)) zq)
        -- at 65: stop
        exact hW
      have mpre : ∀ d M, IM a M → ∀ Q : Option Value → pm_M → Prop, pm_WP (pm_call (d + 19)) tb_166 Q 51 [some (.ref 132), some (.int (nI j)), some (.int i), some (.int (nI u)), some (.int k), some (.int (nI m)), none] [] M → pm_WP (pm_call (d + 19)) tb_166 Q 0 (pm_init 7 [.ref 132, .int (nI j), .int i, .int (nI u), .int k, .int (nI m)]) [] M := by
        intro d M h Q hW
        have hM := h.1
        have hz := h.2.1 j hj
        rw [hx] at hz
        have hw := h.2.1 u hu
        rw [hy] at hw
        refine st_ild rfl rfl ?_
        refine st_call (As := [_]) rfl rfl rfl (Nat.le_of_ble_eq_true rfl) (m_isRow (d + 17) _) ?_
        refine st_b1 rfl (fun zq => absurd zq (b01_t h2)) (fun _ => ?_)
        refine st_ild rfl rfl ?_
        refine st_call (As := [_]) rfl rfl rfl (Nat.le_of_ble_eq_true rfl) (m_isRow (d + 17) _) ?_
        refine st_b1 rfl (fun _ => ?_) (fun zq => absurd (b01_t t2) zq)
        refine st_ild rfl rfl ?_
        refine st_b1 rfl (fun _ => ?_) (fun zq => absurd (hn1) zq)
        refine st_ald rfl rfl ?_
        refine st_gR' rfl (by first | exact tT hM rfl | assumption | exact rw_T hM (by assumption) | exact rw_A hM (by assumption)) (by first | exact rR hM rfl rfl | assumption | exact rw_R hM (by assumption)) ?_
        refine st_ild rfl rfl ?_
        refine st_iald rfl (by first | exact tT hM rfl | assumption | exact rw_T hM (by assumption) | exact rw_A hM (by assumption)) (hin) ?_
        -- at 33: stop
        refine wp_e (y := nI l.length) (by rw [e1]; exact hz.1) ?_
        refine st_b1 rfl (fun zq => absurd zq (nI_pos (by omega))) (fun _ => ?_)
        refine st_ald rfl rfl ?_
        refine st_gR' rfl (by first | exact tT hM rfl | assumption | exact rw_T hM (by assumption) | exact rw_A hM (by assumption)) (by first | exact rR hM rfl rfl | assumption | exact rw_R hM (by assumption)) ?_
        refine st_ild rfl rfl ?_
        refine st_iald rfl (by first | exact tT hM rfl | assumption | exact rw_T hM (by assumption) | exact rw_A hM (by assumption)) (hinu) ?_
        -- at 42: stop
        refine wp_e (y := nI l2.length) (by rw [e1u]; exact hw.1) ?_
        refine st_b1 rfl (fun _ => ?_) (fun zq => absurd (nI_pos' (by omega)) zq)
        -- at 51: stop
        exact hW
      rcases st_cs hl40 i hm with ⟨p, hp, hpm, g1, g2, g3⟩ | ⟨g1, g2⟩
      case inr =>
        refine bo_f ha (f := 2) (by decide) (fun d M h => ?_) (fun d M h => ?_)
        · refine en_94 (Nat.le_of_ble_eq_true rfl) (cpre d M h _ ?_)
          have hM := h.1
          have hz := h.2.1 j hj
          rw [hx] at hz
          refine st_ald rfl rfl ?_
          refine st_ild rfl rfl ?_
          refine st_ild rfl rfl ?_
          refine st_cav (As := [_, _]) rfl rfl rfl (rw_T hM ho) (Nat.le_of_ble_eq_true rfl) (c_hasStretch (d + 18) hM ho (crow_some hz) _ _) ?_
          refine st_b1 rfl (fun _ => ?_) (fun zq => absurd (b01_f g1) zq)
          refine st_ald rfl rfl ?_
          refine st_k rfl ?_
          refine st_cav (As := [_]) rfl rfl rfl (by first | exact tT hM rfl | assumption | exact rw_T hM (by assumption) | exact rw_A hM (by assumption)) (Nat.le_of_ble_eq_true rfl) (c_refuse (d + 18) hM (f := 2) (by decide)) ?_
          -- at 93: op_iret
          exact st_iret rfl ⟨rfl, rfl⟩
        · refine en_166 (Nat.le_of_ble_eq_true rfl) (mpre d M h _ ?_)
          have hM := h.1
          have hz := h.2.1 j hj
          rw [hx] at hz
          have fin : pm_WP (pm_call (d + 19)) tb_166 (fun r0 M1 => r0 = some (.int (-3)) ∧ M1 = sI (sI M 132 0 (nI 2)) 133 2 (gI M 133 2 + 1)) 95 [some (.ref 132), some (.int (nI j)), some (.int i), some (.int (nI u)), some (.int k), some (.int (nI m)), none] [] M := by
            refine st_ald rfl rfl ?_
            refine st_k rfl ?_
            refine st_cav (As := [_]) rfl rfl rfl (by first | exact tT hM rfl | assumption | exact rw_T hM (by assumption) | exact rw_A hM (by assumption)) (Nat.le_of_ble_eq_true rfl) (m_meets (d + 18) hM (f := 2) (by decide)) ?_
            -- at 100: op_iret
            exact st_iret rfl ⟨rfl, rfl⟩
          rcases g2 with g2 | ⟨g2, g3⟩
          · refine st_ild rfl rfl ?_
            refine st_b1 rfl (fun _ => ?_) (fun zq => absurd (g2) zq)
            -- at 95: stop
            exact fin
          · refine st_ild rfl rfl ?_
            refine st_b1 rfl (fun zq => absurd zq (g2)) (fun _ => ?_)
            refine st_ild rfl rfl ?_
            refine st_b1 rfl (fun g4 => ?_) (fun g4 => ?_)
            -- at 57: split 95 60
            · exact fin
            · refine st_ild rfl rfl ?_
              refine st_i2l rfl ?_
              refine st_ild rfl rfl ?_
              refine st_i2l rfl ?_
              refine st_lb rfl ?_
              refine st_ald rfl rfl ?_
              refine st_gR' rfl (by first | exact tT hM rfl | assumption | exact rw_T hM (by assumption) | exact rw_A hM (by assumption)) (by first | exact rR hM rfl rfl | assumption | exact rw_R hM (by assumption)) ?_
              refine st_ild rfl rfl ?_
              refine st_iald rfl (by first | exact tT hM rfl | assumption | exact rw_T hM (by assumption) | exact rw_A hM (by assumption)) (hin) ?_
              -- at 72: stop
              refine wp_e (y := nI l.length) (by rw [e1]; exact hz.1) ?_
              refine st_i2l rfl ?_
              refine st_lcmp rfl ?_
              refine st_b1 rfl (fun _ => ?_) (fun zq => absurd ((lg_cmp_gt _ _).mpr (Int64.not_le.mp g3)) zq)
              -- at 95: stop
              exact fin
      rcases st_cs hl42 k hm with ⟨q, hq, hqm, k1, k2, k3⟩ | ⟨k1, k2⟩
      case inr =>
        subst hp
        have hle : (nI p).toInt64 + (nI m).toInt64 ≤ (nI l.length).toInt64 := by
          rw [nI_l (by omega), nI_l hm, nI_l (show l.length < 2 ^ 31 by omega), lN_add]
          exact (pk_lLE (by omega) (by omega)).mpr hpm
        refine bo_f ha (f := 2) (by decide) (fun d M h => ?_) (fun d M h => ?_)
        · refine en_94 (Nat.le_of_ble_eq_true rfl) (cpre d M h _ ?_)
          have hM := h.1
          have hz := h.2.1 j hj
          rw [hx] at hz
          have hw := h.2.1 u hu
          rw [hy] at hw
          refine st_ald rfl rfl ?_
          refine st_ild rfl rfl ?_
          refine st_ild rfl rfl ?_
          refine st_cav (As := [_, _]) rfl rfl rfl (rw_T hM ho) (Nat.le_of_ble_eq_true rfl) (c_hasStretch (d + 18) hM ho (crow_some hz) _ _) ?_
          refine st_b1 rfl (fun zq => absurd zq (b01_t ⟨g1, g2, g3⟩)) (fun _ => ?_)
          refine st_ald rfl rfl ?_
          refine st_ild rfl rfl ?_
          refine st_ild rfl rfl ?_
          refine st_cav (As := [_, _]) rfl rfl rfl (rw_T hM hou) (Nat.le_of_ble_eq_true rfl) (c_hasStretch (d + 18) hM hou (crow_some hw) _ _) ?_
          refine st_b1 rfl (fun zq => absurd zq ((fun z => z (b01_f k1)))) (fun _ => ?_)
          refine st_ald rfl rfl ?_
          refine st_k rfl ?_
          refine st_cav (As := [_]) rfl rfl rfl (by first | exact tT hM rfl | assumption | exact rw_T hM (by assumption) | exact rw_A hM (by assumption)) (Nat.le_of_ble_eq_true rfl) (c_refuse (d + 18) hM (f := 2) (by decide)) ?_
          -- at 93: op_iret
          exact st_iret rfl ⟨rfl, rfl⟩
        · refine en_166 (Nat.le_of_ble_eq_true rfl) (mpre d M h _ ?_)
          have hM := h.1
          have hz := h.2.1 j hj
          rw [hx] at hz
          have hw := h.2.1 u hu
          rw [hy] at hw
          have fin : pm_WP (pm_call (d + 19)) tb_166 (fun r0 M1 => r0 = some (.int (-3)) ∧ M1 = sI (sI M 132 0 (nI 2)) 133 2 (gI M 133 2 + 1)) 95 [some (.ref 132), some (.int (nI j)), some (.int (nI p)), some (.int (nI u)), some (.int k), some (.int (nI m)), none] [] M := by
            refine st_ald rfl rfl ?_
            refine st_k rfl ?_
            refine st_cav (As := [_]) rfl rfl rfl (by first | exact tT hM rfl | assumption | exact rw_T hM (by assumption) | exact rw_A hM (by assumption)) (Nat.le_of_ble_eq_true rfl) (m_meets (d + 18) hM (f := 2) (by decide)) ?_
            -- at 100: op_iret
            exact st_iret rfl ⟨rfl, rfl⟩
          rcases k2 with k2 | ⟨k2, k3⟩
          · refine st_ild rfl rfl ?_
            refine st_b1 rfl (fun zq => absurd zq (g1)) (fun _ => ?_)
            refine st_ild rfl rfl ?_
            refine st_b1 rfl (fun _ => ?_) (fun zq => absurd (k2) zq)
            -- at 95: stop
            exact fin
          · refine st_ild rfl rfl ?_
            refine st_b1 rfl (fun zq => absurd zq (g1)) (fun _ => ?_)
            refine st_ild rfl rfl ?_
            refine st_b1 rfl (fun zq => absurd zq (k2)) (fun _ => ?_)
            refine st_ild rfl rfl ?_
            refine st_i2l rfl ?_
            refine st_ild rfl rfl ?_
            refine st_i2l rfl ?_
            refine st_lb rfl ?_
            refine st_ald rfl rfl ?_
            refine st_gR' rfl (by first | exact tT hM rfl | assumption | exact rw_T hM (by assumption) | exact rw_A hM (by assumption)) (by first | exact rR hM rfl rfl | assumption | exact rw_R hM (by assumption)) ?_
            refine st_ild rfl rfl ?_
            refine st_iald rfl (by first | exact tT hM rfl | assumption | exact rw_T hM (by assumption) | exact rw_A hM (by assumption)) (hin) ?_
            -- at 72: stop
            refine wp_e (y := nI l.length) (by rw [e1]; exact hz.1) ?_
            refine st_i2l rfl ?_
            refine st_lcmp rfl ?_
            refine st_b1 rfl (fun zq => absurd zq ((fun z => absurd hle (Int64.not_le.mpr ((lg_cmp_gt _ _).mp z))))) (fun _ => ?_)
            refine st_ild rfl rfl ?_
            refine st_i2l rfl ?_
            refine st_ild rfl rfl ?_
            refine st_i2l rfl ?_
            refine st_lb rfl ?_
            refine st_ald rfl rfl ?_
            refine st_gR' rfl (by first | exact tT hM rfl | assumption | exact rw_T hM (by assumption) | exact rw_A hM (by assumption)) (by first | exact rR hM rfl rfl | assumption | exact rw_R hM (by assumption)) ?_
            refine st_ild rfl rfl ?_
            refine st_iald rfl (by first | exact tT hM rfl | assumption | exact rw_T hM (by assumption) | exact rw_A hM (by assumption)) (hinu) ?_
            -- at 90: stop
            refine wp_e (y := nI l2.length) (by rw [e1u]; exact hw.1) ?_
            refine st_i2l rfl ?_
            refine st_lcmp rfl ?_
            refine st_b1 rfl (fun zq => absurd zq ((fun z => k3 ((lg_cmp_le _ _).mp z)))) (fun _ => ?_)
            -- at 95: stop
            exact fin
      subst hp; subst hq
      have hle : (nI p).toInt64 + (nI m).toInt64 ≤ (nI l.length).toInt64 := by
        rw [nI_l (by omega), nI_l hm, nI_l (show l.length < 2 ^ 31 by omega), lN_add]
        exact (pk_lLE (by omega) (by omega)).mpr hpm
      have hle2 : (nI q).toInt64 + (nI m).toInt64 ≤ (nI l2.length).toInt64 := by
        rw [nI_l (by omega), nI_l hm, nI_l (show l2.length < 2 ^ 31 by omega), lN_add]
        exact (pk_lLE (by omega) (by omega)).mpr hqm
      have ep : (nI p).toNatClampNeg = p := nI_clamp (by omega)
      have eq : (nI q).toNatClampNeg = q := nI_clamp (by omega)
      have em' : (nI m).toNatClampNeg = m := nI_clamp (by omega)
      refine ⟨.int 1, sR' a u (some (cpl l l2 p q m)), ha.row _ _, fun d M h => ?_, fun d M h => ?_⟩
      · have hM := h.1
        have hz := h.2.1 j hj
        rw [hx] at hz
        have hw := h.2.1 u hu
        rw [hy] at hw
        have hzz := crow_some hz
        have hww := crow_some hw
        have s1 : pm_S (pm_oo (106 + 2 * u)) M (pm_cp M (106 + 2 * j + 1) (106 + 2 * u + 1) p q m) := pm_S.rf.cp (Or.inr rfl) _ _ _
        refine ⟨pm_cp M (106 + 2 * j + 1) (106 + 2 * u + 1) p q m, en_94 (Nat.le_of_ble_eq_true rfl) (cpre d M h _ ?_), h.row hu s1 (fun k hk => Or.inr (Or.inr hk)) ⟨?_, by rw [cpl_len]; exact hl42, fun z hz2 => ?_⟩, Cfr.S s1 (fun k hk => by rcases hk with z | z <;> omega)⟩
        · refine st_ald rfl rfl ?_
          refine st_ild rfl rfl ?_
          refine st_ild rfl rfl ?_
          refine st_cav (As := [_, _]) rfl rfl rfl (rw_T hM ho) (Nat.le_of_ble_eq_true rfl) (c_hasStretch (d + 18) hM ho hzz _ _) ?_
          refine st_b1 rfl (fun zq => absurd zq (b01_t ⟨g1, g2, g3⟩)) (fun _ => ?_)
          refine st_ald rfl rfl ?_
          refine st_ild rfl rfl ?_
          refine st_ild rfl rfl ?_
          refine st_cav (As := [_, _]) rfl rfl rfl (rw_T hM hou) (Nat.le_of_ble_eq_true rfl) (c_hasStretch (d + 18) hM hou hww _ _) ?_
          refine st_b1 rfl (fun _ => ?_) (fun zq => absurd (b01_t ⟨k1, k2, k3⟩) zq)
          refine st_ald rfl rfl ?_
          refine st_gR' rfl (rw_T hM ho) (rw_R hM ho) ?_
          refine st_ild rfl rfl ?_
          refine st_ald rfl rfl ?_
          refine st_gR' rfl (rw_T hM hou) (rw_R hM hou) ?_
          refine st_ild rfl rfl ?_
          refine st_ild rfl rfl ?_
          -- at 109: stop
          refine st_acp rfl (rw_A hM ho) (rw_A hM hou) g1 k1 hn0 (by rw [ep, em']; omega) (by rw [eq, em']; omega) (Nat.le_of_ble_eq_true rfl) ?_
          refine st_k rfl ?_
          -- at 113: op_iret
          exact st_iret rfl ⟨rfl, by rw [ep, eq, em']⟩
        · rw [gI_cp, if_neg (by omega), cpl_len]
          exact hww.1
        · rw [cpl_len] at hz2
          rw [cpl_at hz2, gI_cp]
          by_cases w : q ≤ z ∧ z < q + m
          · rw [if_pos ⟨rfl, w⟩, if_pos w]
            exact hzz.2.2 _ (by omega)
          · rw [if_neg (fun y => w y.2), if_neg w]
            exact hww.2.2 z hz2
      · have hM := h.1
        have hz := h.2.1 j hj
        rw [hx] at hz
        have hw := h.2.1 u hu
        rw [hy] at hw
        have loop2 : ∀ n i x M1, x = nI i → i + n = m → pm_ok M1 → (∀ t, t < m → gI M1 136 t = l.getD (p + t) 0) → (∀ t, t < i → gI M1 135 (40 * u + (q + t)) = l.getD (p + t) 0) → (∀ k t, ¬ (k = 136) → ¬ (k = 135 ∧ 40 * u + q ≤ t ∧ t < 40 * u + q + i) → gI M1 k t = gI M k t) → (∀ k t, gL M1 k t = gL M k t) → pm_WP (pm_call (d + 19)) tb_166 (fun r M' => r = some (.int 1) ∧ IM (sR' a u (some (cpl l l2 p q m))) M' ∧ Mfr M M') 136 [some (.ref 132), some (.int (nI j)), some (.int (nI p)), some (.int (nI u)), some (.int (nI q)), some (.int (nI m)), some (.int x)] [] M1 := by
          intro n
          induction n with
          | zero =>
            intro i x M1 hx hi hM1 hc hd hf hg
            subst hx
            refine st_ild rfl rfl ?_
            refine st_ild rfl rfl ?_
            refine st_b2 rfl (fun _ => ?_) (fun zq => absurd (nI_le (by omega) (by omega)) zq)
            refine st_k rfl ?_
            -- at 172: op_iret
            refine st_iret rfl ⟨rfl, h.row hM1 (fun k t hk z1 z2 => hf k t (by omega) (by omega)) (hg _ _) ⟨?_, by rw [cpl_len]; exact hl42, fun z hz2 => ?_⟩, fun k hk t => ⟨hf k t (by omega) (by omega), hg k t⟩⟩
            · rw [hf 134 u (by omega) (by omega), cpl_len]
              exact hw.1
            · rw [cpl_len] at hz2
              rw [cpl_at hz2]
              by_cases w : q ≤ z ∧ z < q + m
              · rw [if_pos w]
                have := hd (z - q) (by omega)
                rw [show q + (z - q) = z by omega] at this
                exact this
              · rw [if_neg w, hf 135 (40 * u + z) (by omega) (by omega)]
                exact hw.2.2 z hz2
          | succ n ih =>
            intro i x M1 hx hi hM1 hc hd hf hg
            subst hx
            have ex : 40 * nI u + nI q + nI i = nI (40 * u + (q + i)) := by show nI 40 * nI u + nI q + nI i = _; rw [pk_mul, nI_add, nI_add, Nat.add_assoc]
            have hin2 : vp_in (40 * nI u + nI q + nI i) 240 := by rw [ex]; exact vp_in_nI (by omega) (by decide)
            have e3 : (40 * nI u + nI q + nI i).toNatClampNeg = 40 * u + (q + i) := by rw [ex]; exact nI_clamp (by omega)
            have hin3 : vp_in (nI i) 40 := vp_in_nI (by omega) (by decide)
            refine st_ild rfl rfl ?_
            refine st_ild rfl rfl ?_
            refine st_b2 rfl (fun zq => absurd zq (nI_ge (by omega) (by omega))) (fun _ => ?_)
            refine st_ald rfl rfl ?_
            refine st_gR' rfl (by first | exact tT hM1 rfl | assumption | exact rw_T hM1 (by assumption) | exact rw_A hM1 (by assumption)) (by first | exact rR hM1 rfl rfl | assumption | exact rw_R hM1 (by assumption)) ?_
            refine st_k rfl ?_
            refine st_ild rfl rfl ?_
            refine st_ib rfl ?_
            refine st_ild rfl rfl ?_
            refine st_ib rfl ?_
            refine st_ild rfl rfl ?_
            refine st_ib rfl ?_
            refine st_ald rfl rfl ?_
            refine st_gR' rfl (by first | exact tT hM1 rfl | assumption | exact rw_T hM1 (by assumption) | exact rw_A hM1 (by assumption)) (by first | exact rR hM1 rfl rfl | assumption | exact rw_R hM1 (by assumption)) ?_
            refine st_ild rfl rfl ?_
            refine st_iald rfl (by first | exact tT hM1 rfl | assumption | exact rw_T hM1 (by assumption) | exact rw_A hM1 (by assumption)) (by first | decide | assumption | exact vp_in_nI (by omega) (by decide)) ?_
            -- at 164: stop
            refine wp_e (y := l.getD (p + i) 0) (by rw [nI_clamp (by omega)]; exact hc i (by omega)) ?_
            refine st_iast rfl (by first | exact tT hM1 rfl | assumption | exact rw_T hM1 (by assumption) | exact rw_A hM1 (by assumption)) (by first | decide | assumption | exact vp_in_nI (by omega) (by decide)) ?_
            refine st_inc rfl rfl ?_
            refine st_go rfl ?_
            -- at 136: stop
            rw [e3]
            refine ih (i + 1) _ _ (nI_1 i) (by omega) hM1 (fun t ht => by rw [gI_ne (Or.inl (by decide))]; exact hc t ht) (fun t ht => ?_) (fun k t z1 z2 => ?_) hg
            · by_cases z : t = i
              · subst z; exact gI_same _ _ _ _
              · rw [gI_ne (Or.inr (by omega))]; exact hd t (by omega)
            · rw [gI_nn (by omega)]
              exact hf k t z1 (by omega)
        have loop1 : ∀ n i x M1, x = nI i → i + n = m → pm_ok M1 → (∀ t, t < i → gI M1 136 t = l.getD (p + t) 0) → (∀ k t, ¬ (k = 136) → gI M1 k t = gI M k t) → (∀ k t, gL M1 k t = gL M k t) → pm_WP (pm_call (d + 19)) tb_166 (fun r M' => r = some (.int 1) ∧ IM (sR' a u (some (cpl l l2 p q m))) M' ∧ Mfr M M') 104 [some (.ref 132), some (.int (nI j)), some (.int (nI p)), some (.int (nI u)), some (.int (nI q)), some (.int (nI m)), some (.int x)] [] M1 := by
          intro n
          induction n with
          | zero =>
            intro i x M1 hx hi hM1 hc hf hg
            subst hx
            refine st_ild rfl rfl ?_
            refine st_ild rfl rfl ?_
            refine st_b2 rfl (fun _ => ?_) (fun zq => absurd (nI_le (by omega) (by omega)) zq)
            refine st_k rfl ?_
            refine st_ist rfl ?_
            -- at 136: stop
            exact loop2 m 0 0 M1 rfl (by omega) hM1 (fun t ht => hc t (by omega)) (fun t ht => by omega) (fun k t z1 z2 => hf k t z1) hg
          | succ n ih =>
            intro i x M1 hx hi hM1 hc hf hg
            subst hx
            have e5 : nI p + nI i = nI (p + i) := nI_add _ _
            have hin3 : vp_in (nI i) 40 := vp_in_nI (by omega) (by decide)
            refine st_ild rfl rfl ?_
            refine st_ild rfl rfl ?_
            refine st_b2 rfl (fun zq => absurd zq (nI_ge (by omega) (by omega))) (fun _ => ?_)
            refine st_ald rfl rfl ?_
            refine st_gR' rfl (by first | exact tT hM1 rfl | assumption | exact rw_T hM1 (by assumption) | exact rw_A hM1 (by assumption)) (by first | exact rR hM1 rfl rfl | assumption | exact rw_R hM1 (by assumption)) ?_
            refine st_ild rfl rfl ?_
            refine st_ald rfl rfl ?_
            refine st_ild rfl rfl ?_
            refine st_ild rfl rfl ?_
            refine st_ild rfl rfl ?_
            refine st_ib rfl ?_
            -- at 123: stop
            rw [e5]
            refine st_cav (As := [_, _]) rfl rfl rfl (by first | exact tT hM1 rfl | assumption | exact rw_T hM1 (by assumption) | exact rw_A hM1 (by assumption)) (Nat.le_of_ble_eq_true rfl) (m_rowAt (d + 18) hM1 hj (show p + i < 40 by omega)) ?_
            -- at 126: stop
            refine wp_e (y := l.getD (p + i) 0) (by rw [hf 135 _ (by decide)]; exact hz.2.2 _ (by omega)) ?_
            refine st_iast rfl (by first | exact tT hM1 rfl | assumption | exact rw_T hM1 (by assumption) | exact rw_A hM1 (by assumption)) (by first | decide | assumption | exact vp_in_nI (by omega) (by decide)) ?_
            refine st_inc rfl rfl ?_
            refine st_go rfl ?_
            -- at 104: stop
            rw [nI_clamp (show i < 2 ^ 31 by omega)]
            refine ih (i + 1) _ _ (nI_1 i) (by omega) hM1 (fun t ht => ?_) (fun k t z1 => by rw [gI_ne (Or.inl z1)]; exact hf k t z1) hg
            by_cases z : t = i
            · subst z; exact gI_same _ _ _ _
            · rw [gI_ne (Or.inr (by omega))]; exact hc t (by omega)
        obtain ⟨r, M', hc, hr', h5, h6⟩ := eq_166 (d := d + 19) (A := [.ref 132, .int (nI j), .int (nI p), .int (nI u), .int (nI q), .int (nI m)]) (M := M) (Q := fun r M' => r = some (.int 1) ∧ IM (sR' a u (some (cpl l l2 p q m))) M' ∧ Mfr M M') (Nat.le_of_ble_eq_true rfl) (mpre d M h _ (by
          refine st_ild rfl rfl ?_
          refine st_b1 rfl (fun zq => absurd zq (g1)) (fun _ => ?_)
          refine st_ild rfl rfl ?_
          refine st_b1 rfl (fun zq => absurd zq (k1)) (fun _ => ?_)
          refine st_ild rfl rfl ?_
          refine st_i2l rfl ?_
          refine st_ild rfl rfl ?_
          refine st_i2l rfl ?_
          refine st_lb rfl ?_
          refine st_ald rfl rfl ?_
          refine st_gR' rfl (by first | exact tT hM rfl | assumption | exact rw_T hM (by assumption) | exact rw_A hM (by assumption)) (by first | exact rR hM rfl rfl | assumption | exact rw_R hM (by assumption)) ?_
          refine st_ild rfl rfl ?_
          refine st_iald rfl (by first | exact tT hM rfl | assumption | exact rw_T hM (by assumption) | exact rw_A hM (by assumption)) (hin) ?_
          -- at 72: stop
          refine wp_e (y := nI l.length) (by rw [e1]; exact hz.1) ?_
          refine st_i2l rfl ?_
          refine st_lcmp rfl ?_
          refine st_b1 rfl (fun zq => absurd zq ((fun z => absurd hle (Int64.not_le.mpr ((lg_cmp_gt _ _).mp z))))) (fun _ => ?_)
          refine st_ild rfl rfl ?_
          refine st_i2l rfl ?_
          refine st_ild rfl rfl ?_
          refine st_i2l rfl ?_
          refine st_lb rfl ?_
          refine st_ald rfl rfl ?_
          refine st_gR' rfl (by first | exact tT hM rfl | assumption | exact rw_T hM (by assumption) | exact rw_A hM (by assumption)) (by first | exact rR hM rfl rfl | assumption | exact rw_R hM (by assumption)) ?_
          refine st_ild rfl rfl ?_
          refine st_iald rfl (by first | exact tT hM rfl | assumption | exact rw_T hM (by assumption) | exact rw_A hM (by assumption)) (hinu) ?_
          -- at 90: stop
          refine wp_e (y := nI l2.length) (by rw [e1u]; exact hw.1) ?_
          refine st_i2l rfl ?_
          refine st_lcmp rfl ?_
          refine st_b1 rfl (fun _ => ?_) (fun zq => absurd ((lg_cmp_le _ _).mpr hle2) zq)
          refine st_k rfl ?_
          refine st_ist rfl ?_
          -- at 104: stop
          exact loop1 m 0 0 _ rfl (by omega) hM (fun t ht => by omega) (fun k t z1 => rfl) (fun _ _ => rfl)))
        subst hr'
        exact ⟨M', hc, h5, h6⟩
end PUJ

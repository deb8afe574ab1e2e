/-! BOTH ANSWER ALIKE: apart -/
section APT
variable {a : As} {M : pm_M} {c : Cf}
/-- two rows of KNOTS -/
theorem two_cs {a : As} (j u most : Nat) : (aR a j = none ∨ aR a u = none) ∨ (∃ l k, aR a j = some l ∧ aR a u = some k ∧ (most < l.length ∨ most < k.length)) ∨ (∃ l k, aR a j = some l ∧ aR a u = some k ∧ l.length ≤ most ∧ k.length ≤ most ∧ ¬ ((∃ ws, l = ws.map nI ∧ kn (aC a) ws) ∧ (∃ ws, k = ws.map nI ∧ kn (aC a) ws))) ∨ (∃ ws vs, aR a j = some (ws.map nI) ∧ aR a u = some (vs.map nI) ∧ kn (aC a) ws ∧ kn (aC a) vs ∧ ws.length ≤ most ∧ vs.length ≤ most) := by
  cases h1 : aR a j with
  | none => exact Or.inl (Or.inl rfl)
  | some l => cases h2 : aR a u with
    | none => exact Or.inl (Or.inr rfl)
    | some k =>
      refine Or.inr ?_
      by_cases g : most < l.length ∨ most < k.length
      · exact Or.inl ⟨l, k, rfl, rfl, g⟩
      · refine Or.inr ?_
        by_cases g2 : (∃ ws, l = ws.map nI ∧ kn (aC a) ws) ∧ (∃ ws, k = ws.map nI ∧ kn (aC a) ws)
        · obtain ⟨⟨ws, e1, k1⟩, vs, e2, k2⟩ := g2
          subst e1; subst e2
          rw [map_len, map_len] at g
          exact Or.inr ⟨ws, vs, rfl, rfl, k1, k2, by omega, by omega⟩
        · exact Or.inl ⟨l, k, rfl, rfl, by omega, by omega, g2⟩
theorem m_needRopes (d : Nat) (h : IM a M) (ha : aw a) {j u : Nat} (hj : j < 6) (hu : u < 6) :
    ((aR a j = none ∨ aR a u = none) → pm_call (d + 4) 251 [.ref 132, .int (nI j), .int (nI u)] M (some (.int (-3))) (mF M 1)) ∧
    (∀ l k, aR a j = some l → aR a u = some k → (20 < l.length ∨ 20 < k.length) → pm_call (d + 4) 251 [.ref 132, .int (nI j), .int (nI u)] M (some (.int (-3))) (mF M 5)) ∧
    (∀ l k, aR a j = some l → aR a u = some k → l.length ≤ 20 → k.length ≤ 20 → ¬ ((∃ ws, l = ws.map nI ∧ kn (aC a) ws) ∧ (∃ ws, k = ws.map nI ∧ kn (aC a) ws)) → pm_call (d + 4) 251 [.ref 132, .int (nI j), .int (nI u)] M (some (.int (-3))) (mF M 3)) ∧
    (∀ l k, aR a j = some l → aR a u = some k → l.length ≤ 20 → k.length ≤ 20 → ((∃ ws, l = ws.map nI ∧ kn (aC a) ws) ∧ (∃ ws, k = ws.map nI ∧ kn (aC a) ws)) → pm_call (d + 4) 251 [.ref 132, .int (nI j), .int (nI u)] M (some (.int 0)) M) := by
  have hM := h.1
  have hin : vp_in (nI j) 6 := vp_in_nI hj (by decide)
  have hinu : vp_in (nI u) 6 := vp_in_nI hu (by decide)
  have e1 : (nI j).toNatClampNeg = j := nI_clamp (by omega)
  have e2 : (nI u).toNatClampNeg = u := nI_clamp (by omega)
  have hzj := h.2.1 j hj
  have hzu := h.2.1 u hu
  have not : ∀ Q : Option Value → pm_M → Prop, Q (some (.int (-3))) (mF M 1) → pm_WP (pm_call (d + 3)) tb_251 Q 18 [some (.ref 132), some (.int (nI j)), some (.int (nI u))] [] M := by
    intro Q hQ
    refine st_ald rfl rfl ?_
    refine st_k rfl ?_
    refine st_cav (As := [_]) rfl rfl rfl (by first | exact tT hM rfl | assumption | exact rw_T hM (by assumption) | exact rw_A hM (by assumption)) (Nat.le_of_ble_eq_true rfl) (m_meets (d + 2) hM (f := 1) (by decide)) ?_
    -- at 23: op_iret
    exact st_iret rfl hQ
  have lng : ∀ Q : Option Value → pm_M → Prop, Q (some (.int (-3))) (mF M 5) → pm_WP (pm_call (d + 3)) tb_251 Q 46 [some (.ref 132), some (.int (nI j)), some (.int (nI u))] [] M := by
    intro Q hQ
    refine st_ald rfl rfl ?_
    refine st_k rfl ?_
    refine st_cav (As := [_]) rfl rfl rfl (by first | exact tT hM rfl | assumption | exact rw_T hM (by assumption) | exact rw_A hM (by assumption)) (Nat.le_of_ble_eq_true rfl) (m_meets (d + 2) hM (f := 5) (by decide)) ?_
    -- at 51: op_iret
    exact st_iret rfl hQ
  have unl : ∀ Q : Option Value → pm_M → Prop, Q (some (.int (-3))) (mF M 3) → pm_WP (pm_call (d + 3)) tb_251 Q 72 [some (.ref 132), some (.int (nI j)), some (.int (nI u))] [] M := by
    intro Q hQ
    refine st_ald rfl rfl ?_
    refine st_k rfl ?_
    refine st_cav (As := [_]) rfl rfl rfl (by first | exact tT hM rfl | assumption | exact rw_T hM (by assumption) | exact rw_A hM (by assumption)) (Nat.le_of_ble_eq_true rfl) (m_meets (d + 2) hM (f := 3) (by decide)) ?_
    -- at 77: op_iret
    exact st_iret rfl hQ
  have pre : ∀ l k, aR a j = some l → aR a u = some k → ∀ Q : Option Value → pm_M → Prop, pm_WP (pm_call (d + 3)) tb_251 Q 24 [some (.ref 132), some (.int (nI j)), some (.int (nI u))] [] M → pm_WP (pm_call (d + 3)) tb_251 Q 0 (pm_init 3 [.ref 132, .int (nI j), .int (nI u)]) [] M := by
    intro l k hl hk Q hW
    rw [hl] at hzj
    rw [hk] at hzu
    refine st_ald rfl rfl ?_
    refine st_gR' rfl (by first | exact tT hM rfl | assumption | exact rw_T hM (by assumption) | exact rw_A hM (by assumption)) (by first | exact rR hM rfl rfl | assumption | exact rw_R hM (by assumption)) ?_
    refine st_ild rfl rfl ?_
    refine st_iald rfl (by first | exact tT hM rfl | assumption | exact rw_T hM (by assumption) | exact rw_A hM (by assumption)) (by first | decide | assumption | exact vp_in_nI (by omega) (by decide)) ?_
    -- at 6: stop
    refine wp_e (y := nI l.length) (by rw [e1]; exact hzj.1) ?_
    refine st_b1 rfl (fun zq => absurd zq (nI_pos (by have := hzj.2.1; omega))) (fun _ => ?_)
    refine st_ald rfl rfl ?_
    refine st_gR' rfl (by first | exact tT hM rfl | assumption | exact rw_T hM (by assumption) | exact rw_A hM (by assumption)) (by first | exact rR hM rfl rfl | assumption | exact rw_R hM (by assumption)) ?_
    refine st_ild rfl rfl ?_
    refine st_iald rfl (by first | exact tT hM rfl | assumption | exact rw_T hM (by assumption) | exact rw_A hM (by assumption)) (hinu) ?_
    -- at 15: stop
    refine wp_e (y := nI k.length) (by rw [e2]; exact hzu.1) ?_
    refine st_b1 rfl (fun _ => ?_) (fun zq => absurd (nI_pos' (by have := hzu.2.1; omega)) zq)
    -- at 24: stop
    exact hW
  have pre2 : ∀ l k, aR a j = some l → aR a u = some k → l.length ≤ 20 → k.length ≤ 20 → ∀ Q : Option Value → pm_M → Prop, pm_WP (pm_call (d + 3)) tb_251 Q 52 [some (.ref 132), some (.int (nI j)), some (.int (nI u))] [] M → pm_WP (pm_call (d + 3)) tb_251 Q 24 [some (.ref 132), some (.int (nI j)), some (.int (nI u))] [] M := by
    intro l k hl hk b1 b2 Q hW
    rw [hl] at hzj
    rw [hk] at hzu
    refine st_ald rfl rfl ?_
    refine st_gR' rfl (by first | exact tT hM rfl | assumption | exact rw_T hM (by assumption) | exact rw_A hM (by assumption)) (by first | exact rR hM rfl rfl | assumption | exact rw_R hM (by assumption)) ?_
    refine st_ild rfl rfl ?_
    refine st_iald rfl (by first | exact tT hM rfl | assumption | exact rw_T hM (by assumption) | exact rw_A hM (by assumption)) (hin) ?_
    -- at 30: stop
    refine wp_e (y := nI l.length) (by rw [e1]; exact hzj.1) ?_
    refine st_k rfl ?_
    refine st_b2 rfl (fun zq => absurd zq (nI_nlt (a := 20) (b := l.length) (by omega) (by decide))) (fun _ => ?_)
    refine st_ald rfl rfl ?_
    refine st_gR' rfl (by first | exact tT hM rfl | assumption | exact rw_T hM (by assumption) | exact rw_A hM (by assumption)) (by first | exact rR hM rfl rfl | assumption | exact rw_R hM (by assumption)) ?_
    refine st_ild rfl rfl ?_
    refine st_iald rfl (by first | exact tT hM rfl | assumption | exact rw_T hM (by assumption) | exact rw_A hM (by assumption)) (hinu) ?_
    -- at 41: stop
    refine wp_e (y := nI k.length) (by rw [e2]; exact hzu.1) ?_
    refine st_k rfl ?_
    refine st_b2 rfl (fun _ => ?_) (fun zq => absurd (nI_le (a := k.length) (b := 20) (by omega) (by decide)) zq)
    -- at 52: stop
    exact hW
  refine ⟨fun hn => ?_, fun l k hl hk hlen => ?_, fun l k hl hk b1 b2 hno => ?_, fun l k hl hk b1 b2 hno => ?_⟩
  · refine en_251 (Nat.le_of_ble_eq_true rfl) ?_
    cases hl : aR a j with
    | none =>
      rw [hl] at hzj
      refine st_ald rfl rfl ?_
      refine st_gR' rfl (by first | exact tT hM rfl | assumption | exact rw_T hM (by assumption) | exact rw_A hM (by assumption)) (by first | exact rR hM rfl rfl | assumption | exact rw_R hM (by assumption)) ?_
      refine st_ild rfl rfl ?_
      refine st_iald rfl (by first | exact tT hM rfl | assumption | exact rw_T hM (by assumption) | exact rw_A hM (by assumption)) (by first | decide | assumption | exact vp_in_nI (by omega) (by decide)) ?_
      -- at 6: stop
      refine wp_e (y := -1) (by rw [e1]; exact hzj) ?_
      refine st_b1 rfl (fun _ => ?_) (fun zq => absurd ((by decide)) zq)
      -- at 18: stop
      exact not _ ⟨rfl, rfl⟩
    | some l =>
      have hk : aR a u = none := hn.resolve_left (fun z => by rw [hl] at z; cases z)
      rw [hl] at hzj
      rw [hk] at hzu
      refine st_ald rfl rfl ?_
      refine st_gR' rfl (by first | exact tT hM rfl | assumption | exact rw_T hM (by assumption) | exact rw_A hM (by assumption)) (by first | exact rR hM rfl rfl | assumption | exact rw_R hM (by assumption)) ?_
      refine st_ild rfl rfl ?_
      refine st_iald rfl (by first | exact tT hM rfl | assumption | exact rw_T hM (by assumption) | exact rw_A hM (by assumption)) (by first | decide | assumption | exact vp_in_nI (by omega) (by decide)) ?_
      -- at 6: stop
      refine wp_e (y := nI l.length) (by rw [e1]; exact hzj.1) ?_
      refine st_b1 rfl (fun zq => absurd zq (nI_pos (by have := hzj.2.1; omega))) (fun _ => ?_)
      refine st_ald rfl rfl ?_
      refine st_gR' rfl (by first | exact tT hM rfl | assumption | exact rw_T hM (by assumption) | exact rw_A hM (by assumption)) (by first | exact rR hM rfl rfl | assumption | exact rw_R hM (by assumption)) ?_
      refine st_ild rfl rfl ?_
      refine st_iald rfl (by first | exact tT hM rfl | assumption | exact rw_T hM (by assumption) | exact rw_A hM (by assumption)) (hinu) ?_
      -- at 15: stop
      refine wp_e (y := -1) (by rw [e2]; exact hzu) ?_
      refine st_b1 rfl (fun zq => absurd zq ((by decide))) (fun _ => ?_)
      -- at 18: stop
      exact not _ ⟨rfl, rfl⟩
  · refine en_251 (Nat.le_of_ble_eq_true rfl) (pre l k hl hk _ ?_)
    rw [hl] at hzj
    rw [hk] at hzu
    have c1 := hzj.2.1
    have c2 := hzu.2.1
    refine st_ald rfl rfl ?_
    refine st_gR' rfl (by first | exact tT hM rfl | assumption | exact rw_T hM (by assumption) | exact rw_A hM (by assumption)) (by first | exact rR hM rfl rfl | assumption | exact rw_R hM (by assumption)) ?_
    refine st_ild rfl rfl ?_
    refine st_iald rfl (by first | exact tT hM rfl | assumption | exact rw_T hM (by assumption) | exact rw_A hM (by assumption)) (hin) ?_
    -- at 30: stop
    refine wp_e (y := nI l.length) (by rw [e1]; exact hzj.1) ?_
    refine st_k rfl ?_
    refine st_b2 rfl (fun g => ?_) (fun g => ?_)
    -- at 32: split 46 35
    · exact lng _ ⟨rfl, rfl⟩
    · have g : ¬ 20 < l.length := fun z => g (nI_lt (a := 20) (b := l.length) z (by omega))
      refine st_ald rfl rfl ?_
      refine st_gR' rfl (by first | exact tT hM rfl | assumption | exact rw_T hM (by assumption) | exact rw_A hM (by assumption)) (by first | exact rR hM rfl rfl | assumption | exact rw_R hM (by assumption)) ?_
      refine st_ild rfl rfl ?_
      refine st_iald rfl (by first | exact tT hM rfl | assumption | exact rw_T hM (by assumption) | exact rw_A hM (by assumption)) (hinu) ?_
      -- at 41: stop
      refine wp_e (y := nI k.length) (by rw [e2]; exact hzu.1) ?_
      refine st_k rfl ?_
      refine st_b2 rfl (fun zq => absurd zq (nI_ge (a := 20) (b := k.length) (by omega) (by omega))) (fun _ => ?_)
      -- at 46: stop
      exact lng _ ⟨rfl, rfl⟩
  · refine en_251 (Nat.le_of_ble_eq_true rfl) (pre l k hl hk _ (pre2 l k hl hk b1 b2 _ ?_))
    rw [hl] at hzj
    rw [hk] at hzu
    rcases m_areKnots d hM ha.1 h.2.2.2.1 hj hzj with ⟨w1, w2⟩ | ⟨w1, w2⟩
    · rcases m_areKnots d hM ha.1 h.2.2.2.1 hu hzu with ⟨w3, w4⟩ | ⟨w3, w4⟩
      · exact absurd ⟨w1, w3⟩ hno
      · refine st_ald rfl rfl ?_
        refine st_ild rfl rfl ?_
        refine st_cav (As := [_]) rfl rfl rfl (by first | exact tT hM rfl | assumption | exact rw_T hM (by assumption) | exact rw_A hM (by assumption)) (Nat.le_of_ble_eq_true rfl) (w2) ?_
        refine st_b1 rfl (fun zq => absurd zq ((by decide))) (fun _ => ?_)
        refine st_ald rfl rfl ?_
        refine st_ild rfl rfl ?_
        refine st_cav (As := [_]) rfl rfl rfl (by first | exact tT hM rfl | assumption | exact rw_T hM (by assumption) | exact rw_A hM (by assumption)) (Nat.le_of_ble_eq_true rfl) (w4) ?_
        refine st_b1 rfl (fun _ => ?_) (fun zq => absurd (rfl) zq)
        -- at 72: stop
        exact unl _ ⟨rfl, rfl⟩
    · refine st_ald rfl rfl ?_
      refine st_ild rfl rfl ?_
      refine st_cav (As := [_]) rfl rfl rfl (by first | exact tT hM rfl | assumption | exact rw_T hM (by assumption) | exact rw_A hM (by assumption)) (Nat.le_of_ble_eq_true rfl) (w2) ?_
      refine st_b1 rfl (fun _ => ?_) (fun zq => absurd (rfl) zq)
      -- at 72: stop
      exact unl _ ⟨rfl, rfl⟩
  · refine en_251 (Nat.le_of_ble_eq_true rfl) (pre l k hl hk _ (pre2 l k hl hk b1 b2 _ ?_))
    rw [hl] at hzj
    rw [hk] at hzu
    rcases m_areKnots d hM ha.1 h.2.2.2.1 hj hzj with ⟨w1, w2⟩ | ⟨w1, w2⟩
    · rcases m_areKnots d hM ha.1 h.2.2.2.1 hu hzu with ⟨w3, w4⟩ | ⟨w3, w4⟩
      · refine st_ald rfl rfl ?_
        refine st_ild rfl rfl ?_
        refine st_cav (As := [_]) rfl rfl rfl (by first | exact tT hM rfl | assumption | exact rw_T hM (by assumption) | exact rw_A hM (by assumption)) (Nat.le_of_ble_eq_true rfl) (w2) ?_
        refine st_b1 rfl (fun zq => absurd zq ((by decide))) (fun _ => ?_)
        refine st_ald rfl rfl ?_
        refine st_ild rfl rfl ?_
        refine st_cav (As := [_]) rfl rfl rfl (by first | exact tT hM rfl | assumption | exact rw_T hM (by assumption) | exact rw_A hM (by assumption)) (Nat.le_of_ble_eq_true rfl) (w4) ?_
        refine st_b1 rfl (fun zq => absurd zq ((by decide))) (fun _ => ?_)
        refine st_k rfl ?_
        refine st_go rfl ?_
        -- at 77: op_iret
        exact st_iret rfl ⟨rfl, rfl⟩
      · exact absurd hno.2 w3
    · exact absurd hno.1 w1
/-- the readings of a rope: whole, then without each -/
def rs (c : Cf) (ws : List Nat) (i : Nat) : List Nat := rw' c ws (if i = 0 then ws.length else i - 1)
theorem rs_0 (c : Cf) (ws : List Nat) : rs c ws 0 = rd c ws := by unfold rs; rw [if_pos rfl, rw_all]
theorem rs_1 (c : Cf) (ws : List Nat) (i : Nat) : rs c ws (i + 1) = rw' c ws i := by unfold rs; rw [if_neg (by omega), Nat.add_sub_cancel]
theorem b_apart (ha : aw a) (r t : Int32) : Both a 123 252 [.int r, .int t] := by
  have badC : ¬ ((¬ r < 0 ∧ ¬ 6 ≤ r) ∧ (¬ t < 0 ∧ ¬ 6 ≤ t)) → ∀ d M, IC a M → pm_call (d + 20) 123 (.ref 0 :: [.int r, .int t]) M (some (.int (-1))) M := by
    intro hb d M h
    refine en_123 (Nat.le_of_ble_eq_true rfl) ?_
    have hM := h.1
    refine st_ald rfl rfl ?_
    refine st_ild rfl rfl ?_
    refine st_ild rfl rfl ?_
    refine st_ild rfl rfl ?_
    refine st_k rfl ?_
    refine st_cav (As := [_, _, _, _]) rfl rfl rfl (by first | exact tT hM rfl | assumption | exact rw_T hM (by assumption) | exact rw_A hM (by assumption)) (Nat.le_of_ble_eq_true rfl) (c_knots (d + 16) h _ _ _ _ (c_rowsBad (d + 16) _ _ _ _ _ (fun z => hb ⟨z.1, z.2.1⟩)) ⟨_, rfl⟩) ?_
    refine st_ist rfl ?_
    refine st_ild rfl rfl ?_
    refine st_b1 rfl (fun zq => absurd zq ((by decide))) (fun _ => ?_)
    refine st_ild rfl rfl ?_
    -- at 15: op_iret
    exact st_iret rfl ⟨rfl, rfl⟩
  rcases r_cs r with ⟨h1, h2⟩ | ⟨j, hj, hr, h1, h2⟩
  · refine bo_k (x := .int (-1)) ha (badC (fun z => h1 z.1)) (fun d M h => ?_)
    refine en_252 (Nat.le_of_ble_eq_true rfl) ?_
    refine st_ild rfl rfl ?_
    refine st_call (As := [_]) rfl rfl rfl (Nat.le_of_ble_eq_true rfl) (m_isRow (d + 17) r) ?_
    refine st_b1 rfl (fun _ => ?_) (fun zq => absurd (b01_f h2) zq)
    refine st_k rfl ?_
    -- at 15: op_iret
    exact st_iret rfl ⟨rfl, rfl⟩
  rcases r_cs t with ⟨t1, t2⟩ | ⟨u, hu, ht, t1, t2⟩
  · refine bo_k (x := .int (-1)) ha (badC (fun z => t1 z.2)) (fun d M h => ?_)
    refine en_252 (Nat.le_of_ble_eq_true rfl) ?_
    refine st_ild rfl rfl ?_
    refine st_call (As := [_]) rfl rfl rfl (Nat.le_of_ble_eq_true rfl) (m_isRow (d + 17) r) ?_
    refine st_b1 rfl (fun zq => absurd zq (b01_t h2)) (fun _ => ?_)
    refine st_ild rfl rfl ?_
    refine st_call (As := [_]) rfl rfl rfl (Nat.le_of_ble_eq_true rfl) (m_isRow (d + 17) t) ?_
    refine st_b1 rfl (fun zq => absurd zq ((fun z => z (b01_f t2)))) (fun _ => ?_)
    refine st_k rfl ?_
    -- at 15: op_iret
    exact st_iret rfl ⟨rfl, rfl⟩
  subst hr; subst ht
  have hin : vp_in (nI j) 6 := vp_in_nI hj (by decide)
  have hin2 : vp_in (nI u) 6 := vp_in_nI hu (by decide)
  have e1 : (nI j).toNatClampNeg = j := nI_clamp (by omega)
  have e1u : (nI u).toNatClampNeg = u := nI_clamp (by omega)
  have ho := rw_row j hj
  have hou := rw_row u hu
  have refu : ∀ f, f < 6 → (∀ d M, IC a M → pm_call (d + 19) 140 [.ref 0, .int (nI j), .int (nI u), .int (nI j), .int (nI 20)] M (some (.int (-3))) (cF M f)) → (∀ d M, IM a M → pm_call (d + 19) 251 [.ref 132, .int (nI j), .int (nI u)] M (some (.int (-3))) (mF M f)) → Both a 123 252 [.int (nI j), .int (nI u)] := by
    intro f hf w1 w2
    refine bo_f ha (f := f) hf (fun d M h => ?_) (fun d M h => ?_)
    · refine en_123 (Nat.le_of_ble_eq_true rfl) ?_
      have hM := h.1
      refine st_ald rfl rfl ?_
      refine st_ild rfl rfl ?_
      refine st_ild rfl rfl ?_
      refine st_ild rfl rfl ?_
      refine st_k rfl ?_
      refine st_cav (As := [_, _, _, _]) rfl rfl rfl (by first | exact tT hM rfl | assumption | exact rw_T hM (by assumption) | exact rw_A hM (by assumption)) (Nat.le_of_ble_eq_true rfl) (w1 d M h) ?_
      refine st_ist rfl ?_
      refine st_ild rfl rfl ?_
      refine st_b1 rfl (fun zq => absurd zq ((by decide))) (fun _ => ?_)
      refine st_ild rfl rfl ?_
      -- at 15: op_iret
      exact st_iret rfl ⟨rfl, rfl⟩
    · refine en_252 (Nat.le_of_ble_eq_true rfl) ?_
      have hM := h.1
      refine st_ild rfl rfl ?_
      refine st_call (As := [_]) rfl rfl rfl (Nat.le_of_ble_eq_true rfl) (m_isRow (d + 17) _) ?_
      refine st_b1 rfl (fun zq => absurd zq (b01_t h2)) (fun _ => ?_)
      refine st_ild rfl rfl ?_
      refine st_call (As := [_]) rfl rfl rfl (Nat.le_of_ble_eq_true rfl) (m_isRow (d + 17) _) ?_
      refine st_b1 rfl (fun _ => ?_) (fun zq => absurd (b01_t t2) zq)
      refine st_ald rfl rfl ?_
      refine st_ild rfl rfl ?_
      refine st_ild rfl rfl ?_
      refine st_cav (As := [_, _]) rfl rfl rfl (by first | exact tT hM rfl | assumption | exact rw_T hM (by assumption) | exact rw_A hM (by assumption)) (Nat.le_of_ble_eq_true rfl) (w2 d M h) ?_
      refine st_ist rfl ?_
      refine st_ild rfl rfl ?_
      refine st_b1 rfl (fun zq => absurd zq ((by decide))) (fun _ => ?_)
      refine st_ild rfl rfl ?_
      -- at 28: op_iret
      exact st_iret rfl ⟨rfl, rfl⟩
  rcases two_cs (a := a) j u 20 with hx | ⟨l, k, hl, hk, hlen⟩ | ⟨l, k, hl, hk, b1, b2, hno⟩ | ⟨ws, vs, hx, hy, hkw, hkv, hlw, hlv⟩
  · exact refu 1 (by decide) (fun d M h => c_knots (d + 16) h _ _ _ _ ((c_rows (d + 16) h hj hu hj (most := 20) (by decide) _).1 hx) ⟨_, rfl⟩) (fun d M h => (m_needRopes (d + 15) h ha hj hu).1 hx)
  · exact refu 5 (by decide) (fun d M h => c_knots (d + 16) h _ _ _ _ ((c_rows (d + 16) h hj hu hj (most := 20) (by decide) _).2.1 l k hl hk hlen) ⟨_, rfl⟩) (fun d M h => (m_needRopes (d + 15) h ha hj hu).2.1 l k hl hk hlen)
  · exact refu 3 (by decide) (fun d M h => c_knots (d + 16) h _ _ _ _ ((c_rows (d + 16) h hj hu hj (most := 20) (by decide) _).2.2.1 l k hl hk b1 b2 (fun z => hno ⟨(ib_kn ha.1).mp z.1, (ib_kn ha.1).mp z.2⟩)) ⟨_, rfl⟩) (fun d M h => (m_needRopes (d + 15) h ha hj hu).2.2.1 l k hl hk b1 b2 hno)
  have okC : ∀ d M, IC a M → pm_call (d + 19) 140 [.ref 0, .int (nI j), .int (nI u), .int (nI j), .int (nI 20)] M (some (.int 0)) M := fun d M h => c_knots (d + 16) h _ _ _ _ ((c_rows (d + 16) h hj hu hj (most := 20) (by decide) _).2.2.2 _ _ hx hy (by rw [map_len]; exact hlw) (by rw [map_len]; exact hlv) ((ib_kn ha.1).mpr ⟨ws, rfl, hkw⟩) ((ib_kn ha.1).mpr ⟨vs, rfl, hkv⟩)) ⟨_, rfl⟩
  have okM : ∀ d M, IM a M → pm_call (d + 19) 251 [.ref 132, .int (nI j), .int (nI u)] M (some (.int 0)) M := fun d M h => (m_needRopes (d + 15) h ha hj hu).2.2.2 _ _ hx hy (by rw [map_len]; exact hlw) (by rw [map_len]; exact hlv) ⟨⟨ws, rfl, hkw⟩, vs, rfl, hkv⟩
  have w9 : ∀ i, ∀ s ∈ rs (aC a) ws i, s ≤ 9 := fun i => rw_9 ha.1 hkw _
  have v9 : ∀ i, ∀ s ∈ rs (aC a) vs i, s ≤ 9 := fun i => rw_9 ha.1 hkv _
  have hul := ul_len (rs (aC a) ws)
  -- the answer by a case
  have fin : ∀ y : Int32, ((y = 0 ∧ ∃ i p, i < ws.length + 1 ∧ p < vs.length + 1 ∧ rs (aC a) ws i = rs (aC a) vs p) ∨ (y = 1 ∧ ∀ i p, i < ws.length + 1 → p < vs.length + 1 → rs (aC a) ws i ≠ rs (aC a) vs p)) → Both a 123 252 [.int (nI j), .int (nI u)] := by
    intro y hy0
    have yy : ∀ z : Int32, ((z = 0 ∧ ∃ i p, i < ws.length + 1 ∧ p < vs.length + 1 ∧ rs (aC a) ws i = rs (aC a) vs p) ∨ (z = 1 ∧ ∀ i p, i < ws.length + 1 → p < vs.length + 1 → rs (aC a) ws i ≠ rs (aC a) vs p)) → z = y := by
      intro z hz
      rcases hy0 with ⟨y1, i, p, q1, q2, q3⟩ | ⟨y1, y2⟩
      · rcases hz with ⟨z1, z2⟩ | ⟨z1, z2⟩
        · rw [y1, z1]
        · exact absurd q3 (z2 i p q1 q2)
      · rcases hz with ⟨z1, i, p, q1, q2, q3⟩ | ⟨z1, z2⟩
        · exact absurd q3 (y2 i p q1 q2)
        · rw [y1, z1]
    refine ⟨.int y, a, ha, fun d M h => ?_, fun d M h => ?_⟩
    · have hM := h.1
      have S55 : ∀ k, (55 ≤ k ∧ k ≤ 104) → (27 ≤ k ∧ k ≤ 104 ∧ k ≠ 54) ∨ (20 ≤ k ∧ k ≤ 24) := fun k hk => by omega
      have cf : ∀ {M1 : pm_M}, pm_S (fun k => 55 ≤ k ∧ k ≤ 104) M M1 → Cfr M M1 := fun hs => Cfr.S hs (fun k hk => by have : 55 ≤ k ∧ k ≤ 104 := hk; omega)
      -- the end
      have done : ∀ x y1 (M1 : pm_M) v, pm_S (fun k => 55 ≤ k ∧ k ≤ 104) M M1 → ((v = 1 ∧ ∃ i p, i < ws.length + 1 ∧ p < vs.length + 1 ∧ rs (aC a) ws i = rs (aC a) vs p) ∨ (v = 0 ∧ ∀ i p, i < ws.length + 1 → p < vs.length + 1 → rs (aC a) ws i ≠ rs (aC a) vs p)) → pm_WP (pm_call (d + 19)) tb_123 (fun r0 M' => r0 = some (.int y) ∧ IC a M' ∧ Cfr M M') 180 [some (.ref 0), some (.int (nI j)), some (.int (nI u)), some (.int y1), some (.int v), some (.int x)] [] M1 := by
        intro x y1 M1 v hs hv
        have hI := h.S hs S55
        rcases hv with ⟨v1, v2⟩ | ⟨v1, v2⟩ <;> subst v1
        · refine st_ild rfl rfl ?_
          refine st_b1 rfl (fun zq => absurd zq ((by decide))) (fun _ => ?_)
          refine st_k rfl ?_
          refine st_go rfl ?_
          -- at 190: op_iret
          exact st_iret rfl ⟨by rw [yy 0 (Or.inl ⟨rfl, v2⟩)], hI, cf hs⟩
        · refine st_ild rfl rfl ?_
          refine st_b1 rfl (fun _ => ?_) (fun zq => absurd (rfl) zq)
          refine st_k rfl ?_
          -- at 190: op_iret
          exact st_iret rfl ⟨by rw [yy 1 (Or.inr ⟨rfl, v2⟩)], hI, cf hs⟩
      have loop2 : ∀ m i x y1 M1 v, x = nI i → i + m = vs.length → pm_S (fun k => 55 ≤ k ∧ k ≤ 104) M M1 → Rd M1 (ul (rs (aC a) ws) (ws.length + 1)) → ((v = 1 ∧ ∃ p, p < vs.length + 1 ∧ rs (aC a) vs p ∈ ul (rs (aC a) ws) (ws.length + 1)) ∨ (v = 0 ∧ ∀ p, p < i + 1 → ¬ rs (aC a) vs p ∈ ul (rs (aC a) ws) (ws.length + 1))) → pm_WP (pm_call (d + 19)) tb_123 (fun r0 M' => r0 = some (.int y) ∧ IC a M' ∧ Cfr M M') 130 [some (.ref 0), some (.int (nI j)), some (.int (nI u)), some (.int y1), some (.int v), some (.int x)] [] M1 := by
        intro m
        induction m with
        | zero =>
          intro i x y1 M1 v hx hi hs hR hv
          subst hx
          have hI := h.S hs S55
          have hM1 := hI.1
          have hz := hI.2.1 u hu
          rw [hy] at hz
          refine st_ild rfl rfl ?_
          refine st_ald rfl rfl ?_
          refine st_gR' rfl (by first | exact tT hM1 rfl | assumption | exact rw_T hM1 (by assumption) | exact rw_A hM1 (by assumption)) (by first | exact rR hM1 rfl rfl | assumption | exact rw_R hM1 (by assumption)) ?_
          refine st_ild rfl rfl ?_
          refine st_aald' rfl (tT hM1 rfl) (hin2) (rRow' hM1 hu) ?_
          refine st_gI rfl (rw_T hM1 hou) ?_
          -- at 141: stop
          refine wp_e (crow_some hz).1 ?_
          refine st_b2 rfl (fun _ => ?_) (fun zq => absurd (nI_le (by rw [map_len]; omega) (by omega)) zq)
          -- at 180: stop
          refine done _ _ _ _ hs ?_
          rcases hv with ⟨v1, p, v2, v3⟩ | ⟨v1, v2⟩
          · obtain ⟨i', q1, q2⟩ := (ul_mem _ _ _).mp v3
            exact Or.inl ⟨v1, i', p, q1, v2, q2⟩
          · exact Or.inr ⟨v1, fun i' p q1 q2 q3 => v2 p (by omega) ((ul_mem _ _ _).mpr ⟨i', q1, q3⟩)⟩
        | succ m ih =>
          intro i x y1 M1 v hx hi hs hR hv
          subst hx
          have hI := h.S hs S55
          have hM1 := hI.1
          have hz := hI.2.1 u hu
          rw [hy] at hz
          have hzz := crow_some hz
          rcases hv with ⟨v1, p, v2, v3⟩ | ⟨v1, v2⟩ <;> subst v1
          · refine st_ild rfl rfl ?_
            refine st_ald rfl rfl ?_
            refine st_gR' rfl (by first | exact tT hM1 rfl | assumption | exact rw_T hM1 (by assumption) | exact rw_A hM1 (by assumption)) (by first | exact rR hM1 rfl rfl | assumption | exact rw_R hM1 (by assumption)) ?_
            refine st_ild rfl rfl ?_
            refine st_aald' rfl (tT hM1 rfl) (hin2) (rRow' hM1 hu) ?_
            refine st_gI rfl (rw_T hM1 hou) ?_
            -- at 141: stop
            refine wp_e hzz.1 ?_
            refine st_b2 rfl (fun zq => absurd zq (nI_ge (by rw [map_len]; omega) (by rw [map_len]; omega))) (fun _ => ?_)
            refine st_ild rfl rfl ?_
            refine st_b1 rfl (fun _ => ?_) (fun zq => absurd ((by decide)) zq)
            -- at 180: stop
            refine done _ _ _ _ hs ?_
            obtain ⟨i', q1, q2⟩ := (ul_mem _ _ _).mp v3
            exact Or.inl ⟨rfl, i', p, q1, v2, q2⟩
          · obtain ⟨M2, hc2, h5, h6⟩ := c_readWithout (d + 16) hM1 ha.1 hI.2.2.2.1 hou (by omega) hkv (q := i) (by omega) hzz
            rw [← rs_1] at h5
            have hM2 := h6.ok hM1
            have hR2 := hR.kept h6 (fun k hk z => by have h1 : 55 ≤ k ∧ k ≤ 98 := hk; have h2 : 99 ≤ k ∧ k ≤ 102 := z; omega)
            have hs2 : pm_S (fun k => 55 ≤ k ∧ k ≤ 104) M M2 := hs.tr (h6.mo (fun k hk => by have : 99 ≤ k ∧ k ≤ 102 := hk; show _ ∧ _; omega))
            refine st_ild rfl rfl ?_
            refine st_ald rfl rfl ?_
            refine st_gR' rfl (by first | exact tT hM1 rfl | assumption | exact rw_T hM1 (by assumption) | exact rw_A hM1 (by assumption)) (by first | exact rR hM1 rfl rfl | assumption | exact rw_R hM1 (by assumption)) ?_
            refine st_ild rfl rfl ?_
            refine st_aald' rfl (tT hM1 rfl) (hin2) (rRow' hM1 hu) ?_
            refine st_gI rfl (rw_T hM1 hou) ?_
            -- at 141: stop
            refine wp_e hzz.1 ?_
            refine st_b2 rfl (fun zq => absurd zq (nI_ge (by rw [map_len]; omega) (by rw [map_len]; omega))) (fun _ => ?_)
            refine st_ild rfl rfl ?_
            refine st_b1 rfl (fun zq => absurd zq ((fun z => z rfl))) (fun _ => ?_)
            refine st_ald rfl rfl ?_
            refine st_ald rfl rfl ?_
            refine st_gR' rfl (by first | exact tT hM1 rfl | assumption | exact rw_T hM1 (by assumption) | exact rw_A hM1 (by assumption)) (by first | exact rR hM1 rfl rfl | assumption | exact rw_R hM1 (by assumption)) ?_
            refine st_ild rfl rfl ?_
            refine st_aald' rfl (tT hM1 rfl) (hin2) (rRow' hM1 hu) ?_
            refine st_ild rfl rfl ?_
            refine st_cav (As := [_, _]) rfl rfl rfl (by first | exact tT hM1 rfl | assumption | exact rw_T hM1 (by assumption) | exact rw_A hM1 (by assumption)) (Nat.le_of_ble_eq_true rfl) (hc2) ?_
            -- at 161: stop
            refine st_ald rfl rfl ?_
            refine st_gR' rfl (by first | exact tT hM2 rfl | assumption | exact rw_T hM2 (by assumption) | exact rw_A hM2 (by assumption)) (by first | exact rR hM2 rfl rfl | assumption | exact rw_R hM2 (by assumption)) ?_
            refine st_ald rfl rfl ?_
            refine st_gR' rfl (by first | exact tT hM2 rfl | assumption | exact rw_T hM2 (by assumption) | exact rw_A hM2 (by assumption)) (by first | exact rR hM2 rfl rfl | assumption | exact rw_R hM2 (by assumption)) ?_
            refine st_cav (As := [_]) rfl rfl rfl (by first | exact tT hM2 rfl | assumption | exact rw_T hM2 (by assumption) | exact rw_A hM2 (by assumption)) (Nat.le_of_ble_eq_true rfl) (c_has (d + 17) hM2 hR2 ro101 h5 (v9 (i + 1))) ?_
            refine st_ist rfl ?_
            refine st_inc rfl rfl ?_
            refine st_go rfl ?_
            -- at 130: stop
            refine ih (i + 1) _ _ M2 _ (nI_1 i) (by omega) hs2 hR2 ?_
            by_cases g : rs (aC a) vs (i + 1) ∈ ul (rs (aC a) ws) (ws.length + 1)
            · rw [if_pos g]
              exact Or.inl ⟨rfl, i + 1, by omega, g⟩
            · rw [if_neg g]
              refine Or.inr ⟨rfl, fun p hp => ?_⟩
              by_cases z : p = i + 1
              · subst z; exact g
              · exact v2 p (by omega)
      have loop1 : ∀ m i x y1 M1, x = nI i → i + m = ws.length → pm_S (fun k => 55 ≤ k ∧ k ≤ 104) M M1 → Rd M1 (ul (rs (aC a) ws) (i + 1)) → pm_WP (pm_call (d + 19)) tb_123 (fun r0 M' => r0 = some (.int y) ∧ IC a M' ∧ Cfr M M') 54 [some (.ref 0), some (.int (nI j)), some (.int (nI u)), some (.int y1), some (.int x), none] [] M1 := by
        intro m
        induction m with
        | zero =>
          intro i x y1 M1 hx hi hs hR
          subst hx
          have hI := h.S hs S55
          have hM1 := hI.1
          have hz := hI.2.1 j hj
          rw [show aR a j = _ from by assumption] at hz
          have hz2 := hI.2.1 u hu
          rw [hy] at hz2
          rw [show i = ws.length by omega] at hR
          obtain ⟨M2, hc2, h5, h6⟩ := c_read (d + 17) hM1 ha.1 hI.2.2.2.1 ro101 hou (by omega) (by omega) (by omega) (by decide) hkv (crow_some hz2)
          rw [← rs_0] at h5
          have hM2 := h6.ok hM1
          have hR2 := hR.kept h6 (fun k hk z => by have h1 : 55 ≤ k ∧ k ≤ 98 := hk; rcases z with z | z <;> omega)
          have hs2 : pm_S (fun k => 55 ≤ k ∧ k ≤ 104) M M2 := hs.tr (h6.mo (fun k hk => by rcases hk with z | z <;> (show _ ∧ _; omega)))
          refine st_ild rfl rfl ?_
          refine st_ald rfl rfl ?_
          refine st_gR' rfl (by first | exact tT hM1 rfl | assumption | exact rw_T hM1 (by assumption) | exact rw_A hM1 (by assumption)) (by first | exact rR hM1 rfl rfl | assumption | exact rw_R hM1 (by assumption)) ?_
          refine st_ild rfl rfl ?_
          refine st_aald' rfl (tT hM1 rfl) (hin) (rRow' hM1 hj) ?_
          refine st_gI rfl (rw_T hM1 ho) ?_
          -- at 65: stop
          refine wp_e (crow_some hz).1 ?_
          refine st_b2 rfl (fun _ => ?_) (fun zq => absurd (nI_le (by rw [map_len]; omega) (by omega)) zq)
          refine st_ald rfl rfl ?_
          refine st_gR' rfl (by first | exact tT hM1 rfl | assumption | exact rw_T hM1 (by assumption) | exact rw_A hM1 (by assumption)) (by first | exact rR hM1 rfl rfl | assumption | exact rw_R hM1 (by assumption)) ?_
          refine st_ald rfl rfl ?_
          refine st_gR' rfl (by first | exact tT hM1 rfl | assumption | exact rw_T hM1 (by assumption) | exact rw_A hM1 (by assumption)) (by first | exact rR hM1 rfl rfl | assumption | exact rw_R hM1 (by assumption)) ?_
          refine st_ild rfl rfl ?_
          refine st_aald' rfl (tT hM1 rfl) (hin2) (rRow' hM1 hu) ?_
          refine st_ald rfl rfl ?_
          refine st_gR' rfl (by first | exact tT hM1 rfl | assumption | exact rw_T hM1 (by assumption) | exact rw_A hM1 (by assumption)) (by first | exact rR hM1 rfl rfl | assumption | exact rw_R hM1 (by assumption)) ?_
          refine st_cav (As := [_, _]) rfl rfl rfl (by first | exact tT hM1 rfl | assumption | exact rw_T hM1 (by assumption) | exact rw_A hM1 (by assumption)) (Nat.le_of_ble_eq_true rfl) (hc2) ?_
          -- at 114: stop
          refine st_ald rfl rfl ?_
          refine st_gR' rfl (by first | exact tT hM2 rfl | assumption | exact rw_T hM2 (by assumption) | exact rw_A hM2 (by assumption)) (by first | exact rR hM2 rfl rfl | assumption | exact rw_R hM2 (by assumption)) ?_
          refine st_ald rfl rfl ?_
          refine st_gR' rfl (by first | exact tT hM2 rfl | assumption | exact rw_T hM2 (by assumption) | exact rw_A hM2 (by assumption)) (by first | exact rR hM2 rfl rfl | assumption | exact rw_R hM2 (by assumption)) ?_
          refine st_cav (As := [_]) rfl rfl rfl (by first | exact tT hM2 rfl | assumption | exact rw_T hM2 (by assumption) | exact rw_A hM2 (by assumption)) (Nat.le_of_ble_eq_true rfl) (c_has (d + 17) hM2 hR2 ro101 h5 (v9 0)) ?_
          refine st_ist rfl ?_
          refine st_k rfl ?_
          refine st_ist rfl ?_
          -- at 130: stop
          refine loop2 vs.length 0 _ _ M2 _ rfl (by omega) hs2 hR2 ?_
          by_cases g : rs (aC a) vs 0 ∈ ul (rs (aC a) ws) (ws.length + 1)
          · rw [if_pos g]
            exact Or.inl ⟨rfl, 0, by omega, g⟩
          · rw [if_neg g]
            exact Or.inr ⟨rfl, fun p hp => by rw [show p = 0 by omega]; exact g⟩
        | succ m ih =>
          intro i x y1 M1 hx hi hs hR
          subst hx
          have hI := h.S hs S55
          have hM1 := hI.1
          have hz := hI.2.1 j hj
          rw [show aR a j = _ from by assumption] at hz
          have hzz := crow_some hz
          have hui := hul (i + 1)
          obtain ⟨M2, hc2, h5, h6⟩ := c_readWithout (d + 16) hM1 ha.1 hI.2.2.2.1 ho (by omega) hkw (q := i) (by omega) hzz
          rw [← rs_1] at h5
          have hM2 := h6.ok hM1
          have hR2 := hR.kept h6 (fun k hk z => by have h1 : 55 ≤ k ∧ k ≤ 98 := hk; have h2 : 99 ≤ k ∧ k ≤ 102 := z; omega)
          obtain ⟨M3, hc3, h7, h8⟩ := c_addUnlike (d + 16) hM2 hR2 (by omega) ro101 (by decide) h5 (w9 (i + 1))
          have hs3 : pm_S (fun k => 55 ≤ k ∧ k ≤ 104) M M3 := (hs.tr (h6.mo (fun k hk => by have : 99 ≤ k ∧ k ≤ 102 := hk; show _ ∧ _; omega))).tr (h8.mo (fun k hk => by have : 55 ≤ k ∧ k ≤ 98 := hk; show _ ∧ _; omega))
          refine st_ild rfl rfl ?_
          refine st_ald rfl rfl ?_
          refine st_gR' rfl (by first | exact tT hM1 rfl | assumption | exact rw_T hM1 (by assumption) | exact rw_A hM1 (by assumption)) (by first | exact rR hM1 rfl rfl | assumption | exact rw_R hM1 (by assumption)) ?_
          refine st_ild rfl rfl ?_
          refine st_aald' rfl (tT hM1 rfl) (hin) (rRow' hM1 hj) ?_
          refine st_gI rfl (rw_T hM1 ho) ?_
          -- at 65: stop
          refine wp_e hzz.1 ?_
          refine st_b2 rfl (fun zq => absurd zq (nI_ge (by rw [map_len]; omega) (by rw [map_len]; omega))) (fun _ => ?_)
          refine st_ald rfl rfl ?_
          refine st_ald rfl rfl ?_
          refine st_gR' rfl (by first | exact tT hM1 rfl | assumption | exact rw_T hM1 (by assumption) | exact rw_A hM1 (by assumption)) (by first | exact rR hM1 rfl rfl | assumption | exact rw_R hM1 (by assumption)) ?_
          refine st_ild rfl rfl ?_
          refine st_aald' rfl (tT hM1 rfl) (hin) (rRow' hM1 hj) ?_
          refine st_ild rfl rfl ?_
          refine st_cav (As := [_, _]) rfl rfl rfl (by first | exact tT hM1 rfl | assumption | exact rw_T hM1 (by assumption) | exact rw_A hM1 (by assumption)) (Nat.le_of_ble_eq_true rfl) (hc2) ?_
          -- at 80: stop
          refine st_ald rfl rfl ?_
          refine st_gR' rfl (by first | exact tT hM2 rfl | assumption | exact rw_T hM2 (by assumption) | exact rw_A hM2 (by assumption)) (by first | exact rR hM2 rfl rfl | assumption | exact rw_R hM2 (by assumption)) ?_
          refine st_ald rfl rfl ?_
          refine st_gR' rfl (by first | exact tT hM2 rfl | assumption | exact rw_T hM2 (by assumption) | exact rw_A hM2 (by assumption)) (by first | exact rR hM2 rfl rfl | assumption | exact rw_R hM2 (by assumption)) ?_
          refine st_cav (As := [_]) rfl rfl rfl (by first | exact tT hM2 rfl | assumption | exact rw_T hM2 (by assumption) | exact rw_A hM2 (by assumption)) (Nat.le_of_ble_eq_true rfl) (hc3) ?_
          refine st_inc rfl rfl ?_
          refine st_go rfl ?_
          -- at 54: stop
          exact ih (i + 1) _ _ M3 (nI_1 i) (by omega) hs3 h7
      have hclr : pm_call (d + 19) 41 [.ref 55] M none (sI M 55 1 0) := by
        refine en_41 (Nat.le_of_ble_eq_true rfl) ?_
        refine st_ald rfl rfl ?_
        refine st_k rfl ?_
        refine st_pI rfl (by first | exact tT hM rfl | assumption | exact rw_T hM (by assumption) | exact rw_A hM (by assumption)) ?_
        -- at 5: op_vret
        exact st_vret rfl ⟨rfl, rfl⟩
      have s1 : pm_S (fun k => 55 ≤ k ∧ k ≤ 104) M (sI M 55 1 0) := pm_S.rf.sI (by decide) _ _
      have hI1 := h.S s1 S55
      have hM1 := hI1.1
      have hz1 := hI1.2.1 j hj
      rw [hx] at hz1
      have hR1 : Rd (sI M 55 1 0) (ul (rs (aC a) ws) 0) := ⟨gI_same _ _ _ _, Nat.zero_le _, fun t ht => by simp [ul] at ht⟩
      obtain ⟨M2, hc2, h5, h6⟩ := c_read (d + 17) hM1 ha.1 hI1.2.2.2.1 ro101 ho (by omega) (by omega) (by omega) (by decide) hkw (crow_some hz1)
      rw [← rs_0] at h5
      have hM2 := h6.ok hM1
      have hR2 := hR1.kept h6 (fun k hk z => by have h1 : 55 ≤ k ∧ k ≤ 98 := hk; rcases z with z | z <;> omega)
      obtain ⟨M3, hc3, h7, h8⟩ := c_addUnlike (d + 16) hM2 hR2 (by simp [ul]) ro101 (by decide) h5 (w9 0)
      have hs3 : pm_S (fun k => 55 ≤ k ∧ k ≤ 104) M M3 := (s1.tr (h6.mo (fun k hk => by rcases hk with z | z <;> (show _ ∧ _; omega)))).tr (h8.mo (fun k hk => by have : 55 ≤ k ∧ k ≤ 98 := hk; show _ ∧ _; omega))
      obtain ⟨r, M', hc, hr', h9, h10⟩ := eq_123 (d := d + 19) (A := [.ref 0, .int (nI j), .int (nI u)]) (M := M) (Q := fun r0 M' => r0 = some (.int y) ∧ IC a M' ∧ Cfr M M') (Nat.le_of_ble_eq_true rfl) (by
        refine st_ald rfl rfl ?_
        refine st_ild rfl rfl ?_
        refine st_ild rfl rfl ?_
        refine st_ild rfl rfl ?_
        refine st_k rfl ?_
        refine st_cav (As := [_, _, _, _]) rfl rfl rfl (by first | exact tT hM rfl | assumption | exact rw_T hM (by assumption) | exact rw_A hM (by assumption)) (Nat.le_of_ble_eq_true rfl) (okC d M h) ?_
        refine st_ist rfl ?_
        refine st_ild rfl rfl ?_
        refine st_b1 rfl (fun _ => ?_) (fun zq => absurd (rfl) zq)
        refine st_ald rfl rfl ?_
        refine st_gR' rfl (by first | exact tT hM rfl | assumption | exact rw_T hM (by assumption) | exact rw_A hM (by assumption)) (by first | exact rR hM rfl rfl | assumption | exact rw_R hM (by assumption)) ?_
        refine st_cav (As := []) rfl rfl rfl (by first | exact tT hM rfl | assumption | exact rw_T hM (by assumption) | exact rw_A hM (by assumption)) (Nat.le_of_ble_eq_true rfl) (hclr) ?_
        -- at 23: stop
        refine st_ald rfl rfl ?_
        refine st_gR' rfl (by first | exact tT hM1 rfl | assumption | exact rw_T hM1 (by assumption) | exact rw_A hM1 (by assumption)) (by first | exact rR hM1 rfl rfl | assumption | exact rw_R hM1 (by assumption)) ?_
        refine st_ald rfl rfl ?_
        refine st_gR' rfl (by first | exact tT hM1 rfl | assumption | exact rw_T hM1 (by assumption) | exact rw_A hM1 (by assumption)) (by first | exact rR hM1 rfl rfl | assumption | exact rw_R hM1 (by assumption)) ?_
        refine st_ild rfl rfl ?_
        refine st_aald' rfl (tT hM1 rfl) (hin) (rRow' hM1 hj) ?_
        refine st_ald rfl rfl ?_
        refine st_gR' rfl (by first | exact tT hM1 rfl | assumption | exact rw_T hM1 (by assumption) | exact rw_A hM1 (by assumption)) (by first | exact rR hM1 rfl rfl | assumption | exact rw_R hM1 (by assumption)) ?_
        refine st_cav (As := [_, _]) rfl rfl rfl (by first | exact tT hM1 rfl | assumption | exact rw_T hM1 (by assumption) | exact rw_A hM1 (by assumption)) (Nat.le_of_ble_eq_true rfl) (hc2) ?_
        -- at 40: stop
        refine st_ald rfl rfl ?_
        refine st_gR' rfl (by first | exact tT hM2 rfl | assumption | exact rw_T hM2 (by assumption) | exact rw_A hM2 (by assumption)) (by first | exact rR hM2 rfl rfl | assumption | exact rw_R hM2 (by assumption)) ?_
        refine st_ald rfl rfl ?_
        refine st_gR' rfl (by first | exact tT hM2 rfl | assumption | exact rw_T hM2 (by assumption) | exact rw_A hM2 (by assumption)) (by first | exact rR hM2 rfl rfl | assumption | exact rw_R hM2 (by assumption)) ?_
        refine st_cav (As := [_]) rfl rfl rfl (by first | exact tT hM2 rfl | assumption | exact rw_T hM2 (by assumption) | exact rw_A hM2 (by assumption)) (Nat.le_of_ble_eq_true rfl) (hc3) ?_
        refine st_k rfl ?_
        refine st_ist rfl ?_
        -- at 54: stop
        exact loop1 ws.length 0 _ _ M3 rfl (by omega) hs3 h7)
      subst hr'
      exact ⟨M', hc, h9, h10⟩
    · have hM := h.1
      have ret : ∀ x1 x2 (M1 : pm_M) v, Msc M M1 → ((v = 0 ∧ ∃ i p, i < ws.length + 1 ∧ p < vs.length + 1 ∧ rs (aC a) ws i = rs (aC a) vs p) ∨ (v = 1 ∧ ∀ i p, i < ws.length + 1 → p < vs.length + 1 → rs (aC a) ws i ≠ rs (aC a) vs p)) → pm_WP (pm_call (d + 19)) tb_252 (fun r0 M' => r0 = some (.int y) ∧ IM a M' ∧ Mfr M M') 167 [some (.ref 132), some (.int (nI j)), some (.int (nI u)), some (.int 0), some (.int (nI (ws.length + 1))), some (.int (nI (vs.length + 1))), some (.int v), some (.int x1), some (.int x2)] [] M1 := by
        intro x1 x2 M1 v hs hv
        have hvy := yy v hv
        rcases hv with ⟨v1, v2⟩ | ⟨v1, v2⟩ <;> subst v1
        · refine st_ild rfl rfl ?_
          refine st_b1 rfl (fun _ => ?_) (fun zq => absurd (rfl) zq)
          refine st_k rfl ?_
          -- at 177: op_iret
          exact st_iret rfl ⟨by rw [hvy], h.sc hs, hs.fr⟩
        · refine st_ild rfl rfl ?_
          refine st_b1 rfl (fun zq => absurd zq ((by decide))) (fun _ => ?_)
          refine st_k rfl ?_
          refine st_go rfl ?_
          -- at 177: op_iret
          exact st_iret rfl ⟨by rw [hvy], h.sc hs, hs.fr⟩
      have loop34 : ∀ (M1 : pm_M), Msc M M1 → (∀ t, t < ws.length + 1 → Sl M1 t (rs (aC a) ws t)) → (∀ t, t < vs.length + 1 → Sl M1 (ws.length + 1 + t) (rs (aC a) vs t)) → ∀ m i x x2 v, x = nI i → i + m = ws.length + 1 → ((v = 0 ∧ ∃ i p, i < ws.length + 1 ∧ p < vs.length + 1 ∧ rs (aC a) ws i = rs (aC a) vs p) ∨ (v = 1 ∧ ∀ i' p, i' < i → p < vs.length + 1 → rs (aC a) ws i' ≠ rs (aC a) vs p)) → pm_WP (pm_call (d + 19)) tb_252 (fun r0 M' => r0 = some (.int y) ∧ IM a M' ∧ Mfr M M') 112 [some (.ref 132), some (.int (nI j)), some (.int (nI u)), some (.int 0), some (.int (nI (ws.length + 1))), some (.int (nI (vs.length + 1))), some (.int v), some (.int x), x2] [] M1 := by
        intro M1 hs hS1 hS2 m
        have hM1 := hs.ok hM
        induction m with
        | zero =>
          intro i x x2 v hx hi hv
          subst hx
          refine st_ild rfl rfl ?_
          refine st_ild rfl rfl ?_
          refine st_b2 rfl (fun _ => ?_) (fun zq => absurd (nI_le (by omega) (by omega)) zq)
          -- at 167: stop
          rw [show i = ws.length + 1 by omega] at hv
          cases x2 with
          | none =>
            rcases hv with ⟨v1, v2⟩ | ⟨v1, v2⟩ <;> subst v1
            · refine st_ild rfl rfl ?_
              refine st_b1 rfl (fun _ => ?_) (fun zq => absurd (rfl) zq)
              refine st_k rfl ?_
              -- at 177: op_iret
              exact st_iret rfl ⟨by rw [yy 0 (Or.inl ⟨rfl, v2⟩)], h.sc hs, hs.fr⟩
            · refine st_ild rfl rfl ?_
              refine st_b1 rfl (fun zq => absurd zq ((by decide))) (fun _ => ?_)
              refine st_k rfl ?_
              refine st_go rfl ?_
              -- at 177: op_iret
              exact st_iret rfl ⟨by rw [yy 1 (Or.inr ⟨rfl, v2⟩)], h.sc hs, hs.fr⟩
          | some z =>
            rcases hv with ⟨v1, v2⟩ | ⟨v1, v2⟩ <;> subst v1
            · refine st_ild rfl rfl ?_
              refine st_b1 rfl (fun _ => ?_) (fun zq => absurd (rfl) zq)
              refine st_k rfl ?_
              -- at 177: op_iret
              exact st_iret rfl ⟨by rw [yy 0 (Or.inl ⟨rfl, v2⟩)], h.sc hs, hs.fr⟩
            · refine st_ild rfl rfl ?_
              refine st_b1 rfl (fun zq => absurd zq ((by decide))) (fun _ => ?_)
              refine st_k rfl ?_
              refine st_go rfl ?_
              -- at 177: op_iret
              exact st_iret rfl ⟨by rw [yy 1 (Or.inr ⟨rfl, v2⟩)], h.sc hs, hs.fr⟩
        | succ m ih =>
          intro i x x2 v hx hi hv
          subst hx
          have inner : ∀ n p y2 v, y2 = nI p → p + n = vs.length + 1 → ((v = 0 ∧ ∃ i p, i < ws.length + 1 ∧ p < vs.length + 1 ∧ rs (aC a) ws i = rs (aC a) vs p) ∨ (v = 1 ∧ (∀ i' p, i' < i → p < vs.length + 1 → rs (aC a) ws i' ≠ rs (aC a) vs p) ∧ ∀ p', p' < p → rs (aC a) ws i ≠ rs (aC a) vs p')) → pm_WP (pm_call (d + 19)) tb_252 (fun r0 M' => r0 = some (.int y) ∧ IM a M' ∧ Mfr M M') 122 [some (.ref 132), some (.int (nI j)), some (.int (nI u)), some (.int 0), some (.int (nI (ws.length + 1))), some (.int (nI (vs.length + 1))), some (.int v), some (.int (nI i)), some (.int y2)] [] M1 := by
            intro n
            induction n with
            | zero =>
              intro p y2 v hy2 hp hv
              subst hy2
              refine st_ild rfl rfl ?_
              refine st_ild rfl rfl ?_
              refine st_b2 rfl (fun _ => ?_) (fun zq => absurd (nI_le (by omega) (by omega)) zq)
              refine st_inc rfl rfl ?_
              refine st_go rfl ?_
              -- at 112: stop
              refine ih (i + 1) _ _ _ (nI_1 i) (by omega) ?_
              rcases hv with hv | ⟨v1, v2, v3⟩
              · exact Or.inl hv
              · refine Or.inr ⟨v1, fun i' p' q1 q2 => ?_⟩
                by_cases z : i' = i
                · subst z; exact v3 p' (by omega)
                · exact v2 i' p' (by omega) q2
            | succ n ihn =>
              intro p y2 v hy2 hp hv
              subst hy2
              rcases hv with ⟨v1, v2⟩ | ⟨v1, v2, v3⟩ <;> subst v1
              · refine st_ild rfl rfl ?_
                refine st_ild rfl rfl ?_
                refine st_b2 rfl (fun zq => absurd zq (nI_ge (by omega) (by omega))) (fun _ => ?_)
                refine st_ild rfl rfl ?_
                refine st_b1 rfl (fun _ => ?_) (fun zq => absurd (rfl) zq)
                refine st_k rfl ?_
                refine st_ist rfl ?_
                refine st_inc rfl rfl ?_
                refine st_go rfl ?_
                -- at 122: stop
                exact ihn (p + 1) _ _ (nI_1 p) (by omega) (Or.inl ⟨rfl, v2⟩)
              · have e5 : nI (ws.length + 1) + nI p = nI (ws.length + 1 + p) := nI_add _ _
                refine st_ild rfl rfl ?_
                refine st_ild rfl rfl ?_
                refine st_b2 rfl (fun zq => absurd zq (nI_ge (by omega) (by omega))) (fun _ => ?_)
                refine st_ild rfl rfl ?_
                refine st_b1 rfl (fun zq => absurd zq ((by decide))) (fun _ => ?_)
                refine st_ald rfl rfl ?_
                refine st_ild rfl rfl ?_
                refine st_ild rfl rfl ?_
                refine st_ild rfl rfl ?_
                refine st_ib rfl ?_
                -- at 142: stop
                rw [e5]
                refine st_cav (As := [_, _]) rfl rfl rfl (by first | exact tT hM1 rfl | assumption | exact rw_T hM1 (by assumption) | exact rw_A hM1 (by assumption)) (Nat.le_of_ble_eq_true rfl) (m_areLike (d + 18) hM1 (by omega) (by omega) (hS1 i (by omega)) (hS2 p (by omega)) (w9 i) (v9 p)) ?_
                refine st_b1 rfl (fun g => ?_) (fun g => ?_)
                -- at 145: split 152 148
                · have g := Decidable.not_not.mp (fun z => g (b01_f z))
                  refine st_k rfl ?_
                  refine st_ist rfl ?_
                  refine st_inc rfl rfl ?_
                  refine st_go rfl ?_
                  -- at 122: stop
                  exact ihn (p + 1) _ _ (nI_1 p) (by omega) (Or.inl ⟨rfl, i, p, by omega, by omega, g⟩)
                · have g : ¬ rs (aC a) ws i = rs (aC a) vs p := fun z => g (b01_t z)
                  refine st_k rfl ?_
                  refine st_go rfl ?_
                  refine st_ist rfl ?_
                  refine st_inc rfl rfl ?_
                  refine st_go rfl ?_
                  -- at 122: stop
                  refine ihn (p + 1) _ _ (nI_1 p) (by omega) (Or.inr ⟨rfl, v2, fun p' hp' => ?_⟩)
                  by_cases z : p' = p
                  · subst z; exact g
                  · exact v3 p' (by omega)
          refine st_ild rfl rfl ?_
          refine st_ild rfl rfl ?_
          refine st_b2 rfl (fun zq => absurd zq (nI_ge (by omega) (by omega))) (fun _ => ?_)
          refine st_k rfl ?_
          refine st_ist rfl ?_
          -- at 122: stop
          refine wp_le ms_252 (lc (lc (lc (lc (lc (lc (lc (lc (lc l0))))))))) (inner (vs.length + 1) 0 _ v rfl (by omega) ?_)
          rcases hv with hv | ⟨v1, v2⟩
          · exact Or.inl hv
          · exact Or.inr ⟨v1, v2, fun p' hp' => by omega⟩
      have mslip : ∀ (M1 : pm_M), Msc M M1 → ∀ (zs : List Nat) (q' : Nat), kn (aC a) zs → zs.length ≤ 20 → q' < 6 → aR a q' = some (zs.map nI) → ∀ i k, i < zs.length + 1 → k < 42 → ∃ M2, pm_call (d + 19) 248 [.ref 132, .int (nI q'), .int (nI i - 1), .int (nI k)] M1 none M2 ∧ Sl M2 k (rs (aC a) zs i) ∧ Slf k M1 M2 := by
        intro M1 hs zs q' hkz hlz hq hz i k hi hk42
        have hI := h.sc hs
        have hzr := hI.2.1 q' hq
        rw [hz] at hzr
        exact m_laySlip (d + 16) hI.1 ha.1 hI.2.2.2.1 hq hk42 hkz (by omega) hzr (fun t ht => by
          by_cases z : i = 0
          · subst z
            rw [if_pos rfl]
            exact ⟨fun w => absurd (show nI t < 0 by rw [w]; decide) (nI_pos (by omega)), fun w => by omega⟩
          · rw [if_neg z, nI_p1 (by omega)]
            exact nI_eq (by omega) (by omega))
      have loop2 : ∀ m i x M1, x = nI i → i + m = vs.length + 1 → Msc M M1 → (∀ t, t < ws.length + 1 → Sl M1 t (rs (aC a) ws t)) → (∀ t, t < i → Sl M1 (ws.length + 1 + t) (rs (aC a) vs t)) → pm_WP (pm_call (d + 19)) tb_252 (fun r0 M' => r0 = some (.int y) ∧ IM a M' ∧ Mfr M M') 79 [some (.ref 132), some (.int (nI j)), some (.int (nI u)), some (.int 0), some (.int (nI (ws.length + 1))), some (.int (nI (vs.length + 1))), some (.int x), none, none] [] M1 := by
        intro m
        induction m with
        | zero =>
          intro i x M1 hx hi hs hS1 hS2
          subst hx
          refine st_ild rfl rfl ?_
          refine st_ild rfl rfl ?_
          refine st_b2 rfl (fun _ => ?_) (fun zq => absurd (nI_le (by omega) (by omega)) zq)
          refine st_k rfl ?_
          refine st_ist rfl ?_
          refine st_k rfl ?_
          refine st_ist rfl ?_
          -- at 112: stop
          exact loop34 M1 hs hS1 (fun t ht => hS2 t (by omega)) (ws.length + 1) 0 _ none 1 rfl (by omega) (Or.inr ⟨rfl, fun i' p q1 => by omega⟩)
        | succ m ih =>
          intro i x M1 hx hi hs hS1 hS2
          subst hx
          have hM1 := hs.ok hM
          obtain ⟨M2, hc2, h5, h6⟩ := mslip M1 hs vs u hkv hlv hu hy i (ws.length + 1 + i) (by omega) (by omega)
          have e5 : nI (ws.length + 1) + nI i = nI (ws.length + 1 + i) := nI_add _ _
          refine st_ild rfl rfl ?_
          refine st_ild rfl rfl ?_
          refine st_b2 rfl (fun zq => absurd zq (nI_ge (by omega) (by omega))) (fun _ => ?_)
          refine st_ald rfl rfl ?_
          refine st_ild rfl rfl ?_
          refine st_ild rfl rfl ?_
          refine st_k rfl ?_
          refine st_ib rfl ?_
          refine st_ild rfl rfl ?_
          refine st_ild rfl rfl ?_
          refine st_ib rfl ?_
          -- at 97: stop
          rw [e5]
          refine st_cav (As := [_, _, _]) rfl rfl rfl (by first | exact tT hM1 rfl | assumption | exact rw_T hM1 (by assumption) | exact rw_A hM1 (by assumption)) (Nat.le_of_ble_eq_true rfl) (hc2) ?_
          refine st_inc rfl rfl ?_
          refine st_go rfl ?_
          -- at 79: stop
          refine ih (i + 1) _ M2 (nI_1 i) (by omega) (hs.tr h6.1) (fun t ht => (hS1 t ht).kept h6 (by omega)) (fun t ht => ?_)
          by_cases z : t = i
          · subst z; exact h5
          · exact (hS2 t (by omega)).kept h6 (by omega)
      have loop1 : ∀ m i x M1, x = nI i → i + m = ws.length + 1 → Msc M M1 → (∀ t, t < i → Sl M1 t (rs (aC a) ws t)) → pm_WP (pm_call (d + 19)) tb_252 (fun r0 M' => r0 = some (.int y) ∧ IM a M' ∧ Mfr M M') 52 [some (.ref 132), some (.int (nI j)), some (.int (nI u)), some (.int 0), some (.int (nI (ws.length + 1))), some (.int (nI (vs.length + 1))), some (.int x), none, none] [] M1 := by
        intro m
        induction m with
        | zero =>
          intro i x M1 hx hi hs hS1
          subst hx
          refine st_ild rfl rfl ?_
          refine st_ild rfl rfl ?_
          refine st_b2 rfl (fun _ => ?_) (fun zq => absurd (nI_le (by omega) (by omega)) zq)
          refine st_k rfl ?_
          refine st_ist rfl ?_
          -- at 79: stop
          exact loop2 (vs.length + 1) 0 _ M1 rfl (by omega) hs (fun t ht => hS1 t (by omega)) (fun t ht => by omega)
        | succ m ih =>
          intro i x M1 hx hi hs hS1
          subst hx
          have hM1 := hs.ok hM
          obtain ⟨M2, hc2, h5, h6⟩ := mslip M1 hs ws j hkw hlw hj (by assumption) i i (by omega) (by omega)
          refine st_ild rfl rfl ?_
          refine st_ild rfl rfl ?_
          refine st_b2 rfl (fun zq => absurd zq (nI_ge (by omega) (by omega))) (fun _ => ?_)
          refine st_ald rfl rfl ?_
          refine st_ild rfl rfl ?_
          refine st_ild rfl rfl ?_
          refine st_k rfl ?_
          refine st_ib rfl ?_
          refine st_ild rfl rfl ?_
          refine st_cav (As := [_, _, _]) rfl rfl rfl (by first | exact tT hM1 rfl | assumption | exact rw_T hM1 (by assumption) | exact rw_A hM1 (by assumption)) (Nat.le_of_ble_eq_true rfl) (hc2) ?_
          refine st_inc rfl rfl ?_
          refine st_go rfl ?_
          -- at 52: stop
          refine ih (i + 1) _ M2 (nI_1 i) (by omega) (hs.tr h6.1) (fun t ht => ?_)
          by_cases z : t = i
          · subst z; exact h5
          · exact (hS1 t (by omega)).kept h6 z
      have hzj := h.2.1 j hj
      rw [hx] at hzj
      have hzu := h.2.1 u hu
      rw [hy] at hzu
      obtain ⟨r, M', hc, hr', h9, h10⟩ := eq_252 (d := d + 19) (A := [.ref 132, .int (nI j), .int (nI u)]) (M := M) (Q := fun r0 M' => r0 = some (.int y) ∧ IM a M' ∧ Mfr M M') (Nat.le_of_ble_eq_true rfl) (by
        refine st_ild rfl rfl ?_
        refine st_call (As := [_]) rfl rfl rfl (Nat.le_of_ble_eq_true rfl) (m_isRow (d + 17) _) ?_
        refine st_b1 rfl (fun zq => absurd zq (b01_t h2)) (fun _ => ?_)
        refine st_ild rfl rfl ?_
        refine st_call (As := [_]) rfl rfl rfl (Nat.le_of_ble_eq_true rfl) (m_isRow (d + 17) _) ?_
        refine st_b1 rfl (fun _ => ?_) (fun zq => absurd (b01_t t2) zq)
        refine st_ald rfl rfl ?_
        refine st_ild rfl rfl ?_
        refine st_ild rfl rfl ?_
        refine st_cav (As := [_, _]) rfl rfl rfl (by first | exact tT hM rfl | assumption | exact rw_T hM (by assumption) | exact rw_A hM (by assumption)) (Nat.le_of_ble_eq_true rfl) (okM d M h) ?_
        refine st_ist rfl ?_
        refine st_ild rfl rfl ?_
        refine st_b1 rfl (fun _ => ?_) (fun zq => absurd ((by decide)) zq)
        refine st_ald rfl rfl ?_
        refine st_gR' rfl (by first | exact tT hM rfl | assumption | exact rw_T hM (by assumption) | exact rw_A hM (by assumption)) (by first | exact rR hM rfl rfl | assumption | exact rw_R hM (by assumption)) ?_
        refine st_ild rfl rfl ?_
        refine st_iald rfl (by first | exact tT hM rfl | assumption | exact rw_T hM (by assumption) | exact rw_A hM (by assumption)) (hin) ?_
        -- at 35: stop
        refine wp_e (y := nI ws.length) (by rw [e1, hzj.1, map_len]) ?_
        refine st_k rfl ?_
        refine st_ib rfl ?_
        -- at 37: stop
        rw [nI_1]
        refine st_ist rfl ?_
        refine st_ald rfl rfl ?_
        refine st_gR' rfl (by first | exact tT hM rfl | assumption | exact rw_T hM (by assumption) | exact rw_A hM (by assumption)) (by first | exact rR hM rfl rfl | assumption | exact rw_R hM (by assumption)) ?_
        refine st_ild rfl rfl ?_
        refine st_iald rfl (by first | exact tT hM rfl | assumption | exact rw_T hM (by assumption) | exact rw_A hM (by assumption)) (hin2) ?_
        -- at 45: stop
        refine wp_e (y := nI vs.length) (by rw [e1u, hzu.1, map_len]) ?_
        refine st_k rfl ?_
        refine st_ib rfl ?_
        -- at 47: stop
        rw [nI_1]
        refine st_ist rfl ?_
        refine st_k rfl ?_
        refine st_ist rfl ?_
        -- at 52: stop
        exact loop1 (ws.length + 1) 0 _ M rfl (by omega) (Msc.rf M) (fun t ht => by omega))
      subst hr'
      exact ⟨M', hc, h9, h10⟩
  by_cases g : ∃ i p, i < ws.length + 1 ∧ p < vs.length + 1 ∧ rs (aC a) ws i = rs (aC a) vs p
  · exact fin 0 (Or.inl ⟨rfl, g⟩)
  · exact fin 1 (Or.inr ⟨rfl, fun i p q1 q2 q3 => g ⟨i, p, q1, q2, q3⟩⟩)
end APT

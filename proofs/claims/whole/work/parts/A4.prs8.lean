/-! THE REFERENCE reads a craft's text: LAWS and PAIRS -/
section PRH
variable {M : pm_M} {t : Nat} {l : List Int32} {s : Pn}
theorem m_readsLaw (d : Nat) (hM : pm_ok M) (ht : t < 4) (h : MTxt M t (some l)) (hw : pwf s) (hc : MP s M) (hs : s.1 < l.length) :
    ∃ r M', pm_call (d + 3) 177 [.ref 132, .int (nI t)] M r M' ∧ Mx dI M M' ∧ (match (if s.2.2.1.length = 6 ∨ 0 < s.2.2.2.length then .inl s.1 else laF l s : Nat ⊕ Pn) with
      | .inl q => r = some (.int 0) ∧ gI M' 132 19 = nI q
      | .inr s' => r = some (.int 1) ∧ MP s' M') := by
  refine eq_177 (Nat.le_of_ble_eq_true rfl) ?_
  obtain ⟨w1, w2, w3, w4, w5, w6⟩ := id hw
  obtain ⟨h1, h2, h3⟩ := id h
  obtain ⟨c1, c2, c3, c4, c5, c6, c7⟩ := id hc
  refine st_ald rfl rfl ?_
  refine st_gI rfl (by first | exact tT hM rfl | assumption | exact rw_T hM (by assumption) | exact rw_A hM (by assumption)) ?_
  -- at 4: stop
  refine wp_e c3 ?_
  by_cases q1 : s.2.2.1.length = 6
  · rw [if_pos (Or.inl q1), q1]
    refine st_k rfl ?_
    refine st_b2 rfl (fun _ => ?_) (fun zq => absurd ((by decide)) zq)
    refine st_k rfl ?_
    -- at 17: op_zret
    exact st_zret rfl (by decide) ⟨Mx.rf M, rfl, c1⟩
  refine st_k rfl ?_
  refine st_b2 rfl (fun zq => absurd zq ((fun z => q1 ((nI_eq (b := 6) (by omega) (by decide)).mp z)))) (fun _ => ?_)
  refine st_ald rfl rfl ?_
  refine st_gI rfl (by first | exact tT hM rfl | assumption | exact rw_T hM (by assumption) | exact rw_A hM (by assumption)) ?_
  -- at 13: stop
  refine wp_e c4 ?_
  by_cases q2 : 0 < s.2.2.2.length
  · rw [if_pos (Or.inr q2)]
    refine st_b1 rfl (fun zq => absurd zq (nI_nle q2 (by omega))) (fun _ => ?_)
    refine st_k rfl ?_
    -- at 17: op_zret
    exact st_zret rfl (by decide) ⟨Mx.rf M, rfl, c1⟩
  rw [if_neg (by omega), show s.2.2.2.length = 0 by omega]
  refine st_b1 rfl (fun _ => ?_) (fun zq => absurd ((by decide)) zq)
  refine st_ald rfl rfl ?_
  refine st_dup rfl rfl ?_
  refine st_gI rfl (by first | exact tT hM rfl | assumption | exact rw_T hM (by assumption) | exact rw_A hM (by assumption)) ?_
  -- at 23: stop
  refine wp_e c1 ?_
  refine st_k rfl ?_
  refine st_ib rfl ?_
  refine st_pI rfl (by first | exact tT hM rfl | assumption | exact rw_T hM (by assumption) | exact rw_A hM (by assumption)) ?_
  -- at 28: stop
  rw [nI_1]
  refine st_k rfl ?_
  refine st_ist rfl ?_
  -- at 30: stop
  generalize hn : s.2.2.1.length = n at *
  obtain ⟨N0, e0⟩ : ∃ N0, N0 = sI M 132 19 (nI (s.1 + 1)) := ⟨_, rfl⟩
  have x0 : Mx (dS 145 (2 * n)) M N0 := by rw [e0]; exact (Mx.rf M).sI (Or.inl ⟨rfl, Or.inl rfl⟩) _
  have p0 : gI N0 132 19 = nI (s.1 + 1) := by rw [e0]; exact gI_same _ _ _ _
  rw [← e0]
  clear e0
  unfold laF
  have hM0 := x0.ok hM
  have hT0 := (x0.mo (fun k j z => dI_A (dS_I (by decide) z))).txt h
  have hk0 : gI N0 132 23 = nI s.2.1.length := by rw [x0.i (by unfold dS; omega)]; exact c2
  have hc0 : gI N0 132 24 = nI n := by rw [x0.i (by unfold dS; omega)]; exact c3
  rcases fgn_cs (l := l) (p := s.1 + 1) (lo := 0) (n := s.2.1.length) (by decide) (by omega) with ⟨e, _⟩ | ⟨a0, e, _, _, ha0, _⟩
  · rw [e]
    obtain ⟨N1, hcall, x1, p1⟩ := m_fgN d hM0 ht hT0 (by omega) p0 (lo := 0) (n := s.2.1.length) (by decide) (by omega) (x := 0) (y := (nI s.2.1.length - 1)) (by decide) (by rfl) e
    refine st_ild rfl rfl ?_
    refine st_k rfl ?_
    refine st_b2 rfl (fun zq => absurd zq ((by decide))) (fun _ => ?_)
    refine st_ald rfl rfl ?_
    refine st_ild rfl rfl ?_
    refine st_k rfl ?_
    refine st_ald rfl rfl ?_
    refine st_gI rfl (by first | exact tT hM0 rfl | assumption | exact rw_T hM0 (by assumption) | exact rw_A hM0 (by assumption)) ?_
    -- at 42: stop
    refine wp_e hk0 ?_
    refine st_k rfl ?_
    refine st_ib rfl ?_
    refine st_cav (As := [_, _, _]) rfl rfl rfl (by first | exact tT hM0 rfl | assumption | exact rw_T hM0 (by assumption) | exact rw_A hM0 (by assumption)) (Nat.le_of_ble_eq_true rfl) (hcall) ?_
    refine st_b1 rfl (fun zq => absurd zq ((fun z => z rfl))) (fun _ => ?_)
    refine st_k rfl ?_
    -- at 51: op_zret
    exact st_zret rfl (by decide) ⟨(x0.mo (fun k j z => dS_I (by decide) z)).tr (x1.mo (fun k j z => dS_I (c := 144) (i := 0) (by decide) (dF_S z))), rfl, p1⟩
  rw [e]
  obtain ⟨N1, hcall, x1, p1, v1⟩ := m_fgS d hM0 ht hT0 (by omega) p0 (lo := 0) (n := s.2.1.length) (by decide) (by omega) (x := 0) (y := (nI s.2.1.length - 1)) (by decide) (by rfl) e
  refine st_ild rfl rfl ?_
  refine st_k rfl ?_
  refine st_b2 rfl (fun zq => absurd zq ((by decide))) (fun _ => ?_)
  refine st_ald rfl rfl ?_
  refine st_ild rfl rfl ?_
  refine st_k rfl ?_
  refine st_ald rfl rfl ?_
  refine st_gI rfl (by first | exact tT hM0 rfl | assumption | exact rw_T hM0 (by assumption) | exact rw_A hM0 (by assumption)) ?_
  -- at 42: stop
  refine wp_e hk0 ?_
  have y1 := x0.tr (x1.mo (fun k j z => dF_S z))
  have hM1 := y1.ok hM
  refine st_k rfl ?_
  refine st_ib rfl ?_
  refine st_cav (As := [_, _, _]) rfl rfl rfl (by first | exact tT hM0 rfl | assumption | exact rw_T hM0 (by assumption) | exact rw_A hM0 (by assumption)) (Nat.le_of_ble_eq_true rfl) (hcall) ?_
  refine st_b1 rfl (fun _ => ?_) (fun zq => absurd ((by decide)) zq)
  -- at 52: stop
  refine st_ald rfl rfl ?_
  refine st_gR' rfl (by first | exact tT hM1 rfl | assumption | exact rw_T hM1 (by assumption) | exact rw_A hM1 (by assumption)) (by first | exact rR hM1 rfl rfl | assumption | exact rw_R hM1 (by assumption)) ?_
  refine st_k rfl ?_
  refine st_ald rfl rfl ?_
  refine st_gI rfl (by first | exact tT hM1 rfl | assumption | exact rw_T hM1 (by assumption) | exact rw_A hM1 (by assumption)) ?_
  -- at 61: stop
  refine wp_e (y := nI n) (by rw [x1.i (by unfold dF; omega)]; exact hc0) ?_
  refine st_ib rfl ?_
  -- at 62: stop
  refine wp_e (y := nI (2 * n)) (by show nI 2 * nI _ = _; rw [pk_mul]) ?_
  refine st_ild rfl rfl ?_
  refine st_ib rfl ?_
  -- at 64: stop
  refine wp_e (y := nI (2 * n + 0)) (by show nI _ + nI 0 = _; rw [nI_add]) ?_
  have hin : vp_in (nI (2 * n + 0)) 12 := vp_in_nI (by omega) (by decide)
  refine st_ald rfl rfl ?_
  refine st_gI rfl (by first | exact tT hM1 rfl | assumption | exact rw_T hM1 (by assumption) | exact rw_A hM1 (by assumption)) ?_
  -- at 68: stop
  refine wp_e v1 ?_
  refine st_iast rfl (by first | exact tT hM1 rfl | assumption | exact rw_T hM1 (by assumption) | exact rw_A hM1 (by assumption)) (by first | decide | assumption | exact vp_in_nI (by omega) (by decide)) ?_
  refine st_inc rfl rfl ?_
  refine st_go rfl ?_
  -- at 30: stop
  rw [nI_clamp (by omega), show (0 : Int32) + 1 = 1 by decide]
  obtain ⟨N2, e2⟩ : ∃ N2, N2 = sI N1 145 (2 * n + 0) (nI a0) := ⟨_, rfl⟩
  have x2 : Mx (dS 145 (2 * n)) M N2 := by rw [e2]; exact y1.sI (Or.inr ⟨rfl, by omega, by omega⟩) _
  have p2 : gI N2 132 19 = nI (s.1 + 2) := by rw [e2, gI_ne (Or.inl (by decide))]; exact p1
  have r0' : gI N2 145 (2 * n + 0) = nI a0 := by rw [e2]; exact gI_same _ _ _ _
  rw [← e2]
  clear e2 hin e 
  clear hcall p1 v1 hM1 y1 x1 hc0 hk0 hT0 hM0 p0 x0
  have x0 := x2
  have p0 := p2
  have r0 := r0'
  clear x2 p2 r0'
  generalize N2 = N0 at *
  have hM0 := x0.ok hM
  have hT0 := (x0.mo (fun k j z => dI_A (dS_I (by decide) z))).txt h
  have hk0 : gI N0 132 23 = nI s.2.1.length := by rw [x0.i (by unfold dS; omega)]; exact c2
  have hc0 : gI N0 132 24 = nI n := by rw [x0.i (by unfold dS; omega)]; exact c3
  rcases fgn_cs (l := l) (p := s.1 + 2) (lo := 0) (n := s.2.1.length) (by decide) (by omega) with ⟨e, _⟩ | ⟨a1, e, _, _, ha1, _⟩
  · rw [e]
    obtain ⟨N1, hcall, x1, p1⟩ := m_fgN d hM0 ht hT0 (by omega) p0 (lo := 0) (n := s.2.1.length) (by decide) (by omega) (x := 0) (y := (nI s.2.1.length - 1)) (by decide) (by rfl) e
    refine st_ild rfl rfl ?_
    refine st_k rfl ?_
    refine st_b2 rfl (fun zq => absurd zq ((by decide))) (fun _ => ?_)
    refine st_ald rfl rfl ?_
    refine st_ild rfl rfl ?_
    refine st_k rfl ?_
    refine st_ald rfl rfl ?_
    refine st_gI rfl (by first | exact tT hM0 rfl | assumption | exact rw_T hM0 (by assumption) | exact rw_A hM0 (by assumption)) ?_
    -- at 42: stop
    refine wp_e hk0 ?_
    refine st_k rfl ?_
    refine st_ib rfl ?_
    refine st_cav (As := [_, _, _]) rfl rfl rfl (by first | exact tT hM0 rfl | assumption | exact rw_T hM0 (by assumption) | exact rw_A hM0 (by assumption)) (Nat.le_of_ble_eq_true rfl) (hcall) ?_
    refine st_b1 rfl (fun zq => absurd zq ((fun z => z rfl))) (fun _ => ?_)
    refine st_k rfl ?_
    -- at 51: op_zret
    exact st_zret rfl (by decide) ⟨(x0.mo (fun k j z => dS_I (by decide) z)).tr (x1.mo (fun k j z => dS_I (c := 144) (i := 0) (by decide) (dF_S z))), rfl, p1⟩
  rw [e]
  obtain ⟨N1, hcall, x1, p1, v1⟩ := m_fgS d hM0 ht hT0 (by omega) p0 (lo := 0) (n := s.2.1.length) (by decide) (by omega) (x := 0) (y := (nI s.2.1.length - 1)) (by decide) (by rfl) e
  refine st_ild rfl rfl ?_
  refine st_k rfl ?_
  refine st_b2 rfl (fun zq => absurd zq ((by decide))) (fun _ => ?_)
  refine st_ald rfl rfl ?_
  refine st_ild rfl rfl ?_
  refine st_k rfl ?_
  refine st_ald rfl rfl ?_
  refine st_gI rfl (by first | exact tT hM0 rfl | assumption | exact rw_T hM0 (by assumption) | exact rw_A hM0 (by assumption)) ?_
  -- at 42: stop
  refine wp_e hk0 ?_
  have y1 := x0.tr (x1.mo (fun k j z => dF_S z))
  have hM1 := y1.ok hM
  refine st_k rfl ?_
  refine st_ib rfl ?_
  refine st_cav (As := [_, _, _]) rfl rfl rfl (by first | exact tT hM0 rfl | assumption | exact rw_T hM0 (by assumption) | exact rw_A hM0 (by assumption)) (Nat.le_of_ble_eq_true rfl) (hcall) ?_
  refine st_b1 rfl (fun _ => ?_) (fun zq => absurd ((by decide)) zq)
  -- at 52: stop
  refine st_ald rfl rfl ?_
  refine st_gR' rfl (by first | exact tT hM1 rfl | assumption | exact rw_T hM1 (by assumption) | exact rw_A hM1 (by assumption)) (by first | exact rR hM1 rfl rfl | assumption | exact rw_R hM1 (by assumption)) ?_
  refine st_k rfl ?_
  refine st_ald rfl rfl ?_
  refine st_gI rfl (by first | exact tT hM1 rfl | assumption | exact rw_T hM1 (by assumption) | exact rw_A hM1 (by assumption)) ?_
  -- at 61: stop
  refine wp_e (y := nI n) (by rw [x1.i (by unfold dF; omega)]; exact hc0) ?_
  refine st_ib rfl ?_
  -- at 62: stop
  refine wp_e (y := nI (2 * n)) (by show nI 2 * nI _ = _; rw [pk_mul]) ?_
  refine st_ild rfl rfl ?_
  refine st_ib rfl ?_
  -- at 64: stop
  refine wp_e (y := nI (2 * n + 1)) (by show nI _ + nI 1 = _; rw [nI_add]) ?_
  have hin : vp_in (nI (2 * n + 1)) 12 := vp_in_nI (by omega) (by decide)
  refine st_ald rfl rfl ?_
  refine st_gI rfl (by first | exact tT hM1 rfl | assumption | exact rw_T hM1 (by assumption) | exact rw_A hM1 (by assumption)) ?_
  -- at 68: stop
  refine wp_e v1 ?_
  refine st_iast rfl (by first | exact tT hM1 rfl | assumption | exact rw_T hM1 (by assumption) | exact rw_A hM1 (by assumption)) (by first | decide | assumption | exact vp_in_nI (by omega) (by decide)) ?_
  refine st_inc rfl rfl ?_
  refine st_go rfl ?_
  -- at 30: stop
  rw [nI_clamp (by omega), show (1 : Int32) + 1 = 2 by decide]
  obtain ⟨N2, e2⟩ : ∃ N2, N2 = sI N1 145 (2 * n + 1) (nI a1) := ⟨_, rfl⟩
  have x2 : Mx (dS 145 (2 * n)) M N2 := by rw [e2]; exact y1.sI (Or.inr ⟨rfl, by omega, by omega⟩) _
  have p2 : gI N2 132 19 = nI (s.1 + 3) := by rw [e2, gI_ne (Or.inl (by decide))]; exact p1
  have r0' : gI N2 145 (2 * n + 0) = nI a0 := by rw [e2, gI_ne (Or.inr (by omega)), x1.i (by unfold dF; omega)]; exact r0
  have r1' : gI N2 145 (2 * n + 1) = nI a1 := by rw [e2]; exact gI_same _ _ _ _
  rw [← e2]
  clear e2 hin e r0
  clear hcall p1 v1 hM1 y1 x1 hc0 hk0 hT0 hM0 p0 x0
  have x0 := x2
  have p0 := p2
  have r0 := r0'
  have r1 := r1'
  clear x2 p2 r0' r1'
  generalize N2 = N0 at *
  have hM0 := x0.ok hM
  have hc0 : gI N0 132 24 = nI n := by rw [x0.i (by unfold dS; omega)]; exact c3
  refine st_ild rfl rfl ?_
  refine st_k rfl ?_
  refine st_b2 rfl (fun _ => ?_) (fun zq => absurd ((by decide)) zq)
  refine st_ald rfl rfl ?_
  refine st_dup rfl rfl ?_
  refine st_gI rfl (by first | exact tT hM0 rfl | assumption | exact rw_T hM0 (by assumption) | exact rw_A hM0 (by assumption)) ?_
  -- at 80: stop
  refine wp_e hc0 ?_
  refine st_k rfl ?_
  refine st_ib rfl ?_
  refine st_pI rfl (by first | exact tT hM0 rfl | assumption | exact rw_T hM0 (by assumption) | exact rw_A hM0 (by assumption)) ?_
  refine st_k rfl ?_
  -- at 86: op_zret
  rw [nI_1]
  subst hn
  exact st_zret rfl (by decide) ⟨(x0.mo (fun k j z => dS_I (by decide) z)).sI (Or.inl (by decide)) _, rfl, hc.la x0 p0 r0 r1⟩
theorem m_readsPair (d : Nat) (hM : pm_ok M) (ht : t < 4) (h : MTxt M t (some l)) (hw : pwf s) (hc : MP s M) (hs : s.1 < l.length) :
    ∃ r M', pm_call (d + 3) 178 [.ref 132, .int (nI t)] M r M' ∧ Mx dI M M' ∧ (match (if s.2.2.2.length = 6 then .inl s.1 else paF l s : Nat ⊕ Pn) with
      | .inl q => r = some (.int 0) ∧ gI M' 132 19 = nI q
      | .inr s' => r = some (.int 1) ∧ MP s' M') := by
  refine eq_178 (Nat.le_of_ble_eq_true rfl) ?_
  obtain ⟨w1, w2, w3, w4, w5, w6⟩ := id hw
  obtain ⟨h1, h2, h3⟩ := id h
  obtain ⟨c1, c2, c3, c4, c5, c6, c7⟩ := id hc
  refine st_ald rfl rfl ?_
  refine st_gI rfl (by first | exact tT hM rfl | assumption | exact rw_T hM (by assumption) | exact rw_A hM (by assumption)) ?_
  -- at 4: stop
  refine wp_e c4 ?_
  by_cases q1 : s.2.2.2.length = 6
  · rw [if_pos q1, q1]
    refine st_k rfl ?_
    refine st_b2 rfl (fun zq => absurd zq ((fun z => z (by decide)))) (fun _ => ?_)
    refine st_k rfl ?_
    -- at 10: op_zret
    exact st_zret rfl (by decide) ⟨Mx.rf M, rfl, c1⟩
  rw [if_neg q1]
  refine st_k rfl ?_
  refine st_b2 rfl (fun _ => ?_) (fun zq => absurd ((fun z => q1 ((nI_eq (b := 6) (by omega) (by decide)).mp z))) zq)
  refine st_ald rfl rfl ?_
  refine st_dup rfl rfl ?_
  refine st_gI rfl (by first | exact tT hM rfl | assumption | exact rw_T hM (by assumption) | exact rw_A hM (by assumption)) ?_
  -- at 16: stop
  refine wp_e c1 ?_
  refine st_k rfl ?_
  refine st_ib rfl ?_
  refine st_pI rfl (by first | exact tT hM rfl | assumption | exact rw_T hM (by assumption) | exact rw_A hM (by assumption)) ?_
  -- at 21: stop
  rw [nI_1]
  refine st_k rfl ?_
  refine st_ist rfl ?_
  -- at 23: stop
  generalize hn : s.2.2.2.length = n at *
  obtain ⟨N0, e0⟩ : ∃ N0, N0 = sI M 132 19 (nI (s.1 + 1)) := ⟨_, rfl⟩
  have x0 : Mx (dS 146 (3 * n)) M N0 := by rw [e0]; exact (Mx.rf M).sI (Or.inl ⟨rfl, Or.inl rfl⟩) _
  have p0 : gI N0 132 19 = nI (s.1 + 1) := by rw [e0]; exact gI_same _ _ _ _
  rw [← e0]
  clear e0
  unfold paF
  have hM0 := x0.ok hM
  have hT0 := (x0.mo (fun k j z => dI_A (dS_I (by decide) z))).txt h
  have hk0 : gI N0 132 23 = nI s.2.1.length := by rw [x0.i (by unfold dS; omega)]; exact c2
  have hc0 : gI N0 132 25 = nI n := by rw [x0.i (by unfold dS; omega)]; exact c4
  rcases fgn_cs (l := l) (p := s.1 + 1) (lo := 0) (n := s.2.1.length) (by decide) (by omega) with ⟨e, _⟩ | ⟨a0, e, _, _, ha0, _⟩
  · rw [e]
    obtain ⟨N1, hcall, x1, p1⟩ := m_fgN d hM0 ht hT0 (by omega) p0 (lo := 0) (n := s.2.1.length) (by decide) (by omega) (x := 0) (y := (nI s.2.1.length - 1)) (by decide) (by rfl) e
    refine st_ild rfl rfl ?_
    refine st_k rfl ?_
    refine st_b2 rfl (fun zq => absurd zq ((by decide))) (fun _ => ?_)
    refine st_ald rfl rfl ?_
    refine st_ild rfl rfl ?_
    refine st_k rfl ?_
    refine st_ild rfl rfl ?_
    refine st_k rfl ?_
    refine st_b2 rfl (fun zq => absurd zq ((by decide))) (fun _ => ?_)
    refine st_ald rfl rfl ?_
    refine st_gI rfl (by first | exact tT hM0 rfl | assumption | exact rw_T hM0 (by assumption) | exact rw_A hM0 (by assumption)) ?_
    -- at 40: stop
    refine wp_e hk0 ?_
    refine st_k rfl ?_
    refine st_ib rfl ?_
    refine st_go rfl ?_
    refine st_cav (As := [_, _, _]) rfl rfl rfl (by first | exact tT hM0 rfl | assumption | exact rw_T hM0 (by assumption) | exact rw_A hM0 (by assumption)) (Nat.le_of_ble_eq_true rfl) (hcall) ?_
    refine st_b1 rfl (fun zq => absurd zq ((fun z => z rfl))) (fun _ => ?_)
    refine st_k rfl ?_
    -- at 54: op_zret
    exact st_zret rfl (by decide) ⟨(x0.mo (fun k j z => dS_I (by decide) z)).tr (x1.mo (fun k j z => dS_I (c := 144) (i := 0) (by decide) (dF_S z))), rfl, p1⟩
  rw [e]
  obtain ⟨N1, hcall, x1, p1, v1⟩ := m_fgS d hM0 ht hT0 (by omega) p0 (lo := 0) (n := s.2.1.length) (by decide) (by omega) (x := 0) (y := (nI s.2.1.length - 1)) (by decide) (by rfl) e
  refine st_ild rfl rfl ?_
  refine st_k rfl ?_
  refine st_b2 rfl (fun zq => absurd zq ((by decide))) (fun _ => ?_)
  refine st_ald rfl rfl ?_
  refine st_ild rfl rfl ?_
  refine st_k rfl ?_
  refine st_ild rfl rfl ?_
  refine st_k rfl ?_
  refine st_b2 rfl (fun zq => absurd zq ((by decide))) (fun _ => ?_)
  refine st_ald rfl rfl ?_
  refine st_gI rfl (by first | exact tT hM0 rfl | assumption | exact rw_T hM0 (by assumption) | exact rw_A hM0 (by assumption)) ?_
  -- at 40: stop
  refine wp_e hk0 ?_
  have y1 := x0.tr (x1.mo (fun k j z => dF_S z))
  have hM1 := y1.ok hM
  refine st_k rfl ?_
  refine st_ib rfl ?_
  refine st_go rfl ?_
  refine st_cav (As := [_, _, _]) rfl rfl rfl (by first | exact tT hM0 rfl | assumption | exact rw_T hM0 (by assumption) | exact rw_A hM0 (by assumption)) (Nat.le_of_ble_eq_true rfl) (hcall) ?_
  refine st_b1 rfl (fun _ => ?_) (fun zq => absurd ((by decide)) zq)
  -- at 55: stop
  refine st_ald rfl rfl ?_
  refine st_gR' rfl (by first | exact tT hM1 rfl | assumption | exact rw_T hM1 (by assumption) | exact rw_A hM1 (by assumption)) (by first | exact rR hM1 rfl rfl | assumption | exact rw_R hM1 (by assumption)) ?_
  refine st_k rfl ?_
  refine st_ald rfl rfl ?_
  refine st_gI rfl (by first | exact tT hM1 rfl | assumption | exact rw_T hM1 (by assumption) | exact rw_A hM1 (by assumption)) ?_
  -- at 64: stop
  refine wp_e (y := nI n) (by rw [x1.i (by unfold dF; omega)]; exact hc0) ?_
  refine st_ib rfl ?_
  -- at 65: stop
  refine wp_e (y := nI (3 * n)) (by show nI 3 * nI _ = _; rw [pk_mul]) ?_
  refine st_ild rfl rfl ?_
  refine st_ib rfl ?_
  -- at 67: stop
  refine wp_e (y := nI (3 * n + 0)) (by show nI _ + nI 0 = _; rw [nI_add]) ?_
  have hin : vp_in (nI (3 * n + 0)) 18 := vp_in_nI (by omega) (by decide)
  refine st_ald rfl rfl ?_
  refine st_gI rfl (by first | exact tT hM1 rfl | assumption | exact rw_T hM1 (by assumption) | exact rw_A hM1 (by assumption)) ?_
  -- at 71: stop
  refine wp_e v1 ?_
  refine st_iast rfl (by first | exact tT hM1 rfl | assumption | exact rw_T hM1 (by assumption) | exact rw_A hM1 (by assumption)) (by first | decide | assumption | exact vp_in_nI (by omega) (by decide)) ?_
  refine st_inc rfl rfl ?_
  refine st_go rfl ?_
  -- at 23: stop
  rw [nI_clamp (by omega), show (0 : Int32) + 1 = 1 by decide]
  obtain ⟨N2, e2⟩ : ∃ N2, N2 = sI N1 146 (3 * n + 0) (nI a0) := ⟨_, rfl⟩
  have x2 : Mx (dS 146 (3 * n)) M N2 := by rw [e2]; exact y1.sI (Or.inr ⟨rfl, by omega, by omega⟩) _
  have p2 : gI N2 132 19 = nI (s.1 + 2) := by rw [e2, gI_ne (Or.inl (by decide))]; exact p1
  have r0' : gI N2 146 (3 * n + 0) = nI a0 := by rw [e2]; exact gI_same _ _ _ _
  rw [← e2]
  clear e2 hin e 
  clear hcall p1 v1 hM1 y1 x1 hc0 hk0 hT0 hM0 p0 x0
  have x0 := x2
  have p0 := p2
  have r0 := r0'
  clear x2 p2 r0'
  generalize N2 = N0 at *
  have hM0 := x0.ok hM
  have hT0 := (x0.mo (fun k j z => dI_A (dS_I (by decide) z))).txt h
  have hk0 : gI N0 132 23 = nI s.2.1.length := by rw [x0.i (by unfold dS; omega)]; exact c2
  have hc0 : gI N0 132 25 = nI n := by rw [x0.i (by unfold dS; omega)]; exact c4
  rcases fgn_cs (l := l) (p := s.1 + 2) (lo := 0) (n := s.2.1.length) (by decide) (by omega) with ⟨e, _⟩ | ⟨a1, e, _, _, ha1, _⟩
  · rw [e]
    obtain ⟨N1, hcall, x1, p1⟩ := m_fgN d hM0 ht hT0 (by omega) p0 (lo := 0) (n := s.2.1.length) (by decide) (by omega) (x := 0) (y := (nI s.2.1.length - 1)) (by decide) (by rfl) e
    refine st_ild rfl rfl ?_
    refine st_k rfl ?_
    refine st_b2 rfl (fun zq => absurd zq ((by decide))) (fun _ => ?_)
    refine st_ald rfl rfl ?_
    refine st_ild rfl rfl ?_
    refine st_k rfl ?_
    refine st_ild rfl rfl ?_
    refine st_k rfl ?_
    refine st_b2 rfl (fun zq => absurd zq ((by decide))) (fun _ => ?_)
    refine st_ald rfl rfl ?_
    refine st_gI rfl (by first | exact tT hM0 rfl | assumption | exact rw_T hM0 (by assumption) | exact rw_A hM0 (by assumption)) ?_
    -- at 40: stop
    refine wp_e hk0 ?_
    refine st_k rfl ?_
    refine st_ib rfl ?_
    refine st_go rfl ?_
    refine st_cav (As := [_, _, _]) rfl rfl rfl (by first | exact tT hM0 rfl | assumption | exact rw_T hM0 (by assumption) | exact rw_A hM0 (by assumption)) (Nat.le_of_ble_eq_true rfl) (hcall) ?_
    refine st_b1 rfl (fun zq => absurd zq ((fun z => z rfl))) (fun _ => ?_)
    refine st_k rfl ?_
    -- at 54: op_zret
    exact st_zret rfl (by decide) ⟨(x0.mo (fun k j z => dS_I (by decide) z)).tr (x1.mo (fun k j z => dS_I (c := 144) (i := 0) (by decide) (dF_S z))), rfl, p1⟩
  rw [e]
  obtain ⟨N1, hcall, x1, p1, v1⟩ := m_fgS d hM0 ht hT0 (by omega) p0 (lo := 0) (n := s.2.1.length) (by decide) (by omega) (x := 0) (y := (nI s.2.1.length - 1)) (by decide) (by rfl) e
  refine st_ild rfl rfl ?_
  refine st_k rfl ?_
  refine st_b2 rfl (fun zq => absurd zq ((by decide))) (fun _ => ?_)
  refine st_ald rfl rfl ?_
  refine st_ild rfl rfl ?_
  refine st_k rfl ?_
  refine st_ild rfl rfl ?_
  refine st_k rfl ?_
  refine st_b2 rfl (fun zq => absurd zq ((by decide))) (fun _ => ?_)
  refine st_ald rfl rfl ?_
  refine st_gI rfl (by first | exact tT hM0 rfl | assumption | exact rw_T hM0 (by assumption) | exact rw_A hM0 (by assumption)) ?_
  -- at 40: stop
  refine wp_e hk0 ?_
  have y1 := x0.tr (x1.mo (fun k j z => dF_S z))
  have hM1 := y1.ok hM
  refine st_k rfl ?_
  refine st_ib rfl ?_
  refine st_go rfl ?_
  refine st_cav (As := [_, _, _]) rfl rfl rfl (by first | exact tT hM0 rfl | assumption | exact rw_T hM0 (by assumption) | exact rw_A hM0 (by assumption)) (Nat.le_of_ble_eq_true rfl) (hcall) ?_
  refine st_b1 rfl (fun _ => ?_) (fun zq => absurd ((by decide)) zq)
  -- at 55: stop
  refine st_ald rfl rfl ?_
  refine st_gR' rfl (by first | exact tT hM1 rfl | assumption | exact rw_T hM1 (by assumption) | exact rw_A hM1 (by assumption)) (by first | exact rR hM1 rfl rfl | assumption | exact rw_R hM1 (by assumption)) ?_
  refine st_k rfl ?_
  refine st_ald rfl rfl ?_
  refine st_gI rfl (by first | exact tT hM1 rfl | assumption | exact rw_T hM1 (by assumption) | exact rw_A hM1 (by assumption)) ?_
  -- at 64: stop
  refine wp_e (y := nI n) (by rw [x1.i (by unfold dF; omega)]; exact hc0) ?_
  refine st_ib rfl ?_
  -- at 65: stop
  refine wp_e (y := nI (3 * n)) (by show nI 3 * nI _ = _; rw [pk_mul]) ?_
  refine st_ild rfl rfl ?_
  refine st_ib rfl ?_
  -- at 67: stop
  refine wp_e (y := nI (3 * n + 1)) (by show nI _ + nI 1 = _; rw [nI_add]) ?_
  have hin : vp_in (nI (3 * n + 1)) 18 := vp_in_nI (by omega) (by decide)
  refine st_ald rfl rfl ?_
  refine st_gI rfl (by first | exact tT hM1 rfl | assumption | exact rw_T hM1 (by assumption) | exact rw_A hM1 (by assumption)) ?_
  -- at 71: stop
  refine wp_e v1 ?_
  refine st_iast rfl (by first | exact tT hM1 rfl | assumption | exact rw_T hM1 (by assumption) | exact rw_A hM1 (by assumption)) (by first | decide | assumption | exact vp_in_nI (by omega) (by decide)) ?_
  refine st_inc rfl rfl ?_
  refine st_go rfl ?_
  -- at 23: stop
  rw [nI_clamp (by omega), show (1 : Int32) + 1 = 2 by decide]
  obtain ⟨N2, e2⟩ : ∃ N2, N2 = sI N1 146 (3 * n + 1) (nI a1) := ⟨_, rfl⟩
  have x2 : Mx (dS 146 (3 * n)) M N2 := by rw [e2]; exact y1.sI (Or.inr ⟨rfl, by omega, by omega⟩) _
  have p2 : gI N2 132 19 = nI (s.1 + 3) := by rw [e2, gI_ne (Or.inl (by decide))]; exact p1
  have r0' : gI N2 146 (3 * n + 0) = nI a0 := by rw [e2, gI_ne (Or.inr (by omega)), x1.i (by unfold dF; omega)]; exact r0
  have r1' : gI N2 146 (3 * n + 1) = nI a1 := by rw [e2]; exact gI_same _ _ _ _
  rw [← e2]
  clear e2 hin e r0
  clear hcall p1 v1 hM1 y1 x1 hc0 hk0 hT0 hM0 p0 x0
  have x0 := x2
  have p0 := p2
  have r0 := r0'
  have r1 := r1'
  clear x2 p2 r0' r1'
  generalize N2 = N0 at *
  have hM0 := x0.ok hM
  have hT0 := (x0.mo (fun k j z => dI_A (dS_I (by decide) z))).txt h
  have hk0 : gI N0 132 23 = nI s.2.1.length := by rw [x0.i (by unfold dS; omega)]; exact c2
  have hc0 : gI N0 132 25 = nI n := by rw [x0.i (by unfold dS; omega)]; exact c4
  rcases fgn_cs (l := l) (p := s.1 + 3) (lo := 0) (n := 10) (by decide) (by omega) with ⟨e, _⟩ | ⟨a2, e, _, _, ha2, _⟩
  · rw [e]
    obtain ⟨N1, hcall, x1, p1⟩ := m_fgN d hM0 ht hT0 (by omega) p0 (lo := 0) (n := 10) (by decide) (by omega) (x := 0) (y := 9) (by decide) (by decide) e
    refine st_ild rfl rfl ?_
    refine st_k rfl ?_
    refine st_b2 rfl (fun zq => absurd zq ((by decide))) (fun _ => ?_)
    refine st_ald rfl rfl ?_
    refine st_ild rfl rfl ?_
    refine st_k rfl ?_
    refine st_ild rfl rfl ?_
    refine st_k rfl ?_
    refine st_b2 rfl (fun _ => ?_) (fun zq => absurd ((by decide)) zq)
    refine st_k rfl ?_
    refine st_cav (As := [_, _, _]) rfl rfl rfl (by first | exact tT hM0 rfl | assumption | exact rw_T hM0 (by assumption) | exact rw_A hM0 (by assumption)) (Nat.le_of_ble_eq_true rfl) (hcall) ?_
    refine st_b1 rfl (fun zq => absurd zq ((fun z => z rfl))) (fun _ => ?_)
    refine st_k rfl ?_
    -- at 54: op_zret
    exact st_zret rfl (by decide) ⟨(x0.mo (fun k j z => dS_I (by decide) z)).tr (x1.mo (fun k j z => dS_I (c := 144) (i := 0) (by decide) (dF_S z))), rfl, p1⟩
  rw [e]
  obtain ⟨N1, hcall, x1, p1, v1⟩ := m_fgS d hM0 ht hT0 (by omega) p0 (lo := 0) (n := 10) (by decide) (by omega) (x := 0) (y := 9) (by decide) (by decide) e
  have y1 := x0.tr (x1.mo (fun k j z => dF_S z))
  have hM1 := y1.ok hM
  refine st_ild rfl rfl ?_
  refine st_k rfl ?_
  refine st_b2 rfl (fun zq => absurd zq ((by decide))) (fun _ => ?_)
  refine st_ald rfl rfl ?_
  refine st_ild rfl rfl ?_
  refine st_k rfl ?_
  refine st_ild rfl rfl ?_
  refine st_k rfl ?_
  refine st_b2 rfl (fun _ => ?_) (fun zq => absurd ((by decide)) zq)
  refine st_k rfl ?_
  refine st_cav (As := [_, _, _]) rfl rfl rfl (by first | exact tT hM0 rfl | assumption | exact rw_T hM0 (by assumption) | exact rw_A hM0 (by assumption)) (Nat.le_of_ble_eq_true rfl) (hcall) ?_
  refine st_b1 rfl (fun _ => ?_) (fun zq => absurd ((by decide)) zq)
  -- at 55: stop
  refine st_ald rfl rfl ?_
  refine st_gR' rfl (by first | exact tT hM1 rfl | assumption | exact rw_T hM1 (by assumption) | exact rw_A hM1 (by assumption)) (by first | exact rR hM1 rfl rfl | assumption | exact rw_R hM1 (by assumption)) ?_
  refine st_k rfl ?_
  refine st_ald rfl rfl ?_
  refine st_gI rfl (by first | exact tT hM1 rfl | assumption | exact rw_T hM1 (by assumption) | exact rw_A hM1 (by assumption)) ?_
  -- at 64: stop
  refine wp_e (y := nI n) (by rw [x1.i (by unfold dF; omega)]; exact hc0) ?_
  refine st_ib rfl ?_
  -- at 65: stop
  refine wp_e (y := nI (3 * n)) (by show nI 3 * nI _ = _; rw [pk_mul]) ?_
  refine st_ild rfl rfl ?_
  refine st_ib rfl ?_
  -- at 67: stop
  refine wp_e (y := nI (3 * n + 2)) (by show nI _ + nI 2 = _; rw [nI_add]) ?_
  have hin : vp_in (nI (3 * n + 2)) 18 := vp_in_nI (by omega) (by decide)
  refine st_ald rfl rfl ?_
  refine st_gI rfl (by first | exact tT hM1 rfl | assumption | exact rw_T hM1 (by assumption) | exact rw_A hM1 (by assumption)) ?_
  -- at 71: stop
  refine wp_e v1 ?_
  refine st_iast rfl (by first | exact tT hM1 rfl | assumption | exact rw_T hM1 (by assumption) | exact rw_A hM1 (by assumption)) (by first | decide | assumption | exact vp_in_nI (by omega) (by decide)) ?_
  refine st_inc rfl rfl ?_
  refine st_go rfl ?_
  -- at 23: stop
  rw [nI_clamp (by omega), show (2 : Int32) + 1 = 3 by decide]
  obtain ⟨N2, e2⟩ : ∃ N2, N2 = sI N1 146 (3 * n + 2) (nI a2) := ⟨_, rfl⟩
  have x2 : Mx (dS 146 (3 * n)) M N2 := by rw [e2]; exact y1.sI (Or.inr ⟨rfl, by omega, by omega⟩) _
  have p2 : gI N2 132 19 = nI (s.1 + 4) := by rw [e2, gI_ne (Or.inl (by decide))]; exact p1
  have r0' : gI N2 146 (3 * n + 0) = nI a0 := by rw [e2, gI_ne (Or.inr (by omega)), x1.i (by unfold dF; omega)]; exact r0
  have r1' : gI N2 146 (3 * n + 1) = nI a1 := by rw [e2, gI_ne (Or.inr (by omega)), x1.i (by unfold dF; omega)]; exact r1
  have r2' : gI N2 146 (3 * n + 2) = nI a2 := by rw [e2]; exact gI_same _ _ _ _
  rw [← e2]
  clear e2 hin e r0 r1
  clear hcall p1 v1 hM1 y1 x1 hc0 hk0 hT0 hM0 p0 x0
  have x0 := x2
  have p0 := p2
  have r0 := r0'
  have r1 := r1'
  have r2 := r2'
  clear x2 p2 r0' r1' r2'
  generalize N2 = N0 at *
  have hM0 := x0.ok hM
  have hc0 : gI N0 132 25 = nI n := by rw [x0.i (by unfold dS; omega)]; exact c4
  refine st_ild rfl rfl ?_
  refine st_k rfl ?_
  refine st_b2 rfl (fun _ => ?_) (fun zq => absurd ((by decide)) zq)
  refine st_ald rfl rfl ?_
  refine st_dup rfl rfl ?_
  refine st_gI rfl (by first | exact tT hM0 rfl | assumption | exact rw_T hM0 (by assumption) | exact rw_A hM0 (by assumption)) ?_
  -- at 83: stop
  refine wp_e hc0 ?_
  refine st_k rfl ?_
  refine st_ib rfl ?_
  refine st_pI rfl (by first | exact tT hM0 rfl | assumption | exact rw_T hM0 (by assumption) | exact rw_A hM0 (by assumption)) ?_
  refine st_k rfl ?_
  -- at 89: op_zret
  rw [nI_1]
  subst hn
  exact st_zret rfl (by decide) ⟨(x0.mo (fun k j z => dS_I (by decide) z)).sI (Or.inl (by decide)) _, rfl, hc.pa x0 p0 r0 r1 r2⟩
end PRH

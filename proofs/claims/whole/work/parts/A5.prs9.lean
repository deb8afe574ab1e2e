/-! THE REFERENCE reads a craft's text: the length, the whole -/
def dL (k j : Nat) : Prop := k = 132 ∧ 19 ≤ j ∧ j ≤ 22
theorem dL_A {k j : Nat} (h : dL k j) : dA k j := by unfold dL at h; unfold dA; omega
theorem dF_L {k j : Nat} (h : dF k j) : dL k j := by unfold dF at h; unfold dL; omega
def rlF (l : List Int32) (p : Nat) : Nat ⊕ (Nat × Nat) := if l.getD p 0 ≠ 114 then .inl p else match twF l (p + 1) with
  | .inl q => .inl q
  | .inr L => match twF l (p + 3) with
    | .inl q => .inl q
    | .inr G => if L < G then .inl (p + 3) else .inr (L, G)
section PRI
variable {M : pm_M} {t : Nat} {l : List Int32} {s : Pn}
theorem rl_s (d : Nat) (hM : pm_ok M) (ht : t < 4) (h : MTxt M t (some l)) {Q : Option Value → pm_M → Prop} {N0 : pm_M} {v k p a : Nat} (hk : k < 4) (x0 : Mx dL M N0) (p0 : gI N0 132 19 = nI p) (hp : p ≤ 90) (e : fgn l p 0 10 = some a)
    (K : ∀ N2, Mx dL M N2 → gI N2 132 19 = nI (p + 1) → pm_WP (pm_call (d + 2)) tb_175 Q 30 [some (.ref 132), some (.int (nI t)), some (.int (nI (10 * v + a))), some (.int (nI (k + 1)))] [] N2) :
    pm_WP (pm_call (d + 2)) tb_175 Q 30 [some (.ref 132), some (.int (nI t)), some (.int (nI v)), some (.int (nI k))] [] N0 := by
  have hM0 := x0.ok hM
  have hT0 := (x0.mo (fun k j z => dL_A z)).txt h
  obtain ⟨N1, hcall, x1, p1, v1⟩ := m_fgS d hM0 ht hT0 hp p0 (lo := 0) (n := 10) (by decide) (by decide) (x := 0) (y := 9) (by decide) (by decide) e
  have y1 := x0.tr (x1.mo (fun k j z => dF_L z))
  have hM1 := y1.ok hM
  refine st_ild rfl rfl ?_
  refine st_k rfl ?_
  refine st_b2 rfl (fun zq => absurd zq (nI_ge (b := 4) hk (by decide))) (fun _ => ?_)
  refine st_ald rfl rfl ?_
  refine st_ild rfl rfl ?_
  refine st_k rfl ?_
  refine st_k rfl ?_
  refine st_cav (As := [_, _, _]) rfl rfl rfl (by first | exact tT hM0 rfl | assumption | exact rw_T hM0 (by assumption) | exact rw_A hM0 (by assumption)) (Nat.le_of_ble_eq_true rfl) (hcall) ?_
  refine st_b1 rfl (fun _ => ?_) (fun zq => absurd ((by decide)) zq)
  -- at 48: stop
  refine st_k rfl ?_
  refine st_ild rfl rfl ?_
  refine st_ib rfl ?_
  refine st_ald rfl rfl ?_
  refine st_gI rfl (by first | exact tT hM1 rfl | assumption | exact rw_T hM1 (by assumption) | exact rw_A hM1 (by assumption)) ?_
  -- at 56: stop
  refine wp_e v1 ?_
  refine st_ib rfl ?_
  refine st_ist rfl ?_
  refine st_inc rfl rfl ?_
  refine st_go rfl ?_
  -- at 30: stop
  rw [show (10 : Int32) * nI v + nI a = nI (10 * v + a) by show nI 10 * nI v + nI a = _; rw [pk_mul, nI_add], show nI k + 1 = nI (k + 1) from nI_1 k]
  exact K N1 y1 p1
theorem rl_n (d : Nat) (hM : pm_ok M) (ht : t < 4) (h : MTxt M t (some l)) {Q : Option Value → pm_M → Prop} {N0 : pm_M} {v k p : Nat} (hk : k < 4) (x0 : Mx dL M N0) (p0 : gI N0 132 19 = nI p) (hp : p ≤ 90) (e : fgn l p 0 10 = none)
    (K : ∀ N2, Mx dL M N2 → gI N2 132 19 = nI p → Q (some (.int 0)) N2) :
    pm_WP (pm_call (d + 2)) tb_175 Q 30 [some (.ref 132), some (.int (nI t)), some (.int (nI v)), some (.int (nI k))] [] N0 := by
  have hM0 := x0.ok hM
  have hT0 := (x0.mo (fun k j z => dL_A z)).txt h
  obtain ⟨N1, hcall, x1, p1⟩ := m_fgN d hM0 ht hT0 hp p0 (lo := 0) (n := 10) (by decide) (by decide) (x := 0) (y := 9) (by decide) (by decide) e
  have y1 := x0.tr (x1.mo (fun k j z => dF_L z))
  refine st_ild rfl rfl ?_
  refine st_k rfl ?_
  refine st_b2 rfl (fun zq => absurd zq (nI_ge (b := 4) hk (by decide))) (fun _ => ?_)
  refine st_ald rfl rfl ?_
  refine st_ild rfl rfl ?_
  refine st_k rfl ?_
  refine st_k rfl ?_
  refine st_cav (As := [_, _, _]) rfl rfl rfl (by first | exact tT hM0 rfl | assumption | exact rw_T hM0 (by assumption) | exact rw_A hM0 (by assumption)) (Nat.le_of_ble_eq_true rfl) (hcall) ?_
  refine st_b1 rfl (fun zq => absurd zq ((fun z => z rfl))) (fun _ => ?_)
  refine st_k rfl ?_
  -- at 47: op_zret
  exact st_zret rfl (by decide) (K N1 y1 p1)
theorem m_readsLength (d : Nat) (hM : pm_ok M) (ht : t < 4) (h : MTxt M t (some l)) {p : Nat} (hp : p < l.length) (h19 : gI M 132 19 = nI p) :
    ∃ r M', pm_call (d + 3) 175 [.ref 132, .int (nI t)] M r M' ∧ Mx dL M M' ∧ (match rlF l p with
      | .inl q => r = some (.int 0) ∧ gI M' 132 19 = nI q
      | .inr x => r = some (.int 1) ∧ gI M' 132 19 = nI (p + 5) ∧ gI M' 132 21 = nI x.1 ∧ gI M' 132 22 = nI x.2 ∧ x.1 ≤ 99 ∧ p + 5 ≤ l.length) := by
  refine eq_175 (Nat.le_of_ble_eq_true rfl) ?_
  have hl := h.2.1
  refine st_ald rfl rfl ?_
  refine st_ild rfl rfl ?_
  refine st_ald rfl rfl ?_
  refine st_gI rfl (by first | exact tT hM rfl | assumption | exact rw_T hM (by assumption) | exact rw_A hM (by assumption)) ?_
  -- at 6: stop
  refine wp_e h19 ?_
  refine st_cav (As := [_, _]) rfl rfl rfl (by first | exact tT hM rfl | assumption | exact rw_T hM (by assumption) | exact rw_A hM (by assumption)) (Nat.le_of_ble_eq_true rfl) (m_byteAt (d + 1) hM ht h (by omega)) ?_
  -- at 9: stop
  unfold rlF
  by_cases g : l.getD p 0 = 114
  · rw [if_neg (fun z => z g)]
    refine st_k rfl ?_
    refine st_b2 rfl (fun _ => ?_) (fun zq => absurd (g) zq)
    refine st_ald rfl rfl ?_
    refine st_dup rfl rfl ?_
    refine st_gI rfl (by first | exact tT hM rfl | assumption | exact rw_T hM (by assumption) | exact rw_A hM (by assumption)) ?_
    -- at 21: stop
    refine wp_e h19 ?_
    refine st_k rfl ?_
    refine st_ib rfl ?_
    refine st_pI rfl (by first | exact tT hM rfl | assumption | exact rw_T hM (by assumption) | exact rw_A hM (by assumption)) ?_
    -- at 26: stop
    rw [nI_1]
    refine st_k rfl ?_
    refine st_ist rfl ?_
    refine st_k rfl ?_
    refine st_ist rfl ?_
    -- at 30: stop
    have x0 : Mx dL M (sI M 132 19 (nI (p + 1))) := (Mx.rf M).sI ⟨rfl, by decide, by decide⟩ _
    rcases twF_cs l (p + 1) with ⟨e1, et⟩ | ⟨a, e1, e2, h0, et⟩ | ⟨a, b, e1, e2, ha, hb, h0, et⟩
    · rw [et]
      exact rl_n d hM ht h (v := 0) (k := 0) (by decide) x0 (gI_same _ _ _ _) (by omega) e1 (fun N x y => ⟨x, rfl, y⟩)
    · rw [et]
      exact rl_s d hM ht h (v := 0) (k := 0) (by decide) x0 (gI_same _ _ _ _) (by omega) e1 (fun N1 x1 p1 => rl_n d hM ht h (by decide) x1 p1 (by omega) e2 (fun N x y => ⟨x, rfl, y⟩))
    · rw [et]
      dsimp only
      refine rl_s d hM ht h (v := 0) (k := 0) (by decide) x0 (gI_same _ _ _ _) (by omega) e1 (fun N1 x1 p1 => rl_s d hM ht h (by decide) x1 p1 (by omega) e2 (fun N2 x2 p2 => ?_))
      have p2 : gI N2 132 19 = nI (p + 3) := p2
      rcases twF_cs l (p + 3) with ⟨e3, et⟩ | ⟨c, e3, e4, h0, et⟩ | ⟨c, e, e3, e4, hc, he, h0, et⟩
      · rw [et]
        exact rl_n d hM ht h (by decide) x2 p2 (by omega) e3 (fun N x y => ⟨x, rfl, y⟩)
      · rw [et]
        exact rl_s d hM ht h (by decide) x2 p2 (by omega) e3 (fun N1 x1 p1 => rl_n d hM ht h (by decide) x1 p1 (by omega) e4 (fun N x y => ⟨x, rfl, y⟩))
      · rw [et]
        dsimp only
        refine rl_s d hM ht h (by decide) x2 p2 (by omega) e3 (fun N1 x1 p1 => rl_s d hM ht h (by decide) x1 p1 (by omega) e4 (fun N3 x3 p3 => ?_))
        have p3 : gI N3 132 19 = nI (p + 5) := p3
        have hM3 := x3.ok hM
        obtain ⟨V, hV⟩ : ∃ V, V = 10 * (10 * (10 * (10 * 0 + a) + b) + c) + e := ⟨_, rfl⟩
        rw [← hV]
        have v1 : V / 100 = 10 * a + b := by omega
        have v2 : V % 100 = 10 * c + e := by omega
        have r1 : nI V - nI V / 100 * 100 = nI (10 * c + e) := by rw [← v2]; exact pk_rem (d := 100) (by omega) (by decide) (by decide)
        have r2 : nI V / 100 = nI (10 * a + b) := by rw [← v1]; exact pk_div (d := 100) (by omega) (by decide) (by decide)
        refine st_ild rfl rfl ?_
        refine st_k rfl ?_
        refine st_b2 rfl (fun _ => ?_) (fun zq => absurd ((by decide)) zq)
        refine st_ild rfl rfl ?_
        refine st_k rfl ?_
        refine st_idv rfl (by first | decide | assumption | exact vp_in_nI (by omega) (by decide)) ?_
        -- at 68: stop
        refine wp_e r1 ?_
        refine st_ild rfl rfl ?_
        refine st_k rfl ?_
        refine st_idv rfl (by first | decide | assumption | exact vp_in_nI (by omega) (by decide)) ?_
        -- at 72: stop
        refine wp_e r2 ?_
        by_cases gl : 10 * a + b < 10 * c + e
        · rw [if_pos gl]
          refine st_b2 rfl (fun zq => absurd zq (nI_ge gl (by omega))) (fun _ => ?_)
          refine st_ald rfl rfl ?_
          refine st_dup rfl rfl ?_
          refine st_gI rfl (by first | exact tT hM3 rfl | assumption | exact rw_T hM3 (by assumption) | exact rw_A hM3 (by assumption)) ?_
          -- at 80: stop
          refine wp_e p3 ?_
          refine st_k rfl ?_
          refine st_ib rfl ?_
          refine st_pI rfl (by first | exact tT hM3 rfl | assumption | exact rw_T hM3 (by assumption) | exact rw_A hM3 (by assumption)) ?_
          refine st_k rfl ?_
          -- at 86: op_zret
          rw [show nI (p + 5) - 2 = nI (p + 3) from pk_sub (a := p + 5) (b := 2) (by omega)]
          exact st_zret rfl (by decide) ⟨x3.sI ⟨rfl, by decide, by decide⟩ _, rfl, gI_same _ _ _ _⟩
        · rw [if_neg gl]
          refine st_b2 rfl (fun _ => ?_) (fun zq => absurd (nI_le (by omega) (by omega)) zq)
          refine st_ald rfl rfl ?_
          refine st_ild rfl rfl ?_
          refine st_k rfl ?_
          refine st_idv rfl (by first | decide | assumption | exact vp_in_nI (by omega) (by decide)) ?_
          -- at 92: stop
          refine wp_e r2 ?_
          refine st_pI rfl (by first | exact tT hM3 rfl | assumption | exact rw_T hM3 (by assumption) | exact rw_A hM3 (by assumption)) ?_
          -- at 95: stop
          have hM4 : pm_ok (sI N3 132 21 (nI (10 * a + b))) := hM3
          refine st_ald rfl rfl ?_
          refine st_ild rfl rfl ?_
          refine st_k rfl ?_
          refine st_idv rfl (by first | decide | assumption | exact vp_in_nI (by omega) (by decide)) ?_
          -- at 100: stop
          refine wp_e r1 ?_
          refine st_pI rfl (by first | exact tT hM4 rfl | assumption | exact rw_T hM4 (by assumption) | exact rw_A hM4 (by assumption)) ?_
          refine st_k rfl ?_
          -- at 104: op_zret
          exact st_zret rfl (by decide) ⟨(x3.sI ⟨rfl, by decide, by decide⟩ _).sI ⟨rfl, by decide, by decide⟩ _, rfl, by rw [gI_ne (Or.inr (by decide)), gI_ne (Or.inr (by decide))]; exact p3, by rw [gI_ne (Or.inr (by decide))]; exact gI_same _ _ _ _, gI_same _ _ _ _, by show 10 * a + b ≤ 99; omega, by omega⟩
  · rw [if_pos g]
    refine st_k rfl ?_
    refine st_b2 rfl (fun zq => absurd zq (g)) (fun _ => ?_)
    refine st_k rfl ?_
    -- at 15: op_zret
    exact st_zret rfl (by decide) ⟨Mx.rf M, rfl, h19⟩
theorem m_faultOf (d : Nat) (hM : pm_ok M) (ht : t < 4) (h : MTxt M t (some l)) :
    ∃ r M', pm_call (d + 4) 179 [.ref 132, .int (nI t)] M r M' ∧ Mx dA M M' ∧ (match flt l with
      | .inl q => r = some (.int (nI q))
      | .inr x => r = some (.int (-9)) ∧ gI M' 132 21 = nI x.1 ∧ gI M' 132 22 = nI x.2.1 ∧ MP x.2.2 M') := by
  refine eq_179 (Nat.le_of_ble_eq_true rfl) ?_
  have hl := h.2.1
  have hin : vp_in (nI t) 4 := vp_in_nI ht (by decide)
  have htc : (nI t).toNatClampNeg = t := nI_clamp (by omega)
  generalize hF : flt l = F
  -- the items
  have key : ∀ f (s : Pn) (L G : Nat) (y2 : Option Value) (M1 : pm_M), pwf s → MP s M1 → Mx dA M M1 → gI M1 132 21 = nI L → L ≤ 99 → gI M1 132 22 = nI G → s.1 ≤ l.length → l.length - s.1 ≤ f → (match itT l s with | .inl q => F = .inl q | .inr s' => F = .inr (L, G, s')) →
      pm_WP (pm_call (d + 3)) tb_179 (fun r M' => Mx dA M M' ∧ (match (generalizing := false) F with
      | .inl q => r = some (.int (nI q))
      | .inr x => r = some (.int (-9)) ∧ gI M' 132 21 = nI x.1 ∧ gI M' 132 22 = nI x.2.1 ∧ MP x.2.2 M')) 25 [some (.ref 132), some (.int (nI t)), y2] [] M1 := by
    intro f
    induction f using Nat.strongRecOn with
    | ind f ih =>
      intro s L G y2 M1 hw hc x1 hL hL9 hG hs hf hT
      have hM1 := x1.ok hM
      have hT1 := x1.txt h
      have hts : gI M1 137 (nI t).toNatClampNeg = nI l.length := by rw [htc]; exact hT1.1
      refine st_ald rfl rfl ?_
      refine st_gI rfl (by first | exact tT hM1 rfl | assumption | exact rw_T hM1 (by assumption) | exact rw_A hM1 (by assumption)) ?_
      -- at 29: stop
      refine wp_e hc.1 ?_
      refine st_ald rfl rfl ?_
      refine st_gR' rfl (by first | exact tT hM1 rfl | assumption | exact rw_T hM1 (by assumption) | exact rw_A hM1 (by assumption)) (by first | exact rR hM1 rfl rfl | assumption | exact rw_R hM1 (by assumption)) ?_
      refine st_ild rfl rfl ?_
      refine st_iald rfl (by first | exact tT hM1 rfl | assumption | exact rw_T hM1 (by assumption) | exact rw_A hM1 (by assumption)) (by first | decide | assumption | exact vp_in_nI (by omega) (by decide)) ?_
      -- at 35: stop
      refine wp_e hts ?_
      by_cases g : s.1 < l.length
      · refine st_b2 rfl (fun zq => absurd zq (nI_ge g (by omega))) (fun _ => ?_)
        refine st_ald rfl rfl ?_
        refine st_ild rfl rfl ?_
        refine st_ald rfl rfl ?_
        refine st_gI rfl (by first | exact tT hM1 rfl | assumption | exact rw_T hM1 (by assumption) | exact rw_A hM1 (by assumption)) ?_
        -- at 44: stop
        refine wp_e hc.1 ?_
        refine st_cav (As := [_, _]) rfl rfl rfl (by first | exact tT hM1 rfl | assumption | exact rw_T hM1 (by assumption) | exact rw_A hM1 (by assumption)) (Nat.le_of_ble_eq_true rfl) (m_byteAt (d + 2) hM1 ht hT1 (by omega)) ?_
        -- at 47: stop
        by_cases g2 : l.getD s.1 0 = 32
        · refine st_ist rfl ?_
          refine st_ild rfl rfl ?_
          refine st_k rfl ?_
          refine st_b2 rfl (fun zq => absurd zq ((fun z => z g2))) (fun _ => ?_)
          refine st_ald rfl rfl ?_
          refine st_dup rfl rfl ?_
          refine st_gI rfl (by first | exact tT hM1 rfl | assumption | exact rw_T hM1 (by assumption) | exact rw_A hM1 (by assumption)) ?_
          -- at 59: stop
          refine wp_e hc.1 ?_
          refine st_k rfl ?_
          refine st_ib rfl ?_
          refine st_pI rfl (by first | exact tT hM1 rfl | assumption | exact rw_T hM1 (by assumption) | exact rw_A hM1 (by assumption)) ?_
          refine st_go rfl ?_
          refine st_go rfl ?_
          -- at 25: stop
          rw [nI_1]
          rw [itT_bl g g2] at hT
          exact ih (l.length - (s.1 + 1)) (by omega) (s.1 + 1, s.2) L G _ _ hw (hc.at (s.1 + 1)) (x1.sI (Or.inl ⟨rfl, by decide, by decide⟩) _) (by rw [gI_ne (Or.inr (by decide))]; exact hL) hL9 (by rw [gI_ne (Or.inr (by decide))]; exact hG) g (Nat.le_refl _) hT
        · have fin : ∀ (M3 : pm_M) (q : Nat), Mx dI M1 M3 → gI M3 132 19 = nI q → itn l s = .inl q → ∀ y2, pm_WP (pm_call (d + 3)) tb_179 (fun r M' => Mx dA M M' ∧ (match (generalizing := false) F with
              | .inl q => r = some (.int (nI q))
              | .inr x => r = some (.int (-9)) ∧ gI M' 132 21 = nI x.1 ∧ gI M' 132 22 = nI x.2.1 ∧ MP x.2.2 M')) 127 [some (.ref 132), some (.int (nI t)), y2] [] M3 := by
            intro M3 q x3 k6 e y2
            rw [itT_l g g2 e] at hT
            have hT : F = .inl q := hT
            rw [hT]
            have hM3 := x3.ok hM1
            refine st_ald rfl rfl ?_
            refine st_gI rfl (by first | exact tT hM3 rfl | assumption | exact rw_T hM3 (by assumption) | exact rw_A hM3 (by assumption)) ?_
            -- at 131: stop
            refine wp_e k6 ?_
            exact st_iret rfl ⟨x1.tr (x3.mo (fun k j z => dI_A z)), rfl⟩
          have nxt : ∀ (M3 : pm_M) (s' : Pn), Mx dI M1 M3 → MP s' M3 → itn l s = .inr s' → ∀ y2, pm_WP (pm_call (d + 3)) tb_179 (fun r M' => Mx dA M M' ∧ (match (generalizing := false) F with
              | .inl q => r = some (.int (nI q))
              | .inr x => r = some (.int (-9)) ∧ gI M' 132 21 = nI x.1 ∧ gI M' 132 22 = nI x.2.1 ∧ MP x.2.2 M')) 25 [some (.ref 132), some (.int (nI t)), y2] [] M3 := by
            intro M3 s' x3 k6 e y2
            rw [itT_r hw g g2 e] at hT
            obtain ⟨w1, w2, w3⟩ := itn_ok hw e
            exact ih (l.length - s'.1) (by omega) s' L G y2 M3 w1 k6 (x1.tr (x3.mo (fun k j z => dI_A z))) (by rw [x3.i (by unfold dI; omega)]; exact hL) hL9 (by rw [x3.i (by unfold dI; omega)]; exact hG) w3 (Nat.le_refl _) hT
          refine st_ist rfl ?_
          refine st_ild rfl rfl ?_
          refine st_k rfl ?_
          refine st_b2 rfl (fun _ => ?_) (fun zq => absurd (g2) zq)
          refine st_ald rfl rfl ?_
          refine st_gI rfl (by first | exact tT hM1 rfl | assumption | exact rw_T hM1 (by assumption) | exact rw_A hM1 (by assumption)) ?_
          -- at 71: stop
          refine wp_e hL ?_
          by_cases b1 : l.getD s.1 0 = 120
          · obtain ⟨r, M3, hcall, x3, hm⟩ := m_readsLaw d hM1 ht hT1 hw hc g
            have ei : itn l s = (if s.2.2.1.length = 6 ∨ 0 < s.2.2.2.length then .inl s.1 else laF l s) := by unfold itn; rw [if_pos b1]
            rw [← ei] at hm
            cases e : itn l s with
            | inl q =>
              rw [e] at hm
              obtain ⟨hr, k6⟩ := hm
              subst hr
              refine st_b1 rfl (fun _ => ?_) (fun zq => absurd (nI_pos' (by omega)) zq)
              refine st_ild rfl rfl ?_
              refine st_k rfl ?_
              refine st_b2 rfl (fun zq => absurd zq ((fun z => z b1))) (fun _ => ?_)
              refine st_ald rfl rfl ?_
              refine st_ild rfl rfl ?_
              refine st_cav (As := [_]) rfl rfl rfl (by first | exact tT hM1 rfl | assumption | exact rw_T hM1 (by assumption) | exact rw_A hM1 (by assumption)) (Nat.le_of_ble_eq_true rfl) (hcall) ?_
              refine st_b1 rfl (fun _ => ?_) (fun zq => absurd (rfl) zq)
              -- at 127: stop
              exact fin M3 q x3 k6 e _
            | inr s' =>
              rw [e] at hm
              obtain ⟨hr, k6⟩ := hm
              subst hr
              refine st_b1 rfl (fun _ => ?_) (fun zq => absurd (nI_pos' (by omega)) zq)
              refine st_ild rfl rfl ?_
              refine st_k rfl ?_
              refine st_b2 rfl (fun zq => absurd zq ((fun z => z b1))) (fun _ => ?_)
              refine st_ald rfl rfl ?_
              refine st_ild rfl rfl ?_
              refine st_cav (As := [_]) rfl rfl rfl (by first | exact tT hM1 rfl | assumption | exact rw_T hM1 (by assumption) | exact rw_A hM1 (by assumption)) (Nat.le_of_ble_eq_true rfl) (hcall) ?_
              refine st_b1 rfl (fun zq => absurd zq ((by decide))) (fun _ => ?_)
              refine st_go rfl ?_
              refine st_go rfl ?_
              -- at 25: stop
              exact nxt M3 s' x3 k6 e _
          · by_cases b2 : l.getD s.1 0 = 121
            · obtain ⟨r, M3, hcall, x3, hm⟩ := m_readsPair d hM1 ht hT1 hw hc g
              have ei : itn l s = (if s.2.2.2.length = 6 then .inl s.1 else paF l s) := by unfold itn; rw [if_neg b1, if_pos b2]
              rw [← ei] at hm
              cases e : itn l s with
              | inl q =>
                rw [e] at hm
                obtain ⟨hr, k6⟩ := hm
                subst hr
                refine st_b1 rfl (fun _ => ?_) (fun zq => absurd (nI_pos' (by omega)) zq)
                refine st_ild rfl rfl ?_
                refine st_k rfl ?_
                refine st_b2 rfl (fun _ => ?_) (fun zq => absurd (b1) zq)
                refine st_ild rfl rfl ?_
                refine st_k rfl ?_
                refine st_b2 rfl (fun zq => absurd zq ((fun z => z b2))) (fun _ => ?_)
                refine st_ald rfl rfl ?_
                refine st_ild rfl rfl ?_
                refine st_cav (As := [_]) rfl rfl rfl (by first | exact tT hM1 rfl | assumption | exact rw_T hM1 (by assumption) | exact rw_A hM1 (by assumption)) (Nat.le_of_ble_eq_true rfl) (hcall) ?_
                refine st_b1 rfl (fun _ => ?_) (fun zq => absurd (rfl) zq)
                -- at 127: stop
                exact fin M3 q x3 k6 e _
              | inr s' =>
                rw [e] at hm
                obtain ⟨hr, k6⟩ := hm
                subst hr
                refine st_b1 rfl (fun _ => ?_) (fun zq => absurd (nI_pos' (by omega)) zq)
                refine st_ild rfl rfl ?_
                refine st_k rfl ?_
                refine st_b2 rfl (fun _ => ?_) (fun zq => absurd (b1) zq)
                refine st_ild rfl rfl ?_
                refine st_k rfl ?_
                refine st_b2 rfl (fun zq => absurd zq ((fun z => z b2))) (fun _ => ?_)
                refine st_ald rfl rfl ?_
                refine st_ild rfl rfl ?_
                refine st_cav (As := [_]) rfl rfl rfl (by first | exact tT hM1 rfl | assumption | exact rw_T hM1 (by assumption) | exact rw_A hM1 (by assumption)) (Nat.le_of_ble_eq_true rfl) (hcall) ?_
                refine st_b1 rfl (fun zq => absurd zq ((by decide))) (fun _ => ?_)
                refine st_go rfl ?_
                refine st_go rfl ?_
                -- at 25: stop
                exact nxt M3 s' x3 k6 e _
            · obtain ⟨r, M3, hcall, x3, hm⟩ := m_readsKnot d hM1 ht hT1 hw hc g
              have hm : (match itn l s with
                | .inl q => r = some (.int 0) ∧ gI M3 132 19 = nI q
                | .inr s' => r = some (.int 1) ∧ MP s' M3) := by
                unfold itn
                rw [if_neg b1, if_neg b2]
                cases ek : kd0 (l.getD s.1 0) with
                | none => rw [ek] at hm; exact hm
                | some k => rw [ek] at hm; exact hm
              cases e : itn l s with
              | inl q =>
                rw [e] at hm
                obtain ⟨hr, k6⟩ := hm
                subst hr
                refine st_b1 rfl (fun _ => ?_) (fun zq => absurd (nI_pos' (by omega)) zq)
                refine st_ild rfl rfl ?_
                refine st_k rfl ?_
                refine st_b2 rfl (fun _ => ?_) (fun zq => absurd (b1) zq)
                refine st_ild rfl rfl ?_
                refine st_k rfl ?_
                refine st_b2 rfl (fun _ => ?_) (fun zq => absurd (b2) zq)
                refine st_ald rfl rfl ?_
                refine st_ild rfl rfl ?_
                refine st_cav (As := [_]) rfl rfl rfl (by first | exact tT hM1 rfl | assumption | exact rw_T hM1 (by assumption) | exact rw_A hM1 (by assumption)) (Nat.le_of_ble_eq_true rfl) (hcall) ?_
                refine st_b1 rfl (fun zq => absurd zq ((fun z => z rfl))) (fun _ => ?_)
                -- at 127: stop
                exact fin M3 q x3 k6 e _
              | inr s' =>
                rw [e] at hm
                obtain ⟨hr, k6⟩ := hm
                subst hr
                refine st_b1 rfl (fun _ => ?_) (fun zq => absurd (nI_pos' (by omega)) zq)
                refine st_ild rfl rfl ?_
                refine st_k rfl ?_
                refine st_b2 rfl (fun _ => ?_) (fun zq => absurd (b1) zq)
                refine st_ild rfl rfl ?_
                refine st_k rfl ?_
                refine st_b2 rfl (fun _ => ?_) (fun zq => absurd (b2) zq)
                refine st_ald rfl rfl ?_
                refine st_ild rfl rfl ?_
                refine st_cav (As := [_]) rfl rfl rfl (by first | exact tT hM1 rfl | assumption | exact rw_T hM1 (by assumption) | exact rw_A hM1 (by assumption)) (Nat.le_of_ble_eq_true rfl) (hcall) ?_
                refine st_b1 rfl (fun _ => ?_) (fun zq => absurd ((by decide)) zq)
                refine st_go rfl ?_
                -- at 25: stop
                exact nxt M3 s' x3 k6 e _
      · rw [itT_end (by omega)] at hT
        have hT : F = .inr (L, G, s) := hT
        rw [hT]
        refine st_b2 rfl (fun _ => ?_) (fun zq => absurd (nI_le (by omega) (by omega)) zq)
        refine st_ald rfl rfl ?_
        refine st_gI rfl (by first | exact tT hM1 rfl | assumption | exact rw_T hM1 (by assumption) | exact rw_A hM1 (by assumption)) ?_
        -- at 139: stop
        refine wp_e hL ?_
        refine st_b1 rfl (fun _ => ?_) (fun zq => absurd (nI_pos' (by omega)) zq)
        refine st_k rfl ?_
        -- at 153: op_iret
        exact st_iret rfl ⟨x1, rfl, hL, hG, hc⟩
  -- ahead of the length
  have key0 : ∀ f (p : Nat) (y2 : Option Value) (M1 : pm_M), MP (p, [], [], []) M1 → Mx dA M M1 → gI M1 132 21 = -1 → p ≤ l.length → p + f = 80 → flt1 l (skb l f p) = F →
      pm_WP (pm_call (d + 3)) tb_179 (fun r M' => Mx dA M M' ∧ (match (generalizing := false) F with
      | .inl q => r = some (.int (nI q))
      | .inr x => r = some (.int (-9)) ∧ gI M' 132 21 = nI x.1 ∧ gI M' 132 22 = nI x.2.1 ∧ MP x.2.2 M')) 25 [some (.ref 132), some (.int (nI t)), y2] [] M1 := by
    intro f
    induction f with
    | zero =>
      intro p y2 M1 hc x1 hL hp hf hT
      have hM1 := x1.ok hM
      have hT1 := x1.txt h
      have hts : gI M1 137 (nI t).toNatClampNeg = nI l.length := by rw [htc]; exact hT1.1
      have hT : F = .inl p := by
        rw [← hT]
        show flt1 l p = _
        unfold flt1
        rw [if_pos (Or.inl (by omega))]
      rw [hT]
      refine st_ald rfl rfl ?_
      refine st_gI rfl (by first | exact tT hM1 rfl | assumption | exact rw_T hM1 (by assumption) | exact rw_A hM1 (by assumption)) ?_
      -- at 29: stop
      refine wp_e hc.1 ?_
      refine st_ald rfl rfl ?_
      refine st_gR' rfl (by first | exact tT hM1 rfl | assumption | exact rw_T hM1 (by assumption) | exact rw_A hM1 (by assumption)) (by first | exact rR hM1 rfl rfl | assumption | exact rw_R hM1 (by assumption)) ?_
      refine st_ild rfl rfl ?_
      refine st_iald rfl (by first | exact tT hM1 rfl | assumption | exact rw_T hM1 (by assumption) | exact rw_A hM1 (by assumption)) (by first | decide | assumption | exact vp_in_nI (by omega) (by decide)) ?_
      -- at 35: stop
      refine wp_e hts ?_
      refine st_b2 rfl (fun _ => ?_) (fun zq => absurd (nI_le (by omega) (by omega)) zq)
      refine st_ald rfl rfl ?_
      refine st_gI rfl (by first | exact tT hM1 rfl | assumption | exact rw_T hM1 (by assumption) | exact rw_A hM1 (by assumption)) ?_
      -- at 139: stop
      refine wp_e hL ?_
      refine st_b1 rfl (fun zq => absurd zq ((by decide))) (fun _ => ?_)
      refine st_ald rfl rfl ?_
      refine st_gR' rfl (by first | exact tT hM1 rfl | assumption | exact rw_T hM1 (by assumption) | exact rw_A hM1 (by assumption)) (by first | exact rR hM1 rfl rfl | assumption | exact rw_R hM1 (by assumption)) ?_
      refine st_ild rfl rfl ?_
      refine st_iald rfl (by first | exact tT hM1 rfl | assumption | exact rw_T hM1 (by assumption) | exact rw_A hM1 (by assumption)) (by first | decide | assumption | exact vp_in_nI (by omega) (by decide)) ?_
      -- at 148: stop
      refine wp_e hts ?_
      refine st_go rfl ?_
      -- at 153: op_iret
      exact st_iret rfl ⟨x1, by rw [show l.length = p by omega]⟩
    | succ f ih =>
      intro p y2 M1 hc x1 hL hp hf hT
      have hM1 := x1.ok hM
      have hT1 := x1.txt h
      have hts : gI M1 137 (nI t).toNatClampNeg = nI l.length := by rw [htc]; exact hT1.1
      refine st_ald rfl rfl ?_
      refine st_gI rfl (by first | exact tT hM1 rfl | assumption | exact rw_T hM1 (by assumption) | exact rw_A hM1 (by assumption)) ?_
      -- at 29: stop
      refine wp_e hc.1 ?_
      refine st_ald rfl rfl ?_
      refine st_gR' rfl (by first | exact tT hM1 rfl | assumption | exact rw_T hM1 (by assumption) | exact rw_A hM1 (by assumption)) (by first | exact rR hM1 rfl rfl | assumption | exact rw_R hM1 (by assumption)) ?_
      refine st_ild rfl rfl ?_
      refine st_iald rfl (by first | exact tT hM1 rfl | assumption | exact rw_T hM1 (by assumption) | exact rw_A hM1 (by assumption)) (by first | decide | assumption | exact vp_in_nI (by omega) (by decide)) ?_
      -- at 35: stop
      refine wp_e hts ?_
      by_cases g : p < l.length
      · refine st_b2 rfl (fun zq => absurd zq (nI_ge g (by omega))) (fun _ => ?_)
        refine st_ald rfl rfl ?_
        refine st_ild rfl rfl ?_
        refine st_ald rfl rfl ?_
        refine st_gI rfl (by first | exact tT hM1 rfl | assumption | exact rw_T hM1 (by assumption) | exact rw_A hM1 (by assumption)) ?_
        -- at 44: stop
        refine wp_e hc.1 ?_
        refine st_cav (As := [_, _]) rfl rfl rfl (by first | exact tT hM1 rfl | assumption | exact rw_T hM1 (by assumption) | exact rw_A hM1 (by assumption)) (Nat.le_of_ble_eq_true rfl) (m_byteAt (d + 2) hM1 ht hT1 (by omega)) ?_
        -- at 47: stop
        by_cases g2 : l.getD p 0 = 32
        · have e' : skb l (f + 1) p = skb l f (p + 1) := by show (if _ then _ else _) = _; rw [if_pos ⟨g, g2⟩]
          rw [e'] at hT
          refine st_ist rfl ?_
          refine st_ild rfl rfl ?_
          refine st_k rfl ?_
          refine st_b2 rfl (fun zq => absurd zq ((fun z => z g2))) (fun _ => ?_)
          refine st_ald rfl rfl ?_
          refine st_dup rfl rfl ?_
          refine st_gI rfl (by first | exact tT hM1 rfl | assumption | exact rw_T hM1 (by assumption) | exact rw_A hM1 (by assumption)) ?_
          -- at 59: stop
          refine wp_e hc.1 ?_
          refine st_k rfl ?_
          refine st_ib rfl ?_
          refine st_pI rfl (by first | exact tT hM1 rfl | assumption | exact rw_T hM1 (by assumption) | exact rw_A hM1 (by assumption)) ?_
          refine st_go rfl ?_
          refine st_go rfl ?_
          -- at 25: stop
          rw [nI_1]
          exact ih (p + 1) _ _ (hc.at (p + 1)) (x1.sI (Or.inl ⟨rfl, by decide, by decide⟩) _) (by rw [gI_ne (Or.inr (by decide))]; exact hL) g (by omega) hT
        · have e' : skb l (f + 1) p = p := by show (if _ then _ else _) = _; rw [if_neg (fun z => g2 z.2)]
          rw [e'] at hT
          obtain ⟨r, M3, hcall, x3, hm⟩ := m_readsLength d hM1 ht hT1 g hc.1
          have ef : (match rlF l p with
            | .inl q => F = .inl q
            | .inr x => F = (match itT l (p + 5, [], [], []) with
              | .inl q => .inl q
              | .inr s => .inr (x.1, x.2, s))) := by
            rw [← hT]
            unfold flt1 rlF
            by_cases g3 : l.getD p 0 = 114
            · rw [if_neg (fun z => z g3), if_neg (fun z => z.elim (fun y => by omega) (fun y => y g3))]
              cases twF l (p + 1) with
              | inl q => rfl
              | inr L =>
                dsimp only
                cases twF l (p + 3) with
                | inl q => rfl
                | inr G =>
                  dsimp only
                  by_cases g4 : L < G
                  · rw [if_pos g4, if_pos g4]
                  · rw [if_neg g4, if_neg g4]
                    cases itT l (p + 5, [], [], []) <;> rfl
            · rw [if_pos g3, if_pos (Or.inr g3)]
          refine st_ist rfl ?_
          refine st_ild rfl rfl ?_
          refine st_k rfl ?_
          refine st_b2 rfl (fun _ => ?_) (fun zq => absurd (g2) zq)
          refine st_ald rfl rfl ?_
          refine st_gI rfl (by first | exact tT hM1 rfl | assumption | exact rw_T hM1 (by assumption) | exact rw_A hM1 (by assumption)) ?_
          -- at 71: stop
          refine wp_e hL ?_
          have y3 := x1.tr (x3.mo (fun k j z => dL_A z))
          have hM3 := y3.ok hM
          cases e : rlF l p with
          | inl q =>
            rw [e] at hm ef
            obtain ⟨hr, k6⟩ := hm
            subst hr
            have ef : F = .inl q := ef
            rw [ef]
            refine st_b1 rfl (fun zq => absurd zq ((by decide))) (fun _ => ?_)
            refine st_ald rfl rfl ?_
            refine st_ild rfl rfl ?_
            refine st_cav (As := [_]) rfl rfl rfl (by first | exact tT hM1 rfl | assumption | exact rw_T hM1 (by assumption) | exact rw_A hM1 (by assumption)) (Nat.le_of_ble_eq_true rfl) (hcall) ?_
            refine st_b1 rfl (fun _ => ?_) (fun zq => absurd (rfl) zq)
            -- at 127: stop
            refine st_ald rfl rfl ?_
            refine st_gI rfl (by first | exact tT hM3 rfl | assumption | exact rw_T hM3 (by assumption) | exact rw_A hM3 (by assumption)) ?_
            -- at 131: stop
            refine wp_e k6 ?_
            exact st_iret rfl ⟨y3, rfl⟩
          | inr x =>
            rw [e] at hm ef
            obtain ⟨hr, k6, k21, k22, k9, k5⟩ := hm
            subst hr
            refine st_b1 rfl (fun zq => absurd zq ((by decide))) (fun _ => ?_)
            refine st_ald rfl rfl ?_
            refine st_ild rfl rfl ?_
            refine st_cav (As := [_]) rfl rfl rfl (by first | exact tT hM1 rfl | assumption | exact rw_T hM1 (by assumption) | exact rw_A hM1 (by assumption)) (Nat.le_of_ble_eq_true rfl) (hcall) ?_
            refine st_b1 rfl (fun zq => absurd zq ((by decide))) (fun _ => ?_)
            refine st_go rfl ?_
            refine st_go rfl ?_
            -- at 25: stop
            obtain ⟨c1, c2, c3, c4, c5, c6, c7⟩ := hc
            refine key _ (p + 5, [], [], []) x.1 x.2 _ M3 (pwf0 _) ⟨k6, by rw [x3.i (by unfold dL; omega)]; exact c2, by rw [x3.i (by unfold dL; omega)]; exact c3, by rw [x3.i (by unfold dL; omega)]; exact c4, fun i x z => (by cases z), fun i x z => (by cases z), fun i x z => (by cases z)⟩ y3 k21 k9 k22 k5 (Nat.le_refl _) ?_
            cases e5 : itT l (p + 5, [], [], []) with
            | inl q => rw [e5] at ef; exact ef
            | inr s' => rw [e5] at ef; exact ef
      · have hT : F = .inl p := by
          rw [← hT]
          have e' : skb l (f + 1) p = p := by show (if _ then _ else _) = _; rw [if_neg (fun z => g z.1)]
          rw [e']
          unfold flt1
          rw [if_pos (Or.inl (by omega))]
        rw [hT]
        refine st_b2 rfl (fun _ => ?_) (fun zq => absurd (nI_le (by omega) (by omega)) zq)
        refine st_ald rfl rfl ?_
        refine st_gI rfl (by first | exact tT hM1 rfl | assumption | exact rw_T hM1 (by assumption) | exact rw_A hM1 (by assumption)) ?_
        -- at 139: stop
        refine wp_e hL ?_
        refine st_b1 rfl (fun zq => absurd zq ((by decide))) (fun _ => ?_)
        refine st_ald rfl rfl ?_
        refine st_gR' rfl (by first | exact tT hM1 rfl | assumption | exact rw_T hM1 (by assumption) | exact rw_A hM1 (by assumption)) (by first | exact rR hM1 rfl rfl | assumption | exact rw_R hM1 (by assumption)) ?_
        refine st_ild rfl rfl ?_
        refine st_iald rfl (by first | exact tT hM1 rfl | assumption | exact rw_T hM1 (by assumption) | exact rw_A hM1 (by assumption)) (by first | decide | assumption | exact vp_in_nI (by omega) (by decide)) ?_
        -- at 148: stop
        refine wp_e hts ?_
        refine st_go rfl ?_
        -- at 153: op_iret
        exact st_iret rfl ⟨x1, by rw [show l.length = p by omega]⟩
  have a1 : pm_ok (sI M 132 19 0) := hM
  have a2 : pm_ok (sI (sI M 132 19 0) 132 21 (-1)) := hM
  have a3 : pm_ok (sI (sI (sI M 132 19 0) 132 21 (-1)) 132 23 0) := hM
  have a4 : pm_ok (sI (sI (sI (sI M 132 19 0) 132 21 (-1)) 132 23 0) 132 24 0) := hM
  refine st_ald rfl rfl ?_
  refine st_k rfl ?_
  refine st_pI rfl (by first | exact tT hM rfl | assumption | exact rw_T hM (by assumption) | exact rw_A hM (by assumption)) ?_
  -- at 5: stop
  refine st_ald rfl rfl ?_
  refine st_k rfl ?_
  refine st_pI rfl (by first | exact tT a1 rfl | assumption | exact rw_T a1 (by assumption) | exact rw_A a1 (by assumption)) ?_
  -- at 10: stop
  refine st_ald rfl rfl ?_
  refine st_k rfl ?_
  refine st_pI rfl (by first | exact tT a2 rfl | assumption | exact rw_T a2 (by assumption) | exact rw_A a2 (by assumption)) ?_
  -- at 15: stop
  refine st_ald rfl rfl ?_
  refine st_k rfl ?_
  refine st_pI rfl (by first | exact tT a3 rfl | assumption | exact rw_T a3 (by assumption) | exact rw_A a3 (by assumption)) ?_
  -- at 20: stop
  refine st_ald rfl rfl ?_
  refine st_k rfl ?_
  refine st_pI rfl (by first | exact tT a4 rfl | assumption | exact rw_T a4 (by assumption) | exact rw_A a4 (by assumption)) ?_
  -- at 25: stop
  refine key0 80 0 _ _ ?_ ?_ ?_ (Nat.zero_le _) rfl hF
  · refine ⟨?_, ?_, ?_, ?_, fun i x z => (by cases z), fun i x z => (by cases z), fun i x z => (by cases z)⟩
    · rw [gI_ne (Or.inr (by decide)), gI_ne (Or.inr (by decide)), gI_ne (Or.inr (by decide)), gI_ne (Or.inr (by decide)), gI_same]; rfl
    · rw [gI_ne (Or.inr (by decide)), gI_ne (Or.inr (by decide)), gI_same]; rfl
    · rw [gI_ne (Or.inr (by decide)), gI_same]; rfl
    · rw [gI_same]; rfl
  · exact (((((Mx.rf M).sI (Or.inl ⟨rfl, by decide, by decide⟩) _).sI (Or.inl ⟨rfl, by decide, by decide⟩) _).sI (Or.inl ⟨rfl, by decide, by decide⟩) _).sI (Or.inl ⟨rfl, by decide, by decide⟩) _).sI (Or.inl ⟨rfl, by decide, by decide⟩) _
  · rw [gI_ne (Or.inr (by decide)), gI_ne (Or.inr (by decide)), gI_ne (Or.inr (by decide)), gI_same]
end PRI

/-! THE REFERENCE reads a craft's text: one item -/
def Mx (D : Nat → Nat → Prop) (M M' : pm_M) : Prop := M'.1 = M.1 ∧ (∀ k f, gR M' k f = gR M k f) ∧ (∀ k j, gL M' k j = gL M k j) ∧ ∀ k j, ¬ D k j → gI M' k j = gI M k j
theorem Mx.rf {D : Nat → Nat → Prop} (M : pm_M) : Mx D M M := ⟨rfl, fun _ _ => rfl, fun _ _ => rfl, fun _ _ _ => rfl⟩
theorem Mx.tr {D : Nat → Nat → Prop} {M M1 M2 : pm_M} (h : Mx D M M1) (g : Mx D M1 M2) : Mx D M M2 := ⟨g.1.trans h.1, fun k f => (g.2.1 k f).trans (h.2.1 k f), fun k f => (g.2.2.1 k f).trans (h.2.2.1 k f), fun k j z => (g.2.2.2 k j z).trans (h.2.2.2 k j z)⟩
theorem Mx.mo {D D' : Nat → Nat → Prop} {M M1 : pm_M} (h : Mx D M M1) (hd : ∀ k j, D k j → D' k j) : Mx D' M M1 := ⟨h.1, h.2.1, h.2.2.1, fun k j z => h.2.2.2 k j (fun y => z (hd k j y))⟩
theorem Mx.ok {D : Nat → Nat → Prop} {M M' : pm_M} (h : Mx D M M') (ho : pm_ok M) : pm_ok M' := ⟨h.1.trans ho.1, fun k f hf => (h.2.1 k f).trans (ho.2 k f hf)⟩
theorem Mx.sI {D : Nat → Nat → Prop} {M M' : pm_M} (h : Mx D M M') {k j : Nat} (hk : D k j) (v : Int32) : Mx D M (sI M' k j v) := ⟨h.1, h.2.1, h.2.2.1, fun q f z => by rw [gI_sI, if_neg (fun y => z (by rw [y.1, y.2]; exact hk))]; exact h.2.2.2 q f z⟩
theorem Mx.i {D : Nat → Nat → Prop} {M M' : pm_M} (h : Mx D M M') {k j : Nat} (hk : ¬ D k j) : gI M' k j = gI M k j := h.2.2.2 k j hk
/-- figures; a slot of three; all of the reading -/
def dF (k j : Nat) : Prop := k = 132 ∧ (j = 19 ∨ j = 20)
def dS (c i : Nat) (k j : Nat) : Prop := (k = 132 ∧ (j = 19 ∨ j = 20)) ∨ (k = c ∧ i ≤ j ∧ j < i + 3)
def dI (k j : Nat) : Prop := (k = 132 ∧ 19 ≤ j ∧ j ≤ 25 ∧ j ≠ 21 ∧ j ≠ 22) ∨ (144 ≤ k ∧ k ≤ 146)
def dA (k j : Nat) : Prop := (k = 132 ∧ 19 ≤ j ∧ j ≤ 25) ∨ (144 ≤ k ∧ k ≤ 146)
theorem Mx.txt {M M' : pm_M} (h : Mx dA M M') {t : Nat} {x : Option (List Int32)} (g : MTxt M t x) : MTxt M' t x := by
  unfold MTxt at g ⊢
  simp only [fun i => h.i (k := 137) (j := i) (by unfold dA; omega), fun i => h.i (k := 138) (j := i) (by unfold dA; omega)]
  exact g
theorem dF_S {c i k j : Nat} (h : dF k j) : dS c i k j := Or.inl h
theorem dS_I {c i k j : Nat} (hc : 144 ≤ c ∧ c ≤ 146) (h : dS c i k j) : dI k j := by unfold dS at h; unfold dI; omega
theorem dI_A {k j : Nat} (h : dI k j) : dA k j := by unfold dI at h; unfold dA; omega
def MP (s : Pn) (M : pm_M) : Prop := gI M 132 19 = nI s.1 ∧ gI M 132 23 = nI s.2.1.length ∧ gI M 132 24 = nI s.2.2.1.length ∧ gI M 132 25 = nI s.2.2.2.length ∧
  (∀ i x, s.2.1[i]? = some x → gI M 144 (3 * i) = nI x.1 ∧ gI M 144 (3 * i + 1) = nI x.2.1 ∧ gI M 144 (3 * i + 2) = nI x.2.2) ∧
  (∀ i x, s.2.2.1[i]? = some x → gI M 145 (2 * i) = nI x.1 ∧ gI M 145 (2 * i + 1) = nI x.2) ∧
  (∀ i x, s.2.2.2[i]? = some x → gI M 146 (3 * i) = nI x.1 ∧ gI M 146 (3 * i + 1) = nI x.2.1 ∧ gI M 146 (3 * i + 2) = nI x.2.2)
section PRG
variable {M M2 : pm_M} {t : Nat} {l : List Int32} {s : Pn}
theorem MP.at (h : MP s M) (q : Nat) : MP (q, s.2) (sI M 132 19 (nI q)) := by
  obtain ⟨h1, h2, h3, h4, h6, h7, h8⟩ := h
  have e : ∀ k j, k ≠ 132 → gI (sI M 132 19 (nI q)) k j = gI M k j := fun k j hk => gI_ne (Or.inl hk)
  refine ⟨gI_same _ _ _ _, by rw [gI_ne (Or.inr (by decide))]; exact h2, by rw [gI_ne (Or.inr (by decide))]; exact h3, by rw [gI_ne (Or.inr (by decide))]; exact h4, fun i x z => ?_, fun i x z => ?_, fun i x z => ?_⟩
  · rw [e _ _ (by decide), e _ _ (by decide), e _ _ (by decide)]; exact h6 i x z
  · rw [e _ _ (by decide), e _ _ (by decide)]; exact h7 i x z
  · rw [e _ _ (by decide), e _ _ (by decide), e _ _ (by decide)]; exact h8 i x z
theorem MP.kn {p k z y : Nat} (h : MP s M) (hw : Mx (dS 144 (3 * s.2.1.length)) M M2) (g6 : gI M2 132 19 = nI p) (a1 : gI M2 144 (3 * s.2.1.length) = nI k) (a2 : gI M2 144 (3 * s.2.1.length + 1) = nI z) (a3 : gI M2 144 (3 * s.2.1.length + 2) = nI y) :
    MP (p, s.2.1 ++ [(k, z, y)], s.2.2.1, s.2.2.2) (sI M2 132 23 (nI (s.2.1.length + 1))) := by
  obtain ⟨h1, h2, h3, h4, h6, h7, h8⟩ := h
  have e : ∀ k j, k ≠ 132 → gI (sI M2 132 23 (nI (s.2.1.length + 1))) k j = gI M2 k j := fun k j hk => gI_ne (Or.inl hk)
  refine ⟨by rw [gI_ne (Or.inr (by decide))]; exact g6, by rw [gI_same, List.length_append]; rfl, by rw [gI_ne (Or.inr (by decide)), hw.i (by unfold dS; omega)]; exact h3, by rw [gI_ne (Or.inr (by decide)), hw.i (by unfold dS; omega)]; exact h4, fun i x q => ?_, fun i x q => ?_, fun i x q => ?_⟩
  · rw [e _ _ (by decide), e _ _ (by decide), e _ _ (by decide)]
    rcases ap_cs q with ⟨q, hi⟩ | ⟨hi, hx⟩
    · rw [hw.i (by unfold dS; omega), hw.i (by unfold dS; omega), hw.i (by unfold dS; omega)]
      exact h6 i x q
    · subst hi hx
      exact ⟨a1, a2, a3⟩
  · rw [e _ _ (by decide), e _ _ (by decide), hw.i (by unfold dS; omega), hw.i (by unfold dS; omega)]; exact h7 i x q
  · rw [e _ _ (by decide), e _ _ (by decide), e _ _ (by decide), hw.i (by unfold dS; omega), hw.i (by unfold dS; omega), hw.i (by unfold dS; omega)]; exact h8 i x q
theorem MP.la {p a b : Nat} (h : MP s M) (hw : Mx (dS 145 (2 * s.2.2.1.length)) M M2) (g6 : gI M2 132 19 = nI p) (a1 : gI M2 145 (2 * s.2.2.1.length) = nI a) (a2 : gI M2 145 (2 * s.2.2.1.length + 1) = nI b) :
    MP (p, s.2.1, s.2.2.1 ++ [(a, b)], s.2.2.2) (sI M2 132 24 (nI (s.2.2.1.length + 1))) := by
  obtain ⟨h1, h2, h3, h4, h6, h7, h8⟩ := h
  have e : ∀ k j, k ≠ 132 → gI (sI M2 132 24 (nI (s.2.2.1.length + 1))) k j = gI M2 k j := fun k j hk => gI_ne (Or.inl hk)
  refine ⟨by rw [gI_ne (Or.inr (by decide))]; exact g6, by rw [gI_ne (Or.inr (by decide)), hw.i (by unfold dS; omega)]; exact h2, by rw [gI_same, List.length_append]; rfl, by rw [gI_ne (Or.inr (by decide)), hw.i (by unfold dS; omega)]; exact h4, fun i x q => ?_, fun i x q => ?_, fun i x q => ?_⟩
  · rw [e _ _ (by decide), e _ _ (by decide), e _ _ (by decide), hw.i (by unfold dS; omega), hw.i (by unfold dS; omega), hw.i (by unfold dS; omega)]; exact h6 i x q
  · rw [e _ _ (by decide), e _ _ (by decide)]
    rcases ap_cs q with ⟨q, hi⟩ | ⟨hi, hx⟩
    · rw [hw.i (by unfold dS; omega), hw.i (by unfold dS; omega)]
      exact h7 i x q
    · subst hi hx
      exact ⟨a1, a2⟩
  · rw [e _ _ (by decide), e _ _ (by decide), e _ _ (by decide), hw.i (by unfold dS; omega), hw.i (by unfold dS; omega), hw.i (by unfold dS; omega)]; exact h8 i x q
theorem MP.pa {p a b y : Nat} (h : MP s M) (hw : Mx (dS 146 (3 * s.2.2.2.length)) M M2) (g6 : gI M2 132 19 = nI p) (a1 : gI M2 146 (3 * s.2.2.2.length) = nI a) (a2 : gI M2 146 (3 * s.2.2.2.length + 1) = nI b) (a3 : gI M2 146 (3 * s.2.2.2.length + 2) = nI y) :
    MP (p, s.2.1, s.2.2.1, s.2.2.2 ++ [(a, b, y)]) (sI M2 132 25 (nI (s.2.2.2.length + 1))) := by
  obtain ⟨h1, h2, h3, h4, h6, h7, h8⟩ := h
  have e : ∀ k j, k ≠ 132 → gI (sI M2 132 25 (nI (s.2.2.2.length + 1))) k j = gI M2 k j := fun k j hk => gI_ne (Or.inl hk)
  refine ⟨by rw [gI_ne (Or.inr (by decide))]; exact g6, by rw [gI_ne (Or.inr (by decide)), hw.i (by unfold dS; omega)]; exact h2, by rw [gI_ne (Or.inr (by decide)), hw.i (by unfold dS; omega)]; exact h3, by rw [gI_same, List.length_append]; rfl, fun i x q => ?_, fun i x q => ?_, fun i x q => ?_⟩
  · rw [e _ _ (by decide), e _ _ (by decide), e _ _ (by decide), hw.i (by unfold dS; omega), hw.i (by unfold dS; omega), hw.i (by unfold dS; omega)]; exact h6 i x q
  · rw [e _ _ (by decide), e _ _ (by decide), hw.i (by unfold dS; omega), hw.i (by unfold dS; omega)]; exact h7 i x q
  · rw [e _ _ (by decide), e _ _ (by decide), e _ _ (by decide)]
    rcases ap_cs q with ⟨q, hi⟩ | ⟨hi, hx⟩
    · rw [hw.i (by unfold dS; omega), hw.i (by unfold dS; omega), hw.i (by unfold dS; omega)]
      exact h8 i x q
    · subst hi hx
      exact ⟨a1, a2, a3⟩
theorem m_fgN (d : Nat) (hM : pm_ok M) (ht : t < 4) (h : MTxt M t (some l)) {p lo n : Nat} (hp : p ≤ 90) (h19 : gI M 132 19 = nI p) (hlo : lo ≤ 1) (hn : n ≤ 10) {x y : Int32} (hx : x = nI lo) (hy : y = nI n - 1) (e : fgn l p lo n = none) :
    ∃ M', pm_call (d + 2) 174 [.ref 132, .int (nI t), .int x, .int y] M (some (.int 0)) M' ∧ Mx dF M M' ∧ gI M' 132 19 = nI p := by
  subst hx hy
  have := m_figure d hM ht h hp h19 (lo := nI lo) (hi := nI n - 1) (nI_pos' (by omega))
  rw [fgn_n hlo hn e] at this
  exact ⟨_, this, ((Mx.rf M).sI ⟨rfl, Or.inr rfl⟩ _).sI ⟨rfl, Or.inl rfl⟩ _, gI_same _ _ _ _⟩
theorem m_fgS (d : Nat) (hM : pm_ok M) (ht : t < 4) (h : MTxt M t (some l)) {p lo n v : Nat} (hp : p ≤ 90) (h19 : gI M 132 19 = nI p) (hlo : lo ≤ 1) (hn : n ≤ 10) {x y : Int32} (hx : x = nI lo) (hy : y = nI n - 1) (e : fgn l p lo n = some v) :
    ∃ M', pm_call (d + 2) 174 [.ref 132, .int (nI t), .int x, .int y] M (some (.int 1)) M' ∧ Mx dF M M' ∧ gI M' 132 19 = nI (p + 1) ∧ gI M' 132 20 = nI v := by
  subst hx hy
  have := m_figure d hM ht h hp h19 (lo := nI lo) (hi := nI n - 1) (nI_pos' (by omega))
  have e' := (fgn_s hlo hn e).1
  have ev : l.getD p 0 - 48 = nI v := by
    unfold fg at e'
    split at e'
    · exact Option.some.inj e'
    · cases e'
  rw [e', ev] at this
  exact ⟨_, this, ((Mx.rf M).sI ⟨rfl, Or.inr rfl⟩ _).sI ⟨rfl, Or.inl rfl⟩ _, gI_same _ _ _ _, by rw [gI_ne (Or.inr (by decide))]; exact gI_same _ _ _ _⟩
theorem m_kindOf (d : Nat) (b : Int32) : pm_call (d + 1) 173 [.int b] M (some (.int (match kd0 b with | none => -9 | some k => nI k))) M := by
  refine en_173 (Nat.le_of_ble_eq_true rfl) ?_
  refine st_ild rfl rfl ?_
  refine st_sw rfl ?_
  unfold kd0
  by_cases h1 : b = 98
  · rw [if_pos h1, if_pos h1]
    refine st_k rfl ?_
    -- at 65: op_iret
    exact st_iret rfl ⟨rfl, rfl⟩
  rw [if_neg h1, if_neg h1]
  by_cases h1 : b = 104
  · rw [if_pos h1, if_pos h1]
    refine st_k rfl ?_
    -- at 67: op_iret
    exact st_iret rfl ⟨rfl, rfl⟩
  rw [if_neg h1, if_neg h1]
  by_cases h1 : b = 107
  · rw [if_pos h1, if_pos h1]
    refine st_k rfl ?_
    -- at 61: op_iret
    exact st_iret rfl ⟨rfl, rfl⟩
  rw [if_neg h1, if_neg h1]
  by_cases h1 : b = 111
  · rw [if_pos h1, if_pos h1]
    refine st_k rfl ?_
    -- at 63: op_iret
    exact st_iret rfl ⟨rfl, rfl⟩
  rw [if_neg h1, if_neg h1]
  by_cases h1 : b = 115
  · rw [if_pos h1, if_pos h1]
    refine st_k rfl ?_
    -- at 69: op_iret
    exact st_iret rfl ⟨rfl, rfl⟩
  rw [if_neg h1, if_neg h1]
  by_cases h1 : b = 119
  · rw [if_pos h1, if_pos h1]
    refine st_k rfl ?_
    -- at 71: op_iret
    exact st_iret rfl ⟨rfl, rfl⟩
  rw [if_neg h1, if_neg h1]
  refine st_k rfl ?_
  -- at 74: op_iret
  exact st_iret rfl ⟨rfl, rfl⟩
theorem nI_m9 {k : Nat} (h : k ≤ 5) : ¬ nI k = -9 := (by decide +kernel : ∀ k, k ≤ 5 → ¬ nI k = -9) k h
theorem m_readsKnot (d : Nat) (hM : pm_ok M) (ht : t < 4) (h : MTxt M t (some l)) (hw : pwf s) (hc : MP s M) (hs : s.1 < l.length) :
    ∃ r M', pm_call (d + 3) 176 [.ref 132, .int (nI t)] M r M' ∧ Mx dI M M' ∧ (match (match kd0 (l.getD s.1 0) with
      | none => .inl s.1
      | some k => if s.2.1.length = 6 ∨ 0 < s.2.2.1.length + s.2.2.2.length then .inl s.1 else knF l s k : Nat ⊕ Pn) with
      | .inl q => r = some (.int 0) ∧ gI M' 132 19 = nI q
      | .inr s' => r = some (.int 1) ∧ MP s' M') := by
  refine eq_176 (Nat.le_of_ble_eq_true rfl) ?_
  obtain ⟨w1, w2, w3, w4, w5, w6⟩ := id hw
  obtain ⟨h1, h2, h3⟩ := id h
  obtain ⟨c1, c2, c3, c4, c5, c6, c7⟩ := id hc
  refine st_ald rfl rfl ?_
  refine st_ild rfl rfl ?_
  refine st_ald rfl rfl ?_
  refine st_gI rfl (by first | exact tT hM rfl | assumption | exact rw_T hM (by assumption) | exact rw_A hM (by assumption)) ?_
  -- at 6: stop
  refine wp_e c1 ?_
  refine st_cav (As := [_, _]) rfl rfl rfl (by first | exact tT hM rfl | assumption | exact rw_T hM (by assumption) | exact rw_A hM (by assumption)) (Nat.le_of_ble_eq_true rfl) (m_byteAt (d + 1) hM ht h (by omega)) ?_
  refine st_call (As := [_]) rfl rfl rfl (Nat.le_of_ble_eq_true rfl) (m_kindOf (d + 1) _) ?_
  -- at 12: stop
  cases ek : kd0 (l.getD s.1 0) with
  | none =>
    refine st_ist rfl ?_
    refine st_ild rfl rfl ?_
    refine st_k rfl ?_
    refine st_b2 rfl (fun _ => ?_) (fun zq => absurd (rfl) zq)
    refine st_k rfl ?_
    -- at 41: op_zret
    exact st_zret rfl (by decide) ⟨Mx.rf M, rfl, c1⟩
  | some k =>
    have hk5 := kd0_le ek
    dsimp only
    refine st_ist rfl ?_
    refine st_ild rfl rfl ?_
    refine st_k rfl ?_
    refine st_b2 rfl (fun zq => absurd zq (nI_m9 hk5)) (fun _ => ?_)
    refine st_ald rfl rfl ?_
    refine st_gI rfl (by first | exact tT hM rfl | assumption | exact rw_T hM (by assumption) | exact rw_A hM (by assumption)) ?_
    -- at 23: stop
    refine wp_e c2 ?_
    by_cases q1 : s.2.1.length = 6
    · rw [if_pos (Or.inl q1), q1]
      refine st_k rfl ?_
      refine st_b2 rfl (fun _ => ?_) (fun zq => absurd ((by decide)) zq)
      refine st_k rfl ?_
      -- at 41: op_zret
      exact st_zret rfl (by decide) ⟨Mx.rf M, rfl, c1⟩
    · refine st_k rfl ?_
      refine st_b2 rfl (fun zq => absurd zq ((fun z => q1 ((nI_eq (b := 6) (by omega) (by decide)).mp z)))) (fun _ => ?_)
      refine st_ald rfl rfl ?_
      refine st_gI rfl (by first | exact tT hM rfl | assumption | exact rw_T hM (by assumption) | exact rw_A hM (by assumption)) ?_
      -- at 32: stop
      refine wp_e c3 ?_
      refine st_ald rfl rfl ?_
      refine st_gI rfl (by first | exact tT hM rfl | assumption | exact rw_T hM (by assumption) | exact rw_A hM (by assumption)) ?_
      -- at 36: stop
      refine wp_e c4 ?_
      refine st_ib rfl ?_
      -- at 37: stop
      rw [nI_add]
      by_cases q2 : 0 < s.2.2.1.length + s.2.2.2.length
      · rw [if_pos (Or.inr q2)]
        refine st_b1 rfl (fun zq => absurd zq (nI_nle q2 (by omega))) (fun _ => ?_)
        refine st_k rfl ?_
        -- at 41: op_zret
        exact st_zret rfl (by decide) ⟨Mx.rf M, rfl, c1⟩
      · rw [if_neg (by omega)]
        rw [show s.2.2.1.length + s.2.2.2.length = 0 by omega]
        refine st_b1 rfl (fun _ => ?_) (fun zq => absurd ((by decide)) zq)
        refine st_ald rfl rfl ?_
        refine st_dup rfl rfl ?_
        refine st_gI rfl (by first | exact tT hM rfl | assumption | exact rw_T hM (by assumption) | exact rw_A hM (by assumption)) ?_
        -- at 47: stop
        refine wp_e c1 ?_
        refine st_k rfl ?_
        refine st_ib rfl ?_
        refine st_pI rfl (by first | exact tT hM rfl | assumption | exact rw_T hM (by assumption) | exact rw_A hM (by assumption)) ?_
        -- at 52: stop
        rw [nI_1]
        have hMa : pm_ok (sI M 132 19 (nI (s.1 + 1))) := hM
        refine st_ald rfl rfl ?_
        refine st_gR' rfl (by first | exact tT hMa rfl | assumption | exact rw_T hMa (by assumption) | exact rw_A hMa (by assumption)) (by first | exact rR hMa rfl rfl | assumption | exact rw_R hMa (by assumption)) ?_
        refine st_k rfl ?_
        refine st_ald rfl rfl ?_
        refine st_gI rfl (by first | exact tT hMa rfl | assumption | exact rw_T hMa (by assumption) | exact rw_A hMa (by assumption)) ?_
        -- at 61: stop
        refine wp_e (y := nI s.2.1.length) (by rw [gI_ne (Or.inr (by decide))]; exact c2) ?_
        refine st_ib rfl ?_
        -- at 62: stop
        refine wp_e (y := nI (3 * s.2.1.length)) (by show nI 3 * nI _ = _; rw [pk_mul]) ?_
        have hn18 : 3 * s.2.1.length + 2 < 18 := by omega
        have hin : vp_in (nI (3 * s.2.1.length)) 18 := vp_in_nI (by omega) (by decide)
        refine st_ild rfl rfl ?_
        refine st_iast rfl (by first | exact tT hMa rfl | assumption | exact rw_T hMa (by assumption) | exact rw_A hMa (by assumption)) (by first | decide | assumption | exact vp_in_nI (by omega) (by decide)) ?_
        -- at 64: stop
        rw [nI_clamp (by omega)]
        obtain ⟨M1, e1⟩ : ∃ M1, M1 = sI (sI M 132 19 (nI (s.1 + 1))) 144 (3 * s.2.1.length) (nI k) := ⟨_, rfl⟩
        have x1 : Mx (dS 144 (3 * s.2.1.length)) M M1 := by rw [e1]; exact ((Mx.rf M).sI (Or.inl ⟨rfl, Or.inl rfl⟩) _).sI (Or.inr ⟨rfl, Nat.le_refl _, by omega⟩) _
        have p1 : gI M1 132 19 = nI (s.1 + 1) := by rw [e1, gI_ne (Or.inl (by decide))]; exact gI_same _ _ _ _
        have k1 : gI M1 144 (3 * s.2.1.length) = nI k := by rw [e1]; exact gI_same _ _ _ _
        rw [← e1]
        clear e1
        generalize hn : s.2.1.length = n at *
        have hM1 := x1.ok hM
        have hT1 := (x1.mo (fun k j z => dI_A (dS_I (by decide) z))).txt h
        unfold knF
        refine st_k rfl ?_
        refine st_ist rfl ?_
        -- at 66: stop
        rcases fgn_cs (l := l) (p := s.1 + 1) (lo := 1) (n := 10) (by decide) (by decide) with ⟨e, _⟩ | ⟨a, e, _, _, ha, _⟩
        · rw [e]
          obtain ⟨M2, hcall, x2, p2⟩ := m_fgN d hM1 ht hT1 (by omega) p1 (lo := 1) (n := 10) (by decide) (by decide) (x := 1) (y := 9) (by decide) (by decide) e
          refine st_ild rfl rfl ?_
          refine st_k rfl ?_
          refine st_b2 rfl (fun zq => absurd zq ((by decide))) (fun _ => ?_)
          refine st_ald rfl rfl ?_
          refine st_ild rfl rfl ?_
          refine st_ild rfl rfl ?_
          refine st_k rfl ?_
          refine st_b2 rfl (fun zq => absurd zq ((fun z => z rfl))) (fun _ => ?_)
          refine st_k rfl ?_
          refine st_go rfl ?_
          refine st_k rfl ?_
          refine st_cav (As := [_, _, _]) rfl rfl rfl (by first | exact tT hM1 rfl | assumption | exact rw_T hM1 (by assumption) | exact rw_A hM1 (by assumption)) (Nat.le_of_ble_eq_true rfl) (hcall) ?_
          refine st_b1 rfl (fun zq => absurd zq ((fun z => z rfl))) (fun _ => ?_)
          refine st_k rfl ?_
          -- at 92: op_zret
          exact st_zret rfl (by decide) ⟨(x1.mo (fun k j z => dS_I (by decide) z)).tr (x2.mo (fun k j z => dS_I (c := 144) (i := 0) (by decide) (dF_S z))), rfl, p2⟩
        · rw [e]
          obtain ⟨M2, hcall, x2, p2, v2⟩ := m_fgS d hM1 ht hT1 (by omega) p1 (lo := 1) (n := 10) (by decide) (by decide) (x := 1) (y := 9) (by decide) (by decide) e
          have y2 := x1.tr (x2.mo (fun k j z => dF_S z))
          have hM2 := y2.ok hM
          refine st_ild rfl rfl ?_
          refine st_k rfl ?_
          refine st_b2 rfl (fun zq => absurd zq ((by decide))) (fun _ => ?_)
          refine st_ald rfl rfl ?_
          refine st_ild rfl rfl ?_
          refine st_ild rfl rfl ?_
          refine st_k rfl ?_
          refine st_b2 rfl (fun zq => absurd zq ((fun z => z rfl))) (fun _ => ?_)
          refine st_k rfl ?_
          refine st_go rfl ?_
          refine st_k rfl ?_
          refine st_cav (As := [_, _, _]) rfl rfl rfl (by first | exact tT hM1 rfl | assumption | exact rw_T hM1 (by assumption) | exact rw_A hM1 (by assumption)) (Nat.le_of_ble_eq_true rfl) (hcall) ?_
          refine st_b1 rfl (fun _ => ?_) (fun zq => absurd ((by decide)) zq)
          -- at 93: stop
          refine st_ald rfl rfl ?_
          refine st_gR' rfl (by first | exact tT hM2 rfl | assumption | exact rw_T hM2 (by assumption) | exact rw_A hM2 (by assumption)) (by first | exact rR hM2 rfl rfl | assumption | exact rw_R hM2 (by assumption)) ?_
          refine st_k rfl ?_
          refine st_ald rfl rfl ?_
          refine st_gI rfl (by first | exact tT hM2 rfl | assumption | exact rw_T hM2 (by assumption) | exact rw_A hM2 (by assumption)) ?_
          -- at 102: stop
          refine wp_e (y := nI n) (by rw [y2.i (by unfold dS; omega)]; exact c2) ?_
          refine st_ib rfl ?_
          -- at 103: stop
          refine wp_e (y := nI (3 * n)) (by show nI 3 * nI _ = _; rw [pk_mul]) ?_
          refine st_ild rfl rfl ?_
          refine st_ib rfl ?_
          -- at 105: stop
          refine wp_e (y := nI (3 * n + 1)) (by show nI _ + nI 1 = _; rw [nI_add]) ?_
          have hin : vp_in (nI (3 * n + 1)) 18 := vp_in_nI (by omega) (by decide)
          refine st_ald rfl rfl ?_
          refine st_gI rfl (by first | exact tT hM2 rfl | assumption | exact rw_T hM2 (by assumption) | exact rw_A hM2 (by assumption)) ?_
          -- at 109: stop
          refine wp_e v2 ?_
          refine st_iast rfl (by first | exact tT hM2 rfl | assumption | exact rw_T hM2 (by assumption) | exact rw_A hM2 (by assumption)) (by first | decide | assumption | exact vp_in_nI (by omega) (by decide)) ?_
          refine st_inc rfl rfl ?_
          refine st_go rfl ?_
          -- at 66: stop
          rw [nI_clamp (by omega), show (1 : Int32) + 1 = 2 by decide]
          obtain ⟨M3, e3⟩ : ∃ M3, M3 = sI M2 144 (3 * n + 1) (nI a) := ⟨_, rfl⟩
          have x3 : Mx (dS 144 (3 * n)) M M3 := by rw [e3]; exact y2.sI (Or.inr ⟨rfl, by omega, by omega⟩) _
          have p3 : gI M3 132 19 = nI (s.1 + 2) := by rw [e3, gI_ne (Or.inl (by decide))]; exact p2
          have k3 : gI M3 144 (3 * n) = nI k := by rw [e3, gI_ne (Or.inr (by omega)), x2.i (by unfold dF; omega)]; exact k1
          have z3 : gI M3 144 (3 * n + 1) = nI a := by rw [e3]; exact gI_same _ _ _ _
          rw [← e3]
          clear e3
          have hM3 := x3.ok hM
          have hT3 := (x3.mo (fun k j z => dI_A (dS_I (by decide) z))).txt h
          rcases fgn_cs (l := l) (p := s.1 + 2) (lo := 0) (n := 10) (by decide) (by decide) with ⟨e, _⟩ | ⟨b, e, _, _, hb, _⟩
          · rw [e]
            obtain ⟨M4, hcall, x4, p4⟩ := m_fgN d hM3 ht hT3 (by omega) p3 (lo := 0) (n := 10) (by decide) (by decide) (x := 0) (y := 9) (by decide) (by decide) e
            refine st_ild rfl rfl ?_
            refine st_k rfl ?_
            refine st_b2 rfl (fun zq => absurd zq ((by decide))) (fun _ => ?_)
            refine st_ald rfl rfl ?_
            refine st_ild rfl rfl ?_
            refine st_ild rfl rfl ?_
            refine st_k rfl ?_
            refine st_b2 rfl (fun _ => ?_) (fun zq => absurd ((by decide)) zq)
            refine st_k rfl ?_
            refine st_k rfl ?_
            refine st_cav (As := [_, _, _]) rfl rfl rfl (by first | exact tT hM3 rfl | assumption | exact rw_T hM3 (by assumption) | exact rw_A hM3 (by assumption)) (Nat.le_of_ble_eq_true rfl) (hcall) ?_
            refine st_b1 rfl (fun zq => absurd zq ((fun z => z rfl))) (fun _ => ?_)
            refine st_k rfl ?_
            -- at 92: op_zret
            exact st_zret rfl (by decide) ⟨(x3.mo (fun k j z => dS_I (by decide) z)).tr (x4.mo (fun k j z => dS_I (c := 144) (i := 0) (by decide) (dF_S z))), rfl, p4⟩
          · rw [e]
            obtain ⟨M4, hcall, x4, p4, v4⟩ := m_fgS d hM3 ht hT3 (by omega) p3 (lo := 0) (n := 10) (by decide) (by decide) (x := 0) (y := 9) (by decide) (by decide) e
            have y4 := x3.tr (x4.mo (fun k j z => dF_S z))
            have hM4 := y4.ok hM
            refine st_ild rfl rfl ?_
            refine st_k rfl ?_
            refine st_b2 rfl (fun zq => absurd zq ((by decide))) (fun _ => ?_)
            refine st_ald rfl rfl ?_
            refine st_ild rfl rfl ?_
            refine st_ild rfl rfl ?_
            refine st_k rfl ?_
            refine st_b2 rfl (fun _ => ?_) (fun zq => absurd ((by decide)) zq)
            refine st_k rfl ?_
            refine st_k rfl ?_
            refine st_cav (As := [_, _, _]) rfl rfl rfl (by first | exact tT hM3 rfl | assumption | exact rw_T hM3 (by assumption) | exact rw_A hM3 (by assumption)) (Nat.le_of_ble_eq_true rfl) (hcall) ?_
            refine st_b1 rfl (fun _ => ?_) (fun zq => absurd ((by decide)) zq)
            -- at 93: stop
            refine st_ald rfl rfl ?_
            refine st_gR' rfl (by first | exact tT hM4 rfl | assumption | exact rw_T hM4 (by assumption) | exact rw_A hM4 (by assumption)) (by first | exact rR hM4 rfl rfl | assumption | exact rw_R hM4 (by assumption)) ?_
            refine st_k rfl ?_
            refine st_ald rfl rfl ?_
            refine st_gI rfl (by first | exact tT hM4 rfl | assumption | exact rw_T hM4 (by assumption) | exact rw_A hM4 (by assumption)) ?_
            -- at 102: stop
            refine wp_e (y := nI n) (by rw [y4.i (by unfold dS; omega)]; exact c2) ?_
            refine st_ib rfl ?_
            -- at 103: stop
            refine wp_e (y := nI (3 * n)) (by show nI 3 * nI _ = _; rw [pk_mul]) ?_
            refine st_ild rfl rfl ?_
            refine st_ib rfl ?_
            -- at 105: stop
            refine wp_e (y := nI (3 * n + 2)) (by show nI _ + nI 2 = _; rw [nI_add]) ?_
            have hin : vp_in (nI (3 * n + 2)) 18 := vp_in_nI (by omega) (by decide)
            refine st_ald rfl rfl ?_
            refine st_gI rfl (by first | exact tT hM4 rfl | assumption | exact rw_T hM4 (by assumption) | exact rw_A hM4 (by assumption)) ?_
            -- at 109: stop
            refine wp_e v4 ?_
            refine st_iast rfl (by first | exact tT hM4 rfl | assumption | exact rw_T hM4 (by assumption) | exact rw_A hM4 (by assumption)) (by first | decide | assumption | exact vp_in_nI (by omega) (by decide)) ?_
            refine st_inc rfl rfl ?_
            refine st_go rfl ?_
            -- at 66: stop
            rw [nI_clamp (by omega), show (2 : Int32) + 1 = 3 by decide]
            obtain ⟨M5, e5⟩ : ∃ M5, M5 = sI M4 144 (3 * n + 2) (nI b) := ⟨_, rfl⟩
            have x5 : Mx (dS 144 (3 * n)) M M5 := by rw [e5]; exact y4.sI (Or.inr ⟨rfl, by omega, by omega⟩) _
            have p5 : gI M5 132 19 = nI (s.1 + 3) := by rw [e5, gI_ne (Or.inl (by decide))]; exact p4
            have k5 : gI M5 144 (3 * n) = nI k := by rw [e5, gI_ne (Or.inr (by omega)), x4.i (by unfold dF; omega)]; exact k3
            have z5 : gI M5 144 (3 * n + 1) = nI a := by rw [e5, gI_ne (Or.inr (by omega)), x4.i (by unfold dF; omega)]; exact z3
            have t5 : gI M5 144 (3 * n + 2) = nI b := by rw [e5]; exact gI_same _ _ _ _
            rw [← e5]
            clear e5
            have hM5 := x5.ok hM
            refine st_ild rfl rfl ?_
            refine st_k rfl ?_
            refine st_b2 rfl (fun _ => ?_) (fun zq => absurd ((by decide)) zq)
            refine st_ald rfl rfl ?_
            refine st_dup rfl rfl ?_
            refine st_gI rfl (by first | exact tT hM5 rfl | assumption | exact rw_T hM5 (by assumption) | exact rw_A hM5 (by assumption)) ?_
            -- at 121: stop
            refine wp_e (y := nI n) (by rw [x5.i (by unfold dS; omega)]; exact c2) ?_
            refine st_k rfl ?_
            refine st_ib rfl ?_
            refine st_pI rfl (by first | exact tT hM5 rfl | assumption | exact rw_T hM5 (by assumption) | exact rw_A hM5 (by assumption)) ?_
            refine st_k rfl ?_
            -- at 127: op_zret
            rw [nI_1]
            subst hn
            exact st_zret rfl (by decide) ⟨(x5.mo (fun k j z => dS_I (by decide) z)).sI (Or.inl (by decide)) _, rfl, hc.kn x5 p5 k5 z5 t5⟩
end PRG

/-! THE CLASS reads a craft's text: one item, all items, the whole -/
theorem ap_cs {α : Type} {l : List α} {x y : α} {i : Nat} (h : (l ++ [y])[i]? = some x) : (l[i]? = some x ∧ i < l.length) ∨ (i = l.length ∧ x = y) := by
  rcases Nat.lt_trichotomy i l.length with g | g | g
  · rw [List.getElem?_append_left g] at h
    exact Or.inl ⟨h, g⟩
  · subst g
    rw [List.getElem?_append_right (Nat.le_refl _), Nat.sub_self] at h
    exact Or.inr ⟨rfl, by cases h; rfl⟩
  · rw [List.getElem?_eq_none (by rw [List.length_append]; show l.length + 1 ≤ i; omega)] at h
    cases h
theorem ge_lt {α : Type} {l : List α} {x : α} {i : Nat} (h : l[i]? = some x) : i < l.length := (List.getElem?_eq_some_iff.mp h).1
/-- whose turn it is -/
def tn (s : Pn) : Nat := if 0 < s.2.2.2.length then 2 else if 0 < s.2.2.1.length then 1 else 0
def CP (s : Pn) (M : pm_M) : Prop := gI M 20 6 = nI s.1 ∧ gI M 20 7 = nI (tn s) ∧ gI M 24 0 = nI s.2.1.length ∧ gI M 24 1 = nI s.2.2.1.length ∧ gI M 24 2 = nI s.2.2.2.length ∧
  (∀ i x, s.2.1[i]? = some x → gI M 21 i = nI x.1 ∧ gI M 22 i = nI x.2.1 ∧ gI M 23 i = nI x.2.2) ∧
  (∀ i x, s.2.2.1[i]? = some x → gI M 21 (6 + i) = nI x.1 ∧ gI M 22 (6 + i) = nI x.2) ∧
  (∀ i x, s.2.2.2[i]? = some x → gI M 21 (12 + i) = nI x.1 ∧ gI M 22 (12 + i) = nI x.2.1 ∧ gI M 23 (12 + i) = nI x.2.2)
/-- scratch of the reading, but for length and girth -/
def Cs (M M' : pm_M) : Prop := M'.1 = M.1 ∧ (∀ k f, gR M' k f = gR M k f) ∧ (∀ k j, gL M' k j = gL M k j) ∧ ∀ k j, (k < 20 ∨ 24 < k ∨ (k = 20 ∧ j < 6)) → gI M' k j = gI M k j
theorem Cs.rf (M : pm_M) : Cs M M := ⟨rfl, fun _ _ => rfl, fun _ _ => rfl, fun _ _ _ => rfl⟩
theorem Cs.tr {M M1 M2 : pm_M} (h : Cs M M1) (g : Cs M1 M2) : Cs M M2 := ⟨g.1.trans h.1, fun k f => (g.2.1 k f).trans (h.2.1 k f), fun k f => (g.2.2.1 k f).trans (h.2.2.1 k f), fun k j z => (g.2.2.2 k j z).trans (h.2.2.2 k j z)⟩
theorem Cs.ok {M M' : pm_M} (h : Cs M M') (ho : pm_ok M) : pm_ok M' := ⟨h.1.trans ho.1, fun k f hf => (h.2.1 k f).trans (ho.2 k f hf)⟩
theorem Cs.sI {M M' : pm_M} (h : Cs M M') {k j : Nat} (hk : (20 < k ∧ k ≤ 24) ∨ (k = 20 ∧ 6 ≤ j)) (v : Int32) : Cs M (sI M' k j v) := ⟨h.1, h.2.1, h.2.2.1, fun q f z => by rw [gI_sI, if_neg (by omega)]; exact h.2.2.2 q f z⟩
theorem Cw.cs {i : Nat} {M M' : pm_M} (h : Cw i M M') : Cs M M' := ⟨h.1, h.2.1, h.2.2.1, fun k j z => h.2.2.2 k j (by omega) (by omega)⟩
theorem Cs.txt {M M' : pm_M} (h : Cs M M') {t : Nat} {x : Option (List Int32)} (g : CTxt M (118 + 2 * t) x) : CTxt M' (118 + 2 * t) x := g.kept (fun j => h.2.2.2 _ _ (by omega)) (fun j => h.2.2.2 _ _ (by omega))
section PRE
variable {M M2 : pm_M} {t : Nat} {l : List Int32} {s : Pn}
/-- the same, at another place -/
theorem CP.at (h : CP s M) (q : Nat) : CP (q, s.2) (sI M 20 6 (nI q)) := by
  obtain ⟨h1, h2, h3, h4, h5, h6, h7, h8⟩ := h
  have e : ∀ k j, k ≠ 20 → gI (sI M 20 6 (nI q)) k j = gI M k j := fun k j hk => gI_ne (Or.inl hk)
  refine ⟨gI_same _ _ _ _, by rw [gI_ne (Or.inr (by decide))]; exact h2, by rw [e _ _ (by decide)]; exact h3, by rw [e _ _ (by decide)]; exact h4, by rw [e _ _ (by decide)]; exact h5, fun i x z => ?_, fun i x z => ?_, fun i x z => ?_⟩
  · rw [e _ _ (by decide), e _ _ (by decide), e _ _ (by decide)]; exact h6 i x z
  · rw [e _ _ (by decide), e _ _ (by decide)]; exact h7 i x z
  · rw [e _ _ (by decide), e _ _ (by decide), e _ _ (by decide)]; exact h8 i x z
theorem CP.kn {p : Nat} {v : Int32} {k z y : Nat} (h : CP s M) (hl : s.2.1.length < 6) (h0 : s.2.2.1.length + s.2.2.2.length = 0) (hw : Cw s.2.1.length (sI M 20 6 v) M2) (g6 : gI M2 20 6 = nI p) (a1 : gI M2 21 s.2.1.length = nI k) (a2 : gI M2 22 s.2.1.length = nI z) (a3 : gI M2 23 s.2.1.length = nI y) :
    CP (p, s.2.1 ++ [(k, z, y)], s.2.2.1, s.2.2.2) (sI (sI M2 20 7 (nI 0)) 24 0 (nI (s.2.1.length + 1))) := by
  obtain ⟨h1, h2, h3, h4, h5, h6, h7, h8⟩ := h
  have e : ∀ k j, k ≠ 20 → k ≠ 24 → gI (sI (sI M2 20 7 (nI 0)) 24 0 (nI (s.2.1.length + 1))) k j = gI M2 k j := fun k j hk hj => by rw [gI_ne (Or.inl hj), gI_ne (Or.inl hk)]
  have f : ∀ k j, k ≠ 20 → ¬ ((k = 21 ∨ k = 22 ∨ k = 23) ∧ j = s.2.1.length) → gI M2 k j = gI M k j := fun k j hk hj => by rw [hw.2.2.2 k j (by omega) hj, gI_ne (Or.inl hk)]
  have z1 : s.2.2.1 = [] := List.length_eq_zero_iff.mp (by omega)
  have z2 : s.2.2.2 = [] := List.length_eq_zero_iff.mp (by omega)
  refine ⟨by rw [gI_ne (Or.inl (by decide)), gI_ne (Or.inr (by decide))]; exact g6, ?_, ?_, ?_, ?_, fun i x q => ?_, fun i x q => ?_, fun i x q => ?_⟩
  · rw [gI_ne (Or.inl (by decide)), gI_same]
    unfold tn
    rw [if_neg (by show ¬ 0 < s.2.2.2.length; omega), if_neg (by show ¬ 0 < s.2.2.1.length; omega)]
  · rw [gI_same, List.length_append]; rfl
  · rw [gI_ne (Or.inr (by decide)), gI_ne (Or.inl (by decide)), f 24 1 (by decide) (by omega)]; exact h4
  · rw [gI_ne (Or.inr (by decide)), gI_ne (Or.inl (by decide)), f 24 2 (by decide) (by omega)]; exact h5
  · rw [e _ _ (by decide) (by decide), e _ _ (by decide) (by decide), e _ _ (by decide) (by decide)]
    rcases ap_cs q with ⟨q, hi⟩ | ⟨hi, hx⟩
    · rw [f _ _ (by decide) (by omega), f _ _ (by decide) (by omega), f _ _ (by decide) (by omega)]
      exact h6 i x q
    · subst hi hx
      exact ⟨a1, a2, a3⟩
  · rw [z1] at q; cases q
  · rw [z2] at q; cases q
theorem CP.la {p : Nat} {v : Int32} {a b : Nat} (h : CP s M) (hw0 : pwf s) (hl : s.2.2.1.length < 6) (h0 : s.2.2.2.length = 0) (hw : Cw (6 + s.2.2.1.length) (sI M 20 6 v) M2) (g6 : gI M2 20 6 = nI p) (a1 : gI M2 21 (6 + s.2.2.1.length) = nI a) (a2 : gI M2 22 (6 + s.2.2.1.length) = nI b) :
    CP (p, s.2.1, s.2.2.1 ++ [(a, b)], s.2.2.2) (sI (sI M2 20 7 (nI 1)) 24 1 (nI (s.2.2.1.length + 1))) := by
  obtain ⟨h1, h2, h3, h4, h5, h6, h7, h8⟩ := h
  have e : ∀ k j, k ≠ 20 → k ≠ 24 → gI (sI (sI M2 20 7 (nI 1)) 24 1 (nI (s.2.2.1.length + 1))) k j = gI M2 k j := fun k j hk hj => by rw [gI_ne (Or.inl hj), gI_ne (Or.inl hk)]
  have f : ∀ k j, k ≠ 20 → ¬ ((k = 21 ∨ k = 22 ∨ k = 23) ∧ j = 6 + s.2.2.1.length) → gI M2 k j = gI M k j := fun k j hk hj => by rw [hw.2.2.2 k j (by omega) hj, gI_ne (Or.inl hk)]
  have z2 : s.2.2.2 = [] := List.length_eq_zero_iff.mp h0
  have hn := hw0.1
  refine ⟨by rw [gI_ne (Or.inl (by decide)), gI_ne (Or.inr (by decide))]; exact g6, ?_, ?_, ?_, ?_, fun i x q => ?_, fun i x q => ?_, fun i x q => ?_⟩
  · rw [gI_ne (Or.inl (by decide)), gI_same]
    unfold tn
    rw [if_neg (by show ¬ 0 < s.2.2.2.length; omega), if_pos (by show 0 < (s.2.2.1 ++ [(a, b)]).length; rw [List.length_append]; exact Nat.succ_pos _)]
  · rw [gI_ne (Or.inr (by decide)), gI_ne (Or.inl (by decide)), f 24 0 (by decide) (by omega)]; exact h3
  · rw [gI_same, List.length_append]; rfl
  · rw [gI_ne (Or.inr (by decide)), gI_ne (Or.inl (by decide)), f 24 2 (by decide) (by omega)]; exact h5
  · have := ge_lt q
    have : i < s.2.1.length := this
    rw [e _ _ (by decide) (by decide), e _ _ (by decide) (by decide), e _ _ (by decide) (by decide), f _ _ (by decide) (by omega), f _ _ (by decide) (by omega), f _ _ (by decide) (by omega)]
    exact h6 i x q
  · rw [e _ _ (by decide) (by decide), e _ _ (by decide) (by decide)]
    rcases ap_cs q with ⟨q, hi⟩ | ⟨hi, hx⟩
    · rw [f _ _ (by decide) (by omega), f _ _ (by decide) (by omega)]
      exact h7 i x q
    · subst hi hx
      exact ⟨a1, a2⟩
  · rw [z2] at q; cases q
theorem CP.pa {p : Nat} {v : Int32} {a b y : Nat} (h : CP s M) (hw0 : pwf s) (hl : s.2.2.2.length < 6) (hw : Cw (12 + s.2.2.2.length) (sI M 20 6 v) M2) (g6 : gI M2 20 6 = nI p) (a1 : gI M2 21 (12 + s.2.2.2.length) = nI a) (a2 : gI M2 22 (12 + s.2.2.2.length) = nI b) (a3 : gI M2 23 (12 + s.2.2.2.length) = nI y) :
    CP (p, s.2.1, s.2.2.1, s.2.2.2 ++ [(a, b, y)]) (sI (sI M2 20 7 (nI 2)) 24 2 (nI (s.2.2.2.length + 1))) := by
  obtain ⟨h1, h2, h3, h4, h5, h6, h7, h8⟩ := h
  have e : ∀ k j, k ≠ 20 → k ≠ 24 → gI (sI (sI M2 20 7 (nI 2)) 24 2 (nI (s.2.2.2.length + 1))) k j = gI M2 k j := fun k j hk hj => by rw [gI_ne (Or.inl hj), gI_ne (Or.inl hk)]
  have f : ∀ k j, k ≠ 20 → ¬ ((k = 21 ∨ k = 22 ∨ k = 23) ∧ j = 12 + s.2.2.2.length) → gI M2 k j = gI M k j := fun k j hk hj => by rw [hw.2.2.2 k j (by omega) hj, gI_ne (Or.inl hk)]
  have hn := hw0.1
  have hn2 := hw0.2.1
  refine ⟨by rw [gI_ne (Or.inl (by decide)), gI_ne (Or.inr (by decide))]; exact g6, ?_, ?_, ?_, ?_, fun i x q => ?_, fun i x q => ?_, fun i x q => ?_⟩
  · rw [gI_ne (Or.inl (by decide)), gI_same]
    unfold tn
    rw [if_pos (by show 0 < (s.2.2.2 ++ [(a, b, y)]).length; rw [List.length_append]; exact Nat.succ_pos _)]
  · rw [gI_ne (Or.inr (by decide)), gI_ne (Or.inl (by decide)), f 24 0 (by decide) (by omega)]; exact h3
  · rw [gI_ne (Or.inr (by decide)), gI_ne (Or.inl (by decide)), f 24 1 (by decide) (by omega)]; exact h4
  · rw [gI_same, List.length_append]; rfl
  · have : i < s.2.1.length := ge_lt q
    rw [e _ _ (by decide) (by decide), e _ _ (by decide) (by decide), e _ _ (by decide) (by decide), f _ _ (by decide) (by omega), f _ _ (by decide) (by omega), f _ _ (by decide) (by omega)]
    exact h6 i x q
  · have : i < s.2.2.1.length := ge_lt q
    rw [e _ _ (by decide) (by decide), e _ _ (by decide) (by decide), f _ _ (by decide) (by omega), f _ _ (by decide) (by omega)]
    exact h7 i x q
  · rw [e _ _ (by decide) (by decide), e _ _ (by decide) (by decide), e _ _ (by decide) (by decide)]
    rcases ap_cs q with ⟨q, hi⟩ | ⟨hi, hx⟩
    · rw [f _ _ (by decide) (by omega), f _ _ (by decide) (by omega), f _ _ (by decide) (by omega)]
      exact h8 i x q
    · subst hi hx
      exact ⟨a1, a2, a3⟩
theorem ti_la (d : Nat) (hM : pm_ok M) (ht : t < 4) (h : CTxt M (118 + 2 * t) (some l)) (hw : pwf s) (hc : CP s M) (hs : s.1 < l.length) (b kv : Int32) :
    pm_WP (pm_call (d + 2)) tb_29 (fun r M' => Cs M M' ∧ (match (if s.2.2.1.length = 6 ∨ 0 < s.2.2.2.length then .inl s.1 else laF l s : Nat ⊕ Pn) with
      | .inl q => r = some (.int 0) ∧ gI M' 20 6 = nI q
      | .inr s' => r = some (.int 1) ∧ CP s' M')) 22 [some (.ref 20), some (.ref (118 + 2 * t)), some (.int b), some (.int kv), some (.int (nI 1)), none, none] [] M := by
  obtain ⟨w1, w2, w3, w4, w5, w6⟩ := id hw
  have hl := h.2.1
  obtain ⟨c1, c2, c3, c4, c5, c6, c7, c8⟩ := id hc
  obtain ⟨M1, e1⟩ : ∃ M1, M1 = sI M 20 6 (nI (s.1 + 1)) := ⟨_, rfl⟩
  have s1 : Cs M M1 := by rw [e1]; exact (Cs.rf M).sI (Or.inr ⟨rfl, by decide⟩) _
  have hM1 := s1.ok hM
  have hT1 := s1.txt h
  have g6 : gI M1 20 6 = nI (s.1 + 1) := by rw [e1]; exact gI_same _ _ _ _
  have g24 : ∀ j, gI M1 24 j = gI M 24 j := fun j => by rw [e1]; exact gI_ne (Or.inl (by decide))
  have hin3 : vp_in (nI 1) 3 := vp_in_nI (by decide) (by decide)
  have hcl : (nI 1).toNatClampNeg = 1 := nI_clamp (by decide)
  refine st_ild rfl rfl ?_
  refine st_ald rfl rfl ?_
  refine st_gI rfl (by first | exact tT hM rfl | assumption | exact rw_T hM (by assumption) | exact rw_A hM (by assumption)) ?_
  -- at 28: stop
  refine wp_e c2 ?_
  by_cases q2 : 0 < s.2.2.2.length
  · rw [if_pos (Or.inr q2)]
    refine st_b2 rfl (fun _ => ?_) (fun zq => absurd (by unfold tn; rw [if_pos q2]; decide) zq)
    refine st_k rfl ?_
    -- at 44: op_zret
    exact st_zret rfl (by decide) ⟨Cs.rf M, rfl, c1⟩
  have etn : ¬ nI 1 < nI (tn s) := by unfold tn; rw [if_neg q2]; split <;> decide
  refine st_b2 rfl (fun zq => absurd zq (etn)) (fun _ => ?_)
  refine st_ald rfl rfl ?_
  refine st_gR' rfl (by first | exact tT hM rfl | assumption | exact rw_T hM (by assumption) | exact rw_A hM (by assumption)) (by first | exact rR hM rfl rfl | assumption | exact rw_R hM (by assumption)) ?_
  refine st_ild rfl rfl ?_
  refine st_iald rfl (by first | exact tT hM rfl | assumption | exact rw_T hM (by assumption) | exact rw_A hM (by assumption)) (by first | decide | assumption | exact vp_in_nI (by omega) (by decide)) ?_
  -- at 38: stop
  refine wp_e (y := nI s.2.2.1.length) (by rw [hcl]; exact c4) ?_
  by_cases q1 : s.2.2.1.length = 6
  · rw [if_pos (Or.inl q1), q1]
    refine st_k rfl ?_
    refine st_b2 rfl (fun zq => absurd zq ((by decide))) (fun _ => ?_)
    refine st_k rfl ?_
    -- at 44: op_zret
    exact st_zret rfl (by decide) ⟨Cs.rf M, rfl, c1⟩
  rw [if_neg (by omega)]
  refine st_k rfl ?_
  refine st_b2 rfl (fun _ => ?_) (fun zq => absurd (nI_lt (b := 6) (by omega) (by decide)) zq)
  refine st_ald rfl rfl ?_
  refine st_dup rfl rfl ?_
  refine st_gI rfl (by first | exact tT hM rfl | assumption | exact rw_T hM (by assumption) | exact rw_A hM (by assumption)) ?_
  -- at 50: stop
  refine wp_e c1 ?_
  refine st_k rfl ?_
  refine st_ib rfl ?_
  refine st_pI rfl (by first | exact tT hM rfl | assumption | exact rw_T hM (by assumption) | exact rw_A hM (by assumption)) ?_
  -- at 55: stop
  rw [nI_1, ← e1]
  refine st_ild rfl rfl ?_
  refine st_k rfl ?_
  refine st_ib rfl ?_
  refine st_ald rfl rfl ?_
  refine st_gR' rfl (by first | exact tT hM1 rfl | assumption | exact rw_T hM1 (by assumption) | exact rw_A hM1 (by assumption)) (by first | exact rR hM1 rfl rfl | assumption | exact rw_R hM1 (by assumption)) ?_
  refine st_ild rfl rfl ?_
  refine st_iald rfl (by first | exact tT hM1 rfl | assumption | exact rw_T hM1 (by assumption) | exact rw_A hM1 (by assumption)) (by first | decide | assumption | exact vp_in_nI (by omega) (by decide)) ?_
  -- at 67: stop
  refine wp_e (y := nI s.2.2.1.length) (by rw [hcl, g24]; exact c4) ?_
  refine st_ib rfl ?_
  -- at 68: stop
  refine wp_e (y := nI (6 + s.2.2.1.length)) (by rw [show nI 1 * 6 = nI 6 by decide, nI_add]) ?_
  refine st_ist rfl ?_
  show pm_WP _ _ _ 70 [some (.ref 20), some (.ref (118 + 2 * t)), some (.int b), some (.int kv), some (.int (nI 1)), some (.int (nI (6 + s.2.2.1.length))), none] [] _
  obtain ⟨r, M2, hcall, hw2, hm⟩ := c_takeLawOrPair d hM1 ht hT1 (p := s.1 + 1) (i := 6 + s.2.2.1.length) (n := s.2.1.length) (w := 1) (by omega) g6 (by omega) w1 (by rw [g24]; exact c3) (Or.inl rfl)
  have hM2 := hw2.ok hM1
  unfold laF
  rcases fgn_cs (l := l) (p := s.1 + 1) (lo := 0) (n := s.2.1.length) (by decide) (by omega) with ⟨e, _⟩ | ⟨a0, e, _, _, ha0, _⟩
  · rw [e] at hm ⊢
    obtain ⟨hr, k6⟩ := hm
    subst hr
    refine st_ild rfl rfl ?_
    refine st_b1 rfl (fun _ => ?_) (fun zq => absurd ((by decide)) zq)
    refine st_ald rfl rfl ?_
    refine st_ald rfl rfl ?_
    refine st_ild rfl rfl ?_
    refine st_ild rfl rfl ?_
    refine st_cav (As := [_, _, _]) rfl rfl rfl (by first | exact tT hM1 rfl | assumption | exact rw_T hM1 (by assumption) | exact rw_A hM1 (by assumption)) (Nat.le_of_ble_eq_true rfl) (hcall) ?_
    refine st_ist rfl ?_
    refine st_ild rfl rfl ?_
    refine st_b1 rfl (fun _ => ?_) (fun zq => absurd (rfl) zq)
    refine st_ild rfl rfl ?_
    -- at 121: op_zret
    exact st_zret rfl (by decide) ⟨s1.tr hw2.cs, rfl, k6⟩
  rw [e] at hm ⊢
  dsimp only at hm ⊢
  rcases fgn_cs (l := l) (p := s.1 + 2) (lo := 0) (n := s.2.1.length) (by decide) (by omega) with ⟨e, _⟩ | ⟨a1, e, _, _, ha1, _⟩
  · rw [show s.1 + 1 + 1 = s.1 + 2 from rfl, e] at hm
    rw [e]
    obtain ⟨hr, k6⟩ := hm
    subst hr
    refine st_ild rfl rfl ?_
    refine st_b1 rfl (fun _ => ?_) (fun zq => absurd ((by decide)) zq)
    refine st_ald rfl rfl ?_
    refine st_ald rfl rfl ?_
    refine st_ild rfl rfl ?_
    refine st_ild rfl rfl ?_
    refine st_cav (As := [_, _, _]) rfl rfl rfl (by first | exact tT hM1 rfl | assumption | exact rw_T hM1 (by assumption) | exact rw_A hM1 (by assumption)) (Nat.le_of_ble_eq_true rfl) (hcall) ?_
    refine st_ist rfl ?_
    refine st_ild rfl rfl ?_
    refine st_b1 rfl (fun _ => ?_) (fun zq => absurd (rfl) zq)
    refine st_ild rfl rfl ?_
    -- at 121: op_zret
    exact st_zret rfl (by decide) ⟨s1.tr hw2.cs, rfl, k6⟩
  rw [show s.1 + 1 + 1 = s.1 + 2 from rfl, e] at hm
  rw [e]
  dsimp only at hm ⊢
  rw [if_pos rfl] at hm
  obtain ⟨hr, k6, k21, k22⟩ := hm
  subst hr
  have hM3 : pm_ok (sI M2 20 7 (nI 1)) := hM2
  refine st_ild rfl rfl ?_
  refine st_b1 rfl (fun _ => ?_) (fun zq => absurd ((by decide)) zq)
  refine st_ald rfl rfl ?_
  refine st_ald rfl rfl ?_
  refine st_ild rfl rfl ?_
  refine st_ild rfl rfl ?_
  refine st_cav (As := [_, _, _]) rfl rfl rfl (by first | exact tT hM1 rfl | assumption | exact rw_T hM1 (by assumption) | exact rw_A hM1 (by assumption)) (Nat.le_of_ble_eq_true rfl) (hcall) ?_
  -- at 95: stop
  refine st_ist rfl ?_
  show pm_WP _ _ _ 97 [some (.ref 20), some (.ref (118 + 2 * t)), some (.int b), some (.int kv), some (.int (nI 1)), some (.int (nI (6 + s.2.2.1.length))), some (.int 1)] [] _
  refine st_ild rfl rfl ?_
  refine st_b1 rfl (fun zq => absurd zq ((by decide))) (fun _ => ?_)
  refine st_ald rfl rfl ?_
  refine st_ild rfl rfl ?_
  refine st_pI rfl (by first | exact tT hM2 rfl | assumption | exact rw_T hM2 (by assumption) | exact rw_A hM2 (by assumption)) ?_
  -- at 108: stop
  refine st_ald rfl rfl ?_
  refine st_gR' rfl (by first | exact tT hM3 rfl | assumption | exact rw_T hM3 (by assumption) | exact rw_A hM3 (by assumption)) (by first | exact rR hM3 rfl rfl | assumption | exact rw_R hM3 (by assumption)) ?_
  refine st_ild rfl rfl ?_
  refine st_dup2 rfl rfl rfl ?_
  refine st_iald rfl (by first | exact tT hM3 rfl | assumption | exact rw_T hM3 (by assumption) | exact rw_A hM3 (by assumption)) (by first | decide | assumption | exact vp_in_nI (by omega) (by decide)) ?_
  -- at 116: stop
  refine wp_e (y := nI s.2.2.1.length) (by rw [hcl, gI_ne (Or.inl (by decide)), hw2.2.2.2 24 1 (by omega) (by omega), g24]; exact c4) ?_
  refine st_k rfl ?_
  refine st_ib rfl ?_
  refine st_iast rfl (by first | exact tT hM3 rfl | assumption | exact rw_T hM3 (by assumption) | exact rw_A hM3 (by assumption)) (by first | decide | assumption | exact vp_in_nI (by omega) (by decide)) ?_
  refine st_ild rfl rfl ?_
  -- at 121: op_zret
  rw [hcl, nI_1]
  exact st_zret rfl (by decide) ⟨((s1.tr hw2.cs).sI (Or.inr ⟨rfl, by decide⟩) _).sI (Or.inl (by decide)) _, rfl, hc.la hw (by omega) (by omega) (by rw [e1] at hw2; exact hw2) k6 k21 k22⟩
theorem ti_pa (d : Nat) (hM : pm_ok M) (ht : t < 4) (h : CTxt M (118 + 2 * t) (some l)) (hw : pwf s) (hc : CP s M) (hs : s.1 < l.length) (b kv : Int32) :
    pm_WP (pm_call (d + 2)) tb_29 (fun r M' => Cs M M' ∧ (match (if s.2.2.2.length = 6 then .inl s.1 else paF l s : Nat ⊕ Pn) with
      | .inl q => r = some (.int 0) ∧ gI M' 20 6 = nI q
      | .inr s' => r = some (.int 1) ∧ CP s' M')) 22 [some (.ref 20), some (.ref (118 + 2 * t)), some (.int b), some (.int kv), some (.int (nI 2)), none, none] [] M := by
  obtain ⟨w1, w2, w3, w4, w5, w6⟩ := id hw
  have hl := h.2.1
  obtain ⟨c1, c2, c3, c4, c5, c6, c7, c8⟩ := id hc
  obtain ⟨M1, e1⟩ : ∃ M1, M1 = sI M 20 6 (nI (s.1 + 1)) := ⟨_, rfl⟩
  have s1 : Cs M M1 := by rw [e1]; exact (Cs.rf M).sI (Or.inr ⟨rfl, by decide⟩) _
  have hM1 := s1.ok hM
  have hT1 := s1.txt h
  have g6 : gI M1 20 6 = nI (s.1 + 1) := by rw [e1]; exact gI_same _ _ _ _
  have g24 : ∀ j, gI M1 24 j = gI M 24 j := fun j => by rw [e1]; exact gI_ne (Or.inl (by decide))
  have hin3 : vp_in (nI 2) 3 := vp_in_nI (by decide) (by decide)
  have hcl : (nI 2).toNatClampNeg = 2 := nI_clamp (by decide)
  refine st_ild rfl rfl ?_
  refine st_ald rfl rfl ?_
  refine st_gI rfl (by first | exact tT hM rfl | assumption | exact rw_T hM (by assumption) | exact rw_A hM (by assumption)) ?_
  -- at 28: stop
  refine wp_e c2 ?_
  have etn : ¬ nI 2 < nI (tn s) := by unfold tn; split; decide; split <;> decide
  refine st_b2 rfl (fun zq => absurd zq (etn)) (fun _ => ?_)
  refine st_ald rfl rfl ?_
  refine st_gR' rfl (by first | exact tT hM rfl | assumption | exact rw_T hM (by assumption) | exact rw_A hM (by assumption)) (by first | exact rR hM rfl rfl | assumption | exact rw_R hM (by assumption)) ?_
  refine st_ild rfl rfl ?_
  refine st_iald rfl (by first | exact tT hM rfl | assumption | exact rw_T hM (by assumption) | exact rw_A hM (by assumption)) (by first | decide | assumption | exact vp_in_nI (by omega) (by decide)) ?_
  -- at 38: stop
  refine wp_e (y := nI s.2.2.2.length) (by rw [hcl]; exact c5) ?_
  by_cases q1 : s.2.2.2.length = 6
  · rw [if_pos q1, q1]
    refine st_k rfl ?_
    refine st_b2 rfl (fun zq => absurd zq ((by decide))) (fun _ => ?_)
    refine st_k rfl ?_
    -- at 44: op_zret
    exact st_zret rfl (by decide) ⟨Cs.rf M, rfl, c1⟩
  rw [if_neg (by omega)]
  refine st_k rfl ?_
  refine st_b2 rfl (fun _ => ?_) (fun zq => absurd (nI_lt (b := 6) (by omega) (by decide)) zq)
  refine st_ald rfl rfl ?_
  refine st_dup rfl rfl ?_
  refine st_gI rfl (by first | exact tT hM rfl | assumption | exact rw_T hM (by assumption) | exact rw_A hM (by assumption)) ?_
  -- at 50: stop
  refine wp_e c1 ?_
  refine st_k rfl ?_
  refine st_ib rfl ?_
  refine st_pI rfl (by first | exact tT hM rfl | assumption | exact rw_T hM (by assumption) | exact rw_A hM (by assumption)) ?_
  -- at 55: stop
  rw [nI_1, ← e1]
  refine st_ild rfl rfl ?_
  refine st_k rfl ?_
  refine st_ib rfl ?_
  refine st_ald rfl rfl ?_
  refine st_gR' rfl (by first | exact tT hM1 rfl | assumption | exact rw_T hM1 (by assumption) | exact rw_A hM1 (by assumption)) (by first | exact rR hM1 rfl rfl | assumption | exact rw_R hM1 (by assumption)) ?_
  refine st_ild rfl rfl ?_
  refine st_iald rfl (by first | exact tT hM1 rfl | assumption | exact rw_T hM1 (by assumption) | exact rw_A hM1 (by assumption)) (by first | decide | assumption | exact vp_in_nI (by omega) (by decide)) ?_
  -- at 67: stop
  refine wp_e (y := nI s.2.2.2.length) (by rw [hcl, g24]; exact c5) ?_
  refine st_ib rfl ?_
  -- at 68: stop
  refine wp_e (y := nI (12 + s.2.2.2.length)) (by rw [show nI 2 * 6 = nI 12 by decide, nI_add]) ?_
  refine st_ist rfl ?_
  show pm_WP _ _ _ 70 [some (.ref 20), some (.ref (118 + 2 * t)), some (.int b), some (.int kv), some (.int (nI 2)), some (.int (nI (12 + s.2.2.2.length))), none] [] _
  obtain ⟨r, M2, hcall, hw2, hm⟩ := c_takeLawOrPair d hM1 ht hT1 (p := s.1 + 1) (i := 12 + s.2.2.2.length) (n := s.2.1.length) (w := 2) (by omega) g6 (by omega) w1 (by rw [g24]; exact c3) (Or.inr rfl)
  have hM2 := hw2.ok hM1
  unfold paF
  rcases fgn_cs (l := l) (p := s.1 + 1) (lo := 0) (n := s.2.1.length) (by decide) (by omega) with ⟨e, _⟩ | ⟨a0, e, _, _, ha0, _⟩
  · rw [e] at hm ⊢
    obtain ⟨hr, k6⟩ := hm
    subst hr
    refine st_ild rfl rfl ?_
    refine st_b1 rfl (fun _ => ?_) (fun zq => absurd ((by decide)) zq)
    refine st_ald rfl rfl ?_
    refine st_ald rfl rfl ?_
    refine st_ild rfl rfl ?_
    refine st_ild rfl rfl ?_
    refine st_cav (As := [_, _, _]) rfl rfl rfl (by first | exact tT hM1 rfl | assumption | exact rw_T hM1 (by assumption) | exact rw_A hM1 (by assumption)) (Nat.le_of_ble_eq_true rfl) (hcall) ?_
    refine st_ist rfl ?_
    refine st_ild rfl rfl ?_
    refine st_b1 rfl (fun _ => ?_) (fun zq => absurd (rfl) zq)
    refine st_ild rfl rfl ?_
    -- at 121: op_zret
    exact st_zret rfl (by decide) ⟨s1.tr hw2.cs, rfl, k6⟩
  rw [e] at hm ⊢
  dsimp only at hm ⊢
  rcases fgn_cs (l := l) (p := s.1 + 2) (lo := 0) (n := s.2.1.length) (by decide) (by omega) with ⟨e, _⟩ | ⟨a1, e, _, _, ha1, _⟩
  · rw [show s.1 + 1 + 1 = s.1 + 2 from rfl, e] at hm
    rw [e]
    obtain ⟨hr, k6⟩ := hm
    subst hr
    refine st_ild rfl rfl ?_
    refine st_b1 rfl (fun _ => ?_) (fun zq => absurd ((by decide)) zq)
    refine st_ald rfl rfl ?_
    refine st_ald rfl rfl ?_
    refine st_ild rfl rfl ?_
    refine st_ild rfl rfl ?_
    refine st_cav (As := [_, _, _]) rfl rfl rfl (by first | exact tT hM1 rfl | assumption | exact rw_T hM1 (by assumption) | exact rw_A hM1 (by assumption)) (Nat.le_of_ble_eq_true rfl) (hcall) ?_
    refine st_ist rfl ?_
    refine st_ild rfl rfl ?_
    refine st_b1 rfl (fun _ => ?_) (fun zq => absurd (rfl) zq)
    refine st_ild rfl rfl ?_
    -- at 121: op_zret
    exact st_zret rfl (by decide) ⟨s1.tr hw2.cs, rfl, k6⟩
  rw [show s.1 + 1 + 1 = s.1 + 2 from rfl, e] at hm
  rw [e]
  dsimp only at hm ⊢
  rw [if_neg (by decide)] at hm
  rcases fgn_cs (l := l) (p := s.1 + 3) (lo := 0) (n := 10) (by decide) (by omega) with ⟨e, _⟩ | ⟨a2, e, _, _, ha2, _⟩
  · rw [show s.1 + 1 + 2 = s.1 + 3 from rfl, e] at hm
    rw [e]
    obtain ⟨hr, k6⟩ := hm
    subst hr
    refine st_ild rfl rfl ?_
    refine st_b1 rfl (fun _ => ?_) (fun zq => absurd ((by decide)) zq)
    refine st_ald rfl rfl ?_
    refine st_ald rfl rfl ?_
    refine st_ild rfl rfl ?_
    refine st_ild rfl rfl ?_
    refine st_cav (As := [_, _, _]) rfl rfl rfl (by first | exact tT hM1 rfl | assumption | exact rw_T hM1 (by assumption) | exact rw_A hM1 (by assumption)) (Nat.le_of_ble_eq_true rfl) (hcall) ?_
    refine st_ist rfl ?_
    refine st_ild rfl rfl ?_
    refine st_b1 rfl (fun _ => ?_) (fun zq => absurd (rfl) zq)
    refine st_ild rfl rfl ?_
    -- at 121: op_zret
    exact st_zret rfl (by decide) ⟨s1.tr hw2.cs, rfl, k6⟩
  rw [show s.1 + 1 + 2 = s.1 + 3 from rfl, e] at hm
  rw [e]
  dsimp only at hm ⊢
  obtain ⟨hr, k6, k21, k22, k23⟩ := hm
  subst hr
  have hM3 : pm_ok (sI M2 20 7 (nI 2)) := hM2
  refine st_ild rfl rfl ?_
  refine st_b1 rfl (fun _ => ?_) (fun zq => absurd ((by decide)) zq)
  refine st_ald rfl rfl ?_
  refine st_ald rfl rfl ?_
  refine st_ild rfl rfl ?_
  refine st_ild rfl rfl ?_
  refine st_cav (As := [_, _, _]) rfl rfl rfl (by first | exact tT hM1 rfl | assumption | exact rw_T hM1 (by assumption) | exact rw_A hM1 (by assumption)) (Nat.le_of_ble_eq_true rfl) (hcall) ?_
  -- at 95: stop
  refine st_ist rfl ?_
  show pm_WP _ _ _ 97 [some (.ref 20), some (.ref (118 + 2 * t)), some (.int b), some (.int kv), some (.int (nI 2)), some (.int (nI (12 + s.2.2.2.length))), some (.int 1)] [] _
  refine st_ild rfl rfl ?_
  refine st_b1 rfl (fun zq => absurd zq ((by decide))) (fun _ => ?_)
  refine st_ald rfl rfl ?_
  refine st_ild rfl rfl ?_
  refine st_pI rfl (by first | exact tT hM2 rfl | assumption | exact rw_T hM2 (by assumption) | exact rw_A hM2 (by assumption)) ?_
  -- at 108: stop
  refine st_ald rfl rfl ?_
  refine st_gR' rfl (by first | exact tT hM3 rfl | assumption | exact rw_T hM3 (by assumption) | exact rw_A hM3 (by assumption)) (by first | exact rR hM3 rfl rfl | assumption | exact rw_R hM3 (by assumption)) ?_
  refine st_ild rfl rfl ?_
  refine st_dup2 rfl rfl rfl ?_
  refine st_iald rfl (by first | exact tT hM3 rfl | assumption | exact rw_T hM3 (by assumption) | exact rw_A hM3 (by assumption)) (by first | decide | assumption | exact vp_in_nI (by omega) (by decide)) ?_
  -- at 116: stop
  refine wp_e (y := nI s.2.2.2.length) (by rw [hcl, gI_ne (Or.inl (by decide)), hw2.2.2.2 24 2 (by omega) (by omega), g24]; exact c5) ?_
  refine st_k rfl ?_
  refine st_ib rfl ?_
  refine st_iast rfl (by first | exact tT hM3 rfl | assumption | exact rw_T hM3 (by assumption) | exact rw_A hM3 (by assumption)) (by first | decide | assumption | exact vp_in_nI (by omega) (by decide)) ?_
  refine st_ild rfl rfl ?_
  -- at 121: op_zret
  rw [hcl, nI_1]
  exact st_zret rfl (by decide) ⟨((s1.tr hw2.cs).sI (Or.inr ⟨rfl, by decide⟩) _).sI (Or.inl (by decide)) _, rfl, hc.pa hw (by omega) (by rw [e1] at hw2; exact hw2) k6 k21 k22 k23⟩
theorem ti_kn (d : Nat) (hM : pm_ok M) (ht : t < 4) (h : CTxt M (118 + 2 * t) (some l)) (hw : pwf s) (hc : CP s M) (hs : s.1 < l.length) (b kv : Int32) (k : Nat) (hkv : kv = nI k) :
    pm_WP (pm_call (d + 2)) tb_29 (fun r M' => Cs M M' ∧ (match (if s.2.1.length = 6 ∨ 0 < s.2.2.1.length + s.2.2.2.length then .inl s.1 else knF l s k : Nat ⊕ Pn) with
      | .inl q => r = some (.int 0) ∧ gI M' 20 6 = nI q
      | .inr s' => r = some (.int 1) ∧ CP s' M')) 22 [some (.ref 20), some (.ref (118 + 2 * t)), some (.int b), some (.int kv), some (.int (nI 0)), none, none] [] M := by
  obtain ⟨w1, w2, w3, w4, w5, w6⟩ := id hw
  have hl := h.2.1
  obtain ⟨c1, c2, c3, c4, c5, c6, c7, c8⟩ := id hc
  obtain ⟨M1, e1⟩ : ∃ M1, M1 = sI M 20 6 (nI (s.1 + 1)) := ⟨_, rfl⟩
  have s1 : Cs M M1 := by rw [e1]; exact (Cs.rf M).sI (Or.inr ⟨rfl, by decide⟩) _
  have hM1 := s1.ok hM
  have hT1 := s1.txt h
  have g6 : gI M1 20 6 = nI (s.1 + 1) := by rw [e1]; exact gI_same _ _ _ _
  have g24 : ∀ j, gI M1 24 j = gI M 24 j := fun j => by rw [e1]; exact gI_ne (Or.inl (by decide))
  have hin3 : vp_in (nI 0) 3 := vp_in_nI (by decide) (by decide)
  have hcl : (nI 0).toNatClampNeg = 0 := nI_clamp (by decide)
  refine st_ild rfl rfl ?_
  refine st_ald rfl rfl ?_
  refine st_gI rfl (by first | exact tT hM rfl | assumption | exact rw_T hM (by assumption) | exact rw_A hM (by assumption)) ?_
  -- at 28: stop
  refine wp_e c2 ?_
  by_cases q2 : 0 < s.2.2.1.length + s.2.2.2.length
  · rw [if_pos (Or.inr q2)]
    have etn : nI 0 < nI (tn s) := by
      unfold tn
      split
      · decide
      · rw [if_pos (by omega)]; decide
    refine st_b2 rfl (fun _ => ?_) (fun zq => absurd (etn) zq)
    refine st_k rfl ?_
    -- at 44: op_zret
    exact st_zret rfl (by decide) ⟨Cs.rf M, rfl, c1⟩
  have etn : ¬ nI 0 < nI (tn s) := by unfold tn; rw [if_neg (by omega), if_neg (by omega)]; decide
  refine st_b2 rfl (fun zq => absurd zq (etn)) (fun _ => ?_)
  refine st_ald rfl rfl ?_
  refine st_gR' rfl (by first | exact tT hM rfl | assumption | exact rw_T hM (by assumption) | exact rw_A hM (by assumption)) (by first | exact rR hM rfl rfl | assumption | exact rw_R hM (by assumption)) ?_
  refine st_ild rfl rfl ?_
  refine st_iald rfl (by first | exact tT hM rfl | assumption | exact rw_T hM (by assumption) | exact rw_A hM (by assumption)) (by first | decide | assumption | exact vp_in_nI (by omega) (by decide)) ?_
  -- at 38: stop
  refine wp_e (y := nI s.2.1.length) (by rw [hcl]; exact c3) ?_
  by_cases q1 : s.2.1.length = 6
  · rw [if_pos (Or.inl q1), q1]
    refine st_k rfl ?_
    refine st_b2 rfl (fun zq => absurd zq ((by decide))) (fun _ => ?_)
    refine st_k rfl ?_
    -- at 44: op_zret
    exact st_zret rfl (by decide) ⟨Cs.rf M, rfl, c1⟩
  rw [if_neg (by omega)]
  refine st_k rfl ?_
  refine st_b2 rfl (fun _ => ?_) (fun zq => absurd (nI_lt (b := 6) (by omega) (by decide)) zq)
  refine st_ald rfl rfl ?_
  refine st_dup rfl rfl ?_
  refine st_gI rfl (by first | exact tT hM rfl | assumption | exact rw_T hM (by assumption) | exact rw_A hM (by assumption)) ?_
  -- at 50: stop
  refine wp_e c1 ?_
  refine st_k rfl ?_
  refine st_ib rfl ?_
  refine st_pI rfl (by first | exact tT hM rfl | assumption | exact rw_T hM (by assumption) | exact rw_A hM (by assumption)) ?_
  -- at 55: stop
  rw [nI_1, ← e1]
  refine st_ild rfl rfl ?_
  refine st_k rfl ?_
  refine st_ib rfl ?_
  refine st_ald rfl rfl ?_
  refine st_gR' rfl (by first | exact tT hM1 rfl | assumption | exact rw_T hM1 (by assumption) | exact rw_A hM1 (by assumption)) (by first | exact rR hM1 rfl rfl | assumption | exact rw_R hM1 (by assumption)) ?_
  refine st_ild rfl rfl ?_
  refine st_iald rfl (by first | exact tT hM1 rfl | assumption | exact rw_T hM1 (by assumption) | exact rw_A hM1 (by assumption)) (by first | decide | assumption | exact vp_in_nI (by omega) (by decide)) ?_
  -- at 67: stop
  refine wp_e (y := nI s.2.1.length) (by rw [hcl, g24]; exact c3) ?_
  refine st_ib rfl ?_
  -- at 68: stop
  refine wp_e (y := nI s.2.1.length) (by rw [show nI 0 * 6 = nI 0 by decide, nI_add, Nat.zero_add]) ?_
  refine st_ist rfl ?_
  show pm_WP _ _ _ 70 [some (.ref 20), some (.ref (118 + 2 * t)), some (.int b), some (.int kv), some (.int (nI 0)), some (.int (nI (s.2.1.length))), none] [] _
  obtain ⟨r, M2, hcall, hw2, hm⟩ := c_takeKnot d hM1 ht hT1 (p := s.1 + 1) (i := s.2.1.length) (by omega) g6 (by omega) kv
  have hM2 := hw2.ok hM1
  unfold knF
  rcases fgn_cs (l := l) (p := s.1 + 1) (lo := 1) (n := 10) (by decide) (by omega) with ⟨e, _⟩ | ⟨a0, e, _, _, ha0, _⟩
  · rw [e] at hm ⊢
    obtain ⟨hr, k6⟩ := hm
    subst hr
    refine st_ild rfl rfl ?_
    refine st_b1 rfl (fun zq => absurd zq ((fun z => z rfl))) (fun _ => ?_)
    refine st_ald rfl rfl ?_
    refine st_ald rfl rfl ?_
    refine st_ild rfl rfl ?_
    refine st_ild rfl rfl ?_
    refine st_cav (As := [_, _, _]) rfl rfl rfl (by first | exact tT hM1 rfl | assumption | exact rw_T hM1 (by assumption) | exact rw_A hM1 (by assumption)) (Nat.le_of_ble_eq_true rfl) (hcall) ?_
    refine st_go rfl ?_
    refine st_ist rfl ?_
    refine st_ild rfl rfl ?_
    refine st_b1 rfl (fun _ => ?_) (fun zq => absurd (rfl) zq)
    refine st_ild rfl rfl ?_
    -- at 121: op_zret
    exact st_zret rfl (by decide) ⟨s1.tr hw2.cs, rfl, k6⟩
  rw [e] at hm ⊢
  dsimp only at hm ⊢
  rcases fgn_cs (l := l) (p := s.1 + 2) (lo := 0) (n := 10) (by decide) (by omega) with ⟨e, _⟩ | ⟨a1, e, _, _, ha1, _⟩
  · rw [show s.1 + 1 + 1 = s.1 + 2 from rfl, e] at hm
    rw [e]
    obtain ⟨hr, k6⟩ := hm
    subst hr
    refine st_ild rfl rfl ?_
    refine st_b1 rfl (fun zq => absurd zq ((fun z => z rfl))) (fun _ => ?_)
    refine st_ald rfl rfl ?_
    refine st_ald rfl rfl ?_
    refine st_ild rfl rfl ?_
    refine st_ild rfl rfl ?_
    refine st_cav (As := [_, _, _]) rfl rfl rfl (by first | exact tT hM1 rfl | assumption | exact rw_T hM1 (by assumption) | exact rw_A hM1 (by assumption)) (Nat.le_of_ble_eq_true rfl) (hcall) ?_
    refine st_go rfl ?_
    refine st_ist rfl ?_
    refine st_ild rfl rfl ?_
    refine st_b1 rfl (fun _ => ?_) (fun zq => absurd (rfl) zq)
    refine st_ild rfl rfl ?_
    -- at 121: op_zret
    exact st_zret rfl (by decide) ⟨s1.tr hw2.cs, rfl, k6⟩
  rw [show s.1 + 1 + 1 = s.1 + 2 from rfl, e] at hm
  rw [e]
  dsimp only at hm ⊢
  obtain ⟨hr, k6, k21, k22, k23⟩ := hm
  subst hr
  have hM3 : pm_ok (sI M2 20 7 (nI 0)) := hM2
  refine st_ild rfl rfl ?_
  refine st_b1 rfl (fun zq => absurd zq ((fun z => z rfl))) (fun _ => ?_)
  refine st_ald rfl rfl ?_
  refine st_ald rfl rfl ?_
  refine st_ild rfl rfl ?_
  refine st_ild rfl rfl ?_
  refine st_cav (As := [_, _, _]) rfl rfl rfl (by first | exact tT hM1 rfl | assumption | exact rw_T hM1 (by assumption) | exact rw_A hM1 (by assumption)) (Nat.le_of_ble_eq_true rfl) (hcall) ?_
  refine st_go rfl ?_
  -- at 95: stop
  refine st_ist rfl ?_
  show pm_WP _ _ _ 97 [some (.ref 20), some (.ref (118 + 2 * t)), some (.int b), some (.int kv), some (.int (nI 0)), some (.int (nI (s.2.1.length))), some (.int 1)] [] _
  refine st_ild rfl rfl ?_
  refine st_b1 rfl (fun zq => absurd zq ((by decide))) (fun _ => ?_)
  refine st_ald rfl rfl ?_
  refine st_ild rfl rfl ?_
  refine st_pI rfl (by first | exact tT hM2 rfl | assumption | exact rw_T hM2 (by assumption) | exact rw_A hM2 (by assumption)) ?_
  -- at 108: stop
  refine st_ald rfl rfl ?_
  refine st_gR' rfl (by first | exact tT hM3 rfl | assumption | exact rw_T hM3 (by assumption) | exact rw_A hM3 (by assumption)) (by first | exact rR hM3 rfl rfl | assumption | exact rw_R hM3 (by assumption)) ?_
  refine st_ild rfl rfl ?_
  refine st_dup2 rfl rfl rfl ?_
  refine st_iald rfl (by first | exact tT hM3 rfl | assumption | exact rw_T hM3 (by assumption) | exact rw_A hM3 (by assumption)) (by first | decide | assumption | exact vp_in_nI (by omega) (by decide)) ?_
  -- at 116: stop
  refine wp_e (y := nI s.2.1.length) (by rw [hcl, gI_ne (Or.inl (by decide)), hw2.2.2.2 24 0 (by omega) (by omega), g24]; exact c3) ?_
  refine st_k rfl ?_
  refine st_ib rfl ?_
  refine st_iast rfl (by first | exact tT hM3 rfl | assumption | exact rw_T hM3 (by assumption) | exact rw_A hM3 (by assumption)) (by first | decide | assumption | exact vp_in_nI (by omega) (by decide)) ?_
  refine st_ild rfl rfl ?_
  -- at 121: op_zret
  rw [hcl, nI_1]
  rw [hkv] at k21
  exact st_zret rfl (by decide) ⟨((s1.tr hw2.cs).sI (Or.inr ⟨rfl, by decide⟩) _).sI (Or.inl (by decide)) _, rfl, hc.kn (by omega) (by omega) (by rw [e1] at hw2; exact hw2) k6 k21 k22 k23⟩
theorem c_takeItem (d : Nat) (hM : pm_ok M) (ht : t < 4) (h : CTxt M (118 + 2 * t) (some l)) (hw : pwf s) (hc : CP s M) (hs : s.1 < l.length) :
    ∃ r M', pm_call (d + 3) 29 [.ref 20, .ref (118 + 2 * t)] M r M' ∧ Cs M M' ∧ (match itn l s with
      | .inl q => r = some (.int 0) ∧ gI M' 20 6 = nI q
      | .inr s' => r = some (.int 1) ∧ CP s' M') := by
  refine eq_29 (Nat.le_of_ble_eq_true rfl) ?_
  obtain ⟨h1, h2, h3⟩ := id h
  obtain ⟨c1, c2, c3, c4, c5, c6, c7, c8⟩ := id hc
  have t1 := tTxt hM ht
  have t3 := rTxtA hM ht
  have t2 := tTxtA hM ht
  have hin : vp_in (nI s.1) 80 := vp_in_nI (by omega) (by decide)
  refine st_ald rfl rfl ?_
  refine st_gR' rfl (by first | exact tT hM rfl | assumption | exact rw_T hM (by assumption) | exact rw_A hM (by assumption)) (by first | exact rR hM rfl rfl | assumption | exact rw_R hM (by assumption)) ?_
  refine st_ald rfl rfl ?_
  refine st_gI rfl (by first | exact tT hM rfl | assumption | exact rw_T hM (by assumption) | exact rw_A hM (by assumption)) ?_
  -- at 8: stop
  refine wp_e c1 ?_
  refine st_bald rfl (t2) (hin) ?_
  -- at 9: stop
  refine wp_e (y := l.getD s.1 0) (by rw [nI_clamp (by omega)]; exact h3 s.1 hs) ?_
  unfold itn
  generalize hb : l.getD s.1 0 = b
  refine st_ist rfl ?_
  refine st_ild rfl rfl ?_
  refine st_call (As := [_]) rfl rfl rfl (Nat.le_of_ble_eq_true rfl) (c_kindOf (d + 1) b) ?_
  -- at 14: stop
  obtain ⟨kv, hkv⟩ : ∃ kv : Int32, kv = (match kd0 b with | none => -1 | some k => nI k) := ⟨_, rfl⟩
  have hso : pm_call (d + 1 + 1) 35 [.int b, .int kv] M (some (.int (match kd0 b with | some _ => 0 | none => if b = 120 then 1 else if b = 121 then 2 else -1))) M := by rw [hkv]; exact c_sortOf (d + 1) b
  refine wp_e hkv.symm ?_
  refine st_ist rfl ?_
  refine st_ild rfl rfl ?_
  refine st_ild rfl rfl ?_
  refine st_call (As := [_, _]) rfl rfl rfl (Nat.le_of_ble_eq_true rfl) (hso) ?_
  -- at 20: stop
  by_cases b1 : b = 120
  · rw [if_pos b1]
    refine wp_e (y := nI 1) (by rw [kd0_xy (Or.inl b1)]; dsimp only; rw [if_pos b1]; decide) ?_
    refine st_ist rfl ?_
    exact ti_la d hM ht h hw hc hs b kv
  · rw [if_neg b1]
    by_cases b2 : b = 121
    · rw [if_pos b2]
      refine wp_e (y := nI 2) (by rw [kd0_xy (Or.inr b2)]; dsimp only; rw [if_neg b1, if_pos b2]; decide) ?_
      refine st_ist rfl ?_
      exact ti_pa d hM ht h hw hc hs b kv
    · rw [if_neg b2]
      cases ek : kd0 b with
      | none =>
        refine wp_e (y := -1) (by dsimp only; rw [if_neg b1, if_neg b2]) ?_
        refine st_ist rfl ?_
        show pm_WP _ _ _ 22 [some (.ref 20), some (.ref (118 + 2 * t)), some (.int b), some (.int kv), some (.int (-1)), none, none] [] _
        refine st_ild rfl rfl ?_
        refine st_ald rfl rfl ?_
        refine st_gI rfl (by first | exact tT hM rfl | assumption | exact rw_T hM (by assumption) | exact rw_A hM (by assumption)) ?_
        -- at 28: stop
        refine wp_e c2 ?_
        have etn : (-1 : Int32) < nI (tn s) := by unfold tn; split; decide; split <;> decide
        refine st_b2 rfl (fun _ => ?_) (fun zq => absurd (etn) zq)
        refine st_k rfl ?_
        -- at 44: op_zret
        exact st_zret rfl (by decide) ⟨Cs.rf M, rfl, c1⟩
      | some k =>
        refine wp_e (y := nI 0) rfl ?_
        refine st_ist rfl ?_
        rw [ek] at hkv
        exact ti_kn d hM ht h hw hc hs b kv k hkv
end PRE

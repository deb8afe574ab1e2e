/-! THE CLASS reads a craft's text: items -/
/-- scratch of the reading: the place, and one slot -/
def Cw (i : Nat) (M M' : pm_M) : Prop := M'.1 = M.1 ∧ (∀ k f, gR M' k f = gR M k f) ∧ (∀ k j, gL M' k j = gL M k j) ∧ ∀ k j, ¬ (k = 20 ∧ j = 6) → ¬ ((k = 21 ∨ k = 22 ∨ k = 23) ∧ j = i) → gI M' k j = gI M k j
theorem Cw.rf (i : Nat) (M : pm_M) : Cw i M M := ⟨rfl, fun _ _ => rfl, fun _ _ => rfl, fun _ _ _ _ => rfl⟩
theorem Cw.ok {i : Nat} {M M' : pm_M} (h : Cw i M M') (ho : pm_ok M) : pm_ok M' := ⟨h.1.trans ho.1, fun k f hf => (h.2.1 k f).trans (ho.2 k f hf)⟩
theorem Cw.p {i : Nat} {M M' : pm_M} (h : Cw i M M') (v : Int32) : Cw i M (sI M' 20 6 v) := ⟨h.1, h.2.1, h.2.2.1, fun k j h1 h2 => by rw [gI_sI, if_neg h1]; exact h.2.2.2 k j h1 h2⟩
theorem Cw.s {i : Nat} {M M' : pm_M} (h : Cw i M M') {q : Nat} (hq : q = 21 ∨ q = 22 ∨ q = 23) (v : Int32) : Cw i M (sI M' q i v) := ⟨h.1, h.2.1, h.2.2.1, fun k j h1 h2 => by rw [gI_sI, if_neg (fun z => h2 ⟨by rw [z.1]; exact hq, z.2⟩)]; exact h.2.2.2 k j h1 h2⟩
theorem Cw.txt {i : Nat} {M M' : pm_M} (h : Cw i M M') {t : Nat} {x : Option (List Int32)} (g : CTxt M (118 + 2 * t) x) : CTxt M' (118 + 2 * t) x := g.kept (fun j => h.2.2.2 _ _ (by omega) (by omega)) (fun j => h.2.2.2 _ _ (by omega) (by omega))
section PRD
variable {M : pm_M} {t : Nat} {l : List Int32}
theorem c_takeKnot (d : Nat) (hM : pm_ok M) (ht : t < 4) (h : CTxt M (118 + 2 * t) (some l)) {p i : Nat} (hp : p ≤ 80) (h6 : gI M 20 6 = nI p) (hi : i < 6) (k : Int32) :
    ∃ r M', pm_call (d + 2) 30 [.ref 20, .ref (118 + 2 * t), .int (nI i), .int k] M r M' ∧ Cw i M M' ∧ (match fgn l p 1 10 with
      | none => r = some (.int 0) ∧ gI M' 20 6 = nI p
      | some z => match fgn l (p + 1) 0 10 with
        | none => r = some (.int 0) ∧ gI M' 20 6 = nI (p + 1)
        | some s => r = some (.int 1) ∧ gI M' 20 6 = nI (p + 2) ∧ gI M' 21 i = k ∧ gI M' 22 i = nI z ∧ gI M' 23 i = nI s) := by
  refine eq_30 (Nat.le_of_ble_eq_true rfl) ?_
  have hl := h.2.1
  have hin : vp_in (nI i) 18 := vp_in_nI (by omega) (by decide)
  have hcl : (nI i).toNatClampNeg = i := nI_clamp (by omega)
  refine st_ald rfl rfl ?_
  refine st_gR' rfl (by first | exact tT hM rfl | assumption | exact rw_T hM (by assumption) | exact rw_A hM (by assumption)) (by first | exact rR hM rfl rfl | assumption | exact rw_R hM (by assumption)) ?_
  refine st_ild rfl rfl ?_
  refine st_ild rfl rfl ?_
  refine st_iast rfl (by first | exact tT hM rfl | assumption | exact rw_T hM (by assumption) | exact rw_A hM (by assumption)) (by first | decide | assumption | exact vp_in_nI (by omega) (by decide)) ?_
  -- at 7: stop
  rw [hcl]
  obtain ⟨M1, e1⟩ : ∃ M1, M1 = sI M 21 i k := ⟨_, rfl⟩
  have w1 : Cw i M M1 := by rw [e1]; exact (Cw.rf i M).s (Or.inl rfl) k
  have g6 : gI M1 20 6 = nI p := by rw [e1, gI_ne (Or.inl (by decide))]; exact h6
  have g21 : gI M1 21 i = k := by rw [e1]; exact gI_same _ _ _ _
  rw [← e1]
  have hM1 := w1.ok hM
  have hT1 := w1.txt h
  rcases fgn_cs (l := l) (p := p) (lo := 1) (n := 10) (by decide) (by decide) with ⟨e, _⟩ | ⟨z, e, _, hz1, hz, h0⟩
  · rw [e]
    refine st_ald rfl rfl ?_
    refine st_gR' rfl (by first | exact tT hM1 rfl | assumption | exact rw_T hM1 (by assumption) | exact rw_A hM1 (by assumption)) (by first | exact rR hM1 rfl rfl | assumption | exact rw_R hM1 (by assumption)) ?_
    refine st_ild rfl rfl ?_
    refine st_ald rfl rfl ?_
    refine st_ald rfl rfl ?_
    refine st_k rfl ?_
    refine st_k rfl ?_
    refine st_cav (As := [_, _, _]) rfl rfl rfl (by first | exact tT hM1 rfl | assumption | exact rw_T hM1 (by assumption) | exact rw_A hM1 (by assumption)) (Nat.le_of_ble_eq_true rfl) (c_fgN d hM1 ht hT1 hp g6 (lo := 1) (n := 10) (by decide) (by decide) (by decide) (by decide) e) ?_
    refine st_iast rfl (by first | exact tT hM1 rfl | assumption | exact rw_T hM1 (by assumption) | exact rw_A hM1 (by assumption)) (by first | decide | assumption | exact vp_in_nI (by omega) (by decide)) ?_
    -- at 21: stop
    rw [hcl]
    have hM2 : pm_ok (sI M1 22 i (-1)) := hM1
    refine st_ald rfl rfl ?_
    refine st_gR' rfl (by first | exact tT hM2 rfl | assumption | exact rw_T hM2 (by assumption) | exact rw_A hM2 (by assumption)) (by first | exact rR hM2 rfl rfl | assumption | exact rw_R hM2 (by assumption)) ?_
    refine st_ild rfl rfl ?_
    refine st_iald rfl (by first | exact tT hM2 rfl | assumption | exact rw_T hM2 (by assumption) | exact rw_A hM2 (by assumption)) (by first | decide | assumption | exact vp_in_nI (by omega) (by decide)) ?_
    -- at 27: stop
    refine wp_e (y := -1) (by rw [hcl]; exact gI_same _ _ _ _) ?_
    refine st_b1 rfl (fun zq => absurd zq ((by decide))) (fun _ => ?_)
    refine st_k rfl ?_
    -- at 31: op_zret
    exact st_zret rfl (by decide) ⟨w1.s (Or.inr (Or.inl rfl)) _, rfl, by rw [gI_ne (Or.inl (by decide))]; exact g6⟩
  · rw [e]
    refine st_ald rfl rfl ?_
    refine st_gR' rfl (by first | exact tT hM1 rfl | assumption | exact rw_T hM1 (by assumption) | exact rw_A hM1 (by assumption)) (by first | exact rR hM1 rfl rfl | assumption | exact rw_R hM1 (by assumption)) ?_
    refine st_ild rfl rfl ?_
    refine st_ald rfl rfl ?_
    refine st_ald rfl rfl ?_
    refine st_k rfl ?_
    refine st_k rfl ?_
    refine st_cav (As := [_, _, _]) rfl rfl rfl (by first | exact tT hM1 rfl | assumption | exact rw_T hM1 (by assumption) | exact rw_A hM1 (by assumption)) (Nat.le_of_ble_eq_true rfl) (c_fgS d hM1 ht hT1 hp g6 (lo := 1) (n := 10) (by decide) (by decide) (by decide) (by decide) e) ?_
    refine st_iast rfl (by first | exact tT hM1 rfl | assumption | exact rw_T hM1 (by assumption) | exact rw_A hM1 (by assumption)) (by first | decide | assumption | exact vp_in_nI (by omega) (by decide)) ?_
    -- at 21: stop
    rw [hcl]
    obtain ⟨M2, e2⟩ : ∃ M2, M2 = sI (sI M1 20 6 (nI (p + 1))) 22 i (nI z) := ⟨_, rfl⟩
    have w2 : Cw i M M2 := by rw [e2]; exact (w1.p _).s (Or.inr (Or.inl rfl)) _
    have g6 : gI M2 20 6 = nI (p + 1) := by rw [e2, gI_ne (Or.inl (by decide))]; exact gI_same _ _ _ _
    have g21 : gI M2 21 i = k := by rw [e2, gI_ne (Or.inl (by decide)), gI_ne (Or.inl (by decide))]; exact g21
    have g22 : gI M2 22 i = nI z := by rw [e2]; exact gI_same _ _ _ _
    rw [← e2]
    have hM2 := w2.ok hM
    have hT2 := w2.txt h
    refine st_ald rfl rfl ?_
    refine st_gR' rfl (by first | exact tT hM2 rfl | assumption | exact rw_T hM2 (by assumption) | exact rw_A hM2 (by assumption)) (by first | exact rR hM2 rfl rfl | assumption | exact rw_R hM2 (by assumption)) ?_
    refine st_ild rfl rfl ?_
    refine st_iald rfl (by first | exact tT hM2 rfl | assumption | exact rw_T hM2 (by assumption) | exact rw_A hM2 (by assumption)) (by first | decide | assumption | exact vp_in_nI (by omega) (by decide)) ?_
    -- at 27: stop
    refine wp_e (y := nI z) (by rw [hcl]; exact g22) ?_
    rcases fgn_cs (l := l) (p := p + 1) (lo := 0) (n := 10) (by decide) (by decide) with ⟨e, _⟩ | ⟨s, e, _, _, hs, _⟩
    · rw [e]
      refine st_b1 rfl (fun _ => ?_) (fun zq => absurd (nI_pos' (by omega)) zq)
      refine st_ald rfl rfl ?_
      refine st_gR' rfl (by first | exact tT hM2 rfl | assumption | exact rw_T hM2 (by assumption) | exact rw_A hM2 (by assumption)) (by first | exact rR hM2 rfl rfl | assumption | exact rw_R hM2 (by assumption)) ?_
      refine st_ild rfl rfl ?_
      refine st_ald rfl rfl ?_
      refine st_ald rfl rfl ?_
      refine st_k rfl ?_
      refine st_k rfl ?_
      refine st_cav (As := [_, _, _]) rfl rfl rfl (by first | exact tT hM2 rfl | assumption | exact rw_T hM2 (by assumption) | exact rw_A hM2 (by assumption)) (Nat.le_of_ble_eq_true rfl) (c_fgN d hM2 ht hT2 (p := p + 1) (by omega) g6 (lo := 0) (n := 10) (by decide) (by decide) (by decide) (by decide) e) ?_
      refine st_iast rfl (by first | exact tT hM2 rfl | assumption | exact rw_T hM2 (by assumption) | exact rw_A hM2 (by assumption)) (by first | decide | assumption | exact vp_in_nI (by omega) (by decide)) ?_
      -- at 46: stop
      rw [hcl]
      have hM3 : pm_ok (sI M2 23 i (-1)) := hM2
      refine st_ald rfl rfl ?_
      refine st_gR' rfl (by first | exact tT hM3 rfl | assumption | exact rw_T hM3 (by assumption) | exact rw_A hM3 (by assumption)) (by first | exact rR hM3 rfl rfl | assumption | exact rw_R hM3 (by assumption)) ?_
      refine st_ild rfl rfl ?_
      refine st_iald rfl (by first | exact tT hM3 rfl | assumption | exact rw_T hM3 (by assumption) | exact rw_A hM3 (by assumption)) (by first | decide | assumption | exact vp_in_nI (by omega) (by decide)) ?_
      -- at 52: stop
      refine wp_e (y := -1) (by rw [hcl]; exact gI_same _ _ _ _) ?_
      refine st_b1 rfl (fun _ => ?_) (fun zq => absurd ((by decide)) zq)
      refine st_k rfl ?_
      -- at 60: op_zret
      exact st_zret rfl (by decide) ⟨w2.s (Or.inr (Or.inr rfl)) _, rfl, by rw [gI_ne (Or.inl (by decide))]; exact g6⟩
    · rw [e]
      refine st_b1 rfl (fun _ => ?_) (fun zq => absurd (nI_pos' (by omega)) zq)
      refine st_ald rfl rfl ?_
      refine st_gR' rfl (by first | exact tT hM2 rfl | assumption | exact rw_T hM2 (by assumption) | exact rw_A hM2 (by assumption)) (by first | exact rR hM2 rfl rfl | assumption | exact rw_R hM2 (by assumption)) ?_
      refine st_ild rfl rfl ?_
      refine st_ald rfl rfl ?_
      refine st_ald rfl rfl ?_
      refine st_k rfl ?_
      refine st_k rfl ?_
      refine st_cav (As := [_, _, _]) rfl rfl rfl (by first | exact tT hM2 rfl | assumption | exact rw_T hM2 (by assumption) | exact rw_A hM2 (by assumption)) (Nat.le_of_ble_eq_true rfl) (c_fgS d hM2 ht hT2 (p := p + 1) (by omega) g6 (lo := 0) (n := 10) (by decide) (by decide) (by decide) (by decide) e) ?_
      refine st_iast rfl (by first | exact tT hM2 rfl | assumption | exact rw_T hM2 (by assumption) | exact rw_A hM2 (by assumption)) (by first | decide | assumption | exact vp_in_nI (by omega) (by decide)) ?_
      -- at 46: stop
      rw [hcl]
      have hM3 : pm_ok (sI (sI M2 20 6 (nI (p + 1 + 1))) 23 i (nI s)) := hM2
      refine st_ald rfl rfl ?_
      refine st_gR' rfl (by first | exact tT hM3 rfl | assumption | exact rw_T hM3 (by assumption) | exact rw_A hM3 (by assumption)) (by first | exact rR hM3 rfl rfl | assumption | exact rw_R hM3 (by assumption)) ?_
      refine st_ild rfl rfl ?_
      refine st_iald rfl (by first | exact tT hM3 rfl | assumption | exact rw_T hM3 (by assumption) | exact rw_A hM3 (by assumption)) (by first | decide | assumption | exact vp_in_nI (by omega) (by decide)) ?_
      -- at 52: stop
      refine wp_e (y := nI s) (by rw [hcl]; exact gI_same _ _ _ _) ?_
      refine st_b1 rfl (fun zq => absurd zq (nI_pos (by omega))) (fun _ => ?_)
      refine st_k rfl ?_
      refine st_go rfl ?_
      -- at 60: op_zret
      exact st_zret rfl (by decide) ⟨(w2.p _).s (Or.inr (Or.inr rfl)) _, rfl, by rw [gI_ne (Or.inl (by decide))]; exact gI_same _ _ _ _, by rw [gI_ne (Or.inl (by decide)), gI_ne (Or.inl (by decide))]; exact g21, by rw [gI_ne (Or.inl (by decide)), gI_ne (Or.inl (by decide))]; exact g22, gI_same _ _ _ _⟩
theorem c_takeLawOrPair (d : Nat) (hM : pm_ok M) (ht : t < 4) (h : CTxt M (118 + 2 * t) (some l)) {p i n w : Nat} (hp : p ≤ 80) (h6 : gI M 20 6 = nI p) (hi : i < 18) (hn : n ≤ 6) (h24 : gI M 24 0 = nI n) (hw : w = 1 ∨ w = 2) :
    ∃ r M', pm_call (d + 2) 31 [.ref 20, .ref (118 + 2 * t), .int (nI i), .int (nI w)] M r M' ∧ Cw i M M' ∧ (match fgn l p 0 n with
      | none => r = some (.int 0) ∧ gI M' 20 6 = nI p
      | some a => match fgn l (p + 1) 0 n with
        | none => r = some (.int 0) ∧ gI M' 20 6 = nI (p + 1)
        | some b => if w = 1 then r = some (.int 1) ∧ gI M' 20 6 = nI (p + 2) ∧ gI M' 21 i = nI a ∧ gI M' 22 i = nI b else match fgn l (p + 2) 0 10 with
          | none => r = some (.int 0) ∧ gI M' 20 6 = nI (p + 2)
          | some s => r = some (.int 1) ∧ gI M' 20 6 = nI (p + 3) ∧ gI M' 21 i = nI a ∧ gI M' 22 i = nI b ∧ gI M' 23 i = nI s) := by
  refine eq_31 (Nat.le_of_ble_eq_true rfl) ?_
  have hl := h.2.1
  have hin : vp_in (nI i) 18 := vp_in_nI (by omega) (by decide)
  have hcl : (nI i).toNatClampNeg = i := nI_clamp (by omega)
  have hw2 : w < 2 ^ 31 := by omega
  refine st_ald rfl rfl ?_
  refine st_gR' rfl (by first | exact tT hM rfl | assumption | exact rw_T hM (by assumption) | exact rw_A hM (by assumption)) (by first | exact rR hM rfl rfl | assumption | exact rw_R hM (by assumption)) ?_
  refine st_k rfl ?_
  refine st_iald rfl (by first | exact tT hM rfl | assumption | exact rw_T hM (by assumption) | exact rw_A hM (by assumption)) (show vp_in (nI 0) 3 from vp_in_nI (by decide) (by decide)) ?_
  -- at 6: stop
  refine wp_e (y := nI n) h24 ?_
  rcases fgn_cs (l := l) (p := p) (lo := 0) (n := n) (by decide) (by omega) with ⟨e, _⟩ | ⟨a, e, _, _, ha, h0⟩
  · rw [e]
    refine st_k rfl ?_
    refine st_ib rfl ?_
    refine st_ist rfl ?_
    refine st_ald rfl rfl ?_
    refine st_gR' rfl (by first | exact tT hM rfl | assumption | exact rw_T hM (by assumption) | exact rw_A hM (by assumption)) (by first | exact rR hM rfl rfl | assumption | exact rw_R hM (by assumption)) ?_
    refine st_ild rfl rfl ?_
    refine st_ald rfl rfl ?_
    refine st_ald rfl rfl ?_
    refine st_k rfl ?_
    refine st_ild rfl rfl ?_
    refine st_cav (As := [_, _, _]) rfl rfl rfl (by first | exact tT hM rfl | assumption | exact rw_T hM (by assumption) | exact rw_A hM (by assumption)) (Nat.le_of_ble_eq_true rfl) (c_fgN d hM ht h hp h6 (lo := 0) (n := n) (by decide) (by omega) (by decide) rfl e) ?_
    refine st_iast rfl (by first | exact tT hM rfl | assumption | exact rw_T hM (by assumption) | exact rw_A hM (by assumption)) (by first | decide | assumption | exact vp_in_nI (by omega) (by decide)) ?_
    -- at 24: stop
    rw [hcl]
    have hM2 : pm_ok (sI M 21 i (-1)) := hM
    refine st_ald rfl rfl ?_
    refine st_gR' rfl (by first | exact tT hM2 rfl | assumption | exact rw_T hM2 (by assumption) | exact rw_A hM2 (by assumption)) (by first | exact rR hM2 rfl rfl | assumption | exact rw_R hM2 (by assumption)) ?_
    refine st_ild rfl rfl ?_
    refine st_iald rfl (by first | exact tT hM2 rfl | assumption | exact rw_T hM2 (by assumption) | exact rw_A hM2 (by assumption)) (by first | decide | assumption | exact vp_in_nI (by omega) (by decide)) ?_
    -- at 30: stop
    refine wp_e (y := -1) (by rw [hcl]; exact gI_same _ _ _ _) ?_
    refine st_b1 rfl (fun zq => absurd zq ((by decide))) (fun _ => ?_)
    refine st_k rfl ?_
    -- at 34: op_zret
    exact st_zret rfl (by decide) ⟨(Cw.rf i M).s (Or.inl rfl) _, rfl, by rw [gI_ne (Or.inl (by decide))]; exact h6⟩
  · rw [e]
    refine st_k rfl ?_
    refine st_ib rfl ?_
    refine st_ist rfl ?_
    refine st_ald rfl rfl ?_
    refine st_gR' rfl (by first | exact tT hM rfl | assumption | exact rw_T hM (by assumption) | exact rw_A hM (by assumption)) (by first | exact rR hM rfl rfl | assumption | exact rw_R hM (by assumption)) ?_
    refine st_ild rfl rfl ?_
    refine st_ald rfl rfl ?_
    refine st_ald rfl rfl ?_
    refine st_k rfl ?_
    refine st_ild rfl rfl ?_
    refine st_cav (As := [_, _, _]) rfl rfl rfl (by first | exact tT hM rfl | assumption | exact rw_T hM (by assumption) | exact rw_A hM (by assumption)) (Nat.le_of_ble_eq_true rfl) (c_fgS d hM ht h hp h6 (lo := 0) (n := n) (by decide) (by omega) (by decide) rfl e) ?_
    refine st_iast rfl (by first | exact tT hM rfl | assumption | exact rw_T hM (by assumption) | exact rw_A hM (by assumption)) (by first | decide | assumption | exact vp_in_nI (by omega) (by decide)) ?_
    -- at 24: stop
    rw [hcl]
    obtain ⟨M1, e1⟩ : ∃ M1, M1 = sI (sI M 20 6 (nI (p + 1))) 21 i (nI a) := ⟨_, rfl⟩
    have w1 : Cw i M M1 := by rw [e1]; exact ((Cw.rf i M).p _).s (Or.inl rfl) _
    have g6 : gI M1 20 6 = nI (p + 1) := by rw [e1, gI_ne (Or.inl (by decide))]; exact gI_same _ _ _ _
    have g21 : gI M1 21 i = nI a := by rw [e1]; exact gI_same _ _ _ _
    rw [← e1]
    have hM1 := w1.ok hM
    have hT1 := w1.txt h
    refine st_ald rfl rfl ?_
    refine st_gR' rfl (by first | exact tT hM1 rfl | assumption | exact rw_T hM1 (by assumption) | exact rw_A hM1 (by assumption)) (by first | exact rR hM1 rfl rfl | assumption | exact rw_R hM1 (by assumption)) ?_
    refine st_ild rfl rfl ?_
    refine st_iald rfl (by first | exact tT hM1 rfl | assumption | exact rw_T hM1 (by assumption) | exact rw_A hM1 (by assumption)) (by first | decide | assumption | exact vp_in_nI (by omega) (by decide)) ?_
    -- at 30: stop
    refine wp_e (y := nI a) (by rw [hcl]; exact g21) ?_
    rcases fgn_cs (l := l) (p := p + 1) (lo := 0) (n := n) (by decide) (by omega) with ⟨e, _⟩ | ⟨b, e, _, _, hb, h0⟩
    · rw [e]
      refine st_b1 rfl (fun _ => ?_) (fun zq => absurd (nI_pos' (by omega)) zq)
      refine st_ald rfl rfl ?_
      refine st_gR' rfl (by first | exact tT hM1 rfl | assumption | exact rw_T hM1 (by assumption) | exact rw_A hM1 (by assumption)) (by first | exact rR hM1 rfl rfl | assumption | exact rw_R hM1 (by assumption)) ?_
      refine st_ild rfl rfl ?_
      refine st_ald rfl rfl ?_
      refine st_ald rfl rfl ?_
      refine st_k rfl ?_
      refine st_ild rfl rfl ?_
      refine st_cav (As := [_, _, _]) rfl rfl rfl (by first | exact tT hM1 rfl | assumption | exact rw_T hM1 (by assumption) | exact rw_A hM1 (by assumption)) (Nat.le_of_ble_eq_true rfl) (c_fgN d hM1 ht hT1 (p := p + 1) (by omega) g6 (lo := 0) (n := n) (by decide) (by omega) (by decide) rfl e) ?_
      refine st_iast rfl (by first | exact tT hM1 rfl | assumption | exact rw_T hM1 (by assumption) | exact rw_A hM1 (by assumption)) (by first | decide | assumption | exact vp_in_nI (by omega) (by decide)) ?_
      -- at 49: stop
      rw [hcl]
      have hM2 : pm_ok (sI M1 22 i (-1)) := hM1
      refine st_ald rfl rfl ?_
      refine st_gR' rfl (by first | exact tT hM2 rfl | assumption | exact rw_T hM2 (by assumption) | exact rw_A hM2 (by assumption)) (by first | exact rR hM2 rfl rfl | assumption | exact rw_R hM2 (by assumption)) ?_
      refine st_ild rfl rfl ?_
      refine st_iald rfl (by first | exact tT hM2 rfl | assumption | exact rw_T hM2 (by assumption) | exact rw_A hM2 (by assumption)) (by first | decide | assumption | exact vp_in_nI (by omega) (by decide)) ?_
      -- at 55: stop
      refine wp_e (y := -1) (by rw [hcl]; exact gI_same _ _ _ _) ?_
      refine st_b1 rfl (fun _ => ?_) (fun zq => absurd ((by decide)) zq)
      refine st_ald rfl rfl ?_
      refine st_gR' rfl (by first | exact tT hM2 rfl | assumption | exact rw_T hM2 (by assumption) | exact rw_A hM2 (by assumption)) (by first | exact rR hM2 rfl rfl | assumption | exact rw_R hM2 (by assumption)) ?_
      refine st_ild rfl rfl ?_
      refine st_iald rfl (by first | exact tT hM2 rfl | assumption | exact rw_T hM2 (by assumption) | exact rw_A hM2 (by assumption)) (by first | decide | assumption | exact vp_in_nI (by omega) (by decide)) ?_
      -- at 69: stop
      refine wp_e (y := -1) (by rw [hcl]; exact gI_same _ _ _ _) ?_
      refine st_b1 rfl (fun _ => ?_) (fun zq => absurd ((by decide)) zq)
      refine st_k rfl ?_
      -- at 77: op_zret
      exact st_zret rfl (by decide) ⟨w1.s (Or.inr (Or.inl rfl)) _, rfl, by rw [gI_ne (Or.inl (by decide))]; exact g6⟩
    · rw [e]
      refine st_b1 rfl (fun _ => ?_) (fun zq => absurd (nI_pos' (by omega)) zq)
      refine st_ald rfl rfl ?_
      refine st_gR' rfl (by first | exact tT hM1 rfl | assumption | exact rw_T hM1 (by assumption) | exact rw_A hM1 (by assumption)) (by first | exact rR hM1 rfl rfl | assumption | exact rw_R hM1 (by assumption)) ?_
      refine st_ild rfl rfl ?_
      refine st_ald rfl rfl ?_
      refine st_ald rfl rfl ?_
      refine st_k rfl ?_
      refine st_ild rfl rfl ?_
      refine st_cav (As := [_, _, _]) rfl rfl rfl (by first | exact tT hM1 rfl | assumption | exact rw_T hM1 (by assumption) | exact rw_A hM1 (by assumption)) (Nat.le_of_ble_eq_true rfl) (c_fgS d hM1 ht hT1 (p := p + 1) (by omega) g6 (lo := 0) (n := n) (by decide) (by omega) (by decide) rfl e) ?_
      refine st_iast rfl (by first | exact tT hM1 rfl | assumption | exact rw_T hM1 (by assumption) | exact rw_A hM1 (by assumption)) (by first | decide | assumption | exact vp_in_nI (by omega) (by decide)) ?_
      -- at 49: stop
      rw [hcl]
      obtain ⟨M2, e2⟩ : ∃ M2, M2 = sI (sI M1 20 6 (nI (p + 1 + 1))) 22 i (nI b) := ⟨_, rfl⟩
      have w2 : Cw i M M2 := by rw [e2]; exact (w1.p _).s (Or.inr (Or.inl rfl)) _
      have g6 : gI M2 20 6 = nI (p + 2) := by rw [e2, gI_ne (Or.inl (by decide))]; exact gI_same _ _ _ _
      have g21 : gI M2 21 i = nI a := by rw [e2, gI_ne (Or.inl (by decide)), gI_ne (Or.inl (by decide))]; exact g21
      have g22 : gI M2 22 i = nI b := by rw [e2]; exact gI_same _ _ _ _
      rw [← e2]
      have hM2 := w2.ok hM
      have hT2 := w2.txt h
      refine st_ald rfl rfl ?_
      refine st_gR' rfl (by first | exact tT hM2 rfl | assumption | exact rw_T hM2 (by assumption) | exact rw_A hM2 (by assumption)) (by first | exact rR hM2 rfl rfl | assumption | exact rw_R hM2 (by assumption)) ?_
      refine st_ild rfl rfl ?_
      refine st_iald rfl (by first | exact tT hM2 rfl | assumption | exact rw_T hM2 (by assumption) | exact rw_A hM2 (by assumption)) (by first | decide | assumption | exact vp_in_nI (by omega) (by decide)) ?_
      -- at 55: stop
      refine wp_e (y := nI b) (by rw [hcl]; exact g22) ?_
      rcases hw with hw | hw
      · subst hw
        refine st_b1 rfl (fun zq => absurd zq (nI_pos (by omega))) (fun _ => ?_)
        refine st_ild rfl rfl ?_
        refine st_k rfl ?_
        refine st_b2 rfl (fun zq => absurd zq ((fun z => z rfl))) (fun _ => ?_)
        refine st_ald rfl rfl ?_
        refine st_gR' rfl (by first | exact tT hM2 rfl | assumption | exact rw_T hM2 (by assumption) | exact rw_A hM2 (by assumption)) (by first | exact rR hM2 rfl rfl | assumption | exact rw_R hM2 (by assumption)) ?_
        refine st_ild rfl rfl ?_
        refine st_iald rfl (by first | exact tT hM2 rfl | assumption | exact rw_T hM2 (by assumption) | exact rw_A hM2 (by assumption)) (by first | decide | assumption | exact vp_in_nI (by omega) (by decide)) ?_
        -- at 69: stop
        refine wp_e (y := nI b) (by rw [hcl]; exact g22) ?_
        refine st_b1 rfl (fun zq => absurd zq (nI_pos (by omega))) (fun _ => ?_)
        refine st_k rfl ?_
        refine st_go rfl ?_
        -- at 77: op_zret
        exact st_zret rfl (by decide) ⟨w2, rfl, g6, g21, g22⟩
      · subst hw
        rcases fgn_cs (l := l) (p := p + 2) (lo := 0) (n := 10) (by decide) (by decide) with ⟨e, _⟩ | ⟨s, e, _, _, hs, _⟩
        · rw [e]
          refine st_b1 rfl (fun zq => absurd zq (nI_pos (by omega))) (fun _ => ?_)
          refine st_ild rfl rfl ?_
          refine st_k rfl ?_
          refine st_b2 rfl (fun _ => ?_) (fun zq => absurd ((by decide)) zq)
          refine st_ald rfl rfl ?_
          refine st_gR' rfl (by first | exact tT hM2 rfl | assumption | exact rw_T hM2 (by assumption) | exact rw_A hM2 (by assumption)) (by first | exact rR hM2 rfl rfl | assumption | exact rw_R hM2 (by assumption)) ?_
          refine st_ild rfl rfl ?_
          refine st_ald rfl rfl ?_
          refine st_ald rfl rfl ?_
          refine st_k rfl ?_
          refine st_k rfl ?_
          refine st_cav (As := [_, _, _]) rfl rfl rfl (by first | exact tT hM2 rfl | assumption | exact rw_T hM2 (by assumption) | exact rw_A hM2 (by assumption)) (Nat.le_of_ble_eq_true rfl) (c_fgN d hM2 ht hT2 (p := p + 2) (by omega) g6 (lo := 0) (n := 10) (by decide) (by decide) (by decide) (by decide) e) ?_
          refine st_iast rfl (by first | exact tT hM2 rfl | assumption | exact rw_T hM2 (by assumption) | exact rw_A hM2 (by assumption)) (by first | decide | assumption | exact vp_in_nI (by omega) (by decide)) ?_
          -- at 92: stop
          rw [hcl]
          have hM3 : pm_ok (sI M2 23 i (-1)) := hM2
          refine st_ald rfl rfl ?_
          refine st_gR' rfl (by first | exact tT hM3 rfl | assumption | exact rw_T hM3 (by assumption) | exact rw_A hM3 (by assumption)) (by first | exact rR hM3 rfl rfl | assumption | exact rw_R hM3 (by assumption)) ?_
          refine st_ild rfl rfl ?_
          refine st_iald rfl (by first | exact tT hM3 rfl | assumption | exact rw_T hM3 (by assumption) | exact rw_A hM3 (by assumption)) (by first | decide | assumption | exact vp_in_nI (by omega) (by decide)) ?_
          -- at 98: stop
          refine wp_e (y := -1) (by rw [hcl]; exact gI_same _ _ _ _) ?_
          refine st_b1 rfl (fun _ => ?_) (fun zq => absurd ((by decide)) zq)
          refine st_k rfl ?_
          -- at 106: op_zret
          exact st_zret rfl (by decide) ⟨w2.s (Or.inr (Or.inr rfl)) _, rfl, by rw [gI_ne (Or.inl (by decide))]; exact g6⟩
        · rw [e]
          refine st_b1 rfl (fun zq => absurd zq (nI_pos (by omega))) (fun _ => ?_)
          refine st_ild rfl rfl ?_
          refine st_k rfl ?_
          refine st_b2 rfl (fun _ => ?_) (fun zq => absurd ((by decide)) zq)
          refine st_ald rfl rfl ?_
          refine st_gR' rfl (by first | exact tT hM2 rfl | assumption | exact rw_T hM2 (by assumption) | exact rw_A hM2 (by assumption)) (by first | exact rR hM2 rfl rfl | assumption | exact rw_R hM2 (by assumption)) ?_
          refine st_ild rfl rfl ?_
          refine st_ald rfl rfl ?_
          refine st_ald rfl rfl ?_
          refine st_k rfl ?_
          refine st_k rfl ?_
          refine st_cav (As := [_, _, _]) rfl rfl rfl (by first | exact tT hM2 rfl | assumption | exact rw_T hM2 (by assumption) | exact rw_A hM2 (by assumption)) (Nat.le_of_ble_eq_true rfl) (c_fgS d hM2 ht hT2 (p := p + 2) (by omega) g6 (lo := 0) (n := 10) (by decide) (by decide) (by decide) (by decide) e) ?_
          refine st_iast rfl (by first | exact tT hM2 rfl | assumption | exact rw_T hM2 (by assumption) | exact rw_A hM2 (by assumption)) (by first | decide | assumption | exact vp_in_nI (by omega) (by decide)) ?_
          -- at 92: stop
          rw [hcl]
          have hM3 : pm_ok (sI (sI M2 20 6 (nI (p + 2 + 1))) 23 i (nI s)) := hM2
          refine st_ald rfl rfl ?_
          refine st_gR' rfl (by first | exact tT hM3 rfl | assumption | exact rw_T hM3 (by assumption) | exact rw_A hM3 (by assumption)) (by first | exact rR hM3 rfl rfl | assumption | exact rw_R hM3 (by assumption)) ?_
          refine st_ild rfl rfl ?_
          refine st_iald rfl (by first | exact tT hM3 rfl | assumption | exact rw_T hM3 (by assumption) | exact rw_A hM3 (by assumption)) (by first | decide | assumption | exact vp_in_nI (by omega) (by decide)) ?_
          -- at 98: stop
          refine wp_e (y := nI s) (by rw [hcl]; exact gI_same _ _ _ _) ?_
          refine st_b1 rfl (fun zq => absurd zq (nI_pos (by omega))) (fun _ => ?_)
          refine st_k rfl ?_
          refine st_go rfl ?_
          -- at 106: op_zret
          exact st_zret rfl (by decide) ⟨(w2.p _).s (Or.inr (Or.inr rfl)) _, rfl, by rw [gI_ne (Or.inl (by decide))]; exact gI_same _ _ _ _, by rw [gI_ne (Or.inl (by decide)), gI_ne (Or.inl (by decide))]; exact g21, by rw [gI_ne (Or.inl (by decide)), gI_ne (Or.inl (by decide))]; exact g22, gI_same _ _ _ _⟩
/-- a KIND's letter -/
theorem c_kindOf (d : Nat) (b : Int32) : pm_call (d + 1) 34 [.int b] M (some (.int (match kd0 b with | none => -1 | some k => nI k))) M := by
  refine en_34 (Nat.le_of_ble_eq_true rfl) ?_
  refine st_ild rfl rfl ?_
  refine st_sw rfl ?_
  unfold kd0
  by_cases h1 : b = 98
  · rw [if_pos h1, if_pos h1]
    refine st_k rfl ?_
    -- at 65: op_iret
    exact st_iret rfl ⟨rfl, rfl⟩
  rw [if_neg h1, if_neg h1]
  by_cases h1 : b = 104
  · rw [if_pos h1, if_pos h1]
    refine st_k rfl ?_
    -- at 67: op_iret
    exact st_iret rfl ⟨rfl, rfl⟩
  rw [if_neg h1, if_neg h1]
  by_cases h1 : b = 107
  · rw [if_pos h1, if_pos h1]
    refine st_k rfl ?_
    -- at 61: op_iret
    exact st_iret rfl ⟨rfl, rfl⟩
  rw [if_neg h1, if_neg h1]
  by_cases h1 : b = 111
  · rw [if_pos h1, if_pos h1]
    refine st_k rfl ?_
    -- at 63: op_iret
    exact st_iret rfl ⟨rfl, rfl⟩
  rw [if_neg h1, if_neg h1]
  by_cases h1 : b = 115
  · rw [if_pos h1, if_pos h1]
    refine st_k rfl ?_
    -- at 69: op_iret
    exact st_iret rfl ⟨rfl, rfl⟩
  rw [if_neg h1, if_neg h1]
  by_cases h1 : b = 119
  · rw [if_pos h1, if_pos h1]
    refine st_k rfl ?_
    -- at 71: op_iret
    exact st_iret rfl ⟨rfl, rfl⟩
  rw [if_neg h1, if_neg h1]
  refine st_k rfl ?_
  -- at 73: op_iret
  exact st_iret rfl ⟨rfl, rfl⟩
theorem kd0_xy {b : Int32} (h : b = 120 ∨ b = 121) : kd0 b = none := by
  rcases h with h | h <;> subst h <;> decide
theorem c_sortOf (d : Nat) (b : Int32) : pm_call (d + 1) 35 [.int b, .int (match kd0 b with | none => -1 | some k => nI k)] M (some (.int (match kd0 b with | some _ => 0 | none => if b = 120 then 1 else if b = 121 then 2 else -1))) M := by
  refine en_35 (Nat.le_of_ble_eq_true rfl) ?_
  cases e : kd0 b with
  | some k =>
    refine st_ild rfl rfl ?_
    refine st_b1 rfl (fun zq => absurd zq (nI_pos (by have := kd0_le e; omega))) (fun _ => ?_)
    refine st_k rfl ?_
    -- at 5: op_iret
    exact st_iret rfl ⟨rfl, rfl⟩
  | none =>
    by_cases h1 : b = 120
    · refine st_ild rfl rfl ?_
      refine st_b1 rfl (fun _ => ?_) (fun zq => absurd ((by decide)) zq)
      refine st_ild rfl rfl ?_
      refine st_k rfl ?_
      refine st_b2 rfl (fun zq => absurd zq ((fun z => z h1))) (fun _ => ?_)
      refine st_k rfl ?_
      -- at 13: op_iret
      exact st_iret rfl ⟨by dsimp only; rw [if_pos h1], rfl⟩
    · by_cases h2 : b = 121
      · refine st_ild rfl rfl ?_
        refine st_b1 rfl (fun _ => ?_) (fun zq => absurd ((by decide)) zq)
        refine st_ild rfl rfl ?_
        refine st_k rfl ?_
        refine st_b2 rfl (fun _ => ?_) (fun zq => absurd (h1) zq)
        refine st_ild rfl rfl ?_
        refine st_k rfl ?_
        refine st_b2 rfl (fun zq => absurd zq ((fun z => z h2))) (fun _ => ?_)
        refine st_k rfl ?_
        refine st_go rfl ?_
        -- at 25: op_iret
        exact st_iret rfl ⟨by dsimp only; rw [if_neg h1, if_pos h2], rfl⟩
      · refine st_ild rfl rfl ?_
        refine st_b1 rfl (fun _ => ?_) (fun zq => absurd ((by decide)) zq)
        refine st_ild rfl rfl ?_
        refine st_k rfl ?_
        refine st_b2 rfl (fun _ => ?_) (fun zq => absurd (h1) zq)
        refine st_ild rfl rfl ?_
        refine st_k rfl ?_
        refine st_b2 rfl (fun _ => ?_) (fun zq => absurd (h2) zq)
        refine st_k rfl ?_
        -- at 25: op_iret
        exact st_iret rfl ⟨by dsimp only; rw [if_neg h1, if_neg h2], rfl⟩
end PRD

/-! THE CLASS: what is refused of rows -/
abbrev cF (M : pm_M) (f : Nat) : pm_M := sI (sI M 0 17 (nI f)) 105 f (gI M 105 f + 1)
theorem ib_kn {c : Cf} (hw : cf_wf c) {l : List Int32} : ib l (nI (cf_n c)) ↔ ∃ ws : List Nat, l = ws.map nI ∧ kn c ws := by
  have hn := hw.1
  constructor
  · intro h
    refine ib_map hw (fun i hi => ?_)
    have := h i hi
    obtain ⟨j, hj, e⟩ := nI_of this.1
    refine ⟨j, ?_, e⟩
    rw [e] at this
    exact (nI_ltI hj (by omega)).mp this.2
  · rintro ⟨ws, rfl, hk⟩ i hi
    rw [map_len] at hi
    rw [map_getD hi]
    have := kn_getD hk hi
    exact ⟨nI_pos (by omega), nI_lt this (by omega)⟩
section REF
variable {a : As} {M : pm_M}
theorem c_rowsBad (d : Nat) (r q t : Int32) (most e : Int32) (h : ¬ ((¬ r < 0 ∧ ¬ 6 ≤ r) ∧ (¬ q < 0 ∧ ¬ 6 ≤ q) ∧ (¬ t < 0 ∧ ¬ 6 ≤ t))) : pm_call (d + 2) 142 [.ref 0, .int r, .int q, .int t, .int most, .int e] M (some (.int (-1))) M := by
  refine en_142 (Nat.le_of_ble_eq_true rfl) ?_
  refine st_ild rfl rfl ?_
  refine st_call (As := [_]) rfl rfl rfl (Nat.le_of_ble_eq_true rfl) (c_isRow d r) ?_
  refine st_b1 rfl (fun h1 => ?_) (fun h1 => ?_)
  -- at 4: split 21 7
  · refine st_k rfl ?_
    -- at 22: op_iret
    exact st_iret rfl ⟨rfl, rfl⟩
  · have h1 := Decidable.not_not.mp (fun z => h1 (b01_f z))
    refine st_ild rfl rfl ?_
    refine st_call (As := [_]) rfl rfl rfl (Nat.le_of_ble_eq_true rfl) (c_isRow d q) ?_
    refine st_b1 rfl (fun h2 => ?_) (fun h2 => ?_)
    -- at 11: split 21 14
    · refine st_k rfl ?_
      -- at 22: op_iret
      exact st_iret rfl ⟨rfl, rfl⟩
    · have h2 := Decidable.not_not.mp (fun z => h2 (b01_f z))
      refine st_ild rfl rfl ?_
      refine st_call (As := [_]) rfl rfl rfl (Nat.le_of_ble_eq_true rfl) (c_isRow d t) ?_
      refine st_b1 rfl (fun zq => absurd zq ((fun z => z (b01_f (fun w => h ⟨h1, h2, w⟩))))) (fun _ => ?_)
      refine st_k rfl ?_
      -- at 22: op_iret
      exact st_iret rfl ⟨rfl, rfl⟩
theorem c_rows (d : Nat) (h : IC a M) {r q t most : Nat} (hr : r < 6) (hq : q < 6) (ht : t < 6) (hmost : most ≤ 40) (e : Int32) :
    ((aR a r = none ∨ aR a q = none) → pm_call (d + 2) 142 [.ref 0, .int (nI r), .int (nI q), .int (nI t), .int (nI most), .int e] M (some (.int (-3))) (cF M 1)) ∧
    (∀ l k, aR a r = some l → aR a q = some k → (most < l.length ∨ most < k.length) → pm_call (d + 2) 142 [.ref 0, .int (nI r), .int (nI q), .int (nI t), .int (nI most), .int e] M (some (.int (-3))) (cF M 5)) ∧
    (∀ l k, aR a r = some l → aR a q = some k → l.length ≤ most → k.length ≤ most → ¬ (ib l e ∧ ib k e) → pm_call (d + 2) 142 [.ref 0, .int (nI r), .int (nI q), .int (nI t), .int (nI most), .int e] M (some (.int (-3))) (cF M 3)) ∧
    (∀ l k, aR a r = some l → aR a q = some k → l.length ≤ most → k.length ≤ most → ib l e → ib k e → pm_call (d + 2) 142 [.ref 0, .int (nI r), .int (nI q), .int (nI t), .int (nI most), .int e] M (some (.int 0)) M) := by
  have hM := h.1
  have w : ∀ j, j < 6 → ¬ nI j < 0 ∧ ¬ 6 ≤ nI j := by decide +kernel
  have hir : vp_in (nI r) 6 := vp_in_nI hr (by decide)
  have hiq : vp_in (nI q) 6 := vp_in_nI hq (by decide)
  have or_ := rw_row r hr
  have oq := rw_row q hq
  have hR := h.2.1 r hr
  have hQ := h.2.1 q hq
  have pre : ∀ (Q : Option Value → pm_M → Prop), pm_WP (pm_call (d + 1)) tb_142 Q 39 [some (.ref 0), some (.int (nI r)), some (.int (nI q)), some (.int (nI t)), some (.int (nI most)), some (.int e), some (.ref (106 + 2 * r)), some (.ref (106 + 2 * q))] [] M → pm_WP (pm_call (d + 1)) tb_142 Q 0 (pm_init 8 [.ref 0, .int (nI r), .int (nI q), .int (nI t), .int (nI most), .int e]) [] M := by
    intro Q hW
    refine st_ild rfl rfl ?_
    refine st_call (As := [_]) rfl rfl rfl (Nat.le_of_ble_eq_true rfl) (c_isRow d _) ?_
    refine st_b1 rfl (fun zq => absurd zq (b01_t (w r hr))) (fun _ => ?_)
    refine st_ild rfl rfl ?_
    refine st_call (As := [_]) rfl rfl rfl (Nat.le_of_ble_eq_true rfl) (c_isRow d _) ?_
    refine st_b1 rfl (fun zq => absurd zq (b01_t (w q hq))) (fun _ => ?_)
    refine st_ild rfl rfl ?_
    refine st_call (As := [_]) rfl rfl rfl (Nat.le_of_ble_eq_true rfl) (c_isRow d _) ?_
    refine st_b1 rfl (fun _ => ?_) (fun zq => absurd (b01_t (w t ht)) zq)
    refine st_ald rfl rfl ?_
    refine st_gR' rfl (by first | exact tT hM rfl | assumption | exact rw_T hM (by assumption) | exact rw_A hM (by assumption)) (by first | exact rR hM rfl rfl | assumption | exact rw_R hM (by assumption)) ?_
    refine st_ild rfl rfl ?_
    refine st_aald' rfl (tT hM rfl) (hir) (rRow' hM hr) ?_
    refine st_ast rfl ?_
    refine st_ald rfl rfl ?_
    refine st_gR' rfl (by first | exact tT hM rfl | assumption | exact rw_T hM (by assumption) | exact rw_A hM (by assumption)) (by first | exact rR hM rfl rfl | assumption | exact rw_R hM (by assumption)) ?_
    refine st_ild rfl rfl ?_
    refine st_aald' rfl (tT hM rfl) (hiq) (rRow' hM hq) ?_
    refine st_ast rfl ?_
    -- at 39: stop
    exact hW
  have f1 : ∀ {L : pm_L} (Q : Option Value → pm_M → Prop), Q (some (.int (-3))) (cF M 1) → pm_WP (pm_call (d + 1)) tb_142 Q 55 (some (.ref 0) :: L) [] M := by
    intro L Q hQ
    refine st_ald rfl rfl ?_
    refine st_k rfl ?_
    refine st_cav (As := [_]) rfl rfl rfl (by first | exact tT hM rfl | assumption | exact rw_T hM (by assumption) | exact rw_A hM (by assumption)) (Nat.le_of_ble_eq_true rfl) (c_refuse d hM (f := 1) (by decide)) ?_
    -- at 60: op_iret
    exact st_iret rfl hQ
  have f5 : ∀ {L : pm_L} (Q : Option Value → pm_M → Prop), Q (some (.int (-3))) (cF M 5) → pm_WP (pm_call (d + 1)) tb_142 Q 81 (some (.ref 0) :: L) [] M := by
    intro L Q hQ
    refine st_ald rfl rfl ?_
    refine st_k rfl ?_
    refine st_cav (As := [_]) rfl rfl rfl (by first | exact tT hM rfl | assumption | exact rw_T hM (by assumption) | exact rw_A hM (by assumption)) (Nat.le_of_ble_eq_true rfl) (c_refuse d hM (f := 5) (by decide)) ?_
    -- at 86: op_iret
    exact st_iret rfl hQ
  have f3 : ∀ {L : pm_L} (Q : Option Value → pm_M → Prop), Q (some (.int (-3))) (cF M 3) → pm_WP (pm_call (d + 1)) tb_142 Q 111 (some (.ref 0) :: L) [] M := by
    intro L Q hQ
    refine st_ald rfl rfl ?_
    refine st_k rfl ?_
    refine st_cav (As := [_]) rfl rfl rfl (by first | exact tT hM rfl | assumption | exact rw_T hM (by assumption) | exact rw_A hM (by assumption)) (Nat.le_of_ble_eq_true rfl) (c_refuse d hM (f := 3) (by decide)) ?_
    -- at 116: op_iret
    exact st_iret rfl hQ
  refine ⟨fun hn => ?_, fun l k hl hk hm => ?_, fun l k hl hk h1 h2 hno => ?_, fun l k hl hk h1 h2 h3 h4 => ?_⟩
  · refine en_142 (Nat.le_of_ble_eq_true rfl) (pre _ ?_)
    cases hx : aR a r with
    | none =>
      rw [hx] at hR
      refine st_ald rfl rfl ?_
      refine st_gI rfl (rw_T hM or_) ?_
      -- at 44: stop
      refine wp_e (crow_none hR) ?_
      refine st_b1 rfl (fun _ => ?_) (fun zq => absurd ((by decide)) zq)
      -- at 55: stop
      exact f1 _ ⟨rfl, rfl⟩
    | some l =>
      rw [hx] at hR
      have hlq : aR a q = none := hn.elim (fun z => by rw [hx] at z; cases z) id
      rw [hlq] at hQ
      have hl40 := (crow_some hR).2.1
      refine st_ald rfl rfl ?_
      refine st_gI rfl (rw_T hM or_) ?_
      -- at 44: stop
      refine wp_e (crow_some hR).1 ?_
      refine st_b1 rfl (fun zq => absurd zq (nI_pos (by omega))) (fun _ => ?_)
      refine st_ald rfl rfl ?_
      refine st_gI rfl (rw_T hM oq) ?_
      -- at 52: stop
      refine wp_e (crow_none hQ) ?_
      refine st_b1 rfl (fun zq => absurd zq ((by decide))) (fun _ => ?_)
      -- at 55: stop
      exact f1 _ ⟨rfl, rfl⟩
  all_goals
    rw [hl] at hR
    rw [hk] at hQ
    have hR := crow_some hR
    have hQ := crow_some hQ
    have l40 := hR.2.1
    have k40 := hQ.2.1
    refine en_142 (Nat.le_of_ble_eq_true rfl) (pre _ ?_)
    refine st_ald rfl rfl ?_
    refine st_gI rfl (rw_T hM or_) ?_
    -- at 44: stop
    refine wp_e hR.1 ?_
    refine st_b1 rfl (fun zq => absurd zq (nI_pos (by omega))) (fun _ => ?_)
    refine st_ald rfl rfl ?_
    refine st_gI rfl (rw_T hM oq) ?_
    -- at 52: stop
    refine wp_e hQ.1 ?_
    refine st_b1 rfl (fun _ => ?_) (fun zq => absurd (nI_pos' (by omega)) zq)
    refine st_ald rfl rfl ?_
    refine st_gI rfl (rw_T hM or_) ?_
    -- at 66: stop
    refine wp_e hR.1 ?_
    refine st_ild rfl rfl ?_
  · refine st_b2 rfl (fun g => f5 _ ⟨rfl, rfl⟩) (fun g => ?_)
    have g2 : ¬ most < l.length := fun z => g ((nI_ltI (by omega) (by omega)).mpr z)
    refine st_ald rfl rfl ?_
    refine st_gI rfl (rw_T hM oq) ?_
    -- at 76: stop
    refine wp_e hQ.1 ?_
    refine st_ild rfl rfl ?_
    refine st_b2 rfl (fun zq => absurd zq (nI_ge (by omega) (by omega))) (fun _ => ?_)
    -- at 81: stop
    exact f5 _ ⟨rfl, rfl⟩
  · refine st_b2 rfl (fun g => absurd ((nI_ltI (by omega) (by omega)).mp g) (by omega)) (fun g => ?_)
    refine st_ald rfl rfl ?_
    refine st_gI rfl (rw_T hM oq) ?_
    -- at 76: stop
    refine wp_e hQ.1 ?_
    obtain ⟨b, hb, hb2⟩ := c_isBelow d (e := e) hM or_ hR
    obtain ⟨b', hb', hb2'⟩ := c_isBelow d (e := e) hM oq hQ
    refine st_ild rfl rfl ?_
    refine st_b2 rfl (fun _ => ?_) (fun zq => absurd (nI_le (by omega) (by omega)) zq)
    refine st_ald rfl rfl ?_
    refine st_ild rfl rfl ?_
    refine st_cav (As := [_]) rfl rfl rfl (rw_T hM or_) (Nat.le_of_ble_eq_true rfl) (hb) ?_
    -- at 94: stop
    rcases hb2 with ⟨rfl, z⟩ | ⟨rfl, z⟩
    · rcases hb2' with ⟨rfl, z'⟩ | ⟨rfl, z'⟩
      · exact absurd ⟨z, z'⟩ hno
      · refine st_b1 rfl (fun zq => absurd zq ((by decide))) (fun _ => ?_)
        refine st_ald rfl rfl ?_
        refine st_ild rfl rfl ?_
        refine st_cav (As := [_]) rfl rfl rfl (rw_T hM oq) (Nat.le_of_ble_eq_true rfl) (hb') ?_
        refine st_b1 rfl (fun _ => ?_) (fun zq => absurd (rfl) zq)
        -- at 111: stop
        exact f3 _ ⟨rfl, rfl⟩
    · refine st_b1 rfl (fun _ => ?_) (fun zq => absurd (rfl) zq)
      -- at 111: stop
      exact f3 _ ⟨rfl, rfl⟩
  · refine st_b2 rfl (fun g => absurd ((nI_ltI (by omega) (by omega)).mp g) (by omega)) (fun g => ?_)
    refine st_ald rfl rfl ?_
    refine st_gI rfl (rw_T hM oq) ?_
    -- at 76: stop
    refine wp_e hQ.1 ?_
    obtain ⟨b, hb, hb2⟩ := c_isBelow d (e := e) hM or_ hR
    obtain ⟨b', hb', hb2'⟩ := c_isBelow d (e := e) hM oq hQ
    refine st_ild rfl rfl ?_
    refine st_b2 rfl (fun _ => ?_) (fun zq => absurd (nI_le (by omega) (by omega)) zq)
    refine st_ald rfl rfl ?_
    refine st_ild rfl rfl ?_
    refine st_cav (As := [_]) rfl rfl rfl (rw_T hM or_) (Nat.le_of_ble_eq_true rfl) (hb) ?_
    -- at 94: stop
    rcases hb2 with ⟨rfl, z⟩ | ⟨rfl, z⟩
    · rcases hb2' with ⟨rfl, z'⟩ | ⟨rfl, z'⟩
      · refine st_b1 rfl (fun zq => absurd zq ((by decide))) (fun _ => ?_)
        refine st_ald rfl rfl ?_
        refine st_ild rfl rfl ?_
        refine st_cav (As := [_]) rfl rfl rfl (rw_T hM oq) (Nat.le_of_ble_eq_true rfl) (hb') ?_
        refine st_b1 rfl (fun zq => absurd zq ((by decide))) (fun _ => ?_)
        refine st_k rfl ?_
        refine st_go rfl ?_
        -- at 116: op_iret
        exact st_iret rfl ⟨rfl, rfl⟩
      · exact absurd h4 z'
    · exact absurd h3 z
theorem c_knots (d : Nat) (h : IC a M) (r q t : Int32) (most : Int32) {x : Value} {M' : pm_M} (hh : pm_call (d + 2) 142 [.ref 0, .int r, .int q, .int t, .int most, .int (nI (cf_n (aC a)))] M (some x) M') : (∃ v, x = .int v) → pm_call (d + 3) 140 [.ref 0, .int r, .int q, .int t, .int most] M (some x) M' := by
  rintro ⟨v, rfl⟩
  refine en_140 (Nat.le_of_ble_eq_true rfl) ?_
  have hM := h.1
  refine st_ald rfl rfl ?_
  refine st_ild rfl rfl ?_
  refine st_ild rfl rfl ?_
  refine st_ild rfl rfl ?_
  refine st_ild rfl rfl ?_
  refine st_ald rfl rfl ?_
  refine st_gR' rfl (by first | exact tT hM rfl | assumption | exact rw_T hM (by assumption) | exact rw_A hM (by assumption)) (by first | exact rR hM rfl rfl | assumption | exact rw_R hM (by assumption)) ?_
  refine st_gI rfl (by first | exact tT hM rfl | assumption | exact rw_T hM (by assumption) | exact rw_A hM (by assumption)) ?_
  -- at 13: stop
  refine wp_e h.2.2.2.1.1.2.2.1 ?_
  refine st_cav (As := [_, _, _, _, _]) rfl rfl rfl (by first | exact tT hM rfl | assumption | exact rw_T hM (by assumption) | exact rw_A hM (by assumption)) (Nat.le_of_ble_eq_true rfl) (hh) ?_
  -- at 16: op_iret
  exact st_iret rfl ⟨rfl, rfl⟩
theorem c_mess (d : Nat) (h : IC a M) (r q t : Int32) {x : Value} {M' : pm_M} (hh : pm_call (d + 2) 142 [.ref 0, .int r, .int q, .int t, .int 12, .int 10] M (some x) M') : (∃ v, x = .int v) → pm_call (d + 3) 141 [.ref 0, .int r, .int q, .int t] M (some x) M' := by
  rintro ⟨v, rfl⟩
  refine en_141 (Nat.le_of_ble_eq_true rfl) ?_
  have hM := h.1
  refine st_ald rfl rfl ?_
  refine st_ild rfl rfl ?_
  refine st_ild rfl rfl ?_
  refine st_ild rfl rfl ?_
  refine st_k rfl ?_
  refine st_k rfl ?_
  refine st_cav (As := [_, _, _, _, _]) rfl rfl rfl (by first | exact tT hM rfl | assumption | exact rw_T hM (by assumption) | exact rw_A hM (by assumption)) (Nat.le_of_ble_eq_true rfl) (hh) ?_
  -- at 11: op_iret
  exact st_iret rfl ⟨rfl, rfl⟩
end REF

/-! THE REFERENCE: what is needed of a row of KNOTS -/
abbrev mF (M : pm_M) (f : Nat) : pm_M := sI (sI M 132 0 (nI f)) 133 f (gI M 133 f + 1)
theorem ib_map {c : Cf} (hw : cf_wf c) {l : List Int32} (h : ∀ i, i < l.length → ∃ j, j < cf_n c ∧ l.getD i 0 = nI j) : ∃ ws : List Nat, l = ws.map nI ∧ kn c ws := by
  induction l with
  | nil => exact ⟨[], rfl, fun k hk => by simp at hk⟩
  | cons x t ih =>
    obtain ⟨ws, h1, h2⟩ := ih (fun i hi => by
      have := h (i + 1) (by simpa using hi)
      simpa using this)
    obtain ⟨j, hj, hx⟩ := h 0 (by simp)
    have hx' : x = nI j := by simpa using hx
    exact ⟨j :: ws, by rw [hx', h1]; rfl, fun k hk => (List.mem_cons.mp hk).elim (fun e => by rw [e]; exact hj) (h2 k)⟩
section MOG
variable {M : pm_M} {c : Cf}
theorem m_areKnots (d : Nat) (hM : pm_ok M) (hw : cf_wf c) (hc : MC c M) {r : Nat} (hr : r < 6) {l : List Int32} (h : MRow M r (some l)) : ((∃ ws, l = ws.map nI ∧ kn c ws) ∧ pm_call (d + 3) 213 [.ref 132, .int (nI r)] M (some (.int 1)) M) ∨ ((¬ ∃ ws, l = ws.map nI ∧ kn c ws) ∧ pm_call (d + 3) 213 [.ref 132, .int (nI r)] M (some (.int 0)) M) := by
  have hin : vp_in (nI r) 6 := vp_in_nI hr (by decide)
  have e1 : (nI r).toNatClampNeg = r := nI_clamp (by omega)
  have hl := h.2.1
  have e2 : gI M 134 (nI r).toNatClampNeg = nI l.length := by rw [e1]; exact h.1
  have loop : ∀ n i x y, x = nI i → i + n = l.length → ((y = 1 ∧ ∀ t, t < i → ∃ j, j < cf_n c ∧ l.getD t 0 = nI j) ∨ (y = 0 ∧ ∃ t, t < i ∧ t < l.length ∧ ¬ ∃ j, j < cf_n c ∧ l.getD t 0 = nI j)) → pm_WP (pm_call (d + 2)) tb_213 (fun r M' => M' = M ∧ ∃ b : Int32, r = some (.int b) ∧ ((b = 1 ∧ ∃ ws, l = ws.map nI ∧ kn c ws) ∨ (b = 0 ∧ ¬ ∃ ws, l = ws.map nI ∧ kn c ws))) 4 [some (.ref 132), some (.int (nI r)), some (.int y), some (.int x)] [] M := by
    intro n
    induction n with
    | zero =>
      intro i x y hx hi hy
      subst hx
      refine st_ild rfl rfl ?_
      refine st_ald rfl rfl ?_
      refine st_gR' rfl (by first | exact tT hM rfl | assumption | exact rw_T hM (by assumption) | exact rw_A hM (by assumption)) (by first | exact rR hM rfl rfl | assumption | exact rw_R hM (by assumption)) ?_
      refine st_ild rfl rfl ?_
      refine st_iald rfl (by first | exact tT hM rfl | assumption | exact rw_T hM (by assumption) | exact rw_A hM (by assumption)) (by first | decide | assumption | exact vp_in_nI (by omega) (by decide)) ?_
      -- at 11: stop
      refine wp_e e2 ?_
      refine st_b2 rfl (fun _ => ?_) (fun zq => absurd (nI_le (by omega) (by omega)) zq)
      refine st_ild rfl rfl ?_
      -- at 44: op_zret
      rcases hy with ⟨rfl, hy⟩ | ⟨rfl, t, h1, h2, hy⟩
      · exact st_zret rfl (by decide) ⟨rfl, 1, rfl, Or.inl ⟨rfl, ib_map hw (fun t ht => hy t (by omega))⟩⟩
      · refine st_zret rfl (by decide) ⟨rfl, 0, rfl, Or.inr ⟨rfl, ?_⟩⟩
        rintro ⟨ws, hws, hk⟩
        apply hy
        rw [hws] at h2 ⊢
        rw [map_len] at h2
        exact ⟨ws.getD t 0, kn_getD hk h2, map_getD h2⟩
    | succ n ih =>
      intro i x y hx hi hy
      subst hx
      have hin2 : i < 40 := by omega
      have hv := h.2.2 i (by omega)
      refine st_ild rfl rfl ?_
      refine st_ald rfl rfl ?_
      refine st_gR' rfl (by first | exact tT hM rfl | assumption | exact rw_T hM (by assumption) | exact rw_A hM (by assumption)) (by first | exact rR hM rfl rfl | assumption | exact rw_R hM (by assumption)) ?_
      refine st_ild rfl rfl ?_
      refine st_iald rfl (by first | exact tT hM rfl | assumption | exact rw_T hM (by assumption) | exact rw_A hM (by assumption)) (by first | decide | assumption | exact vp_in_nI (by omega) (by decide)) ?_
      -- at 11: stop
      refine wp_e e2 ?_
      refine st_b2 rfl (fun zq => absurd zq (nI_ge (by omega) (by omega))) (fun _ => ?_)
      refine st_ild rfl rfl ?_
      refine st_b1 rfl (fun g => ?_) (fun g => ?_)
      -- at 15: split 35 18
      · rcases hy with ⟨rfl, hy⟩ | ⟨rfl, t, h1, h2, hy⟩
        · exact absurd g (by decide)
        · refine st_k rfl ?_
          refine st_ist rfl ?_
          refine st_inc rfl rfl ?_
          refine st_go rfl ?_
          -- at 4: stop
          exact ih (i + 1) _ 0 (nI_1 i) (by omega) (Or.inr ⟨rfl, t, by omega, h2, hy⟩)
      · rcases hy with ⟨rfl, hy⟩ | ⟨rfl, t, h1, h2, hy⟩
        · refine st_ald rfl rfl ?_
          refine st_ald rfl rfl ?_
          refine st_ild rfl rfl ?_
          refine st_ild rfl rfl ?_
          refine st_cav (As := [_, _]) rfl rfl rfl (by first | exact tT hM rfl | assumption | exact rw_T hM (by assumption) | exact rw_A hM (by assumption)) (Nat.le_of_ble_eq_true rfl) (m_rowAt (d + 1) hM hr hin2) ?_
          -- at 25: stop
          refine wp_e hv ?_
          rcases k_cs hw (l.getD i 0) with ⟨-, g2⟩ | ⟨j, hj, hx, -, g2⟩
          · refine st_cav (As := [_]) rfl rfl rfl (by first | exact tT hM rfl | assumption | exact rw_T hM (by assumption) | exact rw_A hM (by assumption)) (Nat.le_of_ble_eq_true rfl) (m_isKnot d hM hw hc _) ?_
            refine st_b1 rfl (fun _ => ?_) (fun zq => absurd (b01_f g2) zq)
            refine st_k rfl ?_
            refine st_ist rfl ?_
            refine st_inc rfl rfl ?_
            refine st_go rfl ?_
            -- at 4: stop
            refine ih (i + 1) _ 0 (nI_1 i) (by omega) (Or.inr ⟨rfl, i, by omega, by omega, ?_⟩)
            rintro ⟨j, hj, hx⟩
            apply g2
            rw [hx]
            rcases k_cs hw (nI j) with ⟨z, -⟩ | ⟨j', -, -, -, z⟩
            · exact absurd ⟨nI_pos (by have := hw.1; omega), nI_ge hj (by have := hw.1; omega)⟩ z
            · exact z
          · refine st_cav (As := [_]) rfl rfl rfl (by first | exact tT hM rfl | assumption | exact rw_T hM (by assumption) | exact rw_A hM (by assumption)) (Nat.le_of_ble_eq_true rfl) (m_isKnot d hM hw hc _) ?_
            refine st_b1 rfl (fun zq => absurd zq (b01_t g2)) (fun _ => ?_)
            refine st_k rfl ?_
            refine st_go rfl ?_
            refine st_ist rfl ?_
            refine st_inc rfl rfl ?_
            refine st_go rfl ?_
            -- at 4: stop
            refine ih (i + 1) _ 1 (nI_1 i) (by omega) (Or.inl ⟨rfl, fun t ht => ?_⟩)
            by_cases z : t = i
            · subst z; exact ⟨j, hj, hx⟩
            · exact hy t (by omega)
        · exact absurd rfl g
  obtain ⟨rr, M', hcc, hM', b, hr', hb⟩ := eq_213 (d := d + 2) (A := [.ref 132, .int (nI r)]) (M := M) (Q := fun r M' => M' = M ∧ ∃ b : Int32, r = some (.int b) ∧ ((b = 1 ∧ ∃ ws, l = ws.map nI ∧ kn c ws) ∨ (b = 0 ∧ ¬ ∃ ws, l = ws.map nI ∧ kn c ws))) (Nat.le_of_ble_eq_true rfl) (by
    refine st_k rfl ?_
    refine st_ist rfl ?_
    refine st_k rfl ?_
    refine st_ist rfl ?_
    -- at 4: stop
    exact loop l.length 0 0 1 rfl (by omega) (Or.inl ⟨rfl, fun t ht => by omega⟩))
  subst hM'; subst hr'
  rcases hb with ⟨rfl, hb⟩ | ⟨rfl, hb⟩
  · exact Or.inl ⟨hb, hcc⟩
  · exact Or.inr ⟨hb, hcc⟩
/-- needRope: what it answers, and does -/
theorem m_needRope (d : Nat) (hM : pm_ok M) (hw : cf_wf c) (hc : MC c M) {r most : Nat} (hr : r < 6) (hmost : most ≤ 24) {x : Option (List Int32)} (h : MRow M r x) :
    (x = none ∧ pm_call (d + 4) 214 [.ref 132, .int (nI r), .int (nI most)] M (some (.int (-3))) (mF M 1)) ∨
    (∃ l, x = some l ∧ most < l.length ∧ pm_call (d + 4) 214 [.ref 132, .int (nI r), .int (nI most)] M (some (.int (-3))) (mF M 5)) ∨
    (∃ l, x = some l ∧ l.length ≤ most ∧ (¬ ∃ ws, l = ws.map nI ∧ kn c ws) ∧ pm_call (d + 4) 214 [.ref 132, .int (nI r), .int (nI most)] M (some (.int (-3))) (mF M 3)) ∨
    (∃ ws, x = some (ws.map nI) ∧ kn c ws ∧ ws.length ≤ most ∧ ∃ M', pm_call (d + 4) 214 [.ref 132, .int (nI r), .int (nI most)] M (some (.int 0)) M' ∧ Lk M' ws ∧ Msc M M') := by
  have hin : vp_in (nI r) 6 := vp_in_nI hr (by decide)
  have e1 : (nI r).toNatClampNeg = r := nI_clamp (by omega)
  cases x with
  | none =>
    refine Or.inl ⟨rfl, en_214 (Nat.le_of_ble_eq_true rfl) ?_⟩
    refine st_ald rfl rfl ?_
    refine st_gR' rfl (by first | exact tT hM rfl | assumption | exact rw_T hM (by assumption) | exact rw_A hM (by assumption)) (by first | exact rR hM rfl rfl | assumption | exact rw_R hM (by assumption)) ?_
    refine st_ild rfl rfl ?_
    refine st_iald rfl (by first | exact tT hM rfl | assumption | exact rw_T hM (by assumption) | exact rw_A hM (by assumption)) (by first | decide | assumption | exact vp_in_nI (by omega) (by decide)) ?_
    -- at 6: stop
    refine wp_e (y := -1) (by rw [e1]; exact h) ?_
    refine st_b1 rfl (fun zq => absurd zq ((by decide))) (fun _ => ?_)
    refine st_ald rfl rfl ?_
    refine st_k rfl ?_
    refine st_cav (As := [_]) rfl rfl rfl (by first | exact tT hM rfl | assumption | exact rw_T hM (by assumption) | exact rw_A hM (by assumption)) (Nat.le_of_ble_eq_true rfl) (m_meets (d + 2) hM (f := 1) (by decide)) ?_
    -- at 14: op_iret
    exact st_iret rfl ⟨rfl, rfl⟩
  | some l =>
    refine Or.inr ?_
    have hl := h.2.1
    have e2 : gI M 134 (nI r).toNatClampNeg = nI l.length := by rw [e1]; exact h.1
    by_cases hm : most < l.length
    · refine Or.inl ⟨l, rfl, hm, en_214 (Nat.le_of_ble_eq_true rfl) ?_⟩
      have hsz : pm_call (d + 3) 212 [.ref 132, .int (nI r), .int (nI most)] M (some (.int (-3))) (mF M 5) := by
        refine en_212 (Nat.le_of_ble_eq_true rfl) ?_
        refine st_ald rfl rfl ?_
        refine st_gR' rfl (by first | exact tT hM rfl | assumption | exact rw_T hM (by assumption) | exact rw_A hM (by assumption)) (by first | exact rR hM rfl rfl | assumption | exact rw_R hM (by assumption)) ?_
        refine st_ild rfl rfl ?_
        refine st_iald rfl (by first | exact tT hM rfl | assumption | exact rw_T hM (by assumption) | exact rw_A hM (by assumption)) (by first | decide | assumption | exact vp_in_nI (by omega) (by decide)) ?_
        -- at 6: stop
        refine wp_e e2 ?_
        refine st_ild rfl rfl ?_
        refine st_b2 rfl (fun zq => absurd zq (nI_ge hm (by omega))) (fun _ => ?_)
        refine st_ald rfl rfl ?_
        refine st_k rfl ?_
        refine st_cav (As := [_]) rfl rfl rfl (by first | exact tT hM rfl | assumption | exact rw_T hM (by assumption) | exact rw_A hM (by assumption)) (Nat.le_of_ble_eq_true rfl) (m_meets (d + 1) hM (f := 5) (by decide)) ?_
        refine st_go rfl ?_
        -- at 19: op_iret
        exact st_iret rfl ⟨rfl, rfl⟩
      refine st_ald rfl rfl ?_
      refine st_gR' rfl (by first | exact tT hM rfl | assumption | exact rw_T hM (by assumption) | exact rw_A hM (by assumption)) (by first | exact rR hM rfl rfl | assumption | exact rw_R hM (by assumption)) ?_
      refine st_ild rfl rfl ?_
      refine st_iald rfl (by first | exact tT hM rfl | assumption | exact rw_T hM (by assumption) | exact rw_A hM (by assumption)) (by first | decide | assumption | exact vp_in_nI (by omega) (by decide)) ?_
      -- at 6: stop
      refine wp_e e2 ?_
      refine st_b1 rfl (fun _ => ?_) (fun zq => absurd (nI_pos' (by omega)) zq)
      refine st_ald rfl rfl ?_
      refine st_ild rfl rfl ?_
      refine st_ild rfl rfl ?_
      refine st_cav (As := [_, _]) rfl rfl rfl (by first | exact tT hM rfl | assumption | exact rw_T hM (by assumption) | exact rw_A hM (by assumption)) (Nat.le_of_ble_eq_true rfl) (hsz) ?_
      refine st_ist rfl ?_
      refine st_ild rfl rfl ?_
      refine st_b1 rfl (fun zq => absurd zq ((by decide))) (fun _ => ?_)
      refine st_ild rfl rfl ?_
      -- at 27: op_iret
      exact st_iret rfl ⟨rfl, rfl⟩
    · refine Or.inr ?_
      have hsz : pm_call (d + 3) 212 [.ref 132, .int (nI r), .int (nI most)] M (some (.int 0)) M := by
        refine en_212 (Nat.le_of_ble_eq_true rfl) ?_
        refine st_ald rfl rfl ?_
        refine st_gR' rfl (by first | exact tT hM rfl | assumption | exact rw_T hM (by assumption) | exact rw_A hM (by assumption)) (by first | exact rR hM rfl rfl | assumption | exact rw_R hM (by assumption)) ?_
        refine st_ild rfl rfl ?_
        refine st_iald rfl (by first | exact tT hM rfl | assumption | exact rw_T hM (by assumption) | exact rw_A hM (by assumption)) (by first | decide | assumption | exact vp_in_nI (by omega) (by decide)) ?_
        -- at 6: stop
        refine wp_e e2 ?_
        refine st_ild rfl rfl ?_
        refine st_b2 rfl (fun _ => ?_) (fun zq => absurd (nI_le (by omega) (by omega)) zq)
        refine st_k rfl ?_
        -- at 19: op_iret
        exact st_iret rfl ⟨rfl, rfl⟩
      rcases m_areKnots d hM hw hc hr h with ⟨⟨ws, hws, hk⟩, hcall⟩ | ⟨hno, hcall⟩
      · subst hws
        rw [map_len] at hm
        obtain ⟨M', hc2, h5, h6⟩ := m_lookAtRow (d + 1) hM hr (ws := ws) (by omega) h
        refine Or.inr ⟨ws, rfl, hk, by omega, M', en_214 (Nat.le_of_ble_eq_true rfl) ?_, h5, h6⟩
        refine st_ald rfl rfl ?_
        refine st_gR' rfl (by first | exact tT hM rfl | assumption | exact rw_T hM (by assumption) | exact rw_A hM (by assumption)) (by first | exact rR hM rfl rfl | assumption | exact rw_R hM (by assumption)) ?_
        refine st_ild rfl rfl ?_
        refine st_iald rfl (by first | exact tT hM rfl | assumption | exact rw_T hM (by assumption) | exact rw_A hM (by assumption)) (by first | decide | assumption | exact vp_in_nI (by omega) (by decide)) ?_
        -- at 6: stop
        refine wp_e e2 ?_
        refine st_b1 rfl (fun _ => ?_) (fun zq => absurd (nI_pos' (by rw [map_len]; omega)) zq)
        refine st_ald rfl rfl ?_
        refine st_ild rfl rfl ?_
        refine st_ild rfl rfl ?_
        refine st_cav (As := [_, _]) rfl rfl rfl (by first | exact tT hM rfl | assumption | exact rw_T hM (by assumption) | exact rw_A hM (by assumption)) (Nat.le_of_ble_eq_true rfl) (hsz) ?_
        refine st_ist rfl ?_
        refine st_ild rfl rfl ?_
        refine st_b1 rfl (fun _ => ?_) (fun zq => absurd ((by decide)) zq)
        refine st_ald rfl rfl ?_
        refine st_ild rfl rfl ?_
        refine st_cav (As := [_]) rfl rfl rfl (by first | exact tT hM rfl | assumption | exact rw_T hM (by assumption) | exact rw_A hM (by assumption)) (Nat.le_of_ble_eq_true rfl) (hcall) ?_
        refine st_b1 rfl (fun _ => ?_) (fun zq => absurd ((by decide)) zq)
        refine st_ald rfl rfl ?_
        refine st_ild rfl rfl ?_
        refine st_cav (As := [_]) rfl rfl rfl (by first | exact tT hM rfl | assumption | exact rw_T hM (by assumption) | exact rw_A hM (by assumption)) (Nat.le_of_ble_eq_true rfl) (hc2) ?_
        refine st_k rfl ?_
        -- at 48: op_iret
        exact st_iret rfl ⟨rfl, rfl⟩
      · refine Or.inl ⟨l, rfl, by omega, hno, en_214 (Nat.le_of_ble_eq_true rfl) ?_⟩
        refine st_ald rfl rfl ?_
        refine st_gR' rfl (by first | exact tT hM rfl | assumption | exact rw_T hM (by assumption) | exact rw_A hM (by assumption)) (by first | exact rR hM rfl rfl | assumption | exact rw_R hM (by assumption)) ?_
        refine st_ild rfl rfl ?_
        refine st_iald rfl (by first | exact tT hM rfl | assumption | exact rw_T hM (by assumption) | exact rw_A hM (by assumption)) (by first | decide | assumption | exact vp_in_nI (by omega) (by decide)) ?_
        -- at 6: stop
        refine wp_e e2 ?_
        refine st_b1 rfl (fun _ => ?_) (fun zq => absurd (nI_pos' (by omega)) zq)
        refine st_ald rfl rfl ?_
        refine st_ild rfl rfl ?_
        refine st_ild rfl rfl ?_
        refine st_cav (As := [_, _]) rfl rfl rfl (by first | exact tT hM rfl | assumption | exact rw_T hM (by assumption) | exact rw_A hM (by assumption)) (Nat.le_of_ble_eq_true rfl) (hsz) ?_
        refine st_ist rfl ?_
        refine st_ild rfl rfl ?_
        refine st_b1 rfl (fun _ => ?_) (fun zq => absurd ((by decide)) zq)
        refine st_ald rfl rfl ?_
        refine st_ild rfl rfl ?_
        refine st_cav (As := [_]) rfl rfl rfl (by first | exact tT hM rfl | assumption | exact rw_T hM (by assumption) | exact rw_A hM (by assumption)) (Nat.le_of_ble_eq_true rfl) (hcall) ?_
        refine st_b1 rfl (fun zq => absurd zq ((by decide))) (fun _ => ?_)
        refine st_ald rfl rfl ?_
        refine st_k rfl ?_
        refine st_cav (As := [_]) rfl rfl rfl (by first | exact tT hM rfl | assumption | exact rw_T hM (by assumption) | exact rw_A hM (by assumption)) (Nat.le_of_ble_eq_true rfl) (m_meets (d + 2) hM (f := 3) (by decide)) ?_
        -- at 41: op_iret
        exact st_iret rfl ⟨rfl, rfl⟩
end MOG

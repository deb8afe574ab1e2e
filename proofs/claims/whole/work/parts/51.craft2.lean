/-! THE CLASS Craft: contracts of what is asked of it -/
section CRA
variable {M : pm_M} {c : Cf}
theorem c_hasKnot (d : Nat) (hM : pm_ok M) (hc : CC c M) (k : Int32) : pm_call (d + 1) 9 [.ref 7, .int k] M (some (.int (if ¬ k < 0 ∧ ¬ nI (cf_n c) ≤ k then 1 else 0))) M := by
  refine en_9 (Nat.le_of_ble_eq_true rfl) ?_
  refine st_ild rfl rfl ?_
  refine st_b1 rfl (fun h1 => ?_) (fun h1 => ?_)
  -- at 1: split 16 4
  · refine st_k rfl ?_
    -- at 17: op_zret
    exact st_zret rfl (by decide) ⟨by rw [if_neg (fun q => q.1 h1)], rfl⟩
  · refine st_ild rfl rfl ?_
    refine st_ald rfl rfl ?_
    refine st_gI rfl (by first | exact tT hM rfl | assumption | exact rw_T hM (by assumption) | exact rw_A hM (by assumption)) ?_
    -- at 9: op_b2 (fun x y => y ≤ x) 16 12
    refine wp_e hc.1.2.2.1 ?_
    refine st_b2 rfl (fun h2 => ?_) (fun h2 => ?_)
    · refine st_k rfl ?_
      -- at 17: op_zret
      exact st_zret rfl (by decide) ⟨by rw [if_neg (fun q => q.2 h2)], rfl⟩
    · refine st_k rfl ?_
      refine st_go rfl ?_
      -- at 17: op_zret
      exact st_zret rfl (by decide) ⟨by rw [if_pos ⟨h1, h2⟩], rfl⟩
theorem in6 {c : Cf} (hw : cf_wf c) {k : Nat} (hk : k < cf_n c) : vp_in (nI k) 6 := vp_in_nI (by have := hw.1; omega) (by decide)
theorem cl6 {c : Cf} (hw : cf_wf c) {k : Nat} (hk : k < cf_n c) : (nI k).toNatClampNeg = k := nI_clamp (by have := hw.1; omega)
theorem c_isOfKind (d : Nat) (hM : pm_ok M) (hw : cf_wf c) (hc : CC c M) {k kind : Nat} (hk : k < cf_n c) (hkind : kind < 2 ^ 31) : pm_call (d + 1) 10 [.ref 7, .int (nI k), .int (nI kind)] M (some (.int (if isk c k kind then 1 else 0))) M := by
  refine en_10 (Nat.le_of_ble_eq_true rfl) ?_
  have hin := in6 hw hk
  have hkd := (hw.2.2.2.2.2.1 k hk).1
  have e : gI M 8 (nI k).toNatClampNeg = nI (cf_kd c k) := by rw [cl6 hw hk]; exact (hc.2.1 k hk).1
  have yes : isk c k kind → pm_WP (pm_call d) tb_10 (fun r0 M1 => r0 = some (.int (if isk c k kind then 1 else 0)) ∧ M1 = M) 32 [some (.ref 7), some (.int (nI k)), some (.int (nI kind)), some (.int (nI (cf_kd c k)))] [] M := by
    intro h
    refine st_k rfl ?_
    refine st_go rfl ?_
    -- at 37: op_zret
    exact st_zret rfl (by decide) ⟨by rw [if_pos h], rfl⟩
  have no : ¬ isk c k kind → pm_WP (pm_call d) tb_10 (fun r0 M1 => r0 = some (.int (if isk c k kind then 1 else 0)) ∧ M1 = M) 36 [some (.ref 7), some (.int (nI k)), some (.int (nI kind)), some (.int (nI (cf_kd c k)))] [] M := by
    intro h
    refine st_k rfl ?_
    -- at 37: op_zret
    exact st_zret rfl (by decide) ⟨by rw [if_neg h], rfl⟩
  have n3 : nI (cf_kd c k) = 3 ↔ cf_kd c k = 3 := nI_eq (a := cf_kd c k) (b := 3) (by omega) (by decide)
  have n4 : nI (cf_kd c k) = 4 ↔ cf_kd c k = 4 := nI_eq (a := cf_kd c k) (b := 4) (by omega) (by decide)
  have m1 : nI kind = 1 ↔ kind = 1 := nI_eq (a := kind) (b := 1) (by omega) (by decide)
  have m2 : nI kind = 2 ↔ kind = 2 := nI_eq (a := kind) (b := 2) (by omega) (by decide)
  have m0 : nI (cf_kd c k) = nI kind ↔ cf_kd c k = kind := nI_eq (by omega) (by omega)
  refine st_ald rfl rfl ?_
  refine st_gR' rfl (by first | exact tT hM rfl | assumption | exact rw_T hM (by assumption) | exact rw_A hM (by assumption)) (by first | exact rR hM rfl rfl | assumption | exact rw_R hM (by assumption)) ?_
  refine st_ild rfl rfl ?_
  refine st_iald rfl (by first | exact tT hM rfl | assumption | exact rw_T hM (by assumption) | exact rw_A hM (by assumption)) (by first | decide | assumption | exact vp_in_nI (by omega) (by decide)) ?_
  -- at 6: stop
  refine wp_e e ?_
  refine st_ist rfl ?_
  refine st_ild rfl rfl ?_
  refine st_ild rfl rfl ?_
  refine st_b2 rfl (fun h1 => ?_) (fun h1 => ?_)
  -- at 9: split 32 12
  · exact yes (Or.inl (m0.mp h1))
  · have g1 : ¬ cf_kd c k = kind := fun z => h1 (m0.mpr z)
    have rest : ¬ (cf_kd c k = 3 ∧ kind = 1) → pm_WP (pm_call d) tb_10 (fun r0 M1 => r0 = some (.int (if isk c k kind then 1 else 0)) ∧ M1 = M) 22 [some (.ref 7), some (.int (nI k)), some (.int (nI kind)), some (.int (nI (cf_kd c k)))] [] M := by
      intro g2
      refine st_ild rfl rfl ?_
      refine st_k rfl ?_
      refine st_b2 rfl (fun h4 => ?_) (fun h4 => ?_)
      -- at 24: split 36 27
      · exact no (fun z => z.elim g1 (fun z => z.elim g2 (fun z => h4 (n4.mpr z.1))))
      · have h4 := n4.mp (Decidable.not_not.mp h4)
        refine st_ild rfl rfl ?_
        refine st_k rfl ?_
        refine st_b2 rfl (fun h5 => ?_) (fun h5 => ?_)
        -- at 29: split 36 32
        · exact no (fun z => z.elim g1 (fun z => z.elim g2 (fun z => h5 (m2.mpr z.2))))
        · exact yes (Or.inr (Or.inr ⟨h4, m2.mp (Decidable.not_not.mp h5)⟩))
    refine st_ild rfl rfl ?_
    refine st_k rfl ?_
    refine st_b2 rfl (fun h2 => ?_) (fun h2 => ?_)
    -- at 14: split 22 17
    · exact rest (fun z => h2 (n3.mpr z.1))
    · have h2 := n3.mp (Decidable.not_not.mp h2)
      refine st_ild rfl rfl ?_
      refine st_k rfl ?_
      refine st_b2 rfl (fun h3 => ?_) (fun h3 => ?_)
      -- at 19: split 32 22
      · exact yes (Or.inr (Or.inl ⟨h2, m1.mp h3⟩))
      · exact rest (fun z => h3 (m1.mpr z.2))
theorem c_isWill (d : Nat) (hM : pm_ok M) (hw : cf_wf c) (hc : CC c M) {k : Nat} (hk : k < cf_n c) : pm_call (d + 1) 11 [.ref 7, .int (nI k)] M (some (.int (if cf_kd c k = 5 then 1 else 0))) M := by
  refine en_11 (Nat.le_of_ble_eq_true rfl) ?_
  have hin := in6 hw hk
  have hkd := (hw.2.2.2.2.2.1 k hk).1
  have e : gI M 8 (nI k).toNatClampNeg = nI (cf_kd c k) := by rw [cl6 hw hk]; exact (hc.2.1 k hk).1
  have n5 : nI (cf_kd c k) = 5 ↔ cf_kd c k = 5 := nI_eq (a := cf_kd c k) (b := 5) (by omega) (by decide)
  refine st_ald rfl rfl ?_
  refine st_gR' rfl (by first | exact tT hM rfl | assumption | exact rw_T hM (by assumption) | exact rw_A hM (by assumption)) (by first | exact rR hM rfl rfl | assumption | exact rw_R hM (by assumption)) ?_
  refine st_ild rfl rfl ?_
  refine st_iald rfl (by first | exact tT hM rfl | assumption | exact rw_T hM (by assumption) | exact rw_A hM (by assumption)) (by first | decide | assumption | exact vp_in_nI (by omega) (by decide)) ?_
  -- at 6: stop
  refine wp_e e ?_
  refine st_k rfl ?_
  refine st_b2 rfl (fun h1 => ?_) (fun h1 => ?_)
  -- at 7: split 14 10
  · refine st_k rfl ?_
    -- at 15: op_zret
    exact st_zret rfl (by decide) ⟨by rw [if_neg (fun z => h1 (n5.mpr z))], rfl⟩
  · refine st_k rfl ?_
    refine st_go rfl ?_
    -- at 15: op_zret
    exact st_zret rfl (by decide) ⟨by rw [if_pos (n5.mp (Decidable.not_not.mp h1))], rfl⟩
theorem c_takesAlone (d : Nat) (hM : pm_ok M) (hw : cf_wf c) (hc : CC c M) {k : Nat} (hk : k < cf_n c) : pm_call (d + 2) 13 [.ref 7, .int (nI k)] M (some (.int (nI (alo c k)))) M := by
  refine en_13 (Nat.le_of_ble_eq_true rfl) ?_
  have hin := in6 hw hk
  have e : gI M 9 (nI k).toNatClampNeg = nI (cf_sz c k) := by rw [cl6 hw hk]; exact (hc.2.1 k hk).2.1
  have hcall := c_isOfKind d hM hw hc hk (kind := 1) (by decide)
  have hi : isk c k 1 ↔ (cf_kd c k = 1 ∨ cf_kd c k = 3) := by
    constructor
    · rintro (q | q | q)
      · exact Or.inl q
      · exact Or.inr q.1
      · omega
    · rintro (q | q)
      · exact Or.inl q
      · exact Or.inr (Or.inl ⟨q, rfl⟩)
  refine st_ald rfl rfl ?_
  refine st_ild rfl rfl ?_
  refine st_k rfl ?_
  refine st_cav (As := [_, _]) rfl rfl rfl (by first | exact tT hM rfl | assumption | exact rw_T hM (by assumption) | exact rw_A hM (by assumption)) (Nat.le_of_ble_eq_true rfl) (hcall) ?_
  refine st_b1 rfl (fun h1 => ?_) (fun h1 => ?_)
  -- at 6: split 20 9
  · have g : ¬ isk c k 1 := fun z => b01_t z h1
    refine st_ald rfl rfl ?_
    refine st_gR' rfl (by first | exact tT hM rfl | assumption | exact rw_T hM (by assumption) | exact rw_A hM (by assumption)) (by first | exact rR hM rfl rfl | assumption | exact rw_R hM (by assumption)) ?_
    refine st_ild rfl rfl ?_
    refine st_iald rfl (by first | exact tT hM rfl | assumption | exact rw_T hM (by assumption) | exact rw_A hM (by assumption)) (by first | decide | assumption | exact vp_in_nI (by omega) (by decide)) ?_
    -- at 26: op_iret
    refine wp_e e ?_
    exact st_iret rfl ⟨by unfold alo; rw [if_neg (fun z => g (hi.mpr z))], rfl⟩
  · have g : isk c k 1 := Decidable.not_not.mp (fun z => h1 (b01_f z))
    refine st_k rfl ?_
    refine st_ald rfl rfl ?_
    refine st_gR' rfl (by first | exact tT hM rfl | assumption | exact rw_T hM (by assumption) | exact rw_A hM (by assumption)) (by first | exact rR hM rfl rfl | assumption | exact rw_R hM (by assumption)) ?_
    refine st_ild rfl rfl ?_
    refine st_iald rfl (by first | exact tT hM rfl | assumption | exact rw_T hM (by assumption) | exact rw_A hM (by assumption)) (by first | decide | assumption | exact vp_in_nI (by omega) (by decide)) ?_
    -- at 16: stop
    refine wp_e e ?_
    refine st_ib rfl ?_
    refine st_go rfl ?_
    -- at 26: op_iret
    exact st_iret rfl ⟨by unfold alo; rw [if_pos (hi.mp g)]; show some (Value.int (nI 2 * nI _)) = _; rw [pk_mul], rfl⟩
theorem ix6 {c : Cf} (hw : cf_wf c) {last k : Nat} (hl : lst c last) (hk : k < cf_n c) : nI last * 6 + nI k = nI (last * 6 + k) ∧ last * 6 + k < 42 := by
  have h1 := lst6 hw hl
  have h2 := hw.1
  refine ⟨?_, by omega⟩
  show nI last * nI 6 + nI k = _
  rw [pk_mul, nI_add]
theorem c_takesBehind (d : Nat) (hM : pm_ok M) (hw : cf_wf c) (hc : CC c M) {last k : Nat} (hl : lst c last) (hk : k < cf_n c) : pm_call (d + 1) 14 [.ref 7, .int (nI last), .int (nI k)] M (some (.int (nI (tk c last k)))) M := by
  refine en_14 (Nat.le_of_ble_eq_true rfl) ?_
  obtain ⟨e, hlt⟩ := ix6 hw hl hk
  have hin : vp_in (nI last * 6 + nI k) 42 := by rw [e]; exact vp_in_nI hlt (by decide)
  refine st_ald rfl rfl ?_
  refine st_gR' rfl (by first | exact tT hM rfl | assumption | exact rw_T hM (by assumption) | exact rw_A hM (by assumption)) (by first | exact rR hM rfl rfl | assumption | exact rw_R hM (by assumption)) ?_
  refine st_ild rfl rfl ?_
  refine st_k rfl ?_
  refine st_ib rfl ?_
  refine st_ild rfl rfl ?_
  refine st_ib rfl ?_
  refine st_iald rfl (by first | exact tT hM rfl | assumption | exact rw_T hM (by assumption) | exact rw_A hM (by assumption)) (by first | decide | assumption | exact vp_in_nI (by omega) (by decide)) ?_
  -- at 11: op_iret
  refine st_iret rfl ⟨?_, rfl⟩
  rw [e, nI_clamp (by omega), ((hc.2.2.2.1 last hl).2.2 k hk)]
theorem c_isBarred (d : Nat) (hM : pm_ok M) (hw : cf_wf c) (hc : CC c M) {last k : Nat} (hl : lst c last) (hk : k < cf_n c) : pm_call (d + 1) 15 [.ref 7, .int (nI last), .int (nI k)] M (some (.int (if bar c last k = true then 1 else 0))) M := by
  refine en_15 (Nat.le_of_ble_eq_true rfl) ?_
  have h6 := lst6 hw hl
  have hn := hw.1
  have hin : vp_in (nI last) 7 := vp_in_nI (by omega) (by decide)
  have hb : (if last < 6 then cf_br c last else 0) < 64 := by
    split
    · rcases hl with q | q
      · exact (hw.2.2.2.2.2.1 last q).2.2.2.2
      · omega
    · decide
  have e : gI M 14 (nI last).toNatClampNeg = nI (if last < 6 then cf_br c last else 0) := by rw [nI_clamp (by omega)]; exact (hc.2.2.2.1 last hl).1
  have e2 := bit_eq hb (show k < 6 by omega)
  have e3 : ((if last < 6 then cf_br c last else 0).testBit k = true) ↔ bar c last k = true := by
    unfold bar
    by_cases q : last < 6
    · simp [q]
    · simp [q]
  refine st_ald rfl rfl ?_
  refine st_gR' rfl (by first | exact tT hM rfl | assumption | exact rw_T hM (by assumption) | exact rw_A hM (by assumption)) (by first | exact rR hM rfl rfl | assumption | exact rw_R hM (by assumption)) ?_
  refine st_ild rfl rfl ?_
  refine st_iald rfl (by first | exact tT hM rfl | assumption | exact rw_T hM (by assumption) | exact rw_A hM (by assumption)) (by first | decide | assumption | exact vp_in_nI (by omega) (by decide)) ?_
  -- at 6: stop
  refine wp_e e ?_
  refine st_ild rfl rfl ?_
  refine st_ib rfl ?_
  refine st_k rfl ?_
  refine st_ib rfl ?_
  -- at 10: stop
  refine wp_e e2 ?_
  refine st_b1 rfl (fun h1 => ?_) (fun h1 => ?_)
  · refine st_k rfl ?_
    -- at 18: op_zret
    exact st_zret rfl (by decide) ⟨by rw [if_neg (fun z => b01_t (e3.mpr z) h1)], rfl⟩
  · refine st_k rfl ?_
    refine st_go rfl ?_
    -- at 18: op_zret
    exact st_zret rfl (by decide) ⟨by rw [if_pos (e3.mp (Decidable.not_not.mp (fun z => h1 (b01_f z))))], rfl⟩
theorem c_pairedSign (d : Nat) (hM : pm_ok M) (hw : cf_wf c) (hc : CC c M) {a b : Nat} (ha : a < cf_n c) (hb : b < cf_n c) : pm_call (d + 1) 16 [.ref 7, .int (nI a), .int (nI b)] M (some (.int (p32 (pr c a b)))) M := by
  refine en_16 (Nat.le_of_ble_eq_true rfl) ?_
  obtain ⟨e, hlt⟩ := ix6 hw (Or.inl ha) hb
  have hn := hw.1
  have hin : vp_in (nI a * 6 + nI b) 36 := by rw [e]; exact vp_in_nI (by omega) (by decide)
  refine st_ald rfl rfl ?_
  refine st_gR' rfl (by first | exact tT hM rfl | assumption | exact rw_T hM (by assumption) | exact rw_A hM (by assumption)) (by first | exact rR hM rfl rfl | assumption | exact rw_R hM (by assumption)) ?_
  refine st_ild rfl rfl ?_
  refine st_k rfl ?_
  refine st_ib rfl ?_
  refine st_ild rfl rfl ?_
  refine st_ib rfl ?_
  refine st_iald rfl (by first | exact tT hM rfl | assumption | exact rw_T hM (by assumption) | exact rw_A hM (by assumption)) (by first | decide | assumption | exact vp_in_nI (by omega) (by decide)) ?_
  -- at 11: op_iret
  refine st_iret rfl ⟨?_, rfl⟩
  rw [e, nI_clamp (by omega), hc.2.2.2.2.1 a b ha hb]
theorem c_room (d : Nat) (hM : pm_ok M) (hw : cf_wf c) (hc : CC c M) : pm_call (d + 1) 19 [.ref 7] M (some (.int (nI (cf_rm c)))) M := by
  refine en_19 (Nat.le_of_ble_eq_true rfl) ?_
  refine st_ald rfl rfl ?_
  refine st_gI rfl (by first | exact tT hM rfl | assumption | exact rw_T hM (by assumption) | exact rw_A hM (by assumption)) ?_
  refine st_ald rfl rfl ?_
  refine st_gI rfl (by first | exact tT hM rfl | assumption | exact rw_T hM (by assumption) | exact rw_A hM (by assumption)) ?_
  refine st_ib rfl ?_
  -- at 9: op_iret
  refine st_iret rfl ⟨?_, rfl⟩
  rw [hc.1.1, hc.1.2.1, pk_sub hw.2.1]
  rfl
theorem map_len (ws : List Nat) : (ws.map nI).length = ws.length := List.length_map ..
theorem map_getD {ws : List Nat} {i : Nat} (h : i < ws.length) : (ws.map nI).getD i 0 = nI (ws.getD i 0) := by
  simp [List.getD_eq_getElem?_getD, List.getElem?_eq_getElem h]
theorem drop_getD {ws : List Nat} {i : Nat} (h : i < ws.length) : ws.drop i = ws.getD i 0 :: ws.drop (i + 1) := by
  rw [List.drop_eq_getElem_cons h]
  simp [List.getD_eq_getElem?_getD, List.getElem?_eq_getElem h]
theorem kn_getD {c : Cf} {ws : List Nat} (h : kn c ws) {i : Nat} (hi : i < ws.length) : ws.getD i 0 < cf_n c := by
  refine h _ ?_
  simp [List.getD_eq_getElem?_getD, List.getElem?_eq_getElem hi]
theorem c_measure (d : Nat) (hM : pm_ok M) (hw : cf_wf c) (hc : CC c M) {o : Nat} (ho : pm_rw o = true) {ws : List Nat} (hk : kn c ws) (h : pm_Ro M o (ws.map nI)) : pm_call (d + 2) 20 [.ref 7, .ref o] M (some (.int (nI (ms c 6 ws)))) M := by
  refine en_20 (Nat.le_of_ble_eq_true rfl) ?_
  have hl := h.2.1
  have hms := ms_le hw ws 6 hk
  rw [map_len] at hl
  have loop : ∀ n i x last y a, x = nI i → y = nI a → i + n = ws.length → lst c last → a + ms c last (ws.drop i) = ms c 6 ws → pm_WP (pm_call (d + 1)) tb_20 (fun r0 M1 => r0 = some (.int (nI (ms c 6 ws))) ∧ M1 = M) 8 [some (.ref 7), some (.ref o), some (.int (nI last)), some (.int y), some (.int x)] [] M := by
    intro n
    induction n with
    | zero =>
      intro i x last y a hx hy hi hlst ha
      subst hx; subst hy
      have q : gI M o 1 ≤ nI i := by rw [h.1, map_len]; exact nI_le (by omega) (by omega)
      have h6 := lst6 hw hlst
      have hin : vp_in (nI last) 7 := vp_in_nI (by omega) (by decide)
      have e : gI M 15 (nI last).toNatClampNeg = nI (em c last) := by rw [nI_clamp (by omega)]; exact (hc.2.2.2.1 last hlst).2.1
      refine st_ild rfl rfl ?_
      refine st_ald rfl rfl ?_
      refine st_gI rfl (rw_T hM ho) ?_
      refine st_b2 rfl (fun _ => ?_) (fun zq => absurd (q) zq)
      refine st_ild rfl rfl ?_
      refine st_ald rfl rfl ?_
      refine st_gR' rfl (by first | exact tT hM rfl | assumption | exact rw_T hM (by assumption) | exact rw_A hM (by assumption)) (by first | exact rR hM rfl rfl | assumption | exact rw_R hM (by assumption)) ?_
      refine st_ild rfl rfl ?_
      refine st_iald rfl (by first | exact tT hM rfl | assumption | exact rw_T hM (by assumption) | exact rw_A hM (by assumption)) (by first | decide | assumption | exact vp_in_nI (by omega) (by decide)) ?_
      -- at 53: stop
      refine wp_e e ?_
      refine st_ib rfl ?_
      -- at 54: op_iret
      refine st_iret rfl ⟨?_, rfl⟩
      rw [nI_add, ← ha, List.drop_eq_nil_of_le (by omega)]
      rfl
    | succ n ih =>
      intro i x last y a hx hy hi hlst ha
      subst hx; subst hy
      have q : ¬ gI M o 1 ≤ nI i := by rw [h.1, map_len]; exact nI_ge (by omega) (by omega)
      have hin : vp_in (nI i) 40 := vp_in_nI (by omega) (by decide)
      have hat : gI M (o + 1) (nI i).toNatClampNeg = nI (ws.getD i 0) := by rw [ro_at h (by rw [map_len]; omega), map_getD (by omega)]
      have hkk := kn_getD hk (show i < ws.length by omega)
      refine st_ild rfl rfl ?_
      refine st_ald rfl rfl ?_
      refine st_gI rfl (rw_T hM ho) ?_
      refine st_b2 rfl (fun zq => absurd zq (q)) (fun _ => ?_)
      refine st_ild rfl rfl ?_
      refine st_ald rfl rfl ?_
      refine st_ild rfl rfl ?_
      refine st_ald rfl rfl ?_
      refine st_gR' rfl (by first | exact tT hM rfl | assumption | exact rw_T hM (by assumption) | exact rw_A hM (by assumption)) (by first | exact rR hM rfl rfl | assumption | exact rw_R hM (by assumption)) ?_
      refine st_ild rfl rfl ?_
      refine st_iald rfl (by first | exact tT hM rfl | assumption | exact rw_T hM (by assumption) | exact rw_A hM (by assumption)) (by first | decide | assumption | exact vp_in_nI (by omega) (by decide)) ?_
      -- at 27: stop
      refine wp_e hat ?_
      refine st_cav (As := [_, _]) rfl rfl rfl (by first | exact tT hM rfl | assumption | exact rw_T hM (by assumption) | exact rw_A hM (by assumption)) (Nat.le_of_ble_eq_true rfl) (c_takesBehind d hM hw hc hlst hkk) ?_
      refine st_ib rfl ?_
      refine st_ist rfl ?_
      refine st_ald rfl rfl ?_
      refine st_gR' rfl (by first | exact tT hM rfl | assumption | exact rw_T hM (by assumption) | exact rw_A hM (by assumption)) (by first | exact rR hM rfl rfl | assumption | exact rw_R hM (by assumption)) ?_
      refine st_ild rfl rfl ?_
      refine st_iald rfl (by first | exact tT hM rfl | assumption | exact rw_T hM (by assumption) | exact rw_A hM (by assumption)) (by first | decide | assumption | exact vp_in_nI (by omega) (by decide)) ?_
      -- at 39: stop
      refine wp_e hat ?_
      refine st_ist rfl ?_
      refine st_inc rfl rfl ?_
      refine st_go rfl ?_
      -- at 8: stop
      refine ih (i + 1) _ _ _ _ (nI_1 i) (nI_add _ _) (by omega) (Or.inl hkk) ?_
      rw [← ha, drop_getD (show i < ws.length by omega)]
      simp only [ms]
      omega
  refine st_k rfl ?_
  refine st_ist rfl ?_
  refine st_k rfl ?_
  refine st_ist rfl ?_
  refine st_k rfl ?_
  refine st_ist rfl ?_
  -- at 8: stop
  exact loop ws.length 0 0 6 0 0 rfl rfl (by omega) (Or.inr rfl) (by simp)
theorem c_spareOf (d : Nat) (hM : pm_ok M) (hw : cf_wf c) (hc : CC c M) {o : Nat} (ho : pm_rw o = true) {ws : List Nat} (hk : kn c ws) (h : pm_Ro M o (ws.map nI)) : pm_call (d + 3) 21 [.ref 7, .ref o] M (some (.int (nI (cf_len c) - nI (ms c 6 ws)))) M := by
  refine en_21 (Nat.le_of_ble_eq_true rfl) ?_
  refine st_ald rfl rfl ?_
  refine st_gI rfl (by first | exact tT hM rfl | assumption | exact rw_T hM (by assumption) | exact rw_A hM (by assumption)) ?_
  refine st_ald rfl rfl ?_
  refine st_ald rfl rfl ?_
  refine st_cav (As := [_]) rfl rfl rfl (by first | exact tT hM rfl | assumption | exact rw_T hM (by assumption) | exact rw_A hM (by assumption)) (Nat.le_of_ble_eq_true rfl) (c_measure d hM hw hc ho hk h) ?_
  refine st_ib rfl ?_
  -- at 10: op_iret
  exact st_iret rfl ⟨by rw [hc.1.1], rfl⟩
theorem lw_drop {c : Cf} {last : Nat} : ∀ (ws : List Nat), lw c last ws = true ↔ (∀ k t, ws = k :: t → bar c last k = false) ∧ ∀ i, i + 1 < ws.length → bar c (ws.getD i 0) (ws.getD (i + 1) 0) = false
  | [] => by simp [lw]
  | [a] => by simp [lw]
  | a :: b :: t => by
    have ih := lw_drop (c := c) (last := a) (b :: t)
    unfold lw
    rw [Bool.and_eq_true, ih]
    constructor
    · rintro ⟨h1, h2, h3⟩
      refine ⟨fun k u e => by cases e; simpa using h1, fun i hi => ?_⟩
      cases i with
      | zero => exact h2 b t rfl
      | succ i => exact h3 i (by simpa using hi)
    · rintro ⟨h1, h2⟩
      refine ⟨by simpa using h1 a _ rfl, fun k u e => ?_, fun i hi => h2 (i + 1) (by simpa using hi)⟩
      cases e
      exact h2 0 (by simp)
theorem lw6 {c : Cf} {ws : List Nat} : lw c 6 ws = true ↔ ∀ i, i + 1 < ws.length → bar c (ws.getD i 0) (ws.getD (i + 1) 0) = false := by
  rw [lw_drop]
  exact ⟨fun h => h.2, fun h => ⟨fun k t _ => by simp [bar], h⟩⟩
theorem c_isRight (d : Nat) (hM : pm_ok M) (hw : cf_wf c) (hc : CC c M) {o : Nat} (ho : pm_rw o = true) {ws : List Nat} (hk : kn c ws) (h : pm_Ro M o (ws.map nI)) : pm_call (d + 3) 22 [.ref 7, .ref o] M (some (.int (if rt c ws then 1 else 0))) M := by
  refine en_22 (Nat.le_of_ble_eq_true rfl) ?_
  have hl := h.2.1
  rw [map_len] at hl
  have hms := ms_le hw ws 6 hk
  have hrm : cf_rm c ≤ 99 := by have := hw.2.2.1; unfold cf_rm; omega
  have tail : lw c 6 ws = true → ∀ x, pm_WP (pm_call (d + 2)) tb_22 (fun r0 M1 => r0 = some (.int (if rt c ws then 1 else 0)) ∧ M1 = M) 39 [some (.ref 7), some (.ref o), some (.int x)] [] M := by
    intro hlw x
    refine st_ald rfl rfl ?_
    refine st_ald rfl rfl ?_
    refine st_cav (As := [_]) rfl rfl rfl (by first | exact tT hM rfl | assumption | exact rw_T hM (by assumption) | exact rw_A hM (by assumption)) (Nat.le_of_ble_eq_true rfl) (c_measure d hM hw hc ho hk h) ?_
    refine st_ald rfl rfl ?_
    refine st_cav (As := []) rfl rfl rfl (by first | exact tT hM rfl | assumption | exact rw_T hM (by assumption) | exact rw_A hM (by assumption)) (Nat.le_of_ble_eq_true rfl) (c_room (d + 1) hM hw hc) ?_
    refine st_b2 rfl (fun h1 => ?_) (fun h1 => ?_)
    -- at 48: split 55 51
    · have h2 := (nI_ltI (by omega) (by omega)).mp h1
      refine st_k rfl ?_
      -- at 56: op_zret
      exact st_zret rfl (by decide) ⟨by rw [if_neg (fun z => by have := z.2; omega)], rfl⟩
    · have h2 : ¬ cf_rm c < ms c 6 ws := fun z => h1 ((nI_ltI (by omega) (by omega)).mpr z)
      refine st_k rfl ?_
      refine st_go rfl ?_
      -- at 56: op_zret
      exact st_zret rfl (by decide) ⟨by rw [if_pos ⟨hlw, by omega⟩], rfl⟩
  have loop : ∀ n i x, x = nI i → (i + n = ws.length ∨ (i = 1 ∧ n = 0 ∧ ws.length = 0)) → 1 ≤ i → (∀ t, t + 1 < i → bar c (ws.getD t 0) (ws.getD (t + 1) 0) = false) → pm_WP (pm_call (d + 2)) tb_22 (fun r0 M1 => r0 = some (.int (if rt c ws then 1 else 0)) ∧ M1 = M) 2 [some (.ref 7), some (.ref o), some (.int x)] [] M := by
    intro n
    induction n with
    | zero =>
      intro i x hx hi h1 ha
      subst hx
      have q : gI M o 1 ≤ nI i := by rw [h.1, map_len]; exact nI_le (by omega) (by omega)
      refine st_ild rfl rfl ?_
      refine st_ald rfl rfl ?_
      refine st_gI rfl (rw_T hM ho) ?_
      refine st_b2 rfl (fun _ => ?_) (fun zq => absurd (q) zq)
      -- at 39: stop
      exact tail (lw6.mpr (fun t ht => ha t (by omega))) _
    | succ n ih =>
      intro i x hx hi h1 ha
      subst hx
      have hi : i + (n + 1) = ws.length := by omega
      have q : ¬ gI M o 1 ≤ nI i := by rw [h.1, map_len]; exact nI_ge (by omega) (by omega)
      obtain ⟨i', rfl⟩ : ∃ i', i = i' + 1 := ⟨i - 1, by omega⟩
      have ep : nI (i' + 1) - 1 = nI i' := nI_pred i'
      have hin : vp_in (nI (i' + 1)) 40 := vp_in_nI (by omega) (by decide)
      have hin2 : vp_in (nI (i' + 1) - 1) 40 := by rw [ep]; exact vp_in_nI (by omega) (by decide)
      have hat : gI M (o + 1) (nI (i' + 1)).toNatClampNeg = nI (ws.getD (i' + 1) 0) := by rw [ro_at h (by rw [map_len]; omega), map_getD (by omega)]
      have hat2 : gI M (o + 1) (nI (i' + 1) - 1).toNatClampNeg = nI (ws.getD i' 0) := by rw [ep, ro_at h (by rw [map_len]; omega), map_getD (by omega)]
      have hk1 := kn_getD hk (show i' < ws.length by omega)
      have hk2 := kn_getD hk (show i' + 1 < ws.length by omega)
      refine st_ild rfl rfl ?_
      refine st_ald rfl rfl ?_
      refine st_gI rfl (rw_T hM ho) ?_
      refine st_b2 rfl (fun zq => absurd zq (q)) (fun _ => ?_)
      refine st_ald rfl rfl ?_
      refine st_ald rfl rfl ?_
      refine st_gR' rfl (by first | exact tT hM rfl | assumption | exact rw_T hM (by assumption) | exact rw_A hM (by assumption)) (by first | exact rR hM rfl rfl | assumption | exact rw_R hM (by assumption)) ?_
      refine st_ild rfl rfl ?_
      refine st_k rfl ?_
      refine st_ib rfl ?_
      refine st_iald rfl (rw_A hM ho) (hin2) ?_
      -- at 19: stop
      refine wp_e hat2 ?_
      refine st_ald rfl rfl ?_
      refine st_gR' rfl (by first | exact tT hM rfl | assumption | exact rw_T hM (by assumption) | exact rw_A hM (by assumption)) (by first | exact rR hM rfl rfl | assumption | exact rw_R hM (by assumption)) ?_
      refine st_ild rfl rfl ?_
      refine st_iald rfl (by first | exact tT hM rfl | assumption | exact rw_T hM (by assumption) | exact rw_A hM (by assumption)) (by first | decide | assumption | exact vp_in_nI (by omega) (by decide)) ?_
      -- at 25: stop
      refine wp_e hat ?_
      refine st_cav (As := [_, _]) rfl rfl rfl (by first | exact tT hM rfl | assumption | exact rw_T hM (by assumption) | exact rw_A hM (by assumption)) (Nat.le_of_ble_eq_true rfl) (c_isBarred (d + 1) hM hw hc (Or.inl hk1) hk2) ?_
      refine st_b1 rfl (fun hb => ?_) (fun hb => ?_)
      -- at 28: split 33 31
      · have hb2 : ¬ bar c (ws.getD i' 0) (ws.getD (i' + 1) 0) = true := fun z => b01_t z hb
        refine st_inc rfl rfl ?_
        refine st_go rfl ?_
        -- at 2: stop
        refine ih (i' + 1 + 1) _ (nI_1 _) (by omega) (by omega) (fun t ht => ?_)
        by_cases z : t = i'
        · subst z; simpa using hb2
        · exact ha t (by omega)
      · have hb2 : bar c (ws.getD i' 0) (ws.getD (i' + 1) 0) = true := Decidable.not_not.mp (fun z => hb (b01_f z))
        refine st_k rfl ?_
        -- at 32: op_zret
        refine st_zret rfl (by decide) ⟨?_, rfl⟩
        rw [if_neg]
        rintro ⟨z, -⟩
        have := lw6.mp z i' (by omega)
        rw [hb2] at this
        cases this
  refine st_k rfl ?_
  refine st_ist rfl ?_
  -- at 2: stop
  exact loop (ws.length - 1) 1 1 rfl (by omega) (Nat.le_refl _) (fun t ht => by omega)
end CRA

/-! BOTH ANSWER ALIKE: ropes told by rows -/
theorem rope_cs {a : As} (j most : Nat) : aR a j = none ∨ (∃ l, aR a j = some l ∧ most < l.length) ∨ (∃ l, aR a j = some l ∧ l.length ≤ most ∧ ¬ ∃ ws, l = ws.map nI ∧ kn (aC a) ws) ∨ (∃ ws, aR a j = some (ws.map nI) ∧ kn (aC a) ws ∧ ws.length ≤ most) := by
  cases hx : aR a j with
  | none => exact Or.inl rfl
  | some l =>
    refine Or.inr ?_
    by_cases h : most < l.length
    · exact Or.inl ⟨l, rfl, h⟩
    · refine Or.inr ?_
      by_cases g : ∃ ws, l = ws.map nI ∧ kn (aC a) ws
      · obtain ⟨ws, rfl, hk⟩ := g
        exact Or.inr ⟨ws, rfl, hk, by rw [map_len] at h; omega⟩
      · exact Or.inl ⟨l, rfl, by omega, g⟩
section CKS
variable {a : As} {M : pm_M} {j t most : Nat}
theorem ckN (d : Nat) (h : IC a M) (hj : j < 6) (ht : t < 6) (hm : most ≤ 40) (hx : aR a j = none) : pm_call (d + 3) 140 [.ref 0, .int (nI j), .int (nI j), .int (nI t), .int (nI most)] M (some (.int (-3))) (cF M 1) := c_knots d h _ _ _ _ ((c_rows d h hj hj ht hm _).1 (Or.inl hx)) ⟨_, rfl⟩
theorem ckL (d : Nat) (h : IC a M) (hj : j < 6) (ht : t < 6) (hm : most ≤ 40) {l : List Int32} (hx : aR a j = some l) (hl : most < l.length) : pm_call (d + 3) 140 [.ref 0, .int (nI j), .int (nI j), .int (nI t), .int (nI most)] M (some (.int (-3))) (cF M 5) := c_knots d h _ _ _ _ ((c_rows d h hj hj ht hm _).2.1 l l hx hx (Or.inl hl)) ⟨_, rfl⟩
theorem ckU (d : Nat) (h : IC a M) (hj : j < 6) (ht : t < 6) (hm : most ≤ 40) (ha : aw a) {l : List Int32} (hx : aR a j = some l) (hl : l.length ≤ most) (hno : ¬ ∃ ws, l = ws.map nI ∧ kn (aC a) ws) : pm_call (d + 3) 140 [.ref 0, .int (nI j), .int (nI j), .int (nI t), .int (nI most)] M (some (.int (-3))) (cF M 3) := c_knots d h _ _ _ _ ((c_rows d h hj hj ht hm _).2.2.1 l l hx hx hl hl (fun z => hno ((ib_kn ha.1).mp z.1))) ⟨_, rfl⟩
theorem ckO (d : Nat) (h : IC a M) (hj : j < 6) (ht : t < 6) (hm : most ≤ 40) (ha : aw a) {ws : List Nat} (hx : aR a j = some (ws.map nI)) (hk : kn (aC a) ws) (hl : ws.length ≤ most) : pm_call (d + 3) 140 [.ref 0, .int (nI j), .int (nI j), .int (nI t), .int (nI most)] M (some (.int 0)) M := c_knots d h _ _ _ _ ((c_rows d h hj hj ht hm _).2.2.2 _ _ hx hx (by rw [map_len]; exact hl) (by rw [map_len]; exact hl) ((ib_kn ha.1).mpr ⟨ws, rfl, hk⟩) ((ib_kn ha.1).mpr ⟨ws, rfl, hk⟩)) ⟨_, rfl⟩
theorem mnN (d : Nat) (h : IM a M) (ha : aw a) (hj : j < 6) (hm : most ≤ 24) (hx : aR a j = none) : pm_call (d + 4) 214 [.ref 132, .int (nI j), .int (nI most)] M (some (.int (-3))) (mF M 1) := by
  have hz := h.2.1 j hj
  rw [hx] at hz
  rcases m_needRope d h.1 ha.1 h.2.2.2.1 hj hm hz with z | ⟨l, z, -⟩ | ⟨l, z, -⟩ | ⟨ws, z, -⟩
  · exact z.2
  · cases z
  · cases z
  · cases z
theorem mnL (d : Nat) (h : IM a M) (ha : aw a) (hj : j < 6) (hm : most ≤ 24) {l : List Int32} (hx : aR a j = some l) (hl : most < l.length) : pm_call (d + 4) 214 [.ref 132, .int (nI j), .int (nI most)] M (some (.int (-3))) (mF M 5) := by
  have hz := h.2.1 j hj
  rw [hx] at hz
  rcases m_needRope d h.1 ha.1 h.2.2.2.1 hj hm hz with z | ⟨l', z, -, w⟩ | ⟨l', z, z2, -⟩ | ⟨ws, z, -, z2, -⟩
  · cases z.1
  · exact w
  · cases z; omega
  · cases z; rw [map_len] at hl; omega
theorem mnU (d : Nat) (h : IM a M) (ha : aw a) (hj : j < 6) (hm : most ≤ 24) {l : List Int32} (hx : aR a j = some l) (hl : l.length ≤ most) (hno : ¬ ∃ ws, l = ws.map nI ∧ kn (aC a) ws) : pm_call (d + 4) 214 [.ref 132, .int (nI j), .int (nI most)] M (some (.int (-3))) (mF M 3) := by
  have hz := h.2.1 j hj
  rw [hx] at hz
  rcases m_needRope d h.1 ha.1 h.2.2.2.1 hj hm hz with z | ⟨l', z, z2, w⟩ | ⟨l', z, z2, z3, w⟩ | ⟨ws, z, z1, z2, -⟩
  · cases z.1
  · cases z; omega
  · exact w
  · cases z; exact absurd ⟨ws, rfl, z1⟩ hno
theorem map_inj {u v : List Nat} (hu : ∀ k ∈ u, k < 6) (hv : ∀ k ∈ v, k < 6) (h : u.map nI = v.map nI) : u = v := by
  induction u generalizing v with
  | nil =>
    cases v with
    | nil => rfl
    | cons b t => cases h
  | cons x s ih =>
    cases v with
    | nil => cases h
    | cons b t =>
      simp only [List.map_cons, List.cons.injEq] at h
      have e : x = b := (nI_eq (by have := hu x List.mem_cons_self; omega) (by have := hv b List.mem_cons_self; omega)).mp h.1
      rw [e, ih (fun k hk => hu k (List.mem_cons_of_mem _ hk)) (fun k hk => hv k (List.mem_cons_of_mem _ hk)) h.2]
theorem mnO (d : Nat) (h : IM a M) (ha : aw a) (hj : j < 6) (hm : most ≤ 24) {ws : List Nat} (hx : aR a j = some (ws.map nI)) (hk : kn (aC a) ws) (hl : ws.length ≤ most) : ∃ M', pm_call (d + 4) 214 [.ref 132, .int (nI j), .int (nI most)] M (some (.int 0)) M' ∧ Lk M' ws ∧ Msc M M' := by
  have hz := h.2.1 j hj
  rw [hx] at hz
  have h6 := ha.1.1
  rcases m_needRope d h.1 ha.1 h.2.2.2.1 hj hm hz with z | ⟨l', z, z2, w⟩ | ⟨l', z, z2, z3, w⟩ | ⟨ws', z, z1, z2, w⟩
  · cases z.1
  · cases z; rw [map_len] at z2; omega
  · cases z; exact absurd ⟨ws, rfl, hk⟩ z3
  · have e : ws = ws' := map_inj (fun k q => by have := hk k q; omega) (fun k q => by have := z1 k q; omega) (Option.some.inj z)
    rw [e]
    exact w
end CKS
section PUD
variable {a : As}
/-! takes -/
theorem b_takes (ha : aw a) (r : Int32) : Both a 113 216 [.int r] := by
  rcases r_cs r with ⟨h1, h2⟩ | ⟨j, hj, hr, h1, h2⟩
  · refine bo_k (x := .int (-1)) ha (fun d M h => ?_) (fun d M h => ?_)
    · refine en_113 (Nat.le_of_ble_eq_true rfl) ?_
      have hM := h.1
      refine st_ald rfl rfl ?_
      refine st_ild rfl rfl ?_
      refine st_ild rfl rfl ?_
      refine st_ild rfl rfl ?_
      refine st_k rfl ?_
      refine st_cav (As := [_, _, _, _]) rfl rfl rfl (by first | exact tT hM rfl | assumption | exact rw_T hM (by assumption) | exact rw_A hM (by assumption)) (Nat.le_of_ble_eq_true rfl) (c_knots (d + 16) h _ _ _ _ (c_rowsBad (d + 16) _ _ _ _ _ (fun z => h1 z.1)) ⟨_, rfl⟩) ?_
      refine st_ist rfl ?_
      refine st_ild rfl rfl ?_
      refine st_b1 rfl (fun zq => absurd zq ((by decide))) (fun _ => ?_)
      refine st_ild rfl rfl ?_
      refine st_go rfl ?_
      -- at 31: op_iret
      exact st_iret rfl ⟨rfl, rfl⟩
    · refine en_216 (Nat.le_of_ble_eq_true rfl) ?_
      refine st_ild rfl rfl ?_
      refine st_call (As := [_]) rfl rfl rfl (Nat.le_of_ble_eq_true rfl) (m_isRow (d + 17) r) ?_
      refine st_b1 rfl (fun zq => absurd zq ((fun z => z (b01_f h2)))) (fun _ => ?_)
      refine st_k rfl ?_
      -- at 8: op_iret
      exact st_iret rfl ⟨rfl, rfl⟩
  subst hr
  have hin : vp_in (nI j) 6 := vp_in_nI hj (by decide)
  have ho := rw_row j hj
  rcases rope_cs (a := a) j 20 with hx | ⟨l, hx, hlen⟩ | ⟨l, hx, hlen, hno⟩ | ⟨ws, hx, hk, hlen⟩
  · refine bo_f ha (f := 1) (by decide) (fun d M h => ?_) (fun d M h => ?_)
    · refine en_113 (Nat.le_of_ble_eq_true rfl) ?_
      have hM := h.1
      refine st_ald rfl rfl ?_
      refine st_ild rfl rfl ?_
      refine st_ild rfl rfl ?_
      refine st_ild rfl rfl ?_
      refine st_k rfl ?_
      refine st_cav (As := [_, _, _, _]) rfl rfl rfl (by first | exact tT hM rfl | assumption | exact rw_T hM (by assumption) | exact rw_A hM (by assumption)) (Nat.le_of_ble_eq_true rfl) (ckN (d + 16) h hj hj (most := 20) (by decide) hx) ?_
      refine st_ist rfl ?_
      refine st_ild rfl rfl ?_
      refine st_b1 rfl (fun zq => absurd zq ((by decide))) (fun _ => ?_)
      refine st_ild rfl rfl ?_
      refine st_go rfl ?_
      -- at 31: op_iret
      exact st_iret rfl ⟨rfl, rfl⟩
    · refine en_216 (Nat.le_of_ble_eq_true rfl) ?_
      have hM := h.1
      refine st_ild rfl rfl ?_
      refine st_call (As := [_]) rfl rfl rfl (Nat.le_of_ble_eq_true rfl) (m_isRow (d + 17) _) ?_
      refine st_b1 rfl (fun _ => ?_) (fun zq => absurd (b01_t h2) zq)
      refine st_ald rfl rfl ?_
      refine st_ild rfl rfl ?_
      refine st_k rfl ?_
      refine st_cav (As := [_, _]) rfl rfl rfl (by first | exact tT hM rfl | assumption | exact rw_T hM (by assumption) | exact rw_A hM (by assumption)) (Nat.le_of_ble_eq_true rfl) (mnN (d + 15) h ha hj (most := 20) (by decide) hx) ?_
      refine st_ist rfl ?_
      refine st_ild rfl rfl ?_
      refine st_b1 rfl (fun zq => absurd zq ((by decide))) (fun _ => ?_)
      refine st_ild rfl rfl ?_
      refine st_go rfl ?_
      -- at 29: op_iret
      exact st_iret rfl ⟨rfl, rfl⟩
  · refine bo_f ha (f := 5) (by decide) (fun d M h => ?_) (fun d M h => ?_)
    · refine en_113 (Nat.le_of_ble_eq_true rfl) ?_
      have hM := h.1
      refine st_ald rfl rfl ?_
      refine st_ild rfl rfl ?_
      refine st_ild rfl rfl ?_
      refine st_ild rfl rfl ?_
      refine st_k rfl ?_
      refine st_cav (As := [_, _, _, _]) rfl rfl rfl (by first | exact tT hM rfl | assumption | exact rw_T hM (by assumption) | exact rw_A hM (by assumption)) (Nat.le_of_ble_eq_true rfl) (ckL (d + 16) h hj hj (most := 20) (by decide) hx hlen) ?_
      refine st_ist rfl ?_
      refine st_ild rfl rfl ?_
      refine st_b1 rfl (fun zq => absurd zq ((by decide))) (fun _ => ?_)
      refine st_ild rfl rfl ?_
      refine st_go rfl ?_
      -- at 31: op_iret
      exact st_iret rfl ⟨rfl, rfl⟩
    · refine en_216 (Nat.le_of_ble_eq_true rfl) ?_
      have hM := h.1
      refine st_ild rfl rfl ?_
      refine st_call (As := [_]) rfl rfl rfl (Nat.le_of_ble_eq_true rfl) (m_isRow (d + 17) _) ?_
      refine st_b1 rfl (fun _ => ?_) (fun zq => absurd (b01_t h2) zq)
      refine st_ald rfl rfl ?_
      refine st_ild rfl rfl ?_
      refine st_k rfl ?_
      refine st_cav (As := [_, _]) rfl rfl rfl (by first | exact tT hM rfl | assumption | exact rw_T hM (by assumption) | exact rw_A hM (by assumption)) (Nat.le_of_ble_eq_true rfl) (mnL (d + 15) h ha hj (most := 20) (by decide) hx hlen) ?_
      refine st_ist rfl ?_
      refine st_ild rfl rfl ?_
      refine st_b1 rfl (fun zq => absurd zq ((by decide))) (fun _ => ?_)
      refine st_ild rfl rfl ?_
      refine st_go rfl ?_
      -- at 29: op_iret
      exact st_iret rfl ⟨rfl, rfl⟩
  · refine bo_f ha (f := 3) (by decide) (fun d M h => ?_) (fun d M h => ?_)
    · refine en_113 (Nat.le_of_ble_eq_true rfl) ?_
      have hM := h.1
      refine st_ald rfl rfl ?_
      refine st_ild rfl rfl ?_
      refine st_ild rfl rfl ?_
      refine st_ild rfl rfl ?_
      refine st_k rfl ?_
      refine st_cav (As := [_, _, _, _]) rfl rfl rfl (by first | exact tT hM rfl | assumption | exact rw_T hM (by assumption) | exact rw_A hM (by assumption)) (Nat.le_of_ble_eq_true rfl) (ckU (d + 16) h hj hj (most := 20) (by decide) ha hx hlen hno) ?_
      refine st_ist rfl ?_
      refine st_ild rfl rfl ?_
      refine st_b1 rfl (fun zq => absurd zq ((by decide))) (fun _ => ?_)
      refine st_ild rfl rfl ?_
      refine st_go rfl ?_
      -- at 31: op_iret
      exact st_iret rfl ⟨rfl, rfl⟩
    · refine en_216 (Nat.le_of_ble_eq_true rfl) ?_
      have hM := h.1
      refine st_ild rfl rfl ?_
      refine st_call (As := [_]) rfl rfl rfl (Nat.le_of_ble_eq_true rfl) (m_isRow (d + 17) _) ?_
      refine st_b1 rfl (fun _ => ?_) (fun zq => absurd (b01_t h2) zq)
      refine st_ald rfl rfl ?_
      refine st_ild rfl rfl ?_
      refine st_k rfl ?_
      refine st_cav (As := [_, _]) rfl rfl rfl (by first | exact tT hM rfl | assumption | exact rw_T hM (by assumption) | exact rw_A hM (by assumption)) (Nat.le_of_ble_eq_true rfl) (mnU (d + 15) h ha hj (most := 20) (by decide) hx hlen hno) ?_
      refine st_ist rfl ?_
      refine st_ild rfl rfl ?_
      refine st_b1 rfl (fun zq => absurd zq ((by decide))) (fun _ => ?_)
      refine st_ild rfl rfl ?_
      refine st_go rfl ?_
      -- at 29: op_iret
      exact st_iret rfl ⟨rfl, rfl⟩
  refine ⟨.int (nI (ms (aC a) 6 ws)), a, ha, fun d M h => ⟨M, ?_, h, Cfr.rf M⟩, fun d M h => ?_⟩
  · refine en_113 (Nat.le_of_ble_eq_true rfl) ?_
    have hM := h.1
    have hz := h.2.1 j hj
    rw [hx] at hz
    refine st_ald rfl rfl ?_
    refine st_ild rfl rfl ?_
    refine st_ild rfl rfl ?_
    refine st_ild rfl rfl ?_
    refine st_k rfl ?_
    refine st_cav (As := [_, _, _, _]) rfl rfl rfl (by first | exact tT hM rfl | assumption | exact rw_T hM (by assumption) | exact rw_A hM (by assumption)) (Nat.le_of_ble_eq_true rfl) (ckO (d + 16) h hj hj (most := 20) (by decide) ha hx hk hlen) ?_
    refine st_ist rfl ?_
    refine st_ild rfl rfl ?_
    refine st_b1 rfl (fun _ => ?_) (fun zq => absurd (rfl) zq)
    refine st_ald rfl rfl ?_
    refine st_gR' rfl (by first | exact tT hM rfl | assumption | exact rw_T hM (by assumption) | exact rw_A hM (by assumption)) (by first | exact rR hM rfl rfl | assumption | exact rw_R hM (by assumption)) ?_
    refine st_ald rfl rfl ?_
    refine st_gR' rfl (by first | exact tT hM rfl | assumption | exact rw_T hM (by assumption) | exact rw_A hM (by assumption)) (by first | exact rR hM rfl rfl | assumption | exact rw_R hM (by assumption)) ?_
    refine st_ild rfl rfl ?_
    refine st_aald' rfl (by first | exact tT hM rfl | assumption | exact rw_T hM (by assumption) | exact rw_A hM (by assumption)) (by first | decide | assumption | exact vp_in_nI (by omega) (by decide)) (by first | assumption | exact rRow' hM (by assumption) | exact rTxt' hM (by assumption) | exact rKep' hM (by assumption) | exact rRdg' hM (by assumption)) ?_
    refine st_cav (As := [_]) rfl rfl rfl (by first | exact tT hM rfl | assumption | exact rw_T hM (by assumption) | exact rw_A hM (by assumption)) (Nat.le_of_ble_eq_true rfl) (c_measure (d + 17) hM ha.1 h.2.2.2.1 ho hk (crow_some hz)) ?_
    -- at 31: op_iret
    exact st_iret rfl ⟨rfl, rfl⟩
  · obtain ⟨M1, hc, h1', h2'⟩ := mnO (d + 15) h ha hj (most := 20) (by decide) hx hk hlen
    refine ⟨M1, en_216 (Nat.le_of_ble_eq_true rfl) ?_, h.sc h2', h2'.fr⟩
    have hM := h.1
    have hM1 := h2'.ok hM
    refine st_ild rfl rfl ?_
    refine st_call (As := [_]) rfl rfl rfl (Nat.le_of_ble_eq_true rfl) (m_isRow (d + 17) _) ?_
    refine st_b1 rfl (fun _ => ?_) (fun zq => absurd (b01_t h2) zq)
    refine st_ald rfl rfl ?_
    refine st_ild rfl rfl ?_
    refine st_k rfl ?_
    refine st_cav (As := [_, _]) rfl rfl rfl (by first | exact tT hM rfl | assumption | exact rw_T hM (by assumption) | exact rw_A hM (by assumption)) (Nat.le_of_ble_eq_true rfl) (hc) ?_
    refine st_ist rfl ?_
    refine st_ild rfl rfl ?_
    refine st_b1 rfl (fun _ => ?_) (fun zq => absurd ((by decide)) zq)
    refine st_ald rfl rfl ?_
    refine st_cav (As := []) rfl rfl rfl (tT hM1 rfl) (Nat.le_of_ble_eq_true rfl) (m_lookTakes (d + 16) hM1 ha.1 (h.2.2.2.1.sc h2') hk h1') ?_
    -- at 29: op_iret
    exact st_iret rfl ⟨rfl, rfl⟩
end PUD

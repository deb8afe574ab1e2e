/-! BOTH ANSWER ALIKE: the rope -/
section PUF
variable {a : As} {M M' : pm_M}
theorem IC.rope {S : Nat → Prop} {ws : List Nat} (h : IC a M) (hs : pm_S S M M') (hn : ∀ k, S k → (27 ≤ k ∧ k ≤ 104 ∧ k ≠ 54) ∨ (20 ≤ k ∧ k ≤ 24) ∨ k = 3 ∨ k = 4) (hx : pm_Ro M' 3 (ws.map nI)) : IC (sP' a ws) M' := by
  have e : ∀ k, ¬ ((27 ≤ k ∧ k ≤ 104 ∧ k ≠ 54) ∨ (20 ≤ k ∧ k ≤ 24) ∨ k = 3 ∨ k = 4) → ∀ i, gI M' k i = gI M k i := fun k hk i => hs.i (fun q => hk (hn k q)) i
  have e2 : ∀ k, ¬ ((27 ≤ k ∧ k ≤ 104 ∧ k ≠ 54) ∨ (20 ≤ k ∧ k ≤ 24) ∨ k = 3 ∨ k = 4) → ∀ i, gL M' k i = gL M k i := fun k hk i => hs.l (fun q => hk (hn k q)) i
  refine ⟨hs.ok h.1, fun j hj => (h.2.1 j hj).kept (e _ (by omega)) (e _ (by omega)), fun j hj => (h.2.2.1 j hj).kept (e _ (by omega)) (e _ (by omega)), h.2.2.2.1.moved (fun k hk1 hk i => e k (by omega) i), hx, fun k hk => (h.2.2.2.2.2.1 k hk).kept (e _ (by omega)) (e _ (by omega)) (e 6 (by omega) k), h.2.2.2.2.2.2.1.kept (e 25 (by omega) 2) (e2 26 (by omega)) (e 54 (by omega) 0), fun f hf => ?_, ?_, ?_, ?_⟩
  · rw [e 105 (by omega)]; exact h.2.2.2.2.2.2.2.1 f hf
  · rw [e 0 (by omega)]; exact h.2.2.2.2.2.2.2.2.1
  · rw [e 0 (by omega)]; exact h.2.2.2.2.2.2.2.2.2.1
  · rw [e2 0 (by omega)]; exact h.2.2.2.2.2.2.2.2.2.2
theorem IM.rope {ws : List Nat} (h : IM a M) (ho : pm_ok M') (hf : ∀ k i, mkp k i → ¬ (k = 132 ∧ i = 33) → k ≠ 149 → gI M' k i = gI M k i) (hg : gL M' 132 3 = gL M 132 3) (hx : MRop M' ws) : IM (sP' a ws) M' := by
  refine ⟨ho, fun j hj => ?_, fun j hj => ?_, h.2.2.2.1.moved (fun i hi => hf 132 i (by omega) (by omega) (by omega)) (fun k hk i => hf k i (by omega) (by omega) (by omega)), hx, fun k hk => ?_, fun f hff => ?_, ?_, ?_, ?_⟩
  · have := h.2.1 j hj
    show MRow _ j (aR a j)
    unfold MRow at this ⊢
    simp only [fun i => hf 134 i (by omega) (by omega) (by omega), fun i => hf 135 i (by omega) (by omega) (by omega)]
    exact this
  · have := h.2.2.1 j hj
    show MTxt _ j (aT a j)
    unfold MTxt at this ⊢
    simp only [fun i => hf 137 i (by omega) (by omega) (by omega), fun i => hf 138 i (by omega) (by omega) (by omega)]
    exact this
  · have := h.2.2.2.2.2.1 k hk
    show MKep _ k (aK a k)
    unfold MKep at this ⊢
    simp only [fun i => hf 150 i (by omega) (by omega) (by omega), fun i => hf 151 i (by omega) (by omega) (by omega), fun i => hf 152 i (by omega) (by omega) (by omega), fun i => hf 153 i (by omega) (by omega) (by omega)]
    exact this
  · rw [hf 133 f (by omega) (by omega) (by omega)]; exact h.2.2.2.2.2.2.1 f hff
  · rw [hf 132 0 (by omega) (by omega) (by omega)]; exact h.2.2.2.2.2.2.2.1
  · rw [hf 132 2 (by omega) (by omega) (by omega)]; exact h.2.2.2.2.2.2.2.2.1
  · rw [hg]; exact h.2.2.2.2.2.2.2.2.2
theorem ro3 : pm_rw 3 = true := by decide +kernel
theorem ro99 : pm_rw 99 = true := by decide +kernel
theorem ro101 : pm_rw 101 = true := by decide +kernel
theorem ro103 : pm_rw 103 = true := by decide +kernel
/-! rope -/
theorem b_rope (ha : aw a) (i : Int32) : Both a 106 205 [.int i] := by
  have hl := ha.2.2.1
  rcases pk_ix i (n := (aP a).length) (by omega) with h0 | h0 | ⟨t, ht, hi⟩
  · refine bo_k (x := .int (-1)) ha (fun d M h => ?_) (fun d M h => ?_)
    · refine en_106 (Nat.le_of_ble_eq_true rfl) ?_
      refine st_ild rfl rfl ?_
      refine st_b1 rfl (fun zq => absurd zq (Int32.not_le.mpr h0)) (fun _ => ?_)
      refine st_k rfl ?_
      -- at 5: op_iret
      exact st_iret rfl ⟨rfl, rfl⟩
    · refine en_205 (Nat.le_of_ble_eq_true rfl) ?_
      refine st_ild rfl rfl ?_
      refine st_b1 rfl (fun zq => absurd zq (Int32.not_le.mpr h0)) (fun _ => ?_)
      refine st_k rfl ?_
      -- at 5: op_iret
      exact st_iret rfl ⟨rfl, rfl⟩
  · have hp : (0 : Int32) ≤ i := Int32.le_trans (nI_pos' (n := (aP a).length) (by omega)) h0
    refine bo_f ha (f := 2) (by decide) (fun d M h => ?_) (fun d M h => ?_)
    · refine en_106 (Nat.le_of_ble_eq_true rfl) ?_
      have hM := h.1
      have hr := h.2.2.2.2.1
      have e : gI M 3 1 = nI (aP a).length := by rw [hr.1, map_len]
      refine st_ild rfl rfl ?_
      refine st_b1 rfl (fun _ => ?_) (fun zq => absurd (hp) zq)
      refine st_ild rfl rfl ?_
      refine st_ald rfl rfl ?_
      refine st_gR' rfl (by first | exact tT hM rfl | assumption | exact rw_T hM (by assumption) | exact rw_A hM (by assumption)) (by first | exact rR hM rfl rfl | assumption | exact rw_R hM (by assumption)) ?_
      refine st_gI rfl (by first | exact tT hM rfl | assumption | exact rw_T hM (by assumption) | exact rw_A hM (by assumption)) ?_
      -- at 14: stop
      refine wp_e e ?_
      refine st_b2 rfl (fun zq => absurd zq (Int32.not_lt.mpr h0)) (fun _ => ?_)
      refine st_ald rfl rfl ?_
      refine st_k rfl ?_
      refine st_cav (As := [_]) rfl rfl rfl (by first | exact tT hM rfl | assumption | exact rw_T hM (by assumption) | exact rw_A hM (by assumption)) (Nat.le_of_ble_eq_true rfl) (c_refuse (d + 18) hM (f := 2) (by decide)) ?_
      -- at 22: op_iret
      exact st_iret rfl ⟨rfl, rfl⟩
    · refine en_205 (Nat.le_of_ble_eq_true rfl) ?_
      have hM := h.1
      refine st_ild rfl rfl ?_
      refine st_b1 rfl (fun _ => ?_) (fun zq => absurd (hp) zq)
      refine st_ild rfl rfl ?_
      refine st_ald rfl rfl ?_
      refine st_gI rfl (by first | exact tT hM rfl | assumption | exact rw_T hM (by assumption) | exact rw_A hM (by assumption)) ?_
      -- at 11: stop
      refine wp_e h.2.2.2.2.1.1 ?_
      refine st_b2 rfl (fun _ => ?_) (fun zq => absurd (h0) zq)
      refine st_ald rfl rfl ?_
      refine st_k rfl ?_
      refine st_cav (As := [_]) rfl rfl rfl (by first | exact tT hM rfl | assumption | exact rw_T hM (by assumption) | exact rw_A hM (by assumption)) (Nat.le_of_ble_eq_true rfl) (m_meets (d + 18) hM (f := 2) (by decide)) ?_
      -- at 28: op_iret
      exact st_iret rfl ⟨rfl, rfl⟩
  · subst hi
    have e4 : (nI t).toNatClampNeg = t := nI_clamp (by omega)
    refine bo_k (x := .int (nI ((aP a).getD t 0))) ha (fun d M h => ?_) (fun d M h => ?_)
    · refine en_106 (Nat.le_of_ble_eq_true rfl) ?_
      have hM := h.1
      have hr := h.2.2.2.2.1
      have e : gI M 3 1 = nI (aP a).length := by rw [hr.1, map_len]
      have hin : vp_in (nI t) 40 := vp_in_nI (by omega) (by decide)
      refine st_ild rfl rfl ?_
      refine st_b1 rfl (fun _ => ?_) (fun zq => absurd (nI_pos' (by omega)) zq)
      refine st_ild rfl rfl ?_
      refine st_ald rfl rfl ?_
      refine st_gR' rfl (by first | exact tT hM rfl | assumption | exact rw_T hM (by assumption) | exact rw_A hM (by assumption)) (by first | exact rR hM rfl rfl | assumption | exact rw_R hM (by assumption)) ?_
      refine st_gI rfl (by first | exact tT hM rfl | assumption | exact rw_T hM (by assumption) | exact rw_A hM (by assumption)) ?_
      -- at 14: stop
      refine wp_e e ?_
      refine st_b2 rfl (fun _ => ?_) (fun zq => absurd (nI_lt ht (by omega)) zq)
      refine st_ald rfl rfl ?_
      refine st_gR' rfl (by first | exact tT hM rfl | assumption | exact rw_T hM (by assumption) | exact rw_A hM (by assumption)) (by first | exact rR hM rfl rfl | assumption | exact rw_R hM (by assumption)) ?_
      refine st_gR' rfl (by first | exact tT hM rfl | assumption | exact rw_T hM (by assumption) | exact rw_A hM (by assumption)) (by first | exact rR hM rfl rfl | assumption | exact rw_R hM (by assumption)) ?_
      refine st_ild rfl rfl ?_
      refine st_iald rfl (by first | exact tT hM rfl | assumption | exact rw_T hM (by assumption) | exact rw_A hM (by assumption)) (by first | decide | assumption | exact vp_in_nI (by omega) (by decide)) ?_
      -- at 32: op_iret
      exact st_iret rfl ⟨by rw [show gI M 4 (nI t).toNatClampNeg = nI ((aP a).getD t 0) from (ro_at hr (by rw [map_len]; exact ht)).trans (map_getD ht)], rfl⟩
    · refine en_205 (Nat.le_of_ble_eq_true rfl) ?_
      have hM := h.1
      have hin : vp_in (nI t) 20 := vp_in_nI (by omega) (by decide)
      refine st_ild rfl rfl ?_
      refine st_b1 rfl (fun _ => ?_) (fun zq => absurd (nI_pos' (by omega)) zq)
      refine st_ild rfl rfl ?_
      refine st_ald rfl rfl ?_
      refine st_gI rfl (by first | exact tT hM rfl | assumption | exact rw_T hM (by assumption) | exact rw_A hM (by assumption)) ?_
      -- at 11: stop
      refine wp_e h.2.2.2.2.1.1 ?_
      refine st_b2 rfl (fun zq => absurd zq (nI_ge ht (by omega))) (fun _ => ?_)
      refine st_ald rfl rfl ?_
      refine st_gR' rfl (by first | exact tT hM rfl | assumption | exact rw_T hM (by assumption) | exact rw_A hM (by assumption)) (by first | exact rR hM rfl rfl | assumption | exact rw_R hM (by assumption)) ?_
      refine st_ild rfl rfl ?_
      refine st_iald rfl (by first | exact tT hM rfl | assumption | exact rw_T hM (by assumption) | exact rw_A hM (by assumption)) (by first | decide | assumption | exact vp_in_nI (by omega) (by decide)) ?_
      refine st_go rfl ?_
      -- at 28: op_iret
      exact st_iret rfl ⟨by rw [e4, h.2.2.2.2.1.2 t ht], rfl⟩
/-! left -/
theorem b_left (ha : aw a) : Both a 107 206 [] := by
  refine ⟨.int (nI (aP a).length), sA' a (nI (cf_len (aC a)) - nI (ms (aC a) 6 (aP a))), ha.told _, fun d M h => ⟨sI M 0 18 (nI (cf_len (aC a)) - nI (ms (aC a) 6 (aP a))), ?_, h.told, (Cfr.rf M).sI (by decide) _ _⟩, fun d M h => ?_⟩
  · refine en_107 (Nat.le_of_ble_eq_true rfl) ?_
    have hM := h.1
    have hr := h.2.2.2.2.1
    refine st_ald rfl rfl ?_
    refine st_ald rfl rfl ?_
    refine st_gR' rfl (by first | exact tT hM rfl | assumption | exact rw_T hM (by assumption) | exact rw_A hM (by assumption)) (by first | exact rR hM rfl rfl | assumption | exact rw_R hM (by assumption)) ?_
    refine st_ald rfl rfl ?_
    refine st_gR' rfl (by first | exact tT hM rfl | assumption | exact rw_T hM (by assumption) | exact rw_A hM (by assumption)) (by first | exact rR hM rfl rfl | assumption | exact rw_R hM (by assumption)) ?_
    refine st_cav (As := [_]) rfl rfl rfl (by first | exact tT hM rfl | assumption | exact rw_T hM (by assumption) | exact rw_A hM (by assumption)) (Nat.le_of_ble_eq_true rfl) (c_spareOf (d + 16) hM ha.1 h.2.2.2.1 ro3 ha.2.1 hr) ?_
    refine st_pI rfl (by first | exact tT hM rfl | assumption | exact rw_T hM (by assumption) | exact rw_A hM (by assumption)) ?_
    refine st_ald rfl rfl ?_
    refine st_gR' rfl (by first | exact tT hM rfl | assumption | exact rw_T hM (by assumption) | exact rw_A hM (by assumption)) (by first | exact rR hM rfl rfl | assumption | exact rw_R hM (by assumption)) ?_
    refine st_gI rfl (by first | exact tT hM rfl | assumption | exact rw_T hM (by assumption) | exact rw_A hM (by assumption)) ?_
    -- at 22: op_iret
    exact st_iret rfl ⟨by rw [gI_ne (Or.inl (by decide)), hr.1, map_len], rfl⟩
  · obtain ⟨M1, hc, h1, h2⟩ := m_lookAtRope (d + 18) h.1 ha.2.2.1 h.2.2.2.2.1
    have hM := h.1
    have hM1 := h2.ok hM
    have hI := h.sc h2
    refine ⟨sI M1 132 2 (nI (cf_len (aC a)) - nI (ms (aC a) 6 (aP a))), en_206 (Nat.le_of_ble_eq_true rfl) ?_, hI.told, h2.fr.sI (by decide) _ _⟩
    refine st_ald rfl rfl ?_
    refine st_cav (As := []) rfl rfl rfl (by first | exact tT hM rfl | assumption | exact rw_T hM (by assumption) | exact rw_A hM (by assumption)) (Nat.le_of_ble_eq_true rfl) (hc) ?_
    -- at 4: stop
    refine st_ald rfl rfl ?_
    refine st_ald rfl rfl ?_
    refine st_gI rfl (by first | exact tT hM1 rfl | assumption | exact rw_T hM1 (by assumption) | exact rw_A hM1 (by assumption)) ?_
    -- at 9: stop
    refine wp_e hI.2.2.2.1.1.1 ?_
    refine st_ald rfl rfl ?_
    refine st_cav (As := []) rfl rfl rfl (by first | exact tT hM1 rfl | assumption | exact rw_T hM1 (by assumption) | exact rw_A hM1 (by assumption)) (Nat.le_of_ble_eq_true rfl) (m_lookTakes (d + 16) hM1 ha.1 hI.2.2.2.1 ha.2.1 h1) ?_
    refine st_ib rfl ?_
    refine st_ald rfl rfl ?_
    refine st_gI rfl (by first | exact tT hM1 rfl | assumption | exact rw_T hM1 (by assumption) | exact rw_A hM1 (by assumption)) ?_
    -- at 18: stop
    refine wp_e hI.2.2.2.2.1.1 ?_
    refine st_cav (As := [_, _]) rfl rfl rfl (by first | exact tT hM1 rfl | assumption | exact rw_T hM1 (by assumption) | exact rw_A hM1 (by assumption)) (Nat.le_of_ble_eq_true rfl) (m_tells (d + 18) hM1 _ _) ?_
    -- at 21: op_iret
    exact st_iret rfl ⟨rfl, rfl⟩
/-! lies -/
theorem b_lies (ha : aw a) (r : Int32) : Both a 109 208 [.int r] := by
  rcases r_cs r with ⟨h1, h2⟩ | ⟨j, hj, hr, h1, h2⟩
  · refine bo_k (x := .int (-1)) ha (fun d M h => ?_) (fun d M h => ?_)
    · refine en_109 (Nat.le_of_ble_eq_true rfl) ?_
      refine st_ild rfl rfl ?_
      refine st_call (As := [_]) rfl rfl rfl (Nat.le_of_ble_eq_true rfl) (c_isRow (d + 18) r) ?_
      refine st_b1 rfl (fun zq => absurd zq ((fun z => z (b01_f h1)))) (fun _ => ?_)
      refine st_k rfl ?_
      -- at 8: op_iret
      exact st_iret rfl ⟨rfl, rfl⟩
    · refine en_208 (Nat.le_of_ble_eq_true rfl) ?_
      refine st_ild rfl rfl ?_
      refine st_call (As := [_]) rfl rfl rfl (Nat.le_of_ble_eq_true rfl) (m_isRow (d + 17) r) ?_
      refine st_b1 rfl (fun zq => absurd zq ((fun z => z (b01_f h2)))) (fun _ => ?_)
      refine st_k rfl ?_
      -- at 8: op_iret
      exact st_iret rfl ⟨rfl, rfl⟩
  subst hr
  have hin : vp_in (nI j) 6 := vp_in_nI hj (by decide)
  have ho := rw_row j hj
  have hl := ha.2.2.1
  refine ⟨.int (nI (aP a).length), sR' a j (some ((aP a).map nI)), ha.row _ _, fun d M h => ⟨_, ?_, h.row hj (S := pm_oo (106 + 2 * j)) s_become (fun k hk => Or.inr (Or.inr hk)) (ro_become h.2.2.2.2.1), Cfr.S (S := pm_oo (106 + 2 * j)) s_become (fun k hk => by rcases hk with z | z <;> omega)⟩, fun d M h => ?_⟩
  · refine en_109 (Nat.le_of_ble_eq_true rfl) ?_
    have hM := h.1
    have hr := h.2.2.2.2.1
    refine st_ild rfl rfl ?_
    refine st_call (As := [_]) rfl rfl rfl (Nat.le_of_ble_eq_true rfl) (c_isRow (d + 18) _) ?_
    refine st_b1 rfl (fun _ => ?_) (fun zq => absurd (b01_t h1) zq)
    refine st_ald rfl rfl ?_
    refine st_gR' rfl (by first | exact tT hM rfl | assumption | exact rw_T hM (by assumption) | exact rw_A hM (by assumption)) (by first | exact rR hM rfl rfl | assumption | exact rw_R hM (by assumption)) ?_
    refine st_ild rfl rfl ?_
    refine st_aald' rfl (by first | exact tT hM rfl | assumption | exact rw_T hM (by assumption) | exact rw_A hM (by assumption)) (by first | decide | assumption | exact vp_in_nI (by omega) (by decide)) (by first | assumption | exact rRow' hM (by assumption) | exact rTxt' hM (by assumption) | exact rKep' hM (by assumption) | exact rRdg' hM (by assumption)) ?_
    refine st_ald rfl rfl ?_
    refine st_gR' rfl (by first | exact tT hM rfl | assumption | exact rw_T hM (by assumption) | exact rw_A hM (by assumption)) (by first | exact rR hM rfl rfl | assumption | exact rw_R hM (by assumption)) ?_
    refine st_cav (As := [_]) rfl rfl rfl (by first | exact tT hM rfl | assumption | exact rw_T hM (by assumption) | exact rw_A hM (by assumption)) (Nat.le_of_ble_eq_true rfl) (c_become (d + 18) hM ho ro3 (by omega) hr) ?_
    refine st_ald rfl rfl ?_
    refine st_gR' rfl (by first | exact tT hM rfl | assumption | exact rw_T hM (by assumption) | exact rw_A hM (by assumption)) (by first | exact rR hM rfl rfl | assumption | exact rw_R hM (by assumption)) ?_
    refine st_gI rfl (by first | exact tT hM rfl | assumption | exact rw_T hM (by assumption) | exact rw_A hM (by assumption)) ?_
    -- at 29: op_iret
    refine st_iret rfl ⟨?_, rfl⟩
    rw [gI_ne (Or.inl (by omega)), gI_cp, if_neg (by omega), hr.1, map_len]
  · have hM := h.1
    have hr := h.2.2.2.2.1
    obtain ⟨M1, hc, h3, h4⟩ := m_layRow (d + 18) hM hj (k := 149) (n := 20) (l := (aP a).map nI) (tT hM rfl) (by decide) (by rw [map_len]; exact hl) (by rw [map_len]; omega) (fun i hi => by rw [map_len] at hi; rw [hr.2 i hi, map_getD hi])
    rw [map_len] at hc
    refine ⟨M1, en_208 (Nat.le_of_ble_eq_true rfl) ?_, h.lay h4 h3, h4.fr⟩
    have hM1 := h4.ok hM
    refine st_ild rfl rfl ?_
    refine st_call (As := [_]) rfl rfl rfl (Nat.le_of_ble_eq_true rfl) (m_isRow (d + 17) _) ?_
    refine st_b1 rfl (fun _ => ?_) (fun zq => absurd (b01_t h2) zq)
    refine st_ald rfl rfl ?_
    refine st_ild rfl rfl ?_
    refine st_ald rfl rfl ?_
    refine st_gR' rfl (by first | exact tT hM rfl | assumption | exact rw_T hM (by assumption) | exact rw_A hM (by assumption)) (by first | exact rR hM rfl rfl | assumption | exact rw_R hM (by assumption)) ?_
    refine st_ald rfl rfl ?_
    refine st_gI rfl (by first | exact tT hM rfl | assumption | exact rw_T hM (by assumption) | exact rw_A hM (by assumption)) ?_
    -- at 19: stop
    refine wp_e hr.1 ?_
    refine st_cav (As := [_, _, _]) rfl rfl rfl (by first | exact tT hM rfl | assumption | exact rw_T hM (by assumption) | exact rw_A hM (by assumption)) (Nat.le_of_ble_eq_true rfl) (hc) ?_
    -- at 22: stop
    refine st_ald rfl rfl ?_
    refine st_gI rfl (by first | exact tT hM1 rfl | assumption | exact rw_T hM1 (by assumption) | exact rw_A hM1 (by assumption)) ?_
    -- at 26: op_iret
    exact st_iret rfl ⟨by rw [h4.2.2.1 132 33 (by omega) (by omega), hr.1], rfl⟩
/-! reads -/
theorem b_reads (ha : aw a) (r : Int32) : Both a 108 207 [.int r] := by
  rcases r_cs r with ⟨h1, h2⟩ | ⟨j, hj, hr, h1, h2⟩
  · refine bo_k (x := .int (-1)) ha (fun d M h => ?_) (fun d M h => ?_)
    · refine en_108 (Nat.le_of_ble_eq_true rfl) ?_
      refine st_ild rfl rfl ?_
      refine st_call (As := [_]) rfl rfl rfl (Nat.le_of_ble_eq_true rfl) (c_isRow (d + 18) r) ?_
      refine st_b1 rfl (fun zq => absurd zq ((fun z => z (b01_f h1)))) (fun _ => ?_)
      refine st_k rfl ?_
      -- at 8: op_iret
      exact st_iret rfl ⟨rfl, rfl⟩
    · refine en_207 (Nat.le_of_ble_eq_true rfl) ?_
      refine st_ild rfl rfl ?_
      refine st_call (As := [_]) rfl rfl rfl (Nat.le_of_ble_eq_true rfl) (m_isRow (d + 17) r) ?_
      refine st_b1 rfl (fun zq => absurd zq ((fun z => z (b01_f h2)))) (fun _ => ?_)
      refine st_k rfl ?_
      -- at 8: op_iret
      exact st_iret rfl ⟨rfl, rfl⟩
  subst hr
  have hin : vp_in (nI j) 6 := vp_in_nI hj (by decide)
  have ho := rw_row j hj
  have hl := ha.2.2.1
  have hrl := rd_len (aC a) (aP a)
  refine ⟨.int (nI (rd (aC a) (aP a)).length), sR' a j (some ((rd (aC a) (aP a)).map nI)), ha.row _ _, fun d M h => ?_, fun d M h => ?_⟩
  · have hM := h.1
    obtain ⟨M1, hc, h3, h4⟩ := c_read (d + 17) hM ha.1 h.2.2.2.1 ro101 ro3 (by decide) (by decide) (by decide) (by decide) ha.2.1 h.2.2.2.2.1
    have hM1 := h4.ok hM
    refine ⟨_, en_108 (Nat.le_of_ble_eq_true rfl) ?_, h.row hj (S := fun k => pm_oo 101 k ∨ pm_oo (106 + 2 * j) k) ((h4.mo (fun k hk => Or.inl hk)).tr (s_become.mo (fun k hk => Or.inr hk))) (fun k hk => ?_) (ro_become h3), Cfr.S (S := fun k => pm_oo 101 k ∨ pm_oo (106 + 2 * j) k) ((h4.mo (fun k hk => Or.inl hk)).tr (s_become.mo (fun k hk => Or.inr hk))) (fun k hk => by rcases hk with (z | z) | (z | z) <;> omega)⟩
    · refine st_ild rfl rfl ?_
      refine st_call (As := [_]) rfl rfl rfl (Nat.le_of_ble_eq_true rfl) (c_isRow (d + 18) _) ?_
      refine st_b1 rfl (fun _ => ?_) (fun zq => absurd (b01_t h1) zq)
      refine st_ald rfl rfl ?_
      refine st_gR' rfl (by first | exact tT hM rfl | assumption | exact rw_T hM (by assumption) | exact rw_A hM (by assumption)) (by first | exact rR hM rfl rfl | assumption | exact rw_R hM (by assumption)) ?_
      refine st_ald rfl rfl ?_
      refine st_gR' rfl (by first | exact tT hM rfl | assumption | exact rw_T hM (by assumption) | exact rw_A hM (by assumption)) (by first | exact rR hM rfl rfl | assumption | exact rw_R hM (by assumption)) ?_
      refine st_ald rfl rfl ?_
      refine st_gR' rfl (by first | exact tT hM rfl | assumption | exact rw_T hM (by assumption) | exact rw_A hM (by assumption)) (by first | exact rR hM rfl rfl | assumption | exact rw_R hM (by assumption)) ?_
      refine st_cav (As := [_, _]) rfl rfl rfl (by first | exact tT hM rfl | assumption | exact rw_T hM (by assumption) | exact rw_A hM (by assumption)) (Nat.le_of_ble_eq_true rfl) (hc) ?_
      -- at 24: stop
      refine st_ald rfl rfl ?_
      refine st_gR' rfl (by first | exact tT hM1 rfl | assumption | exact rw_T hM1 (by assumption) | exact rw_A hM1 (by assumption)) (by first | exact rR hM1 rfl rfl | assumption | exact rw_R hM1 (by assumption)) ?_
      refine st_ild rfl rfl ?_
      refine st_aald' rfl (by first | exact tT hM1 rfl | assumption | exact rw_T hM1 (by assumption) | exact rw_A hM1 (by assumption)) (by first | decide | assumption | exact vp_in_nI (by omega) (by decide)) (by first | assumption | exact rRow' hM1 (by assumption) | exact rTxt' hM1 (by assumption) | exact rKep' hM1 (by assumption) | exact rRdg' hM1 (by assumption)) ?_
      refine st_ald rfl rfl ?_
      refine st_gR' rfl (by first | exact tT hM1 rfl | assumption | exact rw_T hM1 (by assumption) | exact rw_A hM1 (by assumption)) (by first | exact rR hM1 rfl rfl | assumption | exact rw_R hM1 (by assumption)) ?_
      refine st_cav (As := [_]) rfl rfl rfl (by first | exact tT hM1 rfl | assumption | exact rw_T hM1 (by assumption) | exact rw_A hM1 (by assumption)) (Nat.le_of_ble_eq_true rfl) (c_become (d + 18) hM1 ho ro101 (by omega) h3) ?_
      refine st_ald rfl rfl ?_
      refine st_gR' rfl (by first | exact tT hM1 rfl | assumption | exact rw_T hM1 (by assumption) | exact rw_A hM1 (by assumption)) (by first | exact rR hM1 rfl rfl | assumption | exact rw_R hM1 (by assumption)) ?_
      refine st_gI rfl (by first | exact tT hM1 rfl | assumption | exact rw_T hM1 (by assumption) | exact rw_A hM1 (by assumption)) ?_
      -- at 44: op_iret
      refine st_iret rfl ⟨?_, rfl⟩
      rw [gI_ne (Or.inl (by omega)), gI_cp, if_neg (by omega), h3.1, map_len]
    · rcases hk with (z | z) | (z | z) <;> omega
  · have hM := h.1
    obtain ⟨M1, hc, h3, h4⟩ := m_lookAtRope (d + 18) hM hl h.2.2.2.2.1
    have hM1 := h4.ok hM
    obtain ⟨M2, hc2, h5, h6, -⟩ := m_readLook (d + 17) hM1 ha.1 (h.2.2.2.1.sc h4) ha.2.1 h3
    have hs := h4.tr h6
    have hM2 := hs.ok hM
    obtain ⟨M3, hc3, h7, h8⟩ := m_layRow (d + 18) hM2 hj (k := 148) (n := 24) (l := (rd (aC a) (aP a)).map nI) (tT hM2 rfl) (by decide) (by rw [map_len]; omega) (by rw [map_len]; omega) (fun i hi => by rw [map_len] at hi; rw [h5.2.2 i hi, map_getD hi])
    rw [map_len] at hc3
    have hM3 := h8.ok hM2
    refine ⟨M3, en_207 (Nat.le_of_ble_eq_true rfl) ?_, (h.sc hs).lay h8 h7, hs.fr.tr h8.fr⟩
    refine st_ild rfl rfl ?_
    refine st_call (As := [_]) rfl rfl rfl (Nat.le_of_ble_eq_true rfl) (m_isRow (d + 17) _) ?_
    refine st_b1 rfl (fun _ => ?_) (fun zq => absurd (b01_t h2) zq)
    refine st_ald rfl rfl ?_
    refine st_cav (As := []) rfl rfl rfl (by first | exact tT hM rfl | assumption | exact rw_T hM (by assumption) | exact rw_A hM (by assumption)) (Nat.le_of_ble_eq_true rfl) (hc) ?_
    -- at 13: stop
    refine st_ald rfl rfl ?_
    refine st_cav (As := []) rfl rfl rfl (by first | exact tT hM1 rfl | assumption | exact rw_T hM1 (by assumption) | exact rw_A hM1 (by assumption)) (Nat.le_of_ble_eq_true rfl) (hc2) ?_
    -- at 17: stop
    refine st_ald rfl rfl ?_
    refine st_ild rfl rfl ?_
    refine st_ald rfl rfl ?_
    refine st_gR' rfl (by first | exact tT hM2 rfl | assumption | exact rw_T hM2 (by assumption) | exact rw_A hM2 (by assumption)) (by first | exact rR hM2 rfl rfl | assumption | exact rw_R hM2 (by assumption)) ?_
    refine st_ald rfl rfl ?_
    refine st_gI rfl (by first | exact tT hM2 rfl | assumption | exact rw_T hM2 (by assumption) | exact rw_A hM2 (by assumption)) ?_
    -- at 27: stop
    refine wp_e h5.1 ?_
    refine st_cav (As := [_, _, _]) rfl rfl rfl (by first | exact tT hM2 rfl | assumption | exact rw_T hM2 (by assumption) | exact rw_A hM2 (by assumption)) (Nat.le_of_ble_eq_true rfl) (hc3) ?_
    -- at 30: stop
    refine st_ald rfl rfl ?_
    refine st_gI rfl (by first | exact tT hM3 rfl | assumption | exact rw_T hM3 (by assumption) | exact rw_A hM3 (by assumption)) ?_
    -- at 34: op_iret
    exact st_iret rfl ⟨by rw [h8.2.2.1 132 31 (by omega) (by omega), h5.1], rfl⟩
/-! says -/
theorem b_says (ha : aw a) (r t : Int32) : Both a 114 217 [.int r, .int t] := by
  have badC : ¬ ((¬ r < 0 ∧ ¬ 6 ≤ r) ∧ (¬ t < 0 ∧ ¬ 6 ≤ t)) → ∀ d M, IC a M → pm_call (d + 20) 114 (.ref 0 :: [.int r, .int t]) M (some (.int (-1))) M := by
    intro hb d M h
    refine en_114 (Nat.le_of_ble_eq_true rfl) ?_
    have hM := h.1
    refine st_ald rfl rfl ?_
    refine st_ild rfl rfl ?_
    refine st_ild rfl rfl ?_
    refine st_ild rfl rfl ?_
    refine st_k rfl ?_
    refine st_cav (As := [_, _, _, _]) rfl rfl rfl (by first | exact tT hM rfl | assumption | exact rw_T hM (by assumption) | exact rw_A hM (by assumption)) (Nat.le_of_ble_eq_true rfl) (c_knots (d + 16) h _ _ _ _ (c_rowsBad (d + 16) _ _ _ _ _ (fun z => hb ⟨z.1, z.2.2⟩)) ⟨_, rfl⟩) ?_
    refine st_ist rfl ?_
    refine st_ild rfl rfl ?_
    refine st_b1 rfl (fun zq => absurd zq ((by decide))) (fun _ => ?_)
    refine st_ild rfl rfl ?_
    -- at 15: op_iret
    exact st_iret rfl ⟨rfl, rfl⟩
  rcases r_cs r with ⟨h1, h2⟩ | ⟨j, hj, hr, h1, h2⟩
  · refine bo_k (x := .int (-1)) ha (badC (fun z => h1 z.1)) (fun d M h => ?_)
    refine en_217 (Nat.le_of_ble_eq_true rfl) ?_
    refine st_ild rfl rfl ?_
    refine st_call (As := [_]) rfl rfl rfl (Nat.le_of_ble_eq_true rfl) (m_isRow (d + 17) r) ?_
    refine st_b1 rfl (fun _ => ?_) (fun zq => absurd (b01_f h2) zq)
    refine st_k rfl ?_
    -- at 15: op_iret
    exact st_iret rfl ⟨rfl, rfl⟩
  rcases r_cs t with ⟨t1, t2⟩ | ⟨u, hu, ht, t1, t2⟩
  · refine bo_k (x := .int (-1)) ha (badC (fun z => t1 z.2)) (fun d M h => ?_)
    refine en_217 (Nat.le_of_ble_eq_true rfl) ?_
    refine st_ild rfl rfl ?_
    refine st_call (As := [_]) rfl rfl rfl (Nat.le_of_ble_eq_true rfl) (m_isRow (d + 17) r) ?_
    refine st_b1 rfl (fun zq => absurd zq (b01_t h2)) (fun _ => ?_)
    refine st_ild rfl rfl ?_
    refine st_call (As := [_]) rfl rfl rfl (Nat.le_of_ble_eq_true rfl) (m_isRow (d + 17) t) ?_
    refine st_b1 rfl (fun zq => absurd zq ((fun z => z (b01_f t2)))) (fun _ => ?_)
    refine st_k rfl ?_
    -- at 15: op_iret
    exact st_iret rfl ⟨rfl, rfl⟩
  subst hr; subst ht
  have hin : vp_in (nI j) 6 := vp_in_nI hj (by decide)
  have hin2 : vp_in (nI u) 6 := vp_in_nI hu (by decide)
  have ho := rw_row j hj
  have hou := rw_row u hu
  rcases rope_cs (a := a) j 20 with hx | ⟨l, hx, hlen⟩ | ⟨l, hx, hlen, hno⟩ | ⟨ws, hx, hk, hlen⟩
  · refine bo_f ha (f := 1) (by decide) (fun d M h => ?_) (fun d M h => ?_)
    · refine en_114 (Nat.le_of_ble_eq_true rfl) ?_
      have hM := h.1
      refine st_ald rfl rfl ?_
      refine st_ild rfl rfl ?_
      refine st_ild rfl rfl ?_
      refine st_ild rfl rfl ?_
      refine st_k rfl ?_
      refine st_cav (As := [_, _, _, _]) rfl rfl rfl (by first | exact tT hM rfl | assumption | exact rw_T hM (by assumption) | exact rw_A hM (by assumption)) (Nat.le_of_ble_eq_true rfl) (ckN (d + 16) h hj hu (most := 20) (by decide) hx) ?_
      refine st_ist rfl ?_
      refine st_ild rfl rfl ?_
      refine st_b1 rfl (fun zq => absurd zq ((by decide))) (fun _ => ?_)
      refine st_ild rfl rfl ?_
      -- at 15: op_iret
      exact st_iret rfl ⟨rfl, rfl⟩
    · refine en_217 (Nat.le_of_ble_eq_true rfl) ?_
      have hM := h.1
      refine st_ild rfl rfl ?_
      refine st_call (As := [_]) rfl rfl rfl (Nat.le_of_ble_eq_true rfl) (m_isRow (d + 17) _) ?_
      refine st_b1 rfl (fun zq => absurd zq (b01_t h2)) (fun _ => ?_)
      refine st_ild rfl rfl ?_
      refine st_call (As := [_]) rfl rfl rfl (Nat.le_of_ble_eq_true rfl) (m_isRow (d + 17) _) ?_
      refine st_b1 rfl (fun _ => ?_) (fun zq => absurd (b01_t t2) zq)
      refine st_ald rfl rfl ?_
      refine st_ild rfl rfl ?_
      refine st_k rfl ?_
      refine st_cav (As := [_, _]) rfl rfl rfl (by first | exact tT hM rfl | assumption | exact rw_T hM (by assumption) | exact rw_A hM (by assumption)) (Nat.le_of_ble_eq_true rfl) (mnN (d + 15) h ha hj (most := 20) (by decide) hx) ?_
      refine st_ist rfl ?_
      refine st_ild rfl rfl ?_
      refine st_b1 rfl (fun zq => absurd zq ((by decide))) (fun _ => ?_)
      refine st_ild rfl rfl ?_
      -- at 29: op_iret
      exact st_iret rfl ⟨rfl, rfl⟩
  · refine bo_f ha (f := 5) (by decide) (fun d M h => ?_) (fun d M h => ?_)
    · refine en_114 (Nat.le_of_ble_eq_true rfl) ?_
      have hM := h.1
      refine st_ald rfl rfl ?_
      refine st_ild rfl rfl ?_
      refine st_ild rfl rfl ?_
      refine st_ild rfl rfl ?_
      refine st_k rfl ?_
      refine st_cav (As := [_, _, _, _]) rfl rfl rfl (by first | exact tT hM rfl | assumption | exact rw_T hM (by assumption) | exact rw_A hM (by assumption)) (Nat.le_of_ble_eq_true rfl) (ckL (d + 16) h hj hu (most := 20) (by decide) hx hlen) ?_
      refine st_ist rfl ?_
      refine st_ild rfl rfl ?_
      refine st_b1 rfl (fun zq => absurd zq ((by decide))) (fun _ => ?_)
      refine st_ild rfl rfl ?_
      -- at 15: op_iret
      exact st_iret rfl ⟨rfl, rfl⟩
    · refine en_217 (Nat.le_of_ble_eq_true rfl) ?_
      have hM := h.1
      refine st_ild rfl rfl ?_
      refine st_call (As := [_]) rfl rfl rfl (Nat.le_of_ble_eq_true rfl) (m_isRow (d + 17) _) ?_
      refine st_b1 rfl (fun zq => absurd zq (b01_t h2)) (fun _ => ?_)
      refine st_ild rfl rfl ?_
      refine st_call (As := [_]) rfl rfl rfl (Nat.le_of_ble_eq_true rfl) (m_isRow (d + 17) _) ?_
      refine st_b1 rfl (fun _ => ?_) (fun zq => absurd (b01_t t2) zq)
      refine st_ald rfl rfl ?_
      refine st_ild rfl rfl ?_
      refine st_k rfl ?_
      refine st_cav (As := [_, _]) rfl rfl rfl (by first | exact tT hM rfl | assumption | exact rw_T hM (by assumption) | exact rw_A hM (by assumption)) (Nat.le_of_ble_eq_true rfl) (mnL (d + 15) h ha hj (most := 20) (by decide) hx hlen) ?_
      refine st_ist rfl ?_
      refine st_ild rfl rfl ?_
      refine st_b1 rfl (fun zq => absurd zq ((by decide))) (fun _ => ?_)
      refine st_ild rfl rfl ?_
      -- at 29: op_iret
      exact st_iret rfl ⟨rfl, rfl⟩
  · refine bo_f ha (f := 3) (by decide) (fun d M h => ?_) (fun d M h => ?_)
    · refine en_114 (Nat.le_of_ble_eq_true rfl) ?_
      have hM := h.1
      refine st_ald rfl rfl ?_
      refine st_ild rfl rfl ?_
      refine st_ild rfl rfl ?_
      refine st_ild rfl rfl ?_
      refine st_k rfl ?_
      refine st_cav (As := [_, _, _, _]) rfl rfl rfl (by first | exact tT hM rfl | assumption | exact rw_T hM (by assumption) | exact rw_A hM (by assumption)) (Nat.le_of_ble_eq_true rfl) (ckU (d + 16) h hj hu (most := 20) (by decide) ha hx hlen hno) ?_
      refine st_ist rfl ?_
      refine st_ild rfl rfl ?_
      refine st_b1 rfl (fun zq => absurd zq ((by decide))) (fun _ => ?_)
      refine st_ild rfl rfl ?_
      -- at 15: op_iret
      exact st_iret rfl ⟨rfl, rfl⟩
    · refine en_217 (Nat.le_of_ble_eq_true rfl) ?_
      have hM := h.1
      refine st_ild rfl rfl ?_
      refine st_call (As := [_]) rfl rfl rfl (Nat.le_of_ble_eq_true rfl) (m_isRow (d + 17) _) ?_
      refine st_b1 rfl (fun zq => absurd zq (b01_t h2)) (fun _ => ?_)
      refine st_ild rfl rfl ?_
      refine st_call (As := [_]) rfl rfl rfl (Nat.le_of_ble_eq_true rfl) (m_isRow (d + 17) _) ?_
      refine st_b1 rfl (fun _ => ?_) (fun zq => absurd (b01_t t2) zq)
      refine st_ald rfl rfl ?_
      refine st_ild rfl rfl ?_
      refine st_k rfl ?_
      refine st_cav (As := [_, _]) rfl rfl rfl (by first | exact tT hM rfl | assumption | exact rw_T hM (by assumption) | exact rw_A hM (by assumption)) (Nat.le_of_ble_eq_true rfl) (mnU (d + 15) h ha hj (most := 20) (by decide) hx hlen hno) ?_
      refine st_ist rfl ?_
      refine st_ild rfl rfl ?_
      refine st_b1 rfl (fun zq => absurd zq ((by decide))) (fun _ => ?_)
      refine st_ild rfl rfl ?_
      -- at 29: op_iret
      exact st_iret rfl ⟨rfl, rfl⟩
  have hrl := rd_len (aC a) ws
  refine ⟨.int (nI (rd (aC a) ws).length), sR' a u (some ((rd (aC a) ws).map nI)), ha.row _ _, fun d M h => ?_, fun d M h => ?_⟩
  · have hM := h.1
    have hz := h.2.1 j hj
    rw [hx] at hz
    obtain ⟨M1, hc, h3, h4⟩ := c_read (d + 17) hM ha.1 h.2.2.2.1 ro101 ho (by omega) (by omega) (by omega) (by decide) hk (crow_some hz)
    have hM1 := h4.ok hM
    refine ⟨_, en_114 (Nat.le_of_ble_eq_true rfl) ?_, h.row hu (S := fun k => pm_oo 101 k ∨ pm_oo (106 + 2 * u) k) ((h4.mo (fun k hk => Or.inl hk)).tr (s_become.mo (fun k hk => Or.inr hk))) (fun k hk => ?_) (ro_become h3), Cfr.S (S := fun k => pm_oo 101 k ∨ pm_oo (106 + 2 * u) k) ((h4.mo (fun k hk => Or.inl hk)).tr (s_become.mo (fun k hk => Or.inr hk))) (fun k hk => by rcases hk with (z | z) | (z | z) <;> omega)⟩
    · refine st_ald rfl rfl ?_
      refine st_ild rfl rfl ?_
      refine st_ild rfl rfl ?_
      refine st_ild rfl rfl ?_
      refine st_k rfl ?_
      refine st_cav (As := [_, _, _, _]) rfl rfl rfl (by first | exact tT hM rfl | assumption | exact rw_T hM (by assumption) | exact rw_A hM (by assumption)) (Nat.le_of_ble_eq_true rfl) (ckO (d + 16) h hj hu (most := 20) (by decide) ha hx hk hlen) ?_
      refine st_ist rfl ?_
      refine st_ild rfl rfl ?_
      refine st_b1 rfl (fun _ => ?_) (fun zq => absurd (rfl) zq)
      refine st_ald rfl rfl ?_
      refine st_gR' rfl (by first | exact tT hM rfl | assumption | exact rw_T hM (by assumption) | exact rw_A hM (by assumption)) (by first | exact rR hM rfl rfl | assumption | exact rw_R hM (by assumption)) ?_
      refine st_ald rfl rfl ?_
      refine st_gR' rfl (by first | exact tT hM rfl | assumption | exact rw_T hM (by assumption) | exact rw_A hM (by assumption)) (by first | exact rR hM rfl rfl | assumption | exact rw_R hM (by assumption)) ?_
      refine st_ild rfl rfl ?_
      refine st_aald' rfl (tT hM rfl) (hin) (rRow' hM hj) ?_
      refine st_ald rfl rfl ?_
      refine st_gR' rfl (by first | exact tT hM rfl | assumption | exact rw_T hM (by assumption) | exact rw_A hM (by assumption)) (by first | exact rR hM rfl rfl | assumption | exact rw_R hM (by assumption)) ?_
      refine st_cav (As := [_, _]) rfl rfl rfl (by first | exact tT hM rfl | assumption | exact rw_T hM (by assumption) | exact rw_A hM (by assumption)) (Nat.le_of_ble_eq_true rfl) (hc) ?_
      -- at 33: stop
      refine st_ald rfl rfl ?_
      refine st_gR' rfl (by first | exact tT hM1 rfl | assumption | exact rw_T hM1 (by assumption) | exact rw_A hM1 (by assumption)) (by first | exact rR hM1 rfl rfl | assumption | exact rw_R hM1 (by assumption)) ?_
      refine st_ild rfl rfl ?_
      refine st_aald' rfl (tT hM1 rfl) (hin2) (rRow' hM1 hu) ?_
      refine st_ald rfl rfl ?_
      refine st_gR' rfl (by first | exact tT hM1 rfl | assumption | exact rw_T hM1 (by assumption) | exact rw_A hM1 (by assumption)) (by first | exact rR hM1 rfl rfl | assumption | exact rw_R hM1 (by assumption)) ?_
      refine st_cav (As := [_]) rfl rfl rfl (rw_T hM1 hou) (Nat.le_of_ble_eq_true rfl) (c_become (d + 18) hM1 hou ro101 (by omega) h3) ?_
      refine st_ald rfl rfl ?_
      refine st_gR' rfl (by first | exact tT hM1 rfl | assumption | exact rw_T hM1 (by assumption) | exact rw_A hM1 (by assumption)) (by first | exact rR hM1 rfl rfl | assumption | exact rw_R hM1 (by assumption)) ?_
      refine st_gI rfl (by first | exact tT hM1 rfl | assumption | exact rw_T hM1 (by assumption) | exact rw_A hM1 (by assumption)) ?_
      -- at 53: op_iret
      refine st_iret rfl ⟨?_, rfl⟩
      rw [gI_ne (Or.inl (by omega)), gI_cp, if_neg (by omega), h3.1, map_len]
    · rcases hk with (z | z) | (z | z) <;> omega
  · have hM := h.1
    obtain ⟨M1, hc, h3, h4⟩ := mnO (d + 15) h ha hj (most := 20) (by decide) hx hk hlen
    have hM1 := h4.ok hM
    obtain ⟨M2, hc2, h5, h6, -⟩ := m_readLook (d + 17) hM1 ha.1 (h.2.2.2.1.sc h4) hk h3
    have hs := h4.tr h6
    have hM2 := hs.ok hM
    obtain ⟨M3, hc3, h7, h8⟩ := m_layRow (d + 18) hM2 hu (k := 148) (n := 24) (l := (rd (aC a) ws).map nI) (tT hM2 rfl) (by decide) (by rw [map_len]; omega) (by rw [map_len]; omega) (fun i hi => by rw [map_len] at hi; rw [h5.2.2 i hi, map_getD hi])
    rw [map_len] at hc3
    have hM3 := h8.ok hM2
    refine ⟨M3, en_217 (Nat.le_of_ble_eq_true rfl) ?_, (h.sc hs).lay h8 h7, hs.fr.tr h8.fr⟩
    refine st_ild rfl rfl ?_
    refine st_call (As := [_]) rfl rfl rfl (Nat.le_of_ble_eq_true rfl) (m_isRow (d + 17) _) ?_
    refine st_b1 rfl (fun zq => absurd zq (b01_t h2)) (fun _ => ?_)
    refine st_ild rfl rfl ?_
    refine st_call (As := [_]) rfl rfl rfl (Nat.le_of_ble_eq_true rfl) (m_isRow (d + 17) _) ?_
    refine st_b1 rfl (fun _ => ?_) (fun zq => absurd (b01_t t2) zq)
    refine st_ald rfl rfl ?_
    refine st_ild rfl rfl ?_
    refine st_k rfl ?_
    refine st_cav (As := [_, _]) rfl rfl rfl (by first | exact tT hM rfl | assumption | exact rw_T hM (by assumption) | exact rw_A hM (by assumption)) (Nat.le_of_ble_eq_true rfl) (hc) ?_
    refine st_ist rfl ?_
    refine st_ild rfl rfl ?_
    refine st_b1 rfl (fun _ => ?_) (fun zq => absurd ((by decide)) zq)
    -- at 30: stop
    refine st_ald rfl rfl ?_
    refine st_cav (As := []) rfl rfl rfl (by first | exact tT hM1 rfl | assumption | exact rw_T hM1 (by assumption) | exact rw_A hM1 (by assumption)) (Nat.le_of_ble_eq_true rfl) (hc2) ?_
    -- at 34: stop
    refine st_ald rfl rfl ?_
    refine st_ild rfl rfl ?_
    refine st_ald rfl rfl ?_
    refine st_gR' rfl (by first | exact tT hM2 rfl | assumption | exact rw_T hM2 (by assumption) | exact rw_A hM2 (by assumption)) (by first | exact rR hM2 rfl rfl | assumption | exact rw_R hM2 (by assumption)) ?_
    refine st_ald rfl rfl ?_
    refine st_gI rfl (by first | exact tT hM2 rfl | assumption | exact rw_T hM2 (by assumption) | exact rw_A hM2 (by assumption)) ?_
    -- at 44: stop
    refine wp_e h5.1 ?_
    refine st_cav (As := [_, _, _]) rfl rfl rfl (by first | exact tT hM2 rfl | assumption | exact rw_T hM2 (by assumption) | exact rw_A hM2 (by assumption)) (Nat.le_of_ble_eq_true rfl) (hc3) ?_
    -- at 47: stop
    refine st_ald rfl rfl ?_
    refine st_gI rfl (by first | exact tT hM3 rfl | assumption | exact rw_T hM3 (by assumption) | exact rw_A hM3 (by assumption)) ?_
    -- at 51: op_iret
    exact st_iret rfl ⟨by rw [h8.2.2.1 132 31 (by omega) (by omega), h5.1], rfl⟩
end PUF

/-! BOTH ANSWER ALIKE: tied, untied -/
section PUG
variable {a : As} {M : pm_M}
theorem lk_add {M : pm_M} {ws : List Nat} {k : Nat} (h : Lk M ws) (hl : ws.length < 24) : Lk (sI (sI M 147 ws.length (nI k)) 132 29 (nI (ws.length + 1))) (ws ++ [k]) := by
  refine ⟨by rw [gI_same]; simp, by simp; omega, fun i hi => ?_⟩
  rw [gI_ne (Or.inl (by decide)), gI_sI]
  simp at hi
  by_cases z : i = ws.length
  · subst z; simp
  · rw [if_neg (fun w => z w.2), h.2.2 i (by omega)]
    simp [List.getD_eq_getElem?_getD, List.getElem?_append_left (show i < ws.length by omega)]
theorem b_tie (ha : aw a) (k : Int32) : Both a 104 202 [.int k] := by
  rcases k_cs ha.1 k with ⟨h1, h2⟩ | ⟨j, hj, hr, h1, h2⟩
  · refine bo_k (x := .int (-1)) ha (fun d M h => ?_) (fun d M h => ?_)
    · refine en_104 (Nat.le_of_ble_eq_true rfl) ?_
      have hM := h.1
      refine st_ald rfl rfl ?_
      refine st_gR' rfl (by first | exact tT hM rfl | assumption | exact rw_T hM (by assumption) | exact rw_A hM (by assumption)) (by first | exact rR hM rfl rfl | assumption | exact rw_R hM (by assumption)) ?_
      refine st_ild rfl rfl ?_
      refine st_cav (As := [_]) rfl rfl rfl (by first | exact tT hM rfl | assumption | exact rw_T hM (by assumption) | exact rw_A hM (by assumption)) (Nat.le_of_ble_eq_true rfl) (c_hasKnot (d + 18) hM h.2.2.2.1 k) ?_
      refine st_b1 rfl (fun zq => absurd zq ((fun z => z (b01_f h1)))) (fun _ => ?_)
      refine st_k rfl ?_
      -- at 12: op_iret
      exact st_iret rfl ⟨rfl, rfl⟩
    · refine en_202 (Nat.le_of_ble_eq_true rfl) ?_
      have hM := h.1
      refine st_ald rfl rfl ?_
      refine st_ild rfl rfl ?_
      refine st_cav (As := [_]) rfl rfl rfl (by first | exact tT hM rfl | assumption | exact rw_T hM (by assumption) | exact rw_A hM (by assumption)) (Nat.le_of_ble_eq_true rfl) (m_isKnot (d + 17) hM ha.1 h.2.2.2.1 k) ?_
      refine st_b1 rfl (fun zq => absurd zq ((fun z => z (b01_f h2)))) (fun _ => ?_)
      refine st_k rfl ?_
      -- at 9: op_iret
      exact st_iret rfl ⟨rfl, rfl⟩
  subst hr
  have hl := ha.2.2.1
  have hk2 : kn (aC a) (aP a ++ [j]) := fun q hq => (List.mem_append.mp hq).elim (ha.2.1 q) (fun z => by rw [List.mem_singleton.mp z]; exact hj)
  -- the class up to isRight
  have cpre : ∀ d M, IC a M → ∃ M2, IC a M2 ∧ Cfr M M2 ∧ ∀ Q : Option Value → pm_M → Prop, pm_WP (pm_call (d + 19)) tb_104 Q 43 [some (.ref 0), some (.int (nI j))] [.int (if rt (aC a) (aP a ++ [j]) then 1 else 0)] M2 → pm_WP (pm_call (d + 19)) tb_104 Q 0 (pm_init 2 [.ref 0, .int (nI j)]) [] M := by
    intro d M h
    have hM := h.1
    have hr := h.2.2.2.2.1
    have e1 := ro_become (o := 99) hr
    have s1 : pm_S (pm_oo 99) M _ := s_become (M := M) (o := 99) (p := 3) (n := ((aP a).map nI).length) (w := nI ((aP a).map nI).length)
    have hM1 := s1.ok hM
    have hlt : ((aP a).map nI).length < 40 := by rw [map_len]; omega
    have e2 := ro_add e1 hlt (nI j)
    have s2 := s1.tr (s_add (o := 99) (n := ((aP a).map nI).length) (v := nI j) (w := nI (((aP a).map nI).length + 1)))
    have hM2 := s2.ok hM
    have hI := h.S s2 (fun k hk => by rcases hk with z | z <;> omega)
    rw [show (aP a).map nI ++ [nI j] = (aP a ++ [j]).map nI by simp] at e2
    refine ⟨_, hI, Cfr.S s2 (fun k hk => by rcases hk with z | z <;> omega), fun Q hW => ?_⟩
    refine st_ald rfl rfl ?_
    refine st_gR' rfl (by first | exact tT hM rfl | assumption | exact rw_T hM (by assumption) | exact rw_A hM (by assumption)) (by first | exact rR hM rfl rfl | assumption | exact rw_R hM (by assumption)) ?_
    refine st_ild rfl rfl ?_
    refine st_cav (As := [_]) rfl rfl rfl (by first | exact tT hM rfl | assumption | exact rw_T hM (by assumption) | exact rw_A hM (by assumption)) (Nat.le_of_ble_eq_true rfl) (c_hasKnot (d + 18) hM h.2.2.2.1 _) ?_
    refine st_b1 rfl (fun _ => ?_) (fun zq => absurd (b01_t h1) zq)
    refine st_ald rfl rfl ?_
    refine st_gR' rfl (by first | exact tT hM rfl | assumption | exact rw_T hM (by assumption) | exact rw_A hM (by assumption)) (by first | exact rR hM rfl rfl | assumption | exact rw_R hM (by assumption)) ?_
    refine st_ald rfl rfl ?_
    refine st_gR' rfl (by first | exact tT hM rfl | assumption | exact rw_T hM (by assumption) | exact rw_A hM (by assumption)) (by first | exact rR hM rfl rfl | assumption | exact rw_R hM (by assumption)) ?_
    refine st_cav (As := [_]) rfl rfl rfl (by first | exact tT hM rfl | assumption | exact rw_T hM (by assumption) | exact rw_A hM (by assumption)) (Nat.le_of_ble_eq_true rfl) (c_become (d + 18) hM ro99 ro3 (by decide) hr) ?_
    refine st_ald rfl rfl ?_
    refine st_gR' rfl (by first | exact tT hM rfl | assumption | exact rw_T hM (by assumption) | exact rw_A hM (by assumption)) (by first | exact rR hM rfl rfl | assumption | exact rw_R hM (by assumption)) ?_
    refine st_ild rfl rfl ?_
    refine st_cav (As := [_]) rfl rfl rfl (rw_T hM1 ro99) (Nat.le_of_ble_eq_true rfl) (c_add (d + 18) hM1 ro99 e1 hlt _) ?_
    -- at 32: stop
    refine st_ald rfl rfl ?_
    refine st_gR' rfl (by first | exact tT hM2 rfl | assumption | exact rw_T hM2 (by assumption) | exact rw_A hM2 (by assumption)) (by first | exact rR hM2 rfl rfl | assumption | exact rw_R hM2 (by assumption)) ?_
    refine st_ald rfl rfl ?_
    refine st_gR' rfl (by first | exact tT hM2 rfl | assumption | exact rw_T hM2 (by assumption) | exact rw_A hM2 (by assumption)) (by first | exact rR hM2 rfl rfl | assumption | exact rw_R hM2 (by assumption)) ?_
    refine st_cav (As := [_]) rfl rfl rfl (by first | exact tT hM2 rfl | assumption | exact rw_T hM2 (by assumption) | exact rw_A hM2 (by assumption)) (Nat.le_of_ble_eq_true rfl) (c_isRight (d + 16) hM2 ha.1 hI.2.2.2.1 ro99 hk2 e2) ?_
    -- at 43: stop
    exact hW
  have mpre : ∀ d M, IM a M → ∃ M2, Msc M M2 ∧ Lk M2 (aP a ++ [j]) ∧ ∀ Q : Option Value → pm_M → Prop, pm_WP (pm_call (d + 19)) tb_202 Q 38 [some (.ref 132), some (.int (nI j))] [.int (if rt (aC a) (aP a ++ [j]) then 1 else 0)] M2 → pm_WP (pm_call (d + 19)) tb_202 Q 0 (pm_init 2 [.ref 132, .int (nI j)]) [] M := by
    intro d M h
    have hM := h.1
    obtain ⟨M1, hc, h3, h4⟩ := m_lookAtRope (d + 18) hM hl h.2.2.2.2.1
    have hM1 := h4.ok hM
    have h5 := lk_add (k := j) h3 (by omega)
    have h6 : Msc M (sI (sI M1 147 (aP a).length (nI j)) 132 29 (nI ((aP a).length + 1))) := (h4.sI _ (by omega)).sI _ (by omega)
    have hM2 := h6.ok hM
    refine ⟨_, h6, h5, fun Q hW => ?_⟩
    have hin : vp_in (nI (aP a).length) 24 := vp_in_nI (by omega) (by decide)
    refine st_ald rfl rfl ?_
    refine st_ild rfl rfl ?_
    refine st_cav (As := [_]) rfl rfl rfl (by first | exact tT hM rfl | assumption | exact rw_T hM (by assumption) | exact rw_A hM (by assumption)) (Nat.le_of_ble_eq_true rfl) (m_isKnot (d + 17) hM ha.1 h.2.2.2.1 _) ?_
    refine st_b1 rfl (fun _ => ?_) (fun zq => absurd (b01_t h2) zq)
    refine st_ald rfl rfl ?_
    refine st_cav (As := []) rfl rfl rfl (by first | exact tT hM rfl | assumption | exact rw_T hM (by assumption) | exact rw_A hM (by assumption)) (Nat.le_of_ble_eq_true rfl) (hc) ?_
    -- at 14: stop
    refine st_ald rfl rfl ?_
    refine st_gR' rfl (by first | exact tT hM1 rfl | assumption | exact rw_T hM1 (by assumption) | exact rw_A hM1 (by assumption)) (by first | exact rR hM1 rfl rfl | assumption | exact rw_R hM1 (by assumption)) ?_
    refine st_ald rfl rfl ?_
    refine st_gI rfl (by first | exact tT hM1 rfl | assumption | exact rw_T hM1 (by assumption) | exact rw_A hM1 (by assumption)) ?_
    -- at 22: stop
    refine wp_e h3.1 ?_
    refine st_ild rfl rfl ?_
    refine st_iast rfl (by first | exact tT hM1 rfl | assumption | exact rw_T hM1 (by assumption) | exact rw_A hM1 (by assumption)) (by first | decide | assumption | exact vp_in_nI (by omega) (by decide)) ?_
    refine st_ald rfl rfl ?_
    refine st_dup rfl rfl ?_
    refine st_gI rfl (by first | exact tT hM1 rfl | assumption | exact rw_T hM1 (by assumption) | exact rw_A hM1 (by assumption)) ?_
    -- at 29: stop
    rw [nI_clamp (by omega)]
    refine wp_e (y := nI (aP a).length) (by rw [gI_ne (Or.inl (by decide))]; exact h3.1) ?_
    refine st_k rfl ?_
    refine st_ib rfl ?_
    refine st_pI rfl (by first | exact tT hM1 rfl | assumption | exact rw_T hM1 (by assumption) | exact rw_A hM1 (by assumption)) ?_
    -- at 34: stop
    rw [nI_1]
    refine st_ald rfl rfl ?_
    refine st_cav (As := []) rfl rfl rfl (by first | exact tT hM2 rfl | assumption | exact rw_T hM2 (by assumption) | exact rw_A hM2 (by assumption)) (Nat.le_of_ble_eq_true rfl) (m_lookRight (d + 15) hM2 ha.1 (h.2.2.2.1.sc h6) hk2 h5) ?_
    -- at 38: stop
    exact hW
  by_cases hrt : rt (aC a) (aP a ++ [j])
  case neg =>
    refine ⟨.int (-4), a, ha, fun d M h => ?_, fun d M h => ?_⟩
    · obtain ⟨M2, hI, hf, hW⟩ := cpre d M h
      refine ⟨M2, en_104 (Nat.le_of_ble_eq_true rfl) (hW _ ?_), hI, hf⟩
      refine st_b1 rfl (fun zq => absurd zq ((fun z => z (b01_f hrt)))) (fun _ => ?_)
      refine st_k rfl ?_
      -- at 48: op_iret
      exact st_iret rfl ⟨rfl, rfl⟩
    · obtain ⟨M2, hs, h5, hW⟩ := mpre d M h
      refine ⟨M2, en_202 (Nat.le_of_ble_eq_true rfl) (hW _ ?_), h.sc hs, hs.fr⟩
      refine st_b1 rfl (fun zq => absurd zq ((fun z => z (b01_f hrt)))) (fun _ => ?_)
      refine st_k rfl ?_
      -- at 43: op_iret
      exact st_iret rfl ⟨rfl, rfl⟩
  by_cases hfull : (aP a).length = 20
  · refine ⟨.int (-2), a, ha, fun d M h => ?_, fun d M h => ?_⟩
    · obtain ⟨M2, hI, hf, hW⟩ := cpre d M h
      refine ⟨M2, en_104 (Nat.le_of_ble_eq_true rfl) (hW _ ?_), hI, hf⟩
      have hM2 := hI.1
      have e : gI M2 3 1 = nI 20 := by rw [hI.2.2.2.2.1.1, map_len, hfull]
      refine st_b1 rfl (fun _ => ?_) (fun zq => absurd (b01_t hrt) zq)
      refine st_ald rfl rfl ?_
      refine st_gR' rfl (by first | exact tT hM2 rfl | assumption | exact rw_T hM2 (by assumption) | exact rw_A hM2 (by assumption)) (by first | exact rR hM2 rfl rfl | assumption | exact rw_R hM2 (by assumption)) ?_
      refine st_gI rfl (by first | exact tT hM2 rfl | assumption | exact rw_T hM2 (by assumption) | exact rw_A hM2 (by assumption)) ?_
      -- at 56: stop
      refine wp_e e ?_
      refine st_k rfl ?_
      refine st_b2 rfl (fun zq => absurd zq ((by decide))) (fun _ => ?_)
      refine st_k rfl ?_
      -- at 63: op_iret
      exact st_iret rfl ⟨rfl, rfl⟩
    · obtain ⟨M2, hs, h5, hW⟩ := mpre d M h
      refine ⟨M2, en_202 (Nat.le_of_ble_eq_true rfl) (hW _ ?_), h.sc hs, hs.fr⟩
      have hI := h.sc hs
      have hM2 := hI.1
      have e : gI M2 132 33 = nI 20 := by rw [hI.2.2.2.2.1.1, hfull]
      refine st_b1 rfl (fun _ => ?_) (fun zq => absurd (b01_t hrt) zq)
      refine st_ald rfl rfl ?_
      refine st_gI rfl (by first | exact tT hM2 rfl | assumption | exact rw_T hM2 (by assumption) | exact rw_A hM2 (by assumption)) ?_
      -- at 48: stop
      refine wp_e e ?_
      refine st_k rfl ?_
      refine st_b2 rfl (fun zq => absurd zq ((by decide))) (fun _ => ?_)
      refine st_k rfl ?_
      -- at 55: op_iret
      exact st_iret rfl ⟨rfl, rfl⟩
  have hlt : (aP a).length < 20 := by omega
  refine ⟨.int (nI (cf_len (aC a)) - nI (ms (aC a) 6 (aP a ++ [j]))), sP' a (aP a ++ [j]), ⟨ha.1, hk2, by show (aP a ++ [j]).length ≤ 20; simp; omega, ha.2.2.2⟩, fun d M h => ?_, fun d M h => ?_⟩
  · obtain ⟨M2, hI, hf, hW⟩ := cpre d M h
    have hM2 := hI.1
    have hr2 := hI.2.2.2.2.1
    have hl2 : ((aP a).map nI).length < 40 := by rw [map_len]; omega
    have e2 := ro_add hr2 hl2 (nI j)
    rw [show (aP a).map nI ++ [nI j] = (aP a ++ [j]).map nI by simp] at e2
    have s2 : pm_S (pm_oo 3) M2 _ := s_add (M := M2) (o := 3) (n := ((aP a).map nI).length) (v := nI j) (w := nI (((aP a).map nI).length + 1))
    have hM3 := s2.ok hM2
    have hI3 := hI.rope s2 (fun k hk => by rcases hk with z | z <;> omega) e2
    refine ⟨_, en_104 (Nat.le_of_ble_eq_true rfl) (hW _ ?_), hI3, hf.tr (Cfr.S s2 (fun k hk => by rcases hk with z | z <;> omega))⟩
    have e : gI M2 3 1 = nI (aP a).length := by rw [hr2.1, map_len]
    refine st_b1 rfl (fun _ => ?_) (fun zq => absurd (b01_t hrt) zq)
    refine st_ald rfl rfl ?_
    refine st_gR' rfl (by first | exact tT hM2 rfl | assumption | exact rw_T hM2 (by assumption) | exact rw_A hM2 (by assumption)) (by first | exact rR hM2 rfl rfl | assumption | exact rw_R hM2 (by assumption)) ?_
    refine st_gI rfl (by first | exact tT hM2 rfl | assumption | exact rw_T hM2 (by assumption) | exact rw_A hM2 (by assumption)) ?_
    -- at 56: stop
    refine wp_e e ?_
    refine st_k rfl ?_
    refine st_b2 rfl (fun _ => ?_) (fun zq => absurd (nI_lt (a := (aP a).length) (b := 20) hlt (by decide)) zq)
    refine st_ald rfl rfl ?_
    refine st_gR' rfl (by first | exact tT hM2 rfl | assumption | exact rw_T hM2 (by assumption) | exact rw_A hM2 (by assumption)) (by first | exact rR hM2 rfl rfl | assumption | exact rw_R hM2 (by assumption)) ?_
    refine st_ild rfl rfl ?_
    refine st_cav (As := [_]) rfl rfl rfl (rw_T hM2 ro3) (Nat.le_of_ble_eq_true rfl) (c_add (d + 18) hM2 ro3 hr2 hl2 _) ?_
    -- at 72: stop
    refine st_ald rfl rfl ?_
    refine st_gR' rfl (by first | exact tT hM3 rfl | assumption | exact rw_T hM3 (by assumption) | exact rw_A hM3 (by assumption)) (by first | exact rR hM3 rfl rfl | assumption | exact rw_R hM3 (by assumption)) ?_
    refine st_ald rfl rfl ?_
    refine st_gR' rfl (by first | exact tT hM3 rfl | assumption | exact rw_T hM3 (by assumption) | exact rw_A hM3 (by assumption)) (by first | exact rR hM3 rfl rfl | assumption | exact rw_R hM3 (by assumption)) ?_
    refine st_cav (As := [_]) rfl rfl rfl (by first | exact tT hM3 rfl | assumption | exact rw_T hM3 (by assumption) | exact rw_A hM3 (by assumption)) (Nat.le_of_ble_eq_true rfl) (c_spareOf (d + 16) hM3 ha.1 hI3.2.2.2.1 ro3 hk2 e2) ?_
    -- at 83: op_iret
    exact st_iret rfl ⟨rfl, rfl⟩
  · obtain ⟨M2, hs, h5, hW⟩ := mpre d M h
    have hI := h.sc hs
    have hM2 := hI.1
    have hr2 := hI.2.2.2.2.1
    have hin : vp_in (nI (aP a).length) 20 := vp_in_nI hlt (by decide)
    have hx : MRop (sI (sI M2 149 (aP a).length (nI j)) 132 33 (nI ((aP a).length + 1))) (aP a ++ [j]) := by
      refine ⟨by rw [gI_same]; simp, fun i hi => ?_⟩
      rw [gI_ne (Or.inl (by decide)), gI_sI]
      simp at hi
      by_cases z : i = (aP a).length
      · subst z; simp
      · rw [if_neg (fun w => z w.2), hr2.2 i (by omega)]
        simp [List.getD_eq_getElem?_getD, List.getElem?_append_left (show i < (aP a).length by omega)]
    have hI3 : IM (sP' a (aP a ++ [j])) (sI (sI M2 149 (aP a).length (nI j)) 132 33 (nI ((aP a).length + 1))) := hI.rope hM2 (fun k i _ z1 z2 => (gI_nn z1).trans (gI_ne (Or.inl z2))) rfl hx
    have hM3 := hI3.1
    have hL3 : Lk (sI (sI M2 149 (aP a).length (nI j)) 132 33 (nI ((aP a).length + 1))) (aP a ++ [j]) := ⟨by rw [gI_ne (Or.inr (by decide)), gI_ne (Or.inl (by decide))]; exact h5.1, h5.2.1, fun i hi => by rw [gI_ne (Or.inl (by decide)), gI_ne (Or.inl (by decide))]; exact h5.2.2 i hi⟩
    refine ⟨_, en_202 (Nat.le_of_ble_eq_true rfl) (hW _ ?_), hI3, (hs.fr.sI (by decide) _ _).sI (by decide) _ _⟩
    refine st_b1 rfl (fun _ => ?_) (fun zq => absurd (b01_t hrt) zq)
    refine st_ald rfl rfl ?_
    refine st_gI rfl (by first | exact tT hM2 rfl | assumption | exact rw_T hM2 (by assumption) | exact rw_A hM2 (by assumption)) ?_
    -- at 48: stop
    refine wp_e hr2.1 ?_
    refine st_k rfl ?_
    refine st_b2 rfl (fun _ => ?_) (fun zq => absurd ((fun z => hfull ((nI_eq (a := (aP a).length) (b := 20) (by omega) (by decide)).mp z))) zq)
    refine st_ald rfl rfl ?_
    refine st_gR' rfl (by first | exact tT hM2 rfl | assumption | exact rw_T hM2 (by assumption) | exact rw_A hM2 (by assumption)) (by first | exact rR hM2 rfl rfl | assumption | exact rw_R hM2 (by assumption)) ?_
    refine st_ald rfl rfl ?_
    refine st_gI rfl (by first | exact tT hM2 rfl | assumption | exact rw_T hM2 (by assumption) | exact rw_A hM2 (by assumption)) ?_
    -- at 64: stop
    refine wp_e hr2.1 ?_
    refine st_ild rfl rfl ?_
    refine st_iast rfl (by first | exact tT hM2 rfl | assumption | exact rw_T hM2 (by assumption) | exact rw_A hM2 (by assumption)) (by first | decide | assumption | exact vp_in_nI (by omega) (by decide)) ?_
    refine st_ald rfl rfl ?_
    refine st_dup rfl rfl ?_
    refine st_gI rfl (by first | exact tT hM2 rfl | assumption | exact rw_T hM2 (by assumption) | exact rw_A hM2 (by assumption)) ?_
    -- at 71: stop
    rw [nI_clamp (by omega)]
    refine wp_e (y := nI (aP a).length) (by rw [gI_ne (Or.inl (by decide))]; exact hr2.1) ?_
    refine st_k rfl ?_
    refine st_ib rfl ?_
    refine st_pI rfl (by first | exact tT hM2 rfl | assumption | exact rw_T hM2 (by assumption) | exact rw_A hM2 (by assumption)) ?_
    -- at 76: stop
    rw [nI_1]
    refine st_ald rfl rfl ?_
    refine st_gI rfl (by first | exact tT hM3 rfl | assumption | exact rw_T hM3 (by assumption) | exact rw_A hM3 (by assumption)) ?_
    -- at 80: stop
    refine wp_e hI3.2.2.2.1.1.1 ?_
    refine st_ald rfl rfl ?_
    refine st_cav (As := []) rfl rfl rfl (by first | exact tT hM3 rfl | assumption | exact rw_T hM3 (by assumption) | exact rw_A hM3 (by assumption)) (Nat.le_of_ble_eq_true rfl) (m_lookTakes (d + 16) hM3 ha.1 hI3.2.2.2.1 hk2 hL3) ?_
    refine st_ib rfl ?_
    -- at 85: op_iret
    exact st_iret rfl ⟨rfl, rfl⟩
/-! untie -/
theorem m_loose (d : Nat) (hM : pm_ok M) {c : Cf} (hw : cf_wf c) (hc : MC c M) {ws : List Nat} (hk : kn c ws) (hl : ws.length ≤ 20) (h : MRop M ws) : ∃ L, L ≤ ws.length ∧ pm_call (d + 1) 203 [.ref 132] M (some (.int (nI L))) M ∧ (∀ i, ws.length - L ≤ i → i < ws.length → cf_kd c (ws.getD i 0) ≠ 5) ∧ (L < ws.length → cf_kd c (ws.getD (ws.length - 1 - L) 0) = 5) := by
  have loop : ∀ n i x, x = nI i → i + n = ws.length → (∀ t, ws.length - i ≤ t → t < ws.length → cf_kd c (ws.getD t 0) ≠ 5) → pm_WP (pm_call d) tb_203 (fun r M' => M' = M ∧ ∃ L, L ≤ ws.length ∧ r = some (.int (nI L)) ∧ (∀ i, ws.length - L ≤ i → i < ws.length → cf_kd c (ws.getD i 0) ≠ 5) ∧ (L < ws.length → cf_kd c (ws.getD (ws.length - 1 - L) 0) = 5)) 2 [some (.ref 132), some (.int x)] [] M := by
    intro n
    induction n with
    | zero =>
      intro i x hx hi ha
      subst hx
      refine st_ild rfl rfl ?_
      refine st_ald rfl rfl ?_
      refine st_gI rfl (by first | exact tT hM rfl | assumption | exact rw_T hM (by assumption) | exact rw_A hM (by assumption)) ?_
      -- at 7: stop
      refine wp_e h.1 ?_
      refine st_b2 rfl (fun _ => ?_) (fun zq => absurd (nI_le (by omega) (by omega)) zq)
      refine st_ild rfl rfl ?_
      -- at 39: op_iret
      exact st_iret rfl ⟨rfl, i, by omega, rfl, ha, fun z => by omega⟩
    | succ n ih =>
      intro i x hx hi ha
      subst hx
      have e1 : nI ws.length - 1 - nI i = nI (ws.length - 1 - i) := by rw [nI_p1 (by omega), pk_sub (by omega)]
      have hin : vp_in (nI ws.length - 1 - nI i) 20 := by rw [e1]; exact vp_in_nI (by omega) (by decide)
      have hkk := kn_getD hk (show ws.length - 1 - i < ws.length by omega)
      have hat : gI M 149 (nI ws.length - 1 - nI i).toNatClampNeg = nI (ws.getD (ws.length - 1 - i) 0) := by rw [e1, nI_clamp (by omega)]; exact h.2 _ (by omega)
      have hin2 := in6 hw hkk
      have hat2 : gI M 139 (nI (ws.getD (ws.length - 1 - i) 0)).toNatClampNeg = nI (cf_kd c (ws.getD (ws.length - 1 - i) 0)) := by rw [cl6 hw hkk]; exact (hc.2.1 _ hkk).1
      have hkd := (hw.2.2.2.2.2.1 _ hkk).1
      have n5 : nI (cf_kd c (ws.getD (ws.length - 1 - i) 0)) = 5 ↔ cf_kd c (ws.getD (ws.length - 1 - i) 0) = 5 := nI_eq (a := cf_kd c (ws.getD (ws.length - 1 - i) 0)) (b := 5) (by omega) (by decide)
      refine st_ild rfl rfl ?_
      refine st_ald rfl rfl ?_
      refine st_gI rfl (by first | exact tT hM rfl | assumption | exact rw_T hM (by assumption) | exact rw_A hM (by assumption)) ?_
      -- at 7: stop
      refine wp_e h.1 ?_
      refine st_b2 rfl (fun zq => absurd zq (nI_ge (by omega) (by omega))) (fun _ => ?_)
      refine st_ald rfl rfl ?_
      refine st_gR' rfl (by first | exact tT hM rfl | assumption | exact rw_T hM (by assumption) | exact rw_A hM (by assumption)) (by first | exact rR hM rfl rfl | assumption | exact rw_R hM (by assumption)) ?_
      refine st_ald rfl rfl ?_
      refine st_gR' rfl (by first | exact tT hM rfl | assumption | exact rw_T hM (by assumption) | exact rw_A hM (by assumption)) (by first | exact rR hM rfl rfl | assumption | exact rw_R hM (by assumption)) ?_
      refine st_ald rfl rfl ?_
      refine st_gI rfl (by first | exact tT hM rfl | assumption | exact rw_T hM (by assumption) | exact rw_A hM (by assumption)) ?_
      -- at 22: stop
      refine wp_e h.1 ?_
      refine st_k rfl ?_
      refine st_ib rfl ?_
      refine st_ild rfl rfl ?_
      refine st_ib rfl ?_
      refine st_iald rfl (by first | exact tT hM rfl | assumption | exact rw_T hM (by assumption) | exact rw_A hM (by assumption)) (by first | decide | assumption | exact vp_in_nI (by omega) (by decide)) ?_
      -- at 27: stop
      refine wp_e hat ?_
      refine st_iald rfl (by first | exact tT hM rfl | assumption | exact rw_T hM (by assumption) | exact rw_A hM (by assumption)) (by first | decide | assumption | exact vp_in_nI (by omega) (by decide)) ?_
      -- at 28: stop
      refine wp_e hat2 ?_
      refine st_k rfl ?_
      refine st_b2 rfl (fun g => ?_) (fun g => ?_)
      -- at 29: split 38 32
      · refine st_ild rfl rfl ?_
        -- at 39: op_iret
        exact st_iret rfl ⟨rfl, i, by omega, rfl, ha, fun _ => n5.mp g⟩
      · refine st_inc rfl rfl ?_
        refine st_go rfl ?_
        -- at 2: stop
        refine ih (i + 1) _ (nI_1 i) (by omega) (fun t h1 h2 => ?_)
        by_cases z : t = ws.length - 1 - i
        · subst z; exact fun w => g (n5.mpr w)
        · exact ha t (by omega) h2
  obtain ⟨r, M', hcc, hM', L, h1, hr, h2, h3⟩ := eq_203 (d := d) (A := [.ref 132]) (M := M) (Q := fun r M' => M' = M ∧ ∃ L, L ≤ ws.length ∧ r = some (.int (nI L)) ∧ (∀ i, ws.length - L ≤ i → i < ws.length → cf_kd c (ws.getD i 0) ≠ 5) ∧ (L < ws.length → cf_kd c (ws.getD (ws.length - 1 - L) 0) = 5)) (Nat.le_of_ble_eq_true rfl) (by
    refine st_k rfl ?_
    refine st_ist rfl ?_
    -- at 2: stop
    exact loop ws.length 0 0 rfl (by omega) (fun t h1 h2 => by omega))
  subst hM'; subst hr
  exact ⟨L, h1, hcc, h2, h3⟩
theorem b_untie (ha : aw a) (n : Int32) : Both a 105 204 [.int n] := by
  have hl := ha.2.2.1
  by_cases g : ¬ n < 0 ∧ ¬ nI (aP a).length < n
  case neg =>
    refine bo_k (x := .int (-1)) ha (fun d M h => ?_) (fun d M h => ?_)
    · refine en_105 (Nat.le_of_ble_eq_true rfl) ?_
      have hM := h.1
      have e : gI M 3 1 = nI (aP a).length := by rw [h.2.2.2.2.1.1, map_len]
      refine st_ild rfl rfl ?_
      refine st_b1 rfl (fun g1 => ?_) (fun g1 => ?_)
      -- at 1: split 15 4
      · refine st_k rfl ?_
        -- at 16: op_iret
        exact st_iret rfl ⟨rfl, rfl⟩
      · refine st_ild rfl rfl ?_
        refine st_ald rfl rfl ?_
        refine st_gR' rfl (by first | exact tT hM rfl | assumption | exact rw_T hM (by assumption) | exact rw_A hM (by assumption)) (by first | exact rR hM rfl rfl | assumption | exact rw_R hM (by assumption)) ?_
        refine st_gI rfl (by first | exact tT hM rfl | assumption | exact rw_T hM (by assumption) | exact rw_A hM (by assumption)) ?_
        -- at 12: stop
        refine wp_e e ?_
        refine st_b2 rfl (fun zq => absurd zq ((fun z => g ⟨g1, Int32.not_lt.mpr z⟩))) (fun _ => ?_)
        refine st_k rfl ?_
        -- at 16: op_iret
        exact st_iret rfl ⟨rfl, rfl⟩
    · refine en_204 (Nat.le_of_ble_eq_true rfl) ?_
      have hM := h.1
      refine st_ild rfl rfl ?_
      refine st_k rfl ?_
      refine st_ald rfl rfl ?_
      refine st_gI rfl (by first | exact tT hM rfl | assumption | exact rw_T hM (by assumption) | exact rw_A hM (by assumption)) ?_
      -- at 6: stop
      refine wp_e h.2.2.2.2.1.1 ?_
      refine st_call (As := [_, _, _]) rfl rfl rfl (Nat.le_of_ble_eq_true rfl) (m_in (d + 18) n 0 _) ?_
      refine st_b1 rfl (fun zq => absurd zq ((fun z => z (b01_f g)))) (fun _ => ?_)
      refine st_k rfl ?_
      -- at 13: op_iret
      exact st_iret rfl ⟨rfl, rfl⟩
  obtain ⟨m, hm, hv⟩ : ∃ m : Nat, m ≤ (aP a).length ∧ n = nI m := by
    obtain ⟨m, hm, hv⟩ := nI_of g.1
    rw [hv] at g
    exact ⟨m, Nat.not_lt.mp (fun z => g.2 (nI_lt z (by omega))), hv⟩
  have gle : n ≤ nI (aP a).length := Int32.not_lt.mp g.2
  subst hv
  have e0 : nI (aP a).length - nI m = nI ((aP a).length - m) := pk_sub hm
  -- the class's loop
  have cloop : ∀ d M, IC a M → ∀ (Q : Option Value → pm_M → Prop), ((∃ i, (aP a).length - m ≤ i ∧ i < (aP a).length ∧ cf_kd (aC a) ((aP a).getD i 0) = 5) → Q (some (.int (-4))) M) → ((∀ i, (aP a).length - m ≤ i → i < (aP a).length → cf_kd (aC a) ((aP a).getD i 0) ≠ 5) → Q (some (.int (nI ((aP a).length - m)))) (sI M 3 1 (nI ((aP a).length - m)))) → ∀ q i x, x = nI i → i + q = (aP a).length → (aP a).length - m ≤ i → (∀ t, (aP a).length - m ≤ t → t < i → cf_kd (aC a) ((aP a).getD t 0) ≠ 5) → pm_WP (pm_call (d + 19)) tb_105 Q 27 [some (.ref 0), some (.int (nI m)), some (.int x)] [] M := by
    intro d M h Q hq1 hq2 q
    have hM := h.1
    have hr := h.2.2.2.2.1
    have e : gI M 3 1 = nI (aP a).length := by rw [hr.1, map_len]
    induction q with
    | zero =>
      intro i x hx hi h1 ht
      subst hx
      refine st_ild rfl rfl ?_
      refine st_ald rfl rfl ?_
      refine st_gR' rfl (by first | exact tT hM rfl | assumption | exact rw_T hM (by assumption) | exact rw_A hM (by assumption)) (by first | exact rR hM rfl rfl | assumption | exact rw_R hM (by assumption)) ?_
      refine st_gI rfl (by first | exact tT hM rfl | assumption | exact rw_T hM (by assumption) | exact rw_A hM (by assumption)) ?_
      -- at 35: stop
      refine wp_e e ?_
      refine st_b2 rfl (fun _ => ?_) (fun zq => absurd (nI_le (by omega) (by omega)) zq)
      refine st_ald rfl rfl ?_
      refine st_gR' rfl (by first | exact tT hM rfl | assumption | exact rw_T hM (by assumption) | exact rw_A hM (by assumption)) (by first | exact rR hM rfl rfl | assumption | exact rw_R hM (by assumption)) ?_
      refine st_dup rfl rfl ?_
      refine st_gI rfl (by first | exact tT hM rfl | assumption | exact rw_T hM (by assumption) | exact rw_A hM (by assumption)) ?_
      -- at 74: stop
      refine wp_e e ?_
      refine st_ild rfl rfl ?_
      refine st_ib rfl ?_
      refine st_pI rfl (by first | exact tT hM rfl | assumption | exact rw_T hM (by assumption) | exact rw_A hM (by assumption)) ?_
      -- at 79: stop
      rw [e0]
      refine st_ald rfl rfl ?_
      refine st_gR' rfl (by first | exact tT hM rfl | assumption | exact rw_T hM (by assumption) | exact rw_A hM (by assumption)) (by first | exact rR hM rfl rfl | assumption | exact rw_R hM (by assumption)) ?_
      refine st_gI rfl (by first | exact tT hM rfl | assumption | exact rw_T hM (by assumption) | exact rw_A hM (by assumption)) ?_
      -- at 86: op_iret
      exact st_iret rfl (by rw [gI_same]; exact hq2 (fun t h2 h3 => ht t h2 (by omega)))
    | succ q ih =>
      intro i x hx hi h1 ht
      subst hx
      have hin : vp_in (nI i) 40 := vp_in_nI (by omega) (by decide)
      have hkk := kn_getD ha.2.1 (show i < (aP a).length by omega)
      have hat : gI M (3 + 1) (nI i).toNatClampNeg = nI ((aP a).getD i 0) := (ro_at hr (by rw [map_len]; omega)).trans (map_getD (by omega))
      refine st_ild rfl rfl ?_
      refine st_ald rfl rfl ?_
      refine st_gR' rfl (by first | exact tT hM rfl | assumption | exact rw_T hM (by assumption) | exact rw_A hM (by assumption)) (by first | exact rR hM rfl rfl | assumption | exact rw_R hM (by assumption)) ?_
      refine st_gI rfl (by first | exact tT hM rfl | assumption | exact rw_T hM (by assumption) | exact rw_A hM (by assumption)) ?_
      -- at 35: stop
      refine wp_e e ?_
      refine st_b2 rfl (fun zq => absurd zq (nI_ge (by omega) (by omega))) (fun _ => ?_)
      refine st_ald rfl rfl ?_
      refine st_gR' rfl (by first | exact tT hM rfl | assumption | exact rw_T hM (by assumption) | exact rw_A hM (by assumption)) (by first | exact rR hM rfl rfl | assumption | exact rw_R hM (by assumption)) ?_
      refine st_ald rfl rfl ?_
      refine st_gR' rfl (by first | exact tT hM rfl | assumption | exact rw_T hM (by assumption) | exact rw_A hM (by assumption)) (by first | exact rR hM rfl rfl | assumption | exact rw_R hM (by assumption)) ?_
      refine st_gR' rfl (rw_T hM ro3) (rw_R hM ro3) ?_
      refine st_ild rfl rfl ?_
      refine st_iald rfl (rw_A hM ro3) (hin) ?_
      -- at 51: stop
      refine wp_e hat ?_
      refine st_cav (As := [_]) rfl rfl rfl (by first | exact tT hM rfl | assumption | exact rw_T hM (by assumption) | exact rw_A hM (by assumption)) (Nat.le_of_ble_eq_true rfl) (c_isWill (d + 18) hM ha.1 h.2.2.2.1 hkk) ?_
      refine st_b1 rfl (fun g5 => ?_) (fun g5 => ?_)
      -- at 54: split 60 57
      · have g5 : ¬ cf_kd (aC a) ((aP a).getD i 0) = 5 := fun z => b01_t z g5
        refine st_inc rfl rfl ?_
        refine st_go rfl ?_
        -- at 27: stop
        refine ih (i + 1) _ (nI_1 i) (by omega) (by omega) (fun t h2 h3 => ?_)
        by_cases z : t = i
        · subst z; exact g5
        · exact ht t h2 (by omega)
      · have g5 := Decidable.not_not.mp (fun z => g5 (b01_f z))
        refine st_k rfl ?_
        -- at 59: op_iret
        exact st_iret rfl (hq1 ⟨i, h1, by omega, g5⟩)
  have cpre : ∀ d M, IC a M → ∀ Q : Option Value → pm_M → Prop, pm_WP (pm_call (d + 19)) tb_105 Q 27 [some (.ref 0), some (.int (nI m)), some (.int (nI ((aP a).length - m)))] [] M → pm_WP (pm_call (d + 19)) tb_105 Q 0 (pm_init 3 [.ref 0, .int (nI m)]) [] M := by
    intro d M h Q hW
    have hM := h.1
    have e : gI M 3 1 = nI (aP a).length := by rw [h.2.2.2.2.1.1, map_len]
    refine st_ild rfl rfl ?_
    refine st_b1 rfl (fun zq => absurd zq (g.1)) (fun _ => ?_)
    refine st_ild rfl rfl ?_
    refine st_ald rfl rfl ?_
    refine st_gR' rfl (by first | exact tT hM rfl | assumption | exact rw_T hM (by assumption) | exact rw_A hM (by assumption)) (by first | exact rR hM rfl rfl | assumption | exact rw_R hM (by assumption)) ?_
    refine st_gI rfl (by first | exact tT hM rfl | assumption | exact rw_T hM (by assumption) | exact rw_A hM (by assumption)) ?_
    -- at 12: stop
    refine wp_e e ?_
    refine st_b2 rfl (fun _ => ?_) (fun zq => absurd (gle) zq)
    refine st_ald rfl rfl ?_
    refine st_gR' rfl (by first | exact tT hM rfl | assumption | exact rw_T hM (by assumption) | exact rw_A hM (by assumption)) (by first | exact rR hM rfl rfl | assumption | exact rw_R hM (by assumption)) ?_
    refine st_gI rfl (by first | exact tT hM rfl | assumption | exact rw_T hM (by assumption) | exact rw_A hM (by assumption)) ?_
    -- at 24: stop
    refine wp_e e ?_
    refine st_ild rfl rfl ?_
    refine st_ib rfl ?_
    refine st_ist rfl ?_
    -- at 27: stop
    rw [e0]
    exact hW
  by_cases hnw : ∀ i, (aP a).length - m ≤ i → i < (aP a).length → cf_kd (aC a) ((aP a).getD i 0) ≠ 5
  · refine ⟨.int (nI ((aP a).length - m)), sP' a ((aP a).take ((aP a).length - m)), ⟨ha.1, fun k hk => ha.2.1 k (List.mem_of_mem_take hk), by show (List.take _ _).length ≤ 20; simp; omega, ha.2.2.2⟩, fun d M h => ⟨sI M 3 1 (nI ((aP a).length - m)), en_105 (Nat.le_of_ble_eq_true rfl) (cpre d M h _ (cloop d M h _ (fun z => by obtain ⟨i, h1, h2, h3⟩ := z; exact absurd h3 (hnw i h1 h2)) (fun _ => ⟨rfl, rfl⟩) m ((aP a).length - m) _ rfl (by omega) (Nat.le_refl _) (fun t h1 h2 => by omega))), ?_, (Cfr.rf M).sI (by decide) _ _⟩, fun d M h => ?_⟩
    · have hr := h.2.2.2.2.1
      refine h.rope (S := pm_oo 3) s_clear (fun k hk => by rcases hk with z | z <;> omega) ⟨by rw [gI_same]; simp, by simp; omega, fun i hi => ?_⟩
      simp at hi
      rw [gI_ne (Or.inl (by decide)), hr.2.2 i (by rw [map_len]; omega), List.map_take, getD_take (by omega)]
    · have hM := h.1
      have hr := h.2.2.2.2.1
      obtain ⟨L, h1, hc, h3, h4⟩ := m_loose (d + 18) hM ha.1 h.2.2.2.1 ha.2.1 hl hr
      have hmL : m ≤ L := by
        rcases Nat.lt_or_ge L m with z | z
        · exact absurd (h4 (by omega)) (hnw _ (by omega) (by omega))
        · exact z
      refine ⟨sI M 132 33 (nI ((aP a).length - m)), en_204 (Nat.le_of_ble_eq_true rfl) ?_, h.rope hM (fun k i _ z1 z2 => gI_nn z1) rfl ⟨by rw [gI_same]; simp, fun i hi => ?_⟩, (Mfr.rf M).sI (by decide) _ _⟩
      · refine st_ild rfl rfl ?_
        refine st_k rfl ?_
        refine st_ald rfl rfl ?_
        refine st_gI rfl (by first | exact tT hM rfl | assumption | exact rw_T hM (by assumption) | exact rw_A hM (by assumption)) ?_
        -- at 6: stop
        refine wp_e hr.1 ?_
        refine st_call (As := [_, _, _]) rfl rfl rfl (Nat.le_of_ble_eq_true rfl) (m_in (d + 18) _ 0 _) ?_
        refine st_b1 rfl (fun _ => ?_) (fun zq => absurd (b01_t g) zq)
        refine st_ild rfl rfl ?_
        refine st_ald rfl rfl ?_
        refine st_cav (As := []) rfl rfl rfl (by first | exact tT hM rfl | assumption | exact rw_T hM (by assumption) | exact rw_A hM (by assumption)) (Nat.le_of_ble_eq_true rfl) (hc) ?_
        refine st_b2 rfl (fun _ => ?_) (fun zq => absurd (nI_le hmL (by omega)) zq)
        refine st_ald rfl rfl ?_
        refine st_dup rfl rfl ?_
        refine st_gI rfl (by first | exact tT hM rfl | assumption | exact rw_T hM (by assumption) | exact rw_A hM (by assumption)) ?_
        -- at 30: stop
        refine wp_e hr.1 ?_
        refine st_ild rfl rfl ?_
        refine st_ib rfl ?_
        refine st_pI rfl (by first | exact tT hM rfl | assumption | exact rw_T hM (by assumption) | exact rw_A hM (by assumption)) ?_
        -- at 35: stop
        rw [e0]
        refine st_ald rfl rfl ?_
        refine st_gI rfl (by first | exact tT hM rfl | assumption | exact rw_T hM (by assumption) | exact rw_A hM (by assumption)) ?_
        -- at 39: op_iret
        exact st_iret rfl ⟨by rw [gI_same], rfl⟩
      · simp at hi
        have e9 : ((aP a).take ((aP a).length - m)).getD i 0 = (aP a).getD i 0 := by
          rw [List.getD_eq_getElem?_getD, List.getD_eq_getElem?_getD, List.getElem?_take, if_pos (by omega)]
        show gI _ _ _ = nI (((aP a).take ((aP a).length - m)).getD i 0)
        rw [gI_ne (Or.inl (by decide)), hr.2 i (by omega), e9]
  · have hex : ∃ i, (aP a).length - m ≤ i ∧ i < (aP a).length ∧ cf_kd (aC a) ((aP a).getD i 0) = 5 := Classical.byContradiction (fun z => hnw (fun i h1 h2 h3 => z ⟨i, h1, h2, h3⟩))
    refine bo_k (x := .int (-4)) ha (fun d M h => en_105 (Nat.le_of_ble_eq_true rfl) (cpre d M h _ (cloop d M h _ (fun _ => ⟨rfl, rfl⟩) (fun z => absurd z hnw) m ((aP a).length - m) _ rfl (by omega) (Nat.le_refl _) (fun t h1 h2 => by omega)))) (fun d M h => ?_)
    have hM := h.1
    have hr := h.2.2.2.2.1
    obtain ⟨L, h1, hc, h3, h4⟩ := m_loose (d + 18) hM ha.1 h.2.2.2.1 ha.2.1 hl hr
    have hmL : L < m := by
      rcases Nat.lt_or_ge L m with z | z
      · exact z
      · obtain ⟨i, w1, w2, w3⟩ := hex
        exact absurd w3 (h3 i (by omega) w2)
    refine en_204 (Nat.le_of_ble_eq_true rfl) ?_
    refine st_ild rfl rfl ?_
    refine st_k rfl ?_
    refine st_ald rfl rfl ?_
    refine st_gI rfl (by first | exact tT hM rfl | assumption | exact rw_T hM (by assumption) | exact rw_A hM (by assumption)) ?_
    -- at 6: stop
    refine wp_e hr.1 ?_
    refine st_call (As := [_, _, _]) rfl rfl rfl (Nat.le_of_ble_eq_true rfl) (m_in (d + 18) _ 0 _) ?_
    refine st_b1 rfl (fun _ => ?_) (fun zq => absurd (b01_t g) zq)
    refine st_ild rfl rfl ?_
    refine st_ald rfl rfl ?_
    refine st_cav (As := []) rfl rfl rfl (by first | exact tT hM rfl | assumption | exact rw_T hM (by assumption) | exact rw_A hM (by assumption)) (Nat.le_of_ble_eq_true rfl) (hc) ?_
    refine st_b2 rfl (fun zq => absurd zq (nI_ge hmL (by omega))) (fun _ => ?_)
    refine st_k rfl ?_
    -- at 24: op_iret
    exact st_iret rfl ⟨rfl, rfl⟩
end PUG

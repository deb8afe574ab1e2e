/-! BOTH ANSWER ALIKE: moths -/
section PUM
variable {a : As} {M : pm_M}
theorem b_moths (ha : aw a) (r i t : Int32) : Both a 125 257 [.int r, .int i, .int t] := by
  have badC : ¬ ((¬ r < 0 ∧ ¬ 6 ≤ r) ∧ (¬ t < 0 ∧ ¬ 6 ≤ t)) → ∀ d M, IC a M → pm_call (d + 20) 125 (.ref 0 :: [.int r, .int i, .int t]) M (some (.int (-1))) M := by
    intro hb d M h
    refine en_125 (Nat.le_of_ble_eq_true rfl) ?_
    have hM := h.1
    refine st_ald rfl rfl ?_
    refine st_ild rfl rfl ?_
    refine st_ild rfl rfl ?_
    refine st_ild rfl rfl ?_
    refine st_k rfl ?_
    refine st_cav (As := [_, _, _, _]) rfl rfl rfl (by first | exact tT hM rfl | assumption | exact rw_T hM (by assumption) | exact rw_A hM (by assumption)) (Nat.le_of_ble_eq_true rfl) (c_knots (d + 16) h _ _ _ _ (c_rowsBad (d + 16) _ _ _ _ _ (fun z => hb ⟨z.1, z.2.2⟩)) ⟨_, rfl⟩) ?_
    refine st_ist rfl ?_
    refine st_ild rfl rfl ?_
    refine st_b1 rfl (fun zq => absurd zq ((by decide))) (fun _ => ?_)
    refine st_ild rfl rfl ?_
    -- at 18: op_iret
    exact st_iret rfl ⟨rfl, rfl⟩
  rcases r_cs r with ⟨h1, h2⟩ | ⟨j, hj, hr, h1, h2⟩
  · refine bo_k (x := .int (-1)) ha (badC (fun z => h1 z.1)) (fun d M h => ?_)
    refine en_257 (Nat.le_of_ble_eq_true rfl) ?_
    refine st_ild rfl rfl ?_
    refine st_call (As := [_]) rfl rfl rfl (Nat.le_of_ble_eq_true rfl) (m_isRow (d + 17) r) ?_
    refine st_b1 rfl (fun _ => ?_) (fun zq => absurd (b01_f h2) zq)
    refine st_k rfl ?_
    -- at 15: op_iret
    exact st_iret rfl ⟨rfl, rfl⟩
  rcases r_cs t with ⟨t1, t2⟩ | ⟨u, hu, ht, t1, t2⟩
  · refine bo_k (x := .int (-1)) ha (badC (fun z => t1 z.2)) (fun d M h => ?_)
    refine en_257 (Nat.le_of_ble_eq_true rfl) ?_
    refine st_ild rfl rfl ?_
    refine st_call (As := [_]) rfl rfl rfl (Nat.le_of_ble_eq_true rfl) (m_isRow (d + 17) r) ?_
    refine st_b1 rfl (fun zq => absurd zq (b01_t h2)) (fun _ => ?_)
    refine st_ild rfl rfl ?_
    refine st_call (As := [_]) rfl rfl rfl (Nat.le_of_ble_eq_true rfl) (m_isRow (d + 17) t) ?_
    refine st_b1 rfl (fun zq => absurd zq ((fun z => z (b01_f t2)))) (fun _ => ?_)
    refine st_k rfl ?_
    -- at 15: op_iret
    exact st_iret rfl ⟨rfl, rfl⟩
  subst hr; subst ht
  have hin : vp_in (nI j) 6 := vp_in_nI hj (by decide)
  have hin2 : vp_in (nI u) 6 := vp_in_nI hu (by decide)
  have e1 : (nI j).toNatClampNeg = j := nI_clamp (by omega)
  have ho := rw_row j hj
  have hou := rw_row u hu
  rcases rope_cs (a := a) j 20 with hx | ⟨l, hx, hlen⟩ | ⟨l, hx, hlen, hno⟩ | ⟨ws, hx, hk, hlen⟩
  · refine bo_f ha (f := 1) (by decide) (fun d M h => ?_) (fun d M h => ?_)
    · refine en_125 (Nat.le_of_ble_eq_true rfl) ?_
      have hM := h.1
      refine st_ald rfl rfl ?_
      refine st_ild rfl rfl ?_
      refine st_ild rfl rfl ?_
      refine st_ild rfl rfl ?_
      refine st_k rfl ?_
      refine st_cav (As := [_, _, _, _]) rfl rfl rfl (by first | exact tT hM rfl | assumption | exact rw_T hM (by assumption) | exact rw_A hM (by assumption)) (Nat.le_of_ble_eq_true rfl) (ckN (d + 16) h hj hu (most := 20) (by decide) hx) ?_
      refine st_ist rfl ?_
      refine st_ild rfl rfl ?_
      refine st_b1 rfl (fun zq => absurd zq ((by decide))) (fun _ => ?_)
      refine st_ild rfl rfl ?_
      -- at 18: op_iret
      exact st_iret rfl ⟨rfl, rfl⟩
    · refine en_257 (Nat.le_of_ble_eq_true rfl) ?_
      have hM := h.1
      refine st_ild rfl rfl ?_
      refine st_call (As := [_]) rfl rfl rfl (Nat.le_of_ble_eq_true rfl) (m_isRow (d + 17) _) ?_
      refine st_b1 rfl (fun zq => absurd zq (b01_t h2)) (fun _ => ?_)
      refine st_ild rfl rfl ?_
      refine st_call (As := [_]) rfl rfl rfl (Nat.le_of_ble_eq_true rfl) (m_isRow (d + 17) _) ?_
      refine st_b1 rfl (fun _ => ?_) (fun zq => absurd (b01_t t2) zq)
      refine st_ald rfl rfl ?_
      refine st_ild rfl rfl ?_
      refine st_k rfl ?_
      refine st_cav (As := [_, _]) rfl rfl rfl (by first | exact tT hM rfl | assumption | exact rw_T hM (by assumption) | exact rw_A hM (by assumption)) (Nat.le_of_ble_eq_true rfl) (mnN (d + 15) h ha hj (most := 20) (by decide) hx) ?_
      refine st_ist rfl ?_
      refine st_ild rfl rfl ?_
      refine st_b1 rfl (fun zq => absurd zq ((by decide))) (fun _ => ?_)
      refine st_ild rfl rfl ?_
      -- at 32: op_iret
      exact st_iret rfl ⟨rfl, rfl⟩
  · refine bo_f ha (f := 5) (by decide) (fun d M h => ?_) (fun d M h => ?_)
    · refine en_125 (Nat.le_of_ble_eq_true rfl) ?_
      have hM := h.1
      refine st_ald rfl rfl ?_
      refine st_ild rfl rfl ?_
      refine st_ild rfl rfl ?_
      refine st_ild rfl rfl ?_
      refine st_k rfl ?_
      refine st_cav (As := [_, _, _, _]) rfl rfl rfl (by first | exact tT hM rfl | assumption | exact rw_T hM (by assumption) | exact rw_A hM (by assumption)) (Nat.le_of_ble_eq_true rfl) (ckL (d + 16) h hj hu (most := 20) (by decide) hx hlen) ?_
      refine st_ist rfl ?_
      refine st_ild rfl rfl ?_
      refine st_b1 rfl (fun zq => absurd zq ((by decide))) (fun _ => ?_)
      refine st_ild rfl rfl ?_
      -- at 18: op_iret
      exact st_iret rfl ⟨rfl, rfl⟩
    · refine en_257 (Nat.le_of_ble_eq_true rfl) ?_
      have hM := h.1
      refine st_ild rfl rfl ?_
      refine st_call (As := [_]) rfl rfl rfl (Nat.le_of_ble_eq_true rfl) (m_isRow (d + 17) _) ?_
      refine st_b1 rfl (fun zq => absurd zq (b01_t h2)) (fun _ => ?_)
      refine st_ild rfl rfl ?_
      refine st_call (As := [_]) rfl rfl rfl (Nat.le_of_ble_eq_true rfl) (m_isRow (d + 17) _) ?_
      refine st_b1 rfl (fun _ => ?_) (fun zq => absurd (b01_t t2) zq)
      refine st_ald rfl rfl ?_
      refine st_ild rfl rfl ?_
      refine st_k rfl ?_
      refine st_cav (As := [_, _]) rfl rfl rfl (by first | exact tT hM rfl | assumption | exact rw_T hM (by assumption) | exact rw_A hM (by assumption)) (Nat.le_of_ble_eq_true rfl) (mnL (d + 15) h ha hj (most := 20) (by decide) hx hlen) ?_
      refine st_ist rfl ?_
      refine st_ild rfl rfl ?_
      refine st_b1 rfl (fun zq => absurd zq ((by decide))) (fun _ => ?_)
      refine st_ild rfl rfl ?_
      -- at 32: op_iret
      exact st_iret rfl ⟨rfl, rfl⟩
  · refine bo_f ha (f := 3) (by decide) (fun d M h => ?_) (fun d M h => ?_)
    · refine en_125 (Nat.le_of_ble_eq_true rfl) ?_
      have hM := h.1
      refine st_ald rfl rfl ?_
      refine st_ild rfl rfl ?_
      refine st_ild rfl rfl ?_
      refine st_ild rfl rfl ?_
      refine st_k rfl ?_
      refine st_cav (As := [_, _, _, _]) rfl rfl rfl (by first | exact tT hM rfl | assumption | exact rw_T hM (by assumption) | exact rw_A hM (by assumption)) (Nat.le_of_ble_eq_true rfl) (ckU (d + 16) h hj hu (most := 20) (by decide) ha hx hlen hno) ?_
      refine st_ist rfl ?_
      refine st_ild rfl rfl ?_
      refine st_b1 rfl (fun zq => absurd zq ((by decide))) (fun _ => ?_)
      refine st_ild rfl rfl ?_
      -- at 18: op_iret
      exact st_iret rfl ⟨rfl, rfl⟩
    · refine en_257 (Nat.le_of_ble_eq_true rfl) ?_
      have hM := h.1
      refine st_ild rfl rfl ?_
      refine st_call (As := [_]) rfl rfl rfl (Nat.le_of_ble_eq_true rfl) (m_isRow (d + 17) _) ?_
      refine st_b1 rfl (fun zq => absurd zq (b01_t h2)) (fun _ => ?_)
      refine st_ild rfl rfl ?_
      refine st_call (As := [_]) rfl rfl rfl (Nat.le_of_ble_eq_true rfl) (m_isRow (d + 17) _) ?_
      refine st_b1 rfl (fun _ => ?_) (fun zq => absurd (b01_t t2) zq)
      refine st_ald rfl rfl ?_
      refine st_ild rfl rfl ?_
      refine st_k rfl ?_
      refine st_cav (As := [_, _]) rfl rfl rfl (by first | exact tT hM rfl | assumption | exact rw_T hM (by assumption) | exact rw_A hM (by assumption)) (Nat.le_of_ble_eq_true rfl) (mnU (d + 15) h ha hj (most := 20) (by decide) hx hlen hno) ?_
      refine st_ist rfl ?_
      refine st_ild rfl rfl ?_
      refine st_b1 rfl (fun zq => absurd zq ((by decide))) (fun _ => ?_)
      refine st_ild rfl rfl ?_
      -- at 32: op_iret
      exact st_iret rfl ⟨rfl, rfl⟩
  by_cases g : ¬ i < 0 ∧ ¬ nI ws.length < i
  case neg =>
    refine ⟨.int (-3), fd a 2, ha.fd 2, fun d M h => ⟨_, ?_, h.fd (f := 2) (by decide), cfr_fd _ _ _⟩, fun d M h => ?_⟩
    · refine en_125 (Nat.le_of_ble_eq_true rfl) ?_
      have hM := h.1
      have hz := h.2.1 j hj
      rw [hx] at hz
      have fin : pm_WP (pm_call (d + 19)) tb_125 (fun r0 M1 => r0 = some (.int (-3)) ∧ M1 = sI (sI M 0 17 (nI 2)) 105 2 (gI M 105 2 + 1)) 36 [some (.ref 0), some (.int (nI j)), some (.int i), some (.int (nI u)), some (.int 0)] [] M := by
        refine st_ald rfl rfl ?_
        refine st_k rfl ?_
        refine st_cav (As := [_]) rfl rfl rfl (by first | exact tT hM rfl | assumption | exact rw_T hM (by assumption) | exact rw_A hM (by assumption)) (Nat.le_of_ble_eq_true rfl) (c_refuse (d + 18) hM (f := 2) (by decide)) ?_
        -- at 41: op_iret
        exact st_iret rfl ⟨rfl, rfl⟩
      refine st_ald rfl rfl ?_
      refine st_ild rfl rfl ?_
      refine st_ild rfl rfl ?_
      refine st_ild rfl rfl ?_
      refine st_k rfl ?_
      refine st_cav (As := [_, _, _, _]) rfl rfl rfl (by first | exact tT hM rfl | assumption | exact rw_T hM (by assumption) | exact rw_A hM (by assumption)) (Nat.le_of_ble_eq_true rfl) (ckO (d + 16) h hj hu (most := 20) (by decide) ha hx hk hlen) ?_
      refine st_ist rfl ?_
      refine st_ild rfl rfl ?_
      refine st_b1 rfl (fun _ => ?_) (fun zq => absurd (rfl) zq)
      refine st_ild rfl rfl ?_
      refine st_b1 rfl (fun g1 => ?_) (fun g1 => ?_)
      -- at 20: split 36 23
      · exact fin
      · refine st_ild rfl rfl ?_
        refine st_ald rfl rfl ?_
        refine st_gR' rfl (by first | exact tT hM rfl | assumption | exact rw_T hM (by assumption) | exact rw_A hM (by assumption)) (by first | exact rR hM rfl rfl | assumption | exact rw_R hM (by assumption)) ?_
        refine st_ild rfl rfl ?_
        refine st_aald' rfl (tT hM rfl) (hin) (rRow' hM hj) ?_
        refine st_gI rfl (rw_T hM ho) ?_
        -- at 33: stop
        refine wp_e (y := nI ws.length) (by rw [(crow_some hz).1, map_len]) ?_
        refine st_b2 rfl (fun zq => absurd zq ((fun z => g ⟨g1, Int32.not_lt.mpr z⟩))) (fun _ => ?_)
        -- at 36: stop
        exact fin
    · have hM := h.1
      obtain ⟨M1, hc, h3, h4⟩ := mnO (d + 15) h ha hj (most := 20) (by decide) hx hk hlen
      have hI1 := h.sc h4
      have hM1 := hI1.1
      have hz := hI1.2.1 j hj
      rw [hx] at hz
      refine ⟨_, en_257 (Nat.le_of_ble_eq_true rfl) ?_, hI1.fd (f := 2) (by decide), h4.fr.tr (mfr_fd _ _ _)⟩
      refine st_ild rfl rfl ?_
      refine st_call (As := [_]) rfl rfl rfl (Nat.le_of_ble_eq_true rfl) (m_isRow (d + 17) _) ?_
      refine st_b1 rfl (fun zq => absurd zq (b01_t h2)) (fun _ => ?_)
      refine st_ild rfl rfl ?_
      refine st_call (As := [_]) rfl rfl rfl (Nat.le_of_ble_eq_true rfl) (m_isRow (d + 17) _) ?_
      refine st_b1 rfl (fun _ => ?_) (fun zq => absurd (b01_t t2) zq)
      refine st_ald rfl rfl ?_
      refine st_ild rfl rfl ?_
      refine st_k rfl ?_
      refine st_cav (As := [_, _]) rfl rfl rfl (by first | exact tT hM rfl | assumption | exact rw_T hM (by assumption) | exact rw_A hM (by assumption)) (Nat.le_of_ble_eq_true rfl) (hc) ?_
      refine st_ist rfl ?_
      refine st_ild rfl rfl ?_
      refine st_b1 rfl (fun _ => ?_) (fun zq => absurd ((by decide)) zq)
      refine st_ild rfl rfl ?_
      refine st_k rfl ?_
      refine st_ald rfl rfl ?_
      refine st_gR' rfl (tT hM1 rfl) (rR hM1 rfl rfl) ?_
      refine st_ild rfl rfl ?_
      refine st_iald rfl (tT hM1 rfl) (hin) ?_
      -- at 41: stop
      refine wp_e (y := nI ws.length) (by rw [e1, hz.1, map_len]) ?_
      refine st_call (As := [_, _, _]) rfl rfl rfl (Nat.le_of_ble_eq_true rfl) (m_in (d + 18) i 0 _) ?_
      refine st_b1 rfl (fun zq => absurd zq ((fun z => z (b01_f g)))) (fun _ => ?_)
      refine st_ald rfl rfl ?_
      refine st_k rfl ?_
      refine st_cav (As := [_]) rfl rfl rfl (by first | exact tT hM1 rfl | assumption | exact rw_T hM1 (by assumption) | exact rw_A hM1 (by assumption)) (Nat.le_of_ble_eq_true rfl) (m_meets (d + 18) hM1 (f := 2) (by decide)) ?_
      -- at 52: op_iret
      exact st_iret rfl ⟨rfl, rfl⟩
  obtain ⟨q, hq, hv⟩ : ∃ m : Nat, m ≤ ws.length ∧ i = nI m := by
    obtain ⟨m, hm, hv⟩ := nI_of g.1
    rw [hv] at g
    exact ⟨m, Nat.not_lt.mp (fun z => g.2 (nI_lt z (by omega))), hv⟩
  have gle : i ≤ nI ws.length := Int32.not_lt.mp g.2
  subst hv
  refine ⟨.int (nI (ms (aC a) 6 (ws.drop q ++ ws.take q))), sR' a u (some ((ws.drop q ++ ws.take q).map nI)), ha.row _ _, fun d M h => ?_, fun d M h => ?_⟩
  · have hM := h.1
    have hz := h.2.1 j hj
    rw [hx] at hz
    have hzz := crow_some hz
    obtain ⟨M1, hc1, h3, h4⟩ := c_becomeTurned (d + 17) hM ro99 ho (q := q) (by omega) (by omega) (by omega) (by rw [map_len]; omega) hzz
    rw [map_rot] at h3
    have hM1 := h4.ok hM
    have s2 : pm_S (pm_oo (106 + 2 * u)) M1 (sI (pm_cp M1 (99 + 1) (106 + 2 * u + 1) 0 0 ((ws.drop q ++ ws.take q).map nI).length) (106 + 2 * u) 1 (nI ((ws.drop q ++ ws.take q).map nI).length)) := s_become
    have s3 := (h4.mo (S' := fun k => pm_oo 99 k ∨ pm_oo (106 + 2 * u) k) (fun k hk => Or.inl hk)).tr (s2.mo (fun k hk => Or.inr hk))
    have hI := h.row (x := some ((ws.drop q ++ ws.take q).map nI)) hu s3 (fun k hk => by rcases hk with (z | z) | (z | z) <;> omega) (ro_become h3)
    have hM2 := hI.1
    have h99 := h3.kept s2 (by show ¬ (_ = _ ∨ _ = _); omega) (by show ¬ (_ = _ ∨ _ = _); omega)
    refine ⟨_, en_125 (Nat.le_of_ble_eq_true rfl) ?_, hI, Cfr.S s3 (fun k hk => by rcases hk with (z | z) | (z | z) <;> omega)⟩
    refine st_ald rfl rfl ?_
    refine st_ild rfl rfl ?_
    refine st_ild rfl rfl ?_
    refine st_ild rfl rfl ?_
    refine st_k rfl ?_
    refine st_cav (As := [_, _, _, _]) rfl rfl rfl (by first | exact tT hM rfl | assumption | exact rw_T hM (by assumption) | exact rw_A hM (by assumption)) (Nat.le_of_ble_eq_true rfl) (ckO (d + 16) h hj hu (most := 20) (by decide) ha hx hk hlen) ?_
    refine st_ist rfl ?_
    refine st_ild rfl rfl ?_
    refine st_b1 rfl (fun _ => ?_) (fun zq => absurd (rfl) zq)
    refine st_ild rfl rfl ?_
    refine st_b1 rfl (fun zq => absurd zq (g.1)) (fun _ => ?_)
    refine st_ild rfl rfl ?_
    refine st_ald rfl rfl ?_
    refine st_gR' rfl (by first | exact tT hM rfl | assumption | exact rw_T hM (by assumption) | exact rw_A hM (by assumption)) (by first | exact rR hM rfl rfl | assumption | exact rw_R hM (by assumption)) ?_
    refine st_ild rfl rfl ?_
    refine st_aald' rfl (tT hM rfl) (hin) (rRow' hM hj) ?_
    refine st_gI rfl (rw_T hM ho) ?_
    -- at 33: stop
    refine wp_e (y := nI ws.length) (by rw [hzz.1, map_len]) ?_
    refine st_b2 rfl (fun _ => ?_) (fun zq => absurd (gle) zq)
    refine st_ald rfl rfl ?_
    refine st_gR' rfl (by first | exact tT hM rfl | assumption | exact rw_T hM (by assumption) | exact rw_A hM (by assumption)) (by first | exact rR hM rfl rfl | assumption | exact rw_R hM (by assumption)) ?_
    refine st_ald rfl rfl ?_
    refine st_gR' rfl (by first | exact tT hM rfl | assumption | exact rw_T hM (by assumption) | exact rw_A hM (by assumption)) (by first | exact rR hM rfl rfl | assumption | exact rw_R hM (by assumption)) ?_
    refine st_ild rfl rfl ?_
    refine st_aald' rfl (tT hM rfl) (hin) (rRow' hM hj) ?_
    refine st_ild rfl rfl ?_
    refine st_cav (As := [_, _]) rfl rfl rfl (rw_T hM ro99) (Nat.le_of_ble_eq_true rfl) (hc1) ?_
    -- at 56: stop
    refine st_ald rfl rfl ?_
    refine st_gR' rfl (by first | exact tT hM1 rfl | assumption | exact rw_T hM1 (by assumption) | exact rw_A hM1 (by assumption)) (by first | exact rR hM1 rfl rfl | assumption | exact rw_R hM1 (by assumption)) ?_
    refine st_ild rfl rfl ?_
    refine st_aald' rfl (tT hM1 rfl) (hin2) (rRow' hM1 hu) ?_
    refine st_ald rfl rfl ?_
    refine st_gR' rfl (by first | exact tT hM1 rfl | assumption | exact rw_T hM1 (by assumption) | exact rw_A hM1 (by assumption)) (by first | exact rR hM1 rfl rfl | assumption | exact rw_R hM1 (by assumption)) ?_
    refine st_cav (As := [_]) rfl rfl rfl (rw_T hM1 hou) (Nat.le_of_ble_eq_true rfl) (c_become (d + 18) hM1 hou ro99 (by omega) h3) ?_
    -- at 69: stop
    refine st_ald rfl rfl ?_
    refine st_gR' rfl (by first | exact tT hM2 rfl | assumption | exact rw_T hM2 (by assumption) | exact rw_A hM2 (by assumption)) (by first | exact rR hM2 rfl rfl | assumption | exact rw_R hM2 (by assumption)) ?_
    refine st_ald rfl rfl ?_
    refine st_gR' rfl (by first | exact tT hM2 rfl | assumption | exact rw_T hM2 (by assumption) | exact rw_A hM2 (by assumption)) (by first | exact rR hM2 rfl rfl | assumption | exact rw_R hM2 (by assumption)) ?_
    refine st_cav (As := [_]) rfl rfl rfl (by first | exact tT hM2 rfl | assumption | exact rw_T hM2 (by assumption) | exact rw_A hM2 (by assumption)) (Nat.le_of_ble_eq_true rfl) (c_measure (d + 17) hM2 ha.1 hI.2.2.2.1 ro99 (rot_kn hk q) h99) ?_
    -- at 80: op_iret
    exact st_iret rfl ⟨rfl, rfl⟩
  · have hM := h.1
    obtain ⟨M1, hc, h3, h4⟩ := mnO (d + 15) h ha hj (most := 20) (by decide) hx hk hlen
    have hI1 := h.sc h4
    have hM1 := hI1.1
    have hz := hI1.2.1 j hj
    rw [hx] at hz
    obtain ⟨M2, hc2, h5, h6⟩ := m_lookCut (d + 17) hM1 hj (i := q) (by omega) hq hz
    have hI2 := hI1.sc h6
    have hM2 := hI2.1
    have hrl := rot_len hq
    obtain ⟨M3, hc3, h7, h8⟩ := m_layRow (d + 18) hM2 hu (k := 147) (n := 24) (l := (ws.drop q ++ ws.take q).map nI) (tT hM2 rfl) (by decide) (by rw [map_len, hrl]; omega) (by rw [map_len, hrl]; omega) (fun i hi => by rw [map_len] at hi; rw [h5.2.2 i hi, map_getD hi])
    rw [map_len] at hc3
    have hI3 := hI2.lay h8 h7
    have hM3 := hI3.1
    have hL3 : Lk M3 (ws.drop q ++ ws.take q) := ⟨by rw [h8.2.2.1 132 29 (by omega) (by omega)]; exact h5.1, h5.2.1, fun i hi => by rw [h8.2.2.1 147 i (by omega) (by omega)]; exact h5.2.2 i hi⟩
    refine ⟨M3, en_257 (Nat.le_of_ble_eq_true rfl) ?_, hI3, (h4.tr h6).fr.tr h8.fr⟩
    refine st_ild rfl rfl ?_
    refine st_call (As := [_]) rfl rfl rfl (Nat.le_of_ble_eq_true rfl) (m_isRow (d + 17) _) ?_
    refine st_b1 rfl (fun zq => absurd zq (b01_t h2)) (fun _ => ?_)
    refine st_ild rfl rfl ?_
    refine st_call (As := [_]) rfl rfl rfl (Nat.le_of_ble_eq_true rfl) (m_isRow (d + 17) _) ?_
    refine st_b1 rfl (fun _ => ?_) (fun zq => absurd (b01_t t2) zq)
    refine st_ald rfl rfl ?_
    refine st_ild rfl rfl ?_
    refine st_k rfl ?_
    refine st_cav (As := [_, _]) rfl rfl rfl (by first | exact tT hM rfl | assumption | exact rw_T hM (by assumption) | exact rw_A hM (by assumption)) (Nat.le_of_ble_eq_true rfl) (hc) ?_
    refine st_ist rfl ?_
    refine st_ild rfl rfl ?_
    refine st_b1 rfl (fun _ => ?_) (fun zq => absurd ((by decide)) zq)
    refine st_ild rfl rfl ?_
    refine st_k rfl ?_
    refine st_ald rfl rfl ?_
    refine st_gR' rfl (tT hM1 rfl) (rR hM1 rfl rfl) ?_
    refine st_ild rfl rfl ?_
    refine st_iald rfl (tT hM1 rfl) (hin) ?_
    -- at 41: stop
    refine wp_e (y := nI ws.length) (by rw [e1, hz.1, map_len]) ?_
    refine st_call (As := [_, _, _]) rfl rfl rfl (Nat.le_of_ble_eq_true rfl) (m_in (d + 18) _ 0 _) ?_
    refine st_b1 rfl (fun _ => ?_) (fun zq => absurd (b01_t g) zq)
    refine st_ald rfl rfl ?_
    refine st_ild rfl rfl ?_
    refine st_ild rfl rfl ?_
    refine st_cav (As := [_, _]) rfl rfl rfl (by first | exact tT hM1 rfl | assumption | exact rw_T hM1 (by assumption) | exact rw_A hM1 (by assumption)) (Nat.le_of_ble_eq_true rfl) (hc2) ?_
    -- at 59: stop
    refine st_ald rfl rfl ?_
    refine st_ild rfl rfl ?_
    refine st_ald rfl rfl ?_
    refine st_gR' rfl (by first | exact tT hM2 rfl | assumption | exact rw_T hM2 (by assumption) | exact rw_A hM2 (by assumption)) (by first | exact rR hM2 rfl rfl | assumption | exact rw_R hM2 (by assumption)) ?_
    refine st_ald rfl rfl ?_
    refine st_gI rfl (by first | exact tT hM2 rfl | assumption | exact rw_T hM2 (by assumption) | exact rw_A hM2 (by assumption)) ?_
    -- at 69: stop
    refine wp_e h5.1 ?_
    refine st_cav (As := [_, _, _]) rfl rfl rfl (by first | exact tT hM2 rfl | assumption | exact rw_T hM2 (by assumption) | exact rw_A hM2 (by assumption)) (Nat.le_of_ble_eq_true rfl) (hc3) ?_
    -- at 72: stop
    refine st_ald rfl rfl ?_
    refine st_cav (As := []) rfl rfl rfl (by first | exact tT hM3 rfl | assumption | exact rw_T hM3 (by assumption) | exact rw_A hM3 (by assumption)) (Nat.le_of_ble_eq_true rfl) (m_lookTakes (d + 16) hM3 ha.1 hI3.2.2.2.1 (rot_kn hk q) hL3) ?_
    -- at 76: op_iret
    exact st_iret rfl ⟨rfl, rfl⟩
end PUM
/-! without one KNOT; unlike readings -/
def ewn (ws : List Nat) (q : Nat) : Nat → List Nat
  | 0 => []
  | i + 1 => if i = q then ewn ws q i else ewn ws q i ++ [ws.getD i 0]
theorem ewn_s (ws : List Nat) (q i : Nat) : ewn ws q (i + 1) = if i = q then ewn ws q i else ewn ws q i ++ [ws.getD i 0] := rfl
theorem ewn_len (ws : List Nat) (q : Nat) : ∀ i, (ewn ws q i).length ≤ i
  | 0 => Nat.le_refl _
  | i + 1 => by
    have := ewn_len ws q i
    unfold ewn
    split
    · omega
    · simp; omega
theorem ew_ewn (ws : List Nat) (q : Nat) : ∀ i, i ≤ ws.length → ew (ws.map nI) q i = (ewn ws q i).map nI
  | 0, _ => rfl
  | i + 1, h => by
    rw [ew_s, ewn_s, ew_ewn ws q i (by omega)]
    split
    · rfl
    · rw [map_getD (by omega)]; simp
theorem ewn_kn {c : Cf} {ws : List Nat} (h : kn c ws) (q : Nat) : ∀ i, i ≤ ws.length → kn c (ewn ws q i)
  | 0, _ => fun k hk => absurd hk List.not_mem_nil
  | i + 1, hi => by
    rw [ewn_s]
    split
    · exact ewn_kn h q i (by omega)
    · exact fun k hk => (List.mem_append.mp hk).elim (ewn_kn h q i (by omega) k) (fun z => by rw [List.mem_singleton.mp z]; exact kn_getD h (by omega))
theorem ewn_all (ws : List Nat) : ∀ i, i ≤ ws.length → ewn ws ws.length i = ws.take i
  | 0, _ => by simp [ewn]
  | i + 1, h => by
    rw [ewn_s, if_neg (by omega), ewn_all ws i (by omega), takeN_s (by omega)]
/-- what is READ without the KNOT q (all: its length) -/
def rw' (c : Cf) (ws : List Nat) (q : Nat) : List Nat := rd c (ewn ws q ws.length)
theorem rw_all (c : Cf) (ws : List Nat) : rw' c ws ws.length = rd c ws := by unfold rw'; rw [ewn_all ws _ (Nat.le_refl _), List.take_length]
theorem rw_len (c : Cf) (ws : List Nat) (q : Nat) : (rw' c ws q).length ≤ ws.length := Nat.le_trans (rd_len _ _) (ewn_len _ _ _)
theorem rw_9 {c : Cf} (hw : cf_wf c) {ws : List Nat} (hk : kn c ws) (q : Nat) : ∀ s ∈ rw' c ws q, s ≤ 9 := rd_kn hw _ (ewn_kn hk q _ (Nat.le_refl _))
theorem map_inj9 {u v : List Nat} (hu : ∀ k ∈ u, k ≤ 9) (hv : ∀ k ∈ v, k ≤ 9) : u.map nI = v.map nI ↔ u = v := by
  refine ⟨fun h => ?_, fun h => by rw [h]⟩
  induction u generalizing v with
  | nil => cases v with
    | nil => rfl
    | cons b t => simp at h
  | cons a s ih => cases v with
    | nil => simp at h
    | cons b t =>
      simp only [List.map_cons, List.cons.injEq] at h
      have e1 := hu a List.mem_cons_self
      have e2 := hv b List.mem_cons_self
      rw [(nI_eq (a := a) (b := b) (by omega) (by omega)).mp h.1, ih (fun k hk => hu k (List.mem_cons_of_mem _ hk)) (fun k hk => hv k (List.mem_cons_of_mem _ hk)) h.2]
/-- the unlike ones of f 0, f 1 .. -/
def ul (f : Nat → List Nat) : Nat → List (List Nat)
  | 0 => []
  | i + 1 => if f i ∈ ul f i then ul f i else ul f i ++ [f i]
theorem ul_s (f : Nat → List Nat) (i : Nat) : ul f (i + 1) = if f i ∈ ul f i then ul f i else ul f i ++ [f i] := rfl
theorem ul_len (f : Nat → List Nat) : ∀ i, (ul f i).length ≤ i
  | 0 => Nat.le_refl _
  | i + 1 => by
    have := ul_len f i
    rw [ul_s]
    split
    · omega
    · simp; omega
theorem ul_mem (f : Nat → List Nat) (x : List Nat) : ∀ i, x ∈ ul f i ↔ ∃ j, j < i ∧ f j = x
  | 0 => by simp [ul]
  | i + 1 => by
    have ih := ul_mem f x i
    rw [ul_s]
    split
    case isTrue h =>
      rw [ih]
      refine ⟨fun ⟨j, h1, h2⟩ => ⟨j, by omega, h2⟩, fun ⟨j, h1, h2⟩ => ?_⟩
      rcases Nat.lt_or_ge j i with z | z
      · exact ⟨j, z, h2⟩
      · rw [show j = i by omega] at h2
        rw [h2] at h
        exact ih.mp h
    case isFalse h =>
      rw [List.mem_append, ih, List.mem_singleton]
      refine ⟨fun z => z.elim (fun ⟨j, h1, h2⟩ => ⟨j, by omega, h2⟩) (fun z => ⟨i, by omega, z.symm⟩), fun ⟨j, h1, h2⟩ => ?_⟩
      rcases Nat.lt_or_ge j i with z | z
      · exact Or.inl ⟨j, z, h2⟩
      · rw [show j = i by omega] at h2
        exact Or.inr h2.symm
/-! the class Readings -/
abbrev sRd : Nat → Prop := fun k => 55 ≤ k ∧ k ≤ 98
def Rd (M : pm_M) (L : List (List Nat)) : Prop := gI M 55 1 = nI L.length ∧ L.length ≤ 21 ∧ ∀ t, t < L.length → pm_Ro M (57 + 2 * t) ((L.getD t []).map nI) ∧ ∀ s ∈ L.getD t [], s ≤ 9
section RDG
variable {a : As} {M : pm_M} {c : Cf}
theorem Rd.kept {M M' : pm_M} {L : List (List Nat)} (h : Rd M L) {S : Nat → Prop} (hs : pm_S S M M') (hn : ∀ k, sRd k → ¬ S k) : Rd M' L := by
  have hl := h.2.1
  exact ⟨by rw [hs.i (hn 55 (by decide))]; exact h.1, hl, fun t ht => ⟨(h.2.2 t ht).1.kept hs (hn _ (by show _ ∧ _; omega)) (hn _ (by show _ ∧ _; omega)), (h.2.2 t ht).2⟩⟩
theorem c_has (d : Nat) (hM : pm_ok M) {L : List (List Nat)} (h : Rd M L) {o : Nat} (ho : pm_rw o = true) {x : List Nat} (hx : pm_Ro M o (x.map nI)) (hx9 : ∀ s ∈ x, s ≤ 9) : pm_call (d + 2) 42 [.ref 55, .ref o] M (some (.int (if x ∈ L then 1 else 0))) M := by
  refine en_42 (Nat.le_of_ble_eq_true rfl) ?_
  have hl := h.2.1
  have loop : ∀ m i y, y = nI i → i + m = L.length → (∀ t, t < i → L.getD t [] ≠ x) → pm_WP (pm_call (d + 1)) tb_42 (fun r0 M1 => r0 = some (.int (if x ∈ L then 1 else 0)) ∧ M1 = M) 2 [some (.ref 55), some (.ref o), some (.int y)] [] M := by
    intro m
    induction m with
    | zero =>
      intro i y hy hi hn
      subst hy
      refine st_ild rfl rfl ?_
      refine st_ald rfl rfl ?_
      refine st_gI rfl (by first | exact tT hM rfl | assumption | exact rw_T hM (by assumption) | exact rw_A hM (by assumption)) ?_
      -- at 7: stop
      refine wp_e h.1 ?_
      refine st_b2 rfl (fun _ => ?_) (fun zq => absurd (nI_le (by omega) (by omega)) zq)
      refine st_k rfl ?_
      -- at 32: op_zret
      refine st_zret rfl (by decide) ⟨?_, rfl⟩
      rw [if_neg]
      intro z
      obtain ⟨t, ht, hz⟩ := List.mem_iff_getElem.mp z
      refine hn t (by omega) ?_
      rw [List.getD_eq_getElem?_getD, List.getElem?_eq_getElem ht]
      exact hz
    | succ m ih =>
      intro i y hy hi hn
      subst hy
      have hil : i < L.length := by omega
      obtain ⟨hr, h9⟩ := h.2.2 i hil
      have hi21 : i < 21 := by omega
      have hor := rw_rdg i hi21
      have hin : vp_in (nI i) 21 := vp_in_nI (by omega) (by decide)
      refine st_ild rfl rfl ?_
      refine st_ald rfl rfl ?_
      refine st_gI rfl (by first | exact tT hM rfl | assumption | exact rw_T hM (by assumption) | exact rw_A hM (by assumption)) ?_
      -- at 7: stop
      refine wp_e h.1 ?_
      refine st_b2 rfl (fun zq => absurd zq (nI_ge (by omega) (by omega))) (fun _ => ?_)
      refine st_ald rfl rfl ?_
      refine st_gR' rfl (by first | exact tT hM rfl | assumption | exact rw_T hM (by assumption) | exact rw_A hM (by assumption)) (by first | exact rR hM rfl rfl | assumption | exact rw_R hM (by assumption)) ?_
      refine st_ild rfl rfl ?_
      refine st_aald' rfl (by first | exact tT hM rfl | assumption | exact rw_T hM (by assumption) | exact rw_A hM (by assumption)) (by first | decide | assumption | exact vp_in_nI (by omega) (by decide)) (by first | assumption | exact rRow' hM (by assumption) | exact rTxt' hM (by assumption) | exact rKep' hM (by assumption) | exact rRdg' hM (by assumption)) ?_
      refine st_ald rfl rfl ?_
      refine st_cav (As := [_]) rfl rfl rfl (rw_T hM hor) (Nat.le_of_ble_eq_true rfl) (c_isLike d hM hor ho hr hx) ?_
      refine st_b1 rfl (fun g => ?_) (fun g => ?_)
      -- at 20: split 25 23
      · have g : ¬ L.getD i [] = x := fun z => b01_t (by rw [z]) g
        refine st_inc rfl rfl ?_
        refine st_go rfl ?_
        -- at 2: stop
        refine ih (i + 1) _ (nI_1 i) (by omega) (fun t ht => ?_)
        by_cases z : t = i
        · subst z; exact g
        · exact hn t (by omega)
      · have g := (map_inj9 h9 hx9).mp (Decidable.not_not.mp (fun z => g (b01_f z)))
        refine st_k rfl ?_
        -- at 24: op_zret
        refine st_zret rfl (by decide) ⟨?_, rfl⟩
        rw [if_pos]
        rw [← g, List.getD_eq_getElem?_getD, List.getElem?_eq_getElem hil]
        exact List.getElem_mem hil
  refine st_k rfl ?_
  refine st_ist rfl ?_
  -- at 2: stop
  exact loop L.length 0 0 rfl (by omega) (fun t ht => by omega)
theorem c_addUnlike (d : Nat) (hM : pm_ok M) {L : List (List Nat)} (h : Rd M L) (hl : L.length < 21) {o : Nat} (ho : pm_rw o = true) (ho2 : 98 < o) {x : List Nat} (hx : pm_Ro M o (x.map nI)) (hx9 : ∀ s ∈ x, s ≤ 9) : ∃ M', pm_call (d + 3) 43 [.ref 55, .ref o] M none M' ∧ Rd M' (if x ∈ L then L else L ++ [x]) ∧ pm_S sRd M M' := by
  have pre : ∀ Q : Option Value → pm_M → Prop, pm_WP (pm_call (d + 2)) tb_43 Q 17 [some (.ref 55), some (.ref o)] [.int (if x ∈ L then 1 else 0)] M → pm_WP (pm_call (d + 2)) tb_43 Q 0 (pm_init 2 [.ref 55, .ref o]) [] M := by
    intro Q hW
    refine st_ald rfl rfl ?_
    refine st_gI rfl (by first | exact tT hM rfl | assumption | exact rw_T hM (by assumption) | exact rw_A hM (by assumption)) ?_
    -- at 4: stop
    refine wp_e h.1 ?_
    refine st_ald rfl rfl ?_
    refine st_gR' rfl (by first | exact tT hM rfl | assumption | exact rw_T hM (by assumption) | exact rw_A hM (by assumption)) (by first | exact rR hM rfl rfl | assumption | exact rw_R hM (by assumption)) ?_
    refine st_alen rfl (by first | exact tT hM rfl | assumption | exact rw_T hM (by assumption) | exact rw_A hM (by assumption)) (by decide) (by decide) ?_
    refine st_b2 rfl (fun zq => absurd zq (nI_ge (a := L.length) (b := 21) hl (by decide))) (fun _ => ?_)
    refine st_ald rfl rfl ?_
    refine st_ald rfl rfl ?_
    refine st_cav (As := [_]) rfl rfl rfl (by first | exact tT hM rfl | assumption | exact rw_T hM (by assumption) | exact rw_A hM (by assumption)) (Nat.le_of_ble_eq_true rfl) (c_has d hM h ho hx hx9) ?_
    -- at 17: stop
    exact hW
  by_cases g : x ∈ L
  · refine ⟨M, en_43 (Nat.le_of_ble_eq_true rfl) (pre _ ?_), by rw [if_pos g]; exact h, pm_S.rf⟩
    refine st_b1 rfl (fun _ => ?_) (fun zq => absurd (b01_t g) zq)
    -- at 43: op_vret
    exact st_vret rfl ⟨rfl, rfl⟩
  · have hor := rw_rdg L.length hl
    have hin : vp_in (nI L.length) 21 := vp_in_nI hl (by decide)
    have s1 : pm_S (pm_oo (57 + 2 * L.length)) M (sI (pm_cp M (o + 1) (57 + 2 * L.length + 1) 0 0 (x.map nI).length) (57 + 2 * L.length) 1 (nI (x.map nI).length)) := s_become
    have hM1 := s1.ok hM
    have s2 := (s1.mo (S' := sRd) (fun k hk => by rcases hk with z | z <;> (show _ ∧ _; omega))).sI (k := 55) (by decide) 1 (nI (L.length + 1))
    refine ⟨sI (sI (pm_cp M (o + 1) (57 + 2 * L.length + 1) 0 0 (x.map nI).length) (57 + 2 * L.length) 1 (nI (x.map nI).length)) 55 1 (nI (L.length + 1)), en_43 (Nat.le_of_ble_eq_true rfl) (pre _ ?_), ?_, s2⟩
    · have e : gI (sI (pm_cp M (o + 1) (57 + 2 * L.length + 1) 0 0 (x.map nI).length) (57 + 2 * L.length) 1 (nI (x.map nI).length)) 55 1 = nI L.length := by rw [s1.i (by show ¬ (_ = _ ∨ _ = _); omega)]; exact h.1
      refine st_b1 rfl (fun zq => absurd zq ((fun z => z (b01_f g)))) (fun _ => ?_)
      refine st_ald rfl rfl ?_
      refine st_gR' rfl (by first | exact tT hM rfl | assumption | exact rw_T hM (by assumption) | exact rw_A hM (by assumption)) (by first | exact rR hM rfl rfl | assumption | exact rw_R hM (by assumption)) ?_
      refine st_ald rfl rfl ?_
      refine st_gI rfl (by first | exact tT hM rfl | assumption | exact rw_T hM (by assumption) | exact rw_A hM (by assumption)) ?_
      -- at 28: stop
      refine wp_e h.1 ?_
      refine st_aald' rfl (tT hM rfl) (hin) (rRdg' hM hl) ?_
      refine st_ald rfl rfl ?_
      refine st_cav (As := [_]) rfl rfl rfl (rw_T hM hor) (Nat.le_of_ble_eq_true rfl) (c_become (d + 1) hM hor ho (by omega) hx) ?_
      -- at 33: stop
      refine st_ald rfl rfl ?_
      refine st_dup rfl rfl ?_
      refine st_gI rfl (by first | exact tT hM1 rfl | assumption | exact rw_T hM1 (by assumption) | exact rw_A hM1 (by assumption)) ?_
      -- at 38: stop
      refine wp_e e ?_
      refine st_k rfl ?_
      refine st_ib rfl ?_
      -- at 40: stop
      rw [nI_1]
      refine st_pI rfl (by first | exact tT hM1 rfl | assumption | exact rw_T hM1 (by assumption) | exact rw_A hM1 (by assumption)) ?_
      -- at 43: op_vret
      exact st_vret rfl ⟨rfl, rfl⟩
    · rw [if_neg g]
      refine ⟨by rw [gI_same]; simp, by simp; omega, fun t ht => ?_⟩
      have s3 : pm_S (fun k => k = 55) (sI (pm_cp M (o + 1) (57 + 2 * L.length + 1) 0 0 (x.map nI).length) (57 + 2 * L.length) 1 (nI (x.map nI).length)) (sI (sI (pm_cp M (o + 1) (57 + 2 * L.length + 1) 0 0 (x.map nI).length) (57 + 2 * L.length) 1 (nI (x.map nI).length)) 55 1 (nI (L.length + 1))) := pm_S.rf.sI (S := fun k => k = 55) (k := 55) rfl _ _
      simp at ht
      by_cases z : t = L.length
      · subst z
        rw [show (L ++ [x]).getD L.length [] = x by simp]
        exact ⟨(ro_become hx).kept s3 (by omega) (by omega), hx9⟩
      · rw [show (L ++ [x]).getD t [] = L.getD t [] by simp [List.getD_eq_getElem?_getD, List.getElem?_append_left (show t < L.length by omega)]]
        exact ⟨((h.2.2 t (by omega)).1.kept s1 (by show ¬ (_ = _ ∨ _ = _); omega) (by show ¬ (_ = _ ∨ _ = _); omega)).kept s3 (by omega) (by omega), (h.2.2 t (by omega)).2⟩
theorem c_readWithout (d : Nat) (hM : pm_ok M) (hw : cf_wf c) (hc : CC c M) {o q : Nat} (ho : pm_rw o = true) (ho2 : 105 < o) {ws : List Nat} (hk : kn c ws) (hq : q < 2 ^ 31) (h : pm_Ro M o (ws.map nI)) : ∃ M', pm_call (d + 3) 143 [.ref 0, .ref o, .int (nI q)] M none M' ∧ pm_Ro M' 101 ((rw' c ws q).map nI) ∧ pm_S (fun k => 99 ≤ k ∧ k ≤ 102) M M' := by
  obtain ⟨M1, hc1, h3, h4⟩ := c_becomeWithout d hM ro99 ho (q := q) (by omega) (by omega) (by omega) hq h
  rw [map_len, ew_ewn ws q _ (Nat.le_refl _)] at h3
  have hM1 := h4.ok hM
  obtain ⟨M2, hc2, h5, h6⟩ := c_read d hM1 hw (hc.kept h4 (fun k _ _ => by show ¬ (_ = _ ∨ _ = _); omega)) ro101 ro99 (by decide) (by decide) (by decide) (by decide) (ewn_kn hk q _ (Nat.le_refl _)) h3
  refine ⟨M2, en_143 (Nat.le_of_ble_eq_true rfl) ?_, h5, (h4.mo (fun k hk => by rcases hk with z | z <;> (show _ ∧ _; omega))).tr (h6.mo (fun k hk => by rcases hk with z | z <;> (show _ ∧ _; omega)))⟩
  refine st_ald rfl rfl ?_
  refine st_gR' rfl (by first | exact tT hM rfl | assumption | exact rw_T hM (by assumption) | exact rw_A hM (by assumption)) (by first | exact rR hM rfl rfl | assumption | exact rw_R hM (by assumption)) ?_
  refine st_ald rfl rfl ?_
  refine st_ild rfl rfl ?_
  refine st_cav (As := [_, _]) rfl rfl rfl (rw_T hM ro99) (Nat.le_of_ble_eq_true rfl) (hc1) ?_
  -- at 9: stop
  refine st_ald rfl rfl ?_
  refine st_gR' rfl (by first | exact tT hM1 rfl | assumption | exact rw_T hM1 (by assumption) | exact rw_A hM1 (by assumption)) (by first | exact rR hM1 rfl rfl | assumption | exact rw_R hM1 (by assumption)) ?_
  refine st_ald rfl rfl ?_
  refine st_gR' rfl (by first | exact tT hM1 rfl | assumption | exact rw_T hM1 (by assumption) | exact rw_A hM1 (by assumption)) (by first | exact rR hM1 rfl rfl | assumption | exact rw_R hM1 (by assumption)) ?_
  refine st_ald rfl rfl ?_
  refine st_gR' rfl (by first | exact tT hM1 rfl | assumption | exact rw_T hM1 (by assumption) | exact rw_A hM1 (by assumption)) (by first | exact rR hM1 rfl rfl | assumption | exact rw_R hM1 (by assumption)) ?_
  refine st_cav (As := [_, _]) rfl rfl rfl (by first | exact tT hM1 rfl | assumption | exact rw_T hM1 (by assumption) | exact rw_A hM1 (by assumption)) (Nat.le_of_ble_eq_true rfl) (hc2) ?_
  -- at 24: op_vret
  exact st_vret rfl ⟨rfl, rfl⟩
end RDG

/-! BOTH ANSWER ALIKE: change -/
section CHD
variable {a : As} {M : pm_M} {c : Cf} {m : List Nat}
theorem gof_len {ws l : List Nat} (h : gof c m ws = some l) (hl : ws.length ≤ 20) : l.length ≤ 20 := by
  unfold gof at h
  cases hs : rsl c m s00 ws with
  | none => rw [hs] at h; cases h
  | some s =>
    rw [hs] at h
    dsimp only at h
    cases hL : LF c m (20 - ws.length) s with
    | none => rw [hL] at h; cases h
    | some v =>
      rw [hL] at h
      dsimp only at h
      split at h
      · injection h with h
        subst h
        have := sp_len (c := c) (m := m) (20 - ws.length) s
        rw [List.length_append]
        omega
      · cases h
theorem b_change (ha : aw a) (r t : Int32) : Both a 120 242 [.int r, .int t] := by
  have hw := ha.1
  have hrm := rm99 hw
  rcases r_cs r with ⟨h1, h2⟩ | ⟨j, hj, hr, h1, h2⟩
  · refine bo_k (x := .int (-1)) ha (fun d M h => ?_) (fun d M h => ?_)
    · refine en_120 (Nat.le_of_ble_eq_true rfl) ?_
      have hM := h.1
      refine st_ald rfl rfl ?_
      refine st_ild rfl rfl ?_
      refine st_ild rfl rfl ?_
      refine st_ild rfl rfl ?_
      refine st_cav (As := [_, _, _]) rfl rfl rfl (by first | exact tT hM rfl | assumption | exact rw_T hM (by assumption) | exact rw_A hM (by assumption)) (Nat.le_of_ble_eq_true rfl) (c_mess (d + 16) h _ _ _ (c_rowsBad (d + 16) _ _ _ _ _ (fun z => h1 z.1)) ⟨_, rfl⟩) ?_
      refine st_ist rfl ?_
      refine st_ild rfl rfl ?_
      refine st_b1 rfl (fun zq => absurd zq ((by decide))) (fun _ => ?_)
      refine st_ild rfl rfl ?_
      -- at 13: op_iret
      exact st_iret rfl ⟨rfl, rfl⟩
    · refine en_242 (Nat.le_of_ble_eq_true rfl) ?_
      refine st_ild rfl rfl ?_
      refine st_call (As := [_]) rfl rfl rfl (Nat.le_of_ble_eq_true rfl) (m_isRow (d + 17) r) ?_
      refine st_b1 rfl (fun _ => ?_) (fun zq => absurd (b01_f h2) zq)
      refine st_k rfl ?_
      -- at 15: op_iret
      exact st_iret rfl ⟨rfl, rfl⟩
  rcases r_cs t with ⟨k1, k2⟩ | ⟨u, hu, ht, k1, k2⟩
  · refine bo_k (x := .int (-1)) ha (fun d M h => ?_) (fun d M h => ?_)
    · refine en_120 (Nat.le_of_ble_eq_true rfl) ?_
      have hM := h.1
      refine st_ald rfl rfl ?_
      refine st_ild rfl rfl ?_
      refine st_ild rfl rfl ?_
      refine st_ild rfl rfl ?_
      refine st_cav (As := [_, _, _]) rfl rfl rfl (by first | exact tT hM rfl | assumption | exact rw_T hM (by assumption) | exact rw_A hM (by assumption)) (Nat.le_of_ble_eq_true rfl) (c_mess (d + 16) h _ _ _ (c_rowsBad (d + 16) _ _ _ _ _ (fun z => k1 z.2.2)) ⟨_, rfl⟩) ?_
      refine st_ist rfl ?_
      refine st_ild rfl rfl ?_
      refine st_b1 rfl (fun zq => absurd zq ((by decide))) (fun _ => ?_)
      refine st_ild rfl rfl ?_
      -- at 13: op_iret
      exact st_iret rfl ⟨rfl, rfl⟩
    · refine en_242 (Nat.le_of_ble_eq_true rfl) ?_
      refine st_ild rfl rfl ?_
      refine st_call (As := [_]) rfl rfl rfl (Nat.le_of_ble_eq_true rfl) (m_isRow (d + 17) _) ?_
      refine st_b1 rfl (fun zq => absurd zq (b01_t h2)) (fun _ => ?_)
      refine st_ild rfl rfl ?_
      refine st_call (As := [_]) rfl rfl rfl (Nat.le_of_ble_eq_true rfl) (m_isRow (d + 17) t) ?_
      refine st_b1 rfl (fun zq => absurd zq ((fun z => z (b01_f k2)))) (fun _ => ?_)
      refine st_k rfl ?_
      -- at 15: op_iret
      exact st_iret rfl ⟨rfl, rfl⟩
  subst ht
  subst hr
  have hin : vp_in (nI j) 6 := vp_in_nI hj (by decide)
  have hinu : vp_in (nI u) 6 := vp_in_nI hu (by decide)
  rcases row_cs (a := a) j 12 10 (by decide) with hx | ⟨l, hx, hlen⟩ | ⟨l, hx, hlen, hno⟩ | ⟨m, hx, hk, hlen⟩
  · refine bo_f ha (f := 1) (by decide) (fun d M h => ?_) (fun d M h => ?_)
    · refine en_120 (Nat.le_of_ble_eq_true rfl) ?_
      have hM := h.1
      refine st_ald rfl rfl ?_
      refine st_ild rfl rfl ?_
      refine st_ild rfl rfl ?_
      refine st_ild rfl rfl ?_
      refine st_cav (As := [_, _, _]) rfl rfl rfl (by first | exact tT hM rfl | assumption | exact rw_T hM (by assumption) | exact rw_A hM (by assumption)) (Nat.le_of_ble_eq_true rfl) (cmN (d + 16) h hj hu hx) ?_
      refine st_ist rfl ?_
      refine st_ild rfl rfl ?_
      refine st_b1 rfl (fun zq => absurd zq ((by decide))) (fun _ => ?_)
      refine st_ild rfl rfl ?_
      -- at 13: op_iret
      exact st_iret rfl ⟨rfl, rfl⟩
    · refine en_242 (Nat.le_of_ble_eq_true rfl) ?_
      have hM := h.1
      refine st_ild rfl rfl ?_
      refine st_call (As := [_]) rfl rfl rfl (Nat.le_of_ble_eq_true rfl) (m_isRow (d + 17) _) ?_
      refine st_b1 rfl (fun zq => absurd zq (b01_t h2)) (fun _ => ?_)
      refine st_ild rfl rfl ?_
      refine st_call (As := [_]) rfl rfl rfl (Nat.le_of_ble_eq_true rfl) (m_isRow (d + 17) _) ?_
      refine st_b1 rfl (fun _ => ?_) (fun zq => absurd (b01_t k2) zq)
      refine st_ald rfl rfl ?_
      refine st_ild rfl rfl ?_
      refine st_cav (As := [_]) rfl rfl rfl (by first | exact tT hM rfl | assumption | exact rw_T hM (by assumption) | exact rw_A hM (by assumption)) (Nat.le_of_ble_eq_true rfl) (mqN (d + 16) h hj hx) ?_
      refine st_ist rfl ?_
      refine st_ild rfl rfl ?_
      refine st_b1 rfl (fun zq => absurd zq ((by decide))) (fun _ => ?_)
      refine st_ild rfl rfl ?_
      -- at 27: op_iret
      exact st_iret rfl ⟨rfl, rfl⟩
  · refine bo_f ha (f := 5) (by decide) (fun d M h => ?_) (fun d M h => ?_)
    · refine en_120 (Nat.le_of_ble_eq_true rfl) ?_
      have hM := h.1
      refine st_ald rfl rfl ?_
      refine st_ild rfl rfl ?_
      refine st_ild rfl rfl ?_
      refine st_ild rfl rfl ?_
      refine st_cav (As := [_, _, _]) rfl rfl rfl (by first | exact tT hM rfl | assumption | exact rw_T hM (by assumption) | exact rw_A hM (by assumption)) (Nat.le_of_ble_eq_true rfl) (cmL (d + 16) h hj hu hx hlen) ?_
      refine st_ist rfl ?_
      refine st_ild rfl rfl ?_
      refine st_b1 rfl (fun zq => absurd zq ((by decide))) (fun _ => ?_)
      refine st_ild rfl rfl ?_
      -- at 13: op_iret
      exact st_iret rfl ⟨rfl, rfl⟩
    · refine en_242 (Nat.le_of_ble_eq_true rfl) ?_
      have hM := h.1
      refine st_ild rfl rfl ?_
      refine st_call (As := [_]) rfl rfl rfl (Nat.le_of_ble_eq_true rfl) (m_isRow (d + 17) _) ?_
      refine st_b1 rfl (fun zq => absurd zq (b01_t h2)) (fun _ => ?_)
      refine st_ild rfl rfl ?_
      refine st_call (As := [_]) rfl rfl rfl (Nat.le_of_ble_eq_true rfl) (m_isRow (d + 17) _) ?_
      refine st_b1 rfl (fun _ => ?_) (fun zq => absurd (b01_t k2) zq)
      refine st_ald rfl rfl ?_
      refine st_ild rfl rfl ?_
      refine st_cav (As := [_]) rfl rfl rfl (by first | exact tT hM rfl | assumption | exact rw_T hM (by assumption) | exact rw_A hM (by assumption)) (Nat.le_of_ble_eq_true rfl) (mqL (d + 16) h hj hx hlen) ?_
      refine st_ist rfl ?_
      refine st_ild rfl rfl ?_
      refine st_b1 rfl (fun zq => absurd zq ((by decide))) (fun _ => ?_)
      refine st_ild rfl rfl ?_
      -- at 27: op_iret
      exact st_iret rfl ⟨rfl, rfl⟩
  · refine bo_f ha (f := 3) (by decide) (fun d M h => ?_) (fun d M h => ?_)
    · refine en_120 (Nat.le_of_ble_eq_true rfl) ?_
      have hM := h.1
      refine st_ald rfl rfl ?_
      refine st_ild rfl rfl ?_
      refine st_ild rfl rfl ?_
      refine st_ild rfl rfl ?_
      refine st_cav (As := [_, _, _]) rfl rfl rfl (by first | exact tT hM rfl | assumption | exact rw_T hM (by assumption) | exact rw_A hM (by assumption)) (Nat.le_of_ble_eq_true rfl) (cmU (d + 16) h hj hu hx hlen hno) ?_
      refine st_ist rfl ?_
      refine st_ild rfl rfl ?_
      refine st_b1 rfl (fun zq => absurd zq ((by decide))) (fun _ => ?_)
      refine st_ild rfl rfl ?_
      -- at 13: op_iret
      exact st_iret rfl ⟨rfl, rfl⟩
    · refine en_242 (Nat.le_of_ble_eq_true rfl) ?_
      have hM := h.1
      refine st_ild rfl rfl ?_
      refine st_call (As := [_]) rfl rfl rfl (Nat.le_of_ble_eq_true rfl) (m_isRow (d + 17) _) ?_
      refine st_b1 rfl (fun zq => absurd zq (b01_t h2)) (fun _ => ?_)
      refine st_ild rfl rfl ?_
      refine st_call (As := [_]) rfl rfl rfl (Nat.le_of_ble_eq_true rfl) (m_isRow (d + 17) _) ?_
      refine st_b1 rfl (fun _ => ?_) (fun zq => absurd (b01_t k2) zq)
      refine st_ald rfl rfl ?_
      refine st_ild rfl rfl ?_
      refine st_cav (As := [_]) rfl rfl rfl (by first | exact tT hM rfl | assumption | exact rw_T hM (by assumption) | exact rw_A hM (by assumption)) (Nat.le_of_ble_eq_true rfl) (mqU (d + 16) h hj hx hlen hno) ?_
      refine st_ist rfl ?_
      refine st_ild rfl rfl ?_
      refine st_b1 rfl (fun zq => absurd zq ((by decide))) (fun _ => ?_)
      refine st_ild rfl rfl ?_
      -- at 27: op_iret
      exact st_iret rfl ⟨rfl, rfl⟩
  have hou := rw_row u hu
  have ho := rw_row j hj
  have hkn := ha.2.1
  have hpl := ha.2.2.1
  obtain ⟨L0, hL0⟩ := lsn_ex (aC a) (aP a)
  have hL1 := hL0.1
  have htk : ∀ un, kn (aC a) ((aP a).take ((aP a).length - un)) := fun un => kn_take hkn _
  have htl : ∀ un, un ≤ (aP a).length → ((aP a).take ((aP a).length - un)).length = (aP a).length - un := fun un hun => by rw [List.length_take]; omega
  have cpre : ∀ d M (h : IC a M), ∃ M1, IC a M1 ∧ pm_S (fun k => 27 ≤ k ∧ k ≤ 31) M M1 ∧ SP (aC a) (aC a) m (pcv (aC a) m) M1 ∧ TbA (aC a) m (pcv (aC a) m) M1 ∧ ∀ Q : Option Value → pm_M → Prop, pm_WP (pm_call (d + 19)) tb_120 Q 37 [some (.ref 0), some (.int (nI j)), some (.int (nI u)), some (.int 0), some (.int 0)] [] M1 → pm_WP (pm_call (d + 19)) tb_120 Q 0 (pm_init 5 [.ref 0, .int (nI j), .int (nI u)]) [] M := by
    intro d M h
    have hM := h.1
    have hr0 : pm_Ro M (106 + 2 * j) (m.map nI) := by have := h.2.1 j hj; rw [hx] at this; exact this
    obtain ⟨M1, hc1, p1, t1, s1⟩ := c_begin (d + 14) hM h.2.2.2.1 (al_rf _) hw hw ho (by omega) (Or.inl rfl) hr0 hlen hk (fun k hk => (h.2.2.2.1.2.1 k hk).2.2)
    have hI := h.say s1
    have hM1 := hI.1
    refine ⟨M1, hI, s1, p1, t1, fun Q hQ => ?_⟩
    refine st_ald rfl rfl ?_
    refine st_ild rfl rfl ?_
    refine st_ild rfl rfl ?_
    refine st_ild rfl rfl ?_
    refine st_cav (As := [_, _, _]) rfl rfl rfl (by first | exact tT hM rfl | assumption | exact rw_T hM (by assumption) | exact rw_A hM (by assumption)) (Nat.le_of_ble_eq_true rfl) (cmO (d + 16) h hj hu hx hk hlen) ?_
    refine st_ist rfl ?_
    refine st_ild rfl rfl ?_
    refine st_b1 rfl (fun _ => ?_) (fun zq => absurd (rfl) zq)
    refine st_ald rfl rfl ?_
    refine st_gR' rfl (by first | exact tT hM rfl | assumption | exact rw_T hM (by assumption) | exact rw_A hM (by assumption)) (by first | exact rR hM rfl rfl | assumption | exact rw_R hM (by assumption)) ?_
    refine st_ald rfl rfl ?_
    refine st_gR' rfl (by first | exact tT hM rfl | assumption | exact rw_T hM (by assumption) | exact rw_A hM (by assumption)) (by first | exact rR hM rfl rfl | assumption | exact rw_R hM (by assumption)) ?_
    refine st_ild rfl rfl ?_
    refine st_aald' rfl (by first | exact tT hM rfl | assumption | exact rw_T hM (by assumption) | exact rw_A hM (by assumption)) (by first | decide | assumption | exact vp_in_nI (by omega) (by decide)) (by first | assumption | exact rRow' hM (by assumption) | exact rTxt' hM (by assumption) | exact rKep' hM (by assumption) | exact rRdg' hM (by assumption)) ?_
    refine st_ald rfl rfl ?_
    refine st_gR' rfl (by first | exact tT hM rfl | assumption | exact rw_T hM (by assumption) | exact rw_A hM (by assumption)) (by first | exact rR hM rfl rfl | assumption | exact rw_R hM (by assumption)) ?_
    refine st_gR' rfl (by first | exact tT hM rfl | assumption | exact rw_T hM (by assumption) | exact rw_A hM (by assumption)) (by first | exact rR hM rfl rfl | assumption | exact rw_R hM (by assumption)) ?_
    refine st_cav (As := [_, _]) rfl rfl rfl (by first | exact tT hM rfl | assumption | exact rw_T hM (by assumption) | exact rw_A hM (by assumption)) (Nat.le_of_ble_eq_true rfl) (hc1) ?_
    -- at 34: stop
    refine st_k rfl ?_
    refine st_ist rfl ?_
    -- at 37: stop
    exact hQ
  -- one turn of the class
  have cturn : ∀ d M1 un (Q : Option Value → pm_M → Prop), IC a M1 → SP (aC a) (aC a) m (pcv (aC a) m) M1 → TbA (aC a) m (pcv (aC a) m) M1 → un ≤ L0 →
      (gof (aC a) m ((aP a).take ((aP a).length - un)) = none → ∀ M2, pm_S (pm_oo 99) M1 M2 → pm_WP (pm_call (d + 19)) tb_120 Q 137 [some (.ref 0), some (.int (nI j)), some (.int (nI u)), some (.int 0), some (.int (nI un))] [] M2) →
      (∀ l, gof (aC a) m ((aP a).take ((aP a).length - un)) = some l → ∀ M2, pm_S (pm_oo 99) M1 M2 → pm_Ro M2 99 (l.map nI) → pm_WP (pm_call (d + 19)) tb_120 Q 121 [some (.ref 0), some (.int (nI j)), some (.int (nI u)), some (.int 0), some (.int (nI un))] [] M2) →
      pm_WP (pm_call (d + 19)) tb_120 Q 37 [some (.ref 0), some (.int (nI j)), some (.int (nI u)), some (.int 0), some (.int (nI un))] [] M1 := by
    intro d M1 un Q hI p1 t1 hun hQ1 hQ2
    have hM1 := hI.1
    have hr3 := hI.2.2.2.2.1
    have e3 : gI M1 3 1 = nI (aP a).length := by rw [hr3.1, map_len]
    have s2 : pm_S (pm_oo 99) M1 (sI (pm_cp M1 (3 + 1) (99 + 1) 0 0 ((aP a).map nI).length) 99 1 (nI ((aP a).map nI).length)) := s_become
    have r2 : pm_Ro (sI (pm_cp M1 (3 + 1) (99 + 1) 0 0 ((aP a).map nI).length) 99 1 (nI ((aP a).map nI).length)) 99 ((aP a).map nI) := ro_become hr3
    have hb := c_become (d + 18) hM1 ro99 ro3 (by decide) hr3
    generalize sI (pm_cp M1 (3 + 1) (99 + 1) 0 0 ((aP a).map nI).length) 99 1 (nI ((aP a).map nI).length) = M2 at s2 r2 hb
    have hM2 := s2.ok hM1
    have s3 : pm_S (pm_oo 99) M1 (sI M2 99 1 (nI ((aP a).length - un))) := s2.sI (Or.inl rfl) _ _
    have r3 : pm_Ro (sI M2 99 1 (nI ((aP a).length - un))) 99 (((aP a).take ((aP a).length - un)).map nI) := by
      have e := htl un (by omega)
      refine ⟨by rw [gI_same, map_len, e], by rw [map_len, e]; omega, fun i hi => ?_⟩
      rw [map_len, e] at hi
      rw [gI_ne (Or.inl (by decide)), r2.2.2 i (by rw [map_len]; omega), map_getD (by omega), map_getD (by rw [e]; omega)]
      congr 1
      rw [List.getD_eq_getElem?_getD, List.getD_eq_getElem?_getD, List.getElem?_take, if_pos hi]
    have hM3 : pm_ok (sI M2 99 1 (nI ((aP a).length - un))) := hM2
    have p3 := p1.kept s3 (fun k z => by rcases z with w | w <;> omega)
    have t3 : TbA (aC a) m (pcv (aC a) m) (sI M2 99 1 (nI ((aP a).length - un))) := fun y hy => (t1 y hy).kept s3 (by show ¬ (_ ∨ _); omega)
    have hI3 := hI.S s3 (fun k hk => Or.inl (by rcases hk with z | z <;> omega))
    obtain ⟨g1, g2⟩ := c_goOnFrom (d + 13) hM3 p3 t3 (htk un) (by rw [htl un (by omega)]; omega) r3
    have go : pm_WP (pm_call (d + 19)) tb_120 Q 107 [some (.ref 0), some (.int (nI j)), some (.int (nI u)), some (.int 0), some (.int (nI un))] [] (sI M2 99 1 (nI ((aP a).length - un))) := by
      cases hg : gof (aC a) m ((aP a).take ((aP a).length - un)) with
      | none =>
        refine st_ald rfl rfl ?_
        refine st_gR' rfl (by first | exact tT hM3 rfl | assumption | exact rw_T hM3 (by assumption) | exact rw_A hM3 (by assumption)) (by first | exact rR hM3 rfl rfl | assumption | exact rw_R hM3 (by assumption)) ?_
        refine st_ald rfl rfl ?_
        refine st_gR' rfl (by first | exact tT hM3 rfl | assumption | exact rw_T hM3 (by assumption) | exact rw_A hM3 (by assumption)) (by first | exact rR hM3 rfl rfl | assumption | exact rw_R hM3 (by assumption)) ?_
        refine st_cav (As := [_]) rfl rfl rfl (by first | exact tT hM3 rfl | assumption | exact rw_T hM3 (by assumption) | exact rw_A hM3 (by assumption)) (Nat.le_of_ble_eq_true rfl) (g1 hg) ?_
        refine st_b1 rfl (fun _ => ?_) (fun zq => absurd (rfl) zq)
        -- at 137: stop
        exact hQ1 hg _ s3
      | some l =>
        obtain ⟨M4, hc4, r4, s4⟩ := g2 l hg
        refine st_ald rfl rfl ?_
        refine st_gR' rfl (by first | exact tT hM3 rfl | assumption | exact rw_T hM3 (by assumption) | exact rw_A hM3 (by assumption)) (by first | exact rR hM3 rfl rfl | assumption | exact rw_R hM3 (by assumption)) ?_
        refine st_ald rfl rfl ?_
        refine st_gR' rfl (by first | exact tT hM3 rfl | assumption | exact rw_T hM3 (by assumption) | exact rw_A hM3 (by assumption)) (by first | exact rR hM3 rfl rfl | assumption | exact rw_R hM3 (by assumption)) ?_
        refine st_cav (As := [_]) rfl rfl rfl (by first | exact tT hM3 rfl | assumption | exact rw_T hM3 (by assumption) | exact rw_A hM3 (by assumption)) (Nat.le_of_ble_eq_true rfl) (hc4) ?_
        refine st_b1 rfl (fun zq => absurd zq ((by decide))) (fun _ => ?_)
        -- at 121: stop
        exact hQ2 l hg M4 (s3.tr s4) r4
    refine st_ild rfl rfl ?_
    refine st_ald rfl rfl ?_
    refine st_gR' rfl (by first | exact tT hM1 rfl | assumption | exact rw_T hM1 (by assumption) | exact rw_A hM1 (by assumption)) (by first | exact rR hM1 rfl rfl | assumption | exact rw_R hM1 (by assumption)) ?_
    refine st_gI rfl (by first | exact tT hM1 rfl | assumption | exact rw_T hM1 (by assumption) | exact rw_A hM1 (by assumption)) ?_
    -- at 46: stop
    refine wp_e e3 ?_
    refine st_b2 rfl (fun zq => absurd zq (nI_nlt (by omega) (by omega))) (fun _ => ?_)
    refine st_ald rfl rfl ?_
    refine st_gR' rfl (by first | exact tT hM1 rfl | assumption | exact rw_T hM1 (by assumption) | exact rw_A hM1 (by assumption)) (by first | exact rR hM1 rfl rfl | assumption | exact rw_R hM1 (by assumption)) ?_
    refine st_ald rfl rfl ?_
    refine st_gR' rfl (by first | exact tT hM1 rfl | assumption | exact rw_T hM1 (by assumption) | exact rw_A hM1 (by assumption)) (by first | exact rR hM1 rfl rfl | assumption | exact rw_R hM1 (by assumption)) ?_
    refine st_cav (As := [_]) rfl rfl rfl (by first | exact tT hM1 rfl | assumption | exact rw_T hM1 (by assumption) | exact rw_A hM1 (by assumption)) (Nat.le_of_ble_eq_true rfl) (hb) ?_
    -- at 60: stop
    refine st_ald rfl rfl ?_
    refine st_gR' rfl (by first | exact tT hM2 rfl | assumption | exact rw_T hM2 (by assumption) | exact rw_A hM2 (by assumption)) (by first | exact rR hM2 rfl rfl | assumption | exact rw_R hM2 (by assumption)) ?_
    refine st_dup rfl rfl ?_
    refine st_gI rfl (by first | exact tT hM2 rfl | assumption | exact rw_T hM2 (by assumption) | exact rw_A hM2 (by assumption)) ?_
    -- at 68: stop
    refine wp_e (y := nI (aP a).length) (by rw [r2.1, map_len]) ?_
    refine st_ild rfl rfl ?_
    refine st_ib rfl ?_
    -- at 71: stop
    rw [pk_sub (show un ≤ (aP a).length by omega)]
    refine st_pI rfl (by first | exact tT hM2 rfl | assumption | exact rw_T hM2 (by assumption) | exact rw_A hM2 (by assumption)) ?_
    -- at 74: stop
    by_cases g0 : un = 0
    · refine st_ild rfl rfl ?_
      refine st_b1 rfl (fun _ => ?_) (fun zq => absurd ((by rw [g0]; decide)) zq)
      -- at 107: stop
      exact go
    · have hwl := hL0.2.1 ((aP a).length - un) (by omega) (by omega)
      have hkk := kn_getD hkn (show (aP a).length - un < (aP a).length by omega)
      have hr33 := hI3.2.2.2.2.1
      have hin3 : vp_in (nI ((aP a).length - un)) 40 := vp_in_nI (by omega) (by decide)
      refine st_ild rfl rfl ?_
      refine st_b1 rfl (fun zq => absurd zq (nI_nle (by omega) (by omega))) (fun _ => ?_)
      refine st_ald rfl rfl ?_
      refine st_gR' rfl (by first | exact tT hM3 rfl | assumption | exact rw_T hM3 (by assumption) | exact rw_A hM3 (by assumption)) (by first | exact rR hM3 rfl rfl | assumption | exact rw_R hM3 (by assumption)) ?_
      refine st_ald rfl rfl ?_
      refine st_gR' rfl (by first | exact tT hM3 rfl | assumption | exact rw_T hM3 (by assumption) | exact rw_A hM3 (by assumption)) (by first | exact rR hM3 rfl rfl | assumption | exact rw_R hM3 (by assumption)) ?_
      refine st_gR' rfl (by first | exact tT hM3 rfl | assumption | exact rw_T hM3 (by assumption) | exact rw_A hM3 (by assumption)) (by first | exact rR hM3 rfl rfl | assumption | exact rw_R hM3 (by assumption)) ?_
      refine st_ald rfl rfl ?_
      refine st_gR' rfl (by first | exact tT hM3 rfl | assumption | exact rw_T hM3 (by assumption) | exact rw_A hM3 (by assumption)) (by first | exact rR hM3 rfl rfl | assumption | exact rw_R hM3 (by assumption)) ?_
      refine st_gI rfl (by first | exact tT hM3 rfl | assumption | exact rw_T hM3 (by assumption) | exact rw_A hM3 (by assumption)) ?_
      -- at 97: stop
      refine wp_e (y := nI ((aP a).length - un)) (gI_same _ _ _ _) ?_
      refine st_iald rfl (rw_A hM3 ro3) (hin3) ?_
      -- at 98: stop
      refine wp_e (y := nI ((aP a).getD ((aP a).length - un) 0)) ((ro_at hr33 (by rw [map_len]; omega)).trans (map_getD (by omega))) ?_
      refine st_cav (As := [_]) rfl rfl rfl (by first | exact tT hM3 rfl | assumption | exact rw_T hM3 (by assumption) | exact rw_A hM3 (by assumption)) (Nat.le_of_ble_eq_true rfl) (c_isWill (d + 18) hM3 hw hI3.2.2.2.1 hkk) ?_
      refine st_b1 rfl (fun _ => ?_) (fun zq => absurd (b01_f hwl) zq)
      -- at 107: stop
      exact go
  have mpre : ∀ d M (h : IM a M), ∃ M1, IM a M1 ∧ Msc M M1 ∧ MM m M1 ∧ (∀ f, f ≤ 20 → LT (aC a) m f M1) ∧ ∀ Q : Option Value → pm_M → Prop, pm_WP (pm_call (d + 19)) tb_242 Q 35 [some (.ref 132), some (.int (nI j)), some (.int (nI u)), some (.int 0), some (.int 0), none, none, none] [] M1 → pm_WP (pm_call (d + 19)) tb_242 Q 0 (pm_init 8 [.ref 132, .int (nI j), .int (nI u)]) [] M := by
    intro d M h
    have hM := h.1
    obtain ⟨M1, hc1, p1, s1⟩ := mqO (d + 16) h hj hx hk hlen
    have hI := h.sc s1
    have hM1 := hI.1
    obtain ⟨M2, hc2, s2, t2⟩ := m_layLeast (d + 16) hM1 hw hI.2.2.2.1 p1
    have hI2 := hI.sc (Msc.l156 s2)
    refine ⟨M2, hI2, s1.tr (Msc.l156 s2), p1.S s2 (by decide) (by decide), t2, fun Q hQ => ?_⟩
    refine st_ild rfl rfl ?_
    refine st_call (As := [_]) rfl rfl rfl (Nat.le_of_ble_eq_true rfl) (m_isRow (d + 17) _) ?_
    refine st_b1 rfl (fun zq => absurd zq (b01_t h2)) (fun _ => ?_)
    refine st_ild rfl rfl ?_
    refine st_call (As := [_]) rfl rfl rfl (Nat.le_of_ble_eq_true rfl) (m_isRow (d + 17) _) ?_
    refine st_b1 rfl (fun _ => ?_) (fun zq => absurd (b01_t k2) zq)
    refine st_ald rfl rfl ?_
    refine st_ild rfl rfl ?_
    refine st_cav (As := [_]) rfl rfl rfl (by first | exact tT hM rfl | assumption | exact rw_T hM (by assumption) | exact rw_A hM (by assumption)) (Nat.le_of_ble_eq_true rfl) (hc1) ?_
    -- at 21: stop
    refine st_ist rfl ?_
    refine st_ild rfl rfl ?_
    refine st_b1 rfl (fun _ => ?_) (fun zq => absurd ((by decide)) zq)
    refine st_ald rfl rfl ?_
    refine st_cav (As := []) rfl rfl rfl (by first | exact tT hM1 rfl | assumption | exact rw_T hM1 (by assumption) | exact rw_A hM1 (by assumption)) (Nat.le_of_ble_eq_true rfl) (hc2) ?_
    -- at 32: stop
    refine st_k rfl ?_
    refine st_ist rfl ?_
    -- at 35: stop
    exact hQ
  have mlo : ∀ d M1, IM a M1 → pm_call (d + 1) 203 [.ref 132] M1 (some (.int (nI L0))) M1 := by
    intro d M1 hI
    obtain ⟨L, q1, q2, q3, q4⟩ := m_loose d hI.1 hw hI.2.2.2.1 hkn hpl hI.2.2.2.2.1
    rw [lsn_uniq hL0 ⟨q1, q3, q4⟩]
    exact q2
  -- one turn of the reference
  have mturn : ∀ d M1 un (Q : Option Value → pm_M → Prop), IM a M1 → MM m M1 → (∀ f, f ≤ 20 → LT (aC a) m f M1) → un ≤ L0 →
      (gof (aC a) m ((aP a).take ((aP a).length - un)) = none → ∀ l5 l6 l7, pm_WP (pm_call (d + 19)) tb_242 Q 187 [some (.ref 132), some (.int (nI j)), some (.int (nI u)), some (.int 0), some (.int (nI un)), l5, l6, l7] [] M1) →
      (∀ l, gof (aC a) m ((aP a).take ((aP a).length - un)) = some l → ∀ M2 l5 l6 l7, Lfr M1 M2 → Lk M2 l → pm_WP (pm_call (d + 19)) tb_242 Q 171 [some (.ref 132), some (.int (nI j)), some (.int (nI u)), some (.int 0), some (.int (nI un)), l5, l6, l7] [] M2) →
      ∀ l5 l6 l7, pm_WP (pm_call (d + 19)) tb_242 Q 35 [some (.ref 132), some (.int (nI j)), some (.int (nI u)), some (.int 0), some (.int (nI un)), l5, l6, l7] [] M1 := by
    intro d M1 un Q hI p1 t1 hun hQ1 hQ2 l5 l6 l7
    have hM1 := hI.1
    refine st_ild rfl rfl ?_
    refine st_ald rfl rfl ?_
    refine st_cav (As := []) rfl rfl rfl (by first | exact tT hM1 rfl | assumption | exact rw_T hM1 (by assumption) | exact rw_A hM1 (by assumption)) (Nat.le_of_ble_eq_true rfl) (mlo (d + 18) M1 hI) ?_
    refine st_b2 rfl (fun zq => absurd zq (nI_nlt (by omega) (by omega))) (fun _ => ?_)
    -- at 44: stop
    refine m_beg (d + 15) hM1 hw hI.2.2.2.1 p1 hkn hpl hI.2.2.2.2.1 (by omega) (fun hn l6 l7 => hQ1 (by unfold gof; rw [hn]) _ _ _) (fun s hs hws l7 => ?_) l5 l6 l7
    have el := htl un (by omega)
    obtain ⟨d1, d2, d3, d4, d5⟩ := si_d hw hws
    have e5 : 182 * (nI (aP a).length - nI un) + nI (si s) = nI (182 * (20 - (20 - ((aP a).length - un))) + si s) := by
      rw [pk_sub (by omega)]
      show nI 182 * nI _ + nI _ = _
      rw [pk_mul, nI_add, show 20 - (20 - ((aP a).length - un)) = (aP a).length - un by omega]
    have hin2 : vp_in (nI (182 * (20 - (20 - ((aP a).length - un))) + si s)) 3822 := vp_in_nI (by omega) (by decide)
    have hmt := mt_le hw ((aP a).take ((aP a).length - un)) 6 (htk un)
    rw [el] at hmt
    have hnr := nr_lt (x := LF (aC a) m (20 - ((aP a).length - un)) s) (fun v hv => by have := LF_lt hw (m := m) (s := s) (f := 20 - ((aP a).length - un)) (by omega) v hv; omega)
    refine st_ild rfl rfl ?_
    refine st_ald rfl rfl ?_
    refine st_gR' rfl (by first | exact tT hM1 rfl | assumption | exact rw_T hM1 (by assumption) | exact rw_A hM1 (by assumption)) (by first | exact rR hM1 rfl rfl | assumption | exact rw_R hM1 (by assumption)) ?_
    refine st_k rfl ?_
    refine st_ald rfl rfl ?_
    refine st_gI rfl (by first | exact tT hM1 rfl | assumption | exact rw_T hM1 (by assumption) | exact rw_A hM1 (by assumption)) ?_
    -- at 134: stop
    refine wp_e hI.2.2.2.2.1.1 ?_
    refine st_ild rfl rfl ?_
    refine st_ib rfl ?_
    refine st_ib rfl ?_
    refine st_ild rfl rfl ?_
    refine st_ib rfl ?_
    -- at 141: stop
    refine wp_e e5 ?_
    refine st_iald rfl (tT hM1 rfl) (hin2) ?_
    -- at 142: stop
    refine wp_e (y := nI (nr (LF (aC a) m (20 - ((aP a).length - un)) s))) (by rw [nI_clamp (by omega)]; exact t1 _ (by omega) s hws) ?_
    refine st_ib rfl ?_
    -- at 143: stop
    refine wp_e (nI_add _ _) ?_
    by_cases g : mt (aC a) 6 ((aP a).take ((aP a).length - un)) + nr (LF (aC a) m (20 - ((aP a).length - un)) s) ≤ cf_rm (aC a)
    · cases hL : LF (aC a) m (20 - ((aP a).length - un)) s with
      | none =>
        rw [hL] at g
        have g' : mt (aC a) 6 ((aP a).take ((aP a).length - un)) + 100000 ≤ cf_rm (aC a) := g
        omega
      | some v =>
        rw [hL] at g
        have g' : mt (aC a) 6 ((aP a).take ((aP a).length - un)) + v ≤ cf_rm (aC a) := g
        have hg : gof (aC a) m ((aP a).take ((aP a).length - un)) = some ((aP a).take ((aP a).length - un) ++ sp (aC a) m (20 - ((aP a).length - un)) s) := by
          unfold gof
          rw [hs]
          dsimp only
          rw [el, hL]
          dsimp only
          rw [if_pos g']
        obtain ⟨M2, hc2, k2', l2⟩ := m_lookAtRope2 (d + 18) hM1 hpl hI.2.2.2.2.1
        have hM2 := l2.ok hM1
        have l3 : Lfr M2 (sI M2 132 29 (nI ((aP a).length - un))) := ⟨rfl, fun _ _ => rfl, fun k i z1 z2 => gI_nn z1, fun _ _ => rfl⟩
        have hM3 := l3.ok hM2
        have k3 : Lk (sI M2 132 29 (nI ((aP a).length - un))) ((aP a).take ((aP a).length - un)) := by
          refine ⟨by rw [gI_same, el], by rw [el]; omega, fun i hi => ?_⟩
          rw [el] at hi
          rw [gI_ne (Or.inl (by decide)), k2'.2.2 i (by omega)]
          congr 1
          rw [List.getD_eq_getElem?_getD, List.getD_eq_getElem?_getD, List.getElem?_take, if_pos hi]
        have l23 := l2.tr l3
        obtain ⟨M4, hc4, k4, l4⟩ := m_goOnLeast (d + 15) hM3 hw (hI.2.2.2.1.sc l23.sc) (l23.mm p1) k3 (f0 := 20 - ((aP a).length - un)) (v0 := v) (s0 := s) (by rw [el]; omega) (fun f hf => l23.lt (t1 f hf)) hws hL
        refine st_ald rfl rfl ?_
        refine st_cav (As := []) rfl rfl rfl (by first | exact tT hM1 rfl | assumption | exact rw_T hM1 (by assumption) | exact rw_A hM1 (by assumption)) (Nat.le_of_ble_eq_true rfl) (m_roomNow (d + 18) hM1 hw hI.2.2.2.1) ?_
        refine st_b2 rfl (fun zq => absurd zq (nI_nlt g' (by omega))) (fun _ => ?_)
        refine st_ald rfl rfl ?_
        refine st_cav (As := []) rfl rfl rfl (by first | exact tT hM1 rfl | assumption | exact rw_T hM1 (by assumption) | exact rw_A hM1 (by assumption)) (Nat.le_of_ble_eq_true rfl) (hc2) ?_
        -- at 154: stop
        refine st_ald rfl rfl ?_
        refine st_dup rfl rfl ?_
        refine st_gI rfl (by first | exact tT hM2 rfl | assumption | exact rw_T hM2 (by assumption) | exact rw_A hM2 (by assumption)) ?_
        -- at 159: stop
        refine wp_e k2'.1 ?_
        refine st_ild rfl rfl ?_
        refine st_ib rfl ?_
        -- at 162: stop
        rw [pk_sub (show un ≤ (aP a).length by omega)]
        refine st_pI rfl (by first | exact tT hM2 rfl | assumption | exact rw_T hM2 (by assumption) | exact rw_A hM2 (by assumption)) ?_
        -- at 165: stop
        refine st_ald rfl rfl ?_
        refine st_ild rfl rfl ?_
        refine st_cav (As := [_]) rfl rfl rfl (by first | exact tT hM3 rfl | assumption | exact rw_T hM3 (by assumption) | exact rw_A hM3 (by assumption)) (Nat.le_of_ble_eq_true rfl) (hc4) ?_
        -- at 171: stop
        exact hQ2 _ hg M4 _ _ _ (l23.tr l4) k4
    · have hg : gof (aC a) m ((aP a).take ((aP a).length - un)) = none := by
        unfold gof
        rw [hs]
        dsimp only
        rw [el]
        cases hL : LF (aC a) m (20 - ((aP a).length - un)) s with
        | none => rfl
        | some v =>
          rw [hL] at g
          dsimp only
          exact if_neg g
      refine st_ald rfl rfl ?_
      refine st_cav (As := []) rfl rfl rfl (by first | exact tT hM1 rfl | assumption | exact rw_T hM1 (by assumption) | exact rw_A hM1 (by assumption)) (Nat.le_of_ble_eq_true rfl) (m_roomNow (d + 18) hM1 hw hI.2.2.2.1) ?_
      refine st_b2 rfl (fun _ => ?_) (fun zq => absurd (nI_lt (by omega) (by omega)) zq)
      -- at 187: stop
      exact hQ1 hg _ _ _
  by_cases gE : ∃ un, un ≤ L0 ∧ gof (aC a) m ((aP a).take ((aP a).length - un)) ≠ none
  · obtain ⟨u0, ⟨hu0, hne0⟩, hmin⟩ := pk_least (fun un => un ≤ L0 ∧ gof (aC a) m ((aP a).take ((aP a).length - un)) ≠ none) gE
    have hnone : ∀ un, un < u0 → gof (aC a) m ((aP a).take ((aP a).length - un)) = none := fun un hun => by
      cases hg : gof (aC a) m ((aP a).take ((aP a).length - un)) with
      | none => rfl
      | some l => exact absurd ⟨by omega, by rw [hg]; exact fun z => by cases z⟩ (hmin un hun)
    obtain ⟨l, hl⟩ : ∃ l, gof (aC a) m ((aP a).take ((aP a).length - u0)) = some l := by
      cases hg : gof (aC a) m ((aP a).take ((aP a).length - u0)) with
      | none => exact absurd hg hne0
      | some l => exact ⟨l, rfl⟩
    have hll := gof_len hl (by rw [htl u0 (by omega)]; omega)
    refine ⟨.int (nI u0), sR' a u (some (l.map nI)), ha.row _ _, fun d M h => ?_, fun d M h => ?_⟩
    · obtain ⟨M1, hI, s1, p1, t1, pre⟩ := cpre d M h
      obtain ⟨r0, M', hcc, hr, h5, h6⟩ := eq_120 (d := d + 19) (A := [.ref 0, .int (nI j), .int (nI u)]) (M := M) (Q := fun r0 M' => r0 = some (.int (nI u0)) ∧ IC (sR' a u (some (l.map nI))) M' ∧ Cfr M M') (Nat.le_of_ble_eq_true rfl) (by
        refine pre _ ?_
        refine wp_for u0 (fun un L M2 => ∃ x, x = nI un ∧ L = [some (.ref 0), some (.int (nI j)), some (.int (nI u)), some (.int 0), some (.int x)] ∧ pm_S (pm_oo 99) M1 M2) ?_ ?_ 0 _ _ (Nat.zero_le _) ⟨_, rfl, rfl, pm_S.rf⟩
        · rintro un L M2 hun ⟨x, rfl, rfl, s2⟩ ih
          refine cturn d M2 un _ (hI.S s2 (fun k hk => Or.inl (by rcases hk with z | z <;> omega))) (p1.kept s2 (fun k z => by rcases z with w | w <;> omega)) (fun y hy => (t1 y hy).kept s2 (by show ¬ (_ ∨ _); omega)) (by omega) (fun _ M3 s3 => ?_) (fun l' hl' => by rw [hnone un hun] at hl'; cases hl')
          refine st_inc rfl rfl ?_
          refine st_go rfl ?_
          -- at 37: stop
          exact ih _ _ ⟨_, nI_1 un, rfl, s2.tr s3⟩
        · rintro L M2 ⟨x, rfl, rfl, s2⟩
          refine cturn d M2 u0 _ (hI.S s2 (fun k hk => Or.inl (by rcases hk with z | z <;> omega))) (p1.kept s2 (fun k z => by rcases z with w | w <;> omega)) (fun y hy => (t1 y hy).kept s2 (by show ¬ (_ ∨ _); omega)) hu0 (fun z => absurd z hne0) (fun l' hl' M3 s3 r3 => ?_)
          have el : l' = l := by rw [hl] at hl'; injection hl' with hl'; exact hl'.symm
          subst el
          have hM3 := (s2.tr s3).ok hI.1
          have s4 : pm_S (pm_oo (106 + 2 * u)) M3 (sI (pm_cp M3 (99 + 1) (106 + 2 * u + 1) 0 0 (l'.map nI).length) (106 + 2 * u) 1 (nI (l'.map nI).length)) := s_become
          have s5 : pm_S (fun k => (27 ≤ k ∧ k ≤ 31) ∨ pm_oo 99 k ∨ pm_oo (106 + 2 * u) k) M _ := (s1.mo (fun k hk => Or.inl hk)).tr (((s2.tr s3).mo (fun k hk => Or.inr (Or.inl hk))).tr (s4.mo (fun k hk => Or.inr (Or.inr hk))))
          have hI5 := h.row (x := some (l'.map nI)) hu s5 (fun k hk => by rcases hk with z | (z | z) | (z | z) <;> omega) (ro_become r3)
          refine st_ald rfl rfl ?_
          refine st_gR' rfl (by first | exact tT hM3 rfl | assumption | exact rw_T hM3 (by assumption) | exact rw_A hM3 (by assumption)) (by first | exact rR hM3 rfl rfl | assumption | exact rw_R hM3 (by assumption)) ?_
          refine st_ild rfl rfl ?_
          refine st_aald' rfl (by first | exact tT hM3 rfl | assumption | exact rw_T hM3 (by assumption) | exact rw_A hM3 (by assumption)) (by first | decide | assumption | exact vp_in_nI (by omega) (by decide)) (by first | assumption | exact rRow' hM3 (by assumption) | exact rTxt' hM3 (by assumption) | exact rKep' hM3 (by assumption) | exact rRdg' hM3 (by assumption)) ?_
          refine st_ald rfl rfl ?_
          refine st_gR' rfl (by first | exact tT hM3 rfl | assumption | exact rw_T hM3 (by assumption) | exact rw_A hM3 (by assumption)) (by first | exact rR hM3 rfl rfl | assumption | exact rw_R hM3 (by assumption)) ?_
          refine st_cav (As := [_]) rfl rfl rfl (rw_T hM3 hou) (Nat.le_of_ble_eq_true rfl) (c_become (d + 18) hM3 hou ro99 (by omega) r3) ?_
          -- at 134: stop
          refine st_ild rfl rfl ?_
          -- at 136: op_iret
          exact st_iret rfl ⟨rfl, hI5, Cfr.S s5 (fun k hk => by rcases hk with z | (z | z) | (z | z) <;> omega)⟩)
      subst hr
      exact ⟨M', hcc, h5, h6⟩
    · obtain ⟨M1, hI, s1, p1, t1, pre⟩ := mpre d M h
      obtain ⟨r0, M', hcc, hr, h5, h6⟩ := eq_242 (d := d + 19) (A := [.ref 132, .int (nI j), .int (nI u)]) (M := M) (Q := fun r0 M' => r0 = some (.int (nI u0)) ∧ IM (sR' a u (some (l.map nI))) M' ∧ Mfr M M') (Nat.le_of_ble_eq_true rfl) (by
        refine pre _ ?_
        refine wp_for u0 (fun un L M2 => ∃ x l5 l6 l7, x = nI un ∧ L = [some (.ref 132), some (.int (nI j)), some (.int (nI u)), some (.int 0), some (.int x), l5, l6, l7] ∧ M2 = M1) ?_ ?_ 0 _ _ (Nat.zero_le _) ⟨_, _, _, _, rfl, rfl, rfl⟩
        · rintro un L M2 hun ⟨x, l5, l6, l7, rfl, rfl, rfl⟩ ih
          refine mturn d M2 un _ hI p1 t1 (by omega) (fun _ l5 l6 l7 => ?_) (fun l' hl' => by rw [hnone un hun] at hl'; cases hl') l5 l6 l7
          refine st_inc rfl rfl ?_
          refine st_go rfl ?_
          -- at 35: stop
          exact ih _ _ ⟨_, _, _, _, nI_1 un, rfl, rfl⟩
        · rintro L M2 ⟨x, l5, l6, l7, rfl, rfl, rfl⟩
          refine mturn d M2 u0 _ hI p1 t1 hu0 (fun z => absurd z hne0) (fun l' hl' M3 l5 l6 l7 f3 k3 => ?_) l5 l6 l7
          have el : l' = l := by rw [hl] at hl'; injection hl' with hl'; exact hl'.symm
          subst el
          have hI3 := hI.sc f3.sc
          have hM3 := hI3.1
          obtain ⟨M4, hc4, h7, h8⟩ := m_layRow (d + 18) hM3 hu (k := 147) (n := 24) (l := l'.map nI) (tT hM3 rfl) (by decide) (by rw [map_len]; omega) (by rw [map_len]; omega) (fun i hi => by rw [map_len] at hi; rw [k3.2.2 i hi, map_getD hi])
          rw [map_len] at hc4
          have hI4 := hI3.lay h8 h7
          refine st_ald rfl rfl ?_
          refine st_ild rfl rfl ?_
          refine st_ald rfl rfl ?_
          refine st_gR' rfl (by first | exact tT hM3 rfl | assumption | exact rw_T hM3 (by assumption) | exact rw_A hM3 (by assumption)) (by first | exact rR hM3 rfl rfl | assumption | exact rw_R hM3 (by assumption)) ?_
          refine st_ald rfl rfl ?_
          refine st_gI rfl (by first | exact tT hM3 rfl | assumption | exact rw_T hM3 (by assumption) | exact rw_A hM3 (by assumption)) ?_
          -- at 181: stop
          refine wp_e k3.1 ?_
          refine st_cav (As := [_, _, _]) rfl rfl rfl (by first | exact tT hM3 rfl | assumption | exact rw_T hM3 (by assumption) | exact rw_A hM3 (by assumption)) (Nat.le_of_ble_eq_true rfl) (hc4) ?_
          -- at 184: stop
          refine st_ild rfl rfl ?_
          -- at 186: op_iret
          exact st_iret rfl ⟨rfl, hI4, s1.fr.tr (f3.sc.fr.tr h8.fr)⟩)
      subst hr
      exact ⟨M', hcc, h5, h6⟩
  · have hnone : ∀ un, un ≤ L0 → gof (aC a) m ((aP a).take ((aP a).length - un)) = none := fun un hun => by
      cases hg : gof (aC a) m ((aP a).take ((aP a).length - un)) with
      | none => rfl
      | some l => exact absurd ⟨un, hun, by rw [hg]; exact fun z => by cases z⟩ gE
    refine ⟨.int (-9), a, ha, fun d M h => ?_, fun d M h => ?_⟩
    · obtain ⟨M1, hI, s1, p1, t1, pre⟩ := cpre d M h
      obtain ⟨r0, M', hcc, hr, h5⟩ := eq_120 (d := d + 19) (A := [.ref 0, .int (nI j), .int (nI u)]) (M := M) (Q := fun r0 M' => r0 = some (.int (-9)) ∧ pm_S (pm_oo 99) M1 M') (Nat.le_of_ble_eq_true rfl) (by
        refine pre _ ?_
        refine wp_for (L0 + 1) (fun un L M2 => ∃ x, x = nI un ∧ L = [some (.ref 0), some (.int (nI j)), some (.int (nI u)), some (.int 0), some (.int x)] ∧ pm_S (pm_oo 99) M1 M2) ?_ ?_ 0 _ _ (Nat.zero_le _) ⟨_, rfl, rfl, pm_S.rf⟩
        · rintro un L M2 hun ⟨x, rfl, rfl, s2⟩ ih
          refine cturn d M2 un _ (hI.S s2 (fun k hk => Or.inl (by rcases hk with z | z <;> omega))) (p1.kept s2 (fun k z => by rcases z with w | w <;> omega)) (fun y hy => (t1 y hy).kept s2 (by show ¬ (_ ∨ _); omega)) (by omega) (fun _ M3 s3 => ?_) (fun l' hl' => by rw [hnone un (by omega)] at hl'; cases hl')
          refine st_inc rfl rfl ?_
          refine st_go rfl ?_
          -- at 37: stop
          exact ih _ _ ⟨_, nI_1 un, rfl, s2.tr s3⟩
        · rintro L M2 ⟨x, rfl, rfl, s2⟩
          have hI2 := hI.S s2 (fun k hk => Or.inl (by rcases hk with z | z <;> omega))
          have hM2 := hI2.1
          have hr3 := hI2.2.2.2.2.1
          have e3 : gI M2 3 1 = nI (aP a).length := by rw [hr3.1, map_len]
          refine st_ild rfl rfl ?_
          refine st_ald rfl rfl ?_
          refine st_gR' rfl (by first | exact tT hM2 rfl | assumption | exact rw_T hM2 (by assumption) | exact rw_A hM2 (by assumption)) (by first | exact rR hM2 rfl rfl | assumption | exact rw_R hM2 (by assumption)) ?_
          refine st_gI rfl (by first | exact tT hM2 rfl | assumption | exact rw_T hM2 (by assumption) | exact rw_A hM2 (by assumption)) ?_
          -- at 46: stop
          refine wp_e e3 ?_
          by_cases gL : (aP a).length < L0 + 1
          · refine st_b2 rfl (fun _ => ?_) (fun zq => absurd (nI_lt gL (by omega)) zq)
            refine st_k rfl ?_
            -- at 145: op_iret
            exact st_iret rfl ⟨rfl, s2⟩
          · have s3 : pm_S (pm_oo 99) M2 (sI (pm_cp M2 (3 + 1) (99 + 1) 0 0 ((aP a).map nI).length) 99 1 (nI ((aP a).map nI).length)) := s_become
            have r3 : pm_Ro (sI (pm_cp M2 (3 + 1) (99 + 1) 0 0 ((aP a).map nI).length) 99 1 (nI ((aP a).map nI).length)) 99 ((aP a).map nI) := ro_become hr3
            have hb := c_become (d + 18) hM2 ro99 ro3 (by decide) hr3
            generalize sI (pm_cp M2 (3 + 1) (99 + 1) 0 0 ((aP a).map nI).length) 99 1 (nI ((aP a).map nI).length) = M3 at s3 r3 hb
            have hM3 := s3.ok hM2
            have s4 : pm_S (pm_oo 99) M1 (sI M3 99 1 (nI ((aP a).length - (L0 + 1)))) := (s2.tr s3).sI (Or.inl rfl) _ _
            have hI4 := hI.S s4 (fun k hk => Or.inl (by rcases hk with z | z <;> omega))
            have hM4 := hI4.1
            have hwl := hL0.2.2 (by omega)
            rw [show (aP a).length - 1 - L0 = (aP a).length - (L0 + 1) by omega] at hwl
            have hkk := kn_getD hkn (show (aP a).length - (L0 + 1) < (aP a).length by omega)
            have hin3 : vp_in (nI ((aP a).length - (L0 + 1))) 40 := vp_in_nI (by omega) (by decide)
            refine st_b2 rfl (fun zq => absurd zq (nI_nlt (by omega) (by omega))) (fun _ => ?_)
            refine st_ald rfl rfl ?_
            refine st_gR' rfl (by first | exact tT hM2 rfl | assumption | exact rw_T hM2 (by assumption) | exact rw_A hM2 (by assumption)) (by first | exact rR hM2 rfl rfl | assumption | exact rw_R hM2 (by assumption)) ?_
            refine st_ald rfl rfl ?_
            refine st_gR' rfl (by first | exact tT hM2 rfl | assumption | exact rw_T hM2 (by assumption) | exact rw_A hM2 (by assumption)) (by first | exact rR hM2 rfl rfl | assumption | exact rw_R hM2 (by assumption)) ?_
            refine st_cav (As := [_]) rfl rfl rfl (by first | exact tT hM2 rfl | assumption | exact rw_T hM2 (by assumption) | exact rw_A hM2 (by assumption)) (Nat.le_of_ble_eq_true rfl) (hb) ?_
            -- at 60: stop
            refine st_ald rfl rfl ?_
            refine st_gR' rfl (by first | exact tT hM3 rfl | assumption | exact rw_T hM3 (by assumption) | exact rw_A hM3 (by assumption)) (by first | exact rR hM3 rfl rfl | assumption | exact rw_R hM3 (by assumption)) ?_
            refine st_dup rfl rfl ?_
            refine st_gI rfl (by first | exact tT hM3 rfl | assumption | exact rw_T hM3 (by assumption) | exact rw_A hM3 (by assumption)) ?_
            -- at 68: stop
            refine wp_e (y := nI (aP a).length) (by rw [r3.1, map_len]) ?_
            refine st_ild rfl rfl ?_
            refine st_ib rfl ?_
            -- at 71: stop
            rw [pk_sub (show L0 + 1 ≤ (aP a).length by omega)]
            refine st_pI rfl (by first | exact tT hM3 rfl | assumption | exact rw_T hM3 (by assumption) | exact rw_A hM3 (by assumption)) ?_
            -- at 74: stop
            refine st_ild rfl rfl ?_
            refine st_b1 rfl (fun zq => absurd zq (nI_nle (by omega) (by omega))) (fun _ => ?_)
            refine st_ald rfl rfl ?_
            refine st_gR' rfl (by first | exact tT hM4 rfl | assumption | exact rw_T hM4 (by assumption) | exact rw_A hM4 (by assumption)) (by first | exact rR hM4 rfl rfl | assumption | exact rw_R hM4 (by assumption)) ?_
            refine st_ald rfl rfl ?_
            refine st_gR' rfl (by first | exact tT hM4 rfl | assumption | exact rw_T hM4 (by assumption) | exact rw_A hM4 (by assumption)) (by first | exact rR hM4 rfl rfl | assumption | exact rw_R hM4 (by assumption)) ?_
            refine st_gR' rfl (by first | exact tT hM4 rfl | assumption | exact rw_T hM4 (by assumption) | exact rw_A hM4 (by assumption)) (by first | exact rR hM4 rfl rfl | assumption | exact rw_R hM4 (by assumption)) ?_
            refine st_ald rfl rfl ?_
            refine st_gR' rfl (by first | exact tT hM4 rfl | assumption | exact rw_T hM4 (by assumption) | exact rw_A hM4 (by assumption)) (by first | exact rR hM4 rfl rfl | assumption | exact rw_R hM4 (by assumption)) ?_
            refine st_gI rfl (by first | exact tT hM4 rfl | assumption | exact rw_T hM4 (by assumption) | exact rw_A hM4 (by assumption)) ?_
            -- at 97: stop
            refine wp_e (y := nI ((aP a).length - (L0 + 1))) (gI_same _ _ _ _) ?_
            refine st_iald rfl (rw_A hM4 ro3) (hin3) ?_
            -- at 98: stop
            refine wp_e (y := nI ((aP a).getD ((aP a).length - (L0 + 1)) 0)) ((ro_at hI4.2.2.2.2.1 (by rw [map_len]; omega)).trans (map_getD (by omega))) ?_
            refine st_cav (As := [_]) rfl rfl rfl (by first | exact tT hM4 rfl | assumption | exact rw_T hM4 (by assumption) | exact rw_A hM4 (by assumption)) (Nat.le_of_ble_eq_true rfl) (c_isWill (d + 18) hM4 hw hI4.2.2.2.1 hkk) ?_
            refine st_b1 rfl (fun zq => absurd zq (b01_t hwl)) (fun _ => ?_)
            refine st_k rfl ?_
            -- at 106: op_iret
            exact st_iret rfl ⟨rfl, s4⟩)
      subst hr
      exact ⟨M', hcc, hI.S h5 (fun k hk => Or.inl (by rcases hk with z | z <;> omega)), (Cfr.S s1 (fun k hk => by omega)).tr (Cfr.S h5 (fun k hk => by rcases hk with z | z <;> omega))⟩
    · obtain ⟨M1, hI, s1, p1, t1, pre⟩ := mpre d M h
      refine ⟨M1, en_242 (Nat.le_of_ble_eq_true rfl) (pre _ ?_), hI, s1.fr⟩
      refine wp_for (L0 + 1) (fun un L M2 => ∃ x l5 l6 l7, x = nI un ∧ L = [some (.ref 132), some (.int (nI j)), some (.int (nI u)), some (.int 0), some (.int x), l5, l6, l7] ∧ M2 = M1) ?_ ?_ 0 _ _ (Nat.zero_le _) ⟨_, _, _, _, rfl, rfl, rfl⟩
      · rintro un L M2 hun ⟨x, l5, l6, l7, rfl, rfl, rfl⟩ ih
        refine mturn d M2 un _ hI p1 t1 (by omega) (fun _ l5 l6 l7 => ?_) (fun l' hl' => by rw [hnone un (by omega)] at hl'; cases hl') l5 l6 l7
        refine st_inc rfl rfl ?_
        refine st_go rfl ?_
        -- at 35: stop
        exact ih _ _ ⟨_, _, _, _, nI_1 un, rfl, rfl⟩
      · rintro L M2 ⟨x, l5, l6, l7, rfl, rfl, rfl⟩
        have hM2 := hI.1
        refine st_ild rfl rfl ?_
        refine st_ald rfl rfl ?_
        refine st_cav (As := []) rfl rfl rfl (by first | exact tT hM2 rfl | assumption | exact rw_T hM2 (by assumption) | exact rw_A hM2 (by assumption)) (Nat.le_of_ble_eq_true rfl) (mlo (d + 18) M2 hI) ?_
        refine st_b2 rfl (fun _ => ?_) (fun zq => absurd (nI_lt (by omega) (by omega)) zq)
        refine st_k rfl ?_
        -- at 195: op_iret
        exact st_iret rfl ⟨rfl, rfl⟩
end CHD

/-! BOTH ANSWER ALIKE: nth -/
section NTB
variable {a : As} {M : pm_M} {c : Cf}
theorem b_nth (ha : aw a) (n i r : Int32) : Both a 116 223 [.int n, .int i, .int r] := by
  have hw := ha.1
  have hn := hw.1
  have hrm := rm99 hw
  by_cases gg : (¬ n < 0 ∧ ¬ 20 < n) ∧ ¬ i < 0 ∧ (¬ r < 0 ∧ ¬ 6 ≤ r)
  case neg =>
    have rr : (¬ r < 0 ∧ ¬ 6 ≤ r) ↔ (¬ r < 0 ∧ ¬ 5 < r) := by
      rcases r_cs r with ⟨h1, h2⟩ | ⟨j, hj, hr, h1, h2⟩
      · exact ⟨fun z => absurd z h1, fun z => absurd z h2⟩
      · exact ⟨fun _ => h2, fun _ => h1⟩
    refine bo_k (x := .int (-1)) ha (fun d M h => ?_) (fun d M h => ?_)
    · refine en_116 (Nat.le_of_ble_eq_true rfl) ?_
      have bad : pm_WP (pm_call (d + 19)) tb_116 (fun r0 M1 => r0 = some (.int (-1)) ∧ M1 = M) 21 [some (.ref 0), some (.int n), some (.int i), some (.int r)] [] M := by
        refine st_k rfl ?_
        -- at 22: op_iret
        exact st_iret rfl ⟨rfl, rfl⟩
      refine st_ild rfl rfl ?_
      refine st_b1 rfl (fun z1 => ?_) (fun z1 => ?_)
      -- at 1: split 21 4
      · exact bad
      · refine st_ild rfl rfl ?_
        refine st_k rfl ?_
        refine st_b2 rfl (fun z2 => ?_) (fun z2 => ?_)
        -- at 7: split 21 10
        · exact bad
        · refine st_ild rfl rfl ?_
          refine st_b1 rfl (fun z3 => ?_) (fun z3 => ?_)
          -- at 11: split 21 14
          · exact bad
          · refine st_ild rfl rfl ?_
            refine st_call (As := [_]) rfl rfl rfl (Nat.le_of_ble_eq_true rfl) (c_isRow (d + 18) r) ?_
            refine st_b1 rfl (fun zq => absurd zq ((fun z => z (b01_f (fun w => gg ⟨⟨z1, z2⟩, z3, w⟩))))) (fun _ => ?_)
            -- at 21: stop
            exact bad
    · refine en_223 (Nat.le_of_ble_eq_true rfl) ?_
      have bad : pm_WP (pm_call (d + 19)) tb_223 (fun r0 M1 => r0 = some (.int (-1)) ∧ M1 = M) 21 [some (.ref 132), some (.int n), some (.int i), some (.int r), none, none, none, none, none, none] [] M := by
        refine st_k rfl ?_
        -- at 22: op_iret
        exact st_iret rfl ⟨rfl, rfl⟩
      refine st_ild rfl rfl ?_
      refine st_k rfl ?_
      refine st_k rfl ?_
      refine st_call (As := [_, _, _]) rfl rfl rfl (Nat.le_of_ble_eq_true rfl) (m_in (d + 18) n 0 20) ?_
      refine st_b1 rfl (fun z1 => ?_) (fun z1 => ?_)
      -- at 7: split 21 10
      · exact bad
      · have z1 := Decidable.not_not.mp (fun z => z1 (b01_f z))
        refine st_ild rfl rfl ?_
        refine st_b1 rfl (fun z3 => ?_) (fun z3 => ?_)
        -- at 11: split 21 14
        · exact bad
        · refine st_ild rfl rfl ?_
          refine st_call (As := [_]) rfl rfl rfl (Nat.le_of_ble_eq_true rfl) (m_isRow (d + 17) r) ?_
          refine st_b1 rfl (fun zq => absurd zq ((fun z => z (b01_f (fun w => gg ⟨z1, z3, rr.mpr w⟩))))) (fun _ => ?_)
          -- at 21: stop
          exact bad
  obtain ⟨g, gi, gr⟩ := gg
  rcases r_cs r with ⟨h1, h2⟩ | ⟨j, hj, hr, h1, h2⟩
  · exact absurd gr h1
  rcases n20_cs n with g' | ⟨K, hK, hn', -, gl⟩
  · exact absurd g g'
  obtain ⟨t, ht, hi⟩ := nI_of gi
  subst hr; subst hn'; subst hi
  have hin : vp_in (nI j) 6 := vp_in_nI hj (by decide)
  have ho := rw_row j hj
  have e64 : (nI t).toInt64 = lN t := nI_l ht
  have h63 := cnt63 hw hK 6 (cf_rm (aC a))
  by_cases gt : t < cnt (aC a) K 6 (cf_rm (aC a))
  case neg =>
    refine ⟨.int (-3), fd a 4, ha.fd 4, fun d M h => ?_, fun d M h => ?_⟩
    · have hM := h.1
      obtain ⟨M1, hc1, s1, y1, t1⟩ := c_ropesOf (d + 15) hM hw h.2.2.2.1 h.2.2.2.2.2.2.1 hK
      have hI := h.tal s1 y1
      have hM1 := hI.1
      refine ⟨_, en_116 (Nat.le_of_ble_eq_true rfl) ?_, hI.fd (f := 4) (by decide), (Cfr.S s1 (fun k hk => by rcases hk with z | z <;> omega)).tr (cfr_fd _ _ _)⟩
      refine st_ild rfl rfl ?_
      refine st_b1 rfl (fun zq => absurd zq (g.1)) (fun _ => ?_)
      refine st_ild rfl rfl ?_
      refine st_k rfl ?_
      refine st_b2 rfl (fun zq => absurd zq (g.2)) (fun _ => ?_)
      refine st_ild rfl rfl ?_
      refine st_b1 rfl (fun zq => absurd zq (gi)) (fun _ => ?_)
      refine st_ild rfl rfl ?_
      refine st_call (As := [_]) rfl rfl rfl (Nat.le_of_ble_eq_true rfl) (c_isRow (d + 18) _) ?_
      refine st_b1 rfl (fun _ => ?_) (fun zq => absurd (b01_t h1) zq)
      refine st_ild rfl rfl ?_
      refine st_i2l rfl ?_
      -- at 25: stop
      refine wp_el e64 ?_
      refine st_ald rfl rfl ?_
      refine st_gR' rfl (by first | exact tT hM rfl | assumption | exact rw_T hM (by assumption) | exact rw_A hM (by assumption)) (by first | exact rR hM rfl rfl | assumption | exact rw_R hM (by assumption)) ?_
      refine st_ild rfl rfl ?_
      refine st_cav (As := [_]) rfl rfl rfl (by first | exact tT hM rfl | assumption | exact rw_T hM (by assumption) | exact rw_A hM (by assumption)) (Nat.le_of_ble_eq_true rfl) (hc1) ?_
      -- at 33: stop
      refine st_lcmp rfl ?_
      refine st_b1 rfl (fun zq => absurd zq ((fun z => gt ((pk_lLT (by omega) h63).mp ((lg_cmp_lt _ _).mp z))))) (fun _ => ?_)
      refine st_ald rfl rfl ?_
      refine st_k rfl ?_
      refine st_cav (As := [_]) rfl rfl rfl (by first | exact tT hM1 rfl | assumption | exact rw_T hM1 (by assumption) | exact rw_A hM1 (by assumption)) (Nat.le_of_ble_eq_true rfl) (c_refuse (d + 18) hM1 (f := 4) (by decide)) ?_
      -- at 42: op_iret
      exact st_iret rfl ⟨rfl, rfl⟩
    · have hM := h.1
      obtain ⟨M1, hc1, s1, t1⟩ := m_layRest (d + 15) hM hw h.2.2.2.1 hK
      have hI := h.sc s1
      have hM1 := hI.1
      have hin2 : vp_in (nI ((K * 7 + 0) * 100 + 0)) 14700 := vp_in_nI (by omega) (by decide)
      refine ⟨_, en_223 (Nat.le_of_ble_eq_true rfl) ?_, hI.fd (f := 4) (by decide), s1.fr.tr (mfr_fd _ _ _)⟩
      refine st_ild rfl rfl ?_
      refine st_k rfl ?_
      refine st_k rfl ?_
      refine st_call (As := [_, _, _]) rfl rfl rfl (Nat.le_of_ble_eq_true rfl) (m_in (d + 18) _ 0 20) ?_
      refine st_b1 rfl (fun zq => absurd zq (b01_t g)) (fun _ => ?_)
      refine st_ild rfl rfl ?_
      refine st_b1 rfl (fun zq => absurd zq (gi)) (fun _ => ?_)
      refine st_ild rfl rfl ?_
      refine st_call (As := [_]) rfl rfl rfl (Nat.le_of_ble_eq_true rfl) (m_isRow (d + 17) _) ?_
      refine st_b1 rfl (fun _ => ?_) (fun zq => absurd (b01_t h2) zq)
      refine st_ald rfl rfl ?_
      refine st_ild rfl rfl ?_
      refine st_cav (As := [_]) rfl rfl rfl (by first | exact tT hM rfl | assumption | exact rw_T hM (by assumption) | exact rw_A hM (by assumption)) (Nat.le_of_ble_eq_true rfl) (hc1) ?_
      -- at 28: stop
      refine st_ald rfl rfl ?_
      refine st_gR' rfl (by first | exact tT hM1 rfl | assumption | exact rw_T hM1 (by assumption) | exact rw_A hM1 (by assumption)) (by first | exact rR hM1 rfl rfl | assumption | exact rw_R hM1 (by assumption)) ?_
      refine st_ild rfl rfl ?_
      refine st_k rfl ?_
      refine st_k rfl ?_
      refine st_call (As := [_, _, _]) rfl rfl rfl (Nat.le_of_ble_eq_true rfl) (m_restAt (m := K) (i := 0) (u := 0) (d + 18) (by decide)) ?_
      refine st_lald rfl (by first | exact tT hM1 rfl | assumption | exact rw_T hM1 (by assumption) | exact rw_A hM1 (by assumption)) (by first | decide | assumption | exact vp_in_nI (by omega) (by decide)) ?_
      -- at 39: stop
      refine wp_el (y := lN (cnt (aC a) K 6 (cf_rm (aC a)))) (by rw [nI_clamp (by omega), t1 K 0 0 (Nat.zero_le _) (by decide) (Or.inl (by omega)), ← rst_z]; rfl) ?_
      refine st_ild rfl rfl ?_
      refine st_i2l rfl ?_
      -- at 41: stop
      refine wp_el e64 ?_
      refine st_lcmp rfl ?_
      refine st_b1 rfl (fun zq => absurd zq ((fun z => gt ((pk_lLT (by omega) h63).mp ((lg_cmp_gt _ _).mp z))))) (fun _ => ?_)
      refine st_ald rfl rfl ?_
      refine st_k rfl ?_
      refine st_cav (As := [_]) rfl rfl rfl (by first | exact tT hM1 rfl | assumption | exact rw_T hM1 (by assumption) | exact rw_A hM1 (by assumption)) (Nat.le_of_ble_eq_true rfl) (m_meets (d + 18) hM1 (f := 4) (by decide)) ?_
      -- at 50: op_iret
      exact st_iret rfl ⟨rfl, rfl⟩
  have hkn := fnd_kn K 6 (cf_rm (aC a)) t gt
  have hlen := fnd_len (aC a) K 6 (cf_rm (aC a)) t
  refine ⟨.int (nI (ms (aC a) 6 (fnd (aC a) K 6 (cf_rm (aC a)) t))), sR' a j (some ((fnd (aC a) K 6 (cf_rm (aC a)) t).map nI)), ha.row _ _, fun d M h => ?_, fun d M h => ?_⟩
  · have hM := h.1
    obtain ⟨M1, hc1, s1, y1, t1⟩ := c_ropesOf (d + 15) hM hw h.2.2.2.1 h.2.2.2.2.2.2.1 hK
    have hI := h.tal s1 y1
    have hM1 := hI.1
    obtain ⟨M2, hc2, r2, s2, y2⟩ := c_find (d + 15) hM1 hw hI.2.2.2.1 y1 hK gt ho (by omega)
    have hs : pm_S (fun k => s25 k ∨ pm_oo (106 + 2 * j) k) M M2 := (s1.mo (fun k hk => Or.inl hk)).tr s2
    have hI2 : IC (sR' a j (some ((fnd (aC a) K 6 (cf_rm (aC a)) t).map nI))) M2 := by
      refine h.chg hs (fun q hq => ?_) (fun q hq => Or.inl ⟨rfl, by show ¬ ((_ ∨ _) ∨ (_ ∨ _)); omega, by show ¬ ((_ ∨ _) ∨ (_ ∨ _)); omega⟩) (Or.inl ⟨rfl, fun k _ _ => by show ¬ ((_ ∨ _) ∨ (_ ∨ _)); omega⟩) (Or.inl ⟨rfl, by show ¬ ((_ ∨ _) ∨ (_ ∨ _)); omega, by show ¬ ((_ ∨ _) ∨ (_ ∨ _)); omega⟩)
        (fun k hk => Or.inl ⟨rfl, by show ¬ ((_ ∨ _) ∨ (_ ∨ _)); omega, by show ¬ ((_ ∨ _) ∨ (_ ∨ _)); omega, hs.i (by show ¬ ((_ ∨ _) ∨ (_ ∨ _)); omega) _⟩) (Or.inr y2) (Or.inl ⟨rfl, by show ¬ ((_ ∨ _) ∨ (_ ∨ _)); omega⟩) (Or.inl ⟨rfl, rfl, rfl, by show ¬ ((_ ∨ _) ∨ (_ ∨ _)); omega⟩) (by show ¬ ((_ ∨ _) ∨ (_ ∨ _)); omega)
      by_cases z : q = j
      · subst z
        right
        show CRow M2 _ (if q = q then _ else _)
        rw [if_pos rfl]
        exact r2
      · left
        exact ⟨if_neg z, by show ¬ ((_ ∨ _) ∨ (_ ∨ _)); omega, by show ¬ ((_ ∨ _) ∨ (_ ∨ _)); omega⟩
    have hM2 := hI2.1
    refine ⟨M2, en_116 (Nat.le_of_ble_eq_true rfl) ?_, hI2, Cfr.S hs (fun k hk => by rcases hk with (z | z) | (z | z) <;> omega)⟩
    refine st_ild rfl rfl ?_
    refine st_b1 rfl (fun zq => absurd zq (g.1)) (fun _ => ?_)
    refine st_ild rfl rfl ?_
    refine st_k rfl ?_
    refine st_b2 rfl (fun zq => absurd zq (g.2)) (fun _ => ?_)
    refine st_ild rfl rfl ?_
    refine st_b1 rfl (fun zq => absurd zq (gi)) (fun _ => ?_)
    refine st_ild rfl rfl ?_
    refine st_call (As := [_]) rfl rfl rfl (Nat.le_of_ble_eq_true rfl) (c_isRow (d + 18) _) ?_
    refine st_b1 rfl (fun _ => ?_) (fun zq => absurd (b01_t h1) zq)
    refine st_ild rfl rfl ?_
    refine st_i2l rfl ?_
    -- at 25: stop
    refine wp_el e64 ?_
    refine st_ald rfl rfl ?_
    refine st_gR' rfl (by first | exact tT hM rfl | assumption | exact rw_T hM (by assumption) | exact rw_A hM (by assumption)) (by first | exact rR hM rfl rfl | assumption | exact rw_R hM (by assumption)) ?_
    refine st_ild rfl rfl ?_
    refine st_cav (As := [_]) rfl rfl rfl (by first | exact tT hM rfl | assumption | exact rw_T hM (by assumption) | exact rw_A hM (by assumption)) (Nat.le_of_ble_eq_true rfl) (hc1) ?_
    -- at 33: stop
    refine st_lcmp rfl ?_
    refine st_b1 rfl (fun _ => ?_) (fun zq => absurd ((lg_cmp_lt _ _).mpr ((pk_lLT (by omega) h63).mpr gt)) zq)
    refine st_ald rfl rfl ?_
    refine st_gR' rfl (by first | exact tT hM1 rfl | assumption | exact rw_T hM1 (by assumption) | exact rw_A hM1 (by assumption)) (by first | exact rR hM1 rfl rfl | assumption | exact rw_R hM1 (by assumption)) ?_
    refine st_ild rfl rfl ?_
    refine st_ild rfl rfl ?_
    refine st_i2l rfl ?_
    -- at 50: stop
    refine wp_el e64 ?_
    refine st_ald rfl rfl ?_
    refine st_gR' rfl (by first | exact tT hM1 rfl | assumption | exact rw_T hM1 (by assumption) | exact rw_A hM1 (by assumption)) (by first | exact rR hM1 rfl rfl | assumption | exact rw_R hM1 (by assumption)) ?_
    refine st_ild rfl rfl ?_
    refine st_aald' rfl (by first | exact tT hM1 rfl | assumption | exact rw_T hM1 (by assumption) | exact rw_A hM1 (by assumption)) (by first | decide | assumption | exact vp_in_nI (by omega) (by decide)) (by first | assumption | exact rRow' hM1 (by assumption) | exact rTxt' hM1 (by assumption) | exact rKep' hM1 (by assumption) | exact rRdg' hM1 (by assumption)) ?_
    refine st_cav (As := [_, _, _]) rfl rfl rfl (by first | exact tT hM1 rfl | assumption | exact rw_T hM1 (by assumption) | exact rw_A hM1 (by assumption)) (Nat.le_of_ble_eq_true rfl) (hc2) ?_
    -- at 59: stop
    refine st_ald rfl rfl ?_
    refine st_gR' rfl (by first | exact tT hM2 rfl | assumption | exact rw_T hM2 (by assumption) | exact rw_A hM2 (by assumption)) (by first | exact rR hM2 rfl rfl | assumption | exact rw_R hM2 (by assumption)) ?_
    refine st_ald rfl rfl ?_
    refine st_gR' rfl (by first | exact tT hM2 rfl | assumption | exact rw_T hM2 (by assumption) | exact rw_A hM2 (by assumption)) (by first | exact rR hM2 rfl rfl | assumption | exact rw_R hM2 (by assumption)) ?_
    refine st_ild rfl rfl ?_
    refine st_aald' rfl (by first | exact tT hM2 rfl | assumption | exact rw_T hM2 (by assumption) | exact rw_A hM2 (by assumption)) (by first | decide | assumption | exact vp_in_nI (by omega) (by decide)) (by first | assumption | exact rRow' hM2 (by assumption) | exact rTxt' hM2 (by assumption) | exact rKep' hM2 (by assumption) | exact rRdg' hM2 (by assumption)) ?_
    refine st_cav (As := [_]) rfl rfl rfl (by first | exact tT hM2 rfl | assumption | exact rw_T hM2 (by assumption) | exact rw_A hM2 (by assumption)) (Nat.le_of_ble_eq_true rfl) (c_measure (d + 17) hM2 hw hI2.2.2.2.1 ho hkn r2) ?_
    -- at 72: op_iret
    exact st_iret rfl ⟨rfl, rfl⟩
  · have hM := h.1
    obtain ⟨M1, hc1, s1, t1⟩ := m_layRest (d + 15) hM hw h.2.2.2.1 hK
    have hI := h.sc s1
    have hM1 := hI.1
    have hin2 : vp_in (nI ((K * 7 + 0) * 100 + 0)) 14700 := vp_in_nI (by omega) (by decide)
    have loop : ∀ m il used left ws x xl y9 M2, x = nI m → xl = nI il - 1 → il ≤ cf_n (aC a) → used ≤ cf_rm (aC a) → ws.length + m = K → kn (aC a) ws → left < cnt (aC a) m (lx il) (cf_rm (aC a) - used) → fnd (aC a) K 6 (cf_rm (aC a)) t = ws ++ fnd (aC a) m (lx il) (cf_rm (aC a) - used) left → Lk M2 ws → Msc M1 M2 → RT (aC a) (K + 1) 0 0 M2 → pm_WP (pm_call (d + 19)) tb_223 (fun r0 M' => r0 = some (.int (nI (ms (aC a) 6 (fnd (aC a) K 6 (cf_rm (aC a)) t)))) ∧ IM (sR' a j (some ((fnd (aC a) K 6 (cf_rm (aC a)) t).map nI))) M' ∧ Mfr M M') 69 [some (.ref 132), some (.int (nI K)), some (.int (nI t)), some (.int (nI j)), some (.long (lN left)), none, some (.int (nI used)), some (.int xl), some (.int x), y9] [] M2 := by
      intro m
      induction m with
      | zero =>
        intro il used left ws x xl y9 M2 hx hxl hil hu hl hk hle he hL hs hrt
        subst hx
        have hM2 := hs.ok hM1
        have he2 : fnd (aC a) K 6 (cf_rm (aC a)) t = ws := by rw [he]; exact List.append_nil _
        obtain ⟨M3, hc3, h7, h8⟩ := m_layRow (d + 18) hM2 hj (k := 147) (n := 24) (l := ws.map nI) (tT hM2 rfl) (by decide) (by rw [map_len]; omega) (by rw [map_len]; omega) (fun i hi => by rw [map_len] at hi; rw [hL.2.2 i hi, map_getD hi])
        rw [map_len] at hc3
        have hI3 := (hI.sc hs).lay h8 h7
        have hM3 := hI3.1
        have hL3 : Lk M3 ws := ⟨by rw [h8.2.2.1 132 29 (by omega) (by omega)]; exact hL.1, hL.2.1, fun i hi => by rw [h8.2.2.1 147 i (by omega) (by omega)]; exact hL.2.2 i hi⟩
        refine st_ild rfl rfl ?_
        refine st_b1 rfl (fun _ => ?_) (fun zq => absurd ((by decide)) zq)
        refine st_ald rfl rfl ?_
        refine st_ild rfl rfl ?_
        refine st_ald rfl rfl ?_
        refine st_gR' rfl (by first | exact tT hM2 rfl | assumption | exact rw_T hM2 (by assumption) | exact rw_A hM2 (by assumption)) (by first | exact rR hM2 rfl rfl | assumption | exact rw_R hM2 (by assumption)) ?_
        refine st_ald rfl rfl ?_
        refine st_gI rfl (by first | exact tT hM2 rfl | assumption | exact rw_T hM2 (by assumption) | exact rw_A hM2 (by assumption)) ?_
        -- at 172: stop
        refine wp_e hL.1 ?_
        refine st_cav (As := [_, _, _]) rfl rfl rfl (by first | exact tT hM2 rfl | assumption | exact rw_T hM2 (by assumption) | exact rw_A hM2 (by assumption)) (Nat.le_of_ble_eq_true rfl) (hc3) ?_
        -- at 175: stop
        refine st_ald rfl rfl ?_
        refine st_cav (As := []) rfl rfl rfl (by first | exact tT hM3 rfl | assumption | exact rw_T hM3 (by assumption) | exact rw_A hM3 (by assumption)) (Nat.le_of_ble_eq_true rfl) (m_lookTakes (d + 16) hM3 hw hI3.2.2.2.1 hk hL3) ?_
        -- at 179: op_iret
        exact st_iret rfl ⟨by rw [he2], by rw [he2]; exact hI3, s1.fr.tr (hs.fr.tr h8.fr)⟩
      | succ m ih =>
        intro il used left ws x xl y9 M2 hx hxl hil hu hl hk hle he hL hs hrt
        subst hx; subst hxl
        have hM2 := hs.ok hM1
        have hc2 := hI.2.2.2.1.sc hs
        have hla := lx_lst hil
        have hc63 := cnt63 hw (show m + 1 ≤ 20 by omega) (lx il) (cf_rm (aC a) - used)
        obtain ⟨p1, p2, p3, p4, p5⟩ := pick_ok hle
        generalize hk0 : pks (fk (aC a) m (lx il) (cf_rm (aC a) - used)) left (cf_n (aC a)) = k0 at p1 p2 p3 p4 p5
        have hfs : fnd (aC a) (m + 1) (lx il) (cf_rm (aC a) - used) left = k0 :: fnd (aC a) m k0 (cf_rm (aC a) - used - tk (aC a) (lx il) k0) (left - sk (fk (aC a) m (lx il) (cf_rm (aC a) - used)) k0) := by rw [← hk0]; rfl
        have hrb : ∀ k, k < cf_n (aC a) → pm_call (d + 19) 220 [.ref 132, .int (nI (m + 1)), .int (nI il - 1), .int (nI used), .int (nI k)] M2 (some (.long (lN (fk (aC a) m (lx il) (cf_rm (aC a) - used) k)))) M2 := fun k hkn => by
          rw [← rb_fk hw hu]
          exact m_restBy (d + 16) hM2 hw hc2 rfl hil (by omega) hkn (by omega) (fun m' i' u' h1 h2 h3 => hrt m' i' u' h1 h2 (by omega))
        refine st_ild rfl rfl ?_
        refine st_b1 rfl (fun zq => absurd zq (nI_nle (by omega) (by omega))) (fun _ => ?_)
        refine st_k rfl ?_
        refine st_ist rfl ?_
        -- at 77: stop
        refine wp_for k0 (fun q L M3 => ∃ x, x = nI q ∧ L = [some (.ref 132), some (.int (nI K)), some (.int (nI t)), some (.int (nI j)), some (.long (lN (left - sk (fk (aC a) m (lx il) (cf_rm (aC a) - used)) q))), none, some (.int (nI used)), some (.int (nI il - 1)), some (.int (nI (m + 1))), some (.int x)] ∧ M3 = M2) ?_ ?_ 0 _ _ (Nat.zero_le _) ⟨_, rfl, rfl, rfl⟩
        · rintro q L M3 hq ⟨x, rfl, rfl, rfl⟩ ih2
          have hqn : q < cf_n (aC a) := by omega
          have hmo := sk_mono (fk (aC a) m (lx il) (cf_rm (aC a) - used)) (k := q + 1) k0 (by omega)
          rw [sk_s] at hmo
          have f63 := fk63 hw (show m ≤ 20 by omega) (lx il) (cf_rm (aC a) - used) q
          refine st_lld rfl rfl ?_
          refine st_ald rfl rfl ?_
          refine st_ild rfl rfl ?_
          refine st_ild rfl rfl ?_
          refine st_ild rfl rfl ?_
          refine st_ild rfl rfl ?_
          refine st_cav (As := [_, _, _, _]) rfl rfl rfl (by first | exact tT hM2 rfl | assumption | exact rw_T hM2 (by assumption) | exact rw_A hM2 (by assumption)) (Nat.le_of_ble_eq_true rfl) (hrb q hqn) ?_
          refine st_lcmp rfl ?_
          refine st_b1 rfl (fun zq => absurd zq ((fun z => absurd ((pk_lLT (by omega) f63).mp ((lg_cmp_lt _ _).mp z)) (by omega)))) (fun _ => ?_)
          refine st_lld rfl rfl ?_
          refine st_ald rfl rfl ?_
          refine st_ild rfl rfl ?_
          refine st_ild rfl rfl ?_
          refine st_ild rfl rfl ?_
          refine st_ild rfl rfl ?_
          refine st_cav (As := [_, _, _, _]) rfl rfl rfl (by first | exact tT hM2 rfl | assumption | exact rw_T hM2 (by assumption) | exact rw_A hM2 (by assumption)) (Nat.le_of_ble_eq_true rfl) (hrb q hqn) ?_
          refine st_lb rfl ?_
          -- at 110: stop
          refine wp_el (lN_sub (by omega)) ?_
          refine st_lst rfl ?_
          refine st_inc rfl rfl ?_
          refine st_go rfl ?_
          -- at 77: stop
          exact ih2 _ _ ⟨_, nI_1 q, by rw [sk_s, Nat.sub_sub]; rfl, rfl⟩
        · rintro L M3 ⟨x, rfl, rfl, rfl⟩
          have htk := tk_le hw (last := lx il) p1
          have ef : fk (aC a) m (lx il) (cf_rm (aC a) - used) k0 = cnt (aC a) m k0 (cf_rm (aC a) - used - tk (aC a) (lx il) k0) := by unfold fk; rw [p4, if_neg (by decide), if_pos p5]
          have f63 := fk63 hw (show m ≤ 20 by omega) (lx il) (cf_rm (aC a) - used) k0
          have htak := m_takeOf (d + 17) hM2 hw hc2 hla p1
          rw [lx_32 il (by omega)] at htak
          have hin3 : vp_in (nI ws.length) 24 := vp_in_nI (by omega) (by decide)
          refine st_lld rfl rfl ?_
          refine st_ald rfl rfl ?_
          refine st_ild rfl rfl ?_
          refine st_ild rfl rfl ?_
          refine st_ild rfl rfl ?_
          refine st_ild rfl rfl ?_
          refine st_cav (As := [_, _, _, _]) rfl rfl rfl (by first | exact tT hM2 rfl | assumption | exact rw_T hM2 (by assumption) | exact rw_A hM2 (by assumption)) (Nat.le_of_ble_eq_true rfl) (hrb k0 p1) ?_
          refine st_lcmp rfl ?_
          refine st_b1 rfl (fun _ => ?_) (fun zq => absurd ((lg_cmp_lt _ _).mpr ((pk_lLT (by omega) f63).mpr (by omega))) zq)
          refine st_ild rfl rfl ?_
          refine st_ald rfl rfl ?_
          refine st_ild rfl rfl ?_
          refine st_ild rfl rfl ?_
          refine st_cav (As := [_, _]) rfl rfl rfl (by first | exact tT hM2 rfl | assumption | exact rw_T hM2 (by assumption) | exact rw_A hM2 (by assumption)) (Nat.le_of_ble_eq_true rfl) (htak) ?_
          refine st_ib rfl ?_
          -- at 129: stop
          refine wp_e (nI_add _ _) ?_
          refine st_ist rfl ?_
          refine st_ild rfl rfl ?_
          refine st_ist rfl ?_
          refine st_ald rfl rfl ?_
          refine st_gR' rfl (by first | exact tT hM2 rfl | assumption | exact rw_T hM2 (by assumption) | exact rw_A hM2 (by assumption)) (by first | exact rR hM2 rfl rfl | assumption | exact rw_R hM2 (by assumption)) ?_
          refine st_ald rfl rfl ?_
          refine st_gI rfl (by first | exact tT hM2 rfl | assumption | exact rw_T hM2 (by assumption) | exact rw_A hM2 (by assumption)) ?_
          -- at 143: stop
          refine wp_e hL.1 ?_
          refine st_ild rfl rfl ?_
          refine st_iast rfl (tT hM2 rfl) (hin3) ?_
          refine st_ald rfl rfl ?_
          refine st_dup rfl rfl ?_
          refine st_gI rfl (by first | exact tT hM2 rfl | assumption | exact rw_T hM2 (by assumption) | exact rw_A hM2 (by assumption)) ?_
          -- at 151: stop
          rw [nI_clamp (show ws.length < 2 ^ 31 by omega)]
          refine wp_e (y := nI ws.length) (by rw [gI_ne (Or.inl (by decide))]; exact hL.1) ?_
          refine st_k rfl ?_
          refine st_ib rfl ?_
          -- at 153: stop
          rw [nI_1]
          refine st_pI rfl (by first | exact tT hM2 rfl | assumption | exact rw_T hM2 (by assumption) | exact rw_A hM2 (by assumption)) ?_
          refine st_inc rfl rfl ?_
          refine st_go rfl ?_
          -- at 69: stop
          refine ih (k0 + 1) (used + tk (aC a) (lx il) k0) (left - sk (fk (aC a) m (lx il) (cf_rm (aC a) - used)) k0) (ws ++ [k0]) _ _ _ _ (pk_m1 m) (nI_pred k0).symm (by omega) (by omega) (by simp; omega) (fun q hq => (List.mem_append.mp hq).elim (hk q) (fun z => by rw [List.mem_singleton.mp z]; exact p1)) ?_ ?_ (lk_add hL (by omega)) ((hs.sI _ (by omega)).sI _ (by omega)) hrt
          · show _ < cnt (aC a) m k0 _
            rw [show cf_rm (aC a) - (used + tk (aC a) (lx il) k0) = cf_rm (aC a) - used - tk (aC a) (lx il) k0 by omega]
            exact p3
          · rw [he, hfs, show cf_rm (aC a) - (used + tk (aC a) (lx il) k0) = cf_rm (aC a) - used - tk (aC a) (lx il) k0 by omega]
            show _ = _ ++ fnd (aC a) m k0 _ _
            simp
    obtain ⟨r, M', hcc, hr', h9, h10⟩ := eq_223 (d := d + 19) (A := [.ref 132, .int (nI K), .int (nI t), .int (nI j)]) (M := M) (Q := fun r0 M' => r0 = some (.int (nI (ms (aC a) 6 (fnd (aC a) K 6 (cf_rm (aC a)) t)))) ∧ IM (sR' a j (some ((fnd (aC a) K 6 (cf_rm (aC a)) t).map nI))) M' ∧ Mfr M M') (Nat.le_of_ble_eq_true rfl) (by
      refine st_ild rfl rfl ?_
      refine st_k rfl ?_
      refine st_k rfl ?_
      refine st_call (As := [_, _, _]) rfl rfl rfl (Nat.le_of_ble_eq_true rfl) (m_in (d + 18) _ 0 20) ?_
      refine st_b1 rfl (fun zq => absurd zq (b01_t g)) (fun _ => ?_)
      refine st_ild rfl rfl ?_
      refine st_b1 rfl (fun zq => absurd zq (gi)) (fun _ => ?_)
      refine st_ild rfl rfl ?_
      refine st_call (As := [_]) rfl rfl rfl (Nat.le_of_ble_eq_true rfl) (m_isRow (d + 17) _) ?_
      refine st_b1 rfl (fun _ => ?_) (fun zq => absurd (b01_t h2) zq)
      refine st_ald rfl rfl ?_
      refine st_ild rfl rfl ?_
      refine st_cav (As := [_]) rfl rfl rfl (by first | exact tT hM rfl | assumption | exact rw_T hM (by assumption) | exact rw_A hM (by assumption)) (Nat.le_of_ble_eq_true rfl) (hc1) ?_
      -- at 28: stop
      refine st_ald rfl rfl ?_
      refine st_gR' rfl (by first | exact tT hM1 rfl | assumption | exact rw_T hM1 (by assumption) | exact rw_A hM1 (by assumption)) (by first | exact rR hM1 rfl rfl | assumption | exact rw_R hM1 (by assumption)) ?_
      refine st_ild rfl rfl ?_
      refine st_k rfl ?_
      refine st_k rfl ?_
      refine st_call (As := [_, _, _]) rfl rfl rfl (Nat.le_of_ble_eq_true rfl) (m_restAt (m := K) (i := 0) (u := 0) (d + 18) (by decide)) ?_
      refine st_lald rfl (by first | exact tT hM1 rfl | assumption | exact rw_T hM1 (by assumption) | exact rw_A hM1 (by assumption)) (by first | decide | assumption | exact vp_in_nI (by omega) (by decide)) ?_
      -- at 39: stop
      refine wp_el (y := lN (cnt (aC a) K 6 (cf_rm (aC a)))) (by rw [nI_clamp (by omega), t1 K 0 0 (Nat.zero_le _) (by decide) (Or.inl (by omega)), ← rst_z]; rfl) ?_
      refine st_ild rfl rfl ?_
      refine st_i2l rfl ?_
      -- at 41: stop
      refine wp_el e64 ?_
      refine st_lcmp rfl ?_
      refine st_b1 rfl (fun _ => ?_) (fun zq => absurd ((lg_cmp_gt _ _).mpr ((pk_lLT (by omega) h63).mpr gt)) zq)
      refine st_ild rfl rfl ?_
      refine st_i2l rfl ?_
      -- at 53: stop
      refine wp_el e64 ?_
      refine st_lst rfl ?_
      refine st_k rfl ?_
      refine st_ist rfl ?_
      refine st_k rfl ?_
      refine st_ist rfl ?_
      refine st_ald rfl rfl ?_
      refine st_k rfl ?_
      refine st_pI rfl (by first | exact tT hM1 rfl | assumption | exact rw_T hM1 (by assumption) | exact rw_A hM1 (by assumption)) ?_
      refine st_ild rfl rfl ?_
      refine st_ist rfl ?_
      -- at 69: stop
      exact loop K 0 0 t [] _ _ _ _ rfl (by decide) (Nat.zero_le _) (Nat.zero_le _) (by simp) (fun k hk => absurd hk List.not_mem_nil) gt rfl ⟨gI_same _ _ _ _, by simp, fun i hi => by simp at hi⟩ ((Msc.rf M1).sI _ (by omega)) t1)
    subst hr'
    exact ⟨M', hcc, h9, h10⟩
end NTB

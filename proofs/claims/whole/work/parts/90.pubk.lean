/-! BOTH ANSWER ALIKE: upTo, nth -/
section NTH
variable {a : As} {M : pm_M} {c : Cf}
theorem b_upTo (ha : aw a) (n : Int32) : Both a 131 222 [.int n] := by
  rcases n20_cs n with g | ⟨K, hK, rfl, g, gl⟩
  · refine bo_k (x := .long 0) ha (fun d M h => ?_) (fun d M h => ?_)
    · refine en_131 (Nat.le_of_ble_eq_true rfl) ?_
      refine st_ild rfl rfl ?_
      refine st_b1 rfl (fun z => ?_) (fun z => ?_)
      -- at 1: split 10 4
      · refine st_k rfl ?_
        -- at 11: op_lret
        exact st_lret rfl ⟨rfl, rfl⟩
      · refine st_ild rfl rfl ?_
        refine st_k rfl ?_
        refine st_b2 rfl (fun zq => absurd zq ((fun w => g ⟨z, Int32.not_lt.mpr w⟩))) (fun _ => ?_)
        refine st_k rfl ?_
        -- at 11: op_lret
        exact st_lret rfl ⟨rfl, rfl⟩
    · refine en_222 (Nat.le_of_ble_eq_true rfl) ?_
      refine st_ild rfl rfl ?_
      refine st_k rfl ?_
      refine st_k rfl ?_
      refine st_call (As := [_, _, _]) rfl rfl rfl (Nat.le_of_ble_eq_true rfl) (m_in (d + 18) n 0 20) ?_
      refine st_b1 rfl (fun zq => absurd zq ((fun z => z (b01_f g)))) (fun _ => ?_)
      refine st_k rfl ?_
      -- at 11: op_lret
      exact st_lret rfl ⟨rfl, rfl⟩
  · refine ⟨.long (lN (sk (fun k => cnt (aC a) k 6 (cf_rm (aC a))) (K + 1))), a, ha, fun d M h => ?_, fun d M h => ?_⟩
    · have hM := h.1
      obtain ⟨r, M', hcc, hr, h5, h6⟩ := eq_131 (d := d + 19) (A := [.ref 0, .int (nI K)]) (M := M) (Q := fun r M' => r = some (.long (lN (sk (fun k => cnt (aC a) k 6 (cf_rm (aC a))) (K + 1)))) ∧ pm_S s25 M M' ∧ CY (aC a) M') (Nat.le_of_ble_eq_true rfl) (by
        refine st_ild rfl rfl ?_
        refine st_b1 rfl (fun zq => absurd zq (g.1)) (fun _ => ?_)
        refine st_ild rfl rfl ?_
        refine st_k rfl ?_
        refine st_b2 rfl (fun _ => ?_) (fun zq => absurd (gl) zq)
        refine st_k rfl ?_
        refine st_lst rfl ?_
        refine st_k rfl ?_
        refine st_ist rfl ?_
        -- at 17: stop
        refine wp_for (K + 1) (fun i L M1 => ∃ x, x = nI i ∧ L = [some (.ref 0), some (.int (nI K)), some (.long (lN (sk (fun k => cnt (aC a) k 6 (cf_rm (aC a))) i))), none, some (.int x)] ∧ pm_S s25 M M1 ∧ CY (aC a) M1) ?_ ?_ 0 _ _ (Nat.zero_le _) ⟨_, rfl, rfl, pm_S.rf, h.2.2.2.2.2.2.1⟩
        · rintro i L M1 hi ⟨x, rfl, rfl, hs, hy⟩ ih
          have hI := h.tal hs hy
          have hM1 := hI.1
          obtain ⟨M2, hc2, h1, h2, h3⟩ := c_ropesOf (d + 15) hM1 ha.1 hI.2.2.2.1 hy (K := i) (by omega)
          have hM2 := h1.ok hM1
          refine st_ild rfl rfl ?_
          refine st_ild rfl rfl ?_
          refine st_b2 rfl (fun zq => absurd zq (nI_nlt (by omega) (by omega))) (fun _ => ?_)
          refine st_lld rfl rfl ?_
          refine st_ald rfl rfl ?_
          refine st_gR' rfl (by first | exact tT hM1 rfl | assumption | exact rw_T hM1 (by assumption) | exact rw_A hM1 (by assumption)) (by first | exact rR hM1 rfl rfl | assumption | exact rw_R hM1 (by assumption)) ?_
          refine st_ild rfl rfl ?_
          refine st_cav (As := [_]) rfl rfl rfl (by first | exact tT hM1 rfl | assumption | exact rw_T hM1 (by assumption) | exact rw_A hM1 (by assumption)) (Nat.le_of_ble_eq_true rfl) (hc2) ?_
          -- at 33: stop
          refine st_lb rfl ?_
          -- at 34: stop
          refine wp_el (lN_add _ _) ?_
          refine st_lst rfl ?_
          refine st_inc rfl rfl ?_
          refine st_go rfl ?_
          -- at 17: stop
          exact ih _ _ ⟨_, nI_1 i, rfl, hs.tr h1, h2⟩
        · rintro L M1 ⟨x, rfl, rfl, hs, hy⟩
          refine st_ild rfl rfl ?_
          refine st_ild rfl rfl ?_
          refine st_b2 rfl (fun _ => ?_) (fun zq => absurd (nI_lt (by omega) (by omega)) zq)
          refine st_lld rfl rfl ?_
          -- at 42: op_lret
          exact st_lret rfl ⟨rfl, hs, hy⟩)
      subst hr
      exact ⟨M', hcc, h.tal h5 h6, Cfr.S h5 (fun k hk => by rcases hk with z | z <;> omega)⟩
    · have hM := h.1
      obtain ⟨M1, hc1, h1, h2⟩ := m_layRest (d + 15) hM ha.1 h.2.2.2.1 hK
      have hI := h.sc h1
      have hM1 := hI.1
      refine ⟨M1, en_222 (Nat.le_of_ble_eq_true rfl) ?_, hI, h1.fr⟩
      refine st_ild rfl rfl ?_
      refine st_k rfl ?_
      refine st_k rfl ?_
      refine st_call (As := [_, _, _]) rfl rfl rfl (Nat.le_of_ble_eq_true rfl) (m_in (d + 18) _ 0 20) ?_
      refine st_b1 rfl (fun _ => ?_) (fun zq => absurd (b01_t g) zq)
      refine st_ald rfl rfl ?_
      refine st_ild rfl rfl ?_
      refine st_cav (As := [_]) rfl rfl rfl (by first | exact tT hM rfl | assumption | exact rw_T hM (by assumption) | exact rw_A hM (by assumption)) (Nat.le_of_ble_eq_true rfl) (hc1) ?_
      -- at 17: stop
      refine st_k rfl ?_
      refine st_lst rfl ?_
      refine st_k rfl ?_
      refine st_ist rfl ?_
      -- at 22: stop
      refine wp_for (K + 1) (fun i L M2 => ∃ x, x = nI i ∧ L = [some (.ref 132), some (.int (nI K)), some (.long (lN (sk (fun k => cnt (aC a) k 6 (cf_rm (aC a))) i))), none, some (.int x)] ∧ M2 = M1) ?_ ?_ 0 _ _ (Nat.zero_le _) ⟨_, rfl, rfl, rfl⟩
      · rintro i L M2 hi ⟨x, rfl, rfl, rfl⟩ ih
        have hin : vp_in (nI ((i * 7 + 0) * 100 + 0)) 14700 := vp_in_nI (by omega) (by decide)
        refine st_ild rfl rfl ?_
        refine st_ild rfl rfl ?_
        refine st_b2 rfl (fun zq => absurd zq (nI_nlt (by omega) (by omega))) (fun _ => ?_)
        refine st_lld rfl rfl ?_
        refine st_ald rfl rfl ?_
        refine st_gR' rfl (by first | exact tT hM1 rfl | assumption | exact rw_T hM1 (by assumption) | exact rw_A hM1 (by assumption)) (by first | exact rR hM1 rfl rfl | assumption | exact rw_R hM1 (by assumption)) ?_
        refine st_ild rfl rfl ?_
        refine st_k rfl ?_
        refine st_k rfl ?_
        refine st_call (As := [_, _, _]) rfl rfl rfl (Nat.le_of_ble_eq_true rfl) (m_restAt (m := i) (i := 0) (u := 0) (d + 18) (by decide)) ?_
        refine st_lald rfl (by first | exact tT hM1 rfl | assumption | exact rw_T hM1 (by assumption) | exact rw_A hM1 (by assumption)) (by first | decide | assumption | exact vp_in_nI (by omega) (by decide)) ?_
        -- at 41: stop
        refine wp_el (y := lN (cnt (aC a) i 6 (cf_rm (aC a)))) (by rw [nI_clamp (by omega), h2 i 0 0 (Nat.zero_le _) (by decide) (Or.inl (by omega)), ← rst_z]; rfl) ?_
        refine st_lb rfl ?_
        -- at 42: stop
        refine wp_el (lN_add _ _) ?_
        refine st_lst rfl ?_
        refine st_inc rfl rfl ?_
        refine st_go rfl ?_
        -- at 22: stop
        exact ih _ _ ⟨_, nI_1 i, rfl, rfl⟩
      · rintro L M2 ⟨x, rfl, rfl, rfl⟩
        refine st_ild rfl rfl ?_
        refine st_ild rfl rfl ?_
        refine st_b2 rfl (fun _ => ?_) (fun zq => absurd (nI_lt (by omega) (by omega)) zq)
        refine st_lld rfl rfl ?_
        -- at 50: op_lret
        exact st_lret rfl ⟨rfl, rfl⟩
theorem cnt63 {c : Cf} (hw : cf_wf c) {m : Nat} (hm : m ≤ 20) (last room : Nat) : cnt c m last room < 2 ^ 63 := Nat.lt_of_le_of_lt (cnt_le hw m last room) (Nat.lt_of_le_of_lt (Nat.pow_le_pow_right (n := 6) (by decide) hm) (by decide))
theorem fk63 {c : Cf} (hw : cf_wf c) {m : Nat} (hm : m ≤ 20) (last room k : Nat) : fk c m last room k < 2 ^ 63 := by
  unfold fk
  split
  · decide
  · split
    · exact cnt63 hw hm _ _
    · decide
theorem c_find (d : Nat) (hM : pm_ok M) (hw : cf_wf c) (hc : CC c M) (hy : CY c M) {K t0 o : Nat} (hK : K ≤ 20) (ht0 : t0 < cnt c K 6 (cf_rm c)) (ho : pm_rw o = true) (ho2 : 105 < o) : ∃ M', pm_call (d + 4) 83 [.ref 25, .int (nI K), .long (lN t0), .ref o] M none M' ∧ pm_Ro M' o ((fnd c K 6 (cf_rm c) t0).map nI) ∧ pm_S (fun k => s25 k ∨ pm_oo o k) M M' ∧ CY c M' := by
  have hn := hw.1
  have hrm := rm99 hw
  obtain ⟨M0, hc0, s0, y0, t0'⟩ := c_workOut d hM hw hc hy hK
  have loop : ∀ m last room t ws x y10 y11 y12 y13 M1, x = nI m - 1 → ws.length + m = K → lst c last → room ≤ cf_rm c → t < cnt c m last room → fnd c K 6 (cf_rm c) t0 = ws ++ fnd c m last room t → pm_Ro M1 o (ws.map nI) → pm_S (pm_oo o) M0 M1 → pm_WP (pm_call (d + 3)) tb_83 (fun r M' => r = none ∧ pm_Ro M' o ((fnd c K 6 (cf_rm c) t0).map nI) ∧ pm_S (pm_oo o) M0 M') 31 [some (.ref 25), some (.int (nI K)), some (.long (lN t0)), none, some (.ref o), some (.int (nI last)), some (.int (nI room)), some (.long (lN t)), none, some (.int x), y10, y11, y12, y13] [] M1 := by
    intro m
    induction m with
    | zero =>
      intro last room t ws x y10 y11 y12 y13 M1 hx hl hla hro ht he hr hs
      subst hx
      refine st_ild rfl rfl ?_
      refine st_b1 rfl (fun _ => ?_) (fun zq => absurd ((by decide)) zq)
      -- at 156: op_vret
      exact st_vret rfl ⟨rfl, by rw [he]; show pm_Ro M1 o ((ws ++ []).map nI); rw [List.append_nil]; exact hr, hs⟩
    | succ m ih =>
      intro last room t ws x y10 y11 y12 y13 M1 hx hl hla hro ht he hr hs
      have hx2 : x = nI m := by rw [hx]; exact nI_pred m
      subst hx2
      have hM1 := hs.ok (s0.ok hM)
      have hc1 := (hc.kept s0 (fun k _ _ => by show ¬ (_ ∨ _); omega)).kept hs (fun k _ _ => by show ¬ (_ ∨ _); omega)
      have hc63 := cnt63 hw (show m + 1 ≤ 20 by omega) last room
      have hl6 := lst6 hw hla
      obtain ⟨p1, p2, p3, p4, p5⟩ := pick_ok ht
      generalize hk0 : pks (fk c m last room) t (cf_n c) = k0 at p1 p2 p3 p4 p5
      have htab : ∀ k, k < cf_n c → ∀ r, r < 100 → gL M1 26 ((m * 7 + k) * 100 + r) = lN (cnt c m k r) := fun k hk r hr => by
        rw [hs.l (by show ¬ (_ ∨ _); omega)]; exact t0' m k r (by omega) (Or.inl hk) hr
      have hfs : fnd c (m + 1) last room t = k0 :: fnd c m k0 (room - tk c last k0) (t - sk (fk c m last room) k0) := by rw [← hk0]; rfl
      refine st_ild rfl rfl ?_
      refine st_b1 rfl (fun zq => absurd zq (nI_pos (by omega))) (fun _ => ?_)
      refine st_k rfl ?_
      refine st_ist rfl ?_
      -- at 39: stop
      refine wp_for k0 (fun j L M2 => ∃ x y11 y12 y13, x = nI j ∧ L = [some (.ref 25), some (.int (nI K)), some (.long (lN t0)), none, some (.ref o), some (.int (nI last)), some (.int (nI room)), some (.long (lN (t - sk (fk c m last room) j))), none, some (.int (nI m)), some (.int x), y11, y12, y13] ∧ M2 = M1) ?_ ?_ 0 _ _ (Nat.zero_le _) ⟨_, _, _, _, rfl, rfl, rfl⟩
      · rintro j L M2 hj ⟨x, y11, y12, y13, rfl, rfl, rfl⟩ ih2
        have hjn : j < cf_n c := by omega
        have htk := tk_le hw (last := last) hjn
        have hmo := sk_mono (fk c m last room) (k := j + 1) k0 (by omega)
        rw [sk_s] at hmo
        have skip : fk c m last room j = 0 → ∀ y11 y12 y13, pm_WP (pm_call (d + 3)) tb_83 (fun r M' => r = none ∧ pm_Ro M' o ((fnd c K 6 (cf_rm c) t0).map nI) ∧ pm_S (pm_oo o) M0 M') 144 [some (.ref 25), some (.int (nI K)), some (.long (lN t0)), none, some (.ref o), some (.int (nI last)), some (.int (nI room)), some (.long (lN (t - sk (fk c m last room) j))), none, some (.int (nI m)), some (.int (nI j)), y11, y12, y13] [] M2 := by
          intro z y11 y12 y13
          refine st_inc rfl rfl ?_
          refine st_go rfl ?_
          -- at 39: stop
          exact ih2 _ _ ⟨_, _, _, _, nI_1 j, by rw [sk_s, z, Nat.add_zero]; rfl, rfl⟩
        refine st_ild rfl rfl ?_
        refine st_ald rfl rfl ?_
        refine st_gR' rfl (by first | exact tT hM1 rfl | assumption | exact rw_T hM1 (by assumption) | exact rw_A hM1 (by assumption)) (by first | exact rR hM1 rfl rfl | assumption | exact rw_R hM1 (by assumption)) ?_
        refine st_gI rfl (by first | exact tT hM1 rfl | assumption | exact rw_T hM1 (by assumption) | exact rw_A hM1 (by assumption)) ?_
        -- at 48: stop
        refine wp_e hc1.1.2.2.1 ?_
        refine st_b2 rfl (fun zq => absurd zq (nI_ge (by omega) (by omega))) (fun _ => ?_)
        refine st_ald rfl rfl ?_
        refine st_gR' rfl (by first | exact tT hM1 rfl | assumption | exact rw_T hM1 (by assumption) | exact rw_A hM1 (by assumption)) (by first | exact rR hM1 rfl rfl | assumption | exact rw_R hM1 (by assumption)) ?_
        refine st_ild rfl rfl ?_
        refine st_ild rfl rfl ?_
        refine st_cav (As := [_, _]) rfl rfl rfl (by first | exact tT hM1 rfl | assumption | exact rw_T hM1 (by assumption) | exact rw_A hM1 (by assumption)) (Nat.le_of_ble_eq_true rfl) (c_takesBehind (d + 2) hM1 hw hc1 hla hjn) ?_
        refine st_ist rfl ?_
        refine st_ald rfl rfl ?_
        refine st_gR' rfl (by first | exact tT hM1 rfl | assumption | exact rw_T hM1 (by assumption) | exact rw_A hM1 (by assumption)) (by first | exact rR hM1 rfl rfl | assumption | exact rw_R hM1 (by assumption)) ?_
        refine st_ild rfl rfl ?_
        refine st_ild rfl rfl ?_
        refine st_cav (As := [_, _]) rfl rfl rfl (by first | exact tT hM1 rfl | assumption | exact rw_T hM1 (by assumption) | exact rw_A hM1 (by assumption)) (Nat.le_of_ble_eq_true rfl) (c_isBarred (d + 2) hM1 hw hc1 hla hjn) ?_
        refine st_b1 rfl (fun g => ?_) (fun g => ?_)
        -- at 75: split 144 78
        · have g := Decidable.not_not.mp (fun z => g (b01_f z))
          exact skip (by unfold fk; rw [if_pos g]) _ _ _
        · have g : ¬ bar c last j = true := fun z => g (b01_t z)
          by_cases g2 : tk c last j ≤ room
          · have ef : fk c m last room j = cnt c m j (room - tk c last j) := by unfold fk; rw [if_neg g, if_pos g2]
            have hin : vp_in (nI ((m * 7 + j) * 100 + room - tk c last j)) 14700 := vp_in_nI (by omega) (by decide)
            refine st_ild rfl rfl ?_
            refine st_ild rfl rfl ?_
            refine st_b2 rfl (fun _ => ?_) (fun zq => absurd (nI_le g2 (by omega)) zq)
            refine st_ald rfl rfl ?_
            refine st_gR' rfl (by first | exact tT hM1 rfl | assumption | exact rw_T hM1 (by assumption) | exact rw_A hM1 (by assumption)) (by first | exact rR hM1 rfl rfl | assumption | exact rw_R hM1 (by assumption)) ?_
            refine st_ild rfl rfl ?_
            refine st_ild rfl rfl ?_
            refine st_call (As := [_, _]) rfl rfl rfl (Nat.le_of_ble_eq_true rfl) (c_spot8 (d + 2) _ _) ?_
            refine st_ild rfl rfl ?_
            refine st_ib rfl ?_
            -- at 102: stop
            refine wp_e (nI_add _ _) ?_
            refine st_ild rfl rfl ?_
            refine st_ib rfl ?_
            -- at 105: stop
            refine wp_e (pk_sub (by omega)) ?_
            refine st_lald rfl (by first | exact tT hM1 rfl | assumption | exact rw_T hM1 (by assumption) | exact rw_A hM1 (by assumption)) (by first | decide | assumption | exact vp_in_nI (by omega) (by decide)) ?_
            -- at 106: stop
            refine wp_el (y := lN (fk c m last room j)) (by rw [nI_clamp (by omega), show (m * 7 + j) * 100 + room - tk c last j = (m * 7 + j) * 100 + (room - tk c last j) by omega, htab j hjn _ (by omega), ef]) ?_
            refine st_lst rfl ?_
            refine st_lld rfl rfl ?_
            refine st_lld rfl rfl ?_
            refine st_lcmp rfl ?_
            refine st_b1 rfl (fun _ => ?_) (fun zq => absurd ((lg_cmp_ge _ _).mpr ((pk_lLE (by omega) (by omega)).mpr (by omega))) zq)
            refine st_lld rfl rfl ?_
            refine st_lld rfl rfl ?_
            refine st_lb rfl ?_
            -- at 142: stop
            refine wp_el (lN_sub (by omega)) ?_
            refine st_lst rfl ?_
            refine st_inc rfl rfl ?_
            refine st_go rfl ?_
            -- at 39: stop
            exact ih2 _ _ ⟨_, _, _, _, nI_1 j, by rw [sk_s, Nat.sub_sub]; rfl, rfl⟩
          · refine st_ild rfl rfl ?_
            refine st_ild rfl rfl ?_
            refine st_b2 rfl (fun zq => absurd zq ((fun z => g2 ((nI_leI (by omega) (by omega)).mp z)))) (fun _ => ?_)
            refine st_go rfl ?_
            -- at 144: stop
            exact skip (by unfold fk; rw [if_neg g, if_neg g2]) _ _ _
      · rintro L M2 ⟨x, y11, y12, y13, rfl, rfl, rfl⟩
        have htk := tk_le hw (last := last) p1
        have ef : fk c m last room k0 = cnt c m k0 (room - tk c last k0) := by unfold fk; rw [p4, if_neg (by decide), if_pos p5]
        have hin : vp_in (nI ((m * 7 + k0) * 100 + room - tk c last k0)) 14700 := vp_in_nI (by omega) (by decide)
        have hwl : (ws.map nI).length < 40 := by rw [map_len]; omega
        have hr2 := ro_add hr hwl (nI k0)
        rw [show ws.map nI ++ [nI k0] = (ws ++ [k0]).map nI by simp] at hr2
        have s2 : pm_S (pm_oo o) M2 _ := s_add (M := M2) (o := o) (n := (ws.map nI).length) (v := nI k0) (w := nI ((ws.map nI).length + 1))
        have h63 := cnt63 hw (show m ≤ 20 by omega) k0 (room - tk c last k0)
        refine st_ild rfl rfl ?_
        refine st_ald rfl rfl ?_
        refine st_gR' rfl (by first | exact tT hM1 rfl | assumption | exact rw_T hM1 (by assumption) | exact rw_A hM1 (by assumption)) (by first | exact rR hM1 rfl rfl | assumption | exact rw_R hM1 (by assumption)) ?_
        refine st_gI rfl (by first | exact tT hM1 rfl | assumption | exact rw_T hM1 (by assumption) | exact rw_A hM1 (by assumption)) ?_
        -- at 48: stop
        refine wp_e hc1.1.2.2.1 ?_
        refine st_b2 rfl (fun zq => absurd zq (nI_ge (by omega) (by omega))) (fun _ => ?_)
        refine st_ald rfl rfl ?_
        refine st_gR' rfl (by first | exact tT hM1 rfl | assumption | exact rw_T hM1 (by assumption) | exact rw_A hM1 (by assumption)) (by first | exact rR hM1 rfl rfl | assumption | exact rw_R hM1 (by assumption)) ?_
        refine st_ild rfl rfl ?_
        refine st_ild rfl rfl ?_
        refine st_cav (As := [_, _]) rfl rfl rfl (by first | exact tT hM1 rfl | assumption | exact rw_T hM1 (by assumption) | exact rw_A hM1 (by assumption)) (Nat.le_of_ble_eq_true rfl) (c_takesBehind (d + 2) hM1 hw hc1 hla p1) ?_
        refine st_ist rfl ?_
        refine st_ald rfl rfl ?_
        refine st_gR' rfl (by first | exact tT hM1 rfl | assumption | exact rw_T hM1 (by assumption) | exact rw_A hM1 (by assumption)) (by first | exact rR hM1 rfl rfl | assumption | exact rw_R hM1 (by assumption)) ?_
        refine st_ild rfl rfl ?_
        refine st_ild rfl rfl ?_
        refine st_cav (As := [_, _]) rfl rfl rfl (by first | exact tT hM1 rfl | assumption | exact rw_T hM1 (by assumption) | exact rw_A hM1 (by assumption)) (Nat.le_of_ble_eq_true rfl) (c_isBarred (d + 2) hM1 hw hc1 hla p1) ?_
        refine st_b1 rfl (fun zq => absurd zq ((fun z => z (b01_f (by rw [p4]; decide))))) (fun _ => ?_)
        refine st_ild rfl rfl ?_
        refine st_ild rfl rfl ?_
        refine st_b2 rfl (fun _ => ?_) (fun zq => absurd (nI_le p5 (by omega)) zq)
        refine st_ald rfl rfl ?_
        refine st_gR' rfl (by first | exact tT hM1 rfl | assumption | exact rw_T hM1 (by assumption) | exact rw_A hM1 (by assumption)) (by first | exact rR hM1 rfl rfl | assumption | exact rw_R hM1 (by assumption)) ?_
        refine st_ild rfl rfl ?_
        refine st_ild rfl rfl ?_
        refine st_call (As := [_, _]) rfl rfl rfl (Nat.le_of_ble_eq_true rfl) (c_spot8 (d + 2) _ _) ?_
        refine st_ild rfl rfl ?_
        refine st_ib rfl ?_
        -- at 102: stop
        refine wp_e (nI_add _ _) ?_
        refine st_ild rfl rfl ?_
        refine st_ib rfl ?_
        -- at 105: stop
        refine wp_e (pk_sub (by omega)) ?_
        refine st_lald rfl (by first | exact tT hM1 rfl | assumption | exact rw_T hM1 (by assumption) | exact rw_A hM1 (by assumption)) (by first | decide | assumption | exact vp_in_nI (by omega) (by decide)) ?_
        -- at 106: stop
        refine wp_el (y := lN (fk c m last room k0)) (by rw [nI_clamp (by omega), show (m * 7 + k0) * 100 + room - tk c last k0 = (m * 7 + k0) * 100 + (room - tk c last k0) by omega, htab k0 p1 _ (by omega), ef]) ?_
        refine st_lst rfl ?_
        refine st_lld rfl rfl ?_
        refine st_lld rfl rfl ?_
        refine st_lcmp rfl ?_
        refine st_b1 rfl (fun zq => absurd zq ((fun z => absurd ((pk_lLE (by omega) (by omega)).mp ((lg_cmp_ge _ _).mp z)) (by omega)))) (fun _ => ?_)
        refine st_ald rfl rfl ?_
        refine st_ild rfl rfl ?_
        refine st_cav (As := [_]) rfl rfl rfl (rw_T hM1 ho) (Nat.le_of_ble_eq_true rfl) (c_add (d + 2) hM1 ho hr hwl (nI k0)) ?_
        refine st_ild rfl rfl ?_
        refine st_ist rfl ?_
        refine st_ild rfl rfl ?_
        refine st_ild rfl rfl ?_
        refine st_ib rfl ?_
        -- at 132: stop
        refine wp_e (pk_sub p5) ?_
        refine st_ist rfl ?_
        refine st_go rfl ?_
        refine st_inc rfl rfl ?_
        refine st_go rfl ?_
        -- at 31: stop
        refine ih k0 (room - tk c last k0) (t - sk (fk c m last room) k0) (ws ++ [k0]) _ _ _ _ _ _ ?_ (by simp; omega) (Or.inl p1) (by omega) p3 (by rw [he, hfs]; simp) hr2 (hs.tr s2)
        exact (Int32.sub_eq_add_neg ..).symm
  obtain ⟨r, M', hcc, hr, h5, h6⟩ := eq_83 (d := d + 3) (A := [.ref 25, .int (nI K), .long (lN t0), .ref o]) (M := M) (Q := fun r M' => r = none ∧ pm_Ro M' o ((fnd c K 6 (cf_rm c) t0).map nI) ∧ pm_S (pm_oo o) M0 M') (Nat.le_of_ble_eq_true rfl) (by
    have hM0 := s0.ok hM
    have hM0' : pm_ok (sI M0 o 1 0) := hM0
    have hcc0 := (hc.kept s0 (fun k _ _ => by show ¬ (_ ∨ _); omega)).kept (s_clear (M := M0) (o := o) (w := 0)) (fun k _ _ => by show ¬ (_ ∨ _); omega)
    refine st_ald rfl rfl ?_
    refine st_ild rfl rfl ?_
    refine st_cav (As := [_]) rfl rfl rfl (by first | exact tT hM rfl | assumption | exact rw_T hM (by assumption) | exact rw_A hM (by assumption)) (Nat.le_of_ble_eq_true rfl) (hc0) ?_
    -- at 5: stop
    refine st_ald rfl rfl ?_
    refine st_cav (As := []) rfl rfl rfl (rw_T hM0 ho) (Nat.le_of_ble_eq_true rfl) (c_clear (d + 2) hM0 ho) ?_
    -- at 10: stop
    refine st_k rfl ?_
    refine st_ist rfl ?_
    refine st_ald rfl rfl ?_
    refine st_gR' rfl (by first | exact tT hM0' rfl | assumption | exact rw_T hM0' (by assumption) | exact rw_A hM0' (by assumption)) (by first | exact rR hM0' rfl rfl | assumption | exact rw_R hM0' (by assumption)) ?_
    refine st_cav (As := []) rfl rfl rfl (by first | exact tT hM0' rfl | assumption | exact rw_T hM0' (by assumption) | exact rw_A hM0' (by assumption)) (Nat.le_of_ble_eq_true rfl) (c_room (d + 2) hM0' hw hcc0) ?_
    refine st_ist rfl ?_
    refine st_lld rfl rfl ?_
    refine st_lst rfl ?_
    refine st_ild rfl rfl ?_
    refine st_k rfl ?_
    refine st_ib rfl ?_
    refine st_ist rfl ?_
    -- at 31: stop
    exact loop K 6 (cf_rm c) t0 [] _ _ _ _ _ _ rfl (by simp) (Or.inr rfl) (Nat.le_refl _) ht0 rfl (ro_clear M0 o) s_clear)
  subst hr
  refine ⟨M', hcc, h5, (s0.mo (fun k hk => Or.inl hk)).tr (h6.mo (fun k hk => Or.inr hk)), y0.kept (h6.i (by show ¬ (_ ∨ _); omega) _) (fun i => h6.l (by show ¬ (_ ∨ _); omega) i) (h6.i (by show ¬ (_ ∨ _); omega) _)⟩
end NTH

section CTS
variable {c : Cf} {m : List Nat} {M : pm_M}
theorem st0_of (hw : cf_wf c) {s : St} (h : wS c s) : st0 (si s) = s := by
  obtain ⟨d1, d2, d3, d4, d5⟩ := si_d hw h
  have l1 := lst6 hw h.2.1
  obtain ⟨r, last, o⟩ := s
  dsimp only at *
  unfold st0
  rw [d1, d2, d3]
  have a2 : (if la last = 0 then 6 else la last - 1) = last := by unfold la; split <;> split <;> omega
  have a3 : decide ((if o = true then 1 else 0) = 1) = o := by cases o <;> rfl
  rw [a2, a3]
/-- whether a place ends well -/
def eW (c : Cf) (m : List Nat) (p : Nat) : Nat := if sdn c m (st0 (p / 100)) = true ∧ p % 100 + em c (st0 (p / 100)).2.1 ≤ cf_rm c then 1 else 0
theorem s_two {S : Nat → Prop} {A B : pm_M} (h : pm_S S A B) (k i : Nat) (w : Int64) : pm_S S (sL A k i w) (sL B k i w) := by
  refine ⟨h.1, h.2.1, fun q hq j => ?_⟩
  obtain ⟨g1, g2⟩ := h.2.2 q hq j
  exact ⟨g1, by rw [gL_sL, gL_sL, g2]⟩
theorem m_countStates (d : Nat) (hM : pm_ok M) (hw : cf_wf c) (hc : MC c M) (hm : MM m M) {C : Nat → Nat} (hC : DW c 157 C M) (hb : ∀ p, p < 18200 → C p < 9223372036854775808) {U : Nat} (hU : gL M 132 3 = lN U) :
    ∃ M' D', pm_call (d + 4) 238 [.ref 132] M none M' ∧ pm_S (fun k => k = 158) (sL M 132 3 (lN (U + sk (fun p => C p * eW c m p) 18200))) M' ∧ DW c 158 D' M' ∧ ∀ W, wsum D' W = sk (fun p => C p * sk (mvW c m W (st0 (p / 100)) (p % 100)) (cf_n c)) 18200 := by
  have hn := hw.1
  have hl := hm.2.1
  have hrm := rm99 hw
  obtain ⟨r, M', hcc, hr, h5, D', h6, h7⟩ := eq_238 (d := d + 3) (A := [.ref 132]) (M := M) (Q := fun r M' => r = none ∧ pm_S (fun k => k = 158) (sL M 132 3 (lN (U + sk (fun p => C p * eW c m p) 18200))) M' ∧ ∃ D', DW c 158 D' M' ∧ ∀ W, wsum D' W = sk (fun p => C p * sk (mvW c m W (st0 (p / 100)) (p % 100)) (cf_n c)) 18200) (Nat.le_of_ble_eq_true rfl) (by
    refine st_k rfl ?_
    refine st_ist rfl ?_
    -- at 2: stop
    refine wp_for 18200 (fun i L M1 => ∃ x, x = nI i ∧ L = [some (.ref 132), some (.int x), none, none, none] ∧ pm_S (fun k => k = 158) M M1 ∧ ∀ p, p < i → gL M1 158 p = 0) ?_ ?_ 0 _ _ (Nat.zero_le _) ⟨_, rfl, rfl, pm_S.rf, fun p hp => by omega⟩
    · rintro i L M1 hi ⟨x, rfl, rfl, hs1, hz⟩ ih
      have hM1 := hs1.ok hM
      have hin : vp_in (nI i) 18200 := vp_in_nI hi (by decide)
      refine st_ild rfl rfl ?_
      refine st_k rfl ?_
      refine st_b2 rfl (fun zq => absurd zq (nI_ge (a := i) (b := 18200) hi (by decide))) (fun _ => ?_)
      refine st_ald rfl rfl ?_
      refine st_gR' rfl (by first | exact tT hM1 rfl | assumption | exact rw_T hM1 (by assumption) | exact rw_A hM1 (by assumption)) (by first | exact rR hM1 rfl rfl | assumption | exact rw_R hM1 (by assumption)) ?_
      refine st_ild rfl rfl ?_
      refine st_k rfl ?_
      refine st_last rfl (tT hM1 rfl) (hin) ?_
      refine st_inc rfl rfl ?_
      refine st_go rfl ?_
      -- at 2: stop
      rw [nI_clamp (show i < 2147483648 by omega)]
      refine ih _ _ ⟨_, nI_1 i, rfl, hs1.sL rfl _ _, fun p hp => ?_⟩
      rw [gL_sL]
      by_cases z : p = i
      · rw [if_pos ⟨rfl, z⟩]
      · rw [if_neg (fun w => z w.2)]
        exact hz p (by omega)
    · rintro L M1 ⟨x, rfl, rfl, hs1, hz⟩
      have hM1 := hs1.ok hM
      refine st_ild rfl rfl ?_
      refine st_k rfl ?_
      refine st_b2 rfl (fun _ => ?_) (fun zq => absurd (nI_le (a := 18200) (b := 18200) (Nat.le_refl _) (by decide)) zq)
      refine st_k rfl ?_
      refine st_ist rfl ?_
      -- at 24: stop
      have hs1' : pm_S (fun k => k = 158) (sL M 132 3 (lN (U + 0))) M1 := by
        refine ⟨hs1.1, hs1.2.1, fun q hq j => ?_⟩
        obtain ⟨g1, g2⟩ := hs1.2.2 q hq j
        refine ⟨g1, ?_⟩
        rw [g2, gL_sL]
        split
        · rename_i z
          rw [z.1, z.2, hU, Nat.add_zero]
        · rfl
      have hD0 : DW c 158 (fun _ => 0) M1 := ⟨fun p hp => hz p hp, fun p _ z => absurd rfl z⟩
      have hw0 : ∀ W, wsum (fun _ => 0) W = 0 := fun W => sk_0 _ (fun k _ => Nat.zero_mul _)
      refine wp_for 182 (fun q L M2 => ∃ x y2 y3 y4, x = nI q ∧ L = [some (.ref 132), some (.int x), y2, y3, y4] ∧ pm_S (fun k => k = 158) (sL M 132 3 (lN (U + sk (fun p => C p * eW c m p) (100 * q)))) M2 ∧ ∃ D2, DW c 158 D2 M2 ∧ ∀ W, wsum D2 W = sk (fun p => C p * sk (mvW c m W (st0 (p / 100)) (p % 100)) (cf_n c)) (100 * q)) ?_ ?_ 0 _ _ (Nat.zero_le _) ⟨_, _, _, _, rfl, rfl, hs1', _, hD0, hw0⟩
      · rintro q L M2 hq ⟨x, y2, y3, y4, rfl, rfl, hs2, D2, hD2, hW2⟩ ih
        refine st_ild rfl rfl ?_
        refine st_k rfl ?_
        refine st_b2 rfl (fun zq => absurd zq (nI_ge (a := q) (b := 182) hq (by decide))) (fun _ => ?_)
        refine st_k rfl ?_
        refine st_ist rfl ?_
        -- at 33: stop
        refine wp_for 100 (fun u L M3 => ∃ x y3 y4, x = nI u ∧ L = [some (.ref 132), some (.int (nI q)), some (.int x), y3, y4] ∧ pm_S (fun k => k = 158) (sL M 132 3 (lN (U + sk (fun p => C p * eW c m p) (100 * q + u)))) M3 ∧ ∃ D3, DW c 158 D3 M3 ∧ ∀ W, wsum D3 W = sk (fun p => C p * sk (mvW c m W (st0 (p / 100)) (p % 100)) (cf_n c)) (100 * q + u)) ?_ ?_ 0 _ _ (Nat.zero_le _) ⟨_, _, _, rfl, rfl, hs2, D2, hD2, hW2⟩
        · rintro u L M3 hu ⟨x, y3, y4, rfl, rfl, hs3, D3, hD3, hW3⟩ ih2
          have hM3 : pm_ok M3 := hs3.ok hM
          have hin : vp_in (nI (100 * q + u)) 18200 := vp_in_nI (by omega) (by decide)
          have hp1 : (100 * q + u) / 100 = q := by omega
          have hp2 : (100 * q + u) % 100 = u := by omega
          have hg : gL M3 157 (100 * q + u) = lN (C (100 * q + u)) := by
            rw [hs3.l (by decide), gL_sL, if_neg (by omega)]
            exact hC.1 _ (by omega)
          have hV : gL M3 132 3 = lN (U + sk (fun p => C p * eW c m p) (100 * q + u)) := by rw [hs3.l (by decide), gL_sL, if_pos ⟨rfl, rfl⟩]
          refine st_ild rfl rfl ?_
          refine st_k rfl ?_
          refine st_b2 rfl (fun zq => absurd zq (nI_ge (a := u) (b := 100) hu (by decide))) (fun _ => ?_)
          refine st_ald rfl rfl ?_
          refine st_gR' rfl (by first | exact tT hM3 rfl | assumption | exact rw_T hM3 (by assumption) | exact rw_A hM3 (by assumption)) (by first | exact rR hM3 rfl rfl | assumption | exact rw_R hM3 (by assumption)) ?_
          refine st_k rfl ?_
          refine st_ild rfl rfl ?_
          refine st_ib rfl ?_
          -- at 47: stop
          refine wp_e (pk_mul 100 q) ?_
          refine st_ild rfl rfl ?_
          refine st_ib rfl ?_
          -- at 49: stop
          refine wp_e (nI_add _ _) ?_
          refine st_lald rfl (tT hM3 rfl) (hin) ?_
          -- at 50: stop
          rw [nI_clamp (show 100 * q + u < 2147483648 by omega), hg]
          by_cases g0 : C (100 * q + u) = 0
          · rw [g0]
            refine st_lst rfl ?_
            refine st_lld rfl rfl ?_
            refine st_k rfl ?_
            refine st_lcmp rfl ?_
            refine st_b1 rfl (fun _ => ?_) (fun zq => absurd ((lg_cmp_le _ _).mpr (by decide)) zq)
            refine st_inc rfl rfl ?_
            refine st_go rfl ?_
            -- at 33: stop
            refine ih2 _ _ ⟨_, _, _, nI_1 u, rfl, ?_, D3, hD3, fun W => ?_⟩
            · rw [← Nat.add_assoc, sk_s, g0, Nat.zero_mul]
              exact hs3
            · rw [← Nat.add_assoc, sk_s, g0, Nat.zero_mul]
              exact hW3 W
          · obtain ⟨s, hs, hsq⟩ := hC.2 _ (by omega) g0
            rw [hp1] at hsq
            subst hsq
            have hst := st0_of hw hs
            have hbp := hb (100 * si s + u) (by omega)
            have hpos : ¬ lg_cmp (lN (C (100 * si s + u))) 0 ≤ 0 := fun z => by
              have := (pk_lLE (a := C (100 * si s + u)) (b := 0) (by omega) (by omega)).mp ((lg_cmp_le _ _).mp z)
              omega
            have hc3 : MC c M3 := hc.moved (fun i _ => hs3.i (by decide) i) (fun k hk i => hs3.i (by show ¬ k = 158; omega) i)
            have hm3 : MM m M3 := MM.S (M := sL M 132 3 (lN (U + sk (fun p => C p * eW c m p) (100 * si s + u)))) hm hs3 (by decide) (by decide)
            have fin : ∀ e, e = eW c m (100 * si s + u) → pm_WP (pm_call (d + 3)) tb_238 (fun r M' => r = none ∧ pm_S (fun k => k = 158) (sL M 132 3 (lN (U + sk (fun p => C p * eW c m p) 18200))) M' ∧ ∃ D', DW c 158 D' M' ∧ ∀ W, wsum D' W = sk (fun p => C p * sk (mvW c m W (st0 (p / 100)) (p % 100)) (cf_n c)) 18200) 96 [some (.ref 132), some (.int (nI (si s))), some (.int (nI u)), some (.long (lN (C (100 * si s + u)))), none] [] (sL M3 132 3 (lN (U + sk (fun p => C p * eW c m p) (100 * si s + u) + C (100 * si s + u) * e))) := by
              intro e he
              subst he
              obtain ⟨M4, D4, k1, k2, k3, k4⟩ := m_countBehind (M := sL M3 132 3 (lN (U + sk (fun p => C p * eW c m p) (100 * si s + u) + C (100 * si s + u) * eW c m (100 * si s + u)))) d hM3 hw hc3 hm3 hs (N := C (100 * si s + u)) hu (D := D3) ⟨fun p hp => by rw [gL_sL, if_neg (by omega)]; exact hD3.1 p hp, hD3.2⟩
              have hM4 := k2.ok hM3
              have hM5 : pm_ok (sL M3 132 3 (lN (U + sk (fun p => C p * eW c m p) (100 * si s + u) + C (100 * si s + u) * eW c m (100 * si s + u)))) := hM3
              refine st_ald rfl rfl ?_
              refine st_ild rfl rfl ?_
              refine st_ild rfl rfl ?_
              refine st_lld rfl rfl ?_
              refine st_cav (As := [_, _, _]) rfl rfl rfl (by first | exact tT hM5 rfl | assumption | exact rw_T hM5 (by assumption) | exact rw_A hM5 (by assumption)) (Nat.le_of_ble_eq_true rfl) (k1) ?_
              refine st_inc rfl rfl ?_
              refine st_go rfl ?_
              -- at 33: stop
              refine ih2 _ _ ⟨_, _, _, nI_1 u, rfl, ?_, D4, k3, fun W => ?_⟩
              · have := (s_two hs3 132 3 (lN (U + sk (fun p => C p * eW c m p) (100 * si s + u) + C (100 * si s + u) * eW c m (100 * si s + u)))).tr k2
                rw [sL_sL] at this
                rw [← Nat.add_assoc, sk_s, ← Nat.add_assoc]
                exact this
              · rw [k4 W, hW3 W, ← Nat.add_assoc, sk_s, hp1, hp2, hst]
            have eI := m_isSaid (d + 2) hM3 hw hc3 hm3 hs
            have eE : eW c m (100 * si s + u) = if sdn c m s = true ∧ u + em c s.2.1 ≤ cf_rm c then 1 else 0 := by unfold eW; rw [hp1, hp2, hst]
            have hem := em_le c s.2.1
            refine st_lst rfl ?_
            refine st_lld rfl rfl ?_
            refine st_k rfl ?_
            refine st_lcmp rfl ?_
            refine st_b1 rfl (fun zq => absurd zq (hpos)) (fun _ => ?_)
            refine st_ald rfl rfl ?_
            refine st_dup rfl rfl ?_
            refine st_gL rfl (by first | exact tT hM3 rfl | assumption | exact rw_T hM3 (by assumption) | exact rw_A hM3 (by assumption)) ?_
            -- at 62: stop
            refine wp_el hV ?_
            by_cases g1 : sdn c m s = true
            · refine st_ald rfl rfl ?_
              refine st_ild rfl rfl ?_
              refine st_cav (As := [_]) rfl rfl rfl (by first | exact tT hM3 rfl | assumption | exact rw_T hM3 (by assumption) | exact rw_A hM3 (by assumption)) (Nat.le_of_ble_eq_true rfl) (eI) ?_
              refine st_b1 rfl (fun zq => absurd zq (b01_t g1)) (fun _ => ?_)
              refine st_ild rfl rfl ?_
              refine st_ald rfl rfl ?_
              refine st_ild rfl rfl ?_
              refine st_call (As := [_]) rfl rfl rfl (Nat.le_of_ble_eq_true rfl) (m_lastOf (d + 2) hw hs) ?_
              refine st_cav (As := [_]) rfl rfl rfl (by first | exact tT hM3 rfl | assumption | exact rw_T hM3 (by assumption) | exact rw_A hM3 (by assumption)) (Nat.le_of_ble_eq_true rfl) (m_endOf (d + 2) hM3 hw hc3 hs.2.1) ?_
              -- at 79: stop
              refine st_ib rfl ?_
              -- at 80: stop
              refine wp_e (nI_add _ _) ?_
              by_cases g2 : u + em c s.2.1 ≤ cf_rm c
              · refine st_ald rfl rfl ?_
                refine st_cav (As := []) rfl rfl rfl (by first | exact tT hM3 rfl | assumption | exact rw_T hM3 (by assumption) | exact rw_A hM3 (by assumption)) (Nat.le_of_ble_eq_true rfl) (m_roomNow (d + 2) hM3 hw hc3) ?_
                refine st_b2 rfl (fun zq => absurd zq (nI_nlt g2 (by omega))) (fun _ => ?_)
                refine st_lld rfl rfl ?_
                refine st_go rfl ?_
                refine st_lb rfl ?_
                -- at 93: stop
                refine wp_el (lN_add _ _) ?_
                refine st_pL rfl (by first | exact tT hM3 rfl | assumption | exact rw_T hM3 (by assumption) | exact rw_A hM3 (by assumption)) ?_
                -- at 96: stop
                have := fin 1 (by rw [eE, if_pos ⟨g1, g2⟩])
                rw [Nat.mul_one] at this
                exact this
              · refine st_ald rfl rfl ?_
                refine st_cav (As := []) rfl rfl rfl (by first | exact tT hM3 rfl | assumption | exact rw_T hM3 (by assumption) | exact rw_A hM3 (by assumption)) (Nat.le_of_ble_eq_true rfl) (m_roomNow (d + 2) hM3 hw hc3) ?_
                refine st_b2 rfl (fun _ => ?_) (fun zq => absurd (nI_lt (by omega) (by omega)) zq)
                refine st_k rfl ?_
                refine st_lb rfl ?_
                -- at 93: stop
                refine wp_el (lN_add _ 0) ?_
                refine st_pL rfl (by first | exact tT hM3 rfl | assumption | exact rw_T hM3 (by assumption) | exact rw_A hM3 (by assumption)) ?_
                -- at 96: stop
                exact fin 0 (by rw [eE, if_neg (fun z => g2 z.2)])
            · refine st_ald rfl rfl ?_
              refine st_ild rfl rfl ?_
              refine st_cav (As := [_]) rfl rfl rfl (by first | exact tT hM3 rfl | assumption | exact rw_T hM3 (by assumption) | exact rw_A hM3 (by assumption)) (Nat.le_of_ble_eq_true rfl) (eI) ?_
              refine st_b1 rfl (fun _ => ?_) (fun zq => absurd (b01_f g1) zq)
              refine st_k rfl ?_
              refine st_lb rfl ?_
              -- at 93: stop
              refine wp_el (lN_add _ 0) ?_
              refine st_pL rfl (by first | exact tT hM3 rfl | assumption | exact rw_T hM3 (by assumption) | exact rw_A hM3 (by assumption)) ?_
              -- at 96: stop
              exact fin 0 (by rw [eE, if_neg (fun z => g1 z.1)])
        · rintro L M3 ⟨x, y3, y4, rfl, rfl, hs3, D3, hD3, hW3⟩
          refine st_ild rfl rfl ?_
          refine st_k rfl ?_
          refine st_b2 rfl (fun _ => ?_) (fun zq => absurd (nI_le (a := 100) (b := 100) (Nat.le_refl _) (by decide)) zq)
          refine st_inc rfl rfl ?_
          refine st_go rfl ?_
          -- at 24: stop
          exact ih _ _ ⟨_, _, _, _, nI_1 q, rfl, by rw [Nat.mul_succ]; exact hs3, D3, hD3, fun W => by rw [Nat.mul_succ]; exact hW3 W⟩
      · rintro L M2 ⟨x, y2, y3, y4, rfl, rfl, hs2, D2, hD2, hW2⟩
        refine st_ild rfl rfl ?_
        refine st_k rfl ?_
        refine st_b2 rfl (fun _ => ?_) (fun zq => absurd (nI_le (a := 182) (b := 182) (Nat.le_refl _) (by decide)) zq)
        -- at 115: op_vret
        exact st_vret rfl ⟨rfl, hs2, D2, hD2, hW2⟩)
  subst hr
  exact ⟨M', D', hcc, h5, h6, h7⟩
end CTS

section WYR
variable {c : Cf} {m : List Nat} {M : pm_M}
theorem m_ways21 (d : Nat) (hM : pm_ok M) (hw : cf_wf c) (hc : MC c M) (hm : MM m M) {j : Int32} {Q : Option Value → pm_M → Prop}
    (hQ : ∀ M', pm_S (fun k => k = 157 ∨ k = 158) (sL M 132 3 (lN (WY c m 20 s00 (cf_rm c)))) M' → Q (some (.int 1)) M') :
    pm_WP (pm_call (d + 4)) tb_237 Q 21 [some (.ref 132), some (.int j), some (.int 0), none, none] [] M := by
  have hn := hw.1
  have hl := hm.2.1
  have hrm := rm99 hw
  refine st_k rfl ?_
  refine st_ist rfl ?_
  -- at 23: stop
  refine wp_for 18200 (fun i L M1 => ∃ x, x = nI i ∧ L = [some (.ref 132), some (.int j), some (.int 0), some (.int x), none] ∧ pm_S (fun k => k = 157 ∨ k = 158) M M1 ∧ ∀ p, p < i → gL M1 157 p = lN (if p = 0 then 1 else 0)) ?_ ?_ 0 _ _ (Nat.zero_le _) ⟨_, rfl, rfl, pm_S.rf, fun p hp => by omega⟩
  · rintro i L M1 hi ⟨x, rfl, rfl, hs1, hz⟩ ih
    have hM1 := hs1.ok hM
    have hin : vp_in (nI i) 18200 := vp_in_nI hi (by decide)
    by_cases g : i = 0
    · subst g
      refine st_ild rfl rfl ?_
      refine st_k rfl ?_
      refine st_b2 rfl (fun zq => absurd zq (nI_ge (a := 0) (b := 18200) hi (by decide))) (fun _ => ?_)
      refine st_ald rfl rfl ?_
      refine st_gR' rfl (by first | exact tT hM1 rfl | assumption | exact rw_T hM1 (by assumption) | exact rw_A hM1 (by assumption)) (by first | exact rR hM1 rfl rfl | assumption | exact rw_R hM1 (by assumption)) ?_
      refine st_ild rfl rfl ?_
      refine st_ild rfl rfl ?_
      refine st_b1 rfl (fun zq => absurd zq ((fun z => z rfl))) (fun _ => ?_)
      refine st_k rfl ?_
      refine st_go rfl ?_
      refine st_last rfl (tT hM1 rfl) (hin) ?_
      refine st_inc rfl rfl ?_
      refine st_go rfl ?_
      -- at 23: stop
      rw [nI_clamp (show 0 < 2147483648 by omega)]
      refine ih _ _ ⟨_, nI_1 0, rfl, hs1.sL (Or.inl rfl) _ _, fun p hp => ?_⟩
      rw [gL_sL, if_pos ⟨rfl, by omega⟩, if_pos (by omega)]
      rfl
    · have hne : ¬ nI i = 0 := fun z => by
        have := congrArg Int32.toNatClampNeg z
        rw [nI_clamp (by omega)] at this
        exact g this
      refine st_ild rfl rfl ?_
      refine st_k rfl ?_
      refine st_b2 rfl (fun zq => absurd zq (nI_ge (a := i) (b := 18200) hi (by decide))) (fun _ => ?_)
      refine st_ald rfl rfl ?_
      refine st_gR' rfl (by first | exact tT hM1 rfl | assumption | exact rw_T hM1 (by assumption) | exact rw_A hM1 (by assumption)) (by first | exact rR hM1 rfl rfl | assumption | exact rw_R hM1 (by assumption)) ?_
      refine st_ild rfl rfl ?_
      refine st_ild rfl rfl ?_
      refine st_b1 rfl (fun _ => ?_) (fun zq => absurd (hne) zq)
      refine st_k rfl ?_
      refine st_last rfl (tT hM1 rfl) (hin) ?_
      refine st_inc rfl rfl ?_
      refine st_go rfl ?_
      -- at 23: stop
      rw [nI_clamp (show i < 2147483648 by omega)]
      refine ih _ _ ⟨_, nI_1 i, rfl, hs1.sL (Or.inl rfl) _ _, fun p hp => ?_⟩
      rw [gL_sL]
      by_cases z : p = i
      · rw [if_pos ⟨rfl, z⟩, if_neg (by omega)]
        rfl
      · rw [if_neg (fun w => z w.2)]
        exact hz p (by omega)
  · rintro L M1 ⟨x, rfl, rfl, hs1, hz⟩
    have hM1 := hs1.ok hM
    refine st_ild rfl rfl ?_
    refine st_k rfl ?_
    refine st_b2 rfl (fun _ => ?_) (fun zq => absurd (nI_le (a := 18200) (b := 18200) (Nat.le_refl _) (by decide)) zq)
    refine st_ald rfl rfl ?_
    refine st_k rfl ?_
    refine st_pL rfl (by first | exact tT hM1 rfl | assumption | exact rw_T hM1 (by assumption) | exact rw_A hM1 (by assumption)) ?_
    refine st_k rfl ?_
    refine st_ist rfl ?_
    -- at 58: stop
    have h00 : wS c s00 := ⟨by decide, Or.inr rfl, (fun z => nomatch z), (fun _ => rfl)⟩
    have e0 : wsum (fun p => if p = 0 then 1 else 0) (WW c m 21) = WY c m 20 s00 (cf_rm c) := by
      unfold wsum
      rw [sk_one (WW c m 21) 18199]
      show (if 0 % 100 ≤ cf_rm c then WY c m 20 (st0 (0 / 100)) (cf_rm c - 0 % 100) else 0) = _
      rw [if_pos (Nat.zero_le _)]
      rfl
    have e1 : wsum (fun p => if p = 0 then 1 else 0) (fun _ => 1) ≤ 6 ^ 0 := by
      unfold wsum
      rw [sk_one (fun _ => 1) 18199]
      exact Nat.le_refl 1
    have hD0 : DW c 157 (fun p => if p = 0 then 1 else 0) (sL M1 132 3 0) := by
      refine ⟨fun p hp => ?_, fun p hp z => ⟨s00, h00, ?_⟩⟩
      · rw [gL_sL, if_neg (by omega)]
        exact hz p hp
      · have : p = 0 := Classical.byContradiction (fun w => z (if_neg w))
        rw [this]
        rfl
    refine wp_for 21 (fun i L M2 => ∃ x y4 V C, x = nI i ∧ L = [some (.ref 132), some (.int j), some (.int 0), some (.int x), y4] ∧ pm_S (fun k => k = 157 ∨ k = 158) (sL M 132 3 (lN V)) M2 ∧ DW c 157 C M2 ∧ V + wsum C (WW c m (21 - i)) = WY c m 20 s00 (cf_rm c) ∧ wsum C (fun _ => 1) ≤ 6 ^ i) ?_ ?_ 0 _ _ (Nat.zero_le _) ⟨_, _, 0, (fun p => if p = 0 then 1 else 0), rfl, rfl, s_two hs1 132 3 0, hD0, by rw [Nat.zero_add]; exact e0, e1⟩
    · rintro i L M2 hi ⟨x, y4, V, C, rfl, rfl, hs2, hC, hV, hb⟩ ih
      have hM2 : pm_ok M2 := hs2.ok hM
      have hc2 : MC c M2 := hc.moved (fun i _ => hs2.i (by decide) i) (fun k hk i => hs2.i (by show ¬ (_ ∨ _); omega) i)
      have hm2 : MM m M2 := MM.S (M := sL M 132 3 (lN V)) hm hs2 (by decide) (by decide)
      have hU : gL M2 132 3 = lN V := by rw [hs2.l (by decide), gL_sL, if_pos ⟨rfl, rfl⟩]
      have h6 : 6 ^ i ≤ 6 ^ 20 := Nat.pow_le_pow_right (by decide) (by omega)
      have hlt : ∀ p, p < 18200 → C p < 9223372036854775808 := fun p hp => by
        have h1 := sk_get (fun p => C p * 1) hp
        have h2 : C p * 1 ≤ 6 ^ 20 := Nat.le_trans h1 (Nat.le_trans hb h6)
        have h3 : 6 ^ 20 < 9223372036854775808 := by decide
        omega
      obtain ⟨M3, D, k1, k2, k3, k4⟩ := m_countStates d hM2 hw hc2 hm2 hC hlt hU
      have hM3 : pm_ok M3 := k2.ok hM2
      refine st_ild rfl rfl ?_
      refine st_k rfl ?_
      refine st_b2 rfl (fun zq => absurd zq (nI_nlt (a := 20) (b := i) (by omega) (by decide))) (fun _ => ?_)
      refine st_ald rfl rfl ?_
      refine st_cav (As := []) rfl rfl rfl (by first | exact tT hM2 rfl | assumption | exact rw_T hM2 (by assumption) | exact rw_A hM2 (by assumption)) (Nat.le_of_ble_eq_true rfl) (k1) ?_
      -- at 68: stop
      refine st_k rfl ?_
      refine st_ist rfl ?_
      -- at 71: stop
      have hs3 : pm_S (fun k => k = 157 ∨ k = 158) (sL M 132 3 (lN (V + sk (fun p => C p * eW c m p) 18200))) M3 := by
        have := (s_two hs2 132 3 (lN (V + sk (fun p => C p * eW c m p) 18200))).tr (k2.mo (fun k z => Or.inr z))
        rw [sL_sL] at this
        exact this
      refine wp_for 18200 (fun q L M4 => ∃ x, x = nI q ∧ L = [some (.ref 132), some (.int j), some (.int 0), some (.int (nI i)), some (.int x)] ∧ pm_S (fun k => k = 157) M3 M4 ∧ ∀ p, p < q → gL M4 157 p = lN (D p)) ?_ ?_ 0 _ _ (Nat.zero_le _) ⟨_, rfl, rfl, pm_S.rf, fun p hp => by omega⟩
      · rintro q L M4 hq ⟨x, rfl, rfl, hs4, hz4⟩ ih2
        have hM4 := hs4.ok hM3
        have hin : vp_in (nI q) 18200 := vp_in_nI hq (by decide)
        refine st_ild rfl rfl ?_
        refine st_k rfl ?_
        refine st_b2 rfl (fun zq => absurd zq (nI_ge (a := q) (b := 18200) hq (by decide))) (fun _ => ?_)
        refine st_ald rfl rfl ?_
        refine st_gR' rfl (by first | exact tT hM4 rfl | assumption | exact rw_T hM4 (by assumption) | exact rw_A hM4 (by assumption)) (by first | exact rR hM4 rfl rfl | assumption | exact rw_R hM4 (by assumption)) ?_
        refine st_ild rfl rfl ?_
        refine st_ald rfl rfl ?_
        refine st_gR' rfl (by first | exact tT hM4 rfl | assumption | exact rw_T hM4 (by assumption) | exact rw_A hM4 (by assumption)) (by first | exact rR hM4 rfl rfl | assumption | exact rw_R hM4 (by assumption)) ?_
        refine st_ild rfl rfl ?_
        refine st_lald rfl (tT hM4 rfl) (hin) ?_
        refine st_last rfl (tT hM4 rfl) (hin) ?_
        refine st_inc rfl rfl ?_
        refine st_go rfl ?_
        -- at 71: stop
        rw [nI_clamp (show q < 2147483648 by omega)]
        refine ih2 _ _ ⟨_, nI_1 q, rfl, hs4.sL rfl _ _, fun p hp => ?_⟩
        rw [gL_sL]
        by_cases z : p = q
        · rw [if_pos ⟨rfl, z⟩, hs4.l (by decide), z]
          exact k3.1 q hq
        · rw [if_neg (fun w => z w.2)]
          exact hz4 p (by omega)
      · rintro L M4 ⟨x, rfl, rfl, hs4, hz4⟩
        refine st_ild rfl rfl ?_
        refine st_k rfl ?_
        refine st_b2 rfl (fun _ => ?_) (fun zq => absurd (nI_le (a := 18200) (b := 18200) (Nat.le_refl _) (by decide)) zq)
        refine st_inc rfl rfl ?_
        refine st_go rfl ?_
        -- at 58: stop
        refine ih _ _ ⟨_, _, _, D, nI_1 i, rfl, hs3.tr (hs4.mo (fun k z => Or.inl z)), ⟨hz4, k3.2⟩, ?_, ?_⟩
        · rw [k4, Nat.add_assoc, WW_t hw hl hC.2, show 21 - (i + 1) + 1 = 21 - i by omega]
          exact hV
        · rw [k4]
          refine Nat.le_trans (sk_b6 C _ (fun p => ?_) 18200) ?_
          · exact Nat.le_trans (sk_le (b := 1) _ (fun k _ => mv1 _ _ k)) (by omega)
          · rw [Nat.pow_succ, Nat.mul_comm]
            exact Nat.mul_le_mul_right 6 hb
    · rintro L M2 ⟨x, y4, V, C, rfl, rfl, hs2, hC, hV, hb⟩
      refine st_ild rfl rfl ?_
      refine st_k rfl ?_
      refine st_b2 rfl (fun _ => ?_) (fun zq => absurd (nI_lt (a := 20) (b := 21) (by decide) (by decide)) zq)
      refine st_k rfl ?_
      -- at 106: op_iret
      refine st_iret rfl (hQ _ ?_)
      have : V = WY c m 20 s00 (cf_rm c) := by
        rw [← hV, show wsum C (WW c m (21 - 21)) = 0 from sk_0 _ (fun k _ => Nat.mul_zero _), Nat.add_zero]
      rw [← this]
      exact hs2
end WYR
section WYB
variable {a : As}
theorem b_ways (ha : aw a) (r : Int32) : Both a 118 237 [.int r] := by
  have hw := ha.1
  have hrm := rm99 hw
  rcases r_cs r with ⟨h1, h2⟩ | ⟨j, hj, hr, h1, h2⟩
  · refine bo_k (x := .int (-1)) ha (fun d M h => ?_) (fun d M h => ?_)
    · refine en_118 (Nat.le_of_ble_eq_true rfl) ?_
      have hM := h.1
      refine st_ald rfl rfl ?_
      refine st_ild rfl rfl ?_
      refine st_ild rfl rfl ?_
      refine st_ild rfl rfl ?_
      refine st_cav (As := [_, _, _]) rfl rfl rfl (by first | exact tT hM rfl | assumption | exact rw_T hM (by assumption) | exact rw_A hM (by assumption)) (Nat.le_of_ble_eq_true rfl) (c_mess (d + 16) h _ _ _ (c_rowsBad (d + 16) _ _ _ _ _ (fun z => h1 z.1)) ⟨_, rfl⟩) ?_
      refine st_ist rfl ?_
      refine st_ild rfl rfl ?_
      refine st_b1 rfl (fun zq => absurd zq ((by decide))) (fun _ => ?_)
      refine st_ild rfl rfl ?_
      -- at 13: op_iret
      exact st_iret rfl ⟨rfl, rfl⟩
    · refine en_237 (Nat.le_of_ble_eq_true rfl) ?_
      refine st_ild rfl rfl ?_
      refine st_call (As := [_]) rfl rfl rfl (Nat.le_of_ble_eq_true rfl) (m_isRow (d + 17) r) ?_
      refine st_b1 rfl (fun zq => absurd zq ((fun z => z (b01_f h2)))) (fun _ => ?_)
      refine st_k rfl ?_
      -- at 8: op_iret
      exact st_iret rfl ⟨rfl, rfl⟩
  subst hr
  have hin : vp_in (nI j) 6 := vp_in_nI hj (by decide)
  rcases row_cs (a := a) j 12 10 (by decide) with hx | ⟨l, hx, hlen⟩ | ⟨l, hx, hlen, hno⟩ | ⟨m, hx, hk, hlen⟩
  · refine bo_f ha (f := 1) (by decide) (fun d M h => ?_) (fun d M h => ?_)
    · refine en_118 (Nat.le_of_ble_eq_true rfl) ?_
      have hM := h.1
      refine st_ald rfl rfl ?_
      refine st_ild rfl rfl ?_
      refine st_ild rfl rfl ?_
      refine st_ild rfl rfl ?_
      refine st_cav (As := [_, _, _]) rfl rfl rfl (by first | exact tT hM rfl | assumption | exact rw_T hM (by assumption) | exact rw_A hM (by assumption)) (Nat.le_of_ble_eq_true rfl) (cmN (d + 16) h hj hj hx) ?_
      refine st_ist rfl ?_
      refine st_ild rfl rfl ?_
      refine st_b1 rfl (fun zq => absurd zq ((by decide))) (fun _ => ?_)
      refine st_ild rfl rfl ?_
      -- at 13: op_iret
      exact st_iret rfl ⟨rfl, rfl⟩
    · refine en_237 (Nat.le_of_ble_eq_true rfl) ?_
      have hM := h.1
      refine st_ild rfl rfl ?_
      refine st_call (As := [_]) rfl rfl rfl (Nat.le_of_ble_eq_true rfl) (m_isRow (d + 17) _) ?_
      refine st_b1 rfl (fun _ => ?_) (fun zq => absurd (b01_t h2) zq)
      refine st_ald rfl rfl ?_
      refine st_ild rfl rfl ?_
      refine st_cav (As := [_]) rfl rfl rfl (by first | exact tT hM rfl | assumption | exact rw_T hM (by assumption) | exact rw_A hM (by assumption)) (Nat.le_of_ble_eq_true rfl) (mqN (d + 16) h hj hx) ?_
      refine st_ist rfl ?_
      refine st_ild rfl rfl ?_
      refine st_b1 rfl (fun zq => absurd zq ((by decide))) (fun _ => ?_)
      refine st_ild rfl rfl ?_
      -- at 20: op_iret
      exact st_iret rfl ⟨rfl, rfl⟩
  · refine bo_f ha (f := 5) (by decide) (fun d M h => ?_) (fun d M h => ?_)
    · refine en_118 (Nat.le_of_ble_eq_true rfl) ?_
      have hM := h.1
      refine st_ald rfl rfl ?_
      refine st_ild rfl rfl ?_
      refine st_ild rfl rfl ?_
      refine st_ild rfl rfl ?_
      refine st_cav (As := [_, _, _]) rfl rfl rfl (by first | exact tT hM rfl | assumption | exact rw_T hM (by assumption) | exact rw_A hM (by assumption)) (Nat.le_of_ble_eq_true rfl) (cmL (d + 16) h hj hj hx hlen) ?_
      refine st_ist rfl ?_
      refine st_ild rfl rfl ?_
      refine st_b1 rfl (fun zq => absurd zq ((by decide))) (fun _ => ?_)
      refine st_ild rfl rfl ?_
      -- at 13: op_iret
      exact st_iret rfl ⟨rfl, rfl⟩
    · refine en_237 (Nat.le_of_ble_eq_true rfl) ?_
      have hM := h.1
      refine st_ild rfl rfl ?_
      refine st_call (As := [_]) rfl rfl rfl (Nat.le_of_ble_eq_true rfl) (m_isRow (d + 17) _) ?_
      refine st_b1 rfl (fun _ => ?_) (fun zq => absurd (b01_t h2) zq)
      refine st_ald rfl rfl ?_
      refine st_ild rfl rfl ?_
      refine st_cav (As := [_]) rfl rfl rfl (by first | exact tT hM rfl | assumption | exact rw_T hM (by assumption) | exact rw_A hM (by assumption)) (Nat.le_of_ble_eq_true rfl) (mqL (d + 16) h hj hx hlen) ?_
      refine st_ist rfl ?_
      refine st_ild rfl rfl ?_
      refine st_b1 rfl (fun zq => absurd zq ((by decide))) (fun _ => ?_)
      refine st_ild rfl rfl ?_
      -- at 20: op_iret
      exact st_iret rfl ⟨rfl, rfl⟩
  · refine bo_f ha (f := 3) (by decide) (fun d M h => ?_) (fun d M h => ?_)
    · refine en_118 (Nat.le_of_ble_eq_true rfl) ?_
      have hM := h.1
      refine st_ald rfl rfl ?_
      refine st_ild rfl rfl ?_
      refine st_ild rfl rfl ?_
      refine st_ild rfl rfl ?_
      refine st_cav (As := [_, _, _]) rfl rfl rfl (by first | exact tT hM rfl | assumption | exact rw_T hM (by assumption) | exact rw_A hM (by assumption)) (Nat.le_of_ble_eq_true rfl) (cmU (d + 16) h hj hj hx hlen hno) ?_
      refine st_ist rfl ?_
      refine st_ild rfl rfl ?_
      refine st_b1 rfl (fun zq => absurd zq ((by decide))) (fun _ => ?_)
      refine st_ild rfl rfl ?_
      -- at 13: op_iret
      exact st_iret rfl ⟨rfl, rfl⟩
    · refine en_237 (Nat.le_of_ble_eq_true rfl) ?_
      have hM := h.1
      refine st_ild rfl rfl ?_
      refine st_call (As := [_]) rfl rfl rfl (Nat.le_of_ble_eq_true rfl) (m_isRow (d + 17) _) ?_
      refine st_b1 rfl (fun _ => ?_) (fun zq => absurd (b01_t h2) zq)
      refine st_ald rfl rfl ?_
      refine st_ild rfl rfl ?_
      refine st_cav (As := [_]) rfl rfl rfl (by first | exact tT hM rfl | assumption | exact rw_T hM (by assumption) | exact rw_A hM (by assumption)) (Nat.le_of_ble_eq_true rfl) (mqU (d + 16) h hj hx hlen hno) ?_
      refine st_ist rfl ?_
      refine st_ild rfl rfl ?_
      refine st_b1 rfl (fun zq => absurd zq ((by decide))) (fun _ => ?_)
      refine st_ild rfl rfl ?_
      -- at 20: op_iret
      exact st_iret rfl ⟨rfl, rfl⟩
  have ho := rw_row j hj
  refine ⟨.int 1, sU' a (lN (WY (aC a) m 20 s00 (cf_rm (aC a)))), ha.up _, fun d M h => ?_, fun d M h => ?_⟩
  · have hM := h.1
    have hr0 : pm_Ro M (106 + 2 * j) (m.map nI) := by have := h.2.1 j hj; rw [hx] at this; exact this
    obtain ⟨M1, hc1, p1, t1, n1, s1⟩ := c_beginN (d + 14) hM h.2.2.2.1 (al_rf _) hw hw ho (by omega) (Or.inl rfl) hr0 hlen hk (fun k hk => (h.2.2.2.1.2.1 k hk).2.2)
    have hI := h.say s1
    have hM1 := hI.1
    obtain ⟨M2, hc2, s2⟩ := c_howManyWays (d + 15) hM1 p1 t1 n1 (rm := cf_rm (aC a)) (by omega)
    have hI2 : IC a M2 := hI.S s2 (fun k hk => Or.inl (by have : k = 32 := hk; omega))
    have hM2 := hI2.1
    refine ⟨_, en_118 (Nat.le_of_ble_eq_true rfl) ?_, hI2.up, ?_⟩
    · refine st_ald rfl rfl ?_
      refine st_ild rfl rfl ?_
      refine st_ild rfl rfl ?_
      refine st_ild rfl rfl ?_
      refine st_cav (As := [_, _, _]) rfl rfl rfl (by first | exact tT hM rfl | assumption | exact rw_T hM (by assumption) | exact rw_A hM (by assumption)) (Nat.le_of_ble_eq_true rfl) (cmO (d + 16) h hj hj hx hk hlen) ?_
      refine st_ist rfl ?_
      refine st_ild rfl rfl ?_
      refine st_b1 rfl (fun _ => ?_) (fun zq => absurd (rfl) zq)
      refine st_ald rfl rfl ?_
      refine st_gR' rfl (by first | exact tT hM rfl | assumption | exact rw_T hM (by assumption) | exact rw_A hM (by assumption)) (by first | exact rR hM rfl rfl | assumption | exact rw_R hM (by assumption)) ?_
      refine st_ald rfl rfl ?_
      refine st_gR' rfl (by first | exact tT hM rfl | assumption | exact rw_T hM (by assumption) | exact rw_A hM (by assumption)) (by first | exact rR hM rfl rfl | assumption | exact rw_R hM (by assumption)) ?_
      refine st_ild rfl rfl ?_
      refine st_aald' rfl (by first | exact tT hM rfl | assumption | exact rw_T hM (by assumption) | exact rw_A hM (by assumption)) (by first | decide | assumption | exact vp_in_nI (by omega) (by decide)) (by first | assumption | exact rRow' hM (by assumption) | exact rTxt' hM (by assumption) | exact rKep' hM (by assumption) | exact rRdg' hM (by assumption)) ?_
      refine st_ald rfl rfl ?_
      refine st_gR' rfl (by first | exact tT hM rfl | assumption | exact rw_T hM (by assumption) | exact rw_A hM (by assumption)) (by first | exact rR hM rfl rfl | assumption | exact rw_R hM (by assumption)) ?_
      refine st_gR' rfl (by first | exact tT hM rfl | assumption | exact rw_T hM (by assumption) | exact rw_A hM (by assumption)) (by first | exact rR hM rfl rfl | assumption | exact rw_R hM (by assumption)) ?_
      refine st_cav (As := [_, _]) rfl rfl rfl (by first | exact tT hM rfl | assumption | exact rw_T hM (by assumption) | exact rw_A hM (by assumption)) (Nat.le_of_ble_eq_true rfl) (hc1) ?_
      -- at 34: stop
      refine st_ald rfl rfl ?_
      refine st_ald rfl rfl ?_
      refine st_gR' rfl (by first | exact tT hM1 rfl | assumption | exact rw_T hM1 (by assumption) | exact rw_A hM1 (by assumption)) (by first | exact rR hM1 rfl rfl | assumption | exact rw_R hM1 (by assumption)) ?_
      refine st_ald rfl rfl ?_
      refine st_gR' rfl (by first | exact tT hM1 rfl | assumption | exact rw_T hM1 (by assumption) | exact rw_A hM1 (by assumption)) (by first | exact rR hM1 rfl rfl | assumption | exact rw_R hM1 (by assumption)) ?_
      refine st_cav (As := []) rfl rfl rfl (by first | exact tT hM1 rfl | assumption | exact rw_T hM1 (by assumption) | exact rw_A hM1 (by assumption)) (Nat.le_of_ble_eq_true rfl) (c_room (d + 18) hM1 hw hI.2.2.2.1) ?_
      refine st_cav (As := [_]) rfl rfl rfl (by first | exact tT hM1 rfl | assumption | exact rw_T hM1 (by assumption) | exact rw_A hM1 (by assumption)) (Nat.le_of_ble_eq_true rfl) (hc2) ?_
      -- at 49: stop
      refine st_pL rfl (by first | exact tT hM2 rfl | assumption | exact rw_T hM2 (by assumption) | exact rw_A hM2 (by assumption)) ?_
      refine st_k rfl ?_
      -- at 53: op_iret
      exact st_iret rfl ⟨rfl, rfl⟩
    · exact Cfr.sL ((Cfr.S s1 (fun k hk => by omega)).tr (Cfr.S s2 (fun k hk => by have : k = 32 := hk; omega))) (by decide) _ _
  · have hM := h.1
    obtain ⟨M1, hc1, p1, s1⟩ := mqO (d + 16) h hj hx hk hlen
    have hI := h.sc s1
    have hM1 := hI.1
    obtain ⟨r, M', hcc, hr, h5⟩ := eq_237 (d := d + 19) (A := [.ref 132, .int (nI j)]) (M := M) (Q := fun r M' => r = some (.int 1) ∧ pm_S (fun k => k = 157 ∨ k = 158) (sL M1 132 3 (lN (WY (aC a) m 20 s00 (cf_rm (aC a))))) M') (Nat.le_of_ble_eq_true rfl) (by
      refine st_ild rfl rfl ?_
      refine st_call (As := [_]) rfl rfl rfl (Nat.le_of_ble_eq_true rfl) (m_isRow (d + 17) _) ?_
      refine st_b1 rfl (fun _ => ?_) (fun zq => absurd (b01_t h2) zq)
      refine st_ald rfl rfl ?_
      refine st_ild rfl rfl ?_
      refine st_cav (As := [_]) rfl rfl rfl (by first | exact tT hM rfl | assumption | exact rw_T hM (by assumption) | exact rw_A hM (by assumption)) (Nat.le_of_ble_eq_true rfl) (hc1) ?_
      refine st_ist rfl ?_
      refine st_ild rfl rfl ?_
      refine st_b1 rfl (fun _ => ?_) (fun zq => absurd ((by decide)) zq)
      -- at 21: stop
      exact m_ways21 (d + 15) hM1 hw hI.2.2.2.1 p1 (fun M' z => ⟨rfl, z⟩))
    subst hr
    have s5 : Msc (sL M1 132 3 (lN (WY (aC a) m 20 s00 (cf_rm (aC a))))) M' := Msc.S h5 (fun k i z => by rcases z with w | w <;> (rw [w]; omega))
    exact ⟨M', hcc, hI.up.sc s5, (s1.fr.sL (by decide) _ _).tr s5.fr⟩
end WYB

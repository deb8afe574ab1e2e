/-! IN HOW MANY WAYS: the count, the reference -/
/-- what the counts of all places weigh -/
def wsum (D W : Nat → Nat) : Nat := sk (fun p => D p * W p) 18200
def up1 (D : Nat → Nat) (i n : Nat) : Nat → Nat := fun p => if p = i then D p + n else D p
theorem sk_up (D W : Nat → Nat) (i n : Nat) : ∀ N, sk (fun p => up1 D i n p * W p) N = sk (fun p => D p * W p) N + (if i < N then n * W i else 0)
  | 0 => by rw [if_neg (by omega)]; rfl
  | N + 1 => by
    rw [sk_s, sk_s, sk_up D W i n N]
    show _ + up1 D i n N * W N = _ + D N * W N + _
    unfold up1
    by_cases g : N = i
    · subst g
      rw [if_neg (by omega), if_pos rfl, if_pos (by omega), Nat.add_mul]
      omega
    · rw [if_neg g]
      by_cases g2 : i < N
      · rw [if_pos g2, if_pos (by omega)]; omega
      · rw [if_neg g2, if_neg (by omega)]; omega
theorem wsum_up (D W : Nat → Nat) {i : Nat} (n : Nat) (h : i < 18200) : wsum (up1 D i n) W = wsum D W + n * W i := by
  unfold wsum
  rw [sk_up, if_pos h]
/-- what a move weighs -/
def mvW (c : Cf) (m : List Nat) (W : Nat → Nat) (s : St) (u k : Nat) : Nat := match nx c m s k with
  | none => 0
  | some s' => if u + tk c s.2.1 k < 100 then W (100 * si s' + (u + tk c s.2.1 k)) else 0
/-- the counts that are being laid -/
def DW (c : Cf) (k : Nat) (D : Nat → Nat) (M : pm_M) : Prop := (∀ p, p < 18200 → gL M k p = lN (D p)) ∧ ∀ p, p < 18200 → D p ≠ 0 → ∃ s, wS c s ∧ p / 100 = si s
section CTB
variable {c : Cf} {m : List Nat} {M : pm_M}
theorem m_countBehind (d : Nat) (hM : pm_ok M) (hw : cf_wf c) (hc : MC c M) (hm : MM m M) {s : St} (hs : wS c s) {u N : Nat} (hu : u < 100) {D : Nat → Nat} (hD : DW c 158 D M) :
    ∃ M' D', pm_call (d + 3) 239 [.ref 132, .int (nI (si s)), .int (nI u), .long (lN N)] M none M' ∧ pm_S (fun k => k = 158) M M' ∧ DW c 158 D' M' ∧ ∀ W, wsum D' W = wsum D W + N * sk (mvW c m W s u) (cf_n c) := by
  have hn := hw.1
  have hl := hm.2.1
  obtain ⟨e1, e2, e3, e4, e5⟩ := si_d hw hs
  obtain ⟨r, M', hcc, hr, h5, D', h6, h7⟩ := eq_239 (d := d + 2) (A := [.ref 132, .int (nI (si s)), .int (nI u), .long (lN N)]) (M := M) (Q := fun r M' => r = none ∧ pm_S (fun k => k = 158) M M' ∧ ∃ D', DW c 158 D' M' ∧ ∀ W, wsum D' W = wsum D W + N * sk (mvW c m W s u) (cf_n c)) (Nat.le_of_ble_eq_true rfl) (by
    refine st_k rfl ?_
    refine st_ist rfl ?_
    -- at 3: stop
    refine wp_for (cf_n c) (fun k L M1 => ∃ x y6 y7, x = nI k ∧ L = [some (.ref 132), some (.int (nI (si s))), some (.int (nI u)), some (.long (lN N)), none, some (.int x), y6, y7] ∧ pm_S (fun k => k = 158) M M1 ∧ ∃ D1, DW c 158 D1 M1 ∧ ∀ W, wsum D1 W = wsum D W + N * sk (mvW c m W s u) k) ?_ ?_ 0 _ _ (Nat.zero_le _) ⟨_, _, _, rfl, rfl, pm_S.rf, D, hD, fun W => by rw [show sk (mvW c m W s u) 0 = 0 from rfl, Nat.mul_zero, Nat.add_zero]⟩
    · rintro k L M1 hk ⟨x, y6, y7, rfl, rfl, hs1, D1, hD1, hW⟩ ih
      have hM1 := hs1.ok hM
      have hc1 : MC c M1 := hc.moved (fun i _ => hs1.i (by decide) i) (fun k hk i => hs1.i (by show ¬ k = 158; omega) i)
      have hm1 := hm.S hs1 (by decide) (by decide)
      have hsb := m_stateBehind d hM1 hw hc1 hm1 hs hk
      have htk := tk_le hw (last := s.2.1) hk
      have skip : (∀ W, mvW c m W s u k = 0) → ∀ y6 y7, pm_WP (pm_call (d + 2)) tb_239 (fun r M' => r = none ∧ pm_S (fun k => k = 158) M M' ∧ ∃ D', DW c 158 D' M' ∧ ∀ W, wsum D' W = wsum D W + N * sk (mvW c m W s u) (cf_n c)) 66 [some (.ref 132), some (.int (nI (si s))), some (.int (nI u)), some (.long (lN N)), none, some (.int (nI k)), y6, y7] [] M1 := by
        intro z y6 y7
        refine st_inc rfl rfl ?_
        refine st_go rfl ?_
        -- at 3: stop
        exact ih _ _ ⟨_, _, _, nI_1 k, rfl, hs1, D1, hD1, fun W => by rw [sk_s, z W, Nat.add_zero]; exact hW W⟩
      refine st_ild rfl rfl ?_
      refine st_ald rfl rfl ?_
      refine st_gI rfl (by first | exact tT hM1 rfl | assumption | exact rw_T hM1 (by assumption) | exact rw_A hM1 (by assumption)) ?_
      -- at 9: stop
      refine wp_e hc1.1.2.2.1 ?_
      refine st_b2 rfl (fun zq => absurd zq (nI_ge hk (by omega))) (fun _ => ?_)
      refine st_ald rfl rfl ?_
      refine st_ild rfl rfl ?_
      refine st_ild rfl rfl ?_
      refine st_cav (As := [_, _]) rfl rfl rfl (by first | exact tT hM1 rfl | assumption | exact rw_T hM1 (by assumption) | exact rw_A hM1 (by assumption)) (Nat.le_of_ble_eq_true rfl) (hsb) ?_
      refine st_ist rfl ?_
      refine st_ild rfl rfl ?_
      refine st_ald rfl rfl ?_
      refine st_ild rfl rfl ?_
      refine st_call (As := [_]) rfl rfl rfl (Nat.le_of_ble_eq_true rfl) (m_lastOf (d + 1) hw hs) ?_
      refine st_ild rfl rfl ?_
      refine st_cav (As := [_, _]) rfl rfl rfl (by first | exact tT hM1 rfl | assumption | exact rw_T hM1 (by assumption) | exact rw_A hM1 (by assumption)) (Nat.le_of_ble_eq_true rfl) (m_takeOf d hM1 hw hc1 hs.2.1 hk) ?_
      -- at 32: stop
      refine st_ib rfl ?_
      -- at 33: stop
      refine wp_e (nI_add _ _) ?_
      refine st_ist rfl ?_
      -- at 35: stop
      cases hx : nx c m s k with
      | none =>
        refine st_ild rfl rfl ?_
        refine st_k rfl ?_
        refine st_b2 rfl (fun _ => ?_) (fun zq => absurd (rfl) zq)
        -- at 66: stop
        exact skip (fun W => by unfold mvW; rw [hx]) _ _
      | some s' =>
        obtain ⟨hw', hw2⟩ := nx_wS hw hl hk hs hx
        obtain ⟨d1, d2, d3, d4, d5⟩ := si_d hw hw'
        have hne : ¬ n9 (some s') = -9 := fun z => absurd (show nI (si s') < 0 by rw [show nI (si s') = -9 from z]; decide) (nI_pos (by omega))
        by_cases g : u + tk c s.2.1 k < 100
        · refine st_ild rfl rfl ?_
          refine st_k rfl ?_
          refine st_b2 rfl (fun zq => absurd zq (hne)) (fun _ => ?_)
          refine st_ild rfl rfl ?_
          refine st_k rfl ?_
          refine st_b2 rfl (fun zq => absurd zq (nI_ge (a := u + tk c s.2.1 k) (b := 100) g (by decide))) (fun _ => ?_)
          refine st_ald rfl rfl ?_
          refine st_gR' rfl (by first | exact tT hM1 rfl | assumption | exact rw_T hM1 (by assumption) | exact rw_A hM1 (by assumption)) (by first | exact rR hM1 rfl rfl | assumption | exact rw_R hM1 (by assumption)) ?_
          refine st_k rfl ?_
          refine st_ild rfl rfl ?_
          refine st_ib rfl ?_
          -- at 58: stop
          refine wp_e (pk_mul 100 (si s')) ?_
          refine st_ild rfl rfl ?_
          refine st_ib rfl ?_
          -- at 61: stop
          refine wp_e (nI_add _ _) ?_
          have hin : vp_in (nI (100 * si s' + (u + tk c s.2.1 k))) 18200 := vp_in_nI (by omega) (by decide)
          refine st_dup2 rfl rfl rfl ?_
          refine st_lald rfl (tT hM1 rfl) (hin) ?_
          refine st_lld rfl rfl ?_
          refine st_lb rfl ?_
          refine st_last rfl (tT hM1 rfl) (hin) ?_
          refine st_inc rfl rfl ?_
          refine st_go rfl ?_
          -- at 3: stop
          rw [nI_clamp (show 100 * si s' + (u + tk c s.2.1 k) < 2147483648 by omega)]
          refine ih _ _ ⟨_, _, _, nI_1 k, rfl, hs1.sL rfl _ _, up1 D1 (100 * si s' + (u + tk c s.2.1 k)) N, ⟨fun p hp => ?_, fun p hp hz => ?_⟩, fun W => ?_⟩
          · rw [gL_sL]
            unfold up1
            by_cases z : p = 100 * si s' + (u + tk c s.2.1 k)
            · rw [if_pos ⟨rfl, z⟩, if_pos z, hD1.1 _ (by omega), lN_add, z]
            · rw [if_neg (fun w => z w.2), if_neg z]
              exact hD1.1 p hp
          · unfold up1 at hz
            by_cases z : p = 100 * si s' + (u + tk c s.2.1 k)
            · exact ⟨s', hw', by omega⟩
            · rw [if_neg z] at hz
              exact hD1.2 p hp hz
          · rw [wsum_up _ _ _ (by omega), hW W, sk_s, Nat.mul_add, Nat.add_assoc]
            congr 2
            unfold mvW
            rw [hx]
            exact congrArg (N * ·) (if_pos g).symm
        · refine st_ild rfl rfl ?_
          refine st_k rfl ?_
          refine st_b2 rfl (fun zq => absurd zq (hne)) (fun _ => ?_)
          refine st_ild rfl rfl ?_
          refine st_k rfl ?_
          refine st_b2 rfl (fun _ => ?_) (fun zq => absurd (nI_le (a := 100) (b := u + tk c s.2.1 k) (by omega) (by omega)) zq)
          -- at 66: stop
          exact skip (fun W => by unfold mvW; rw [hx]; exact if_neg g) _ _
    · rintro L M1 ⟨x, y6, y7, rfl, rfl, hs1, D1, hD1, hW⟩
      have hM1 := hs1.ok hM
      have hc1 : MC c M1 := hc.moved (fun i _ => hs1.i (by decide) i) (fun k hk i => hs1.i (by show ¬ k = 158; omega) i)
      refine st_ild rfl rfl ?_
      refine st_ald rfl rfl ?_
      refine st_gI rfl (by first | exact tT hM1 rfl | assumption | exact rw_T hM1 (by assumption) | exact rw_A hM1 (by assumption)) ?_
      -- at 9: stop
      refine wp_e hc1.1.2.2.1 ?_
      refine st_b2 rfl (fun _ => ?_) (fun zq => absurd (nI_le (Nat.le_refl _) (by omega)) zq)
      -- at 72: op_vret
      exact st_vret rfl ⟨rfl, hs1, D1, hD1, hW⟩)
  subst hr
  exact ⟨M', D', hcc, h5, h6, h7⟩
end CTB

/-! in how many ways, the class: the count over all cells -/
section HMW
variable {c : Cf} {m : List Nat} {pc : Nat} {M : pm_M}
theorem TwC.kept {M' : pm_M} {y : Ce} (h : TwC c m pc M y) {s : Nat} {g : Nat → Int64} (he : M' = wL M 32 s 100 g) (hd : s + 100 ≤ spw y ∨ spw y + 100 ≤ s) : TwC c m pc M' y := fun f h1 h2 h3 r hr => by
  rw [he, gL_wL, if_neg (by omega)]
  exact h f h1 h2 h3 r hr
theorem c_howManyWays (d : Nat) (hM : pm_ok M) (h : SP c c m pc M) (hT : TbA c m pc M) (hN : TbN c m pc M) {rm : Nat} (hrm : rm < 100) :
    ∃ M', pm_call (d + 4) 67 [.ref 27, .int (nI rm)] M (some (.long (lN (WY c m 20 s00 rm)))) M' ∧ pm_S (fun k => k = 32) M M' := by
  have hw := h.1.2.2.2.1
  have hn := hw.1
  have hp := h.2.2
  have hpc10 : pc ≤ 10 := by rcases hp.2 with z | z <;> omega
  have hml := hp.1
  have e13 : gI M 31 13 = nI (nv (LF c m 20 s00)) := hT c00 (vx00 hp) 20 (by decide) (Fu00 hp)
  have hin : vp_in (13 : Int32) 1820 := vp_in_nI (n := 13) (by decide) (by decide)
  have nvl := nv_lt (x := LF c m 20 s00) (fun v hv => LF_lt hw (m := m) (s := s00) (f := 20) (by omega) v hv)
  obtain ⟨r, M', hcc, hr, h5⟩ := eq_67 (d := d + 3) (A := [.ref 27, .int (nI rm)]) (M := M) (Q := fun r M' => r = some (.long (lN (WY c m 20 s00 rm))) ∧ pm_S (fun k => k = 32) M M') (Nat.le_of_ble_eq_true rfl) (by
    refine st_ald rfl rfl ?_
    refine st_gR' rfl (by first | exact tT hM rfl | assumption | exact rw_T hM (by assumption) | exact rw_A hM (by assumption)) (by first | exact rR hM rfl rfl | assumption | exact rw_R hM (by assumption)) ?_
    refine st_k rfl ?_
    refine st_iald rfl (by first | exact tT hM rfl | assumption | exact rw_T hM (by assumption) | exact rw_A hM (by assumption)) (by first | decide | assumption | exact vp_in_nI (by omega) (by decide)) ?_
    -- at 7: stop
    refine wp_e e13 ?_
    by_cases g : nv (LF c m 20 s00) ≤ rm
    · obtain ⟨v, hv⟩ : ∃ v, LF c m 20 s00 = some v := by
        cases hL : LF c m 20 s00 with
        | none => rw [hL] at g; exact absurd g (by show ¬ 1000 ≤ rm; omega)
        | some v => exact ⟨v, rfl⟩
      refine st_ild rfl rfl ?_
      refine st_b2 rfl (fun _ => ?_) (fun zq => absurd (nI_le g (by omega)) zq)
      refine st_ald rfl rfl ?_
      refine st_gR' rfl (by first | exact tT hM rfl | assumption | exact rw_T hM (by assumption) | exact rw_A hM (by assumption)) (by first | exact rR hM rfl rfl | assumption | exact rw_R hM (by assumption)) ?_
      refine st_gI rfl (by first | exact tT hM rfl | assumption | exact rw_T hM (by assumption) | exact rw_A hM (by assumption)) ?_
      -- at 20: stop
      refine wp_e (sy_l h.1) ?_
      refine st_ist rfl ?_
      -- at 21: stop
      refine wp_for (m.length + 1) (fun i L M4 => ∃ x y3 y4, x = nI (m.length + 1 - i) - 1 ∧ L = [some (.ref 27), some (.int (nI rm)), some (.int x), y3, y4] ∧ pm_S (fun k => k = 32) M M4 ∧ ∀ y, vx c m pc y → y.1 + i = m.length + 1 → TwC c m pc M4 y) ?_ ?_ 0 _ _ (Nat.zero_le _) ⟨_, _, _, by rw [Nat.sub_zero, nI_pred], rfl, pm_S.rf, fun y hy z => by have := (vx_b hw hp hy).2.1; omega⟩
      · rintro i L M4 hi ⟨x, y3, y4, rfl, rfl, hs4, hT4⟩ ih
        obtain ⟨r, hr⟩ : ∃ r, m.length + 1 - i = r + 1 := ⟨m.length - i, by omega⟩
        rw [hr, nI_pred]
        refine st_ild rfl rfl ?_
        refine st_b1 rfl (fun zq => absurd zq (nI_pos (by omega))) (fun _ => ?_)
        refine st_ild rfl rfl ?_
        refine st_k rfl ?_
        refine st_ib rfl ?_
        -- at 30: stop
        refine wp_e (pk_mul r 140) ?_
        refine st_ist rfl ?_
        refine st_ild rfl rfl ?_
        refine st_ist rfl ?_
        -- at 34: stop
        have hinit : ∀ y, vx c m pc y → (y.1 = r + 1 ∨ (y.1 = r ∧ ci y < r * 140 + 0)) → TwC c m pc M4 y := by
          intro y hy z
          refine hT4 y hy ?_
          rcases z with w | w
          · omega
          · have e : ci y = y.1 * 140 + y.2.1 * 14 + (if y.2.2.1 = true then 0 else 7) + y.2.2.2 := rfl
            omega
        refine wp_for (pc * 14) (fun j L M5 => ∃ x, x = nI (r * 140 + j) ∧ L = [some (.ref 27), some (.int (nI rm)), some (.int (nI r)), some (.int (nI (r * 140))), some (.int x)] ∧ pm_S (fun k => k = 32) M M5 ∧ ∀ y, vx c m pc y → (y.1 = r + 1 ∨ (y.1 = r ∧ ci y < r * 140 + j)) → TwC c m pc M5 y) ?_ ?_ 0 _ _ (Nat.zero_le _) ⟨_, rfl, rfl, hs4, hinit⟩
        · rintro j L M5 hj ⟨x, rfl, rfl, hs5, hT5⟩ ih2
          have hM5 := hs5.ok hM
          have y5 := h.kept hs5 (fun k z => by rw [show k = 32 from z]; decide)
          have t5 : TbA c m pc M5 := fun y hy => (hT y hy).kept hs5 (by decide)
          have hj140 : j < 140 := by omega
          have hin2 : vp_in (nI (r * 140 + j)) 1820 := vp_in_nI (by omega) (by decide)
          have e14 : nI pc * 14 = nI (pc * 14) := pk_mul pc 14
          have ex : ∃ x : Ce, x.1 = r ∧ x.2.1 = j / 14 ∧ x.2.2.1 = decide (j % 14 < 7) ∧ x.2.2.2 = j % 7 ∧ ci x = r * 140 + j := by
            refine ⟨(r, j / 14, decide (j % 14 < 7), j % 7), rfl, rfl, rfl, rfl, ?_⟩
            show r * 140 + j / 14 * 14 + (if decide (j % 14 < 7) = true then 0 else 7) + j % 7 = r * 140 + j
            by_cases z : j % 14 < 7
            · rw [if_pos (decide_eq_true z)]; omega
            · rw [if_neg (fun w => z (of_decide_eq_true w))]; omega
          obtain ⟨x, x1, x2, x3, x4, xc⟩ := ex
          have hxb : x.2.1 < 10 := by omega
          have hx6 : x.2.2.2 ≤ 6 := by omega
          have hrg : rgx m pc x := ⟨by omega, by omega, hx6⟩
          have same : ∀ y, vx c m pc y → ci y = r * 140 + j → y = x := fun y hy w => by
            obtain ⟨v1, v2, v3, v4, v5⟩ := vx_b hw hp hy
            exact ci_inj v1 v3 v5 (by omega) hxb hx6 (by rw [w, xc])
          have skip : (vx c m pc x → TwC c m pc M5 x) → pm_WP (pm_call (d + 3)) tb_67 (fun r M' => r = some (.long (lN (WY c m 20 s00 rm))) ∧ pm_S (fun k => k = 32) M M') 67 [some (.ref 27), some (.int (nI rm)), some (.int (nI r)), some (.int (nI (r * 140))), some (.int (nI (r * 140 + j)))] [] M5 := by
            intro hv
            refine st_inc rfl rfl ?_
            refine st_go rfl ?_
            -- at 34: stop
            refine ih2 _ _ ⟨_, nI_1 _, rfl, hs5, fun y hy z => ?_⟩
            by_cases w : ci y = r * 140 + j
            · have := same y hy w
              subst this
              exact hv hy
            · exact hT5 y hy (z.elim (fun z => Or.inl z) (fun z => Or.inr ⟨z.1, by have := z.2; omega⟩))
          refine st_ild rfl rfl ?_
          refine st_ild rfl rfl ?_
          refine st_ald rfl rfl ?_
          refine st_gI rfl (by first | exact tT hM5 rfl | assumption | exact rw_T hM5 (by assumption) | exact rw_A hM5 (by assumption)) ?_
          -- at 41: stop
          refine wp_e y5.2.1 ?_
          refine st_k rfl ?_
          refine st_ib rfl ?_
          -- at 44: stop
          refine wp_e e14 ?_
          refine st_ib rfl ?_
          -- at 45: stop
          refine wp_e (nI_add _ _) ?_
          refine st_b2 rfl (fun zq => absurd zq (nI_ge (by omega) (by omega))) (fun _ => ?_)
          refine st_ald rfl rfl ?_
          refine st_gR' rfl (by first | exact tT hM5 rfl | assumption | exact rw_T hM5 (by assumption) | exact rw_A hM5 (by assumption)) (by first | exact rR hM5 rfl rfl | assumption | exact rw_R hM5 (by assumption)) ?_
          refine st_ild rfl rfl ?_
          refine st_iald rfl (tT hM5 rfl) (hin2) ?_
          -- at 55: stop
          rw [nI_clamp (show r * 140 + j < 2147483648 by omega)]
          by_cases hvx : vx c m pc x
          · obtain ⟨f, f1, f2⟩ := Fu_ex hp hvx
            have et := t5 x hvx f f1 f2
            rw [xc] at et
            refine wp_e et ?_
            cases hL : LF c m f (stc x) with
            | none =>
              refine st_k rfl ?_
              refine st_b2 rfl (fun _ => ?_) (fun zq => absurd ((by decide)) zq)
              -- at 67: stop
              exact skip (fun _ f' g1 g2 g3 => absurd (by rw [← Fu_eq hvx f2 g2 hp]; exact hL) g3)
            | some v =>
              have hv1 := LF_lt hw (m := m) (s := stc x) (f := f) f1 v hL
              have hcw := c_countWays d hM5 y5 t5 hvx f2 f1 (fun k y hk hy => by
                obtain ⟨n1, n2, n3, n4, n5⟩ := on_ci hp hw hvx f2 hk hy
                refine hT5 y (on_some hp hvx f2 hk hy).1 ?_
                rcases n4 with z | z
                · left; omega
                · right; omega)
              rw [xc] at hcw
              have hs6 := hs5.wL (k := 32) rfl (spw x) 100 (fun r => lN (WY c m f (stc x) r))
              refine st_k rfl ?_
              refine st_b2 rfl (fun zq => absurd zq (nI_ge (a := v) (b := 1000) hv1 (by decide))) (fun _ => ?_)
              refine st_ald rfl rfl ?_
              refine st_ild rfl rfl ?_
              refine st_cav (As := [_]) rfl rfl rfl (by first | exact tT hM5 rfl | assumption | exact rw_T hM5 (by assumption) | exact rw_A hM5 (by assumption)) (Nat.le_of_ble_eq_true rfl) (hcw) ?_
              -- at 67: stop
              refine st_inc rfl rfl ?_
              refine st_go rfl ?_
              -- at 34: stop
              refine ih2 _ _ ⟨_, nI_1 _, rfl, hs6, fun y hy z => ?_⟩
              by_cases w : ci y = r * 140 + j
              · have := same y hy w
                subst this
                intro f' g1 g2 g3 r' hr'
                rw [gL_wL, if_pos ⟨rfl, by omega, by omega⟩, Nat.add_sub_cancel_left]
                exact congrArg lN (Fu_eqW hvx f2 g2 hp r')
              · refine (hT5 y hy (z.elim (fun z => Or.inl z) (fun z => Or.inr ⟨z.1, by have := z.2; omega⟩))).kept rfl ?_
                have := hy.1
                obtain ⟨v1, v2, v3, v4, v5⟩ := vx_b hw hp hy
                have ey : ci y = y.1 * 140 + y.2.1 * 14 + (if y.2.2.1 = true then 0 else 7) + y.2.2.2 := rfl
                have by' : (if y.2.2.1 = true then 0 else 7) ≤ 7 := by split <;> omega
                have hlo : r * 140 ≤ ci y ∧ ci y < r * 140 + 280 := by
                  rcases z with z | z
                  · rw [z] at ey
                    omega
                  · rw [z.1] at ey
                    omega
                exact spw_ne (by omega) (by omega) (by omega)
          · have et : gI M5 31 (ci x) = 1000 := by rw [hs5.i (by decide)]; exact hN x hrg hvx
            rw [xc] at et
            refine wp_e et ?_
            refine st_k rfl ?_
            refine st_b2 rfl (fun _ => ?_) (fun zq => absurd ((by decide)) zq)
            -- at 67: stop
            exact skip (fun z => absurd z hvx)
        · rintro L M5 ⟨x, rfl, rfl, hs5, hT5⟩
          have hM5 := hs5.ok hM
          have y5 := h.kept hs5 (fun k z => by rw [show k = 32 from z]; decide)
          have e14 : nI pc * 14 = nI (pc * 14) := pk_mul pc 14
          refine st_ild rfl rfl ?_
          refine st_ild rfl rfl ?_
          refine st_ald rfl rfl ?_
          refine st_gI rfl (by first | exact tT hM5 rfl | assumption | exact rw_T hM5 (by assumption) | exact rw_A hM5 (by assumption)) ?_
          -- at 41: stop
          refine wp_e y5.2.1 ?_
          refine st_k rfl ?_
          refine st_ib rfl ?_
          -- at 44: stop
          refine wp_e e14 ?_
          refine st_ib rfl ?_
          -- at 45: stop
          refine wp_e (nI_add _ _) ?_
          refine st_b2 rfl (fun _ => ?_) (fun zq => absurd (nI_le (by omega) (by omega)) zq)
          refine st_inc rfl rfl ?_
          refine st_go rfl ?_
          -- at 21: stop
          refine ih _ _ ⟨_, _, _, ?_, rfl, hs5, fun y hy z => hT5 y hy (Or.inr ?_)⟩
          · rw [show m.length + 1 - (i + 1) = r by omega]
            exact (Int32.sub_eq_add_neg ..).symm
          · have hyp := hy.1
            obtain ⟨v1, v2, v3, v4, v5⟩ := vx_b hw hp hy
            refine ⟨by omega, ?_⟩
            show y.1 * 140 + y.2.1 * 14 + (if y.2.2.1 = true then 0 else 7) + y.2.2.2 < _
            split <;> omega
      · rintro L M4 ⟨x, y3, y4, rfl, rfl, hs4, hT4⟩
        rw [Nat.sub_self]
        have hM4 := hs4.ok hM
        have hc := hT4 c00 (vx00 hp) (by show 0 + _ = _; omega) 20 (by decide) (Fu00 hp) (by rw [show stc c00 = s00 from rfl, hv]; simp) rm hrm
        refine st_ild rfl rfl ?_
        refine st_b1 rfl (fun _ => ?_) (fun zq => absurd ((by decide)) zq)
        refine st_ald rfl rfl ?_
        refine st_gR' rfl (by first | exact tT hM4 rfl | assumption | exact rw_T hM4 (by assumption) | exact rw_A hM4 (by assumption)) (by first | exact rR hM4 rfl rfl | assumption | exact rw_R hM4 (by assumption)) ?_
        refine st_k rfl ?_
        refine st_call (As := [_]) rfl rfl rfl (Nat.le_of_ble_eq_true rfl) (c_spot6 (d + 2) (x := c00) (by decide) (by decide) (by decide)) ?_
        refine st_ild rfl rfl ?_
        -- at 89: stop
        refine st_ib rfl ?_
        -- at 90: stop
        refine wp_e (nI_add (spw c00) rm) ?_
        have hs0 : spw c00 = 1300 := rfl
        have hin9 : vp_in (nI (spw c00 + rm)) 28000 := vp_in_nI (by omega) (by decide)
        refine st_lald rfl (tT hM4 rfl) (hin9) ?_
        -- at 91: stop
        rw [nI_clamp (show spw c00 + rm < 2147483648 by omega), hc]
        exact st_lret rfl ⟨rfl, hs4⟩
    · refine st_ild rfl rfl ?_
      refine st_b2 rfl (fun zq => absurd zq (nI_ge (by omega) (by omega))) (fun _ => ?_)
      refine st_k rfl ?_
      -- at 12: op_lret
      refine st_lret rfl ⟨?_, pm_S.rf⟩
      have : WY c m 20 s00 rm = 0 := by
        refine Classical.byContradiction (fun z => ?_)
        obtain ⟨v, hv1, hv2⟩ := WY_ole 20 s00 rm z
        rw [hv1] at g
        exact g hv2
      rw [this]
      rfl)
  subst hr
  exact ⟨M', hcc, h5⟩
end HMW

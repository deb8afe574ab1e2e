-- begin once more: with what stands in the cells that cannot be
def rgx (m : List Nat) (pc : Nat) (y : Ce) : Prop := y.1 ≤ m.length ∧ y.2.1 < pc ∧ y.2.2.2 ≤ 6
/-- a cell that cannot be holds 1000 -/
def TbN (c : Cf) (m : List Nat) (pc : Nat) (M : pm_M) : Prop := ∀ y, rgx m pc y → ¬ vx c m pc y → gI M 31 (ci y) = 1000
section BEN
variable {c0 c : Cf} {m : List Nat} {M : pm_M} {pc : Nat}
theorem c_beginN (d : Nat) (hM : pm_ok M) (hc : CC c0 M) (ha : alike c0 c) (hw0 : cf_wf c0) (hw : cf_wf c) {o g : Nat} (ho : pm_rw o = true) (ho2 : 34 < o) (hg : g = 10 ∨ g = 34) (hro : pm_Ro M o (m.map nI)) (hl : m.length ≤ 12) (h10 : ∀ t, t ∈ m → t < 10) (hsg : ∀ k, k < cf_n c → gI M g k = nI (cf_sg c k)) :
    ∃ M', pm_call (d + 5) 59 [.ref 27, .ref o, .ref g] M none M' ∧ SP c0 c m (pcv c m) M' ∧ TbA c m (pcv c m) M' ∧ TbN c m (pcv c m) M' ∧ pm_S (fun k => 27 ≤ k ∧ k ≤ 31) M M' := by
  have hn := hw.1
  have ro28 : pm_rw 28 = true := by decide +kernel
  have hpk := pcv_ok (c := c) hl
  have hcpl := cp_le c m
  have tg : M.1[g]? = some (100, 6) := by rcases hg with z | z <;> subst z <;> exact tT hM rfl
  -- what is copied
  have s1 : pm_S (pm_oo 28) M (sI (pm_cp M (o + 1) (28 + 1) 0 0 (m.map nI).length) 28 1 (nI (m.map nI).length)) := s_become
  have r1 : pm_Ro (sI (pm_cp M (o + 1) (28 + 1) 0 0 (m.map nI).length) 28 1 (nI (m.map nI).length)) 28 (m.map nI) := ro_become hro
  have cb1 := c_become (d + 3) hM ro28 ho (by omega) hro
  generalize hM1' : sI (pm_cp M (o + 1) (28 + 1) 0 0 (m.map nI).length) 28 1 (nI (m.map nI).length) = M1 at s1 r1 cb1
  have hM1 := s1.ok hM
  have s2 : pm_S (fun k => 27 ≤ k ∧ k ≤ 31) M (pm_cp M1 g 30 0 0 6) := (s1.mo (fun k hk => by rcases hk with z | z <;> (show _ ∧ _; omega))).cp (by decide) _ _ _
  have hM2 : pm_ok (pm_cp M1 g 30 0 0 6) := hM1
  have y2 : SY c0 c m (pm_cp M1 g 30 0 0 6) := by
    refine ⟨hc.kept s2 (fun k h1 h2 => by show ¬ (_ ∧ _); omega), ha, hw0, hw, ?_, hl, h10, fun k hk => ?_⟩
    · refine ⟨by rw [gI_cp, if_neg (by omega)]; exact r1.1, r1.2.1, fun i hi => by rw [gI_cp, if_neg (by omega)]; exact r1.2.2 i hi⟩
    · rw [gI_cp, if_pos ⟨rfl, by omega, by omega⟩, s1.i (by rcases hg with z | z <;> subst z <;> (show ¬ (_ ∨ _); omega))]
      rw [Nat.zero_add, Nat.sub_zero]
      exact hsg k hk
  generalize hM2' : pm_cp M1 g 30 0 0 6 = M2 at s2 hM2 y2
  have s3 : pm_S (fun k => 27 ≤ k ∧ k ≤ 31) M (sI M2 27 3 (nI (pcv c m))) := s2.sI (by decide) _ _
  have y3 : SP c0 c m (pcv c m) (sI M2 27 3 (nI (pcv c m))) := ⟨y2.kept (S := fun k => k = 27) (pm_S.sI (S := fun k => k = 27) pm_S.rf rfl _ _) (fun k z => Or.inr z), gI_same _ _ _ _, hpk⟩
  have main : ∀ l3 l4 l5 l6, pm_WP (pm_call (d + 4)) tb_59 (fun r M' => r = none ∧ SP c0 c m (pcv c m) M' ∧ TbA c m (pcv c m) M' ∧ TbN c m (pcv c m) M' ∧ pm_S (fun k => 27 ≤ k ∧ k ≤ 31) M M') 67 [some (.ref 27), some (.ref o), some (.ref g), some (.int l3), l4, l5, l6] [] (sI M2 27 3 (nI (pcv c m))) := by
    intro l3 l4 l5 l6
    have hM3 : pm_ok (sI M2 27 3 (nI (pcv c m))) := hM2
    generalize sI M2 27 3 (nI (pcv c m)) = M3 at s3 y3 hM3
    generalize pcv c m = pc at y3 hpk
    have hpc10 : pc ≤ 10 := by rcases hpk.2 with z | z <;> omega
    refine st_ald rfl rfl ?_
    refine st_gR' rfl (by first | exact tT hM3 rfl | assumption | exact rw_T hM3 (by assumption) | exact rw_A hM3 (by assumption)) (by first | exact rR hM3 rfl rfl | assumption | exact rw_R hM3 (by assumption)) ?_
    refine st_gI rfl (by first | exact tT hM3 rfl | assumption | exact rw_T hM3 (by assumption) | exact rw_A hM3 (by assumption)) ?_
    -- at 74: stop
    refine wp_e (sy_l y3.1) ?_
    refine st_ist rfl ?_
    -- at 76: stop
    refine wp_for (m.length + 1) (fun i L M4 => ∃ x y5 y6, x = nI (m.length + 1 - i) - 1 ∧ L = [some (.ref 27), some (.ref o), some (.ref g), some (.int l3), some (.int x), y5, y6] ∧ pm_S (fun k => k = 31) M3 M4 ∧ (∀ y, vx c m pc y → m.length < y.1 + i → TbC c m pc M4 y) ∧ ∀ y, rgx m pc y → m.length < y.1 + i → ¬ vx c m pc y → gI M4 31 (ci y) = 1000) ?_ ?_ 0 _ _ (Nat.zero_le _) ⟨_, _, _, by rw [Nat.sub_zero, nI_pred], rfl, pm_S.rf, fun y hy z => by have := (vx_b hw hpk hy).2.1; omega, fun y hy z => by have := hy.1; omega⟩
    · rintro i L M4 hi ⟨x, y5, y6, rfl, rfl, hs4, hT4, hN4⟩ ih
      obtain ⟨r, hr⟩ : ∃ r, m.length + 1 - i = r + 1 := ⟨m.length - i, by omega⟩
      rw [hr, nI_pred]
      refine st_ild rfl rfl ?_
      refine st_b1 rfl (fun zq => absurd zq (nI_pos (by omega))) (fun _ => ?_)
      refine st_ild rfl rfl ?_
      refine st_k rfl ?_
      refine st_ib rfl ?_
      -- at 87: stop
      refine wp_e (pk_mul r 140) ?_
      refine st_ist rfl ?_
      refine st_ild rfl rfl ?_
      refine st_ist rfl ?_
      -- at 93: stop
      have hinit : ∀ y, vx c m pc y → (r < y.1 ∨ (y.1 = r ∧ ci y < r * 140 + 0)) → TbC c m pc M4 y := by
        intro y hy z
        refine hT4 y hy ?_
        rcases z with w | w
        · omega
        · have e : ci y = y.1 * 140 + y.2.1 * 14 + (if y.2.2.1 = true then 0 else 7) + y.2.2.2 := rfl
          omega
      have hinitN : ∀ y, rgx m pc y → (r < y.1 ∨ (y.1 = r ∧ ci y < r * 140 + 0)) → ¬ vx c m pc y → gI M4 31 (ci y) = 1000 := by
        intro y hy z
        refine hN4 y hy ?_
        rcases z with w | w
        · omega
        · have e : ci y = y.1 * 140 + y.2.1 * 14 + (if y.2.2.1 = true then 0 else 7) + y.2.2.2 := rfl
          omega
      refine wp_for (pc * 14) (fun j L M5 => ∃ x, x = nI (r * 140 + j) ∧ L = [some (.ref 27), some (.ref o), some (.ref g), some (.int l3), some (.int (nI r)), some (.int (nI (r * 140))), some (.int x)] ∧ pm_S (fun k => k = 31) M3 M5 ∧ (∀ y, vx c m pc y → (r < y.1 ∨ (y.1 = r ∧ ci y < r * 140 + j)) → TbC c m pc M5 y) ∧ ∀ y, rgx m pc y → (r < y.1 ∨ (y.1 = r ∧ ci y < r * 140 + j)) → ¬ vx c m pc y → gI M5 31 (ci y) = 1000) ?_ ?_ 0 _ _ (Nat.zero_le _) ⟨_, rfl, rfl, hs4, hinit, hinitN⟩
      · rintro j L M5 hj ⟨x, rfl, rfl, hs5, hT5, hN5⟩ ih2
        have hM5 := hs5.ok hM3
        have y5 := y3.kept hs5 (fun k z => by rw [show k = 31 from z]; exact Nat.le_refl _)
        have hj140 : j < 140 := by omega
        have hin : vp_in (nI (r * 140 + j)) 1820 := vp_in_nI (by omega) (by decide)
        have e14 : nI pc * 14 = nI (pc * 14) := pk_mul pc 14
        have ex : ∃ x : Ce, x.1 = r ∧ x.2.1 = j / 14 ∧ x.2.2.1 = decide (j % 14 < 7) ∧ x.2.2.2 = j % 7 ∧ ci x = r * 140 + j := by
          refine ⟨(r, j / 14, decide (j % 14 < 7), j % 7), rfl, rfl, rfl, rfl, ?_⟩
          show r * 140 + j / 14 * 14 + (if decide (j % 14 < 7) = true then 0 else 7) + j % 7 = r * 140 + j
          by_cases z : j % 14 < 7
          · rw [if_pos (decide_eq_true z)]; omega
          · rw [if_neg (fun w => z (of_decide_eq_true w))]; omega
        obtain ⟨x, x1, x2, x3, x4, xc⟩ := ex
        have hxb : x.2.1 < 10 := by omega
        have hx6 : x.2.2.2 ≤ 6 := by omega
        have fin : ∀ v : Int32, (vx c m pc x → ∀ f, f ≤ 20 → Fu c m pc x f → v = nI (nv (LF c m f (stc x)))) → (¬ vx c m pc x → v = 1000) → pm_WP (pm_call (d + 4)) tb_59 (fun r M' => r = none ∧ SP c0 c m pc M' ∧ TbA c m pc M' ∧ TbN c m pc M' ∧ pm_S (fun k => 27 ≤ k ∧ k ≤ 31) M M') 135 [some (.ref 27), some (.ref o), some (.ref g), some (.int l3), some (.int (nI r)), some (.int (nI (r * 140))), some (.int (nI (r * 140 + j)))] [.int v, .int (nI (r * 140 + j)), .ref 31] M5 := by
          intro v hv hv2
          refine st_iast rfl (tT hM5 rfl) (hin) ?_
          refine st_inc rfl rfl ?_
          refine st_go rfl ?_
          -- at 93: stop
          rw [nI_clamp (by omega)]
          refine ih2 _ _ ⟨_, nI_1 _, rfl, hs5.sI rfl _ _, fun y hy z f f1 f2 => ?_, fun y hy z hnv => ?_⟩
          rotate_left
          · by_cases w : ci y = r * 140 + j
            · rw [w, gI_same]
              have : y = x := ci_inj (by have := hy.1; omega) (by have := hy.2.1; omega) hy.2.2 (by omega) hxb hx6 (by rw [w, xc])
              subst this
              exact hv2 hnv
            · rw [gI_ne (Or.inr w)]
              exact hN5 y hy (z.elim (fun z => Or.inl z) (fun z => Or.inr ⟨z.1, by have := z.2; omega⟩)) hnv
          by_cases w : ci y = r * 140 + j
          · rw [w, gI_same]
            obtain ⟨v1, v2, v3, v4, v5⟩ := vx_b hw hpk hy
            have : y = x := ci_inj v1 v3 v5 (by omega) hxb hx6 (by rw [w, xc])
            subst this
            exact hv hy f f1 f2
          · rw [gI_ne (Or.inr w)]
            exact hT5 y hy (z.elim (fun z => Or.inl z) (fun z => Or.inr ⟨z.1, by have := z.2; omega⟩)) f f1 f2
        refine st_ild rfl rfl ?_
        refine st_ild rfl rfl ?_
        refine st_ald rfl rfl ?_
        refine st_gI rfl (by first | exact tT hM5 rfl | assumption | exact rw_T hM5 (by assumption) | exact rw_A hM5 (by assumption)) ?_
        -- at 101: stop
        refine wp_e y5.2.1 ?_
        refine st_k rfl ?_
        refine st_ib rfl ?_
        -- at 104: stop
        refine wp_e e14 ?_
        refine st_ib rfl ?_
        -- at 105: stop
        refine wp_e (nI_add _ _) ?_
        have hcan := c_canBe (d + 2) hM5 y5.1 (x := x) (by omega) hxb hx6
        rw [xc] at hcan
        rcases hcan with ⟨g1, g2⟩ | ⟨g1, g2⟩
        · have hvx : vx c m pc x := by
            refine ⟨by omega, ?_⟩
            rcases g1 with z | ⟨z1, z2⟩
            · exact Or.inl z
            · refine Or.inr ⟨z1, fun w => ?_, fun w => ?_⟩
              · rcases z2 with ⟨u, _⟩ | ⟨_, u, _⟩
                · rw [w] at u; cases u
                · exact u
              · rcases z2 with ⟨_, u1, u2⟩ | ⟨u, _⟩
                · exact ⟨u1, by omega, u2⟩
                · rw [w] at u; cases u
          obtain ⟨f, f1, f2⟩ := Fu_ex hpk hvx
          have hlb := c_leastBy d hM5 y5 hvx f2 f1 (fun k y hk hy => by
            obtain ⟨v1, v2, f', v3, v4⟩ := on_some hpk hvx f2 hk hy
            refine hT5 y v1 ?_
            unfold on at hy
            split at hy
            · cases hy
            · split at hy
              · rename_i ho
                injection hy with hy
                subst hy
                right
                refine ⟨x1, ?_⟩
                rw [← xc]
                show x.1 * 140 + x.2.1 * 14 + 0 + k < x.1 * 140 + x.2.1 * 14 + (if x.2.2.1 = true then 0 else 7) + x.2.2.2
                rw [ho, if_neg (by decide)]
                omega
              · left
                split at hy
                · split at hy
                  · injection hy with hy
                    subst hy
                    show r < x.1 + 1
                    omega
                  · cases hy
                · split at hy
                  · injection hy with hy
                    subst hy
                    show r < x.1 + 1
                    omega
                  · cases hy)
          rw [xc] at hlb
          refine st_b2 rfl (fun zq => absurd zq (nI_ge (by omega) (by omega))) (fun _ => ?_)
          refine st_ald rfl rfl ?_
          refine st_gR' rfl (by first | exact tT hM5 rfl | assumption | exact rw_T hM5 (by assumption) | exact rw_A hM5 (by assumption)) (by first | exact rR hM5 rfl rfl | assumption | exact rw_R hM5 (by assumption)) ?_
          refine st_ild rfl rfl ?_
          refine st_ald rfl rfl ?_
          refine st_ild rfl rfl ?_
          refine st_cav (As := [_]) rfl rfl rfl (by first | exact tT hM5 rfl | assumption | exact rw_T hM5 (by assumption) | exact rw_A hM5 (by assumption)) (Nat.le_of_ble_eq_true rfl) (g2) ?_
          refine st_b1 rfl (fun zq => absurd zq ((by decide))) (fun _ => ?_)
          refine st_ald rfl rfl ?_
          refine st_ild rfl rfl ?_
          refine st_cav (As := [_]) rfl rfl rfl (by first | exact tT hM5 rfl | assumption | exact rw_T hM5 (by assumption) | exact rw_A hM5 (by assumption)) (Nat.le_of_ble_eq_true rfl) (hlb) ?_
          refine st_go rfl ?_
          -- at 135: stop
          exact fin _ (fun _ f' f1' f2' => by rw [Fu_eq hvx f2 f2' hpk]) (fun z => absurd hvx z)
        · refine st_b2 rfl (fun zq => absurd zq (nI_ge (by omega) (by omega))) (fun _ => ?_)
          refine st_ald rfl rfl ?_
          refine st_gR' rfl (by first | exact tT hM5 rfl | assumption | exact rw_T hM5 (by assumption) | exact rw_A hM5 (by assumption)) (by first | exact rR hM5 rfl rfl | assumption | exact rw_R hM5 (by assumption)) ?_
          refine st_ild rfl rfl ?_
          refine st_ald rfl rfl ?_
          refine st_ild rfl rfl ?_
          refine st_cav (As := [_]) rfl rfl rfl (by first | exact tT hM5 rfl | assumption | exact rw_T hM5 (by assumption) | exact rw_A hM5 (by assumption)) (Nat.le_of_ble_eq_true rfl) (g2) ?_
          refine st_b1 rfl (fun _ => ?_) (fun zq => absurd (rfl) zq)
          refine st_k rfl ?_
          -- at 135: stop
          refine fin _ (fun hvx f _ _ => ?_) (fun _ => rfl)
          rcases hvx.2 with z | ⟨z1, z2, z3⟩
          · exact absurd (Or.inl z) g1
          · cases ho : x.2.2.1 with
            | false =>
              obtain ⟨u1, u2, u3⟩ := z3 ho
              exact absurd (Or.inr ⟨z1, Or.inl ⟨ho, u1, u3⟩⟩) g1
            | true =>
              have u := z2 ho
              have e : stc x = (x.1, x.2.2.2, true) := by unfold stc; rw [ho]
              rw [e, LF_idle (fun w => g1 (Or.inr ⟨z1, Or.inr ⟨ho, u, Or.inl w⟩⟩)) (fun b hb w => g1 (Or.inr ⟨z1, Or.inr ⟨ho, u, Or.inr ⟨b, hb, w⟩⟩⟩)) f]
              rfl
      · rintro L M5 ⟨x, rfl, rfl, hs5, hT5, hN5⟩
        have hM5 := hs5.ok hM3
        have y5 := y3.kept hs5 (fun k z => by rw [show k = 31 from z]; exact Nat.le_refl _)
        have e14 : nI pc * 14 = nI (pc * 14) := pk_mul pc 14
        refine st_ild rfl rfl ?_
        refine st_ild rfl rfl ?_
        refine st_ald rfl rfl ?_
        refine st_gI rfl (by first | exact tT hM5 rfl | assumption | exact rw_T hM5 (by assumption) | exact rw_A hM5 (by assumption)) ?_
        -- at 101: stop
        refine wp_e y5.2.1 ?_
        refine st_k rfl ?_
        refine st_ib rfl ?_
        -- at 104: stop
        refine wp_e e14 ?_
        refine st_ib rfl ?_
        -- at 105: stop
        refine wp_e (nI_add _ _) ?_
        refine st_b2 rfl (fun _ => ?_) (fun zq => absurd (nI_le (by omega) (by omega)) zq)
        refine st_inc rfl rfl ?_
        refine st_go rfl ?_
        -- at 76: stop
        refine ih _ _ ⟨_, _, _, ?_, rfl, hs5, fun y hy z => hT5 y hy ?_, fun y hy z => hN5 y hy ?_⟩
        · rw [show m.length + 1 - (i + 1) = r by omega]
          exact (Int32.sub_eq_add_neg ..).symm
        · rcases Nat.lt_or_ge r y.1 with w | w
          · exact Or.inl w
          · have hyp := hy.1
            obtain ⟨v1, v2, v3, v4, v5⟩ := vx_b hw hpk hy
            refine Or.inr ⟨by omega, ?_⟩
            show y.1 * 140 + y.2.1 * 14 + (if y.2.2.1 = true then 0 else 7) + y.2.2.2 < _
            split <;> omega
        · rcases Nat.lt_or_ge r y.1 with w | w
          · exact Or.inl w
          · obtain ⟨v1, v2, v3⟩ := hy
            refine Or.inr ⟨by omega, ?_⟩
            show y.1 * 140 + y.2.1 * 14 + (if y.2.2.1 = true then 0 else 7) + y.2.2.2 < _
            split <;> omega
    · rintro L M4 ⟨x, y5, y6, rfl, rfl, hs4, hT4, hN4⟩
      rw [Nat.sub_self]
      refine st_ild rfl rfl ?_
      refine st_b1 rfl (fun _ => ?_) (fun zq => absurd ((by decide)) zq)
      -- at 148: op_vret
      exact st_vret rfl ⟨rfl, y3.kept hs4 (fun k z => by rw [show k = 31 from z]; exact Nat.le_refl _), fun y hy => hT4 y hy (by omega), fun y hy hnv => hN4 y hy (by omega) hnv, s3.tr (hs4.mo (fun k z => by rw [show k = 31 from z]; decide))⟩
  obtain ⟨r, M', hcc, hr, h5, h6, h7, h8⟩ := eq_59 (d := d + 4) (A := [.ref 27, .ref o, .ref g]) (M := M) (Q := fun r M' => r = none ∧ SP c0 c m (pcv c m) M' ∧ TbA c m (pcv c m) M' ∧ TbN c m (pcv c m) M' ∧ pm_S (fun k => 27 ≤ k ∧ k ≤ 31) M M') (Nat.le_of_ble_eq_true rfl) (by
    refine st_ald rfl rfl ?_
    refine st_gR' rfl (by first | exact tT hM rfl | assumption | exact rw_T hM (by assumption) | exact rw_A hM (by assumption)) (by first | exact rR hM rfl rfl | assumption | exact rw_R hM (by assumption)) ?_
    refine st_ald rfl rfl ?_
    refine st_cav (As := [_]) rfl rfl rfl (by first | exact tT hM rfl | assumption | exact rw_T hM (by assumption) | exact rw_A hM (by assumption)) (Nat.le_of_ble_eq_true rfl) (cb1) ?_
    -- at 8: stop
    refine st_ald rfl rfl ?_
    refine st_k rfl ?_
    refine st_ald rfl rfl ?_
    refine st_gR' rfl (by first | exact tT hM1 rfl | assumption | exact rw_T hM1 (by assumption) | exact rw_A hM1 (by assumption)) (by first | exact rR hM1 rfl rfl | assumption | exact rw_R hM1 (by assumption)) ?_
    refine st_k rfl ?_
    refine st_k rfl ?_
    -- at 17: stop
    refine st_acp rfl (by rw [s1.1]; exact tg) (tT hM1 rfl) (by decide) (by decide) (by decide) (by decide) (by decide) (Nat.le_of_ble_eq_true rfl) ?_
    rw [show pm_cp M1 g 30 (0 : Int32).toNatClampNeg (0 : Int32).toNatClampNeg (6 : Int32).toNatClampNeg = M2 from hM2']
    refine st_ald rfl rfl ?_
    refine st_gR' rfl (by first | exact tT hM2 rfl | assumption | exact rw_T hM2 (by assumption) | exact rw_A hM2 (by assumption)) (by first | exact rR hM2 rfl rfl | assumption | exact rw_R hM2 (by assumption)) ?_
    refine st_gI rfl (by first | exact tT hM2 rfl | assumption | exact rw_T hM2 (by assumption) | exact rw_A hM2 (by assumption)) ?_
    -- at 27: stop
    refine wp_e (sy_l y2) ?_
    refine st_ald rfl rfl ?_
    refine st_cav (As := []) rfl rfl rfl (by first | exact tT hM2 rfl | assumption | exact rw_T hM2 (by assumption) | exact rw_A hM2 (by assumption)) (Nat.le_of_ble_eq_true rfl) (c_placesForPairs (d + 3) hM2 y2) ?_
    refine st_ib rfl ?_
    -- at 32: stop
    refine wp_e (nI_add _ _) ?_
    by_cases g20 : m.length + cp c m ≤ 20
    · have e1 : pcv c m = 1 := by unfold pcv; rw [if_pos g20]
      refine st_k rfl ?_
      refine st_b2 rfl (fun zq => absurd zq (nI_nlt (a := 20) (b := m.length + cp c m) g20 (by decide))) (fun _ => ?_)
      refine st_k rfl ?_
      refine st_go rfl ?_
      refine st_ist rfl ?_
      refine st_ald rfl rfl ?_
      refine st_ild rfl rfl ?_
      refine st_b1 rfl (fun zq => absurd zq ((by decide))) (fun _ => ?_)
      refine st_k rfl ?_
      refine st_go rfl ?_
      refine st_pI rfl (by first | exact tT hM2 rfl | assumption | exact rw_T hM2 (by assumption) | exact rw_A hM2 (by assumption)) ?_
      -- at 67: stop
      have := main 1 none none none
      rw [e1] at this ⊢
      exact this
    · have e1 : pcv c m = 21 - m.length := by unfold pcv; rw [if_neg g20]
      refine st_k rfl ?_
      refine st_b2 rfl (fun _ => ?_) (fun zq => absurd (nI_lt (a := 20) (b := m.length + cp c m) (by omega) (by omega)) zq)
      refine st_k rfl ?_
      refine st_ist rfl ?_
      refine st_ald rfl rfl ?_
      refine st_ild rfl rfl ?_
      refine st_b1 rfl (fun _ => ?_) (fun zq => absurd (rfl) zq)
      refine st_k rfl ?_
      refine st_ald rfl rfl ?_
      refine st_gR' rfl (by first | exact tT hM2 rfl | assumption | exact rw_T hM2 (by assumption) | exact rw_A hM2 (by assumption)) (by first | exact rR hM2 rfl rfl | assumption | exact rw_R hM2 (by assumption)) ?_
      refine st_gI rfl (by first | exact tT hM2 rfl | assumption | exact rw_T hM2 (by assumption) | exact rw_A hM2 (by assumption)) ?_
      -- at 61: stop
      refine wp_e (sy_l y2) ?_
      refine st_ib rfl ?_
      refine st_k rfl ?_
      refine st_ib rfl ?_
      -- at 64: stop
      refine wp_e (y := nI (21 - m.length)) (by show nI 20 - nI m.length + 1 = _; rw [pk_sub (by omega), nI_1, show 20 - m.length + 1 = 21 - m.length by omega]) ?_
      refine st_pI rfl (by first | exact tT hM2 rfl | assumption | exact rw_T hM2 (by assumption) | exact rw_A hM2 (by assumption)) ?_
      -- at 67: stop
      have := main 0 none none none
      rw [e1] at this ⊢
      exact this)
  subst hr
  exact ⟨M', hcc, h5, h6, h7, h8⟩
end BEN

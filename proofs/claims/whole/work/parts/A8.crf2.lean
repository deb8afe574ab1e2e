/-! the class works out the PAIRS; a craft as read -/
/-- the SIGN of two among the first i PAIRS -/
def pri (c : Cf) (a b i : Nat) : Option Nat := if cf_kd c a = 4 ∨ cf_kd c b = 4 then none else prf c a b i
theorem prf_s (c : Cf) (a b i : Nat) : prf c a b (i + 1) = match prf c a b i with
    | some s => some s
    | none => if cf_p1 c i = a ∧ cf_p2 c i = b then some (cf_ps c i) else none := rfl
theorem pri_k {c : Cf} {i : Nat} (h : (cf_kd c (cf_p1 c i) = 4 ∨ cf_kd c (cf_p2 c i) = 4) ∨ prf c (cf_p1 c i) (cf_p2 c i) i ≠ none) (a b : Nat) : pri c a b (i + 1) = pri c a b i := by
  unfold pri
  by_cases g : cf_kd c a = 4 ∨ cf_kd c b = 4
  · rw [if_pos g, if_pos g]
  · rw [if_neg g, if_neg g, prf_s]
    cases e : prf c a b i with
    | some s => rfl
    | none =>
      dsimp only
      refine if_neg (fun z => ?_)
      rw [z.1, z.2] at h
      rcases h with h | h
      · exact g h
      · exact h e
theorem pri_n {c : Cf} {i : Nat} (h : ¬ (cf_kd c (cf_p1 c i) = 4 ∨ cf_kd c (cf_p2 c i) = 4)) (h2 : prf c (cf_p1 c i) (cf_p2 c i) i = none) (a b : Nat) : pri c a b (i + 1) = if a = cf_p1 c i ∧ b = cf_p2 c i then some (cf_ps c i) else pri c a b i := by
  unfold pri
  by_cases z : a = cf_p1 c i ∧ b = cf_p2 c i
  · rw [if_pos z, z.1, z.2, if_neg h, prf_s, h2]
    dsimp only
    rw [if_pos ⟨rfl, rfl⟩]
  · rw [if_neg z]
    by_cases g : cf_kd c a = 4 ∨ cf_kd c b = 4
    · rw [if_pos g, if_pos g]
    · rw [if_neg g, if_neg g, prf_s]
      cases e : prf c a b i with
      | some s => rfl
      | none =>
        dsimp only
        exact if_neg (fun y => z ⟨y.1.symm, y.2.symm⟩)
theorem sh_10 : ∀ s, s < 10 → (1 : Int32) <<< (nI s &&& 31) = nI (2 ^ s) := by decide +kernel
theorem or_10 {w s : Nat} (hw : w < 1024) (hs : s ≤ 9) : nI w ||| (1 <<< (nI s &&& 31)) = nI (w ||| 2 ^ s) ∧ w ||| 2 ^ s < 1024 := by
  have h2 : 2 ^ s < 2 ^ 10 := Nat.pow_lt_pow_right (by decide) (by omega)
  rw [sh_10 s (by omega), nI_or (by omega) (Nat.lt_trans h2 (by decide))]
  exact ⟨rfl, Nat.or_lt_two_pow (n := 10) hw h2⟩
def PI (c : Cf) (i : Nat) (M : pm_M) : Prop :=
  (∀ a b, a < cf_n c → b < cf_n c → gI M 17 (a * 6 + b) = p32 (pri c a b i)) ∧
  (∀ k, k < cf_n c → ∃ w : Nat, gI M 18 k = nI w ∧ w < 1024 ∧ ∀ s, w.testBit s = true ↔ ∃ b, b < cf_n c ∧ pri c k b i = some s) ∧
  (∀ k, k < cf_n c → ∃ w : Nat, gI M 19 k = nI w ∧ w < 1024 ∧ ∀ s, w.testBit s = true ↔ ∃ a, a < cf_n c ∧ pri c a k i = some s)
section CRD
variable {M : pm_M} {c : Cf}
theorem c_pairedSign2 (d : Nat) (hM : pm_ok M) {a b : Nat} (ha : a < 6) (hb : b < 6) : pm_call (d + 1) 16 [.ref 7, .int (nI a), .int (nI b)] M (some (.int (gI M 17 (a * 6 + b)))) M := by
  refine en_16 (Nat.le_of_ble_eq_true rfl) ?_
  have e : nI a * 6 + nI b = nI (a * 6 + b) := by show nI a * nI 6 + nI b = _; rw [pk_mul, nI_add]
  have hin : vp_in (nI a * 6 + nI b) 36 := by rw [e]; exact vp_in_nI (by omega) (by decide)
  refine st_ald rfl rfl ?_
  refine st_gR' rfl (by first | exact tT hM rfl | assumption | exact rw_T hM (by assumption) | exact rw_A hM (by assumption)) (by first | exact rR hM rfl rfl | assumption | exact rw_R hM (by assumption)) ?_
  refine st_ild rfl rfl ?_
  refine st_k rfl ?_
  refine st_ib rfl ?_
  refine st_ild rfl rfl ?_
  refine st_ib rfl ?_
  refine st_iald rfl (by first | exact tT hM rfl | assumption | exact rw_T hM (by assumption) | exact rw_A hM (by assumption)) (by first | decide | assumption | exact vp_in_nI (by omega) (by decide)) ?_
  -- at 11: op_iret
  exact st_iret rfl ⟨by rw [e, nI_clamp (by omega)], rfl⟩
theorem c_workOutPairs (d : Nat) (hM : pm_ok M) (hw : cf_wf c) (hc : CB c M) :
    ∃ M', pm_call (d + 2) 8 [.ref 7] M none M' ∧ pm_S (fun k => 17 ≤ k ∧ k ≤ 19) M M' ∧ PI c (cf_np c) M' := by
  have hn := hw.1
  have hnp := hw.2.2.2.2.1
  obtain ⟨r, M', hcall, hr, h1, h2⟩ := eq_8 (d := d + 1) (A := [.ref 7]) (M := M) (Q := fun r M' => r = none ∧ pm_S (fun k => 17 ≤ k ∧ k ≤ 19) M M' ∧ PI c (cf_np c) M') (Nat.le_of_ble_eq_true rfl) (by
    have f1 : pm_ok (pm_fl M 17 (-1) 36) := hM
    have f2 : pm_ok (pm_fl (pm_fl M 17 (-1) 36) 18 0 6) := hM
    refine st_ald rfl rfl ?_
    refine st_gR' rfl (by first | exact tT hM rfl | assumption | exact rw_T hM (by assumption) | exact rw_A hM (by assumption)) (by first | exact rR hM rfl rfl | assumption | exact rw_R hM (by assumption)) ?_
    refine st_k rfl ?_
    refine st_call (As := [_, _]) rfl rfl rfl (Nat.le_of_ble_eq_true rfl) (c_fill d (tT hM rfl) (by decide)) ?_
    -- at 8: stop
    refine st_ald rfl rfl ?_
    refine st_gR' rfl (by first | exact tT f1 rfl | assumption | exact rw_T f1 (by assumption) | exact rw_A f1 (by assumption)) (by first | exact rR f1 rfl rfl | assumption | exact rw_R f1 (by assumption)) ?_
    refine st_k rfl ?_
    refine st_call (As := [_, _]) rfl rfl rfl (Nat.le_of_ble_eq_true rfl) (c_fill d (tT f1 rfl) (by decide)) ?_
    -- at 16: stop
    refine st_ald rfl rfl ?_
    refine st_gR' rfl (by first | exact tT f2 rfl | assumption | exact rw_T f2 (by assumption) | exact rw_A f2 (by assumption)) (by first | exact rR f2 rfl rfl | assumption | exact rw_R f2 (by assumption)) ?_
    refine st_k rfl ?_
    refine st_call (As := [_, _]) rfl rfl rfl (Nat.le_of_ble_eq_true rfl) (c_fill d (tT f2 rfl) (by decide)) ?_
    -- at 24: stop
    refine st_k rfl ?_
    refine st_ist rfl ?_
    -- at 26: stop
    refine wp_for (cf_np c) (fun i L M1 => ∃ x y2 y3 y4, x = nI i ∧ L = [some (.ref 7), some (.int x), y2, y3, y4] ∧ pm_S (fun k => 17 ≤ k ∧ k ≤ 19) M M1 ∧ PI c i M1) ?_ ?_ 0 _ _ (Nat.zero_le _) ⟨_, _, _, _, rfl, rfl, s_fl (s_fl (s_fl pm_S.rf ⟨by decide, by decide⟩ _ _) ⟨by decide, by decide⟩ _ _) ⟨by decide, by decide⟩ _ _, fun a b ha hb => ?_, fun k hk => ⟨0, ?_, by decide, fun s => ?_⟩, fun k hk => ⟨0, ?_, by decide, fun s => ?_⟩⟩
    · rintro i L M1 hi ⟨x, y2, y3, y4, rfl, rfl, hs, hp⟩ ih
      have hM1 := hs.ok hM
      have hc1 : CB c M1 := hc.kept hs (by intro k _ _; show ¬ (17 ≤ k ∧ k ≤ 19); omega)
      have hin : vp_in (nI i) 6 := vp_in_nI (by omega) (by decide)
      have hcl : (nI i).toNatClampNeg = i := nI_clamp (by omega)
      obtain ⟨v1, v2, v3⟩ := hc1.2.2 i hi
      obtain ⟨w1, w2, w3⟩ := hw.2.2.2.2.2.2 i hi
      have k1 := (hc1.2.1 _ w1).1
      have k2 := (hc1.2.1 _ w2).1
      have kd1 := (hw.2.2.2.2.2.1 _ w1).1
      have kd2 := (hw.2.2.2.2.2.1 _ w2).1
      have q1 : ∀ y3 y4, pri c (cf_p1 c i) (cf_p2 c i) (i + 1) = pri c (cf_p1 c i) (cf_p2 c i) (i + 1) → (∀ a b, pri c a b (i + 1) = pri c a b i) → pm_WP (pm_call (d + 1)) tb_8 (fun r M' => r = none ∧ pm_S (fun k => 17 ≤ k ∧ k ≤ 19) M M' ∧ PI c (cf_np c) M') 141 [some (.ref 7), some (.int (nI i)), some (.int (nI (cf_p1 c i))), y3, y4] [] M1 := by
        intro y3 y4 _ hk
        refine st_inc rfl rfl ?_
        refine st_go rfl ?_
        -- at 26: stop
        refine ih _ _ ⟨_, _, _, _, nI_1 i, rfl, hs, ?_⟩
        unfold PI
        simp only [hk]
        exact hp
      have skip := fun y3 y4 hk => q1 y3 y4 rfl hk
      have hina : vp_in (nI (cf_p1 c i)) 6 := in6 hw w1
      have hinb : vp_in (nI (cf_p2 c i)) 6 := in6 hw w2
      have cla := cl6 hw w1
      have clb := cl6 hw w2
      have hp' := hp
      have pki := pri_k (c := c) (i := i)
      have pni := pri_n (c := c) (i := i)
      have hpp := hp.1 _ _ w1 w2
      refine st_ild rfl rfl ?_
      refine st_ald rfl rfl ?_
      refine st_gI rfl (by first | exact tT hM1 rfl | assumption | exact rw_T hM1 (by assumption) | exact rw_A hM1 (by assumption)) ?_
      -- at 31: stop
      refine wp_e hc1.1.2.2.2.2 ?_
      refine st_b2 rfl (fun zq => absurd zq (nI_ge hi (by omega))) (fun _ => ?_)
      refine st_ald rfl rfl ?_
      refine st_gR' rfl (by first | exact tT hM1 rfl | assumption | exact rw_T hM1 (by assumption) | exact rw_A hM1 (by assumption)) (by first | exact rR hM1 rfl rfl | assumption | exact rw_R hM1 (by assumption)) ?_
      refine st_ild rfl rfl ?_
      refine st_iald rfl (by first | exact tT hM1 rfl | assumption | exact rw_T hM1 (by assumption) | exact rw_A hM1 (by assumption)) (by first | decide | assumption | exact vp_in_nI (by omega) (by decide)) ?_
      -- at 40: stop
      refine wp_e (y := nI (cf_p1 c i)) (by rw [hcl]; exact v1) ?_
      refine st_ist rfl ?_
      refine st_ald rfl rfl ?_
      refine st_gR' rfl (by first | exact tT hM1 rfl | assumption | exact rw_T hM1 (by assumption) | exact rw_A hM1 (by assumption)) (by first | exact rR hM1 rfl rfl | assumption | exact rw_R hM1 (by assumption)) ?_
      refine st_ild rfl rfl ?_
      refine st_iald rfl (by first | exact tT hM1 rfl | assumption | exact rw_T hM1 (by assumption) | exact rw_A hM1 (by assumption)) (by first | decide | assumption | exact vp_in_nI (by omega) (by decide)) ?_
      -- at 47: stop
      refine wp_e (y := nI (cf_p2 c i)) (by rw [hcl]; exact v2) ?_
      refine st_ist rfl ?_
      refine st_ald rfl rfl ?_
      refine st_gR' rfl (by first | exact tT hM1 rfl | assumption | exact rw_T hM1 (by assumption) | exact rw_A hM1 (by assumption)) (by first | exact rR hM1 rfl rfl | assumption | exact rw_R hM1 (by assumption)) ?_
      refine st_ild rfl rfl ?_
      refine st_iald rfl (by first | exact tT hM1 rfl | assumption | exact rw_T hM1 (by assumption) | exact rw_A hM1 (by assumption)) (by first | decide | assumption | exact vp_in_nI (by omega) (by decide)) ?_
      -- at 54: stop
      refine wp_e (y := nI (cf_kd c (cf_p1 c i))) (by rw [cla]; exact k1) ?_
      have n4 : ∀ z, z ≤ 5 → (nI z = 4 ↔ z = 4) := fun z hz => nI_eq (a := z) (b := 4) (by omega) (by decide)
      by_cases s1 : cf_kd c (cf_p1 c i) = 4
      · refine st_k rfl ?_
        refine st_b2 rfl (fun _ => ?_) (fun zq => absurd ((n4 _ kd1).mpr s1) zq)
        refine st_k rfl ?_
        refine st_go rfl ?_
        refine st_ist rfl ?_
        refine st_ild rfl rfl ?_
        refine st_b1 rfl (fun _ => ?_) (fun zq => absurd ((by decide)) zq)
        -- at 141: stop
        exact skip _ _ (pki (Or.inl (Or.inl s1)))
      · refine st_k rfl ?_
        refine st_b2 rfl (fun zq => absurd zq ((fun z => s1 ((n4 _ kd1).mp z)))) (fun _ => ?_)
        refine st_ald rfl rfl ?_
        refine st_gR' rfl (by first | exact tT hM1 rfl | assumption | exact rw_T hM1 (by assumption) | exact rw_A hM1 (by assumption)) (by first | exact rR hM1 rfl rfl | assumption | exact rw_R hM1 (by assumption)) ?_
        refine st_ild rfl rfl ?_
        refine st_iald rfl (by first | exact tT hM1 rfl | assumption | exact rw_T hM1 (by assumption) | exact rw_A hM1 (by assumption)) (by first | decide | assumption | exact vp_in_nI (by omega) (by decide)) ?_
        -- at 64: stop
        refine wp_e (y := nI (cf_kd c (cf_p2 c i))) (by rw [clb]; exact k2) ?_
        by_cases s2 : cf_kd c (cf_p2 c i) = 4
        · refine st_k rfl ?_
          refine st_b2 rfl (fun zq => absurd zq ((fun z => z ((n4 _ kd2).mpr s2)))) (fun _ => ?_)
          refine st_k rfl ?_
          refine st_go rfl ?_
          refine st_ist rfl ?_
          refine st_ild rfl rfl ?_
          refine st_b1 rfl (fun _ => ?_) (fun zq => absurd ((by decide)) zq)
          -- at 141: stop
          exact skip _ _ (pki (Or.inl (Or.inr s2)))
        · have ns : ¬ (cf_kd c (cf_p1 c i) = 4 ∨ cf_kd c (cf_p2 c i) = 4) := fun z => z.elim s1 s2
          have epri : pri c (cf_p1 c i) (cf_p2 c i) i = prf c (cf_p1 c i) (cf_p2 c i) i := if_neg ns
          have call := c_pairedSign2 d hM1 (a := cf_p1 c i) (b := cf_p2 c i) (by omega) (by omega)
          rw [hpp, epri] at call
          cases e : prf c (cf_p1 c i) (cf_p2 c i) i with
          | some z =>
            have hz9 := prf_ps hw i (by omega) e
            rw [e] at call
            refine st_k rfl ?_
            refine st_b2 rfl (fun _ => ?_) (fun zq => absurd ((fun y => s2 ((n4 _ kd2).mp y))) zq)
            refine st_k rfl ?_
            refine st_ist rfl ?_
            refine st_ild rfl rfl ?_
            refine st_b1 rfl (fun zq => absurd zq ((fun y => y rfl))) (fun _ => ?_)
            refine st_ald rfl rfl ?_
            refine st_ild rfl rfl ?_
            refine st_ild rfl rfl ?_
            refine st_cav (As := [_, _]) rfl rfl rfl (by first | exact tT hM1 rfl | assumption | exact rw_T hM1 (by assumption) | exact rw_A hM1 (by assumption)) (Nat.le_of_ble_eq_true rfl) (call) ?_
            refine st_k rfl ?_
            refine st_b2 rfl (fun _ => ?_) (fun zq => absurd ((by show ¬ nI z = -1; exact (by decide +kernel : ∀ z, z ≤ 9 → ¬ nI z = -1) z hz9)) zq)
            -- at 141: stop
            exact skip _ _ (pki (Or.inr (by rw [e]; exact fun y => by cases y)))
          | none =>
            rw [e] at call
            have pn := pni ns e
            generalize cf_p1 c i = a at *
            generalize cf_p2 c i = b at *
            generalize cf_ps c i = s at *
            have ix : nI a * 6 + nI b = nI (a * 6 + b) := by show nI a * nI 6 + nI b = _; rw [pk_mul, nI_add]
            have hin36 : vp_in (nI (a * 6 + b)) 36 := vp_in_nI (by omega) (by decide)
            refine st_k rfl ?_
            refine st_b2 rfl (fun _ => ?_) (fun zq => absurd ((fun y => s2 ((n4 _ kd2).mp y))) zq)
            refine st_k rfl ?_
            refine st_ist rfl ?_
            refine st_ild rfl rfl ?_
            refine st_b1 rfl (fun zq => absurd zq ((fun y => y rfl))) (fun _ => ?_)
            refine st_ald rfl rfl ?_
            refine st_ild rfl rfl ?_
            refine st_ild rfl rfl ?_
            refine st_cav (As := [_, _]) rfl rfl rfl (by first | exact tT hM1 rfl | assumption | exact rw_T hM1 (by assumption) | exact rw_A hM1 (by assumption)) (Nat.le_of_ble_eq_true rfl) (call) ?_
            refine st_k rfl ?_
            refine st_b2 rfl (fun zq => absurd zq ((fun y => y rfl))) (fun _ => ?_)
            refine st_ald rfl rfl ?_
            refine st_gR' rfl (by first | exact tT hM1 rfl | assumption | exact rw_T hM1 (by assumption) | exact rw_A hM1 (by assumption)) (by first | exact rR hM1 rfl rfl | assumption | exact rw_R hM1 (by assumption)) ?_
            refine st_ild rfl rfl ?_
            refine st_k rfl ?_
            refine st_ib rfl ?_
            refine st_ild rfl rfl ?_
            refine st_ib rfl ?_
            -- at 100: stop
            refine wp_e ix ?_
            refine st_ald rfl rfl ?_
            refine st_gR' rfl (by first | exact tT hM1 rfl | assumption | exact rw_T hM1 (by assumption) | exact rw_A hM1 (by assumption)) (by first | exact rR hM1 rfl rfl | assumption | exact rw_R hM1 (by assumption)) ?_
            refine st_ild rfl rfl ?_
            refine st_iald rfl (by first | exact tT hM1 rfl | assumption | exact rw_T hM1 (by assumption) | exact rw_A hM1 (by assumption)) (by first | decide | assumption | exact vp_in_nI (by omega) (by decide)) ?_
            -- at 106: stop
            refine wp_e (y := nI s) (by rw [hcl]; exact v3) ?_
            refine st_iast rfl (by first | exact tT hM1 rfl | assumption | exact rw_T hM1 (by assumption) | exact rw_A hM1 (by assumption)) (by first | decide | assumption | exact vp_in_nI (by omega) (by decide)) ?_
            -- at 107: stop
            rw [nI_clamp (show a * 6 + b < 2 ^ 31 by omega)]
            obtain ⟨wa, ga, gla, gba⟩ := hp.2.1 a w1
            obtain ⟨wb, gb, glb, gbb⟩ := hp.2.2 b w2
            obtain ⟨oa1, oa2⟩ := or_10 gla w3
            obtain ⟨ob1, ob2⟩ := or_10 glb w3
            have hM2 : pm_ok (sI M1 17 (a * 6 + b) (nI s)) := hM1
            refine st_ald rfl rfl ?_
            refine st_gR' rfl (by first | exact tT hM2 rfl | assumption | exact rw_T hM2 (by assumption) | exact rw_A hM2 (by assumption)) (by first | exact rR hM2 rfl rfl | assumption | exact rw_R hM2 (by assumption)) ?_
            refine st_ild rfl rfl ?_
            refine st_dup2 rfl rfl rfl ?_
            refine st_iald rfl (by first | exact tT hM2 rfl | assumption | exact rw_T hM2 (by assumption) | exact rw_A hM2 (by assumption)) (by first | decide | assumption | exact vp_in_nI (by omega) (by decide)) ?_
            -- at 114: stop
            refine wp_e (y := nI wa) (by rw [cla, gI_ne (Or.inl (by decide))]; exact ga) ?_
            refine st_k rfl ?_
            refine st_ald rfl rfl ?_
            refine st_gR' rfl (by first | exact tT hM2 rfl | assumption | exact rw_T hM2 (by assumption) | exact rw_A hM2 (by assumption)) (by first | exact rR hM2 rfl rfl | assumption | exact rw_R hM2 (by assumption)) ?_
            refine st_ild rfl rfl ?_
            refine st_iald rfl (by first | exact tT hM2 rfl | assumption | exact rw_T hM2 (by assumption) | exact rw_A hM2 (by assumption)) (by first | decide | assumption | exact vp_in_nI (by omega) (by decide)) ?_
            -- at 121: stop
            refine wp_e (y := nI s) (by rw [hcl, gI_ne (Or.inl (by decide))]; exact v3) ?_
            refine st_ib rfl ?_
            refine st_ib rfl ?_
            -- at 123: stop
            refine wp_e oa1 ?_
            refine st_iast rfl (by first | exact tT hM2 rfl | assumption | exact rw_T hM2 (by assumption) | exact rw_A hM2 (by assumption)) (by first | decide | assumption | exact vp_in_nI (by omega) (by decide)) ?_
            -- at 124: stop
            rw [cla]
            have hM3 : pm_ok (sI (sI M1 17 (a * 6 + b) (nI s)) 18 a (nI (wa ||| 2 ^ s))) := hM1
            refine st_ald rfl rfl ?_
            refine st_gR' rfl (by first | exact tT hM3 rfl | assumption | exact rw_T hM3 (by assumption) | exact rw_A hM3 (by assumption)) (by first | exact rR hM3 rfl rfl | assumption | exact rw_R hM3 (by assumption)) ?_
            refine st_ild rfl rfl ?_
            refine st_dup2 rfl rfl rfl ?_
            refine st_iald rfl (by first | exact tT hM3 rfl | assumption | exact rw_T hM3 (by assumption) | exact rw_A hM3 (by assumption)) (by first | decide | assumption | exact vp_in_nI (by omega) (by decide)) ?_
            -- at 131: stop
            refine wp_e (y := nI wb) (by rw [clb, gI_ne (Or.inl (by decide)), gI_ne (Or.inl (by decide))]; exact gb) ?_
            refine st_k rfl ?_
            refine st_ald rfl rfl ?_
            refine st_gR' rfl (by first | exact tT hM3 rfl | assumption | exact rw_T hM3 (by assumption) | exact rw_A hM3 (by assumption)) (by first | exact rR hM3 rfl rfl | assumption | exact rw_R hM3 (by assumption)) ?_
            refine st_ild rfl rfl ?_
            refine st_iald rfl (by first | exact tT hM3 rfl | assumption | exact rw_T hM3 (by assumption) | exact rw_A hM3 (by assumption)) (by first | decide | assumption | exact vp_in_nI (by omega) (by decide)) ?_
            -- at 138: stop
            refine wp_e (y := nI s) (by rw [hcl, gI_ne (Or.inl (by decide)), gI_ne (Or.inl (by decide))]; exact v3) ?_
            refine st_ib rfl ?_
            refine st_ib rfl ?_
            -- at 140: stop
            refine wp_e ob1 ?_
            refine st_iast rfl (by first | exact tT hM3 rfl | assumption | exact rw_T hM3 (by assumption) | exact rw_A hM3 (by assumption)) (by first | decide | assumption | exact vp_in_nI (by omega) (by decide)) ?_
            refine st_inc rfl rfl ?_
            refine st_go rfl ?_
            -- at 26: stop
            rw [clb]
            have tb : ∀ w t, (w ||| 2 ^ s).testBit t = true ↔ (w.testBit t = true ∨ t = s) := fun w t => by
              rw [Nat.testBit_or, Nat.testBit_two_pow, Bool.or_eq_true, decide_eq_true_eq]
              exact ⟨fun y => y.elim Or.inl (fun y => Or.inr y.symm), fun y => y.elim Or.inl (fun y => Or.inr y.symm)⟩
            have enone : pri c a b i = none := by rw [epri, e]
            refine ih _ _ ⟨_, _, _, _, nI_1 i, rfl, ((hs.sI ⟨by decide, by decide⟩ _ _).sI ⟨by decide, by decide⟩ _ _).sI ⟨by decide, by decide⟩ _ _, fun a' b' ha' hb' => ?_, fun k hk => ?_, fun k hk => ?_⟩
            · rw [gI_ne (Or.inl (by decide)), gI_ne (Or.inl (by decide)), pn a' b']
              by_cases z : a' = a ∧ b' = b
              · rw [if_pos z, z.1, z.2]
                exact gI_same _ _ _ _
              · rw [if_neg z, gI_ne (Or.inr (by omega))]
                exact hp.1 a' b' ha' hb'
            · by_cases z : k = a
              · subst z
                refine ⟨wa ||| 2 ^ s, by rw [gI_ne (Or.inl (by decide))]; exact gI_same _ _ _ _, oa2, fun t => ?_⟩
                rw [tb, gba]
                constructor
                · rintro (⟨b', hb', y⟩ | y)
                  · refine ⟨b', hb', ?_⟩
                    rw [pn k b', if_neg (fun x => by rw [x.2, enone] at y; cases y)]
                    exact y
                  · exact ⟨b, w2, by rw [pn k b, if_pos ⟨rfl, rfl⟩, y]⟩
                · rintro ⟨b', hb', y⟩
                  rw [pn k b'] at y
                  by_cases x : k = k ∧ b' = b
                  · rw [if_pos x] at y
                    cases y
                    exact Or.inr rfl
                  · rw [if_neg x] at y
                    exact Or.inl ⟨b', hb', y⟩
              · obtain ⟨w, u1, u2, u3⟩ := hp.2.1 k hk
                refine ⟨w, by rw [gI_ne (Or.inl (by decide)), gI_ne (Or.inr z), gI_ne (Or.inl (by decide))]; exact u1, u2, fun t => ?_⟩
                rw [u3 t]
                constructor
                · rintro ⟨b', hb', y⟩
                  exact ⟨b', hb', by rw [pn k b', if_neg (fun x => z x.1)]; exact y⟩
                · rintro ⟨b', hb', y⟩
                  rw [pn k b', if_neg (fun x => z x.1)] at y
                  exact ⟨b', hb', y⟩
            · by_cases z : k = b
              · subst z
                refine ⟨wb ||| 2 ^ s, gI_same _ _ _ _, ob2, fun t => ?_⟩
                rw [tb, gbb]
                constructor
                · rintro (⟨b', hb', y⟩ | y)
                  · refine ⟨b', hb', ?_⟩
                    rw [pn b' k, if_neg (fun x => by rw [x.1, enone] at y; cases y)]
                    exact y
                  · exact ⟨a, w1, by rw [pn a k, if_pos ⟨rfl, rfl⟩, y]⟩
                · rintro ⟨b', hb', y⟩
                  rw [pn b' k] at y
                  by_cases x : b' = a ∧ k = k
                  · rw [if_pos x] at y
                    cases y
                    exact Or.inr rfl
                  · rw [if_neg x] at y
                    exact Or.inl ⟨b', hb', y⟩
              · obtain ⟨w, u1, u2, u3⟩ := hp.2.2 k hk
                refine ⟨w, by rw [gI_ne (Or.inr z), gI_ne (Or.inl (by decide)), gI_ne (Or.inl (by decide))]; exact u1, u2, fun t => ?_⟩
                rw [u3 t]
                constructor
                · rintro ⟨b', hb', y⟩
                  exact ⟨b', hb', by rw [pn b' k, if_neg (fun x => z x.2)]; exact y⟩
                · rintro ⟨b', hb', y⟩
                  rw [pn b' k, if_neg (fun x => z x.2)] at y
                  exact ⟨b', hb', y⟩
    · rintro L M1 ⟨x, y2, y3, y4, rfl, rfl, hs, hp⟩
      have hM1 := hs.ok hM
      have hc1 : CB c M1 := hc.kept hs (by intro k _ _; show ¬ (17 ≤ k ∧ k ≤ 19); omega)
      refine st_ild rfl rfl ?_
      refine st_ald rfl rfl ?_
      refine st_gI rfl (by first | exact tT hM1 rfl | assumption | exact rw_T hM1 (by assumption) | exact rw_A hM1 (by assumption)) ?_
      -- at 31: stop
      refine wp_e hc1.1.2.2.2.2 ?_
      refine st_b2 rfl (fun _ => ?_) (fun zq => absurd (nI_le (Nat.le_refl _) (by omega)) zq)
      -- at 147: op_vret
      exact st_vret rfl ⟨rfl, hs, hp⟩
    · have ep : pri c a b 0 = none := by unfold pri; split <;> rfl
      rw [ep, gI_fl, if_neg (fun z => by have := z.1; omega), gI_fl, if_neg (fun z => by have := z.1; omega), gI_fl, if_pos ⟨rfl, by omega⟩]
      rfl
    · rw [gI_fl, if_neg (fun z => by have := z.1; omega), gI_fl, if_pos ⟨rfl, by omega⟩]
      rfl
    · rw [Nat.zero_testBit]
      refine ⟨fun z => (by cases z), fun ⟨b, _, z⟩ => ?_⟩
      have ep : pri c k b 0 = none := by unfold pri; split <;> rfl
      rw [ep] at z
      cases z
    · rw [gI_fl, if_pos ⟨rfl, by omega⟩]
      rfl
    · rw [Nat.zero_testBit]
      refine ⟨fun z => (by cases z), fun ⟨b, _, z⟩ => ?_⟩
      have ep : pri c b k 0 = none := by unfold pri; split <;> rfl
      rw [ep] at z
      cases z)
  subst hr
  exact ⟨M', hcall, h1, h2⟩
theorem cp_at {M : pm_M} {s t sp n k : Nat} (h : k < n) : gI (pm_cp M s t sp 0 n) t k = gI M s (sp + k) := by
  rw [gI_cp, if_pos ⟨rfl, Nat.zero_le _, by omega⟩, Nat.sub_zero]
theorem cp_ne {M : pm_M} {s t sp n k' i : Nat} (h : k' ≠ t) : gI (pm_cp M s t sp 0 n) k' i = gI M k' i := by
  rw [gI_cp, if_neg (fun z => h z.1)]
theorem c_beAs (d : Nat) (hM : pm_ok M) {L G : Nat} {s : Pn} (hL : L ≤ 99) (hG : G ≤ L) (hw : pwf s) (hc : CP s M) (h4 : gI M 20 4 = nI L) (h5 : gI M 20 5 = nI G) (h156 : gI M 15 6 = 0) :
    ∃ M', pm_call (d + 4) 5 [.ref 7, .ref 20] M none M' ∧ pm_S (fun k => 7 ≤ k ∧ k ≤ 19) M M' ∧ CC (cfo L G s) M' := by
  have wf := cfo_wf hL hG hw
  obtain ⟨w1, w2, w3, w4, w5, w6⟩ := id hw
  obtain ⟨c1, c2, c3, c4, c5, c6, c7, c8⟩ := id hc
  obtain ⟨r, M', hcall, hr, h1, h2⟩ := eq_5 (d := d + 3) (A := [.ref 7, .ref 20]) (M := M) (Q := fun r M' => r = none ∧ pm_S (fun k => 7 ≤ k ∧ k ≤ 19) M M' ∧ CC (cfo L G s) M') (Nat.le_of_ble_eq_true rfl) (by
    refine st_ald rfl rfl ?_
    refine st_ald rfl rfl ?_
    refine st_gI rfl (by first | exact tT hM rfl | assumption | exact rw_T hM (by assumption) | exact rw_A hM (by assumption)) ?_
    -- at 5: stop
    refine wp_e h4 ?_
    refine st_pI rfl (by first | exact tT hM rfl | assumption | exact rw_T hM (by assumption) | exact rw_A hM (by assumption)) ?_
    -- at 8: stop
    obtain ⟨M1, e1⟩ : ∃ M1, M1 = sI M 7 0 (nI L) := ⟨_, rfl⟩
    have s1 : pm_S (fun k => k = 7) M M1 := by rw [e1]; exact pm_S.sI (S := fun k => k = 7) pm_S.rf rfl _ _
    have a10 : gI M1 7 0 = nI L := by rw [e1]; exact gI_same _ _ _ _
    rw [← e1]; clear e1
    have hM1 := s1.ok hM
    refine st_ald rfl rfl ?_
    refine st_ald rfl rfl ?_
    refine st_gI rfl (by first | exact tT hM1 rfl | assumption | exact rw_T hM1 (by assumption) | exact rw_A hM1 (by assumption)) ?_
    -- at 13: stop
    refine wp_e (y := nI G) (by rw [s1.i (by decide)]; exact h5) ?_
    refine st_pI rfl (by first | exact tT hM1 rfl | assumption | exact rw_T hM1 (by assumption) | exact rw_A hM1 (by assumption)) ?_
    -- at 16: stop
    obtain ⟨M2, e2⟩ : ∃ M2, M2 = sI M1 7 1 (nI G) := ⟨_, rfl⟩
    have s2 : pm_S (fun k => k = 7) M M2 := by rw [e2]; exact pm_S.sI (S := fun k => k = 7) s1 rfl _ _
    have a20 : gI M2 7 0 = nI L := by rw [e2, gI_ne (Or.inr (by decide))]; exact a10
    have a21 : gI M2 7 1 = nI G := by rw [e2]; exact gI_same _ _ _ _
    rw [← e2]; clear e2
    have hM2 := s2.ok hM
    refine st_ald rfl rfl ?_
    refine st_ald rfl rfl ?_
    refine st_gR' rfl (by first | exact tT hM2 rfl | assumption | exact rw_T hM2 (by assumption) | exact rw_A hM2 (by assumption)) (by first | exact rR hM2 rfl rfl | assumption | exact rw_R hM2 (by assumption)) ?_
    refine st_k rfl ?_
    refine st_iald rfl (by first | exact tT hM2 rfl | assumption | exact rw_T hM2 (by assumption) | exact rw_A hM2 (by assumption)) (show vp_in (nI 0) 3 from vp_in_nI (by decide) (by decide)) ?_
    -- at 23: stop
    refine wp_e (y := nI s.2.1.length) (by rw [s2.i (by decide)]; exact c3) ?_
    refine st_pI rfl (by first | exact tT hM2 rfl | assumption | exact rw_T hM2 (by assumption) | exact rw_A hM2 (by assumption)) ?_
    -- at 26: stop
    obtain ⟨M3, e3⟩ : ∃ M3, M3 = sI M2 7 2 (nI s.2.1.length) := ⟨_, rfl⟩
    have s3 : pm_S (fun k => k = 7) M M3 := by rw [e3]; exact pm_S.sI (S := fun k => k = 7) s2 rfl _ _
    have a30 : gI M3 7 0 = nI L := by rw [e3, gI_ne (Or.inr (by decide))]; exact a20
    have a31 : gI M3 7 1 = nI G := by rw [e3, gI_ne (Or.inr (by decide))]; exact a21
    have a32 : gI M3 7 2 = nI s.2.1.length := by rw [e3]; exact gI_same _ _ _ _
    rw [← e3]; clear e3
    have hM3 := s3.ok hM
    refine st_ald rfl rfl ?_
    refine st_ald rfl rfl ?_
    refine st_gR' rfl (by first | exact tT hM3 rfl | assumption | exact rw_T hM3 (by assumption) | exact rw_A hM3 (by assumption)) (by first | exact rR hM3 rfl rfl | assumption | exact rw_R hM3 (by assumption)) ?_
    refine st_k rfl ?_
    refine st_iald rfl (by first | exact tT hM3 rfl | assumption | exact rw_T hM3 (by assumption) | exact rw_A hM3 (by assumption)) (show vp_in (nI 1) 3 from vp_in_nI (by decide) (by decide)) ?_
    -- at 33: stop
    refine wp_e (y := nI s.2.2.1.length) (by rw [s3.i (by decide)]; exact c4) ?_
    refine st_pI rfl (by first | exact tT hM3 rfl | assumption | exact rw_T hM3 (by assumption) | exact rw_A hM3 (by assumption)) ?_
    -- at 36: stop
    obtain ⟨M4, e4⟩ : ∃ M4, M4 = sI M3 7 3 (nI s.2.2.1.length) := ⟨_, rfl⟩
    have s4 : pm_S (fun k => k = 7) M M4 := by rw [e4]; exact pm_S.sI (S := fun k => k = 7) s3 rfl _ _
    have a40 : gI M4 7 0 = nI L := by rw [e4, gI_ne (Or.inr (by decide))]; exact a30
    have a41 : gI M4 7 1 = nI G := by rw [e4, gI_ne (Or.inr (by decide))]; exact a31
    have a42 : gI M4 7 2 = nI s.2.1.length := by rw [e4, gI_ne (Or.inr (by decide))]; exact a32
    have a43 : gI M4 7 3 = nI s.2.2.1.length := by rw [e4]; exact gI_same _ _ _ _
    rw [← e4]; clear e4
    have hM4 := s4.ok hM
    refine st_ald rfl rfl ?_
    refine st_ald rfl rfl ?_
    refine st_gR' rfl (by first | exact tT hM4 rfl | assumption | exact rw_T hM4 (by assumption) | exact rw_A hM4 (by assumption)) (by first | exact rR hM4 rfl rfl | assumption | exact rw_R hM4 (by assumption)) ?_
    refine st_k rfl ?_
    refine st_iald rfl (by first | exact tT hM4 rfl | assumption | exact rw_T hM4 (by assumption) | exact rw_A hM4 (by assumption)) (show vp_in (nI 2) 3 from vp_in_nI (by decide) (by decide)) ?_
    -- at 43: stop
    refine wp_e (y := nI s.2.2.2.length) (by rw [s4.i (by decide)]; exact c5) ?_
    refine st_pI rfl (by first | exact tT hM4 rfl | assumption | exact rw_T hM4 (by assumption) | exact rw_A hM4 (by assumption)) ?_
    -- at 46: stop
    obtain ⟨M5, e5⟩ : ∃ M5, M5 = sI M4 7 4 (nI s.2.2.2.length) := ⟨_, rfl⟩
    have s5 : pm_S (fun k => k = 7) M M5 := by rw [e5]; exact pm_S.sI (S := fun k => k = 7) s4 rfl _ _
    have a50 : gI M5 7 0 = nI L := by rw [e5, gI_ne (Or.inr (by decide))]; exact a40
    have a51 : gI M5 7 1 = nI G := by rw [e5, gI_ne (Or.inr (by decide))]; exact a41
    have a52 : gI M5 7 2 = nI s.2.1.length := by rw [e5, gI_ne (Or.inr (by decide))]; exact a42
    have a53 : gI M5 7 3 = nI s.2.2.1.length := by rw [e5, gI_ne (Or.inr (by decide))]; exact a43
    have a54 : gI M5 7 4 = nI s.2.2.2.length := by rw [e5]; exact gI_same _ _ _ _
    rw [← e5]; clear e5
    have hM5 := s5.ok hM
    have cn : (nI s.2.1.length).toNatClampNeg = s.2.1.length := nI_clamp (by omega)
    have cq : (nI s.2.2.2.length).toNatClampNeg = s.2.2.2.length := nI_clamp (by omega)
    have c0 : (0 : Int32).toNatClampNeg = 0 := by decide
    have c12 : (12 : Int32).toNatClampNeg = 12 := by decide
    -- the KNOTS
    refine st_ald rfl rfl ?_
    refine st_gR' rfl (by first | exact tT hM5 rfl | assumption | exact rw_T hM5 (by assumption) | exact rw_A hM5 (by assumption)) (by first | exact rR hM5 rfl rfl | assumption | exact rw_R hM5 (by assumption)) ?_
    refine st_k rfl ?_
    refine st_ald rfl rfl ?_
    refine st_gR' rfl (by first | exact tT hM5 rfl | assumption | exact rw_T hM5 (by assumption) | exact rw_A hM5 (by assumption)) (by first | exact rR hM5 rfl rfl | assumption | exact rw_R hM5 (by assumption)) ?_
    refine st_k rfl ?_
    refine st_ald rfl rfl ?_
    refine st_gI rfl (by first | exact tT hM5 rfl | assumption | exact rw_T hM5 (by assumption) | exact rw_A hM5 (by assumption)) ?_
    -- at 60: stop
    refine wp_e (y := nI s.2.1.length) a52 ?_
    refine st_acp rfl (tT hM5 rfl) (tT hM5 rfl) (by decide) (by decide) (nI_pos (by omega)) (by rw [cn, c0]; omega) (by rw [cn, c0]; omega) (Nat.le_of_ble_eq_true rfl) ?_
    rw [cn, c0]
    obtain ⟨N1, f1⟩ : ∃ N1, N1 = pm_cp M5 21 8 0 0 s.2.1.length := ⟨_, rfl⟩
    rw [← f1]
    have hN1 : pm_ok N1 := by rw [f1]; exact hM5
    have b1 : gI N1 7 2 = nI s.2.1.length := by rw [f1, cp_ne (by decide)]; exact a52
    refine st_ald rfl rfl ?_
    refine st_gR' rfl (by first | exact tT hN1 rfl | assumption | exact rw_T hN1 (by assumption) | exact rw_A hN1 (by assumption)) (by first | exact rR hN1 rfl rfl | assumption | exact rw_R hN1 (by assumption)) ?_
    refine st_k rfl ?_
    refine st_ald rfl rfl ?_
    refine st_gR' rfl (by first | exact tT hN1 rfl | assumption | exact rw_T hN1 (by assumption) | exact rw_A hN1 (by assumption)) (by first | exact rR hN1 rfl rfl | assumption | exact rw_R hN1 (by assumption)) ?_
    refine st_k rfl ?_
    refine st_ald rfl rfl ?_
    refine st_gI rfl (by first | exact tT hN1 rfl | assumption | exact rw_T hN1 (by assumption) | exact rw_A hN1 (by assumption)) ?_
    -- at 77: stop
    refine wp_e (y := nI s.2.1.length) b1 ?_
    refine st_acp rfl (tT hN1 rfl) (tT hN1 rfl) (by decide) (by decide) (nI_pos (by omega)) (by rw [cn, c0]; omega) (by rw [cn, c0]; omega) (Nat.le_of_ble_eq_true rfl) ?_
    rw [cn, c0]
    obtain ⟨N2, f2⟩ : ∃ N2, N2 = pm_cp N1 22 9 0 0 s.2.1.length := ⟨_, rfl⟩
    rw [← f2]
    have hN2 : pm_ok N2 := by rw [f2]; exact hN1
    have b2 : gI N2 7 2 = nI s.2.1.length := by rw [f2, cp_ne (by decide)]; exact b1
    refine st_ald rfl rfl ?_
    refine st_gR' rfl (by first | exact tT hN2 rfl | assumption | exact rw_T hN2 (by assumption) | exact rw_A hN2 (by assumption)) (by first | exact rR hN2 rfl rfl | assumption | exact rw_R hN2 (by assumption)) ?_
    refine st_k rfl ?_
    refine st_ald rfl rfl ?_
    refine st_gR' rfl (by first | exact tT hN2 rfl | assumption | exact rw_T hN2 (by assumption) | exact rw_A hN2 (by assumption)) (by first | exact rR hN2 rfl rfl | assumption | exact rw_R hN2 (by assumption)) ?_
    refine st_k rfl ?_
    refine st_ald rfl rfl ?_
    refine st_gI rfl (by first | exact tT hN2 rfl | assumption | exact rw_T hN2 (by assumption) | exact rw_A hN2 (by assumption)) ?_
    -- at 94: stop
    refine wp_e (y := nI s.2.1.length) b2 ?_
    refine st_acp rfl (tT hN2 rfl) (tT hN2 rfl) (by decide) (by decide) (nI_pos (by omega)) (by rw [cn, c0]; omega) (by rw [cn, c0]; omega) (Nat.le_of_ble_eq_true rfl) ?_
    rw [cn, c0]
    obtain ⟨N3, f3⟩ : ∃ N3, N3 = pm_cp N2 23 10 0 0 s.2.1.length := ⟨_, rfl⟩
    rw [← f3]
    have hN3 : pm_ok N3 := by rw [f3]; exact hN2
    -- the PAIRS
    have b3 : gI N3 7 4 = nI s.2.2.2.length := by rw [f3, cp_ne (by decide), f2, cp_ne (by decide), f1, cp_ne (by decide)]; exact a54
    refine st_k rfl ?_
    refine st_ist rfl ?_
    refine st_ald rfl rfl ?_
    refine st_gR' rfl (by first | exact tT hN3 rfl | assumption | exact rw_T hN3 (by assumption) | exact rw_A hN3 (by assumption)) (by first | exact rR hN3 rfl rfl | assumption | exact rw_R hN3 (by assumption)) ?_
    refine st_ild rfl rfl ?_
    refine st_ald rfl rfl ?_
    refine st_gR' rfl (by first | exact tT hN3 rfl | assumption | exact rw_T hN3 (by assumption) | exact rw_A hN3 (by assumption)) (by first | exact rR hN3 rfl rfl | assumption | exact rw_R hN3 (by assumption)) ?_
    refine st_k rfl ?_
    refine st_ald rfl rfl ?_
    refine st_gI rfl (by first | exact tT hN3 rfl | assumption | exact rw_T hN3 (by assumption) | exact rw_A hN3 (by assumption)) ?_
    -- at 114: stop
    refine wp_e (y := nI s.2.2.2.length) b3 ?_
    refine st_acp rfl (tT hN3 rfl) (tT hN3 rfl) (by decide) (by decide) (nI_pos (by omega)) (by rw [cq, c12]; omega) (by rw [cq, c0]; omega) (Nat.le_of_ble_eq_true rfl) ?_
    rw [cq, c0, c12]
    obtain ⟨N4, f4⟩ : ∃ N4, N4 = pm_cp N3 21 11 12 0 s.2.2.2.length := ⟨_, rfl⟩
    rw [← f4]
    have hN4 : pm_ok N4 := by rw [f4]; exact hN3
    have b4 : gI N4 7 4 = nI s.2.2.2.length := by rw [f4, cp_ne (by decide)]; exact b3
    refine st_ald rfl rfl ?_
    refine st_gR' rfl (by first | exact tT hN4 rfl | assumption | exact rw_T hN4 (by assumption) | exact rw_A hN4 (by assumption)) (by first | exact rR hN4 rfl rfl | assumption | exact rw_R hN4 (by assumption)) ?_
    refine st_ild rfl rfl ?_
    refine st_ald rfl rfl ?_
    refine st_gR' rfl (by first | exact tT hN4 rfl | assumption | exact rw_T hN4 (by assumption) | exact rw_A hN4 (by assumption)) (by first | exact rR hN4 rfl rfl | assumption | exact rw_R hN4 (by assumption)) ?_
    refine st_k rfl ?_
    refine st_ald rfl rfl ?_
    refine st_gI rfl (by first | exact tT hN4 rfl | assumption | exact rw_T hN4 (by assumption) | exact rw_A hN4 (by assumption)) ?_
    -- at 131: stop
    refine wp_e (y := nI s.2.2.2.length) b4 ?_
    refine st_acp rfl (tT hN4 rfl) (tT hN4 rfl) (by decide) (by decide) (nI_pos (by omega)) (by rw [cq, c12]; omega) (by rw [cq, c0]; omega) (Nat.le_of_ble_eq_true rfl) ?_
    rw [cq, c0, c12]
    obtain ⟨N5, f5⟩ : ∃ N5, N5 = pm_cp N4 22 12 12 0 s.2.2.2.length := ⟨_, rfl⟩
    rw [← f5]
    have hN5 : pm_ok N5 := by rw [f5]; exact hN4
    have b5 : gI N5 7 4 = nI s.2.2.2.length := by rw [f5, cp_ne (by decide)]; exact b4
    refine st_ald rfl rfl ?_
    refine st_gR' rfl (by first | exact tT hN5 rfl | assumption | exact rw_T hN5 (by assumption) | exact rw_A hN5 (by assumption)) (by first | exact rR hN5 rfl rfl | assumption | exact rw_R hN5 (by assumption)) ?_
    refine st_ild rfl rfl ?_
    refine st_ald rfl rfl ?_
    refine st_gR' rfl (by first | exact tT hN5 rfl | assumption | exact rw_T hN5 (by assumption) | exact rw_A hN5 (by assumption)) (by first | exact rR hN5 rfl rfl | assumption | exact rw_R hN5 (by assumption)) ?_
    refine st_k rfl ?_
    refine st_ald rfl rfl ?_
    refine st_gI rfl (by first | exact tT hN5 rfl | assumption | exact rw_T hN5 (by assumption) | exact rw_A hN5 (by assumption)) ?_
    -- at 148: stop
    refine wp_e (y := nI s.2.2.2.length) b5 ?_
    refine st_acp rfl (tT hN5 rfl) (tT hN5 rfl) (by decide) (by decide) (nI_pos (by omega)) (by rw [cq, c12]; omega) (by rw [cq, c0]; omega) (Nat.le_of_ble_eq_true rfl) ?_
    rw [cq, c0, c12]
    obtain ⟨N6, f6⟩ : ∃ N6, N6 = pm_cp N5 23 13 12 0 s.2.2.2.length := ⟨_, rfl⟩
    rw [← f6]
    have s6 : pm_S (fun k => 7 ≤ k ∧ k ≤ 13) M N6 := by
      rw [f6, f5, f4, f3, f2, f1]
      exact ((((((s5.mo (S' := fun k => 7 ≤ k ∧ k ≤ 13) (fun k hk => by omega)).cp ⟨by decide, by decide⟩ _ _ _).cp ⟨by decide, by decide⟩ _ _ _).cp ⟨by decide, by decide⟩ _ _ _).cp ⟨by decide, by decide⟩ _ _ _).cp ⟨by decide, by decide⟩ _ _ _).cp ⟨by decide, by decide⟩ _ _ _
    have hN6 := s6.ok hM
    have o7 : ∀ i, gI N6 7 i = gI M5 7 i := fun i => by rw [f6, cp_ne (by decide), f5, cp_ne (by decide), f4, cp_ne (by decide), f3, cp_ne (by decide), f2, cp_ne (by decide), f1, cp_ne (by decide)]
    have hB : CB (cfo L G s) N6 := by
      refine ⟨⟨by rw [o7]; exact a50, by rw [o7]; exact a51, by rw [o7]; exact a52, by rw [o7]; exact a53, by rw [o7]; exact a54⟩, fun k hk => ?_, fun i hi => ?_⟩
      · have hk' : k < s.2.1.length := hk
        obtain ⟨z1, z2, z3⟩ := c6 k _ (gD_some (0, 0, 0) hk')
        refine ⟨?_, ?_, ?_⟩
        · rw [f6, cp_ne (by decide), f5, cp_ne (by decide), f4, cp_ne (by decide), f3, cp_ne (by decide), f2, cp_ne (by decide), f1, cp_at hk', s5.i (by decide), Nat.zero_add]; exact z1
        · rw [f6, cp_ne (by decide), f5, cp_ne (by decide), f4, cp_ne (by decide), f3, cp_ne (by decide), f2, cp_at hk', f1, cp_ne (by decide), s5.i (by decide), Nat.zero_add]; exact z2
        · rw [f6, cp_ne (by decide), f5, cp_ne (by decide), f4, cp_ne (by decide), f3, cp_at hk', f2, cp_ne (by decide), f1, cp_ne (by decide), s5.i (by decide), Nat.zero_add]; exact z3
      · have hi' : i < s.2.2.2.length := hi
        obtain ⟨z1, z2, z3⟩ := c8 i _ (gD_some (0, 0, 0) hi')
        refine ⟨?_, ?_, ?_⟩
        · rw [f6, cp_ne (by decide), f5, cp_ne (by decide), f4, cp_at hi', f3, cp_ne (by decide), f2, cp_ne (by decide), f1, cp_ne (by decide), s5.i (by decide)]; exact z1
        · rw [f6, cp_ne (by decide), f5, cp_at hi', f4, cp_ne (by decide), f3, cp_ne (by decide), f2, cp_ne (by decide), f1, cp_ne (by decide), s5.i (by decide)]; exact z2
        · rw [f6, cp_at hi', f5, cp_ne (by decide), f4, cp_ne (by decide), f3, cp_ne (by decide), f2, cp_ne (by decide), f1, cp_ne (by decide), s5.i (by decide)]; exact z3
    clear f6 f5 f4 f3 f2 f1
    obtain ⟨N7, k7, s7, v7⟩ := c_barByLaws (d + 1) hN6 w1 w2 w5 (by rw [o7]; exact a53) (fun i x hx => by rw [s6.i (by omega), s6.i (by omega)]; exact c7 i x hx)
    have hN7 := s7.ok hN6
    have hB7 : CB (cfo L G s) N7 := hB.kept s7 (by intro k _ _; show ¬ k = 14; omega)
    obtain ⟨N8, k8, s8, v8, u8, t8⟩ := c_workOutTakes d hN7 wf hB7
    have hN8 := s8.ok hN7
    have hB8 : CB (cfo L G s) N8 := hB7.kept s8 (by intro k _ _; show ¬ (k = 15 ∨ k = 16); omega)
    obtain ⟨N9, k9, s9, v9⟩ := c_workOutPairs (d + 1) hN8 wf hB8
    have hB9 : CB (cfo L G s) N9 := hB8.kept s9 (by intro k _ _; show ¬ (17 ≤ k ∧ k ≤ 19); omega)
    refine st_ald rfl rfl ?_
    refine st_ald rfl rfl ?_
    refine st_cav (As := [_]) rfl rfl rfl (by first | exact tT hN6 rfl | assumption | exact rw_T hN6 (by assumption) | exact rw_A hN6 (by assumption)) (Nat.le_of_ble_eq_true rfl) (k7) ?_
    -- at 156: stop
    refine st_ald rfl rfl ?_
    refine st_cav (As := []) rfl rfl rfl (by first | exact tT hN7 rfl | assumption | exact rw_T hN7 (by assumption) | exact rw_A hN7 (by assumption)) (Nat.le_of_ble_eq_true rfl) (k8) ?_
    -- at 160: stop
    refine st_ald rfl rfl ?_
    refine st_cav (As := []) rfl rfl rfl (by first | exact tT hN8 rfl | assumption | exact rw_T hN8 (by assumption) | exact rw_A hN8 (by assumption)) (Nat.le_of_ble_eq_true rfl) (k9) ?_
    -- at 164: op_vret
    refine st_vret rfl ⟨rfl, (((s6.mo (fun k hk => by omega)).tr (s7.mo (fun k hk => by omega))).tr (s8.mo (fun k hk => by omega))).tr (s9.mo (fun k hk => by omega)), hB9.1, hB9.2.1, hB9.2.2, fun last hl => ?_, v9.1, v9.2.1, v9.2.2⟩
    have l6 := lst6 wf hl
    refine ⟨?_, ?_, fun k hk => ?_⟩
    · rw [s9.i (by omega), s8.i (by omega)]
      exact v7 last (by omega)
    · rw [s9.i (by omega)]
      rcases hl with hl | hl
      · exact v8 last hl
      · subst hl
        rw [u8, s7.i (by decide), s6.i (by omega), h156]
        unfold em
        rw [if_neg (fun z => by omega)]
        rfl
    · rw [s9.i (by omega)]
      exact t8 last hl k hk)
  subst hr
  exact ⟨M', hcall, h1, h2⟩
end CRD

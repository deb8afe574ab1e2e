/-! THE CLASS Craft: reading, and what is told of it -/
theorem l0 : pm_le [] [] := ⟨rfl, fun _ _ h => h⟩
theorem lc {a : Option Value} {L L' : pm_L} (h : pm_le L L') : pm_le (a :: L) (a :: L') := ⟨by simp [h.1], fun i v hv => by
  cases i with
  | zero => exact hv
  | succ i => exact h.2 i v hv⟩
theorem ln {b : Option Value} {L L' : pm_L} (h : pm_le L L') : pm_le (none :: L) (b :: L') := ⟨by simp [h.1], fun i v hv => by
  cases i with
  | zero => cases hv
  | succ i => exact h.2 i v hv⟩
section CRB
variable {M : pm_M} {c : Cf}
theorem rd_drop1 {c : Cf} {ws : List Nat} {i : Nat} (h : i + 1 = ws.length) : rd c (ws.drop i) = [cf_sg c (ws.getD i 0)] := by
  rw [drop_getD (by omega), List.drop_eq_nil_of_le (by omega)]
  rfl
theorem rd_drop2 {c : Cf} {ws : List Nat} {i : Nat} (h : i + 1 < ws.length) : rd c (ws.drop i) = match pr c (ws.getD i 0) (ws.getD (i + 1) 0) with
    | some s => s :: rd c (ws.drop (i + 2))
    | none => cf_sg c (ws.getD i 0) :: rd c (ws.drop (i + 1)) := by
  rw [drop_getD (show i < ws.length by omega), drop_getD (show i + 1 < ws.length by omega)]
  rfl
theorem p32_none {c : Cf} (hw : cf_wf c) {a b : Nat} : p32 (pr c a b) = -1 ↔ pr c a b = none := by
  cases e : pr c a b with
  | none => simp [p32]
  | some s =>
    have := pr_ps hw e
    simp only [p32, reduceCtorEq, iff_false]
    have h : ∀ s, s ≤ 9 → ¬ nI s = -1 := by decide +kernel
    exact h s this
theorem c_read (d : Nat) (hM : pm_ok M) (hw : cf_wf c) (hc : CC c M) {o p : Nat} (ho : pm_rw o = true) (hp : pm_rw p = true) (h1 : o ≠ p) (h2 : o + 1 ≠ p) (h3 : o ≠ p + 1) (hoc : 19 < o) {ws : List Nat} (hk : kn c ws) (h : pm_Ro M p (ws.map nI)) :
    ∃ M', pm_call (d + 2) 23 [.ref 7, .ref p, .ref o] M none M' ∧ pm_Ro M' o ((rd c ws).map nI) ∧ pm_S (pm_oo o) M M' := by
  have hl := h.2.1
  rw [map_len] at hl
  have hrl := rd_len c ws
  have loop : ∀ n i x M1 done, x = nI i → ws.length - i ≤ n → i ≤ ws.length → pm_S (pm_oo o) M M1 → pm_Ro M1 o (done.map nI) → done ++ rd c (ws.drop i) = rd c ws → pm_WP (pm_call (d + 1)) tb_23 (fun r M' => r = none ∧ pm_Ro M' o ((rd c ws).map nI) ∧ pm_S (pm_oo o) M M') 6 [some (.ref 7), some (.ref p), some (.ref o), some (.int x), none, none, none] [] M1 := by
    intro n
    induction n with
    | zero =>
      intro i x M1 done hx hn hi hs hr hd
      subst hx
      have hM1 := hs.ok hM
      have hp1 : pm_Ro M1 p (ws.map nI) := h.kept hs (by simp [pm_oo]; omega) (by simp [pm_oo]; omega)
      have q : gI M1 p 1 ≤ nI i := by rw [hp1.1, map_len]; exact nI_le (by omega) (by omega)
      refine st_ild rfl rfl ?_
      refine st_ald rfl rfl ?_
      refine st_gI rfl (rw_T hM1 hp) ?_
      refine st_b2 rfl (fun _ => ?_) (fun zq => absurd (q) zq)
      -- at 99: op_vret
      refine st_vret rfl ⟨rfl, ?_, hs⟩
      rw [← hd, List.drop_eq_nil_of_le (by omega)]
      simpa [rd] using hr
    | succ n ih =>
      intro i x M1 done hx hn hi hs hr hd
      subst hx
      have hM1 := hs.ok hM
      have hp1 : pm_Ro M1 p (ws.map nI) := h.kept hs (by simp [pm_oo]; omega) (by simp [pm_oo]; omega)
      have hc1 : CC c M1 := hc.kept hs (fun k a b => by simp [pm_oo]; omega)
      by_cases hil : i = ws.length
      · have q : gI M1 p 1 ≤ nI i := by rw [hp1.1, map_len]; exact nI_le (by omega) (by omega)
        refine st_ild rfl rfl ?_
        refine st_ald rfl rfl ?_
        refine st_gI rfl (rw_T hM1 hp) ?_
        refine st_b2 rfl (fun _ => ?_) (fun zq => absurd (q) zq)
        -- at 99: op_vret
        refine st_vret rfl ⟨rfl, ?_, hs⟩
        rw [← hd, List.drop_eq_nil_of_le (by omega)]
        simpa [rd] using hr
      have hi : i < ws.length := by omega
      have q : ¬ gI M1 p 1 ≤ nI i := by rw [hp1.1, map_len]; exact nI_ge (by omega) (by omega)
      have hin : vp_in (nI i) 40 := vp_in_nI (by omega) (by decide)
      have hat : gI M1 (p + 1) (nI i).toNatClampNeg = nI (ws.getD i 0) := by rw [ro_at hp1 (by rw [map_len]; omega), map_getD (by omega)]
      have hka := kn_getD hk hi
      have hina : vp_in (nI (ws.getD i 0)) 6 := in6 hw hka
      have hsg : gI M1 10 (nI (ws.getD i 0)).toNatClampNeg = nI (cf_sg c (ws.getD i 0)) := by rw [cl6 hw hka]; exact (hc1.2.1 _ hka).2.2
      have one : done.length < 40 → rd c (ws.drop i) = cf_sg c (ws.getD i 0) :: rd c (ws.drop (i + 1)) → ∀ v5 : Int32, pm_WP (pm_call (d + 1)) tb_23 (fun r M' => r = none ∧ pm_Ro M' o ((rd c ws).map nI) ∧ pm_S (pm_oo o) M M') 62 [some (.ref 7), some (.ref p), some (.ref o), some (.int (nI i)), some (.int (nI (ws.getD i 0))), some (.int v5), none] [.int (-1)] M1 := by
        intro hdl e v5
        have hdl2 : (done.map nI).length < 40 := by rw [map_len]; exact hdl
        refine st_ist rfl ?_
        refine st_ild rfl rfl ?_
        refine st_k rfl ?_
        refine st_b2 rfl (fun zq => absurd zq ((fun z => z rfl))) (fun _ => ?_)
        refine st_ald rfl rfl ?_
        refine st_ald rfl rfl ?_
        refine st_gR' rfl (by first | exact tT hM1 rfl | assumption | exact rw_T hM1 (by assumption) | exact rw_A hM1 (by assumption)) (by first | exact rR hM1 rfl rfl | assumption | exact rw_R hM1 (by assumption)) ?_
        refine st_ild rfl rfl ?_
        refine st_iald rfl (by first | exact tT hM1 rfl | assumption | exact rw_T hM1 (by assumption) | exact rw_A hM1 (by assumption)) (by first | decide | assumption | exact vp_in_nI (by omega) (by decide)) ?_
        -- at 78: stop
        refine wp_e hsg ?_
        refine st_cav (As := [_]) rfl rfl rfl (rw_T hM1 ho) (Nat.le_of_ble_eq_true rfl) (c_add d hM1 ho hr hdl2 _) ?_
        refine st_go rfl ?_
        refine st_inc rfl rfl ?_
        refine st_go rfl ?_
        -- at 6: stop
        refine wp_le ms_23 (lc (lc (lc (lc (ln (ln (ln l0))))))) (ih (i + 1) _ _ (done ++ [cf_sg c (ws.getD i 0)]) (nI_1 i) (by omega) (by omega) (hs.tr s_add) ?_ ?_)
        · rw [List.map_append]
          exact ro_add hr hdl2 _
        · rw [← hd, e]
          simp
      refine st_ild rfl rfl ?_
      refine st_ald rfl rfl ?_
      refine st_gI rfl (rw_T hM1 hp) ?_
      refine st_b2 rfl (fun zq => absurd zq (q)) (fun _ => ?_)
      refine st_ald rfl rfl ?_
      refine st_gR' rfl (rw_T hM1 hp) (rw_R hM1 hp) ?_
      refine st_ild rfl rfl ?_
      refine st_iald rfl (rw_A hM1 hp) (hin) ?_
      -- at 20: stop
      refine wp_e hat ?_
      refine st_ist rfl ?_
      refine st_ild rfl rfl ?_
      refine st_k rfl ?_
      refine st_ib rfl ?_
      refine st_ald rfl rfl ?_
      refine st_gI rfl (rw_T hM1 hp) ?_
      -- at 29: stop
      refine wp_e hp1.1 ?_
      refine st_b2 rfl (fun hb => ?_) (fun hb => ?_)
      · rw [map_len, nI_1] at hb
        have hlt : i + 1 < ws.length := by
          rcases Nat.lt_or_ge (i + 1) ws.length with z | z
          · exact z
          · exact absurd (show nI (i + 1) = nI ws.length by rw [show i + 1 = ws.length by omega]) hb
        have hkb := kn_getD hk hlt
        have ep : nI i + 1 = nI (i + 1) := nI_1 i
        have hin2 : vp_in (nI i + 1) 40 := by rw [ep]; exact vp_in_nI (by omega) (by decide)
        have hat2 : gI M1 (p + 1) (nI i + 1).toNatClampNeg = nI (ws.getD (i + 1) 0) := by rw [ep, ro_at hp1 (by rw [map_len]; omega), map_getD (by omega)]
        have e2 := rd_drop2 (c := c) hlt
        refine st_k rfl ?_
        refine st_ist rfl ?_
        refine st_ild rfl rfl ?_
        refine st_b1 rfl (fun _ => ?_) (fun zq => absurd (rfl) zq)
        refine st_ald rfl rfl ?_
        refine st_ild rfl rfl ?_
        refine st_ald rfl rfl ?_
        refine st_gR' rfl (rw_T hM1 hp) (rw_R hM1 hp) ?_
        refine st_ild rfl rfl ?_
        refine st_k rfl ?_
        refine st_ib rfl ?_
        refine st_iald rfl (rw_A hM1 hp) (hin2) ?_
        -- at 59: stop
        refine wp_e hat2 ?_
        refine st_cav (As := [_, _]) rfl rfl rfl (by first | exact tT hM1 rfl | assumption | exact rw_T hM1 (by assumption) | exact rw_A hM1 (by assumption)) (Nat.le_of_ble_eq_true rfl) (c_pairedSign d hM1 hw hc1 hka hkb) ?_
        -- at 62: stop
        cases e : pr c (ws.getD i 0) (ws.getD (i + 1) 0) with
        | none =>
          rw [e] at e2
          refine one ?_ e2 0
          have := congrArg List.length hd
          rw [e2] at this
          simp at this
          omega
        | some s =>
          rw [e] at e2
          have hdl : (done.map nI).length < 40 := by
            have := congrArg List.length hd
            rw [e2] at this
            simp at this
            rw [map_len]
            omega
          have hne : ¬ p32 (some s) = -1 := by
            rw [← e]
            exact fun z => by rw [(p32_none hw).mp z] at e; cases e
          refine st_ist rfl ?_
          refine st_ild rfl rfl ?_
          refine st_k rfl ?_
          refine st_b2 rfl (fun _ => ?_) (fun zq => absurd (hne) zq)
          refine st_ald rfl rfl ?_
          refine st_ild rfl rfl ?_
          refine st_cav (As := [_]) rfl rfl rfl (rw_T hM1 ho) (Nat.le_of_ble_eq_true rfl) (c_add d hM1 ho hr hdl _) ?_
          refine st_inc rfl rfl ?_
          refine st_inc rfl rfl ?_
          refine st_go rfl ?_
          -- at 6: stop
          refine wp_le ms_23 (lc (lc (lc (lc (ln (ln (ln l0))))))) (ih (i + 2) _ _ (done ++ [s]) ?_ (by omega) (by omega) (hs.tr s_add) ?_ ?_)
          · rw [nI_1, nI_1]
          · rw [List.map_append]
            exact ro_add hr hdl _
          · rw [← hd, e2]
            simp
      · have hb2 : i + 1 = ws.length := by
          have hb3 := Decidable.not_not.mp hb
          rw [map_len, nI_1] at hb3
          exact (nI_eq (by omega) (by omega)).mp hb3
        have e1 := rd_drop1 (c := c) hb2
        refine st_k rfl ?_
        refine st_go rfl ?_
        refine st_ist rfl ?_
        refine st_ild rfl rfl ?_
        refine st_b1 rfl (fun zq => absurd zq ((by decide))) (fun _ => ?_)
        refine st_k rfl ?_
        refine st_go rfl ?_
        -- at 62: stop
        refine one ?_ ?_ 1
        · have := congrArg List.length hd
          rw [e1] at this
          simp at this
          omega
        · rw [e1, List.drop_eq_nil_of_le (by omega)]
          rfl
  obtain ⟨r, M', hcc, hr, h5, h6⟩ := eq_23 (d := d + 1) (A := [.ref 7, .ref p, .ref o]) (M := M) (Q := fun r M' => r = none ∧ pm_Ro M' o ((rd c ws).map nI) ∧ pm_S (pm_oo o) M M') (Nat.le_of_ble_eq_true rfl) (by
    refine st_ald rfl rfl ?_
    refine st_cav (As := []) rfl rfl rfl (by first | exact tT hM rfl | assumption | exact rw_T hM (by assumption) | exact rw_A hM (by assumption)) (Nat.le_of_ble_eq_true rfl) (c_clear d hM ho) ?_
    refine st_k rfl ?_
    refine st_ist rfl ?_
    -- at 6: stop
    exact loop ws.length 0 0 _ [] rfl (by omega) (by omega) s_clear (ro_clear M o) (by simp))
  subst hr
  exact ⟨M', hcc, h5, h6⟩
/-- what knot() tells of a KNOT -/
def kf (c : Cf) (k : Nat) (what : Int32) : Nat := if what = 0 then cf_kd c k else if what = 1 then cf_sz c k else if what = 2 then cf_sg c k else if what = 3 then alo c k else cf_br c k
theorem c_knotFact (d : Nat) (hM : pm_ok M) (hw : cf_wf c) (hc : CC c M) {k : Nat} (hk : k < cf_n c) (what : Int32) : pm_call (d + 3) 18 [.ref 7, .int (nI k), .int what] M (some (.int (nI (kf c k what)))) M := by
  refine en_18 (Nat.le_of_ble_eq_true rfl) ?_
  have hin := in6 hw hk
  have h6 : k < 6 := by have := hw.1; omega
  have hin7 : vp_in (nI k) 7 := vp_in_nI (by omega) (by decide)
  have e := cl6 hw hk
  have a := hc.2.1 k hk
  have b := (hc.2.2.2.1 k (Or.inl hk)).1
  rw [if_pos h6] at b
  refine st_ild rfl rfl ?_
  refine st_sw rfl ?_
  by_cases g0 : what = 0
  · rw [if_pos g0]
    refine st_ald rfl rfl ?_
    refine st_gR' rfl (by first | exact tT hM rfl | assumption | exact rw_T hM (by assumption) | exact rw_A hM (by assumption)) (by first | exact rR hM rfl rfl | assumption | exact rw_R hM (by assumption)) ?_
    refine st_ild rfl rfl ?_
    refine st_iald rfl (by first | exact tT hM rfl | assumption | exact rw_T hM (by assumption) | exact rw_A hM (by assumption)) (by first | decide | assumption | exact vp_in_nI (by omega) (by decide)) ?_
    -- at 38: op_iret
    exact st_iret rfl ⟨by rw [e, a.1]; unfold kf; rw [if_pos g0], rfl⟩
  rw [if_neg g0]
  by_cases g1 : what = 1
  · rw [if_pos g1]
    refine st_ald rfl rfl ?_
    refine st_gR' rfl (by first | exact tT hM rfl | assumption | exact rw_T hM (by assumption) | exact rw_A hM (by assumption)) (by first | exact rR hM rfl rfl | assumption | exact rw_R hM (by assumption)) ?_
    refine st_ild rfl rfl ?_
    refine st_iald rfl (by first | exact tT hM rfl | assumption | exact rw_T hM (by assumption) | exact rw_A hM (by assumption)) (by first | decide | assumption | exact vp_in_nI (by omega) (by decide)) ?_
    -- at 45: op_iret
    exact st_iret rfl ⟨by rw [e, a.2.1]; unfold kf; rw [if_neg g0, if_pos g1], rfl⟩
  rw [if_neg g1]
  by_cases g2 : what = 2
  · rw [if_pos g2]
    refine st_ald rfl rfl ?_
    refine st_gR' rfl (by first | exact tT hM rfl | assumption | exact rw_T hM (by assumption) | exact rw_A hM (by assumption)) (by first | exact rR hM rfl rfl | assumption | exact rw_R hM (by assumption)) ?_
    refine st_ild rfl rfl ?_
    refine st_iald rfl (by first | exact tT hM rfl | assumption | exact rw_T hM (by assumption) | exact rw_A hM (by assumption)) (by first | decide | assumption | exact vp_in_nI (by omega) (by decide)) ?_
    -- at 52: op_iret
    exact st_iret rfl ⟨by rw [e, a.2.2]; unfold kf; rw [if_neg g0, if_neg g1, if_pos g2], rfl⟩
  rw [if_neg g2]
  by_cases g3 : what = 3
  · rw [if_pos g3]
    refine st_ald rfl rfl ?_
    refine st_ild rfl rfl ?_
    refine st_cav (As := [_]) rfl rfl rfl (by first | exact tT hM rfl | assumption | exact rw_T hM (by assumption) | exact rw_A hM (by assumption)) (Nat.le_of_ble_eq_true rfl) (c_takesAlone d hM hw hc hk) ?_
    -- at 58: op_iret
    exact st_iret rfl ⟨by unfold kf; rw [if_neg g0, if_neg g1, if_neg g2, if_pos g3], rfl⟩
  rw [if_neg g3]
  refine st_ald rfl rfl ?_
  refine st_gR' rfl (by first | exact tT hM rfl | assumption | exact rw_T hM (by assumption) | exact rw_A hM (by assumption)) (by first | exact rR hM rfl rfl | assumption | exact rw_R hM (by assumption)) ?_
  refine st_ild rfl rfl ?_
  refine st_iald rfl (by first | exact tT hM rfl | assumption | exact rw_T hM (by assumption) | exact rw_A hM (by assumption)) (by first | decide | assumption | exact vp_in_nI (by omega) (by decide)) ?_
  -- at 65: op_iret
  exact st_iret rfl ⟨by rw [e, b]; unfold kf; rw [if_neg g0, if_neg g1, if_neg g2, if_neg g3], rfl⟩
/-- in how many of the first i PAIRS k stands -/
def pw (c : Cf) (k : Nat) : Nat → Nat
  | 0 => 0
  | i + 1 => pw c k i + if cf_p1 c i = k ∨ cf_p2 c i = k then 1 else 0
theorem pw_s (c : Cf) (k i : Nat) : pw c k (i + 1) = pw c k i + if cf_p1 c i = k ∨ cf_p2 c i = k then 1 else 0 := rfl
theorem c_pairsWith (d : Nat) (hM : pm_ok M) (hw : cf_wf c) (hc : CC c M) {k : Nat} (hk : k < cf_n c) : pm_call (d + 1) 17 [.ref 7, .int (nI k)] M (some (.int (nI (pw c k (cf_np c))))) M := by
  refine en_17 (Nat.le_of_ble_eq_true rfl) ?_
  have hnp := hw.2.2.2.2.1
  have hn := hw.1
  have loop : ∀ n i x y, x = nI i → y = nI (pw c k i) → i + n = cf_np c → pm_WP (pm_call d) tb_17 (fun r0 M1 => r0 = some (.int (nI (pw c k (cf_np c)))) ∧ M1 = M) 4 [some (.ref 7), some (.int (nI k)), some (.int y), some (.int x)] [] M := by
    intro n
    induction n with
    | zero =>
      intro i x y hx hy hi
      subst hx; subst hy
      have q : gI M 7 4 ≤ nI i := by rw [hc.1.2.2.2.2]; exact nI_le (by omega) (by omega)
      refine st_ild rfl rfl ?_
      refine st_ald rfl rfl ?_
      refine st_gI rfl (by first | exact tT hM rfl | assumption | exact rw_T hM (by assumption) | exact rw_A hM (by assumption)) ?_
      refine st_b2 rfl (fun _ => ?_) (fun zq => absurd (q) zq)
      refine st_ild rfl rfl ?_
      -- at 47: op_iret
      exact st_iret rfl ⟨by rw [show i = cf_np c by omega], rfl⟩
    | succ n ih =>
      intro i x y hx hy hi
      subst hx; subst hy
      have q : ¬ gI M 7 4 ≤ nI i := by rw [hc.1.2.2.2.2]; exact nI_ge (by omega) (by omega)
      have hin : vp_in (nI i) 6 := vp_in_nI (by omega) (by decide)
      have hp := hc.2.2.1 i (by omega)
      have hq := hw.2.2.2.2.2.2 i (by omega)
      have e4 : (nI i).toNatClampNeg = i := nI_clamp (by omega)
      have m1 : nI (cf_p1 c i) = nI k ↔ cf_p1 c i = k := nI_eq (by omega) (by omega)
      have m2 : nI (cf_p2 c i) = nI k ↔ cf_p2 c i = k := nI_eq (by omega) (by omega)
      refine st_ild rfl rfl ?_
      refine st_ald rfl rfl ?_
      refine st_gI rfl (by first | exact tT hM rfl | assumption | exact rw_T hM (by assumption) | exact rw_A hM (by assumption)) ?_
      refine st_b2 rfl (fun zq => absurd zq (q)) (fun _ => ?_)
      refine st_ild rfl rfl ?_
      refine st_ald rfl rfl ?_
      refine st_gR' rfl (by first | exact tT hM rfl | assumption | exact rw_T hM (by assumption) | exact rw_A hM (by assumption)) (by first | exact rR hM rfl rfl | assumption | exact rw_R hM (by assumption)) ?_
      refine st_ild rfl rfl ?_
      refine st_iald rfl (by first | exact tT hM rfl | assumption | exact rw_T hM (by assumption) | exact rw_A hM (by assumption)) (by first | decide | assumption | exact vp_in_nI (by omega) (by decide)) ?_
      -- at 19: stop
      refine wp_e (y := nI (cf_p1 c i)) (by rw [e4]; exact hp.1) ?_
      refine st_ild rfl rfl ?_
      refine st_b2 rfl (fun g1 => ?_) (fun g1 => ?_)
      -- at 20: split 33 23
      · refine st_k rfl ?_
        refine st_go rfl ?_
        refine st_ib rfl ?_
        refine st_ist rfl ?_
        refine st_inc rfl rfl ?_
        refine st_go rfl ?_
        -- at 4: stop
        exact ih (i + 1) _ _ (nI_1 i) (by rw [pw_s, if_pos (Or.inl (m1.mp g1)), ← nI_add]; rfl) (by omega)
      · refine st_ald rfl rfl ?_
        refine st_gR' rfl (by first | exact tT hM rfl | assumption | exact rw_T hM (by assumption) | exact rw_A hM (by assumption)) (by first | exact rR hM rfl rfl | assumption | exact rw_R hM (by assumption)) ?_
        refine st_ild rfl rfl ?_
        refine st_iald rfl (by first | exact tT hM rfl | assumption | exact rw_T hM (by assumption) | exact rw_A hM (by assumption)) (by first | decide | assumption | exact vp_in_nI (by omega) (by decide)) ?_
        -- at 29: stop
        refine wp_e (y := nI (cf_p2 c i)) (by rw [e4]; exact hp.2.1) ?_
        refine st_ild rfl rfl ?_
        refine st_b2 rfl (fun g2 => ?_) (fun g2 => ?_)
        -- at 30: split 37 33
        · refine st_k rfl ?_
          refine st_ib rfl ?_
          refine st_ist rfl ?_
          refine st_inc rfl rfl ?_
          refine st_go rfl ?_
          -- at 4: stop
          exact ih (i + 1) _ _ (nI_1 i) (by rw [pw_s, if_neg (fun z => z.elim (fun z => g1 (m1.mpr z)) (fun z => g2 (m2.mpr z))), ← nI_add]; rfl) (by omega)
        · refine st_k rfl ?_
          refine st_go rfl ?_
          refine st_ib rfl ?_
          refine st_ist rfl ?_
          refine st_inc rfl rfl ?_
          refine st_go rfl ?_
          -- at 4: stop
          exact ih (i + 1) _ _ (nI_1 i) (by rw [pw_s, if_pos (Or.inr (m2.mp (Decidable.not_not.mp g2))), ← nI_add]; rfl) (by omega)
  refine st_k rfl ?_
  refine st_ist rfl ?_
  refine st_k rfl ?_
  refine st_ist rfl ?_
  -- at 4: stop
  exact loop (cf_np c) 0 0 0 rfl rfl (by omega)
/-- how many of the first i KNOTS are of a KIND -/
def nk (c : Cf) (kind : Nat) : Nat → Nat
  | 0 => 0
  | i + 1 => nk c kind i + if isk c i kind then 1 else 0
theorem nk_s (c : Cf) (kind i : Nat) : nk c kind (i + 1) = nk c kind i + if isk c i kind then 1 else 0 := rfl
theorem c_knotsOfKind (d : Nat) (hM : pm_ok M) (hw : cf_wf c) (hc : CC c M) {kind : Nat} (hkind : kind < 2 ^ 31) : pm_call (d + 2) 12 [.ref 7, .int (nI kind)] M (some (.int (nI (nk c kind (cf_n c))))) M := by
  refine en_12 (Nat.le_of_ble_eq_true rfl) ?_
  have hn := hw.1
  have loop : ∀ n i x y, x = nI i → y = nI (nk c kind i) → i + n = cf_n c → pm_WP (pm_call (d + 1)) tb_12 (fun r0 M1 => r0 = some (.int (nI (nk c kind (cf_n c)))) ∧ M1 = M) 4 [some (.ref 7), some (.int (nI kind)), some (.int y), some (.int x)] [] M := by
    intro n
    induction n with
    | zero =>
      intro i x y hx hy hi
      subst hx; subst hy
      have q : gI M 7 2 ≤ nI i := by rw [hc.1.2.2.1]; exact nI_le (by omega) (by omega)
      refine st_ild rfl rfl ?_
      refine st_ald rfl rfl ?_
      refine st_gI rfl (by first | exact tT hM rfl | assumption | exact rw_T hM (by assumption) | exact rw_A hM (by assumption)) ?_
      refine st_b2 rfl (fun _ => ?_) (fun zq => absurd (q) zq)
      refine st_ild rfl rfl ?_
      -- at 36: op_iret
      exact st_iret rfl ⟨by rw [show i = cf_n c by omega], rfl⟩
    | succ n ih =>
      intro i x y hx hy hi
      subst hx; subst hy
      have q : ¬ gI M 7 2 ≤ nI i := by rw [hc.1.2.2.1]; exact nI_ge (by omega) (by omega)
      refine st_ild rfl rfl ?_
      refine st_ald rfl rfl ?_
      refine st_gI rfl (by first | exact tT hM rfl | assumption | exact rw_T hM (by assumption) | exact rw_A hM (by assumption)) ?_
      refine st_b2 rfl (fun zq => absurd zq (q)) (fun _ => ?_)
      refine st_ild rfl rfl ?_
      refine st_ald rfl rfl ?_
      refine st_ild rfl rfl ?_
      refine st_ild rfl rfl ?_
      refine st_cav (As := [_, _]) rfl rfl rfl (by first | exact tT hM rfl | assumption | exact rw_T hM (by assumption) | exact rw_A hM (by assumption)) (Nat.le_of_ble_eq_true rfl) (c_isOfKind d hM hw hc (show i < cf_n c by omega) hkind) ?_
      refine st_b1 rfl (fun g => ?_) (fun g => ?_)
      -- at 19: split 26 22
      · refine st_k rfl ?_
        refine st_ib rfl ?_
        refine st_ist rfl ?_
        refine st_inc rfl rfl ?_
        refine st_go rfl ?_
        -- at 4: stop
        exact ih (i + 1) _ _ (nI_1 i) (by rw [nk_s, if_neg (fun z => b01_t z g), ← nI_add]; rfl) (by omega)
      · refine st_k rfl ?_
        refine st_go rfl ?_
        refine st_ib rfl ?_
        refine st_ist rfl ?_
        refine st_inc rfl rfl ?_
        refine st_go rfl ?_
        -- at 4: stop
        exact ih (i + 1) _ _ (nI_1 i) (by rw [nk_s, if_pos (Decidable.not_not.mp (fun z => g (b01_f z))), ← nI_add]; rfl) (by omega)
  refine st_k rfl ?_
  refine st_ist rfl ?_
  refine st_k rfl ?_
  refine st_ist rfl ?_
  -- at 4: stop
  exact loop (cf_n c) 0 0 0 rfl rfl (by omega)
end CRB

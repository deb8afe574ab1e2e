/-! BOTH ANSWER ALIKE: change -/
/-- how many can be untied -/
def lsn (c : Cf) (ws : List Nat) (L : Nat) : Prop := L ≤ ws.length ∧ (∀ i, ws.length - L ≤ i → i < ws.length → cf_kd c (ws.getD i 0) ≠ 5) ∧ (L < ws.length → cf_kd c (ws.getD (ws.length - 1 - L) 0) = 5)
theorem lsn_ex (c : Cf) (ws : List Nat) : ∃ L, lsn c ws L := by
  obtain ⟨L, h1, h2⟩ := pk_least (fun L => L = ws.length ∨ cf_kd c (ws.getD (ws.length - 1 - L) 0) = 5) ⟨ws.length, Or.inl rfl⟩
  have hL : L ≤ ws.length := Nat.not_lt.mp (fun z => h2 ws.length z (Or.inl rfl))
  refine ⟨L, hL, fun i h3 h4 h5 => h2 (ws.length - 1 - i) (by omega) (Or.inr ?_), fun z => h1.elim (fun w => by omega) (fun w => w)⟩
  rw [show ws.length - 1 - (ws.length - 1 - i) = i by omega]
  exact h5
theorem lsn_uniq {c : Cf} {ws : List Nat} {L L' : Nat} (h : lsn c ws L) (h' : lsn c ws L') : L = L' := by
  obtain ⟨a1, a2, a3⟩ := h
  obtain ⟨b1, b2, b3⟩ := h'
  rcases Nat.lt_trichotomy L L' with z | z | z
  · exact absurd (a3 (by omega)) (b2 _ (by omega) (by omega))
  · exact z
  · exact absurd (b3 (by omega)) (a2 _ (by omega) (by omega))
section CHB
variable {a : As} {M : pm_M} {c : Cf} {m : List Nat}
theorem m_lookAtRope2 (d : Nat) (hM : pm_ok M) {ws : List Nat} (hl : ws.length ≤ 20) (h : MRop M ws) : ∃ M', pm_call (d + 1) 201 [.ref 132] M none M' ∧ Lk M' ws ∧ Lfr M M' := by
  obtain ⟨r, M', hcc, hr, h5, h6⟩ := eq_201 (d := d) (A := [.ref 132]) (M := M) (Q := fun r M' => r = none ∧ Lk M' ws ∧ Lfr M M') (Nat.le_of_ble_eq_true rfl) (by
    have l0' : Lfr M (sI M 132 29 (nI ws.length)) := ⟨rfl, fun _ _ => rfl, fun k i z1 z2 => gI_nn z1, fun _ _ => rfl⟩
    refine st_ald rfl rfl ?_
    refine st_ald rfl rfl ?_
    refine st_gI rfl (by first | exact tT hM rfl | assumption | exact rw_T hM (by assumption) | exact rw_A hM (by assumption)) ?_
    -- at 5: stop
    refine wp_e h.1 ?_
    refine st_pI rfl (by first | exact tT hM rfl | assumption | exact rw_T hM (by assumption) | exact rw_A hM (by assumption)) ?_
    refine st_k rfl ?_
    refine st_ist rfl ?_
    -- at 10: stop
    refine wp_for ws.length (fun i L M1 => ∃ x, x = nI i ∧ L = [some (.ref 132), some (.int x)] ∧ Lfr M M1 ∧ gI M1 132 29 = nI ws.length ∧ ∀ q, q < i → gI M1 147 q = nI (ws.getD q 0)) ?_ ?_ 0 _ _ (Nat.zero_le _) ⟨_, rfl, rfl, l0', gI_same _ _ _ _, fun q hq => by omega⟩
    · rintro i L M1 hi ⟨x, rfl, rfl, hf, hg, hq⟩ ih
      have hM1 := hf.ok hM
      have hin : vp_in (nI i) 24 := vp_in_nI (by omega) (by decide)
      have hin2 : vp_in (nI i) 20 := vp_in_nI (by omega) (by decide)
      refine st_ild rfl rfl ?_
      refine st_ald rfl rfl ?_
      refine st_gI rfl (by first | exact tT hM1 rfl | assumption | exact rw_T hM1 (by assumption) | exact rw_A hM1 (by assumption)) ?_
      -- at 15: stop
      refine wp_e (y := nI ws.length) (by rw [hf.2.2.1 132 33 (by omega) (by omega)]; exact h.1) ?_
      refine st_b2 rfl (fun zq => absurd zq (nI_ge (by omega) (by omega))) (fun _ => ?_)
      refine st_ald rfl rfl ?_
      refine st_gR' rfl (by first | exact tT hM1 rfl | assumption | exact rw_T hM1 (by assumption) | exact rw_A hM1 (by assumption)) (by first | exact rR hM1 rfl rfl | assumption | exact rw_R hM1 (by assumption)) ?_
      refine st_ild rfl rfl ?_
      refine st_ald rfl rfl ?_
      refine st_gR' rfl (by first | exact tT hM1 rfl | assumption | exact rw_T hM1 (by assumption) | exact rw_A hM1 (by assumption)) (by first | exact rR hM1 rfl rfl | assumption | exact rw_R hM1 (by assumption)) ?_
      refine st_ild rfl rfl ?_
      refine st_iald rfl (by first | exact tT hM1 rfl | assumption | exact rw_T hM1 (by assumption) | exact rw_A hM1 (by assumption)) (by first | decide | assumption | exact vp_in_nI (by omega) (by decide)) ?_
      -- at 29: stop
      refine wp_e (y := nI (ws.getD i 0)) (by rw [nI_clamp (by omega), hf.2.2.1 149 i (by omega) (by omega)]; exact h.2 i hi) ?_
      refine st_iast rfl (tT hM1 rfl) (hin) ?_
      refine st_inc rfl rfl ?_
      refine st_go rfl ?_
      -- at 10: stop
      rw [nI_clamp (by omega)]
      refine ih _ _ ⟨_, nI_1 i, rfl, hf.tr ⟨rfl, fun _ _ => rfl, fun k i z1 z2 => gI_ne (Or.inl z2), fun _ _ => rfl⟩, by rw [gI_ne (Or.inl (by decide))]; exact hg, fun q hq2 => ?_⟩
      by_cases z : q = i
      · subst z; exact gI_same _ _ _ _
      · rw [gI_ne (Or.inr z)]; exact hq q (by omega)
    · rintro L M1 ⟨x, rfl, rfl, hf, hg, hq⟩
      have hM1 := hf.ok hM
      refine st_ild rfl rfl ?_
      refine st_ald rfl rfl ?_
      refine st_gI rfl (by first | exact tT hM1 rfl | assumption | exact rw_T hM1 (by assumption) | exact rw_A hM1 (by assumption)) ?_
      -- at 15: stop
      refine wp_e (y := nI ws.length) (by rw [hf.2.2.1 132 33 (by omega) (by omega)]; exact h.1) ?_
      refine st_b2 rfl (fun _ => ?_) (fun zq => absurd (nI_le (by omega) (by omega)) zq)
      -- at 36: op_vret
      exact st_vret rfl ⟨rfl, ⟨hg, by omega, hq⟩, hf⟩)
  subst hr
  exact ⟨M', hcc, h5, h6⟩
/-- the reference's look at a beginning -/
theorem m_beg (d : Nat) (hM : pm_ok M) (hw : cf_wf c) (hc : MC c M) (hm : MM m M) {ws : List Nat} (hk : kn c ws) (hl : ws.length ≤ 20) (hrp : MRop M ws) {un j u : Nat} (hun : un ≤ ws.length) {Q : Option Value → pm_M → Prop}
    (h1 : rsl c m s00 (ws.take (ws.length - un)) = none → ∀ l6 l7, pm_WP (pm_call (d + 4)) tb_242 Q 187 [some (.ref 132), some (.int (nI j)), some (.int (nI u)), some (.int 0), some (.int (nI un)), some (.int (-9)), l6, l7] [] M)
    (h2 : ∀ s, rsl c m s00 (ws.take (ws.length - un)) = some s → wS c s → ∀ l7, pm_WP (pm_call (d + 4)) tb_242 Q 121 [some (.ref 132), some (.int (nI j)), some (.int (nI u)), some (.int 0), some (.int (nI un)), some (.int (nI (si s))), some (.int (nI (mt c 6 (ws.take (ws.length - un))))), l7] [] M) :
    ∀ l5 l6 l7, pm_WP (pm_call (d + 4)) tb_242 Q 44 [some (.ref 132), some (.int (nI j)), some (.int (nI u)), some (.int 0), some (.int (nI un)), l5, l6, l7] [] M := by
  intro l5 l6 l7
  have hml := hm.2.1
  have e1 : nI ws.length - nI un = nI (ws.length - un) := pk_sub hun
  refine st_k rfl ?_
  refine st_ist rfl ?_
  refine st_k rfl ?_
  refine st_ist rfl ?_
  refine st_k rfl ?_
  refine st_ist rfl ?_
  -- at 53: stop
  refine wp_for (ws.length - un) (fun i L M1 => ∃ z s, z = nI i ∧ L = [some (.ref 132), some (.int (nI j)), some (.int (nI u)), some (.int 0), some (.int (nI un)), some (.int (nI (si s))), some (.int (nI (mt c 6 (ws.take i)))), some (.int z)] ∧ M1 = M ∧ rsl c m s00 (ws.take i) = some s ∧ wS c s) ?_ ?_ 0 _ _ (Nat.zero_le _) ⟨_, s00, rfl, rfl, rfl, rfl, wS00 c⟩
  · rintro i L M1 hi ⟨z, s, rfl, rfl, rfl, hs, hws⟩ ih
    have hil : i < ws.length := by omega
    have hki := kn_getD hk hil
    have hin : vp_in (nI i) 20 := vp_in_nI (by omega) (by decide)
    have hd := (si_d hw hws).2.2.2.1
    have hne : ¬ nI (si s) = -9 := fun z => absurd (show nI (si s) < 0 by rw [z]; decide) (nI_pos (by omega))
    have hlast := rsl_last _ _ _ (kn_take hk i) hs
    have hst := rsl_s (c := c) (m := m) (ws.getD i 0) (ws.take i) s00
    rw [← takeN_s hil, hs] at hst
    dsimp only at hst
    refine st_ild rfl rfl ?_
    refine st_ald rfl rfl ?_
    refine st_gI rfl (by first | exact tT hM rfl | assumption | exact rw_T hM (by assumption) | exact rw_A hM (by assumption)) ?_
    -- at 59: stop
    refine wp_e hrp.1 ?_
    refine st_ild rfl rfl ?_
    refine st_ib rfl ?_
    -- at 62: stop
    refine wp_e e1 ?_
    refine st_b2 rfl (fun zq => absurd zq (nI_ge hi (by omega))) (fun _ => ?_)
    refine st_ild rfl rfl ?_
    refine st_k rfl ?_
    refine st_b2 rfl (fun zq => absurd zq (hne)) (fun _ => ?_)
    refine st_ild rfl rfl ?_
    refine st_ald rfl rfl ?_
    refine st_ild rfl rfl ?_
    refine st_call (As := [_]) rfl rfl rfl (Nat.le_of_ble_eq_true rfl) (m_lastOf (d + 3) hw hws) ?_
    refine st_ald rfl rfl ?_
    refine st_gR' rfl (by first | exact tT hM rfl | assumption | exact rw_T hM (by assumption) | exact rw_A hM (by assumption)) (by first | exact rR hM rfl rfl | assumption | exact rw_R hM (by assumption)) ?_
    refine st_ild rfl rfl ?_
    refine st_iald rfl (by first | exact tT hM rfl | assumption | exact rw_T hM (by assumption) | exact rw_A hM (by assumption)) (by first | decide | assumption | exact vp_in_nI (by omega) (by decide)) ?_
    -- at 87: stop
    refine wp_e (y := nI (ws.getD i 0)) (by rw [nI_clamp (by omega)]; exact hrp.2 i hil) ?_
    refine st_cav (As := [_, _]) rfl rfl rfl (by first | exact tT hM rfl | assumption | exact rw_T hM (by assumption) | exact rw_A hM (by assumption)) (Nat.le_of_ble_eq_true rfl) (m_takeOf (d + 2) hM hw hc hws.2.1 hki) ?_
    refine st_ib rfl ?_
    -- at 91: stop
    refine wp_e (y := nI (mt c 6 (ws.take (i + 1)))) (by rw [nI_add, takeN_s hil, mt_app, hlast]) ?_
    refine st_ist rfl ?_
    refine st_ald rfl rfl ?_
    refine st_ild rfl rfl ?_
    refine st_ald rfl rfl ?_
    refine st_gR' rfl (by first | exact tT hM rfl | assumption | exact rw_T hM (by assumption) | exact rw_A hM (by assumption)) (by first | exact rR hM rfl rfl | assumption | exact rw_R hM (by assumption)) ?_
    refine st_ild rfl rfl ?_
    refine st_iald rfl (by first | exact tT hM rfl | assumption | exact rw_T hM (by assumption) | exact rw_A hM (by assumption)) (by first | decide | assumption | exact vp_in_nI (by omega) (by decide)) ?_
    -- at 103: stop
    refine wp_e (y := nI (ws.getD i 0)) (by rw [nI_clamp (by omega)]; exact hrp.2 i hil) ?_
    refine st_cav (As := [_, _]) rfl rfl rfl (by first | exact tT hM rfl | assumption | exact rw_T hM (by assumption) | exact rw_A hM (by assumption)) (Nat.le_of_ble_eq_true rfl) (m_stateBehind (d + 2) hM hw hc hm hws hki) ?_
    refine st_ist rfl ?_
    refine st_inc rfl rfl ?_
    refine st_go rfl ?_
    -- at 53: stop
    cases hx : nx c m s (ws.getD i 0) with
    | some s' =>
      rw [hx] at hst
      exact ih _ _ ⟨_, s', nI_1 i, rfl, rfl, hst, (nx_wS hw hml hki hws hx).1⟩
    | none =>
      rw [hx] at hst
      have hnone : rsl c m s00 (ws.take (ws.length - un)) = none := by
        have : ∀ (v u : List Nat), rsl c m s00 u = none → rsl c m s00 (u ++ v) = none := by
          intro v
          induction v with
          | nil => intro u hu; rw [List.append_nil]; exact hu
          | cons q v ihv =>
            intro u hu
            rw [show u ++ q :: v = (u ++ [q]) ++ v by simp]
            refine ihv (u ++ [q]) ?_
            rw [rsl_s, hu]
        have h3 := this ((ws.take (ws.length - un)).drop (i + 1)) (ws.take (i + 1)) hst
        rw [show ws.take (i + 1) = (ws.take (ws.length - un)).take (i + 1) by rw [List.take_take, Nat.min_eq_left (by omega)], List.take_append_drop] at h3
        exact h3
      rw [nI_1]
      by_cases g : ws.length - un ≤ i + 1
      · refine st_ild rfl rfl ?_
        refine st_ald rfl rfl ?_
        refine st_gI rfl (by first | exact tT hM rfl | assumption | exact rw_T hM (by assumption) | exact rw_A hM (by assumption)) ?_
        -- at 59: stop
        refine wp_e hrp.1 ?_
        refine st_ild rfl rfl ?_
        refine st_ib rfl ?_
        -- at 62: stop
        refine wp_e e1 ?_
        refine st_b2 rfl (fun _ => ?_) (fun zq => absurd (nI_le g (by omega)) zq)
        refine st_ild rfl rfl ?_
        refine st_k rfl ?_
        refine st_b2 rfl (fun _ => ?_) (fun zq => absurd (rfl) zq)
        -- at 187: stop
        exact h1 hnone _ _
      · refine st_ild rfl rfl ?_
        refine st_ald rfl rfl ?_
        refine st_gI rfl (by first | exact tT hM rfl | assumption | exact rw_T hM (by assumption) | exact rw_A hM (by assumption)) ?_
        -- at 59: stop
        refine wp_e hrp.1 ?_
        refine st_ild rfl rfl ?_
        refine st_ib rfl ?_
        -- at 62: stop
        refine wp_e e1 ?_
        refine st_b2 rfl (fun zq => absurd zq (nI_ge (by omega) (by omega))) (fun _ => ?_)
        refine st_ild rfl rfl ?_
        refine st_k rfl ?_
        refine st_b2 rfl (fun _ => ?_) (fun zq => absurd (rfl) zq)
        refine st_ild rfl rfl ?_
        refine st_k rfl ?_
        refine st_b2 rfl (fun _ => ?_) (fun zq => absurd (rfl) zq)
        -- at 187: stop
        exact h1 hnone _ _
  · rintro L M1 ⟨z, s, rfl, rfl, rfl, hs, hws⟩
    have hd := (si_d hw hws).2.2.2.1
    have hne : ¬ nI (si s) = -9 := fun z => absurd (show nI (si s) < 0 by rw [z]; decide) (nI_pos (by omega))
    refine st_ild rfl rfl ?_
    refine st_ald rfl rfl ?_
    refine st_gI rfl (by first | exact tT hM rfl | assumption | exact rw_T hM (by assumption) | exact rw_A hM (by assumption)) ?_
    -- at 59: stop
    refine wp_e hrp.1 ?_
    refine st_ild rfl rfl ?_
    refine st_ib rfl ?_
    -- at 62: stop
    refine wp_e e1 ?_
    refine st_b2 rfl (fun _ => ?_) (fun zq => absurd (nI_le (by omega) (by omega)) zq)
    refine st_ild rfl rfl ?_
    refine st_k rfl ?_
    refine st_b2 rfl (fun zq => absurd zq (hne)) (fun _ => ?_)
    -- at 121: stop
    exact h2 s hs hws _
end CHB

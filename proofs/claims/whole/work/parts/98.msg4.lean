/-! MESSAGES: the reference goes on, so that least is taken -/
/-- only what is looked at has changed -/
def Lfr (M M' : pm_M) : Prop := M'.1 = M.1 ∧ (∀ k i, gR M' k i = gR M k i) ∧ (∀ k i, ¬ (k = 132 ∧ i = 29) → k ≠ 147 → gI M' k i = gI M k i) ∧ ∀ k i, gL M' k i = gL M k i
theorem Lfr.rf (M : pm_M) : Lfr M M := ⟨rfl, fun _ _ => rfl, fun _ _ _ _ => rfl, fun _ _ => rfl⟩
theorem Lfr.tr {M M1 M2 : pm_M} (h : Lfr M M1) (g : Lfr M1 M2) : Lfr M M2 := ⟨g.1.trans h.1, fun k i => (g.2.1 k i).trans (h.2.1 k i), fun k i z1 z2 => (g.2.2.1 k i z1 z2).trans (h.2.2.1 k i z1 z2), fun k i => (g.2.2.2 k i).trans (h.2.2.2 k i)⟩
theorem Lfr.ok {M M1 : pm_M} (h : Lfr M M1) (ho : pm_ok M) : pm_ok M1 := ⟨h.1.trans ho.1, fun k f hf => (h.2.1 k f).trans (ho.2 k f hf)⟩
theorem Lfr.sc {M M1 : pm_M} (h : Lfr M M1) : Msc M M1 := ⟨h.1, h.2.1, fun k i hk => ⟨h.2.2.1 k i (by omega) (by omega), h.2.2.2 k i⟩⟩
theorem Lfr.mm {m : List Nat} {M M1 : pm_M} (h : Lfr M M1) (hm : MM m M) : MM m M1 := ⟨by rw [h.2.2.1 132 40 (by omega) (by omega)]; exact hm.1, hm.2.1, fun i hi => by rw [h.2.2.1 155 i (by omega) (by omega)]; exact hm.2.2.1 i hi, hm.2.2.2⟩
theorem Lfr.lt {c : Cf} {m : List Nat} {f : Nat} {M M1 : pm_M} (h : Lfr M M1) (ht : LT c m f M) : LT c m f M1 := fun s hs => by rw [h.2.2.1 156 _ (by omega) (by omega)]; exact ht s hs
theorem Lfr.add (M : pm_M) (n : Nat) (v w : Int32) : Lfr M (sI (sI M 147 n v) 132 29 w) := ⟨rfl, fun _ _ => rfl, fun k i z1 z2 => by rw [gI_nn z1, gI_ne (Or.inl z2)], fun _ _ => rfl⟩
section RMG
variable {a : As} {M : pm_M} {c : Cf} {m : List Nat}
theorem m_isNext (d : Nat) (hM : pm_ok M) (hw : cf_wf c) (hc : MC c M) (hm : MM m M) {ws : List Nat} (hL : Lk M ws) {f v k : Nat} {s : St} (hf : ws.length + (f + 1) = 20) (hT : LT c m f M) (hs : wS c s) (hk : k < cf_n c) (hv : v < 1000) : pm_call (d + 3) 234 [.ref 132, .int (nI (si s)), .int (nI k), .int (nI v)] M (some (.int (if gk (LF c m f) c m s k = some v then 1 else 0))) M := by
  refine en_234 (Nat.le_of_ble_eq_true rfl) ?_
  have hl := hm.2.1
  refine st_ald rfl rfl ?_
  refine st_ild rfl rfl ?_
  refine st_ild rfl rfl ?_
  refine st_cav (As := [_, _]) rfl rfl rfl (by first | exact tT hM rfl | assumption | exact rw_T hM (by assumption) | exact rw_A hM (by assumption)) (Nat.le_of_ble_eq_true rfl) (m_stateBehind d hM hw hc hm hs hk) ?_
  refine st_ist rfl ?_
  -- at 8: stop
  cases hx : nx c m s k with
  | none =>
    refine st_ild rfl rfl ?_
    refine st_k rfl ?_
    refine st_b2 rfl (fun _ => ?_) (fun zq => absurd (rfl) zq)
    refine st_k rfl ?_
    -- at 61: op_zret
    exact st_zret rfl (by decide) ⟨by rw [if_neg (fun z => by rw [gk_n0 hx] at z; cases z)], rfl⟩
  | some s' =>
    obtain ⟨hw', hw2⟩ := nx_wS hw hl hk hs hx
    obtain ⟨d1, d2, d3, d4, d5⟩ := si_d hw hw'
    have htk := tk_le hw (last := s.2.1) hk
    have hne : ¬ n9 (some s') = -9 := fun z => absurd (show nI (si s') < 0 by rw [show nI (si s') = -9 from z]; decide) (nI_pos (by omega))
    have e5 : 182 * (nI ws.length + 1) + nI (si s') = nI (182 * (20 - f) + si s') := by show nI 182 * (nI ws.length + nI 1) + nI _ = _; rw [nI_add, pk_mul, nI_add, show ws.length + 1 = 20 - f by omega]
    have hin2 : vp_in (nI (182 * (20 - f) + si s')) 3822 := vp_in_nI (by omega) (by decide)
    have hnr := nr_lt (x := LF c m f s') (fun v hv => by have := LF_lt hw (m := m) (s := s') (f := f) (by omega) v hv; omega)
    have key : gk (LF c m f) c m s k = some v ↔ tk c s.2.1 k + nr (LF c m f s') = v := by
      rw [gk_x hx]
      cases hy : LF c m f s' with
      | none =>
        constructor
        · intro z; cases z
        · intro z
          have z' : tk c s.2.1 k + 100000 = v := z
          omega
      | some w =>
        show some (tk c s.2.1 k + w) = some v ↔ tk c s.2.1 k + w = v
        constructor
        · intro z; injection z
        · intro z; rw [z]
    refine st_ild rfl rfl ?_
    refine st_k rfl ?_
    refine st_b2 rfl (fun zq => absurd zq (hne)) (fun _ => ?_)
    refine st_ald rfl rfl ?_
    refine st_gI rfl (by first | exact tT hM rfl | assumption | exact rw_T hM (by assumption) | exact rw_A hM (by assumption)) ?_
    -- at 19: stop
    refine wp_e hL.1 ?_
    refine st_k rfl ?_
    refine st_b2 rfl (fun zq => absurd zq (nI_ge (a := ws.length) (b := 20) (by omega) (by decide))) (fun _ => ?_)
    refine st_ald rfl rfl ?_
    refine st_ild rfl rfl ?_
    refine st_call (As := [_]) rfl rfl rfl (Nat.le_of_ble_eq_true rfl) (m_lastOf (d + 1) hw hs) ?_
    refine st_ild rfl rfl ?_
    refine st_cav (As := [_, _]) rfl rfl rfl (by first | exact tT hM rfl | assumption | exact rw_T hM (by assumption) | exact rw_A hM (by assumption)) (Nat.le_of_ble_eq_true rfl) (m_takeOf d hM hw hc hs.2.1 hk) ?_
    refine st_ald rfl rfl ?_
    refine st_gR' rfl (by first | exact tT hM rfl | assumption | exact rw_T hM (by assumption) | exact rw_A hM (by assumption)) (by first | exact rR hM rfl rfl | assumption | exact rw_R hM (by assumption)) ?_
    refine st_k rfl ?_
    refine st_ald rfl rfl ?_
    refine st_gI rfl (by first | exact tT hM rfl | assumption | exact rw_T hM (by assumption) | exact rw_A hM (by assumption)) ?_
    -- at 44: stop
    refine wp_e hL.1 ?_
    refine st_k rfl ?_
    refine st_ib rfl ?_
    refine st_ib rfl ?_
    refine st_ild rfl rfl ?_
    refine st_ib rfl ?_
    -- at 50: stop
    refine wp_e e5 ?_
    refine st_iald rfl (tT hM rfl) (hin2) ?_
    -- at 51: stop
    refine wp_e (y := nI (nr (LF c m f s'))) (by rw [nI_clamp (by omega)]; exact hT s' hw') ?_
    refine st_ib rfl ?_
    -- at 52: stop
    refine wp_e (nI_add _ _) ?_
    by_cases g : tk c s.2.1 k + nr (LF c m f s') = v
    · refine st_ild rfl rfl ?_
      refine st_b2 rfl (fun zq => absurd zq ((fun z => z (by rw [g])))) (fun _ => ?_)
      refine st_k rfl ?_
      refine st_go rfl ?_
      -- at 61: op_zret
      exact st_zret rfl (by decide) ⟨by rw [if_pos (key.mpr g)], rfl⟩
    · refine st_ild rfl rfl ?_
      refine st_b2 rfl (fun _ => ?_) (fun zq => absurd ((fun z => g ((nI_eq (by omega) (by omega)).mp z))) zq)
      refine st_k rfl ?_
      -- at 61: op_zret
      exact st_zret rfl (by decide) ⟨by rw [if_neg (fun z => g (key.mp z))], rfl⟩
theorem m_goOnLeast (d : Nat) (hM : pm_ok M) (hw : cf_wf c) (hc : MC c M) (hm : MM m M) {ws0 : List Nat} (hL0 : Lk M ws0) {f0 v0 : Nat} {s0 : St} (hf0 : ws0.length + f0 = 20) (hT : ∀ f, f ≤ 20 → LT c m f M) (hs0 : wS c s0) (hv0 : LF c m f0 s0 = some v0) : ∃ M', pm_call (d + 4) 233 [.ref 132, .int (nI (si s0))] M none M' ∧ Lk M' (ws0 ++ sp c m f0 s0) ∧ Lfr M M' := by
  have hl := hm.2.1
  have loop : ∀ f ws s v y4 M1, ws.length + f = 20 → Lk M1 ws → Lfr M M1 → wS c s → LF c m f s = some v → ws0 ++ sp c m f0 s0 = ws ++ sp c m f s → pm_WP (pm_call (d + 3)) tb_233 (fun r M' => r = none ∧ Lk M' (ws0 ++ sp c m f0 s0) ∧ Lfr M M') 18 [some (.ref 132), some (.int (nI (si s0))), some (.int (nI (si s))), some (.int (nI v)), y4] [] M1 := by
    intro f
    induction f with
    | zero =>
      intro ws s v y4 M1 hf hL hfr hs hv he
      have hM1 := hfr.ok hM
      have hc1 := hc.sc hfr.sc
      have hm1 := hfr.mm hm
      have hv1 : sde c m s = some v := hv
      have hsn : sdn c m s = true := by
        unfold sde at hv1
        split at hv1
        · assumption
        · cases hv1
      have hem : em c s.2.1 = v := by
        unfold sde at hv1
        rw [if_pos hsn] at hv1
        injection hv1
      refine st_ald rfl rfl ?_
      refine st_ild rfl rfl ?_
      refine st_cav (As := [_]) rfl rfl rfl (by first | exact tT hM1 rfl | assumption | exact rw_T hM1 (by assumption) | exact rw_A hM1 (by assumption)) (Nat.le_of_ble_eq_true rfl) (m_isSaid (d + 2) hM1 hw hc1 hm1 hs) ?_
      refine st_b1 rfl (fun zq => absurd zq (b01_t hsn)) (fun _ => ?_)
      refine st_ald rfl rfl ?_
      refine st_ild rfl rfl ?_
      refine st_call (As := [_]) rfl rfl rfl (Nat.le_of_ble_eq_true rfl) (m_lastOf (d + 2) hw hs) ?_
      refine st_cav (As := [_]) rfl rfl rfl (by first | exact tT hM1 rfl | assumption | exact rw_T hM1 (by assumption) | exact rw_A hM1 (by assumption)) (Nat.le_of_ble_eq_true rfl) (m_endOf (d + 2) hM1 hw hc1 hs.2.1) ?_
      refine st_ild rfl rfl ?_
      refine st_b2 rfl (fun _ => ?_) (fun zq => absurd ((by rw [hem])) zq)
      -- at 103: op_vret
      exact st_vret rfl ⟨rfl, by rw [he]; show Lk M1 (ws ++ []); rw [List.append_nil]; exact hL, hfr⟩
    | succ f ih =>
      intro ws s v y4 M1 hf hL hfr hs hv he
      have hM1 := hfr.ok hM
      have hc1 := hc.sc hfr.sc
      have hm1 := hfr.mm hm
      have hvlt := LF_lt hw (m := m) (s := s) (f := f + 1) (by omega) v hv
      by_cases g : sde c m s = LF c m (f + 1) s
      · have hv1 : sde c m s = some v := by rw [g]; exact hv
        have hsn : sdn c m s = true := by
          unfold sde at hv1
          split at hv1
          · assumption
          · cases hv1
        have hem : em c s.2.1 = v := by
          unfold sde at hv1
          rw [if_pos hsn] at hv1
          injection hv1
        refine st_ald rfl rfl ?_
        refine st_ild rfl rfl ?_
        refine st_cav (As := [_]) rfl rfl rfl (by first | exact tT hM1 rfl | assumption | exact rw_T hM1 (by assumption) | exact rw_A hM1 (by assumption)) (Nat.le_of_ble_eq_true rfl) (m_isSaid (d + 2) hM1 hw hc1 hm1 hs) ?_
        refine st_b1 rfl (fun zq => absurd zq (b01_t hsn)) (fun _ => ?_)
        refine st_ald rfl rfl ?_
        refine st_ild rfl rfl ?_
        refine st_call (As := [_]) rfl rfl rfl (Nat.le_of_ble_eq_true rfl) (m_lastOf (d + 2) hw hs) ?_
        refine st_cav (As := [_]) rfl rfl rfl (by first | exact tT hM1 rfl | assumption | exact rw_T hM1 (by assumption) | exact rw_A hM1 (by assumption)) (Nat.le_of_ble_eq_true rfl) (m_endOf (d + 2) hM1 hw hc1 hs.2.1) ?_
        refine st_ild rfl rfl ?_
        refine st_b2 rfl (fun _ => ?_) (fun zq => absurd ((by rw [hem])) zq)
        -- at 103: op_vret
        exact st_vret rfl ⟨rfl, by rw [he, sp_0 g, List.append_nil]; exact hL, hfr⟩
      · obtain ⟨k1, k2, k3⟩ := kf1_ok hv g
        obtain ⟨s', w, e1, e2, e3, e4⟩ := sp_s hv g
        obtain ⟨hw', hw2⟩ := nx_wS hw hl k1 hs e1
        have hem := em_le c s.2.1
        have htk := tk_le hw (last := s.2.1) k1
        have hin3 : vp_in (nI ws.length) 24 := vp_in_nI (by omega) (by decide)
        have hsb := m_stateBehind (M := sI (sI M1 147 ws.length (nI (kf1 c m f s))) 132 29 (nI (ws.length + 1))) (d + 1) hM1 hw (hc1.sc (Lfr.add _ _ _ _).sc) ((Lfr.add _ _ _ _).mm hm1) hs k1
        rw [e1] at hsb
        have go : ∀ y4, pm_WP (pm_call (d + 3)) tb_233 (fun r M' => r = none ∧ Lk M' (ws0 ++ sp c m f0 s0) ∧ Lfr M M') 38 [some (.ref 132), some (.int (nI (si s0))), some (.int (nI (si s))), some (.int (nI v)), y4] [] M1 := by
          intro y4
          refine st_k rfl ?_
          refine st_ist rfl ?_
          -- at 41: stop
          refine wp_for (kf1 c m f s) (fun k L M2 => ∃ x, x = nI k ∧ L = [some (.ref 132), some (.int (nI (si s0))), some (.int (nI (si s))), some (.int (nI v)), some (.int x)] ∧ M2 = M1) ?_ ?_ 0 _ _ (Nat.zero_le _) ⟨_, rfl, rfl, rfl⟩
          · rintro k L M2 hk ⟨x, rfl, rfl, rfl⟩ ih2
            have hnx := m_isNext d hM1 hw hc1 hm1 hL (f := f) (v := v) (k := k) (s := s) hf (hfr.lt (hT f (by omega))) hs (by omega) hvlt
            refine st_ald rfl rfl ?_
            refine st_ild rfl rfl ?_
            refine st_ild rfl rfl ?_
            refine st_ild rfl rfl ?_
            refine st_cav (As := [_, _, _]) rfl rfl rfl (by first | exact tT hM1 rfl | assumption | exact rw_T hM1 (by assumption) | exact rw_A hM1 (by assumption)) (Nat.le_of_ble_eq_true rfl) (hnx) ?_
            refine st_b1 rfl (fun zq => absurd zq ((fun z => z (b01_f (k3 k hk))))) (fun _ => ?_)
            refine st_inc rfl rfl ?_
            refine st_go rfl ?_
            -- at 41: stop
            exact ih2 _ _ ⟨_, nI_1 k, rfl, rfl⟩
          · rintro L M2 ⟨x, rfl, rfl, rfl⟩
            have hnx := m_isNext d hM1 hw hc1 hm1 hL (f := f) (v := v) (k := kf1 c m f s) (s := s) hf (hfr.lt (hT f (by omega))) hs k1 hvlt
            refine st_ald rfl rfl ?_
            refine st_ild rfl rfl ?_
            refine st_ild rfl rfl ?_
            refine st_ild rfl rfl ?_
            refine st_cav (As := [_, _, _]) rfl rfl rfl (by first | exact tT hM1 rfl | assumption | exact rw_T hM1 (by assumption) | exact rw_A hM1 (by assumption)) (Nat.le_of_ble_eq_true rfl) (hnx) ?_
            refine st_b1 rfl (fun _ => ?_) (fun zq => absurd (b01_t k2) zq)
            refine st_ild rfl rfl ?_
            refine st_ald rfl rfl ?_
            refine st_ild rfl rfl ?_
            refine st_call (As := [_]) rfl rfl rfl (Nat.le_of_ble_eq_true rfl) (m_lastOf (d + 2) hw hs) ?_
            refine st_ild rfl rfl ?_
            refine st_cav (As := [_, _]) rfl rfl rfl (by first | exact tT hM1 rfl | assumption | exact rw_T hM1 (by assumption) | exact rw_A hM1 (by assumption)) (Nat.le_of_ble_eq_true rfl) (m_takeOf (d + 1) hM1 hw hc1 hs.2.1 k1) ?_
            refine st_ib rfl ?_
            -- at 70: stop
            refine wp_e (y := nI w) (by rw [e3, pk_sub (by omega), Nat.add_sub_cancel_left]) ?_
            refine st_ist rfl ?_
            refine st_ald rfl rfl ?_
            refine st_gR' rfl (by first | exact tT hM1 rfl | assumption | exact rw_T hM1 (by assumption) | exact rw_A hM1 (by assumption)) (by first | exact rR hM1 rfl rfl | assumption | exact rw_R hM1 (by assumption)) ?_
            refine st_ald rfl rfl ?_
            refine st_gI rfl (by first | exact tT hM1 rfl | assumption | exact rw_T hM1 (by assumption) | exact rw_A hM1 (by assumption)) ?_
            -- at 79: stop
            refine wp_e hL.1 ?_
            refine st_ild rfl rfl ?_
            refine st_iast rfl (tT hM1 rfl) (hin3) ?_
            refine st_ald rfl rfl ?_
            refine st_dup rfl rfl ?_
            refine st_gI rfl (by first | exact tT hM1 rfl | assumption | exact rw_T hM1 (by assumption) | exact rw_A hM1 (by assumption)) ?_
            -- at 87: stop
            rw [nI_clamp (show ws.length < 2 ^ 31 by omega)]
            refine wp_e (y := nI ws.length) (by rw [gI_ne (Or.inl (by decide))]; exact hL.1) ?_
            refine st_k rfl ?_
            refine st_ib rfl ?_
            -- at 89: stop
            rw [nI_1]
            refine st_pI rfl (by first | exact tT hM1 rfl | assumption | exact rw_T hM1 (by assumption) | exact rw_A hM1 (by assumption)) ?_
            refine st_ald rfl rfl ?_
            refine st_ild rfl rfl ?_
            refine st_ild rfl rfl ?_
            refine st_cav (As := [_, _]) rfl rfl rfl (by first | exact tT hM1 rfl | assumption | exact rw_T hM1 (by assumption) | exact rw_A hM1 (by assumption)) (Nat.le_of_ble_eq_true rfl) (hsb) ?_
            refine st_ist rfl ?_
            refine st_go rfl ?_
            -- at 18: stop
            exact ih (ws ++ [kf1 c m f s]) s' w _ _ (by simp; omega) (lk_add hL (by omega)) (hfr.tr (Lfr.add _ _ _ _)) hw' e2 (by rw [he, e4]; simp)
        by_cases gs : sdn c m s = true
        · have hne : ¬ nI (em c s.2.1) = nI v := fun z => g (by
            have := (nI_eq (by omega) (by omega)).mp z
            rw [hv]
            unfold sde
            rw [if_pos gs, this])
          refine st_ald rfl rfl ?_
          refine st_ild rfl rfl ?_
          refine st_cav (As := [_]) rfl rfl rfl (by first | exact tT hM1 rfl | assumption | exact rw_T hM1 (by assumption) | exact rw_A hM1 (by assumption)) (Nat.le_of_ble_eq_true rfl) (m_isSaid (d + 2) hM1 hw hc1 hm1 hs) ?_
          refine st_b1 rfl (fun zq => absurd zq (b01_t gs)) (fun _ => ?_)
          refine st_ald rfl rfl ?_
          refine st_ild rfl rfl ?_
          refine st_call (As := [_]) rfl rfl rfl (Nat.le_of_ble_eq_true rfl) (m_lastOf (d + 2) hw hs) ?_
          refine st_cav (As := [_]) rfl rfl rfl (by first | exact tT hM1 rfl | assumption | exact rw_T hM1 (by assumption) | exact rw_A hM1 (by assumption)) (Nat.le_of_ble_eq_true rfl) (m_endOf (d + 2) hM1 hw hc1 hs.2.1) ?_
          refine st_ild rfl rfl ?_
          refine st_b2 rfl (fun zq => absurd zq (hne)) (fun _ => ?_)
          -- at 38: stop
          exact go _
        · refine st_ald rfl rfl ?_
          refine st_ild rfl rfl ?_
          refine st_cav (As := [_]) rfl rfl rfl (by first | exact tT hM1 rfl | assumption | exact rw_T hM1 (by assumption) | exact rw_A hM1 (by assumption)) (Nat.le_of_ble_eq_true rfl) (m_isSaid (d + 2) hM1 hw hc1 hm1 hs) ?_
          refine st_b1 rfl (fun _ => ?_) (fun zq => absurd (b01_f gs) zq)
          -- at 38: stop
          exact go _
  have e5 : 182 * nI ws0.length + nI (si s0) = nI (182 * (20 - f0) + si s0) := by show nI 182 * nI ws0.length + nI _ = _; rw [pk_mul, nI_add, show ws0.length = 20 - f0 by omega]
  have d4 := (si_d hw hs0).2.2.2.1
  have hin2 : vp_in (nI (182 * (20 - f0) + si s0)) 3822 := vp_in_nI (by omega) (by decide)
  obtain ⟨r, M', hcc, hr, h5, h6⟩ := eq_233 (d := d + 3) (A := [.ref 132, .int (nI (si s0))]) (M := M) (Q := fun r M' => r = none ∧ Lk M' (ws0 ++ sp c m f0 s0) ∧ Lfr M M') (Nat.le_of_ble_eq_true rfl) (by
    refine st_ild rfl rfl ?_
    refine st_ist rfl ?_
    refine st_ald rfl rfl ?_
    refine st_gR' rfl (by first | exact tT hM rfl | assumption | exact rw_T hM (by assumption) | exact rw_A hM (by assumption)) (by first | exact rR hM rfl rfl | assumption | exact rw_R hM (by assumption)) ?_
    refine st_k rfl ?_
    refine st_ald rfl rfl ?_
    refine st_gI rfl (by first | exact tT hM rfl | assumption | exact rw_T hM (by assumption) | exact rw_A hM (by assumption)) ?_
    -- at 13: stop
    refine wp_e hL0.1 ?_
    refine st_ib rfl ?_
    refine st_ild rfl rfl ?_
    refine st_ib rfl ?_
    -- at 16: stop
    refine wp_e e5 ?_
    refine st_iald rfl (tT hM rfl) (hin2) ?_
    -- at 17: stop
    refine wp_e (y := nI v0) (by rw [nI_clamp (by omega), hT f0 (by omega) s0 hs0, hv0]; rfl) ?_
    refine st_ist rfl ?_
    -- at 18: stop
    exact loop f0 ws0 s0 v0 _ M hf0 hL0 (Lfr.rf M) hs0 hv0 rfl)
  subst hr
  exact ⟨M', hcc, h5, h6⟩
/-- the state at the beginning -/
abbrev s00 : St := (0, 6, false)
theorem wS00 (c : Cf) : wS c s00 := ⟨Nat.zero_le _, Or.inr rfl, fun z => (by cases z), fun _ => rfl⟩
theorem si00 : si s00 = 0 := rfl
/-- what the shortest ROPE TAKES; NONE -/
def shn (c : Cf) (m : List Nat) : Int32 := if nr (LF c m 20 s00) ≤ cf_rm c then nI (nr (LF c m 20 s00)) else -9
theorem m_shortestNow (d : Nat) (hM : pm_ok M) (hw : cf_wf c) (hc : MC c M) (hm : MM m M) : ∃ M', pm_call (d + 4) 235 [.ref 132] M (some (.int (shn c m))) M' ∧ pm_S (fun k => k = 156) M M' ∧ ∀ f, f ≤ 20 → LT c m f M' := by
  obtain ⟨M1, hc1, s1, t1⟩ := m_layLeast d hM hw hc hm
  refine ⟨M1, en_235 (Nat.le_of_ble_eq_true rfl) ?_, s1, t1⟩
  have hM1 := s1.ok hM
  have hcc : MC c M1 := hc.moved (fun i _ => s1.i (by decide) i) (fun k hk i => s1.i (by show ¬ k = 156; omega) i)
  have hrm := rm99 hw
  have e0 : gI M1 156 0 = nI (nr (LF c m 20 s00)) := t1 20 (Nat.le_refl _) s00 (wS00 c)
  have hnr := nr_lt (x := LF c m 20 s00) (fun v hv => by have := LF_lt hw (m := m) (s := s00) (f := 20) (by omega) v hv; omega)
  have hin : vp_in (0 : Int32) 3822 := vp_in_nI (n := 0) (by decide) (by decide)
  refine st_ald rfl rfl ?_
  refine st_cav (As := []) rfl rfl rfl (by first | exact tT hM rfl | assumption | exact rw_T hM (by assumption) | exact rw_A hM (by assumption)) (Nat.le_of_ble_eq_true rfl) (hc1) ?_
  -- at 4: stop
  refine st_ald rfl rfl ?_
  refine st_gR' rfl (by first | exact tT hM1 rfl | assumption | exact rw_T hM1 (by assumption) | exact rw_A hM1 (by assumption)) (by first | exact rR hM1 rfl rfl | assumption | exact rw_R hM1 (by assumption)) ?_
  refine st_k rfl ?_
  refine st_iald rfl (by first | exact tT hM1 rfl | assumption | exact rw_T hM1 (by assumption) | exact rw_A hM1 (by assumption)) (by first | decide | assumption | exact vp_in_nI (by omega) (by decide)) ?_
  -- at 10: stop
  refine wp_e e0 ?_
  by_cases g : nr (LF c m 20 s00) ≤ cf_rm c
  · refine st_ald rfl rfl ?_
    refine st_cav (As := []) rfl rfl rfl (by first | exact tT hM1 rfl | assumption | exact rw_T hM1 (by assumption) | exact rw_A hM1 (by assumption)) (Nat.le_of_ble_eq_true rfl) (m_roomNow (d + 2) hM1 hw hcc) ?_
    refine st_b2 rfl (fun zq => absurd zq (nI_nlt g (by omega))) (fun _ => ?_)
    refine st_ald rfl rfl ?_
    refine st_gR' rfl (by first | exact tT hM1 rfl | assumption | exact rw_T hM1 (by assumption) | exact rw_A hM1 (by assumption)) (by first | exact rR hM1 rfl rfl | assumption | exact rw_R hM1 (by assumption)) ?_
    refine st_k rfl ?_
    refine st_iald rfl (by first | exact tT hM1 rfl | assumption | exact rw_T hM1 (by assumption) | exact rw_A hM1 (by assumption)) (by first | decide | assumption | exact vp_in_nI (by omega) (by decide)) ?_
    -- at 23: stop
    refine wp_e e0 ?_
    refine st_go rfl ?_
    -- at 28: op_iret
    exact st_iret rfl ⟨by unfold shn; rw [if_pos g], rfl⟩
  · refine st_ald rfl rfl ?_
    refine st_cav (As := []) rfl rfl rfl (by first | exact tT hM1 rfl | assumption | exact rw_T hM1 (by assumption) | exact rw_A hM1 (by assumption)) (Nat.le_of_ble_eq_true rfl) (m_roomNow (d + 2) hM1 hw hcc) ?_
    refine st_b2 rfl (fun _ => ?_) (fun zq => absurd (nI_lt (by omega) (by omega)) zq)
    refine st_k rfl ?_
    -- at 28: op_iret
    exact st_iret rfl ⟨by unfold shn; rw [if_neg g], rfl⟩
end RMG

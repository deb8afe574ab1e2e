/-! THE REFERENCE: looking at ropes, laying rows -/
section MOE
variable {M : pm_M} {c : Cf}
theorem nI_p1 {i : Nat} (h : 0 < i) : nI i - 1 = nI (i - 1) := pk_sub (a := i) (b := 1) h
theorem vp_in_lt {i n : Nat} (h : i < n) (hi : i < 2 ^ 31) : vp_in (nI i) n := by
  unfold vp_in
  rw [nI_clamp hi]
  exact fun z => z.elim (fun z => nI_pos hi z) (fun z => by omega)
theorem gI_nn {M : pm_M} {k i k' i' : Nat} {v : Int32} (h : ¬ (k' = k ∧ i' = i)) : gI (sI M k i v) k' i' = gI M k' i' := by rw [gI_sI, if_neg h]
theorem m_isKnot (d : Nat) (hM : pm_ok M) (hw : cf_wf c) (hc : MC c M) (k : Int32) : pm_call (d + 2) 182 [.ref 132, .int k] M (some (.int (if ¬ k < 0 ∧ ¬ nI (cf_n c) - 1 < k then 1 else 0))) M := by
  refine en_182 (Nat.le_of_ble_eq_true rfl) ?_
  refine st_ild rfl rfl ?_
  refine st_k rfl ?_
  refine st_ald rfl rfl ?_
  refine st_gI rfl (by first | exact tT hM rfl | assumption | exact rw_T hM (by assumption) | exact rw_A hM (by assumption)) ?_
  -- at 6: stop
  refine wp_e hc.1.2.2.1 ?_
  refine st_k rfl ?_
  refine st_ib rfl ?_
  refine st_call (As := [_, _, _]) rfl rfl rfl (Nat.le_of_ble_eq_true rfl) (m_in d k 0 _) ?_
  -- at 11: op_zret
  exact st_zret rfl (by split <;> rfl) ⟨rfl, rfl⟩
/-- a KNOT's number, or none -/
theorem k_cs {c : Cf} (hw : cf_wf c) (k : Int32) : (¬ (¬ k < 0 ∧ ¬ nI (cf_n c) ≤ k) ∧ ¬ (¬ k < 0 ∧ ¬ nI (cf_n c) - 1 < k)) ∨ ∃ j : Nat, j < cf_n c ∧ k = nI j ∧ (¬ k < 0 ∧ ¬ nI (cf_n c) ≤ k) ∧ (¬ k < 0 ∧ ¬ nI (cf_n c) - 1 < k) := by
  have hn := hw.1
  rcases pk_ix k (n := cf_n c) (by omega) with h | h | ⟨j, hj, h⟩
  · exact Or.inl ⟨fun q => q.1 h, fun q => q.1 h⟩
  · refine Or.inl ⟨fun q => q.2 h, fun q => q.2 ?_⟩
    have h2 := Int32.le_iff_toInt_le.mp h
    rw [nI_toInt (by omega)] at h2
    apply Int32.lt_iff_toInt_lt.mpr
    have e : (nI (cf_n c) - 1).toInt = (cf_n c : Int) - 1 := pk_sub_toInt (a := cf_n c) (b := 1) (by omega) (by decide)
    omega
  · refine Or.inr ⟨j, hj, h, ?_⟩
    subst h
    refine ⟨⟨nI_pos (by omega), nI_ge hj (by omega)⟩, nI_pos (by omega), ?_⟩
    obtain ⟨n', hn'⟩ : ∃ n', cf_n c = n' + 1 := ⟨cf_n c - 1, by omega⟩
    rw [hn', nI_pred]
    exact nI_nlt (by omega) (by omega)
theorem m_knotTells (d : Nat) (hM : pm_ok M) (hw : cf_wf c) (hc : MC c M) {k : Nat} (hk : k < cf_n c) (what : Int32) : pm_call (d + 3) 189 [.ref 132, .int (nI k), .int what] M (some (.int (nI (kf c k what)))) M := by
  refine en_189 (Nat.le_of_ble_eq_true rfl) ?_
  have hin := in6 hw hk
  have e := cl6 hw hk
  have a := hc.2.1 k hk
  refine st_ild rfl rfl ?_
  refine st_sw rfl ?_
  by_cases g0 : what = 0
  · rw [if_pos g0]
    refine st_ald rfl rfl ?_
    refine st_gR' rfl (by first | exact tT hM rfl | assumption | exact rw_T hM (by assumption) | exact rw_A hM (by assumption)) (by first | exact rR hM rfl rfl | assumption | exact rw_R hM (by assumption)) ?_
    refine st_ild rfl rfl ?_
    refine st_iald rfl (by first | exact tT hM rfl | assumption | exact rw_T hM (by assumption) | exact rw_A hM (by assumption)) (by first | decide | assumption | exact vp_in_nI (by omega) (by decide)) ?_
    -- at 38: op_iret
    exact st_iret rfl ⟨by rw [e, a.1]; unfold kf; rw [if_pos g0], rfl⟩
  rw [if_neg g0]
  by_cases g1 : what = 1
  · rw [if_pos g1]
    refine st_ald rfl rfl ?_
    refine st_gR' rfl (by first | exact tT hM rfl | assumption | exact rw_T hM (by assumption) | exact rw_A hM (by assumption)) (by first | exact rR hM rfl rfl | assumption | exact rw_R hM (by assumption)) ?_
    refine st_ild rfl rfl ?_
    refine st_iald rfl (by first | exact tT hM rfl | assumption | exact rw_T hM (by assumption) | exact rw_A hM (by assumption)) (by first | decide | assumption | exact vp_in_nI (by omega) (by decide)) ?_
    -- at 45: op_iret
    exact st_iret rfl ⟨by rw [e, a.2.1]; unfold kf; rw [if_neg g0, if_pos g1], rfl⟩
  rw [if_neg g1]
  by_cases g2 : what = 2
  · rw [if_pos g2]
    refine st_ald rfl rfl ?_
    refine st_gR' rfl (by first | exact tT hM rfl | assumption | exact rw_T hM (by assumption) | exact rw_A hM (by assumption)) (by first | exact rR hM rfl rfl | assumption | exact rw_R hM (by assumption)) ?_
    refine st_ild rfl rfl ?_
    refine st_iald rfl (by first | exact tT hM rfl | assumption | exact rw_T hM (by assumption) | exact rw_A hM (by assumption)) (by first | decide | assumption | exact vp_in_nI (by omega) (by decide)) ?_
    -- at 52: op_iret
    exact st_iret rfl ⟨by rw [e, a.2.2.1]; unfold kf; rw [if_neg g0, if_neg g1, if_pos g2], rfl⟩
  rw [if_neg g2]
  by_cases g3 : what = 3
  · rw [if_pos g3]
    refine st_ald rfl rfl ?_
    refine st_k rfl ?_
    refine st_ild rfl rfl ?_
    refine st_cav (As := [_, _]) rfl rfl rfl (by first | exact tT hM rfl | assumption | exact rw_T hM (by assumption) | exact rw_A hM (by assumption)) (Nat.le_of_ble_eq_true rfl) (m_takeOf d hM hw hc (last := 6) (Or.inr rfl) hk) ?_
    -- at 59: op_iret
    refine st_iret rfl ⟨?_, rfl⟩
    unfold kf
    rw [if_neg g0, if_neg g1, if_neg g2, if_pos g3]
    unfold tk
    rw [if_neg (fun z => by have := z.1; omega)]
  rw [if_neg g3]
  refine st_ald rfl rfl ?_
  refine st_gR' rfl (by first | exact tT hM rfl | assumption | exact rw_T hM (by assumption) | exact rw_A hM (by assumption)) (by first | exact rR hM rfl rfl | assumption | exact rw_R hM (by assumption)) ?_
  refine st_ild rfl rfl ?_
  refine st_iald rfl (by first | exact tT hM rfl | assumption | exact rw_T hM (by assumption) | exact rw_A hM (by assumption)) (by first | decide | assumption | exact vp_in_nI (by omega) (by decide)) ?_
  -- at 66: op_iret
  exact st_iret rfl ⟨by rw [e, a.2.2.2]; unfold kf; rw [if_neg g0, if_neg g1, if_neg g2, if_neg g3], rfl⟩
theorem m_lookAtRow (d : Nat) (hM : pm_ok M) {r : Nat} (hr : r < 6) {ws : List Nat} (hl : ws.length ≤ 24) (h : MRow M r (some (ws.map nI))) : ∃ M', pm_call (d + 2) 200 [.ref 132, .int (nI r)] M none M' ∧ Lk M' ws ∧ Msc M M' := by
  have hin : vp_in (nI r) 6 := vp_in_nI hr (by decide)
  have e1 : (nI r).toNatClampNeg = r := nI_clamp (by omega)
  have loop : ∀ n i x M1, x = nI i → i + n = ws.length → Msc M M1 → gI M1 132 29 = nI ws.length → (∀ t, t < i → gI M1 147 t = nI (ws.getD t 0)) → pm_WP (pm_call (d + 1)) tb_200 (fun r M' => r = none ∧ Lk M' ws ∧ Msc M M') 12 [some (.ref 132), some (.int (nI r)), some (.int x)] [] M1 := by
    intro n
    induction n with
    | zero =>
      intro i x M1 hx hi hs h29 ha
      subst hx
      have hM1 := hs.ok hM
      have q : gI M1 132 29 ≤ nI i := by rw [h29]; exact nI_le (by omega) (by omega)
      refine st_ild rfl rfl ?_
      refine st_ald rfl rfl ?_
      refine st_gI rfl (by first | exact tT hM1 rfl | assumption | exact rw_T hM1 (by assumption) | exact rw_A hM1 (by assumption)) ?_
      refine st_b2 rfl (fun _ => ?_) (fun zq => absurd (q) zq)
      -- at 38: op_vret
      exact st_vret rfl ⟨rfl, ⟨h29, hl, fun t ht => ha t (by omega)⟩, hs⟩
    | succ n ih =>
      intro i x M1 hx hi hs h29 ha
      subst hx
      have hM1 := hs.ok hM
      have hr1 := h.sc hs
      have q : ¬ gI M1 132 29 ≤ nI i := by rw [h29]; exact nI_ge (by omega) (by omega)
      have hin2 : vp_in (nI i) 24 := vp_in_nI (by omega) (by decide)
      have e4 : (nI i).toNatClampNeg = i := nI_clamp (by omega)
      have hv : gI M1 135 (40 * r + i) = nI (ws.getD i 0) := by rw [hr1.2.2 i (by rw [map_len]; omega), map_getD (by omega)]
      refine st_ild rfl rfl ?_
      refine st_ald rfl rfl ?_
      refine st_gI rfl (by first | exact tT hM1 rfl | assumption | exact rw_T hM1 (by assumption) | exact rw_A hM1 (by assumption)) ?_
      refine st_b2 rfl (fun zq => absurd zq (q)) (fun _ => ?_)
      refine st_ald rfl rfl ?_
      refine st_gR' rfl (by first | exact tT hM1 rfl | assumption | exact rw_T hM1 (by assumption) | exact rw_A hM1 (by assumption)) (by first | exact rR hM1 rfl rfl | assumption | exact rw_R hM1 (by assumption)) ?_
      refine st_ild rfl rfl ?_
      refine st_ald rfl rfl ?_
      refine st_ild rfl rfl ?_
      refine st_ild rfl rfl ?_
      refine st_cav (As := [_, _]) rfl rfl rfl (by first | exact tT hM1 rfl | assumption | exact rw_T hM1 (by assumption) | exact rw_A hM1 (by assumption)) (Nat.le_of_ble_eq_true rfl) (m_rowAt d hM1 hr (show i < 40 by omega)) ?_
      -- at 31: stop
      refine wp_e hv ?_
      refine st_iast rfl (by first | exact tT hM1 rfl | assumption | exact rw_T hM1 (by assumption) | exact rw_A hM1 (by assumption)) (by first | decide | assumption | exact vp_in_nI (by omega) (by decide)) ?_
      refine st_inc rfl rfl ?_
      refine st_go rfl ?_
      -- at 12: stop
      rw [e4]
      refine ih (i + 1) _ _ (nI_1 i) (by omega) (hs.sI _ (by omega)) (by rw [gI_ne (Or.inl (by decide))]; exact h29) (fun t ht => ?_)
      by_cases z : t = i
      · subst z; exact gI_same _ _ _ _
      · rw [gI_ne (Or.inr z)]; exact ha t (by omega)
  obtain ⟨rr, M', hc, hr', h5, h6⟩ := eq_200 (d := d + 1) (A := [.ref 132, .int (nI r)]) (M := M) (Q := fun r M' => r = none ∧ Lk M' ws ∧ Msc M M') (Nat.le_of_ble_eq_true rfl) (by
    refine st_ald rfl rfl ?_
    refine st_ald rfl rfl ?_
    refine st_gR' rfl (by first | exact tT hM rfl | assumption | exact rw_T hM (by assumption) | exact rw_A hM (by assumption)) (by first | exact rR hM rfl rfl | assumption | exact rw_R hM (by assumption)) ?_
    refine st_ild rfl rfl ?_
    refine st_iald rfl (by first | exact tT hM rfl | assumption | exact rw_T hM (by assumption) | exact rw_A hM (by assumption)) (by first | decide | assumption | exact vp_in_nI (by omega) (by decide)) ?_
    -- at 7: stop
    refine wp_e (y := nI ws.length) (by rw [e1, h.1, map_len]) ?_
    refine st_pI rfl (by first | exact tT hM rfl | assumption | exact rw_T hM (by assumption) | exact rw_A hM (by assumption)) ?_
    refine st_k rfl ?_
    refine st_ist rfl ?_
    -- at 12: stop
    exact loop ws.length 0 0 _ rfl (by omega) ((Msc.rf M).sI _ (by omega)) (gI_same _ _ _ _) (fun t ht => by omega))
  subst hr'
  exact ⟨M', hc, h5, h6⟩
theorem m_lookAtRope (d : Nat) (hM : pm_ok M) {ws : List Nat} (hl : ws.length ≤ 20) (h : MRop M ws) : ∃ M', pm_call (d + 1) 201 [.ref 132] M none M' ∧ Lk M' ws ∧ Msc M M' := by
  have loop : ∀ n i x M1, x = nI i → i + n = ws.length → Msc M M1 → gI M1 132 29 = nI ws.length → (∀ t, t < i → gI M1 147 t = nI (ws.getD t 0)) → pm_WP (pm_call d) tb_201 (fun r M' => r = none ∧ Lk M' ws ∧ Msc M M') 10 [some (.ref 132), some (.int x)] [] M1 := by
    intro n
    induction n with
    | zero =>
      intro i x M1 hx hi hs h29 ha
      subst hx
      have hM1 := hs.ok hM
      have q : gI M1 132 33 ≤ nI i := by rw [hs.i 132 33 (by omega), h.1]; exact nI_le (by omega) (by omega)
      refine st_ild rfl rfl ?_
      refine st_ald rfl rfl ?_
      refine st_gI rfl (by first | exact tT hM1 rfl | assumption | exact rw_T hM1 (by assumption) | exact rw_A hM1 (by assumption)) ?_
      refine st_b2 rfl (fun _ => ?_) (fun zq => absurd (q) zq)
      -- at 36: op_vret
      exact st_vret rfl ⟨rfl, ⟨h29, by omega, fun t ht => ha t (by omega)⟩, hs⟩
    | succ n ih =>
      intro i x M1 hx hi hs h29 ha
      subst hx
      have hM1 := hs.ok hM
      have q : ¬ gI M1 132 33 ≤ nI i := by rw [hs.i 132 33 (by omega), h.1]; exact nI_ge (by omega) (by omega)
      have hin2 : vp_in (nI i) 24 := vp_in_nI (by omega) (by decide)
      have hin3 : vp_in (nI i) 20 := vp_in_nI (by omega) (by decide)
      have e4 : (nI i).toNatClampNeg = i := nI_clamp (by omega)
      have hv : gI M1 149 (nI i).toNatClampNeg = nI (ws.getD i 0) := by rw [e4, hs.i 149 i (by omega)]; exact h.2 i (by omega)
      refine st_ild rfl rfl ?_
      refine st_ald rfl rfl ?_
      refine st_gI rfl (by first | exact tT hM1 rfl | assumption | exact rw_T hM1 (by assumption) | exact rw_A hM1 (by assumption)) ?_
      refine st_b2 rfl (fun zq => absurd zq (q)) (fun _ => ?_)
      refine st_ald rfl rfl ?_
      refine st_gR' rfl (by first | exact tT hM1 rfl | assumption | exact rw_T hM1 (by assumption) | exact rw_A hM1 (by assumption)) (by first | exact rR hM1 rfl rfl | assumption | exact rw_R hM1 (by assumption)) ?_
      refine st_ild rfl rfl ?_
      refine st_ald rfl rfl ?_
      refine st_gR' rfl (by first | exact tT hM1 rfl | assumption | exact rw_T hM1 (by assumption) | exact rw_A hM1 (by assumption)) (by first | exact rR hM1 rfl rfl | assumption | exact rw_R hM1 (by assumption)) ?_
      refine st_ild rfl rfl ?_
      refine st_iald rfl (by first | exact tT hM1 rfl | assumption | exact rw_T hM1 (by assumption) | exact rw_A hM1 (by assumption)) (by first | decide | assumption | exact vp_in_nI (by omega) (by decide)) ?_
      -- at 29: stop
      refine wp_e hv ?_
      refine st_iast rfl (by first | exact tT hM1 rfl | assumption | exact rw_T hM1 (by assumption) | exact rw_A hM1 (by assumption)) (by first | decide | assumption | exact vp_in_nI (by omega) (by decide)) ?_
      refine st_inc rfl rfl ?_
      refine st_go rfl ?_
      -- at 10: stop
      rw [e4]
      refine ih (i + 1) _ _ (nI_1 i) (by omega) (hs.sI _ (by omega)) (by rw [gI_ne (Or.inl (by decide))]; exact h29) (fun t ht => ?_)
      by_cases z : t = i
      · subst z; exact gI_same _ _ _ _
      · rw [gI_ne (Or.inr z)]; exact ha t (by omega)
  obtain ⟨rr, M', hc, hr', h5, h6⟩ := eq_201 (d := d) (A := [.ref 132]) (M := M) (Q := fun r M' => r = none ∧ Lk M' ws ∧ Msc M M') (Nat.le_of_ble_eq_true rfl) (by
    refine st_ald rfl rfl ?_
    refine st_ald rfl rfl ?_
    refine st_gI rfl (by first | exact tT hM rfl | assumption | exact rw_T hM (by assumption) | exact rw_A hM (by assumption)) ?_
    -- at 5: stop
    refine wp_e h.1 ?_
    refine st_pI rfl (by first | exact tT hM rfl | assumption | exact rw_T hM (by assumption) | exact rw_A hM (by assumption)) ?_
    refine st_k rfl ?_
    refine st_ist rfl ?_
    -- at 10: stop
    exact loop ws.length 0 0 _ rfl (by omega) ((Msc.rf M).sI _ (by omega)) (gI_same _ _ _ _) (fun t ht => by omega))
  subst hr'
  exact ⟨M', hc, h5, h6⟩
/-- a row of the reference has changed, nothing else -/
def Rfr (r : Nat) (M M' : pm_M) : Prop := M'.1 = M.1 ∧ (∀ k i, gR M' k i = gR M k i) ∧ (∀ k i, ¬ (k = 134 ∧ i = r) → ¬ (k = 135 ∧ 40 * r ≤ i ∧ i < 40 * r + 40) → gI M' k i = gI M k i) ∧ ∀ k i, gL M' k i = gL M k i
theorem Rfr.ok {r : Nat} {M M' : pm_M} (h : Rfr r M M') (ho : pm_ok M) : pm_ok M' := ⟨h.1.trans ho.1, fun k f hf => (h.2.1 k f).trans (ho.2 k f hf)⟩
theorem Rfr.fr {r : Nat} {M M' : pm_M} (h : Rfr r M M') : Mfr M M' := fun k hk i => ⟨h.2.2.1 k i (by omega) (by omega), h.2.2.2 k i⟩
theorem IM.lay {a : As} {r : Nat} {x : Option (List Int32)} {M M' : pm_M} (h : IM a M) (hr : Rfr r M M') (hx : MRow M' r x) : IM (sR' a r x) M' := h.row (hr.ok h.1) (fun k i _ z1 z2 => hr.2.2.1 k i z1 z2) (hr.2.2.2 _ _) hx
theorem m_layRow (d : Nat) (hM : pm_ok M) {r k n : Nat} (hr : r < 6) {l : List Int32} (hk : M.1[k]? = some (100, n)) (hk2 : 136 ≤ k) (hln : l.length ≤ n) (hl : l.length ≤ 40) (h : ∀ i, i < l.length → gI M k i = l.getD i 0) : ∃ M', pm_call (d + 1) 172 [.ref 132, .int (nI r), .ref k, .int (nI l.length)] M none M' ∧ MRow M' r (some l) ∧ Rfr r M M' := by
  have hin : vp_in (nI r) 6 := vp_in_nI hr (by decide)
  have e1 : (nI r).toNatClampNeg = r := nI_clamp (by omega)
  have loop : ∀ m i x M1, x = nI i → i + m = 40 → Rfr r M M1 → gI M1 134 r = nI l.length → (∀ t, t < i → gI M1 135 (40 * r + t) = if t < l.length then l.getD t 0 else 0) → pm_WP (pm_call d) tb_172 (fun rr M' => rr = none ∧ MRow M' r (some l) ∧ Rfr r M M') 10 [some (.ref 132), some (.int (nI r)), some (.ref k), some (.int (nI l.length)), some (.int x)] [] M1 := by
    intro m
    induction m with
    | zero =>
      intro i x M1 hx hi hs h29 ha
      subst hx
      have q : (40 : Int32) ≤ nI i := nI_le (a := 40) (b := i) (by omega) (by omega)
      refine st_ild rfl rfl ?_
      refine st_k rfl ?_
      refine st_b2 rfl (fun _ => ?_) (fun zq => absurd (q) zq)
      -- at 49: op_vret
      exact st_vret rfl ⟨rfl, ⟨h29, hl, fun t ht => by rw [ha t (by omega), if_pos ht]⟩, hs⟩
    | succ m ih =>
      intro i x M1 hx hi hs h29 ha
      subst hx
      have hM1 := hs.ok hM
      have q : ¬ (40 : Int32) ≤ nI i := nI_ge (a := i) (b := 40) (by omega) (by decide)
      have e : 40 * nI r + nI i = nI (40 * r + i) := by show nI 40 * nI r + nI i = _; rw [pk_mul, nI_add]
      have hin2 : vp_in (40 * nI r + nI i) 240 := by rw [e]; exact vp_in_nI (by omega) (by decide)
      have e3 : (40 * nI r + nI i).toNatClampNeg = 40 * r + i := by rw [e]; exact nI_clamp (by omega)
      have e4 : (nI i).toNatClampNeg = i := nI_clamp (by omega)
      have fin : ∀ v : Int32, v = (if i < l.length then l.getD i 0 else 0) → pm_WP (pm_call d) tb_172 (fun rr M' => rr = none ∧ MRow M' r (some l) ∧ Rfr r M M') 42 [some (.ref 132), some (.int (nI r)), some (.ref k), some (.int (nI l.length)), some (.int (nI i))] [.int v, .int (40 * nI r + nI i), .ref 135] M1 := by
        intro v hv
        refine st_iast rfl (by first | exact tT hM1 rfl | assumption | exact rw_T hM1 (by assumption) | exact rw_A hM1 (by assumption)) (by first | decide | assumption | exact vp_in_nI (by omega) (by decide)) ?_
        refine st_inc rfl rfl ?_
        refine st_go rfl ?_
        -- at 10: stop
        rw [e3]
        refine ih (i + 1) _ _ (nI_1 i) (by omega) ⟨hs.1, hs.2.1, fun k t z1 z2 => ?_, hs.2.2.2⟩ (by rw [gI_ne (Or.inl (by decide))]; exact h29) (fun t ht => ?_)
        · rw [gI_nn (by omega)]
          exact hs.2.2.1 k t z1 z2
        · by_cases z : t = i
          · subst z; rw [gI_same, hv]
          · rw [gI_ne (Or.inr (by omega))]; exact ha t (by omega)
      refine st_ild rfl rfl ?_
      refine st_k rfl ?_
      refine st_b2 rfl (fun zq => absurd zq (q)) (fun _ => ?_)
      refine st_ald rfl rfl ?_
      refine st_gR' rfl (by first | exact tT hM1 rfl | assumption | exact rw_T hM1 (by assumption) | exact rw_A hM1 (by assumption)) (by first | exact rR hM1 rfl rfl | assumption | exact rw_R hM1 (by assumption)) ?_
      refine st_k rfl ?_
      refine st_ild rfl rfl ?_
      refine st_ib rfl ?_
      refine st_ild rfl rfl ?_
      refine st_ib rfl ?_
      refine st_ild rfl rfl ?_
      refine st_ild rfl rfl ?_
      refine st_b2 rfl (fun hb => ?_) (fun hb => ?_)
      -- at 31: split 41 34
      · have hb2 := (nI_leI (by omega) (by omega)).mp hb
        refine st_k rfl ?_
        -- at 42: stop
        exact fin 0 (by rw [if_neg (by omega)])
      · have hb2 : i < l.length := Nat.not_le.mp (fun z => hb ((nI_leI (by omega) (by omega)).mpr z))
        have hk1 : M1.1[k]? = some (100, n) := by rw [hs.1]; exact hk
        have hin3 : vp_in (nI i) n := vp_in_lt (by omega) (by omega)
        refine st_ald rfl rfl ?_
        refine st_ild rfl rfl ?_
        refine st_iald rfl (hk1) (hin3) ?_
        refine st_go rfl ?_
        -- at 42: stop
        refine fin _ ?_
        rw [e4, if_pos hb2, hs.2.2.1 k i (by omega) (by omega), h i hb2]
  obtain ⟨rr, M', hc, hr', h5, h6⟩ := eq_172 (d := d) (A := [.ref 132, .int (nI r), .ref k, .int (nI l.length)]) (M := M) (Q := fun rr M' => rr = none ∧ MRow M' r (some l) ∧ Rfr r M M') (Nat.le_of_ble_eq_true rfl) (by
    refine st_ald rfl rfl ?_
    refine st_gR' rfl (by first | exact tT hM rfl | assumption | exact rw_T hM (by assumption) | exact rw_A hM (by assumption)) (by first | exact rR hM rfl rfl | assumption | exact rw_R hM (by assumption)) ?_
    refine st_ild rfl rfl ?_
    refine st_ild rfl rfl ?_
    refine st_iast rfl (by first | exact tT hM rfl | assumption | exact rw_T hM (by assumption) | exact rw_A hM (by assumption)) (by first | decide | assumption | exact vp_in_nI (by omega) (by decide)) ?_
    refine st_k rfl ?_
    refine st_ist rfl ?_
    -- at 10: stop
    rw [e1]
    exact loop 40 0 0 _ rfl (by omega) ⟨rfl, fun _ _ => rfl, fun k i z1 _ => gI_nn z1, fun _ _ => rfl⟩ (gI_same _ _ _ _) (fun t ht => by omega))
  subst hr'
  exact ⟨M', hc, h5, h6⟩
theorem m_lookTakes (d : Nat) (hM : pm_ok M) (hw : cf_wf c) (hc : MC c M) {ws : List Nat} (hk : kn c ws) (h : Lk M ws) : pm_call (d + 3) 196 [.ref 132] M (some (.int (nI (ms c 6 ws)))) M := by
  refine en_196 (Nat.le_of_ble_eq_true rfl) ?_
  have hl := h.2.1
  have hms := ms_le hw ws 6 hk
  have loop : ∀ n i x last y s, x = nI i → y = nI s → i + n = ws.length → lst c last → ((i = 0 ∧ last = 6) ∨ (0 < i ∧ last = ws.getD (i - 1) 0)) → s + ms c last (ws.drop i) = ms c 6 ws → pm_WP (pm_call (d + 2)) tb_196 (fun r0 M1 => r0 = some (.int (nI (ms c 6 ws))) ∧ M1 = M) 4 [some (.ref 132), some (.int y), some (.int x)] [] M := by
    intro n
    induction n with
    | zero =>
      intro i x last y s hx hy hi hlst hlast ha
      subst hx; subst hy
      have q : gI M 132 29 ≤ nI i := by rw [h.1]; exact nI_le (by omega) (by omega)
      have fin : pm_WP (pm_call (d + 2)) tb_196 (fun r0 M1 => r0 = some (.int (nI (ms c 6 ws))) ∧ M1 = M) 71 [some (.ref 132), some (.int (nI s)), some (.int (nI i))] [.int (l32 last), .ref 132, .int (nI s)] M := by
        refine st_cav (As := [_]) rfl rfl rfl (by first | exact tT hM rfl | assumption | exact rw_T hM (by assumption) | exact rw_A hM (by assumption)) (Nat.le_of_ble_eq_true rfl) (m_endOf (d + 1) hM hw hc hlst) ?_
        refine st_ib rfl ?_
        -- at 75: op_iret
        refine st_iret rfl ⟨?_, rfl⟩
        rw [nI_add, ← ha, List.drop_eq_nil_of_le (by omega)]
        rfl
      refine st_ild rfl rfl ?_
      refine st_ald rfl rfl ?_
      refine st_gI rfl (by first | exact tT hM rfl | assumption | exact rw_T hM (by assumption) | exact rw_A hM (by assumption)) ?_
      refine st_b2 rfl (fun _ => ?_) (fun zq => absurd (q) zq)
      refine st_ild rfl rfl ?_
      refine st_ald rfl rfl ?_
      refine st_ald rfl rfl ?_
      refine st_gI rfl (by first | exact tT hM rfl | assumption | exact rw_T hM (by assumption) | exact rw_A hM (by assumption)) ?_
      -- at 53: stop
      refine wp_e h.1 ?_
      refine st_b1 rfl (fun hb => ?_) (fun hb => ?_)
      · have h0 : 0 < i := by
          rcases Nat.eq_zero_or_pos i with z | z
          · exact absurd (show nI ws.length = 0 by rw [← show i = ws.length by omega, z]; rfl) hb
          · exact z
        rcases hlast with z | z
        · omega
        have hkl := kn_getD hk (show i - 1 < ws.length by omega)
        have ep : nI ws.length - 1 = nI (i - 1) := by rw [← show i = ws.length by omega]; exact nI_p1 h0
        have hin : vp_in (nI ws.length - 1) 24 := by rw [ep]; exact vp_in_nI (by omega) (by decide)
        refine st_ald rfl rfl ?_
        refine st_gR' rfl (by first | exact tT hM rfl | assumption | exact rw_T hM (by assumption) | exact rw_A hM (by assumption)) (by first | exact rR hM rfl rfl | assumption | exact rw_R hM (by assumption)) ?_
        refine st_ald rfl rfl ?_
        refine st_gI rfl (by first | exact tT hM rfl | assumption | exact rw_T hM (by assumption) | exact rw_A hM (by assumption)) ?_
        -- at 68: stop
        refine wp_e h.1 ?_
        refine st_k rfl ?_
        refine st_ib rfl ?_
        refine st_iald rfl (by first | exact tT hM rfl | assumption | exact rw_T hM (by assumption) | exact rw_A hM (by assumption)) (by first | decide | assumption | exact vp_in_nI (by omega) (by decide)) ?_
        -- at 71: stop
        refine wp_e (y := l32 last) ?_ fin
        rw [ep, nI_clamp (by omega), h.2.2 (i - 1) (by omega), z.2, lk_l32 hw hkl]
      · have hb := Decidable.not_not.mp hb
        have hz : ws.length = 0 := (nI_eq (a := ws.length) (b := 0) (by omega) (by decide)).mp hb
        refine st_k rfl ?_
        refine st_go rfl ?_
        -- at 71: stop
        rcases hlast with z | z
        · rw [z.2] at fin
          exact fin
        · omega
    | succ n ih =>
      intro i x last y s hx hy hi hlst hlast ha
      subst hx; subst hy
      have q : ¬ gI M 132 29 ≤ nI i := by rw [h.1]; exact nI_ge (by omega) (by omega)
      have hin : vp_in (nI i) 24 := vp_in_nI (by omega) (by decide)
      have e4 : (nI i).toNatClampNeg = i := nI_clamp (by omega)
      have hat : gI M 147 (nI i).toNatClampNeg = nI (ws.getD i 0) := by rw [e4]; exact h.2.2 i (by omega)
      have hkk := kn_getD hk (show i < ws.length by omega)
      have fin : pm_WP (pm_call (d + 2)) tb_196 (fun r0 M1 => r0 = some (.int (nI (ms c 6 ws))) ∧ M1 = M) 30 [some (.ref 132), some (.int (nI s)), some (.int (nI i))] [.int (l32 last), .ref 132, .int (nI s)] M := by
        refine st_ald rfl rfl ?_
        refine st_gR' rfl (by first | exact tT hM rfl | assumption | exact rw_T hM (by assumption) | exact rw_A hM (by assumption)) (by first | exact rR hM rfl rfl | assumption | exact rw_R hM (by assumption)) ?_
        refine st_ild rfl rfl ?_
        refine st_iald rfl (by first | exact tT hM rfl | assumption | exact rw_T hM (by assumption) | exact rw_A hM (by assumption)) (by first | decide | assumption | exact vp_in_nI (by omega) (by decide)) ?_
        -- at 36: stop
        refine wp_e hat ?_
        refine st_cav (As := [_, _]) rfl rfl rfl (by first | exact tT hM rfl | assumption | exact rw_T hM (by assumption) | exact rw_A hM (by assumption)) (Nat.le_of_ble_eq_true rfl) (m_takeOf d hM hw hc hlst hkk) ?_
        refine st_ib rfl ?_
        refine st_ist rfl ?_
        refine st_inc rfl rfl ?_
        refine st_go rfl ?_
        -- at 4: stop
        refine ih (i + 1) _ (ws.getD i 0) _ _ (nI_1 i) (nI_add _ _) (by omega) (Or.inl hkk) (Or.inr ⟨by omega, rfl⟩) ?_
        rw [← ha, drop_getD (show i < ws.length by omega)]
        simp only [ms]
        omega
      refine st_ild rfl rfl ?_
      refine st_ald rfl rfl ?_
      refine st_gI rfl (by first | exact tT hM rfl | assumption | exact rw_T hM (by assumption) | exact rw_A hM (by assumption)) ?_
      refine st_b2 rfl (fun zq => absurd zq (q)) (fun _ => ?_)
      refine st_ild rfl rfl ?_
      refine st_ald rfl rfl ?_
      refine st_ild rfl rfl ?_
      refine st_b1 rfl (fun hb => ?_) (fun hb => ?_)
      -- at 15: split 22 18
      · have h0 : 0 < i := by
          rcases Nat.eq_zero_or_pos i with z | z
          · exact absurd (show nI i = 0 by rw [z]; rfl) hb
          · exact z
        rcases hlast with z | z
        · omega
        have hkl := kn_getD hk (show i - 1 < ws.length by omega)
        have ep : nI i - 1 = nI (i - 1) := nI_p1 h0
        have hin2 : vp_in (nI i - 1) 24 := by rw [ep]; exact vp_in_nI (by omega) (by decide)
        refine st_ald rfl rfl ?_
        refine st_gR' rfl (by first | exact tT hM rfl | assumption | exact rw_T hM (by assumption) | exact rw_A hM (by assumption)) (by first | exact rR hM rfl rfl | assumption | exact rw_R hM (by assumption)) ?_
        refine st_ild rfl rfl ?_
        refine st_k rfl ?_
        refine st_ib rfl ?_
        refine st_iald rfl (by first | exact tT hM rfl | assumption | exact rw_T hM (by assumption) | exact rw_A hM (by assumption)) (hin2) ?_
        -- at 30: stop
        refine wp_e (y := l32 last) ?_ fin
        rw [ep, nI_clamp (by omega), h.2.2 (i - 1) (by omega), z.2, lk_l32 hw hkl]
      · have hb := Decidable.not_not.mp hb
        have hz : i = 0 := (nI_eq (a := i) (b := 0) (by omega) (by decide)).mp hb
        refine st_k rfl ?_
        refine st_go rfl ?_
        -- at 30: stop
        rcases hlast with z | z
        · rw [z.2] at fin
          exact fin
        · omega
  refine st_k rfl ?_
  refine st_ist rfl ?_
  refine st_k rfl ?_
  refine st_ist rfl ?_
  -- at 4: stop
  exact loop ws.length 0 0 6 0 0 rfl rfl (by omega) (Or.inr rfl) (Or.inl ⟨rfl, rfl⟩) (by simp)
end MOE

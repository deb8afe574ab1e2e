/-! BOTH ANSWER ALIKE: slips, apart -/
/-- reading number k of the reference -/
def Sl (M : pm_M) (k : Nat) (l : List Nat) : Prop := gI M 164 k = nI l.length ∧ l.length ≤ 24 ∧ ∀ t, t < l.length → gI M 165 (24 * k + t) = nI (l.getD t 0)
/-- all but reading k, and what else is scratch, stays -/
def Slf (k : Nat) (M M' : pm_M) : Prop := Msc M M' ∧ (∀ i, i ≠ k → gI M' 164 i = gI M 164 i) ∧ ∀ i, ¬ (24 * k ≤ i ∧ i < 24 * k + 24) → gI M' 165 i = gI M 165 i
theorem Sl.kept {M M' : pm_M} {k q : Nat} {l : List Nat} (h : Sl M q l) (hs : Slf k M M') (hk : q ≠ k) : Sl M' q l := ⟨by rw [hs.2.1 q hk]; exact h.1, h.2.1, fun t ht => by have := h.2.1; rw [hs.2.2 _ (by omega)]; exact h.2.2 t ht⟩
section SLP
variable {a : As} {M : pm_M} {c : Cf}
theorem m_laySlip (d : Nat) (hM : pm_ok M) (hw : cf_wf c) (hc : MC c M) {r k q : Nat} {x : Int32} (hr : r < 6) (hk42 : k < 42) {ws : List Nat} (hk : kn c ws) (hl : ws.length ≤ 24) (h : MRow M r (some (ws.map nI))) (hx : ∀ i, i < ws.length → (nI i = x ↔ i = q)) : ∃ M', pm_call (d + 3) 248 [.ref 132, .int (nI r), .int x, .int (nI k)] M none M' ∧ Sl M' k (rw' c ws q) ∧ Slf k M M' := by
  have hin : vp_in (nI r) 6 := vp_in_nI hr (by decide)
  have e1 : (nI r).toNatClampNeg = r := nI_clamp (by omega)
  have hink : vp_in (nI k) 42 := vp_in_nI hk42 (by decide)
  have e2 : (nI k).toNatClampNeg = k := nI_clamp (by omega)
  have hrl := rw_len c ws q
  -- the last loop
  have loop2 : ∀ m i y M1, y = nI i → i + m = (rw' c ws q).length → Slf k M M1 → gI M1 164 k = nI (rw' c ws q).length → Sr M1 (rw' c ws q) → (∀ t, t < i → gI M1 165 (24 * k + t) = nI ((rw' c ws q).getD t 0)) → pm_WP (pm_call (d + 2)) tb_248 (fun r0 M' => r0 = none ∧ Sl M' k (rw' c ws q) ∧ Slf k M M') 74 [some (.ref 132), some (.int (nI r)), some (.int x), some (.int (nI k)), some (.int y)] [] M1 := by
    intro m
    induction m with
    | zero =>
      intro i y M1 hy hi hs h4 hsr ht
      subst hy
      have hM1 := hs.1.ok hM
      refine st_ild rfl rfl ?_
      refine st_ald rfl rfl ?_
      refine st_gI rfl (by first | exact tT hM1 rfl | assumption | exact rw_T hM1 (by assumption) | exact rw_A hM1 (by assumption)) ?_
      -- at 80: stop
      refine wp_e hsr.1 ?_
      refine st_b2 rfl (fun _ => ?_) (fun zq => absurd (nI_le (by omega) (by omega)) zq)
      -- at 108: op_vret
      exact st_vret rfl ⟨rfl, ⟨h4, by omega, fun t h => ht t (by omega)⟩, hs⟩
    | succ m ih =>
      intro i y M1 hy hi hs h4 hsr ht
      subst hy
      have hM1 := hs.1.ok hM
      have ex : 24 * nI k + nI i = nI (24 * k + i) := by show nI 24 * nI k + nI i = _; rw [pk_mul, nI_add]
      have hin2 : vp_in (24 * nI k + nI i) 1008 := by rw [ex]; exact vp_in_nI (by omega) (by decide)
      have e3 : (24 * nI k + nI i).toNatClampNeg = 24 * k + i := by rw [ex]; exact nI_clamp (by omega)
      have hin3 : vp_in (nI i) 24 := vp_in_nI (by omega) (by decide)
      refine st_ild rfl rfl ?_
      refine st_ald rfl rfl ?_
      refine st_gI rfl (by first | exact tT hM1 rfl | assumption | exact rw_T hM1 (by assumption) | exact rw_A hM1 (by assumption)) ?_
      -- at 80: stop
      refine wp_e hsr.1 ?_
      refine st_b2 rfl (fun zq => absurd zq (nI_ge (by omega) (by omega))) (fun _ => ?_)
      refine st_ald rfl rfl ?_
      refine st_gR' rfl (by first | exact tT hM1 rfl | assumption | exact rw_T hM1 (by assumption) | exact rw_A hM1 (by assumption)) (by first | exact rR hM1 rfl rfl | assumption | exact rw_R hM1 (by assumption)) ?_
      refine st_k rfl ?_
      refine st_ild rfl rfl ?_
      refine st_ib rfl ?_
      refine st_ild rfl rfl ?_
      refine st_ib rfl ?_
      refine st_ald rfl rfl ?_
      refine st_gR' rfl (by first | exact tT hM1 rfl | assumption | exact rw_T hM1 (by assumption) | exact rw_A hM1 (by assumption)) (by first | exact rR hM1 rfl rfl | assumption | exact rw_R hM1 (by assumption)) ?_
      refine st_ild rfl rfl ?_
      refine st_iald rfl (by first | exact tT hM1 rfl | assumption | exact rw_T hM1 (by assumption) | exact rw_A hM1 (by assumption)) (hin3) ?_
      -- at 101: stop
      refine wp_e (y := nI ((rw' c ws q).getD i 0)) (by rw [nI_clamp (by omega)]; exact hsr.2.2 i (by omega)) ?_
      refine st_iast rfl (tT hM1 rfl) (hin2) ?_
      refine st_inc rfl rfl ?_
      refine st_go rfl ?_
      -- at 74: stop
      rw [e3]
      refine ih (i + 1) _ _ (nI_1 i) (by omega) ⟨hs.1.sI _ (by omega), fun t ht => by rw [gI_ne (Or.inl (by decide))]; exact hs.2.1 t ht, fun t ht => by rw [gI_ne (Or.inr (by omega))]; exact hs.2.2 t ht⟩ (by rw [gI_ne (Or.inl (by decide))]; exact h4) ⟨by rw [gI_ne (Or.inl (by decide))]; exact hsr.1, hsr.2.1, fun t ht => by rw [gI_ne (Or.inl (by decide))]; exact hsr.2.2 t ht⟩ (fun t h => ?_)
      by_cases z : t = i
      · subst z; exact gI_same _ _ _ _
      · rw [gI_ne (Or.inr (by omega))]; exact ht t (by omega)
  -- the first one
  have loop1 : ∀ m i y M1, y = nI i → i + m = ws.length → Slf k M M1 → Lk M1 (ewn ws q i) → pm_WP (pm_call (d + 2)) tb_248 (fun r0 M' => r0 = none ∧ Sl M' k (rw' c ws q) ∧ Slf k M M') 8 [some (.ref 132), some (.int (nI r)), some (.int x), some (.int (nI k)), some (.int y)] [] M1 := by
    intro m
    induction m with
    | zero =>
      intro i y M1 hy hi hs hL
      subst hy
      have hM1 := hs.1.ok hM
      have hr1 := h.sc hs.1
      rw [show i = ws.length by omega] at hL
      obtain ⟨M2, hc2, h5, h6, h7⟩ := m_readLook d hM1 hw (hc.sc hs.1) (ewn_kn hk q _ (Nat.le_refl _)) hL
      have hM2 := h6.ok hM1
      refine st_ild rfl rfl ?_
      refine st_ald rfl rfl ?_
      refine st_gR' rfl (by first | exact tT hM1 rfl | assumption | exact rw_T hM1 (by assumption) | exact rw_A hM1 (by assumption)) (by first | exact rR hM1 rfl rfl | assumption | exact rw_R hM1 (by assumption)) ?_
      refine st_ild rfl rfl ?_
      refine st_iald rfl (by first | exact tT hM1 rfl | assumption | exact rw_T hM1 (by assumption) | exact rw_A hM1 (by assumption)) (hin) ?_
      -- at 16: stop
      refine wp_e (y := nI ws.length) (by rw [e1, hr1.1, map_len]) ?_
      refine st_b2 rfl (fun _ => ?_) (fun zq => absurd (nI_le (by omega) (by omega)) zq)
      refine st_ald rfl rfl ?_
      refine st_cav (As := []) rfl rfl rfl (by first | exact tT hM1 rfl | assumption | exact rw_T hM1 (by assumption) | exact rw_A hM1 (by assumption)) (Nat.le_of_ble_eq_true rfl) (hc2) ?_
      -- at 61: stop
      refine st_ald rfl rfl ?_
      refine st_gR' rfl (by first | exact tT hM2 rfl | assumption | exact rw_T hM2 (by assumption) | exact rw_A hM2 (by assumption)) (by first | exact rR hM2 rfl rfl | assumption | exact rw_R hM2 (by assumption)) ?_
      refine st_ild rfl rfl ?_
      refine st_ald rfl rfl ?_
      refine st_gI rfl (by first | exact tT hM2 rfl | assumption | exact rw_T hM2 (by assumption) | exact rw_A hM2 (by assumption)) ?_
      -- at 70: stop
      refine wp_e h5.1 ?_
      refine st_iast rfl (tT hM2 rfl) (hink) ?_
      refine st_k rfl ?_
      refine st_ist rfl ?_
      -- at 74: stop
      rw [e2]
      refine loop2 (rw' c ws q).length 0 _ _ rfl (by omega) ⟨(hs.1.tr h6).sI _ (by omega), fun t ht => by rw [gI_ne (Or.inr ht), h7 164 t (by omega) (by decide)]; exact hs.2.1 t ht, fun t ht => by rw [gI_ne (Or.inl (by decide)), h7 165 t (by omega) (by decide)]; exact hs.2.2 t ht⟩ (gI_same _ _ _ _) ⟨by rw [gI_ne (Or.inl (by decide))]; exact h5.1, h5.2.1, fun t ht => by rw [gI_ne (Or.inl (by decide))]; exact h5.2.2 t ht⟩ (fun t ht => by omega)
    | succ m ih =>
      intro i y M1 hy hi hs hL
      subst hy
      have hM1 := hs.1.ok hM
      have hr1 := h.sc hs.1
      have hil : i < ws.length := by omega
      have hel := ewn_len ws q i
      refine st_ild rfl rfl ?_
      refine st_ald rfl rfl ?_
      refine st_gR' rfl (by first | exact tT hM1 rfl | assumption | exact rw_T hM1 (by assumption) | exact rw_A hM1 (by assumption)) (by first | exact rR hM1 rfl rfl | assumption | exact rw_R hM1 (by assumption)) ?_
      refine st_ild rfl rfl ?_
      refine st_iald rfl (by first | exact tT hM1 rfl | assumption | exact rw_T hM1 (by assumption) | exact rw_A hM1 (by assumption)) (hin) ?_
      -- at 16: stop
      refine wp_e (y := nI ws.length) (by rw [e1, hr1.1, map_len]) ?_
      refine st_b2 rfl (fun zq => absurd zq (nI_ge (by omega) (by omega))) (fun _ => ?_)
      refine st_ild rfl rfl ?_
      refine st_ild rfl rfl ?_
      refine st_b2 rfl (fun g => ?_) (fun g => ?_)
      -- at 22: split 51 25
      · refine st_inc rfl rfl ?_
        refine st_go rfl ?_
        -- at 8: stop
        exact ih (i + 1) _ _ (nI_1 i) (by omega) hs (by rw [ewn_s, if_pos ((hx i hil).mp g)]; exact hL)
      · have hin2 : vp_in (nI (ewn ws q i).length) 24 := vp_in_nI (by omega) (by decide)
        have hv : gI M1 135 (40 * r + i) = nI (ws.getD i 0) := by rw [hr1.2.2 i (by rw [map_len]; omega), map_getD (by omega)]
        refine st_ald rfl rfl ?_
        refine st_gR' rfl (by first | exact tT hM1 rfl | assumption | exact rw_T hM1 (by assumption) | exact rw_A hM1 (by assumption)) (by first | exact rR hM1 rfl rfl | assumption | exact rw_R hM1 (by assumption)) ?_
        refine st_ald rfl rfl ?_
        refine st_gI rfl (by first | exact tT hM1 rfl | assumption | exact rw_T hM1 (by assumption) | exact rw_A hM1 (by assumption)) ?_
        -- at 33: stop
        refine wp_e hL.1 ?_
        refine st_ald rfl rfl ?_
        refine st_ild rfl rfl ?_
        refine st_ild rfl rfl ?_
        refine st_cav (As := [_, _]) rfl rfl rfl (by first | exact tT hM1 rfl | assumption | exact rw_T hM1 (by assumption) | exact rw_A hM1 (by assumption)) (Nat.le_of_ble_eq_true rfl) (m_rowAt (d + 1) hM1 hr (show i < 40 by omega)) ?_
        -- at 40: stop
        refine wp_e hv ?_
        refine st_iast rfl (tT hM1 rfl) (hin2) ?_
        refine st_ald rfl rfl ?_
        refine st_dup rfl rfl ?_
        refine st_gI rfl (by first | exact tT hM1 rfl | assumption | exact rw_T hM1 (by assumption) | exact rw_A hM1 (by assumption)) ?_
        -- at 46: stop
        rw [nI_clamp (show (ewn ws q i).length < 2 ^ 31 by omega)]
        refine wp_e (y := nI (ewn ws q i).length) (by rw [gI_ne (Or.inl (by decide))]; exact hL.1) ?_
        refine st_k rfl ?_
        refine st_ib rfl ?_
        -- at 48: stop
        rw [nI_1]
        refine st_pI rfl (by first | exact tT hM1 rfl | assumption | exact rw_T hM1 (by assumption) | exact rw_A hM1 (by assumption)) ?_
        refine st_inc rfl rfl ?_
        refine st_go rfl ?_
        -- at 8: stop
        refine ih (i + 1) _ _ (nI_1 i) (by omega) ⟨(hs.1.sI _ (by omega)).sI _ (by omega), fun t ht => by rw [gI_ne (Or.inl (by decide)), gI_ne (Or.inl (by decide))]; exact hs.2.1 t ht, fun t ht => by rw [gI_ne (Or.inl (by decide)), gI_ne (Or.inl (by decide))]; exact hs.2.2 t ht⟩ ?_
        rw [ewn_s, if_neg (fun z => g ((hx i hil).mpr z))]
        exact lk_add hL (by omega)
  obtain ⟨rr, M', hcc, hr', h5, h6⟩ := eq_248 (d := d + 2) (A := [.ref 132, .int (nI r), .int x, .int (nI k)]) (M := M) (Q := fun r0 M' => r0 = none ∧ Sl M' k (rw' c ws q) ∧ Slf k M M') (Nat.le_of_ble_eq_true rfl) (by
    refine st_ald rfl rfl ?_
    refine st_k rfl ?_
    refine st_pI rfl (by first | exact tT hM rfl | assumption | exact rw_T hM (by assumption) | exact rw_A hM (by assumption)) ?_
    refine st_k rfl ?_
    refine st_ist rfl ?_
    -- at 8: stop
    exact loop1 ws.length 0 _ _ rfl (by omega) ⟨(Msc.rf M).sI _ (by omega), fun t ht => gI_ne (Or.inl (by decide)), fun t ht => gI_ne (Or.inl (by decide))⟩ ⟨gI_same _ _ _ _, by simp [ewn], fun t ht => by simp [ewn] at ht⟩)
  subst hr'
  exact ⟨M', hcc, h5, h6⟩
theorem m_areLike (d : Nat) (hM : pm_ok M) {k q : Nat} (hk42 : k < 42) (hq42 : q < 42) {l l2 : List Nat} (h : Sl M k l) (h2 : Sl M q l2) (h9 : ∀ s ∈ l, s ≤ 9) (h29 : ∀ s ∈ l2, s ≤ 9) : pm_call (d + 1) 249 [.ref 132, .int (nI k), .int (nI q)] M (some (.int (if l = l2 then 1 else 0))) M := by
  refine en_249 (Nat.le_of_ble_eq_true rfl) ?_
  have hink : vp_in (nI k) 42 := vp_in_nI hk42 (by decide)
  have hinq : vp_in (nI q) 42 := vp_in_nI hq42 (by decide)
  have ek : gI M 164 (nI k).toNatClampNeg = nI l.length := by rw [nI_clamp (by omega)]; exact h.1
  have eq : gI M 164 (nI q).toNatClampNeg = nI l2.length := by rw [nI_clamp (by omega)]; exact h2.1
  have b1 := h.2.1
  have b2 := h2.2.1
  have g9 : ∀ t, t < l.length → l.getD t 0 ≤ 9 := fun t ht => h9 _ (by rw [List.getD_eq_getElem?_getD, List.getElem?_eq_getElem ht]; exact List.getElem_mem ht)
  have g29 : ∀ t, t < l2.length → l2.getD t 0 ≤ 9 := fun t ht => h29 _ (by rw [List.getD_eq_getElem?_getD, List.getElem?_eq_getElem ht]; exact List.getElem_mem ht)
  have no : ¬ l = l2 → ∀ x, pm_WP (pm_call d) tb_249 (fun r0 M1 => r0 = some (.int (if l = l2 then 1 else 0)) ∧ M1 = M) 24 [some (.ref 132), some (.int (nI k)), some (.int (nI q)), some (.int 0), some (.int x)] [] M := by
    intro hne x
    have e : pm_WP (pm_call d) tb_249 (fun r0 M1 => r0 = some (.int (if l = l2 then 1 else 0)) ∧ M1 = M) 78 [some (.ref 132), some (.int (nI k)), some (.int (nI q)), some (.int 0), some (.int x)] [] M := by
      refine st_ild rfl rfl ?_
      -- at 79: op_zret
      exact st_zret rfl (by decide) ⟨by rw [if_neg hne], rfl⟩
    refine st_ild rfl rfl ?_
    refine st_ald rfl rfl ?_
    refine st_gR' rfl (by first | exact tT hM rfl | assumption | exact rw_T hM (by assumption) | exact rw_A hM (by assumption)) (by first | exact rR hM rfl rfl | assumption | exact rw_R hM (by assumption)) ?_
    refine st_ild rfl rfl ?_
    refine st_iald rfl (by first | exact tT hM rfl | assumption | exact rw_T hM (by assumption) | exact rw_A hM (by assumption)) (by first | decide | assumption | exact vp_in_nI (by omega) (by decide)) ?_
    refine st_b2 rfl (fun g => ?_) (fun g => ?_)
    -- at 32: split 78 35
    · exact e
    · refine st_ild rfl rfl ?_
      refine st_b1 rfl (fun _ => ?_) (fun zq => absurd (rfl) zq)
      -- at 78: stop
      exact e
  have loop : l.length = l2.length → ∀ m i x, x = nI i → i + m = l.length → (∀ t, t < i → l.getD t 0 = l2.getD t 0) → pm_WP (pm_call d) tb_249 (fun r0 M1 => r0 = some (.int (if l = l2 then 1 else 0)) ∧ M1 = M) 24 [some (.ref 132), some (.int (nI k)), some (.int (nI q)), some (.int 1), some (.int x)] [] M := by
    intro hlen m
    induction m with
    | zero =>
      intro i x hx hi ht
      subst hx
      refine st_ild rfl rfl ?_
      refine st_ald rfl rfl ?_
      refine st_gR' rfl (by first | exact tT hM rfl | assumption | exact rw_T hM (by assumption) | exact rw_A hM (by assumption)) (by first | exact rR hM rfl rfl | assumption | exact rw_R hM (by assumption)) ?_
      refine st_ild rfl rfl ?_
      refine st_iald rfl (by first | exact tT hM rfl | assumption | exact rw_T hM (by assumption) | exact rw_A hM (by assumption)) (by first | decide | assumption | exact vp_in_nI (by omega) (by decide)) ?_
      -- at 32: stop
      refine wp_e ek ?_
      refine st_b2 rfl (fun _ => ?_) (fun zq => absurd (nI_le (by omega) (by omega)) zq)
      refine st_ild rfl rfl ?_
      -- at 79: op_zret
      refine st_zret rfl (by decide) ⟨?_, rfl⟩
      rw [if_pos]
      refine List.ext_getElem hlen (fun t t1 t2 => ?_)
      have := ht t (by omega)
      rw [List.getD_eq_getElem?_getD, List.getD_eq_getElem?_getD, List.getElem?_eq_getElem t1, List.getElem?_eq_getElem t2] at this
      exact this
    | succ m ih =>
      intro i x hx hi ht
      subst hx
      have ex : 24 * nI k + nI i = nI (24 * k + i) := by show nI 24 * nI k + nI i = _; rw [pk_mul, nI_add]
      have hin2 : vp_in (24 * nI k + nI i) 1008 := by rw [ex]; exact vp_in_nI (by omega) (by decide)
      have eq2 : 24 * nI q + nI i = nI (24 * q + i) := by show nI 24 * nI q + nI i = _; rw [pk_mul, nI_add]
      have hin3 : vp_in (24 * nI q + nI i) 1008 := by rw [eq2]; exact vp_in_nI (by omega) (by decide)
      have z1 := g9 i (by omega)
      have z2 := g29 i (by omega)
      refine st_ild rfl rfl ?_
      refine st_ald rfl rfl ?_
      refine st_gR' rfl (by first | exact tT hM rfl | assumption | exact rw_T hM (by assumption) | exact rw_A hM (by assumption)) (by first | exact rR hM rfl rfl | assumption | exact rw_R hM (by assumption)) ?_
      refine st_ild rfl rfl ?_
      refine st_iald rfl (by first | exact tT hM rfl | assumption | exact rw_T hM (by assumption) | exact rw_A hM (by assumption)) (by first | decide | assumption | exact vp_in_nI (by omega) (by decide)) ?_
      -- at 32: stop
      refine wp_e ek ?_
      refine st_b2 rfl (fun zq => absurd zq (nI_ge (by omega) (by omega))) (fun _ => ?_)
      refine st_ild rfl rfl ?_
      refine st_b1 rfl (fun zq => absurd zq ((by decide))) (fun _ => ?_)
      refine st_ald rfl rfl ?_
      refine st_gR' rfl (by first | exact tT hM rfl | assumption | exact rw_T hM (by assumption) | exact rw_A hM (by assumption)) (by first | exact rR hM rfl rfl | assumption | exact rw_R hM (by assumption)) ?_
      refine st_k rfl ?_
      refine st_ild rfl rfl ?_
      refine st_ib rfl ?_
      refine st_ild rfl rfl ?_
      refine st_ib rfl ?_
      refine st_iald rfl (tT hM rfl) (hin2) ?_
      -- at 51: stop
      refine wp_e (y := nI (l.getD i 0)) (by rw [ex, nI_clamp (by omega)]; exact h.2.2 i (by omega)) ?_
      refine st_ald rfl rfl ?_
      refine st_gR' rfl (by first | exact tT hM rfl | assumption | exact rw_T hM (by assumption) | exact rw_A hM (by assumption)) (by first | exact rR hM rfl rfl | assumption | exact rw_R hM (by assumption)) ?_
      refine st_k rfl ?_
      refine st_ild rfl rfl ?_
      refine st_ib rfl ?_
      refine st_ild rfl rfl ?_
      refine st_ib rfl ?_
      refine st_iald rfl (tT hM rfl) (hin3) ?_
      -- at 63: stop
      refine wp_e (y := nI (l2.getD i 0)) (by rw [eq2, nI_clamp (by omega)]; exact h2.2.2 i (by omega)) ?_
      refine st_b2 rfl (fun g => ?_) (fun g => ?_)
      -- at 63: split 70 66
      · refine st_k rfl ?_
        refine st_ist rfl ?_
        refine st_inc rfl rfl ?_
        refine st_go rfl ?_
        -- at 24: stop
        exact no (fun z => g (by rw [z])) _
      · have g := (nI_eq (by omega) (by omega)).mp (Decidable.not_not.mp g)
        refine st_k rfl ?_
        refine st_go rfl ?_
        refine st_ist rfl ?_
        refine st_inc rfl rfl ?_
        refine st_go rfl ?_
        -- at 24: stop
        refine ih (i + 1) _ (nI_1 i) (by omega) (fun t h => ?_)
        by_cases z : t = i
        · subst z; exact g
        · exact ht t (by omega)
  refine st_ald rfl rfl ?_
  refine st_gR' rfl (by first | exact tT hM rfl | assumption | exact rw_T hM (by assumption) | exact rw_A hM (by assumption)) (by first | exact rR hM rfl rfl | assumption | exact rw_R hM (by assumption)) ?_
  refine st_ild rfl rfl ?_
  refine st_iald rfl (by first | exact tT hM rfl | assumption | exact rw_T hM (by assumption) | exact rw_A hM (by assumption)) (by first | decide | assumption | exact vp_in_nI (by omega) (by decide)) ?_
  -- at 6: stop
  refine wp_e ek ?_
  refine st_ald rfl rfl ?_
  refine st_gR' rfl (by first | exact tT hM rfl | assumption | exact rw_T hM (by assumption) | exact rw_A hM (by assumption)) (by first | exact rR hM rfl rfl | assumption | exact rw_R hM (by assumption)) ?_
  refine st_ild rfl rfl ?_
  refine st_iald rfl (by first | exact tT hM rfl | assumption | exact rw_T hM (by assumption) | exact rw_A hM (by assumption)) (hinq) ?_
  -- at 12: stop
  refine wp_e eq ?_
  refine st_b2 rfl (fun g => ?_) (fun g => ?_)
  -- at 12: split 19 15
  · refine st_k rfl ?_
    refine st_ist rfl ?_
    refine st_k rfl ?_
    refine st_ist rfl ?_
    -- at 24: stop
    exact no (fun z => g (by rw [z])) _
  · have g := (nI_eq (by omega) (by omega)).mp (Decidable.not_not.mp g)
    refine st_k rfl ?_
    refine st_go rfl ?_
    refine st_ist rfl ?_
    refine st_k rfl ?_
    refine st_ist rfl ?_
    -- at 24: stop
    exact loop g l.length 0 _ rfl (by omega) (fun t ht => by omega)
/-! slips -/
/-- bits of the KNOTS that can slip unseen -/
def hb (c : Cf) (ws : List Nat) : Nat → Int32
  | 0 => 0
  | i + 1 => if rw' c ws i = rd c ws then hb c ws i ||| (1 <<< (nI i &&& 31)) else hb c ws i
theorem hb_s (c : Cf) (ws : List Nat) (i : Nat) : hb c ws (i + 1) = if rw' c ws i = rd c ws then hb c ws i ||| (1 <<< (nI i &&& 31)) else hb c ws i := rfl
theorem b_slips (ha : aw a) (r : Int32) : Both a 122 250 [.int r] := by
  rcases r_cs r with ⟨h1, h2⟩ | ⟨j, hj, hr, h1, h2⟩
  · refine bo_k (x := .int (-1)) ha (fun d M h => ?_) (fun d M h => ?_)
    · refine en_122 (Nat.le_of_ble_eq_true rfl) ?_
      have hM := h.1
      refine st_ald rfl rfl ?_
      refine st_ild rfl rfl ?_
      refine st_ild rfl rfl ?_
      refine st_ild rfl rfl ?_
      refine st_k rfl ?_
      refine st_cav (As := [_, _, _, _]) rfl rfl rfl (by first | exact tT hM rfl | assumption | exact rw_T hM (by assumption) | exact rw_A hM (by assumption)) (Nat.le_of_ble_eq_true rfl) (c_knots (d + 16) h _ _ _ _ (c_rowsBad (d + 16) _ _ _ _ _ (fun z => h1 z.1)) ⟨_, rfl⟩) ?_
      refine st_ist rfl ?_
      refine st_ild rfl rfl ?_
      refine st_b1 rfl (fun zq => absurd zq ((by decide))) (fun _ => ?_)
      refine st_ild rfl rfl ?_
      -- at 15: op_iret
      exact st_iret rfl ⟨rfl, rfl⟩
    · refine en_250 (Nat.le_of_ble_eq_true rfl) ?_
      refine st_ild rfl rfl ?_
      refine st_call (As := [_]) rfl rfl rfl (Nat.le_of_ble_eq_true rfl) (m_isRow (d + 17) r) ?_
      refine st_b1 rfl (fun zq => absurd zq ((fun z => z (b01_f h2)))) (fun _ => ?_)
      refine st_k rfl ?_
      -- at 8: op_iret
      exact st_iret rfl ⟨rfl, rfl⟩
  subst hr
  have hin : vp_in (nI j) 6 := vp_in_nI hj (by decide)
  have ho := rw_row j hj
  rcases rope_cs (a := a) j 20 with hx | ⟨l, hx, hlen⟩ | ⟨l, hx, hlen, hno⟩ | ⟨ws, hx, hk, hlen⟩
  · refine bo_f ha (f := 1) (by decide) (fun d M h => ?_) (fun d M h => ?_)
    · refine en_122 (Nat.le_of_ble_eq_true rfl) ?_
      have hM := h.1
      refine st_ald rfl rfl ?_
      refine st_ild rfl rfl ?_
      refine st_ild rfl rfl ?_
      refine st_ild rfl rfl ?_
      refine st_k rfl ?_
      refine st_cav (As := [_, _, _, _]) rfl rfl rfl (by first | exact tT hM rfl | assumption | exact rw_T hM (by assumption) | exact rw_A hM (by assumption)) (Nat.le_of_ble_eq_true rfl) (ckN (d + 16) h hj hj (most := 20) (by decide) hx) ?_
      refine st_ist rfl ?_
      refine st_ild rfl rfl ?_
      refine st_b1 rfl (fun zq => absurd zq ((by decide))) (fun _ => ?_)
      refine st_ild rfl rfl ?_
      -- at 15: op_iret
      exact st_iret rfl ⟨rfl, rfl⟩
    · refine en_250 (Nat.le_of_ble_eq_true rfl) ?_
      have hM := h.1
      refine st_ild rfl rfl ?_
      refine st_call (As := [_]) rfl rfl rfl (Nat.le_of_ble_eq_true rfl) (m_isRow (d + 17) _) ?_
      refine st_b1 rfl (fun _ => ?_) (fun zq => absurd (b01_t h2) zq)
      refine st_ald rfl rfl ?_
      refine st_ild rfl rfl ?_
      refine st_k rfl ?_
      refine st_cav (As := [_, _]) rfl rfl rfl (by first | exact tT hM rfl | assumption | exact rw_T hM (by assumption) | exact rw_A hM (by assumption)) (Nat.le_of_ble_eq_true rfl) (mnN (d + 15) h ha hj (most := 20) (by decide) hx) ?_
      refine st_ist rfl ?_
      refine st_ild rfl rfl ?_
      refine st_b1 rfl (fun zq => absurd zq ((by decide))) (fun _ => ?_)
      refine st_ild rfl rfl ?_
      -- at 22: op_iret
      exact st_iret rfl ⟨rfl, rfl⟩
  · refine bo_f ha (f := 5) (by decide) (fun d M h => ?_) (fun d M h => ?_)
    · refine en_122 (Nat.le_of_ble_eq_true rfl) ?_
      have hM := h.1
      refine st_ald rfl rfl ?_
      refine st_ild rfl rfl ?_
      refine st_ild rfl rfl ?_
      refine st_ild rfl rfl ?_
      refine st_k rfl ?_
      refine st_cav (As := [_, _, _, _]) rfl rfl rfl (by first | exact tT hM rfl | assumption | exact rw_T hM (by assumption) | exact rw_A hM (by assumption)) (Nat.le_of_ble_eq_true rfl) (ckL (d + 16) h hj hj (most := 20) (by decide) hx hlen) ?_
      refine st_ist rfl ?_
      refine st_ild rfl rfl ?_
      refine st_b1 rfl (fun zq => absurd zq ((by decide))) (fun _ => ?_)
      refine st_ild rfl rfl ?_
      -- at 15: op_iret
      exact st_iret rfl ⟨rfl, rfl⟩
    · refine en_250 (Nat.le_of_ble_eq_true rfl) ?_
      have hM := h.1
      refine st_ild rfl rfl ?_
      refine st_call (As := [_]) rfl rfl rfl (Nat.le_of_ble_eq_true rfl) (m_isRow (d + 17) _) ?_
      refine st_b1 rfl (fun _ => ?_) (fun zq => absurd (b01_t h2) zq)
      refine st_ald rfl rfl ?_
      refine st_ild rfl rfl ?_
      refine st_k rfl ?_
      refine st_cav (As := [_, _]) rfl rfl rfl (by first | exact tT hM rfl | assumption | exact rw_T hM (by assumption) | exact rw_A hM (by assumption)) (Nat.le_of_ble_eq_true rfl) (mnL (d + 15) h ha hj (most := 20) (by decide) hx hlen) ?_
      refine st_ist rfl ?_
      refine st_ild rfl rfl ?_
      refine st_b1 rfl (fun zq => absurd zq ((by decide))) (fun _ => ?_)
      refine st_ild rfl rfl ?_
      -- at 22: op_iret
      exact st_iret rfl ⟨rfl, rfl⟩
  · refine bo_f ha (f := 3) (by decide) (fun d M h => ?_) (fun d M h => ?_)
    · refine en_122 (Nat.le_of_ble_eq_true rfl) ?_
      have hM := h.1
      refine st_ald rfl rfl ?_
      refine st_ild rfl rfl ?_
      refine st_ild rfl rfl ?_
      refine st_ild rfl rfl ?_
      refine st_k rfl ?_
      refine st_cav (As := [_, _, _, _]) rfl rfl rfl (by first | exact tT hM rfl | assumption | exact rw_T hM (by assumption) | exact rw_A hM (by assumption)) (Nat.le_of_ble_eq_true rfl) (ckU (d + 16) h hj hj (most := 20) (by decide) ha hx hlen hno) ?_
      refine st_ist rfl ?_
      refine st_ild rfl rfl ?_
      refine st_b1 rfl (fun zq => absurd zq ((by decide))) (fun _ => ?_)
      refine st_ild rfl rfl ?_
      -- at 15: op_iret
      exact st_iret rfl ⟨rfl, rfl⟩
    · refine en_250 (Nat.le_of_ble_eq_true rfl) ?_
      have hM := h.1
      refine st_ild rfl rfl ?_
      refine st_call (As := [_]) rfl rfl rfl (Nat.le_of_ble_eq_true rfl) (m_isRow (d + 17) _) ?_
      refine st_b1 rfl (fun _ => ?_) (fun zq => absurd (b01_t h2) zq)
      refine st_ald rfl rfl ?_
      refine st_ild rfl rfl ?_
      refine st_k rfl ?_
      refine st_cav (As := [_, _]) rfl rfl rfl (by first | exact tT hM rfl | assumption | exact rw_T hM (by assumption) | exact rw_A hM (by assumption)) (Nat.le_of_ble_eq_true rfl) (mnU (d + 15) h ha hj (most := 20) (by decide) hx hlen hno) ?_
      refine st_ist rfl ?_
      refine st_ild rfl rfl ?_
      refine st_b1 rfl (fun zq => absurd zq ((by decide))) (fun _ => ?_)
      refine st_ild rfl rfl ?_
      -- at 22: op_iret
      exact st_iret rfl ⟨rfl, rfl⟩
  have rd9 : ∀ s ∈ rd (aC a) ws, s ≤ 9 := rd_kn ha.1 ws hk
  have rx9 : ∀ i, ∀ s ∈ rw' (aC a) ws i, s ≤ 9 := fun i => rw_9 ha.1 hk i
  have hul := ul_len (rw' (aC a) ws)
  refine ⟨.int (nI (ul (rw' (aC a) ws) ws.length).length), sA' a (hb (aC a) ws ws.length), ha.told _, fun d M h => ?_, fun d M h => ?_⟩
  · have hM := h.1
    have hz0 := h.2.1 j hj
    rw [hx] at hz0
    have loop : ∀ m i x y1 M1, x = nI i → y1 = hb (aC a) ws i → i + m = ws.length → pm_S (fun k => 55 ≤ k ∧ k ≤ 104) M M1 → Rd M1 (ul (rw' (aC a) ws) i) → pm_Ro M1 103 ((rd (aC a) ws).map nI) → pm_WP (pm_call (d + 19)) tb_122 (fun r0 M' => r0 = some (.int (nI (ul (rw' (aC a) ws) ws.length).length)) ∧ IC (sA' a (hb (aC a) ws ws.length)) M' ∧ Cfr M M') 45 [some (.ref 0), some (.int (nI j)), some (.int 0), some (.int y1), some (.int x)] [] M1 := by
      intro m
      induction m with
      | zero =>
        intro i x y1 M1 hx h1 hi hs hR h103
        subst hx; subst h1
        have hI := h.S hs (fun k hk => by have : 55 ≤ k ∧ k ≤ 104 := hk; omega)
        have hM1 := hI.1
        have hz := hI.2.1 j hj
        rw [show aR a j = _ from by assumption] at hz
        refine st_ild rfl rfl ?_
        refine st_ald rfl rfl ?_
        refine st_gR' rfl (by first | exact tT hM1 rfl | assumption | exact rw_T hM1 (by assumption) | exact rw_A hM1 (by assumption)) (by first | exact rR hM1 rfl rfl | assumption | exact rw_R hM1 (by assumption)) ?_
        refine st_ild rfl rfl ?_
        refine st_aald' rfl (by first | exact tT hM1 rfl | assumption | exact rw_T hM1 (by assumption) | exact rw_A hM1 (by assumption)) (by first | decide | assumption | exact vp_in_nI (by omega) (by decide)) (by first | assumption | exact rRow' hM1 (by assumption) | exact rTxt' hM1 (by assumption) | exact rKep' hM1 (by assumption) | exact rRdg' hM1 (by assumption)) ?_
        refine st_gI rfl (rw_T hM1 ho) ?_
        -- at 56: stop
        refine wp_e (crow_some hz).1 ?_
        refine st_b2 rfl (fun _ => ?_) (fun zq => absurd (nI_le (by rw [map_len]; omega) (by omega)) zq)
        refine st_ald rfl rfl ?_
        refine st_ild rfl rfl ?_
        refine st_pI rfl (by first | exact tT hM1 rfl | assumption | exact rw_T hM1 (by assumption) | exact rw_A hM1 (by assumption)) ?_
        refine st_ald rfl rfl ?_
        refine st_gR' rfl (by first | exact tT hM1 rfl | assumption | exact rw_T hM1 (by assumption) | exact rw_A hM1 (by assumption)) (by first | exact rR hM1 rfl rfl | assumption | exact rw_R hM1 (by assumption)) ?_
        refine st_gI rfl (by first | exact tT hM1 rfl | assumption | exact rw_T hM1 (by assumption) | exact rw_A hM1 (by assumption)) ?_
        -- at 121: op_iret
        rw [show i = ws.length by omega] at hR ⊢
        refine st_iret rfl ⟨?_, hI.told, (Cfr.S hs (fun k hk => by have : 55 ≤ k ∧ k ≤ 104 := hk; omega)).sI (by decide) _ _⟩
        rw [gI_ne (Or.inl (by decide)), hR.1]
      | succ m ih =>
        intro i x y1 M1 hx h1 hi hs hR h103
        subst hx; subst h1
        have hI := h.S hs (fun k hk => by have : 55 ≤ k ∧ k ≤ 104 := hk; omega)
        have hM1 := hI.1
        have hz := hI.2.1 j hj
        rw [show aR a j = _ from by assumption] at hz
        have hzz := crow_some hz
        have hui := hul i
        obtain ⟨M2, hc2, h5, h6⟩ := c_readWithout (d + 16) hM1 ha.1 hI.2.2.2.1 ho (by omega) hk (q := i) (by omega) hzz
        have hM2 := h6.ok hM1
        have hR2 := hR.kept h6 (fun k hk z => by have h1 : 55 ≤ k ∧ k ≤ 98 := hk; have h2 : 99 ≤ k ∧ k ≤ 102 := z; omega)
        obtain ⟨M3, hc3, h7, h8⟩ := c_addUnlike (d + 16) hM2 hR2 (by omega) ro101 (by decide) h5 (rx9 i)
        have hM3 := h8.ok hM2
        have h101 := h5.kept h8 (by decide) (by decide)
        have h103' := (h103.kept h6 (by decide) (by decide)).kept h8 (by decide) (by decide)
        have hs3 : pm_S (fun k => 55 ≤ k ∧ k ≤ 104) M M3 := (hs.tr (h6.mo (fun k hk => by have : 99 ≤ k ∧ k ≤ 102 := hk; show _ ∧ _; omega))).tr (h8.mo (fun k hk => by have : 55 ≤ k ∧ k ≤ 98 := hk; show _ ∧ _; omega))
        refine st_ild rfl rfl ?_
        refine st_ald rfl rfl ?_
        refine st_gR' rfl (by first | exact tT hM1 rfl | assumption | exact rw_T hM1 (by assumption) | exact rw_A hM1 (by assumption)) (by first | exact rR hM1 rfl rfl | assumption | exact rw_R hM1 (by assumption)) ?_
        refine st_ild rfl rfl ?_
        refine st_aald' rfl (by first | exact tT hM1 rfl | assumption | exact rw_T hM1 (by assumption) | exact rw_A hM1 (by assumption)) (by first | decide | assumption | exact vp_in_nI (by omega) (by decide)) (by first | assumption | exact rRow' hM1 (by assumption) | exact rTxt' hM1 (by assumption) | exact rKep' hM1 (by assumption) | exact rRdg' hM1 (by assumption)) ?_
        refine st_gI rfl (rw_T hM1 ho) ?_
        -- at 56: stop
        refine wp_e hzz.1 ?_
        refine st_b2 rfl (fun zq => absurd zq (nI_ge (by rw [map_len]; omega) (by rw [map_len]; omega))) (fun _ => ?_)
        refine st_ald rfl rfl ?_
        refine st_ald rfl rfl ?_
        refine st_gR' rfl (by first | exact tT hM1 rfl | assumption | exact rw_T hM1 (by assumption) | exact rw_A hM1 (by assumption)) (by first | exact rR hM1 rfl rfl | assumption | exact rw_R hM1 (by assumption)) ?_
        refine st_ild rfl rfl ?_
        refine st_aald' rfl (by first | exact tT hM1 rfl | assumption | exact rw_T hM1 (by assumption) | exact rw_A hM1 (by assumption)) (by first | decide | assumption | exact vp_in_nI (by omega) (by decide)) (by first | assumption | exact rRow' hM1 (by assumption) | exact rTxt' hM1 (by assumption) | exact rKep' hM1 (by assumption) | exact rRdg' hM1 (by assumption)) ?_
        refine st_ild rfl rfl ?_
        refine st_cav (As := [_, _]) rfl rfl rfl (by first | exact tT hM1 rfl | assumption | exact rw_T hM1 (by assumption) | exact rw_A hM1 (by assumption)) (Nat.le_of_ble_eq_true rfl) (hc2) ?_
        -- at 71: stop
        refine st_ald rfl rfl ?_
        refine st_gR' rfl (by first | exact tT hM2 rfl | assumption | exact rw_T hM2 (by assumption) | exact rw_A hM2 (by assumption)) (by first | exact rR hM2 rfl rfl | assumption | exact rw_R hM2 (by assumption)) ?_
        refine st_ald rfl rfl ?_
        refine st_gR' rfl (by first | exact tT hM2 rfl | assumption | exact rw_T hM2 (by assumption) | exact rw_A hM2 (by assumption)) (by first | exact rR hM2 rfl rfl | assumption | exact rw_R hM2 (by assumption)) ?_
        refine st_cav (As := [_]) rfl rfl rfl (by first | exact tT hM2 rfl | assumption | exact rw_T hM2 (by assumption) | exact rw_A hM2 (by assumption)) (Nat.le_of_ble_eq_true rfl) (hc3) ?_
        -- at 82: stop
        refine st_ald rfl rfl ?_
        refine st_gR' rfl (by first | exact tT hM3 rfl | assumption | exact rw_T hM3 (by assumption) | exact rw_A hM3 (by assumption)) (by first | exact rR hM3 rfl rfl | assumption | exact rw_R hM3 (by assumption)) ?_
        refine st_ald rfl rfl ?_
        refine st_gR' rfl (by first | exact tT hM3 rfl | assumption | exact rw_T hM3 (by assumption) | exact rw_A hM3 (by assumption)) (by first | exact rR hM3 rfl rfl | assumption | exact rw_R hM3 (by assumption)) ?_
        refine st_cav (As := [_]) rfl rfl rfl (rw_T hM3 ro101) (Nat.le_of_ble_eq_true rfl) (c_isLike (d + 18) hM3 ro101 ro103 h101 h103') ?_
        refine st_b1 rfl (fun g => ?_) (fun g => ?_)
        -- at 93: split 103 96
        · have g : ¬ rw' (aC a) ws i = rd (aC a) ws := fun z => b01_t (by rw [z]) g
          refine st_inc rfl rfl ?_
          refine st_go rfl ?_
          -- at 45: stop
          exact ih (i + 1) _ _ _ (nI_1 i) (by rw [hb_s, if_neg g]) (by omega) hs3 h7 h103'
        · have g := (map_inj9 (rx9 i) rd9).mp (Decidable.not_not.mp (fun z => g (b01_f z)))
          refine st_ild rfl rfl ?_
          refine st_k rfl ?_
          refine st_ild rfl rfl ?_
          refine st_ib rfl ?_
          refine st_ib rfl ?_
          refine st_ist rfl ?_
          refine st_inc rfl rfl ?_
          refine st_go rfl ?_
          -- at 45: stop
          exact ih (i + 1) _ _ _ (nI_1 i) (by rw [hb_s, if_pos g]) (by omega) hs3 h7 h103'
    have s1 : pm_S (fun k => 55 ≤ k ∧ k ≤ 104) M (sI M 55 1 0) := pm_S.rf.sI (by decide) _ _
    have hI1 := h.S s1 (fun k hk => by have : 55 ≤ k ∧ k ≤ 104 := hk; omega)
    have hM1 := hI1.1
    have hz1 := hI1.2.1 j hj
    rw [hx] at hz1
    obtain ⟨M2, hc2, h5, h6⟩ := c_read (d + 17) hM1 ha.1 hI1.2.2.2.1 ro103 ho (by omega) (by omega) (by omega) (by decide) hk (crow_some hz1)
    have hclr : pm_call (d + 19) 41 [.ref 55] M none (sI M 55 1 0) := by
      refine en_41 (Nat.le_of_ble_eq_true rfl) ?_
      refine st_ald rfl rfl ?_
      refine st_k rfl ?_
      refine st_pI rfl (by first | exact tT hM rfl | assumption | exact rw_T hM (by assumption) | exact rw_A hM (by assumption)) ?_
      -- at 5: op_vret
      exact st_vret rfl ⟨rfl, rfl⟩
    obtain ⟨r, M', hc, hr', h9, h10⟩ := eq_122 (d := d + 19) (A := [.ref 0, .int (nI j)]) (M := M) (Q := fun r0 M' => r0 = some (.int (nI (ul (rw' (aC a) ws) ws.length).length)) ∧ IC (sA' a (hb (aC a) ws ws.length)) M' ∧ Cfr M M') (Nat.le_of_ble_eq_true rfl) (by
      refine st_ald rfl rfl ?_
      refine st_ild rfl rfl ?_
      refine st_ild rfl rfl ?_
      refine st_ild rfl rfl ?_
      refine st_k rfl ?_
      refine st_cav (As := [_, _, _, _]) rfl rfl rfl (by first | exact tT hM rfl | assumption | exact rw_T hM (by assumption) | exact rw_A hM (by assumption)) (Nat.le_of_ble_eq_true rfl) (ckO (d + 16) h hj hj (most := 20) (by decide) ha hx hk hlen) ?_
      refine st_ist rfl ?_
      refine st_ild rfl rfl ?_
      refine st_b1 rfl (fun _ => ?_) (fun zq => absurd (rfl) zq)
      refine st_ald rfl rfl ?_
      refine st_gR' rfl (by first | exact tT hM rfl | assumption | exact rw_T hM (by assumption) | exact rw_A hM (by assumption)) (by first | exact rR hM rfl rfl | assumption | exact rw_R hM (by assumption)) ?_
      refine st_cav (As := []) rfl rfl rfl (by first | exact tT hM rfl | assumption | exact rw_T hM (by assumption) | exact rw_A hM (by assumption)) (Nat.le_of_ble_eq_true rfl) (hclr) ?_
      -- at 23: stop
      refine st_ald rfl rfl ?_
      refine st_gR' rfl (by first | exact tT hM1 rfl | assumption | exact rw_T hM1 (by assumption) | exact rw_A hM1 (by assumption)) (by first | exact rR hM1 rfl rfl | assumption | exact rw_R hM1 (by assumption)) ?_
      refine st_ald rfl rfl ?_
      refine st_gR' rfl (by first | exact tT hM1 rfl | assumption | exact rw_T hM1 (by assumption) | exact rw_A hM1 (by assumption)) (by first | exact rR hM1 rfl rfl | assumption | exact rw_R hM1 (by assumption)) ?_
      refine st_ild rfl rfl ?_
      refine st_aald' rfl (by first | exact tT hM1 rfl | assumption | exact rw_T hM1 (by assumption) | exact rw_A hM1 (by assumption)) (by first | decide | assumption | exact vp_in_nI (by omega) (by decide)) (by first | assumption | exact rRow' hM1 (by assumption) | exact rTxt' hM1 (by assumption) | exact rKep' hM1 (by assumption) | exact rRdg' hM1 (by assumption)) ?_
      refine st_ald rfl rfl ?_
      refine st_gR' rfl (by first | exact tT hM1 rfl | assumption | exact rw_T hM1 (by assumption) | exact rw_A hM1 (by assumption)) (by first | exact rR hM1 rfl rfl | assumption | exact rw_R hM1 (by assumption)) ?_
      refine st_cav (As := [_, _]) rfl rfl rfl (by first | exact tT hM1 rfl | assumption | exact rw_T hM1 (by assumption) | exact rw_A hM1 (by assumption)) (Nat.le_of_ble_eq_true rfl) (hc2) ?_
      refine st_k rfl ?_
      refine st_ist rfl ?_
      refine st_k rfl ?_
      refine st_ist rfl ?_
      -- at 45: stop
      exact loop ws.length 0 _ _ M2 rfl rfl (by omega) (s1.tr (h6.mo (fun k hk => by rcases hk with z | z <;> (show _ ∧ _; omega)))) ⟨by rw [h6.i (by decide), gI_same]; rfl, Nat.zero_le _, fun t ht => by simp [ul] at ht⟩ h5)
    subst hr'
    exact ⟨M', hc, h9, h10⟩
  · have hM := h.1
    obtain ⟨M0, hc0, h3, h4⟩ := mnO (d + 15) h ha hj (most := 20) (by decide) hx hk hlen
    have e1 : (nI j).toNatClampNeg = j := nI_clamp (by omega)
    have loop : ∀ m i x y1 y2 M1, x = nI i → y1 = nI (ul (rw' (aC a) ws) i).length → y2 = hb (aC a) ws i → i + m = ws.length → Msc M M1 → Sl M1 ws.length (rd (aC a) ws) → (∀ t, t < i → Sl M1 t (rw' (aC a) ws t)) → pm_WP (pm_call (d + 19)) tb_250 (fun r0 M' => r0 = some (.int (nI (ul (rw' (aC a) ws) ws.length).length)) ∧ IM (sA' a (hb (aC a) ws ws.length)) M' ∧ Mfr M M') 46 [some (.ref 132), some (.int (nI j)), some (.int 0), some (.int (nI ws.length)), some (.int y1), some (.int y2), some (.int x), none, none] [] M1 := by
      intro m
      induction m with
      | zero =>
        intro i x y1 y2 M1 hx h1 h2 hi hs hS hT
        subst hx; subst h1; subst h2
        have hM1 := hs.ok hM
        refine st_ild rfl rfl ?_
        refine st_ild rfl rfl ?_
        refine st_b2 rfl (fun _ => ?_) (fun zq => absurd (nI_le (by omega) (by omega)) zq)
        refine st_ald rfl rfl ?_
        refine st_ild rfl rfl ?_
        refine st_ild rfl rfl ?_
        refine st_cav (As := [_, _]) rfl rfl rfl (by first | exact tT hM1 rfl | assumption | exact rw_T hM1 (by assumption) | exact rw_A hM1 (by assumption)) (Nat.le_of_ble_eq_true rfl) (m_tells (d + 18) hM1 _ _) ?_
        -- at 155: op_iret
        rw [show i = ws.length by omega]
        exact st_iret rfl ⟨rfl, (h.sc hs).told, hs.fr.sI (by decide) _ _⟩
      | succ m ih =>
        intro i x y1 y2 M1 hx h1 h2 hi hs hS hT
        subst hx; subst h1; subst h2
        have hI := h.sc hs
        have hM1 := hI.1
        have hz := hI.2.1 j hj
        rw [show aR a j = _ from by assumption] at hz
        obtain ⟨M2, hc2, h5, h6⟩ := m_laySlip (d + 16) hM1 ha.1 hI.2.2.2.1 (k := i) (q := i) (x := nI i) hj (by omega) hk (by omega) hz (fun t ht => nI_eq (by omega) (by omega))
        have hs2 := hs.tr h6.1
        have hM2 := h6.1.ok hM1
        have hS2 := hS.kept h6 (by omega)
        have hT2 : ∀ t, t ≤ i → Sl M2 t (rw' (aC a) ws t) := fun t ht => by
          by_cases z : t = i
          · subst z; exact h5
          · exact (hT t (by omega)).kept h6 z
        have hfin : ∀ y3 y4, (y3 = 1 ∧ ¬ rw' (aC a) ws i ∈ ul (rw' (aC a) ws) i) ∨ (y3 = 0 ∧ rw' (aC a) ws i ∈ ul (rw' (aC a) ws) i) → pm_WP (pm_call (d + 19)) tb_250 (fun r0 M' => r0 = some (.int (nI (ul (rw' (aC a) ws) ws.length).length)) ∧ IM (sA' a (hb (aC a) ws ws.length)) M' ∧ Mfr M M') 103 [some (.ref 132), some (.int (nI j)), some (.int 0), some (.int (nI ws.length)), some (.int (nI (ul (rw' (aC a) ws) i).length)), some (.int (hb (aC a) ws i)), some (.int (nI i)), some (.int y3), some (.int y4)] [] M2 := by
          intro y3 y4 hy
          have bits : ∀ v, v = nI (ul (rw' (aC a) ws) (i + 1)).length → pm_WP (pm_call (d + 19)) tb_250 (fun r0 M' => r0 = some (.int (nI (ul (rw' (aC a) ws) ws.length).length)) ∧ IM (sA' a (hb (aC a) ws ws.length)) M' ∧ Mfr M M') 118 [some (.ref 132), some (.int (nI j)), some (.int 0), some (.int (nI ws.length)), some (.int v), some (.int (hb (aC a) ws i)), some (.int (nI i)), some (.int y3), some (.int y4)] [] M2 := by
            intro v hv
            refine st_ild rfl rfl ?_
            refine st_ald rfl rfl ?_
            refine st_ild rfl rfl ?_
            refine st_ild rfl rfl ?_
            refine st_cav (As := [_, _]) rfl rfl rfl (by first | exact tT hM2 rfl | assumption | exact rw_T hM2 (by assumption) | exact rw_A hM2 (by assumption)) (Nat.le_of_ble_eq_true rfl) (m_areLike (d + 18) hM2 (by omega) (by omega) h5 hS2 (rx9 i) rd9) ?_
            refine st_b1 rfl (fun g => ?_) (fun g => ?_)
            -- at 127: split 137 130
            · have g : ¬ rw' (aC a) ws i = rd (aC a) ws := fun z => b01_t z g
              refine st_k rfl ?_
              refine st_ib rfl ?_
              refine st_ist rfl ?_
              refine st_inc rfl rfl ?_
              refine st_go rfl ?_
              -- at 46: stop
              refine wp_le ms_250 (lc (lc (lc (lc (lc (lc (lc (ln (ln l0))))))))) (ih (i + 1) _ _ _ M2 (nI_1 i) hv ?_ (by omega) hs2 hS2 (fun t ht => hT2 t (by omega)))
              rw [hb_s, if_neg g]
              exact Int32.or_zero
            · have g := Decidable.not_not.mp (fun z => g (b01_f z))
              refine st_k rfl ?_
              refine st_ild rfl rfl ?_
              refine st_ib rfl ?_
              refine st_go rfl ?_
              refine st_ib rfl ?_
              refine st_ist rfl ?_
              refine st_inc rfl rfl ?_
              refine st_go rfl ?_
              -- at 46: stop
              refine wp_le ms_250 (lc (lc (lc (lc (lc (lc (lc (ln (ln l0))))))))) (ih (i + 1) _ _ _ M2 (nI_1 i) hv ?_ (by omega) hs2 hS2 (fun t ht => hT2 t (by omega)))
              rw [hb_s, if_pos g]
          rcases hy with ⟨hy, hg⟩ | ⟨hy, hg⟩ <;> subst hy
          · refine st_ild rfl rfl ?_
            refine st_ild rfl rfl ?_
            refine st_b1 rfl (fun zq => absurd zq ((by decide))) (fun _ => ?_)
            refine st_k rfl ?_
            refine st_go rfl ?_
            refine st_ib rfl ?_
            refine st_ist rfl ?_
            -- at 118: stop
            refine bits _ ?_
            rw [ul_s, if_neg hg]
            simp
            exact nI_1 _
          · refine st_ild rfl rfl ?_
            refine st_ild rfl rfl ?_
            refine st_b1 rfl (fun _ => ?_) (fun zq => absurd (rfl) zq)
            refine st_k rfl ?_
            refine st_ib rfl ?_
            refine st_ist rfl ?_
            -- at 118: stop
            refine bits _ ?_
            rw [ul_s, if_pos hg]
            exact Int32.add_zero _
        have inner : ∀ n t y y3, y = nI t → t + n = i → ((y3 = 1 ∧ ∀ s, s < t → rw' (aC a) ws s ≠ rw' (aC a) ws i) ∨ (y3 = 0 ∧ ∃ s, s < i ∧ rw' (aC a) ws s = rw' (aC a) ws i)) → pm_WP (pm_call (d + 19)) tb_250 (fun r0 M' => r0 = some (.int (nI (ul (rw' (aC a) ws) ws.length).length)) ∧ IM (sA' a (hb (aC a) ws ws.length)) M' ∧ Mfr M M') 67 [some (.ref 132), some (.int (nI j)), some (.int 0), some (.int (nI ws.length)), some (.int (nI (ul (rw' (aC a) ws) i).length)), some (.int (hb (aC a) ws i)), some (.int (nI i)), some (.int y3), some (.int y)] [] M2 := by
          intro n
          induction n with
          | zero =>
            intro t y y3 hy ht hh
            subst hy
            refine st_ild rfl rfl ?_
            refine st_ild rfl rfl ?_
            refine st_b2 rfl (fun _ => ?_) (fun zq => absurd (nI_le (by omega) (by omega)) zq)
            -- at 103: stop
            refine hfin _ _ ?_
            rcases hh with ⟨z1, z2⟩ | ⟨z1, z2⟩
            · refine Or.inl ⟨z1, fun w => ?_⟩
              obtain ⟨s, w1, w2⟩ := (ul_mem _ _ _).mp w
              exact z2 s (by omega) w2
            · exact Or.inr ⟨z1, (ul_mem _ _ _).mpr z2⟩
          | succ n ihn =>
            intro t y y3 hy ht hh
            subst hy
            rcases hh with ⟨z1, z2⟩ | ⟨z1, z2⟩ <;> subst z1
            · refine st_ild rfl rfl ?_
              refine st_ild rfl rfl ?_
              refine st_b2 rfl (fun zq => absurd zq (nI_ge (by omega) (by omega))) (fun _ => ?_)
              refine st_ild rfl rfl ?_
              refine st_b1 rfl (fun zq => absurd zq ((by decide))) (fun _ => ?_)
              refine st_ald rfl rfl ?_
              refine st_ild rfl rfl ?_
              refine st_ild rfl rfl ?_
              refine st_cav (As := [_, _]) rfl rfl rfl (by first | exact tT hM2 rfl | assumption | exact rw_T hM2 (by assumption) | exact rw_A hM2 (by assumption)) (Nat.le_of_ble_eq_true rfl) (m_areLike (d + 18) hM2 (by omega) (by omega) h5 (hT2 t (by omega)) (rx9 i) (rx9 t)) ?_
              refine st_b1 rfl (fun g => ?_) (fun g => ?_)
              -- at 87: split 94 90
              · have g := Decidable.not_not.mp (fun z => g (b01_f z))
                refine st_k rfl ?_
                refine st_ist rfl ?_
                refine st_inc rfl rfl ?_
                refine st_go rfl ?_
                -- at 67: stop
                exact ihn (t + 1) _ _ (nI_1 t) (by omega) (Or.inr ⟨rfl, t, by omega, g.symm⟩)
              · have g : ¬ rw' (aC a) ws i = rw' (aC a) ws t := fun z => g (b01_t z)
                refine st_k rfl ?_
                refine st_go rfl ?_
                refine st_ist rfl ?_
                refine st_inc rfl rfl ?_
                refine st_go rfl ?_
                -- at 67: stop
                refine ihn (t + 1) _ _ (nI_1 t) (by omega) (Or.inl ⟨rfl, fun s hs => ?_⟩)
                by_cases z : s = t
                · subst z; exact fun w => g w.symm
                · exact z2 s (by omega)
            · refine st_ild rfl rfl ?_
              refine st_ild rfl rfl ?_
              refine st_b2 rfl (fun zq => absurd zq (nI_ge (by omega) (by omega))) (fun _ => ?_)
              refine st_ild rfl rfl ?_
              refine st_b1 rfl (fun _ => ?_) (fun zq => absurd (rfl) zq)
              refine st_k rfl ?_
              refine st_ist rfl ?_
              refine st_inc rfl rfl ?_
              refine st_go rfl ?_
              -- at 67: stop
              exact ihn (t + 1) _ _ (nI_1 t) (by omega) (Or.inr ⟨rfl, z2⟩)
        refine st_ild rfl rfl ?_
        refine st_ild rfl rfl ?_
        refine st_b2 rfl (fun zq => absurd zq (nI_ge (by omega) (by omega))) (fun _ => ?_)
        refine st_ald rfl rfl ?_
        refine st_ild rfl rfl ?_
        refine st_ild rfl rfl ?_
        refine st_ild rfl rfl ?_
        refine st_cav (As := [_, _, _]) rfl rfl rfl (by first | exact tT hM1 rfl | assumption | exact rw_T hM1 (by assumption) | exact rw_A hM1 (by assumption)) (Nat.le_of_ble_eq_true rfl) (hc2) ?_
        -- at 61: stop
        refine st_k rfl ?_
        refine st_ist rfl ?_
        refine st_k rfl ?_
        refine st_ist rfl ?_
        -- at 67: stop
        exact inner i 0 _ _ rfl (by omega) (Or.inl ⟨rfl, fun s hs => by omega⟩)
    have hI0 := h.sc h4
    have hM0 := hI0.1
    have hz0 := hI0.2.1 j hj
    rw [hx] at hz0
    obtain ⟨M2, hc2, h5, h6⟩ := m_laySlip (d + 16) hM0 ha.1 hI0.2.2.2.1 (k := ws.length) (q := ws.length) (x := -1) hj (by omega) hk (by omega) hz0 (fun t ht => ⟨fun z => absurd (show nI t < 0 by rw [z]; decide) (nI_pos (by omega)), fun z => by omega⟩)
    rw [rw_all] at h5
    obtain ⟨r, M', hc, hr', h9, h10⟩ := eq_250 (d := d + 19) (A := [.ref 132, .int (nI j)]) (M := M) (Q := fun r0 M' => r0 = some (.int (nI (ul (rw' (aC a) ws) ws.length).length)) ∧ IM (sA' a (hb (aC a) ws ws.length)) M' ∧ Mfr M M') (Nat.le_of_ble_eq_true rfl) (by
      refine st_ild rfl rfl ?_
      refine st_call (As := [_]) rfl rfl rfl (Nat.le_of_ble_eq_true rfl) (m_isRow (d + 17) _) ?_
      refine st_b1 rfl (fun _ => ?_) (fun zq => absurd (b01_t h2) zq)
      refine st_ald rfl rfl ?_
      refine st_ild rfl rfl ?_
      refine st_k rfl ?_
      refine st_cav (As := [_, _]) rfl rfl rfl (by first | exact tT hM rfl | assumption | exact rw_T hM (by assumption) | exact rw_A hM (by assumption)) (Nat.le_of_ble_eq_true rfl) (hc0) ?_
      -- at 16: stop
      refine st_ist rfl ?_
      refine st_ild rfl rfl ?_
      refine st_b1 rfl (fun _ => ?_) (fun zq => absurd ((by decide)) zq)
      refine st_ald rfl rfl ?_
      refine st_gR' rfl (by first | exact tT hM0 rfl | assumption | exact rw_T hM0 (by assumption) | exact rw_A hM0 (by assumption)) (by first | exact rR hM0 rfl rfl | assumption | exact rw_R hM0 (by assumption)) ?_
      refine st_ild rfl rfl ?_
      refine st_iald rfl (by first | exact tT hM0 rfl | assumption | exact rw_T hM0 (by assumption) | exact rw_A hM0 (by assumption)) (by first | decide | assumption | exact vp_in_nI (by omega) (by decide)) ?_
      -- at 29: stop
      refine wp_e (y := nI ws.length) (by rw [e1, hz0.1, map_len]) ?_
      refine st_ist rfl ?_
      refine st_ald rfl rfl ?_
      refine st_ild rfl rfl ?_
      refine st_k rfl ?_
      refine st_ild rfl rfl ?_
      refine st_cav (As := [_, _, _]) rfl rfl rfl (by first | exact tT hM0 rfl | assumption | exact rw_T hM0 (by assumption) | exact rw_A hM0 (by assumption)) (Nat.le_of_ble_eq_true rfl) (hc2) ?_
      refine st_k rfl ?_
      refine st_ist rfl ?_
      refine st_k rfl ?_
      refine st_ist rfl ?_
      refine st_k rfl ?_
      refine st_ist rfl ?_
      -- at 46: stop
      exact loop ws.length 0 _ _ _ M2 rfl rfl rfl (by omega) (h4.tr h6.1) h5 (fun t ht => by omega))
    subst hr'
    exact ⟨M', hc, h9, h10⟩
end SLP

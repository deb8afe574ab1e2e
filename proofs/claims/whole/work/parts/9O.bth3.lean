/-! TWO WHO READ ONE ROPE: the reference -/
def QF (M M' : pm_M) : Prop := Msc M M' ∧ ∀ k i, ¬ (k = 132 ∧ (i = 29 ∨ i = 31 ∨ i = 48 ∨ i = 52)) → k ≠ 147 → k ≠ 148 → k ≠ 163 → gI M' k i = gI M k i
def OM (bk : List Nat) (M : pm_M) : Prop := gI M 132 49 = nI bk.length ∧ bk.length ≤ 12 ∧ (∀ i, i < bk.length → gI M 162 i = nI (bk.getD i 0)) ∧ ∀ t, t ∈ bk → t < 10
def LB (c : Cf) (b : Bs) (M : pm_M) : Prop := (b.1 ≤ cf_rm c ∧ gI M 132 48 = nI b.1 ∧ gI M 132 52 = nI b.2.length ∧ b.2.length ≤ 5 ∧ ∀ i, i < b.2.length → gI M 163 i = nI (b.2.getD i 0)) ∨ (b.1 = cf_rm c + 1 ∧ gI M 132 48 = -1)
section BWM
variable {M M1 M2 : pm_M} {c : Cf} {m bk : List Nat}
theorem QF.rf (M : pm_M) : QF M M := ⟨Msc.rf M, fun _ _ _ _ _ _ => rfl⟩
theorem QF.tr (h : QF M M1) (g : QF M1 M2) : QF M M2 := ⟨h.1.tr g.1, fun k i z1 z2 z3 z4 => (g.2 k i z1 z2 z3 z4).trans (h.2 k i z1 z2 z3 z4)⟩
theorem QF.s {k i : Nat} {v : Int32} (h : QF M M1) (hk : (k = 132 ∧ (i = 29 ∨ i = 31 ∨ i = 48 ∨ i = 52)) ∨ k = 147 ∨ k = 148 ∨ k = 163) : QF M (sI M1 k i v) := by
  refine ⟨h.1.sI v (by omega), fun q j z1 z2 z3 z4 => ?_⟩
  rw [gI_nn (by rintro ⟨y1, y2⟩; subst y1; subst y2; omega)]
  exact h.2 q j z1 z2 z3 z4
theorem QF.mm (h : QF M M1) (hm : MM m M) : MM m M1 := ⟨by rw [h.2 132 40 (by omega) (by omega) (by omega) (by omega)]; exact hm.1, hm.2.1, fun i hi => by rw [h.2 155 i (by omega) (by omega) (by omega) (by omega)]; exact hm.2.2.1 i hi, hm.2.2.2⟩
theorem QF.om (h : QF M M1) (hm : OM bk M) : OM bk M1 := ⟨by rw [h.2 132 49 (by omega) (by omega) (by omega) (by omega)]; exact hm.1, hm.2.1, fun i hi => by rw [h.2 162 i (by omega) (by omega) (by omega) (by omega)]; exact hm.2.2.1 i hi, hm.2.2.2⟩
theorem m_turnLook (d : Nat) (hM : pm_ok M) {ws : List Nat} (hl : ws.length ≤ 20) (h : Lk M ws) : ∃ M', pm_call (d + 1) 244 [.ref 132] M none M' ∧ Lk M' ws.reverse ∧ QF M M' ∧ ∀ k i, k ≠ 147 → gI M' k i = gI M k i := by
  obtain ⟨r, M', hcc, hr, h5, h6, h7⟩ := eq_244 (d := d) (A := [.ref 132]) (M := M) (Q := fun r M' => r = none ∧ Lk M' ws.reverse ∧ QF M M' ∧ ∀ k i, k ≠ 147 → gI M' k i = gI M k i) (Nat.le_of_ble_eq_true rfl) (by
    refine st_k rfl ?_
    refine st_ist rfl ?_
    -- at 2: stop
    refine wp_for (ws.length / 2) (fun i L M1 => ∃ x y2, x = nI i ∧ L = [some (.ref 132), some (.int x), y2] ∧ QF M M1 ∧ (∀ k q, k ≠ 147 → gI M1 k q = gI M k q) ∧ ∀ q, q < ws.length → gI M1 147 q = nI (ws.getD (if q < i ∨ ws.length - 1 - q < i then ws.length - 1 - q else q) 0)) ?_ ?_ 0 _ _ (Nat.zero_le _) ⟨_, _, rfl, rfl, QF.rf M, fun _ _ _ => rfl, fun q hq => by rw [if_neg (by omega)]; exact h.2.2 q hq⟩
    · rintro i L M1 hi ⟨x, y2, rfl, rfl, f1, e1, q1⟩ ih
      have hM1 := f1.1.ok hM
      have e29 : gI M1 132 29 = nI ws.length := by rw [e1 132 29 (by decide)]; exact h.1
      have hin : vp_in (nI i) 24 := vp_in_nI (by omega) (by decide)
      have hin2 : vp_in (nI (ws.length - 1 - i)) 24 := vp_in_nI (by omega) (by decide)
      have e6 : nI ws.length - 1 - nI i = nI (ws.length - 1 - i) := by rw [nI_p1 (by omega), pk_sub (by omega)]
      have a1 := q1 i (by omega)
      have a2 := q1 (ws.length - 1 - i) (by omega)
      rw [if_neg (by omega)] at a1 a2
      have hM2 : pm_ok (sI M1 147 i (nI (ws.getD (ws.length - 1 - i) 0))) := hM1
      refine st_ild rfl rfl ?_
      refine st_ald rfl rfl ?_
      refine st_gI rfl (by first | exact tT hM1 rfl | assumption | exact rw_T hM1 (by assumption) | exact rw_A hM1 (by assumption)) ?_
      -- at 7: stop
      refine wp_e e29 ?_
      refine st_k rfl ?_
      refine st_idv rfl ((by decide)) ?_
      -- at 9: stop
      refine wp_e (pk_div (a := ws.length) (d := 2) (by omega) (by decide) (by decide)) ?_
      refine st_b2 rfl (fun zq => absurd zq (nI_ge hi (by omega))) (fun _ => ?_)
      refine st_ald rfl rfl ?_
      refine st_gR' rfl (by first | exact tT hM1 rfl | assumption | exact rw_T hM1 (by assumption) | exact rw_A hM1 (by assumption)) (by first | exact rR hM1 rfl rfl | assumption | exact rw_R hM1 (by assumption)) ?_
      refine st_ild rfl rfl ?_
      refine st_iald rfl (by first | exact tT hM1 rfl | assumption | exact rw_T hM1 (by assumption) | exact rw_A hM1 (by assumption)) (by first | decide | assumption | exact vp_in_nI (by omega) (by decide)) ?_
      -- at 18: stop
      refine wp_e (y := nI (ws.getD i 0)) (by rw [nI_clamp (by omega)]; exact a1) ?_
      refine st_ist rfl ?_
      refine st_ald rfl rfl ?_
      refine st_gR' rfl (by first | exact tT hM1 rfl | assumption | exact rw_T hM1 (by assumption) | exact rw_A hM1 (by assumption)) (by first | exact rR hM1 rfl rfl | assumption | exact rw_R hM1 (by assumption)) ?_
      refine st_ild rfl rfl ?_
      refine st_ald rfl rfl ?_
      refine st_gR' rfl (by first | exact tT hM1 rfl | assumption | exact rw_T hM1 (by assumption) | exact rw_A hM1 (by assumption)) (by first | exact rR hM1 rfl rfl | assumption | exact rw_R hM1 (by assumption)) ?_
      refine st_ald rfl rfl ?_
      refine st_gI rfl (by first | exact tT hM1 rfl | assumption | exact rw_T hM1 (by assumption) | exact rw_A hM1 (by assumption)) ?_
      -- at 32: stop
      refine wp_e e29 ?_
      refine st_k rfl ?_
      refine st_ib rfl ?_
      refine st_ild rfl rfl ?_
      refine st_ib rfl ?_
      -- at 36: stop
      refine wp_e e6 ?_
      refine st_iald rfl (tT hM1 rfl) (hin2) ?_
      -- at 37: stop
      refine wp_e (y := nI (ws.getD (ws.length - 1 - i) 0)) (by rw [nI_clamp (by omega)]; exact a2) ?_
      refine st_iast rfl (by first | exact tT hM1 rfl | assumption | exact rw_T hM1 (by assumption) | exact rw_A hM1 (by assumption)) (by first | decide | assumption | exact vp_in_nI (by omega) (by decide)) ?_
      -- at 38: stop
      rw [nI_clamp (show i < 2 ^ 31 by omega)]
      refine st_ald rfl rfl ?_
      refine st_gR' rfl (by first | exact tT hM2 rfl | assumption | exact rw_T hM2 (by assumption) | exact rw_A hM2 (by assumption)) (by first | exact rR hM2 rfl rfl | assumption | exact rw_R hM2 (by assumption)) ?_
      refine st_ald rfl rfl ?_
      refine st_gI rfl (by first | exact tT hM2 rfl | assumption | exact rw_T hM2 (by assumption) | exact rw_A hM2 (by assumption)) ?_
      -- at 46: stop
      refine wp_e (y := nI ws.length) (by rw [gI_ne (Or.inl (by decide))]; exact e29) ?_
      refine st_k rfl ?_
      refine st_ib rfl ?_
      refine st_ild rfl rfl ?_
      refine st_ib rfl ?_
      -- at 50: stop
      refine wp_e e6 ?_
      refine st_ild rfl rfl ?_
      refine st_iast rfl (tT hM2 rfl) (hin2) ?_
      -- at 52: stop
      rw [nI_clamp (show ws.length - 1 - i < 2 ^ 31 by omega)]
      refine st_inc rfl rfl ?_
      refine st_go rfl ?_
      -- at 2: stop
      refine ih _ _ ⟨_, _, nI_1 i, rfl, (f1.s (by omega)).s (by omega), fun k q z => by rw [gI_ne (Or.inl z), gI_ne (Or.inl z)]; exact e1 k q z, fun q hq => ?_⟩
      by_cases z1 : q = ws.length - 1 - i
      · subst z1
        rw [gI_same, if_pos (by omega), show ws.length - 1 - (ws.length - 1 - i) = i by omega]
      · rw [gI_ne (Or.inr z1)]
        by_cases z2 : q = i
        · subst z2
          rw [gI_same, if_pos (by omega)]
        · rw [gI_ne (Or.inr z2), q1 q hq]
          congr 2
          by_cases z3 : q < i ∨ ws.length - 1 - q < i
          · rw [if_pos z3, if_pos (by omega)]
          · rw [if_neg z3, if_neg (by omega)]
    · rintro L M1 ⟨x, y2, rfl, rfl, f1, e1, q1⟩
      have hM1 := f1.1.ok hM
      have e29 : gI M1 132 29 = nI ws.length := by rw [e1 132 29 (by decide)]; exact h.1
      refine st_ild rfl rfl ?_
      refine st_ald rfl rfl ?_
      refine st_gI rfl (by first | exact tT hM1 rfl | assumption | exact rw_T hM1 (by assumption) | exact rw_A hM1 (by assumption)) ?_
      -- at 7: stop
      refine wp_e e29 ?_
      refine st_k rfl ?_
      refine st_idv rfl ((by decide)) ?_
      -- at 9: stop
      refine wp_e (pk_div (a := ws.length) (d := 2) (by omega) (by decide) (by decide)) ?_
      refine st_b2 rfl (fun _ => ?_) (fun zq => absurd (nI_le (Nat.le_refl _) (by omega)) zq)
      -- at 58: op_vret
      refine st_vret rfl ⟨rfl, ⟨by rw [e29, List.length_reverse], by rw [List.length_reverse]; omega, fun q hq => ?_⟩, f1, e1⟩
      rw [List.length_reverse] at hq
      rw [q1 q hq]
      congr 1
      have er : ws.reverse.getD q 0 = ws.getD (ws.length - 1 - q) 0 := by
        rw [List.getD_eq_getElem?_getD, List.getD_eq_getElem?_getD, List.getElem?_reverse hq]
      rw [er]
      by_cases z : q < ws.length / 2 ∨ ws.length - 1 - q < ws.length / 2
      · rw [if_pos z]
      · rw [if_neg z, show ws.length - 1 - q = q by omega])
  subst hr
  exact ⟨M', hcc, h5, h6, h7⟩
theorem m_isReadAs (d : Nat) (hM : pm_ok M) (hw : cf_wf c) (hc : MC c M) {ws : List Nat} (hk : kn c ws) (hl20 : ws.length ≤ 20) (h : Lk M ws) {K : Nat} {l : List Nat} (hK : K = 155 ∨ K = 162) (hl : l.length ≤ 12) (hl9 : ∀ t, t ∈ l → t < 10) (hv : ∀ i, i < l.length → gI M K i = nI (l.getD i 0)) : ∃ M', pm_call (d + 3) 243 [.ref 132, .ref K, .int (nI l.length)] M (some (.int (if rd c ws = l then 1 else 0))) M' ∧ Lk M' ws ∧ QF M M' ∧ ∀ k i, ¬ (k = 132 ∧ i = 31) → k ≠ 148 → gI M' k i = gI M k i := by
  obtain ⟨M1, hc1, sr, s1, e1⟩ := m_readLook d hM hw hc hk h
  have hM1 := s1.ok hM
  have tK : M1.1[K]? = some (100, 12) := by rcases hK with z | z <;> subst z <;> exact tT hM1 rfl
  have f1 : QF M M1 := ⟨s1, fun k i z1 z2 z3 z4 => e1 k i (by omega) z3⟩
  have hL1 : Lk M1 ws := ⟨by rw [e1 132 29 (by omega) (by decide)]; exact h.1, h.2.1, fun i hi => by rw [e1 147 i (by omega) (by decide)]; exact h.2.2 i hi⟩
  have h9 := rd_kn hw ws hk
  have hrl := rd_len c ws
  have hv1 : ∀ i, i < l.length → gI M1 K i = nI (l.getD i 0) := fun i hi => by rw [e1 K i (by rcases hK with z | z <;> omega) (by rcases hK with z | z <;> omega)]; exact hv i hi
  refine ⟨M1, en_243 (Nat.le_of_ble_eq_true rfl) ?_, hL1, f1, e1⟩
  have fin : ∀ v : Int32, (v = if rd c ws = l then 1 else 0) → ∀ l4, pm_WP (pm_call (d + 2)) tb_243 (fun r0 M' => r0 = some (.int (if rd c ws = l then 1 else 0)) ∧ M' = M1) 57 [some (.ref 132), some (.ref K), some (.int (nI l.length)), some (.int v), l4] [] M1 := by
    intro v hv l4
    subst hv
    refine st_ild rfl rfl ?_
    -- at 58: op_zret
    exact st_zret rfl (by split <;> rfl) ⟨rfl, rfl⟩
  refine st_ald rfl rfl ?_
  refine st_cav (As := []) rfl rfl rfl (by first | exact tT hM rfl | assumption | exact rw_T hM (by assumption) | exact rw_A hM (by assumption)) (Nat.le_of_ble_eq_true rfl) (hc1) ?_
  -- at 4: stop
  refine st_ald rfl rfl ?_
  refine st_gI rfl (by first | exact tT hM1 rfl | assumption | exact rw_T hM1 (by assumption) | exact rw_A hM1 (by assumption)) ?_
  -- at 8: stop
  refine wp_e sr.1 ?_
  by_cases g : (rd c ws).length = l.length
  · refine st_ild rfl rfl ?_
    refine st_b2 rfl (fun zq => absurd zq ((fun z => z (by rw [g])))) (fun _ => ?_)
    refine st_k rfl ?_
    refine st_go rfl ?_
    refine st_ist rfl ?_
    refine st_k rfl ?_
    refine st_ist rfl ?_
    -- at 21: stop
    refine wp_for l.length (fun i L M2 => ∃ x, x = nI i ∧ L = [some (.ref 132), some (.ref K), some (.int (nI l.length)), some (.int 1), some (.int x)] ∧ M2 = M1 ∧ ∀ q, q < i → (rd c ws).getD q 0 = l.getD q 0) ?_ ?_ 0 _ _ (Nat.zero_le _) ⟨_, rfl, rfl, rfl, fun q hq => by omega⟩
    · rintro i L M2 hi ⟨x, rfl, rfl, rfl, hq⟩ ih
      have hin : vp_in (nI i) 24 := vp_in_nI (by omega) (by decide)
      have hin2 : vp_in (nI i) 12 := vp_in_nI (by omega) (by decide)
      have b1 : (rd c ws).getD i 0 ≤ 9 := by
        have := mem_gd (e := 10) (fun k hk => by have := h9 k hk; omega) (show i < (rd c ws).length by omega)
        omega
      have b2 := mem_gd hl9 hi
      refine st_ild rfl rfl ?_
      refine st_ild rfl rfl ?_
      refine st_b2 rfl (fun zq => absurd zq (nI_ge hi (by omega))) (fun _ => ?_)
      refine st_ild rfl rfl ?_
      refine st_b1 rfl (fun zq => absurd zq ((by decide))) (fun _ => ?_)
      refine st_ald rfl rfl ?_
      refine st_gR' rfl (by first | exact tT hM1 rfl | assumption | exact rw_T hM1 (by assumption) | exact rw_A hM1 (by assumption)) (by first | exact rR hM1 rfl rfl | assumption | exact rw_R hM1 (by assumption)) ?_
      refine st_ild rfl rfl ?_
      refine st_iald rfl (by first | exact tT hM1 rfl | assumption | exact rw_T hM1 (by assumption) | exact rw_A hM1 (by assumption)) (by first | decide | assumption | exact vp_in_nI (by omega) (by decide)) ?_
      -- at 38: stop
      refine wp_e (y := nI ((rd c ws).getD i 0)) (by rw [nI_clamp (by omega)]; exact sr.2.2 i (by omega)) ?_
      refine st_ald rfl rfl ?_
      refine st_ild rfl rfl ?_
      refine st_iald rfl (tK) (hin2) ?_
      -- at 42: stop
      refine wp_e (y := nI (l.getD i 0)) (by rw [nI_clamp (by omega)]; exact hv1 i hi) ?_
      by_cases g2 : (rd c ws).getD i 0 = l.getD i 0
      · refine st_b2 rfl (fun zq => absurd zq ((fun z => z (by rw [g2])))) (fun _ => ?_)
        refine st_k rfl ?_
        refine st_go rfl ?_
        refine st_ist rfl ?_
        refine st_inc rfl rfl ?_
        refine st_go rfl ?_
        -- at 21: stop
        refine ih _ _ ⟨_, nI_1 i, rfl, rfl, fun q hq2 => ?_⟩
        rcases Nat.lt_or_ge q i with z | z
        · exact hq q z
        · rw [show q = i by omega]; exact g2
      · have hne : ¬ rd c ws = l := fun z => g2 (by rw [z])
        have ev : (0 : Int32) = if rd c ws = l then 1 else 0 := by rw [if_neg hne]
        refine st_b2 rfl (fun _ => ?_) (fun zq => absurd ((fun z => g2 ((nI_eq (by omega) (by omega)).mp z))) zq)
        refine st_k rfl ?_
        refine st_ist rfl ?_
        refine st_inc rfl rfl ?_
        refine st_go rfl ?_
        -- at 21: stop
        by_cases g3 : l.length ≤ i + 1
        · rw [nI_1]
          refine st_ild rfl rfl ?_
          refine st_ild rfl rfl ?_
          refine st_b2 rfl (fun _ => ?_) (fun zq => absurd (nI_le g3 (by omega)) zq)
          -- at 57: stop
          exact fin 0 ev _
        · rw [nI_1]
          refine st_ild rfl rfl ?_
          refine st_ild rfl rfl ?_
          refine st_b2 rfl (fun zq => absurd zq (nI_ge (by omega) (by omega))) (fun _ => ?_)
          refine st_ild rfl rfl ?_
          refine st_b1 rfl (fun _ => ?_) (fun zq => absurd (rfl) zq)
          -- at 57: stop
          exact fin 0 ev _
    · rintro L M2 ⟨x, rfl, rfl, rfl, hq⟩
      have heq : rd c ws = l := by
        refine List.ext_getElem g (fun i h1 h2 => ?_)
        have := hq i h2
        rw [List.getD_eq_getElem?_getD, List.getD_eq_getElem?_getD, List.getElem?_eq_getElem h1, List.getElem?_eq_getElem h2] at this
        exact this
      refine st_ild rfl rfl ?_
      refine st_ild rfl rfl ?_
      refine st_b2 rfl (fun _ => ?_) (fun zq => absurd (nI_le (Nat.le_refl _) (by omega)) zq)
      -- at 57: stop
      exact fin 1 (by rw [if_pos heq]) _
  · have hne : ¬ rd c ws = l := fun z => g (by rw [z])
    have ev : (0 : Int32) = if rd c ws = l then 1 else 0 := by rw [if_neg hne]
    refine st_ild rfl rfl ?_
    refine st_b2 rfl (fun _ => ?_) (fun zq => absurd ((fun z => g ((nI_eq (by omega) (by omega)).mp z))) zq)
    refine st_k rfl ?_
    refine st_ist rfl ?_
    refine st_k rfl ?_
    refine st_ist rfl ?_
    -- at 21: stop
    by_cases g3 : l.length = 0
    · refine st_ild rfl rfl ?_
      refine st_ild rfl rfl ?_
      refine st_b2 rfl (fun _ => ?_) (fun zq => absurd (nI_le (a := l.length) (b := 0) (by omega) (by decide)) zq)
      -- at 57: stop
      exact fin 0 ev _
    · refine st_ild rfl rfl ?_
      refine st_ild rfl rfl ?_
      refine st_b2 rfl (fun zq => absurd zq (nI_ge (a := 0) (b := l.length) (by omega) (by omega))) (fun _ => ?_)
      refine st_ild rfl rfl ?_
      refine st_b1 rfl (fun _ => ?_) (fun zq => absurd (rfl) zq)
      -- at 57: stop
      exact fin 0 ev _
theorem m_isBoth (d : Nat) (hM : pm_ok M) (hw : cf_wf c) (hc : MC c M) (hm : MM m M) (hb : OM bk M) {ws : List Nat} (hk : kn c ws) (hl : ws.length ≤ 20) (h : Lk M ws) : ∃ M', pm_call (d + 5) 245 [.ref 132] M (some (.int (if rt c ws ∧ rd c ws = m ∧ rd c ws.reverse = bk then 1 else 0))) M' ∧ Lk M' ws ∧ QF M M' ∧ ∀ k i, ¬ (k = 132 ∧ i = 31) → k ≠ 148 → k ≠ 147 → gI M' k i = gI M k i := by
  by_cases g1 : rt c ws
  case neg =>
    refine ⟨M, en_245 (Nat.le_of_ble_eq_true rfl) ?_, h, QF.rf M, fun _ _ _ _ _ => rfl⟩
    refine st_ald rfl rfl ?_
    refine st_cav (As := []) rfl rfl rfl (by first | exact tT hM rfl | assumption | exact rw_T hM (by assumption) | exact rw_A hM (by assumption)) (Nat.le_of_ble_eq_true rfl) (m_lookRight d hM hw hc hk h) ?_
    refine st_b1 rfl (fun _ => ?_) (fun zq => absurd (b01_f g1) zq)
    refine st_k rfl ?_
    -- at 23: op_zret
    exact st_zret rfl (by decide) ⟨by rw [if_neg (fun z => g1 z.1)], rfl⟩
  obtain ⟨M1, hc1, L1, f1, e1⟩ := m_isReadAs (d + 1) hM hw hc hk hl h (K := 155) (l := m) (Or.inl rfl) hm.2.1 hm.2.2.2 hm.2.2.1
  have hM1 := f1.1.ok hM
  by_cases g2 : rd c ws = m
  case neg =>
    refine ⟨M1, en_245 (Nat.le_of_ble_eq_true rfl) ?_, L1, f1, fun k i z1 z2 _ => e1 k i z1 z2⟩
    refine st_ald rfl rfl ?_
    refine st_cav (As := []) rfl rfl rfl (by first | exact tT hM rfl | assumption | exact rw_T hM (by assumption) | exact rw_A hM (by assumption)) (Nat.le_of_ble_eq_true rfl) (m_lookRight d hM hw hc hk h) ?_
    refine st_b1 rfl (fun zq => absurd zq (b01_t g1)) (fun _ => ?_)
    refine st_ald rfl rfl ?_
    refine st_ald rfl rfl ?_
    refine st_gR' rfl (by first | exact tT hM rfl | assumption | exact rw_T hM (by assumption) | exact rw_A hM (by assumption)) (by first | exact rR hM rfl rfl | assumption | exact rw_R hM (by assumption)) ?_
    refine st_ald rfl rfl ?_
    refine st_gI rfl (by first | exact tT hM rfl | assumption | exact rw_T hM (by assumption) | exact rw_A hM (by assumption)) ?_
    -- at 16: stop
    refine wp_e hm.1 ?_
    refine st_cav (As := [_, _]) rfl rfl rfl (by first | exact tT hM rfl | assumption | exact rw_T hM (by assumption) | exact rw_A hM (by assumption)) (Nat.le_of_ble_eq_true rfl) (hc1) ?_
    refine st_b1 rfl (fun zq => absurd zq ((fun z => z (b01_f g2)))) (fun _ => ?_)
    refine st_k rfl ?_
    -- at 23: op_zret
    exact st_zret rfl (by decide) ⟨by rw [if_neg (fun z => g2 z.2.1)], rfl⟩
  obtain ⟨M2, hc2, L2, f2, e2⟩ := m_turnLook (d + 3) hM1 hl L1
  have hM2 := f2.1.ok hM1
  have hb2 := f2.om (f1.om hb)
  have hkr : kn c ws.reverse := fun k hk' => hk k (List.mem_reverse.mp hk')
  obtain ⟨M3, hc3, L3, f3, e3⟩ := m_isReadAs (d + 1) hM2 hw ((hc.sc f1.1).sc f2.1) hkr (by rw [List.length_reverse]; exact hl) L2 (K := 162) (l := bk) (Or.inr rfl) hb2.2.1 hb2.2.2.2 hb2.2.2.1
  have hM3 := f3.1.ok hM2
  obtain ⟨M4, hc4, L4, f4, e4⟩ := m_turnLook (d + 3) hM3 (by rw [List.length_reverse]; exact hl) L3
  rw [List.reverse_reverse] at L4
  refine ⟨M4, en_245 (Nat.le_of_ble_eq_true rfl) ?_, L4, f1.tr (f2.tr (f3.tr f4)), fun k i z1 z2 z3 => (e4 k i z3).trans ((e3 k i z1 z2).trans ((e2 k i z3).trans (e1 k i z1 z2)))⟩
  refine st_ald rfl rfl ?_
  refine st_cav (As := []) rfl rfl rfl (by first | exact tT hM rfl | assumption | exact rw_T hM (by assumption) | exact rw_A hM (by assumption)) (Nat.le_of_ble_eq_true rfl) (m_lookRight d hM hw hc hk h) ?_
  refine st_b1 rfl (fun zq => absurd zq (b01_t g1)) (fun _ => ?_)
  refine st_ald rfl rfl ?_
  refine st_ald rfl rfl ?_
  refine st_gR' rfl (by first | exact tT hM rfl | assumption | exact rw_T hM (by assumption) | exact rw_A hM (by assumption)) (by first | exact rR hM rfl rfl | assumption | exact rw_R hM (by assumption)) ?_
  refine st_ald rfl rfl ?_
  refine st_gI rfl (by first | exact tT hM rfl | assumption | exact rw_T hM (by assumption) | exact rw_A hM (by assumption)) ?_
  -- at 16: stop
  refine wp_e hm.1 ?_
  refine st_cav (As := [_, _]) rfl rfl rfl (by first | exact tT hM rfl | assumption | exact rw_T hM (by assumption) | exact rw_A hM (by assumption)) (Nat.le_of_ble_eq_true rfl) (hc1) ?_
  -- at 19: stop
  refine st_b1 rfl (fun _ => ?_) (fun zq => absurd (b01_t g2) zq)
  refine st_ald rfl rfl ?_
  refine st_cav (As := []) rfl rfl rfl (by first | exact tT hM1 rfl | assumption | exact rw_T hM1 (by assumption) | exact rw_A hM1 (by assumption)) (Nat.le_of_ble_eq_true rfl) (hc2) ?_
  -- at 28: stop
  refine st_ald rfl rfl ?_
  refine st_ald rfl rfl ?_
  refine st_gR' rfl (by first | exact tT hM2 rfl | assumption | exact rw_T hM2 (by assumption) | exact rw_A hM2 (by assumption)) (by first | exact rR hM2 rfl rfl | assumption | exact rw_R hM2 (by assumption)) ?_
  refine st_ald rfl rfl ?_
  refine st_gI rfl (by first | exact tT hM2 rfl | assumption | exact rw_T hM2 (by assumption) | exact rw_A hM2 (by assumption)) ?_
  -- at 37: stop
  refine wp_e hb2.1 ?_
  refine st_cav (As := [_, _]) rfl rfl rfl (by first | exact tT hM2 rfl | assumption | exact rw_T hM2 (by assumption) | exact rw_A hM2 (by assumption)) (Nat.le_of_ble_eq_true rfl) (hc3) ?_
  -- at 40: stop
  refine st_ist rfl ?_
  refine st_ald rfl rfl ?_
  refine st_cav (As := []) rfl rfl rfl (by first | exact tT hM3 rfl | assumption | exact rw_T hM3 (by assumption) | exact rw_A hM3 (by assumption)) (Nat.le_of_ble_eq_true rfl) (hc4) ?_
  refine st_ild rfl rfl ?_
  -- at 46: op_zret
  refine st_zret rfl (by split <;> rfl) ⟨?_, rfl⟩
  by_cases g3 : rd c ws.reverse = bk
  · rw [if_pos g3, if_pos ⟨g1, g2, g3⟩]
  · rw [if_neg g3, if_neg (fun z => g3 z.2.2)]
/-- what the reference holds as it looks -/
def LW (c : Cf) (m bk : List Nat) (ws : List Nat) (b : Bs) (M : pm_M) : Prop := MC c M ∧ MM m M ∧ OM bk M ∧ Lk M ws ∧ LB c b M
theorem m_layBoth (hw : cf_wf c) (d : Nat) : ∀ f ws b M, pm_ok M → ws.length + f = 5 → kn c ws → LW c m bk ws b M → ∃ M', pm_call (d + 6 + f) 246 [.ref 132] M none M' ∧ LW c m bk ws (DF goA c m bk f ws b) M' ∧ QF M M' := by
  have hn := hw.1
  have hrm := rm99 hw
  have head : ∀ D ws b M (Q : Option Value → pm_M → Prop), pm_ok M → kn c ws → ws.length ≤ 5 → LW c m bk ws b M → (∀ M1 l1, pm_ok M1 → LW c m bk ws (udb c m bk ws b) M1 → QF M M1 → pm_WP (pm_call (D + 5)) tb_246 Q 69 [some (.ref 132), l1] [] M1) → pm_WP (pm_call (D + 5)) tb_246 Q 0 (pm_init 2 [.ref 132]) [] M := by
    intro D ws b M Q hM hk hl h hQ
    obtain ⟨M1, hc1, L1, f1, e1⟩ := m_isBoth D hM hw h.1 h.2.1 h.2.2.1 hk (by omega) h.2.2.2.1
    have hM1 := f1.1.ok hM
    have hms := ms_le hw ws 6 hk
    have hb1 : b.1 ≤ cf_rm c + 1 := by rcases h.2.2.2.2 with z | z <;> omega
    have hcc := h.1.sc f1.1
    have lb1 : LB c b M1 := by
      have := h.2.2.2.2
      unfold LB at this ⊢
      simp only [e1 132 48 (by omega) (by omega) (by omega), e1 132 52 (by omega) (by omega) (by omega), fun i => e1 163 i (by omega) (by omega) (by omega)]
      exact this
    have h1 : LW c m bk ws b M1 := ⟨hcc, f1.mm h.2.1, f1.om h.2.2.1, L1, lb1⟩
    have stay : udb c m bk ws b = b → ∀ l1, pm_WP (pm_call (D + 5)) tb_246 Q 69 [some (.ref 132), l1] [] M1 := fun e l1 => hQ M1 l1 hM1 (by rw [e]; exact h1) f1
    refine st_ald rfl rfl ?_
    refine st_cav (As := []) rfl rfl rfl (by first | exact tT hM rfl | assumption | exact rw_T hM (by assumption) | exact rw_A hM (by assumption)) (Nat.le_of_ble_eq_true rfl) (hc1) ?_
    -- at 4: stop
    by_cases g : rt c ws ∧ rd c ws = m ∧ rd c ws.reverse = bk
    · have take : ms c 6 ws < b.1 → ∀ l1, pm_WP (pm_call (D + 5)) tb_246 Q 25 [some (.ref 132), l1] [] M1 := by
        intro gm l1
        have hud : udb c m bk ws b = (ms c 6 ws, ws) := by
          unfold udb
          rw [if_pos ⟨⟨g.1.1, g.2.1, g.2.2⟩, gm⟩]
        have hM2 : pm_ok (sI M1 132 48 (nI (ms c 6 ws))) := hM1
        have f3 : QF M (sI (sI M1 132 48 (nI (ms c 6 ws))) 132 52 (nI ws.length)) := (f1.s (by omega)).s (by omega)
        refine st_ald rfl rfl ?_
        refine st_ald rfl rfl ?_
        refine st_cav (As := []) rfl rfl rfl (by first | exact tT hM1 rfl | assumption | exact rw_T hM1 (by assumption) | exact rw_A hM1 (by assumption)) (Nat.le_of_ble_eq_true rfl) (m_lookTakes (D + 2) hM1 hw hcc hk L1) ?_
        refine st_pI rfl (by first | exact tT hM1 rfl | assumption | exact rw_T hM1 (by assumption) | exact rw_A hM1 (by assumption)) ?_
        -- at 33: stop
        refine st_ald rfl rfl ?_
        refine st_ald rfl rfl ?_
        refine st_gI rfl (by first | exact tT hM2 rfl | assumption | exact rw_T hM2 (by assumption) | exact rw_A hM2 (by assumption)) ?_
        -- at 38: stop
        refine wp_e (y := nI ws.length) (by rw [gI_ne (Or.inr (by decide))]; exact L1.1) ?_
        refine st_pI rfl (by first | exact tT hM2 rfl | assumption | exact rw_T hM2 (by assumption) | exact rw_A hM2 (by assumption)) ?_
        refine st_k rfl ?_
        refine st_ist rfl ?_
        -- at 43: stop
        refine wp_for ws.length (fun i L M3 => ∃ x, x = nI i ∧ L = [some (.ref 132), some (.int x)] ∧ QF M M3 ∧ (∀ k q, k ≠ 163 → gI M3 k q = gI (sI (sI M1 132 48 (nI (ms c 6 ws))) 132 52 (nI ws.length)) k q) ∧ ∀ q, q < i → gI M3 163 q = nI (ws.getD q 0)) ?_ ?_ 0 _ _ (Nat.zero_le _) ⟨_, rfl, rfl, f3, fun _ _ _ => rfl, fun q hq => by omega⟩
        · rintro i L M3 hi ⟨x, rfl, rfl, f4, e4, q4⟩ ih
          have hM3 := f4.1.ok hM
          have hin : vp_in (nI i) 24 := vp_in_nI (by omega) (by decide)
          refine st_ild rfl rfl ?_
          refine st_ald rfl rfl ?_
          refine st_gI rfl (by first | exact tT hM3 rfl | assumption | exact rw_T hM3 (by assumption) | exact rw_A hM3 (by assumption)) ?_
          -- at 48: stop
          refine wp_e (y := nI ws.length) (by rw [e4 132 29 (by decide), gI_ne (Or.inr (by decide)), gI_ne (Or.inr (by decide))]; exact L1.1) ?_
          refine st_b2 rfl (fun zq => absurd zq (nI_ge hi (by omega))) (fun _ => ?_)
          refine st_ald rfl rfl ?_
          refine st_gR' rfl (by first | exact tT hM3 rfl | assumption | exact rw_T hM3 (by assumption) | exact rw_A hM3 (by assumption)) (by first | exact rR hM3 rfl rfl | assumption | exact rw_R hM3 (by assumption)) ?_
          refine st_ild rfl rfl ?_
          refine st_ald rfl rfl ?_
          refine st_gR' rfl (by first | exact tT hM3 rfl | assumption | exact rw_T hM3 (by assumption) | exact rw_A hM3 (by assumption)) (by first | exact rR hM3 rfl rfl | assumption | exact rw_R hM3 (by assumption)) ?_
          refine st_ild rfl rfl ?_
          refine st_iald rfl (by first | exact tT hM3 rfl | assumption | exact rw_T hM3 (by assumption) | exact rw_A hM3 (by assumption)) (by first | decide | assumption | exact vp_in_nI (by omega) (by decide)) ?_
          -- at 62: stop
          refine wp_e (y := nI (ws.getD i 0)) (by rw [nI_clamp (by omega), e4 147 i (by decide), gI_ne (Or.inl (by decide)), gI_ne (Or.inl (by decide))]; exact L1.2.2 i hi) ?_
          refine st_iast rfl (by first | exact tT hM3 rfl | assumption | exact rw_T hM3 (by assumption) | exact rw_A hM3 (by assumption)) (by first | decide | assumption | exact vp_in_nI (by omega) (by decide)) ?_
          refine st_inc rfl rfl ?_
          refine st_go rfl ?_
          -- at 43: stop
          rw [nI_clamp (by omega)]
          refine ih _ _ ⟨_, nI_1 i, rfl, f4.s (by omega), fun k q z => by rw [gI_ne (Or.inl z)]; exact e4 k q z, fun q hq => ?_⟩
          by_cases z : q = i
          · subst z; exact gI_same _ _ _ _
          · rw [gI_ne (Or.inr z)]; exact q4 q (by omega)
        · rintro L M3 ⟨x, rfl, rfl, f4, e4, q4⟩
          have hM3 := f4.1.ok hM
          refine st_ild rfl rfl ?_
          refine st_ald rfl rfl ?_
          refine st_gI rfl (by first | exact tT hM3 rfl | assumption | exact rw_T hM3 (by assumption) | exact rw_A hM3 (by assumption)) ?_
          -- at 48: stop
          refine wp_e (y := nI ws.length) (by rw [e4 132 29 (by decide), gI_ne (Or.inr (by decide)), gI_ne (Or.inr (by decide))]; exact L1.1) ?_
          refine st_b2 rfl (fun _ => ?_) (fun zq => absurd (nI_le (Nat.le_refl _) (by omega)) zq)
          -- at 69: stop
          refine hQ M3 _ hM3 ?_ f4
          rw [hud]
          refine ⟨h.1.sc f4.1, f4.mm h.2.1, f4.om h.2.2.1, ⟨by rw [e4 132 29 (by decide), gI_ne (Or.inr (by decide)), gI_ne (Or.inr (by decide))]; exact L1.1, L1.2.1, fun i hi => by rw [e4 147 i (by decide), gI_ne (Or.inl (by decide)), gI_ne (Or.inl (by decide))]; exact L1.2.2 i hi⟩, Or.inl ⟨by show ms c 6 ws ≤ _; omega, ?_, ?_, hl, q4⟩⟩
          · rw [e4 132 48 (by decide), gI_ne (Or.inr (by decide)), gI_same]
          · rw [e4 132 52 (by decide), gI_same]
      refine st_b1 rfl (fun zq => absurd zq (b01_t g)) (fun _ => ?_)
      refine st_ald rfl rfl ?_
      refine st_gI rfl (by first | exact tT hM1 rfl | assumption | exact rw_T hM1 (by assumption) | exact rw_A hM1 (by assumption)) ?_
      -- at 11: stop
      rcases lb1 with ⟨z1, z2, z3, z4, z5⟩ | ⟨z1, z2⟩
      · refine wp_e z2 ?_
        refine st_b1 rfl (fun zq => absurd zq (nI_pos (by omega))) (fun _ => ?_)
        refine st_ald rfl rfl ?_
        refine st_cav (As := []) rfl rfl rfl (by first | exact tT hM1 rfl | assumption | exact rw_T hM1 (by assumption) | exact rw_A hM1 (by assumption)) (Nat.le_of_ble_eq_true rfl) (m_lookTakes (D + 2) hM1 hw hcc hk L1) ?_
        refine st_ald rfl rfl ?_
        refine st_gI rfl (by first | exact tT hM1 rfl | assumption | exact rw_T hM1 (by assumption) | exact rw_A hM1 (by assumption)) ?_
        -- at 22: stop
        refine wp_e z2 ?_
        by_cases gm : ms c 6 ws < b.1
        · refine st_b2 rfl (fun zq => absurd zq (nI_ge gm (by omega))) (fun _ => ?_)
          -- at 25: stop
          exact take gm _
        · refine st_b2 rfl (fun _ => ?_) (fun zq => absurd (nI_le (by omega) (by omega)) zq)
          -- at 69: stop
          exact stay (by unfold udb; rw [if_neg (fun z => gm z.2)]) _
      · refine wp_e z2 ?_
        refine st_b1 rfl (fun _ => ?_) (fun zq => absurd ((by decide)) zq)
        -- at 25: stop
        exact take (by have := g.1.2; omega) _
    · refine st_b1 rfl (fun _ => ?_) (fun zq => absurd (b01_f g) zq)
      -- at 69: stop
      refine stay ?_ _
      unfold udb
      rw [if_neg]
      rintro ⟨⟨z1, z2, z3⟩, z4⟩
      exact g ⟨⟨z1, by omega⟩, z2, z3⟩
  intro f
  induction f with
  | zero =>
    intro ws b M hM hl hk h
    obtain ⟨r, M', hcc, hr, h5, h6⟩ := eq_246 (d := d + 5) (A := [.ref 132]) (M := M) (Q := fun r M' => r = none ∧ LW c m bk ws (DF goA c m bk 0 ws b) M' ∧ QF M M') (Nat.le_of_ble_eq_true rfl) (by
      refine head d ws b M _ hM hk (by omega) h (fun M1 l1 hM1 h1 f1 => ?_)
      refine st_k rfl ?_
      refine st_ist rfl ?_
      -- at 71: stop
      refine st_ild rfl rfl ?_
      refine st_ald rfl rfl ?_
      refine st_gI rfl (by first | exact tT hM1 rfl | assumption | exact rw_T hM1 (by assumption) | exact rw_A hM1 (by assumption)) ?_
      -- at 76: stop
      refine wp_e h1.1.1.2.2.1 ?_
      by_cases gn : cf_n c = 0
      · refine st_b2 rfl (fun _ => ?_) (fun zq => absurd (nI_le (a := cf_n c) (b := 0) (by omega) (by decide)) zq)
        -- at 127: op_vret
        exact st_vret rfl ⟨rfl, h1, f1⟩
      · refine st_b2 rfl (fun zq => absurd zq (nI_ge (a := 0) (b := cf_n c) (by omega) (by omega))) (fun _ => ?_)
        refine st_ald rfl rfl ?_
        refine st_gI rfl (by first | exact tT hM1 rfl | assumption | exact rw_T hM1 (by assumption) | exact rw_A hM1 (by assumption)) ?_
        -- at 83: stop
        refine wp_e h1.2.2.2.1.1 ?_
        refine st_k rfl ?_
        refine st_b2 rfl (fun _ => ?_) (fun zq => absurd (nI_le (a := 5) (b := ws.length) (by omega) (by omega)) zq)
        -- at 127: op_vret
        exact st_vret rfl ⟨rfl, h1, f1⟩)
    subst hr
    exact ⟨M', hcc, h5, h6⟩
  | succ f ih =>
    intro ws b M hM hl hk h
    obtain ⟨r, M', hcc, hr, h5, h6⟩ := eq_246 (d := d + 6 + f) (A := [.ref 132]) (M := M) (Q := fun r M' => r = none ∧ LW c m bk ws (DF goA c m bk (f + 1) ws b) M' ∧ QF M M') (Nat.le_of_ble_eq_true rfl) (by
      have hh := head (d + 1 + f) ws b M (fun r M' => r = none ∧ LW c m bk ws (DF goA c m bk (f + 1) ws b) M' ∧ QF M M') hM hk (by omega) h
      rw [show d + 1 + f + 5 = d + 6 + f by omega] at hh
      refine hh (fun M1 l1 hM1 h1 f1 => ?_)
      refine st_k rfl ?_
      refine st_ist rfl ?_
      -- at 71: stop
      refine wp_for (cf_n c) (fun k L M2 => ∃ z, z = nI k ∧ L = [some (.ref 132), some (.int z)] ∧ QF M M2 ∧ LW c m bk ws (lpb (fun k b => if goA ws k b = true then DF goA c m bk f (ws ++ [k]) b else b) k (udb c m bk ws b)) M2) ?_ ?_ 0 _ _ (Nat.zero_le _) ⟨_, rfl, rfl, f1, h1⟩
      · rintro k L M2 hkn ⟨z, rfl, rfl, f2, h2⟩ ih2
        have hM2 := f2.1.ok hM
        have hk2 : kn c (ws ++ [k]) := fun q hq => (List.mem_append.mp hq).elim (hk q) (fun z => by rw [List.mem_singleton.mp z]; exact hkn)
        have hl2 : (ws ++ [k]).length = ws.length + 1 := by simp
        have hin3 : vp_in (nI ws.length) 24 := vp_in_nI (by omega) (by decide)
        generalize hB : lpb (fun k b => if goA ws k b = true then DF goA c m bk f (ws ++ [k]) b else b) k (udb c m bk ws b) = B at h2
        have hnext : lpb (fun k b => if goA ws k b = true then DF goA c m bk f (ws ++ [k]) b else b) (k + 1) (udb c m bk ws b) = DF goA c m bk f (ws ++ [k]) B := by rw [lpb_s, hB, if_pos rfl]
        have f3 : QF M2 (sI (sI M2 147 ws.length (nI k)) 132 29 (nI (ws.length + 1))) := ((QF.rf M2).s (by omega)).s (by omega)
        have hM3 := f3.1.ok hM2
        have e3 : ∀ k' i, ¬ (k' = 132 ∧ i = 29) → k' ≠ 147 → gI (sI (sI M2 147 ws.length (nI k)) 132 29 (nI (ws.length + 1))) k' i = gI M2 k' i := fun k' i z1 z2 => by rw [gI_nn z1, gI_ne (Or.inl z2)]
        have h3 : LW c m bk (ws ++ [k]) B (sI (sI M2 147 ws.length (nI k)) 132 29 (nI (ws.length + 1))) := ⟨h2.1.sc f3.1, f3.mm h2.2.1, f3.om h2.2.2.1, lk_add h2.2.2.2.1 (by omega), by
          have := h2.2.2.2.2
          unfold LB at this ⊢
          simp only [e3 132 48 (by omega) (by omega), e3 132 52 (by omega) (by omega), fun i => e3 163 i (by omega) (by omega)]
          exact this⟩
        obtain ⟨M4, hc4, h4, f4⟩ := ih (ws ++ [k]) B _ hM3 (by rw [hl2]; omega) hk2 h3
        have hM4 := f4.1.ok hM3
        have e29 : gI M4 132 29 = nI (ws.length + 1) := by rw [h4.2.2.2.1.1, hl2]
        have f5 : QF M4 (sI M4 132 29 (nI ws.length)) := (QF.rf M4).s (by omega)
        have h5 : LW c m bk ws (DF goA c m bk f (ws ++ [k]) B) (sI M4 132 29 (nI ws.length)) := ⟨h4.1.sc f5.1, f5.mm h4.2.1, f5.om h4.2.2.1, ⟨gI_same _ _ _ _, by omega, fun i hi => by
            rw [gI_ne (Or.inl (by decide)), h4.2.2.2.1.2.2 i (by rw [hl2]; omega)]
            congr 1
            simp [List.getD_eq_getElem?_getD, List.getElem?_append_left hi]⟩, by
          have := h4.2.2.2.2
          unfold LB at this ⊢
          simp only [gI_ne (M := M4) (k := 132) (i := 29) (k' := 132) (i' := 48) (v := nI ws.length) (Or.inr (by decide)), gI_ne (M := M4) (k := 132) (i := 29) (k' := 132) (i' := 52) (v := nI ws.length) (Or.inr (by decide)), fun i => gI_ne (M := M4) (k := 132) (i := 29) (k' := 163) (i' := i) (v := nI ws.length) (Or.inl (by decide))]
          exact this⟩
        refine st_ild rfl rfl ?_
        refine st_ald rfl rfl ?_
        refine st_gI rfl (by first | exact tT hM2 rfl | assumption | exact rw_T hM2 (by assumption) | exact rw_A hM2 (by assumption)) ?_
        -- at 76: stop
        refine wp_e h2.1.1.2.2.1 ?_
        refine st_b2 rfl (fun zq => absurd zq (nI_ge hkn (by omega))) (fun _ => ?_)
        refine st_ald rfl rfl ?_
        refine st_gI rfl (by first | exact tT hM2 rfl | assumption | exact rw_T hM2 (by assumption) | exact rw_A hM2 (by assumption)) ?_
        -- at 83: stop
        refine wp_e h2.2.2.2.1.1 ?_
        refine st_k rfl ?_
        refine st_b2 rfl (fun zq => absurd zq (nI_ge (a := ws.length) (b := 5) (by omega) (by decide))) (fun _ => ?_)
        refine st_ald rfl rfl ?_
        refine st_gR' rfl (by first | exact tT hM2 rfl | assumption | exact rw_T hM2 (by assumption) | exact rw_A hM2 (by assumption)) (by first | exact rR hM2 rfl rfl | assumption | exact rw_R hM2 (by assumption)) ?_
        refine st_ald rfl rfl ?_
        refine st_gI rfl (by first | exact tT hM2 rfl | assumption | exact rw_T hM2 (by assumption) | exact rw_A hM2 (by assumption)) ?_
        -- at 95: stop
        refine wp_e h2.2.2.2.1.1 ?_
        refine st_ild rfl rfl ?_
        refine st_iast rfl (tT hM2 rfl) (hin3) ?_
        refine st_ald rfl rfl ?_
        refine st_dup rfl rfl ?_
        refine st_gI rfl (by first | exact tT hM2 rfl | assumption | exact rw_T hM2 (by assumption) | exact rw_A hM2 (by assumption)) ?_
        -- at 102: stop
        rw [nI_clamp (show ws.length < 2 ^ 31 by omega)]
        refine wp_e (y := nI ws.length) (by rw [gI_ne (Or.inl (by decide))]; exact h2.2.2.2.1.1) ?_
        refine st_k rfl ?_
        refine st_ib rfl ?_
        -- at 104: stop
        rw [nI_1]
        refine st_pI rfl (by first | exact tT hM2 rfl | assumption | exact rw_T hM2 (by assumption) | exact rw_A hM2 (by assumption)) ?_
        -- at 107: stop
        refine st_ald rfl rfl ?_
        refine st_cav (As := []) rfl rfl rfl (by first | exact tT hM3 rfl | assumption | exact rw_T hM3 (by assumption) | exact rw_A hM3 (by assumption)) (Nat.le_of_ble_eq_true rfl) (hc4) ?_
        -- at 111: stop
        refine st_ald rfl rfl ?_
        refine st_dup rfl rfl ?_
        refine st_gI rfl (by first | exact tT hM4 rfl | assumption | exact rw_T hM4 (by assumption) | exact rw_A hM4 (by assumption)) ?_
        -- at 116: stop
        refine wp_e e29 ?_
        refine st_k rfl ?_
        refine st_ib rfl ?_
        -- at 118: stop
        rw [nI_pred]
        refine st_pI rfl (by first | exact tT hM4 rfl | assumption | exact rw_T hM4 (by assumption) | exact rw_A hM4 (by assumption)) ?_
        refine st_inc rfl rfl ?_
        refine st_go rfl ?_
        -- at 71: stop
        exact ih2 _ _ ⟨_, nI_1 k, rfl, f2.tr (f3.tr (f4.tr f5)), by rw [hnext]; exact h5⟩
      · rintro L M2 ⟨z, rfl, rfl, f2, h2⟩
        have hM2 := f2.1.ok hM
        refine st_ild rfl rfl ?_
        refine st_ald rfl rfl ?_
        refine st_gI rfl (by first | exact tT hM2 rfl | assumption | exact rw_T hM2 (by assumption) | exact rw_A hM2 (by assumption)) ?_
        -- at 76: stop
        refine wp_e h2.1.1.2.2.1 ?_
        refine st_b2 rfl (fun _ => ?_) (fun zq => absurd (nI_le (Nat.le_refl _) (by omega)) zq)
        -- at 127: op_vret
        exact st_vret rfl ⟨rfl, h2, f2⟩)
    subst hr
    exact ⟨M', hcc, h5, h6⟩
end BWM

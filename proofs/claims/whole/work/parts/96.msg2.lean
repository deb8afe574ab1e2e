/-! MESSAGES: the reference -/
def la (last : Nat) : Nat := if last < 6 then last + 1 else 0
theorem la_32 : ∀ last, last < 7 → nI (la last) - 1 = l32 last ∧ la last ≤ 6 := by decide +kernel
/-- the number of a state -/
def si (s : St) : Nat := 14 * s.1 + 2 * la s.2.1 + (if s.2.2 = true then 1 else 0)
def n9 (x : Option St) : Int32 := match x with
  | none => -9
  | some s => nI (si s)
/-- a state that can be -/
def wS (c : Cf) (s : St) : Prop := s.1 ≤ 12 ∧ lst c s.2.1 ∧ (s.2.2 = true → s.2.1 < cf_n c) ∧ (s.2.1 = 6 → s.1 = 0)
/-- the MESSAGE as the reference holds it -/
def MM (m : List Nat) (M : pm_M) : Prop := gI M 132 40 = nI m.length ∧ m.length ≤ 12 ∧ (∀ i, i < m.length → gI M 155 i = nI (m.getD i 0)) ∧ ∀ t, t ∈ m → t < 10
theorem mm_9 {m : List Nat} {M : pm_M} (h : MM m M) {i : Nat} (hi : i < m.length) : m.getD i 0 < 10 := mem_gd h.2.2.2 hi
theorem MM.S {m : List Nat} {M M' : pm_M} {S : Nat → Prop} (h : MM m M) (hs : pm_S S M M') (h1 : ¬ S 132) (h2 : ¬ S 155) : MM m M' := ⟨by rw [hs.i h1]; exact h.1, h.2.1, fun i hi => by rw [hs.i h2]; exact h.2.2.1 i hi, h.2.2.2⟩
theorem si_d {c : Cf} (hw : cf_wf c) {s : St} (h : wS c s) : si s / 14 = s.1 ∧ si s % 14 / 2 = la s.2.1 ∧ si s % 2 = (if s.2.2 = true then 1 else 0) ∧ si s < 182 ∧ la s.2.1 ≤ 6 := by
  have l6 := lst6 hw h.2.1
  have h1 := (la_32 s.2.1 (by omega)).2
  have h2 := h.1
  unfold si
  split
  · refine ⟨?_, ?_, ?_, ?_, h1⟩ <;> omega
  · refine ⟨?_, ?_, ?_, ?_, h1⟩ <;> omega
theorem pre_len {r n : Nat} (hr : r < 2 ^ 31) (hn : n < 2 ^ 31) : nI r = nI n - 1 ↔ r + 1 = n := by
  cases n with
  | zero =>
    constructor
    · intro z
      exact absurd (show nI r < 0 by rw [z]; decide) (nI_pos hr)
    · intro z; omega
  | succ n =>
    rw [nI_pred, nI_eq hr (by omega)]
    omega
def nr (x : Option Nat) : Nat := match x with
  | none => 100000
  | some v => v
theorem nr_om {a b : Option Nat} {t : Nat} (ha : ∀ v, a = some v → v < 10000) (hb : ∀ v, b = some v → v < 10000) (ht : t ≤ 18) : (if nr a < t + nr b then nr a else t + nr b) = nr (om a (match b with | none => none | some v => some (t + v))) := by
  cases b with
  | none =>
    cases a with
    | none =>
      show (if 100000 < t + 100000 then 100000 else t + 100000) = 100000
      split <;> omega
    | some v =>
      have := ha v rfl
      show (if v < t + 100000 then v else t + 100000) = v
      rw [if_pos (by omega)]
  | some w =>
    have := hb w rfl
    cases a with
    | none =>
      show (if 100000 < t + w then 100000 else t + w) = t + w
      rw [if_neg (by omega)]
    | some v =>
      show (if v < t + w then v else t + w) = min v (t + w)
      split
      · rw [Nat.min_eq_left (by omega)]
      · rw [Nat.min_eq_right (by omega)]
theorem nr_lt {x : Option Nat} (h : ∀ v, x = some v → v < 10000) : nr x ≤ 100000 := by
  cases x with
  | none => exact Nat.le_refl _
  | some v => have := h v rfl; simp only [nr]; omega
theorem LF_lt {c : Cf} (hw : cf_wf c) {m : List Nat} {f : Nat} {s : St} (hf : f ≤ 20) : ∀ v, LF c m f s = some v → v < 1000 := fun v h => by have := LF_bd hw f s v h; omega
theorem lb_lt {c : Cf} (hw : cf_wf c) {m : List Nat} {f : Nat} {s : St} (hf : f < 20) : ∀ k, k ≤ cf_n c → ∀ v, lb (sde c m s) (gk (LF c m f) c m s) k = some v → v < 1000 := by
  intro k hk v h
  rcases lb_some k h with z | ⟨j, hj, z⟩
  · exact LF_lt hw (f := 0) (by omega) v z
  · obtain ⟨s', w, h1, h2, h3⟩ := gk_some z
    have := LF_bd hw f s' w h2
    have := tk_le hw (last := s.2.1) (show j < cf_n c by omega)
    omega
/-- what is laid of 'least': for so many KNOTS more, all states -/
def LT (c : Cf) (m : List Nat) (f : Nat) (M : pm_M) : Prop := ∀ s, wS c s → gI M 156 (182 * (20 - f) + si s) = nI (nr (LF c m f s))
section RMS
variable {a : As} {M : pm_M} {c : Cf} {m : List Nat}
theorem m_areSigns (d : Nat) (hM : pm_ok M) {r : Nat} (hr : r < 6) {l : List Int32} (h : MRow M r (some l)) : ∃ b : Int32, pm_call (d + 2) 225 [.ref 132, .int (nI r)] M (some (.int b)) M ∧ ((b = 1 ∧ ib l 10) ∨ (b = 0 ∧ ¬ ib l 10)) := by
  have h9 : ∀ v : Int32, ¬ 9 < v ↔ v < 10 := fun v => by
    rw [Int32.lt_iff_toInt_lt, Int32.lt_iff_toInt_lt]
    have x1 : (9 : Int32).toInt = 9 := by decide
    have x2 : (10 : Int32).toInt = 10 := by decide
    omega
  obtain ⟨e1, e2, e3⟩ := h
  have hin : vp_in (nI r) 6 := vp_in_nI hr (by decide)
  have e4 : (nI r).toNatClampNeg = r := nI_clamp (by omega)
  obtain ⟨r0, M', hcc, b, hr0, hM', hb⟩ := eq_225 (d := d + 1) (A := [.ref 132, .int (nI r)]) (M := M) (Q := fun r0 M' => ∃ b : Int32, r0 = some (.int b) ∧ M' = M ∧ ((b = 1 ∧ ib l 10) ∨ (b = 0 ∧ ¬ ib l 10))) (Nat.le_of_ble_eq_true rfl) (by
    refine st_k rfl ?_
    refine st_ist rfl ?_
    refine st_k rfl ?_
    refine st_ist rfl ?_
    -- at 4: stop
    refine wp_for l.length (fun i L M1 => ∃ x g : Int32, x = nI i ∧ L = [some (.ref 132), some (.int (nI r)), some (.int g), some (.int x)] ∧ M1 = M ∧ ((g = 1 ∧ ∀ q, q < i → ¬ l.getD q 0 < 0 ∧ l.getD q 0 < 10) ∨ (g = 0 ∧ ¬ ib l 10))) ?_ ?_ 0 _ _ (Nat.zero_le _) ⟨_, 1, rfl, rfl, rfl, Or.inl ⟨rfl, fun q hq => by omega⟩⟩
    · rintro i L M1 hi ⟨x, g, rfl, rfl, rfl, hg⟩ ih
      refine st_ild rfl rfl ?_
      refine st_ald rfl rfl ?_
      refine st_gR' rfl (by first | exact tT hM rfl | assumption | exact rw_T hM (by assumption) | exact rw_A hM (by assumption)) (by first | exact rR hM rfl rfl | assumption | exact rw_R hM (by assumption)) ?_
      refine st_ild rfl rfl ?_
      refine st_iald rfl (by first | exact tT hM rfl | assumption | exact rw_T hM (by assumption) | exact rw_A hM (by assumption)) (by first | decide | assumption | exact vp_in_nI (by omega) (by decide)) ?_
      -- at 11: stop
      refine wp_e (y := nI l.length) (by rw [e4]; exact e1) ?_
      rcases hg with ⟨rfl, g2⟩ | ⟨rfl, g2⟩
      · refine st_b2 rfl (fun zq => absurd zq (nI_ge (by omega) (by omega))) (fun _ => ?_)
        refine st_ild rfl rfl ?_
        refine st_b1 rfl (fun zq => absurd zq ((by decide))) (fun _ => ?_)
        refine st_ald rfl rfl ?_
        refine st_ild rfl rfl ?_
        refine st_ild rfl rfl ?_
        refine st_cav (As := [_, _]) rfl rfl rfl (by first | exact tT hM rfl | assumption | exact rw_T hM (by assumption) | exact rw_A hM (by assumption)) (Nat.le_of_ble_eq_true rfl) (m_rowAt d hM hr (i := i) (by omega)) ?_
        -- at 24: stop
        refine wp_e (e3 i hi) ?_
        refine st_k rfl ?_
        refine st_k rfl ?_
        refine st_call (As := [_, _, _]) rfl rfl rfl (Nat.le_of_ble_eq_true rfl) (m_in d _ 0 9) ?_
        refine st_b1 rfl (fun w => ?_) (fun w => ?_)
        -- at 30: split 37 33
        · refine st_k rfl ?_
          refine st_ist rfl ?_
          refine st_inc rfl rfl ?_
          refine st_go rfl ?_
          -- at 4: stop
          exact ih _ _ ⟨_, 0, nI_1 i, rfl, rfl, Or.inr ⟨rfl, fun z => b01_t (i := inferInstance) ⟨(z i hi).1, (h9 _).mpr (z i hi).2⟩ w⟩⟩
        · have w := Decidable.not_not.mp (fun z => w (b01_f z))
          refine st_k rfl ?_
          refine st_go rfl ?_
          refine st_ist rfl ?_
          refine st_inc rfl rfl ?_
          refine st_go rfl ?_
          -- at 4: stop
          refine ih _ _ ⟨_, 1, nI_1 i, rfl, rfl, Or.inl ⟨rfl, fun q hq => ?_⟩⟩
          rcases Nat.lt_or_ge q i with z | z
          · exact g2 q z
          · rw [show q = i by omega]; exact ⟨w.1, (h9 _).mp w.2⟩
      · refine st_b2 rfl (fun zq => absurd zq (nI_ge (by omega) (by omega))) (fun _ => ?_)
        refine st_ild rfl rfl ?_
        refine st_b1 rfl (fun _ => ?_) (fun zq => absurd (rfl) zq)
        refine st_k rfl ?_
        refine st_ist rfl ?_
        refine st_inc rfl rfl ?_
        refine st_go rfl ?_
        -- at 4: stop
        exact ih _ _ ⟨_, 0, nI_1 i, rfl, rfl, Or.inr ⟨rfl, g2⟩⟩
    · rintro L M1 ⟨x, g, rfl, rfl, rfl, hg⟩
      refine st_ild rfl rfl ?_
      refine st_ald rfl rfl ?_
      refine st_gR' rfl (by first | exact tT hM rfl | assumption | exact rw_T hM (by assumption) | exact rw_A hM (by assumption)) (by first | exact rR hM rfl rfl | assumption | exact rw_R hM (by assumption)) ?_
      refine st_ild rfl rfl ?_
      refine st_iald rfl (by first | exact tT hM rfl | assumption | exact rw_T hM (by assumption) | exact rw_A hM (by assumption)) (by first | decide | assumption | exact vp_in_nI (by omega) (by decide)) ?_
      -- at 11: stop
      refine wp_e (y := nI l.length) (by rw [e4]; exact e1) ?_
      refine st_b2 rfl (fun _ => ?_) (fun zq => absurd (nI_le (by omega) (by omega)) zq)
      refine st_ild rfl rfl ?_
      -- at 46: op_zret
      rcases hg with ⟨rfl, g2⟩ | ⟨rfl, g2⟩
      · exact st_zret rfl (by decide) ⟨1, rfl, rfl, Or.inl ⟨rfl, g2⟩⟩
      · exact st_zret rfl (by decide) ⟨0, rfl, rfl, Or.inr ⟨rfl, g2⟩⟩)
  subst hr0; subst hM'
  exact ⟨b, hcc, hb⟩
theorem m_layMessage (d : Nat) (hM : pm_ok M) {r : Nat} (hr : r < 6) (hl : m.length ≤ 12) (h9 : ∀ t, t ∈ m → t < 10) (h : MRow M r (some (m.map nI))) : ∃ M', pm_call (d + 2) 226 [.ref 132, .int (nI r)] M none M' ∧ MM m M' ∧ Msc M M' := by
  obtain ⟨e1, e2, e3⟩ := h
  rw [map_len] at e1 e2 e3
  have hin : vp_in (nI r) 6 := vp_in_nI hr (by decide)
  have e4 : (nI r).toNatClampNeg = r := nI_clamp (by omega)
  obtain ⟨r0, M', hcc, hr0, h5, h6⟩ := eq_226 (d := d + 1) (A := [.ref 132, .int (nI r)]) (M := M) (Q := fun r0 M' => r0 = none ∧ MM m M' ∧ Msc M M') (Nat.le_of_ble_eq_true rfl) (by
    have hs0 : Msc M (sI M 132 40 (nI m.length)) := (Msc.rf M).sI _ (by omega)
    refine st_ald rfl rfl ?_
    refine st_ald rfl rfl ?_
    refine st_gR' rfl (by first | exact tT hM rfl | assumption | exact rw_T hM (by assumption) | exact rw_A hM (by assumption)) (by first | exact rR hM rfl rfl | assumption | exact rw_R hM (by assumption)) ?_
    refine st_ild rfl rfl ?_
    refine st_iald rfl (by first | exact tT hM rfl | assumption | exact rw_T hM (by assumption) | exact rw_A hM (by assumption)) (by first | decide | assumption | exact vp_in_nI (by omega) (by decide)) ?_
    -- at 7: stop
    refine wp_e (y := nI m.length) (by rw [e4]; exact e1) ?_
    refine st_pI rfl (by first | exact tT hM rfl | assumption | exact rw_T hM (by assumption) | exact rw_A hM (by assumption)) ?_
    refine st_k rfl ?_
    refine st_ist rfl ?_
    -- at 12: stop
    refine wp_for m.length (fun i L M1 => ∃ x, x = nI i ∧ L = [some (.ref 132), some (.int (nI r)), some (.int x)] ∧ Msc M M1 ∧ gI M1 132 40 = nI m.length ∧ ∀ q, q < i → gI M1 155 q = nI (m.getD q 0)) ?_ ?_ 0 _ _ (Nat.zero_le _) ⟨_, rfl, rfl, hs0, gI_same _ _ _ _, fun q hq => by omega⟩
    · rintro i L M1 hi ⟨x, rfl, rfl, hs, hg, hq⟩ ih
      have hM1 := hs.ok hM
      have hin2 : vp_in (nI i) 12 := vp_in_nI (by omega) (by decide)
      refine st_ild rfl rfl ?_
      refine st_ald rfl rfl ?_
      refine st_gI rfl (by first | exact tT hM1 rfl | assumption | exact rw_T hM1 (by assumption) | exact rw_A hM1 (by assumption)) ?_
      -- at 17: stop
      refine wp_e hg ?_
      refine st_b2 rfl (fun zq => absurd zq (nI_ge (by omega) (by omega))) (fun _ => ?_)
      refine st_ald rfl rfl ?_
      refine st_gR' rfl (by first | exact tT hM1 rfl | assumption | exact rw_T hM1 (by assumption) | exact rw_A hM1 (by assumption)) (by first | exact rR hM1 rfl rfl | assumption | exact rw_R hM1 (by assumption)) ?_
      refine st_ild rfl rfl ?_
      refine st_ald rfl rfl ?_
      refine st_ild rfl rfl ?_
      refine st_ild rfl rfl ?_
      refine st_cav (As := [_, _]) rfl rfl rfl (by first | exact tT hM1 rfl | assumption | exact rw_T hM1 (by assumption) | exact rw_A hM1 (by assumption)) (Nat.le_of_ble_eq_true rfl) (m_rowAt d hM1 hr (i := i) (by omega)) ?_
      -- at 31: stop
      refine wp_e (y := nI (m.getD i 0)) (by rw [hs.i 135 _ (by omega), e3 i hi, map_getD hi]) ?_
      refine st_iast rfl (by first | exact tT hM1 rfl | assumption | exact rw_T hM1 (by assumption) | exact rw_A hM1 (by assumption)) (by first | decide | assumption | exact vp_in_nI (by omega) (by decide)) ?_
      refine st_inc rfl rfl ?_
      refine st_go rfl ?_
      -- at 12: stop
      rw [nI_clamp (by omega)]
      refine ih _ _ ⟨_, nI_1 i, rfl, hs.sI _ (by omega), by rw [gI_ne (Or.inl (by decide))]; exact hg, fun q hq2 => ?_⟩
      by_cases z : q = i
      · subst z; exact gI_same _ _ _ _
      · rw [gI_ne (Or.inr z)]; exact hq q (by omega)
    · rintro L M1 ⟨x, rfl, rfl, hs, hg, hq⟩
      have hM1 := hs.ok hM
      refine st_ild rfl rfl ?_
      refine st_ald rfl rfl ?_
      refine st_gI rfl (by first | exact tT hM1 rfl | assumption | exact rw_T hM1 (by assumption) | exact rw_A hM1 (by assumption)) ?_
      -- at 17: stop
      refine wp_e hg ?_
      refine st_b2 rfl (fun _ => ?_) (fun zq => absurd (nI_le (by omega) (by omega)) zq)
      -- at 38: op_vret
      exact st_vret rfl ⟨rfl, ⟨hg, hl, hq, h9⟩, hs⟩)
  subst hr0
  exact ⟨M', hcc, h5, h6⟩
theorem m_lastOf (d : Nat) (hw : cf_wf c) {s : St} (h : wS c s) : pm_call (d + 1) 230 [.int (nI (si s))] M (some (.int (l32 s.2.1))) M := by
  obtain ⟨d1, d2, d3, d4, d5⟩ := si_d hw h
  refine en_230 (Nat.le_of_ble_eq_true rfl) ?_
  refine st_ild rfl rfl ?_
  refine st_k rfl ?_
  refine st_idv rfl ((by decide)) ?_
  -- at 4: stop
  refine wp_e (pk_rem (a := si s) (d := 14) (by omega) (by decide) (by decide)) ?_
  refine st_k rfl ?_
  refine st_idv rfl ((by decide)) ?_
  -- at 6: stop
  refine wp_e (pk_div (a := si s % 14) (d := 2) (by omega) (by decide) (by decide)) ?_
  refine st_k rfl ?_
  refine st_ib rfl ?_
  -- at 8: op_iret
  refine st_iret rfl ⟨?_, rfl⟩
  rw [d2]
  exact congrArg (fun z => some (Value.int z)) (la_32 _ (by have := lst6 hw h.2.1; omega)).1
theorem m_stateOf (d : Nat) {r k p : Nat} : pm_call (d + 1) 224 [.int (nI r), .int (nI k), .int (nI p)] M (some (.int (nI (14 * r + 2 * (k + 1) + p)))) M := by
  refine en_224 (Nat.le_of_ble_eq_true rfl) ?_
  refine st_k rfl ?_
  refine st_ild rfl rfl ?_
  refine st_ib rfl ?_
  refine st_k rfl ?_
  refine st_ild rfl rfl ?_
  refine st_k rfl ?_
  refine st_ib rfl ?_
  refine st_ib rfl ?_
  refine st_ib rfl ?_
  refine st_ild rfl rfl ?_
  refine st_ib rfl ?_
  -- at 12: op_iret
  refine st_iret rfl ⟨?_, rfl⟩
  show some (Value.int (nI 14 * nI r + nI 2 * (nI k + nI 1) + nI p)) = _
  rw [nI_add, pk_mul, pk_mul, nI_add, nI_add]
theorem m_isSaid (d : Nat) (hM : pm_ok M) (hw : cf_wf c) (hc : MC c M) (hm : MM m M) {s : St} (h : wS c s) : pm_call (d + 1) 228 [.ref 132, .int (nI (si s))] M (some (.int (if sdn c m s = true then 1 else 0))) M := by
  obtain ⟨d1, d2, d3, d4, d5⟩ := si_d hw h
  have hl := hm.2.1
  have h12 := h.1
  have l6 := lst6 hw h.2.1
  refine en_228 (Nat.le_of_ble_eq_true rfl) ?_
  refine st_ild rfl rfl ?_
  refine st_k rfl ?_
  refine st_idv rfl ((by decide)) ?_
  -- at 4: stop
  refine wp_e (pk_div (a := si s) (d := 14) (by omega) (by decide) (by decide)) ?_
  rw [d1]
  refine st_ist rfl ?_
  refine st_ild rfl rfl ?_
  refine st_k rfl ?_
  refine st_idv rfl ((by decide)) ?_
  -- at 9: stop
  refine wp_e (pk_rem (a := si s) (d := 14) (by omega) (by decide) (by decide)) ?_
  refine st_k rfl ?_
  refine st_idv rfl ((by decide)) ?_
  -- at 11: stop
  refine wp_e (pk_div (a := si s % 14) (d := 2) (by omega) (by decide) (by decide)) ?_
  rw [d2]
  refine st_k rfl ?_
  refine st_ib rfl ?_
  -- at 13: stop
  refine wp_e (la_32 _ (by omega)).1 ?_
  refine st_ist rfl ?_
  refine st_ild rfl rfl ?_
  refine st_k rfl ?_
  refine st_idv rfl ((by decide)) ?_
  -- at 17: stop
  refine wp_e (pk_rem (a := si s) (d := 2) (by omega) (by decide) (by decide)) ?_
  rw [d3]
  obtain ⟨r, last, o⟩ := s
  cases o with
  | false =>
    have no : ∀ e : r = m.length ∨ ¬ r = m.length, (if sdn c m (r, last, false) = true then (1 : Int32) else 0) = if r = m.length then 1 else 0 := fun _ => by unfold sdn; simp
    rw [no (Decidable.em _)]
    refine st_b1 rfl (fun zq => absurd zq ((fun z => z rfl))) (fun _ => ?_)
    refine st_ild rfl rfl ?_
    refine st_ald rfl rfl ?_
    refine st_gI rfl (by first | exact tT hM rfl | assumption | exact rw_T hM (by assumption) | exact rw_A hM (by assumption)) ?_
    -- at 25: stop
    refine wp_e hm.1 ?_
    by_cases g : r = m.length
    · refine st_b2 rfl (fun zq => absurd zq ((fun z => z (by rw [← g])))) (fun _ => ?_)
      refine st_k rfl ?_
      refine st_go rfl ?_
      -- at 66: op_zret
      exact st_zret rfl (by decide) ⟨by rw [if_pos g], rfl⟩
    · refine st_b2 rfl (fun _ => ?_) (fun zq => absurd ((fun z => g ((nI_eq (by omega) (by omega)).mp z))) zq)
      refine st_k rfl ?_
      refine st_go rfl ?_
      -- at 66: op_zret
      exact st_zret rfl (by decide) ⟨by rw [if_neg g], rfl⟩
  | true =>
    have hln : last < cf_n c := h.2.2.1 rfl
    have hn := hw.1
    have hin := in6 hw hln
    have e1 : l32 last = nI last := lk_l32 hw hln
    have hsg := (hw.2.2.2.2.2.1 last hln).2.2.2.1
    have no : (if sdn c m (r, last, true) = true then (1 : Int32) else 0) = if r + 1 = m.length ∧ cf_sg c last = m.getD r 0 then 1 else 0 := by unfold sdn; simp
    rw [no, e1]
    refine st_b1 rfl (fun _ => ?_) (fun zq => absurd ((show ¬ nI 1 = 0 by decide)) zq)
    refine st_ild rfl rfl ?_
    refine st_ald rfl rfl ?_
    refine st_gI rfl (by first | exact tT hM rfl | assumption | exact rw_T hM (by assumption) | exact rw_A hM (by assumption)) ?_
    -- at 41: stop
    refine wp_e hm.1 ?_
    by_cases g : r + 1 = m.length
    · have hin2 : vp_in (nI r) 12 := vp_in_nI (by omega) (by decide)
      have hm9 := mm_9 hm (show r < m.length by omega)
      refine st_k rfl ?_
      refine st_ib rfl ?_
      refine st_b2 rfl (fun zq => absurd zq ((fun z => z ((pre_len (by omega) (by omega)).mpr g)))) (fun _ => ?_)
      refine st_ald rfl rfl ?_
      refine st_gR' rfl (by first | exact tT hM rfl | assumption | exact rw_T hM (by assumption) | exact rw_A hM (by assumption)) (by first | exact rR hM rfl rfl | assumption | exact rw_R hM (by assumption)) ?_
      refine st_ild rfl rfl ?_
      refine st_iald rfl (by first | exact tT hM rfl | assumption | exact rw_T hM (by assumption) | exact rw_A hM (by assumption)) (by first | decide | assumption | exact vp_in_nI (by omega) (by decide)) ?_
      -- at 52: stop
      refine wp_e (y := nI (cf_sg c last)) (by rw [nI_clamp (by omega)]; exact (hc.2.1 last hln).2.2.1) ?_
      refine st_ald rfl rfl ?_
      refine st_gR' rfl (by first | exact tT hM rfl | assumption | exact rw_T hM (by assumption) | exact rw_A hM (by assumption)) (by first | exact rR hM rfl rfl | assumption | exact rw_R hM (by assumption)) ?_
      refine st_ild rfl rfl ?_
      refine st_iald rfl (by first | exact tT hM rfl | assumption | exact rw_T hM (by assumption) | exact rw_A hM (by assumption)) (by first | decide | assumption | exact vp_in_nI (by omega) (by decide)) ?_
      -- at 58: stop
      refine wp_e (y := nI (m.getD r 0)) (by rw [nI_clamp (by omega)]; exact hm.2.2.1 r (by omega)) ?_
      by_cases g2 : cf_sg c last = m.getD r 0
      · refine st_b2 rfl (fun zq => absurd zq ((fun z => z (by rw [g2])))) (fun _ => ?_)
        refine st_k rfl ?_
        refine st_go rfl ?_
        -- at 66: op_zret
        exact st_zret rfl (by decide) ⟨by rw [if_pos ⟨g, g2⟩], rfl⟩
      · refine st_b2 rfl (fun _ => ?_) (fun zq => absurd ((fun z => g2 ((nI_eq (by omega) (by omega)).mp z))) zq)
        refine st_k rfl ?_
        -- at 66: op_zret
        exact st_zret rfl (by decide) ⟨by rw [if_neg (fun z => g2 z.2)], rfl⟩
    · refine st_k rfl ?_
      refine st_ib rfl ?_
      refine st_b2 rfl (fun _ => ?_) (fun zq => absurd ((fun z => g ((pre_len (by omega) (by omega)).mp z))) zq)
      refine st_k rfl ?_
      -- at 66: op_zret
      exact st_zret rfl (by decide) ⟨by rw [if_neg (fun z => g z.1)], rfl⟩
theorem m_stateBehind (d : Nat) (hM : pm_ok M) (hw : cf_wf c) (hc : MC c M) (hm : MM m M) {s : St} (h : wS c s) {k : Nat} (hk : k < cf_n c) : pm_call (d + 2) 229 [.ref 132, .int (nI (si s)), .int (nI k)] M (some (.int (n9 (nx c m s k)))) M := by
  obtain ⟨d1, d2, d3, d4, d5⟩ := si_d hw h
  have hl := hm.2.1
  have h12 := h.1
  have hn := hw.1
  have l6 := lst6 hw h.2.1
  refine en_229 (Nat.le_of_ble_eq_true rfl) ?_
  refine st_ild rfl rfl ?_
  refine st_k rfl ?_
  refine st_idv rfl ((by decide)) ?_
  -- at 4: stop
  refine wp_e (pk_div (a := si s) (d := 14) (by omega) (by decide) (by decide)) ?_
  rw [d1]
  refine st_ist rfl ?_
  refine st_ild rfl rfl ?_
  refine st_k rfl ?_
  refine st_idv rfl ((by decide)) ?_
  -- at 9: stop
  refine wp_e (pk_rem (a := si s) (d := 14) (by omega) (by decide) (by decide)) ?_
  refine st_k rfl ?_
  refine st_idv rfl ((by decide)) ?_
  -- at 11: stop
  refine wp_e (pk_div (a := si s % 14) (d := 2) (by omega) (by decide) (by decide)) ?_
  rw [d2]
  refine st_k rfl ?_
  refine st_ib rfl ?_
  -- at 13: stop
  refine wp_e (la_32 _ (by omega)).1 ?_
  refine st_ist rfl ?_
  refine st_ild rfl rfl ?_
  refine st_ald rfl rfl ?_
  refine st_gI rfl (by first | exact tT hM rfl | assumption | exact rw_T hM (by assumption) | exact rw_A hM (by assumption)) ?_
  -- at 20: stop
  refine wp_e hm.1 ?_
  obtain ⟨r, last, o⟩ := s
  dsimp only at *
  by_cases gr : m.length ≤ r
  · refine st_b2 rfl (fun _ => ?_) (fun zq => absurd (nI_le gr (by omega)) zq)
    refine st_k rfl ?_
    -- at 44: op_iret
    exact st_iret rfl ⟨by unfold nx; rw [if_pos (Or.inl gr)]; rfl, rfl⟩
  have hr : r < m.length := by omega
  have hin2 : vp_in (nI r) 12 := vp_in_nI (by omega) (by decide)
  have hm9 := mm_9 hm hr
  have la1 : la k = k + 1 := by unfold la; rw [if_pos (by omega)]
  have rest : ¬ bar c last k = true → pm_WP (pm_call (d + 1)) tb_229 (fun r0 M1 => r0 = some (.int (n9 (nx c m (r, last, o) k))) ∧ M1 = M) 45 [some (.ref 132), some (.int (nI (si (r, last, o)))), some (.int (nI k)), some (.int (nI r)), some (.int (l32 last)), none] [] M := by
    intro gb
    have nx1 : nx c m (r, last, o) k = if o = false then some (r, k, true) else match pr c last k with
        | some t => if t = m.getD r 0 then some (r + 1, k, false) else none
        | none => if cf_sg c last = m.getD r 0 then some (r + 1, k, true) else none := by
      unfold nx
      rw [if_neg (fun z => z.elim gr gb)]
      rfl
    refine st_ild rfl rfl ?_
    refine st_k rfl ?_
    refine st_idv rfl ((by decide)) ?_
    -- at 48: stop
    refine wp_e (pk_rem (a := si (r, last, o)) (d := 2) (by omega) (by decide) (by decide)) ?_
    rw [d3]
    cases o with
    | false =>
      refine st_b1 rfl (fun zq => absurd zq ((fun z => z rfl))) (fun _ => ?_)
      refine st_ild rfl rfl ?_
      refine st_ild rfl rfl ?_
      refine st_k rfl ?_
      refine st_call (As := [_, _, _]) rfl rfl rfl (Nat.le_of_ble_eq_true rfl) (m_stateOf (p := 1) d) ?_
      -- at 57: op_iret
      refine st_iret rfl ⟨?_, rfl⟩
      rw [nx1, if_pos rfl]
      show _ = some (Value.int (nI (14 * r + 2 * la k + 1)))
      rw [la1]
    | true =>
      have hln : last < cf_n c := h.2.2.1 rfl
      have hin := in6 hw hln
      have e1 : l32 last = nI last := lk_l32 hw hln
      have hsg := (hw.2.2.2.2.2.1 last hln).2.2.2.1
      rw [nx1, if_neg (by decide), e1]
      refine st_b1 rfl (fun _ => ?_) (fun zq => absurd ((show ¬ nI 1 = 0 by decide)) zq)
      refine st_ald rfl rfl ?_
      refine st_ild rfl rfl ?_
      refine st_ild rfl rfl ?_
      refine st_cav (As := [_, _]) rfl rfl rfl (by first | exact tT hM rfl | assumption | exact rw_T hM (by assumption) | exact rw_A hM (by assumption)) (Nat.le_of_ble_eq_true rfl) (m_pairSign d hM hw hc hln hk) ?_
      refine st_ist rfl ?_
      -- at 67: stop
      cases hp : pr c last k with
      | none =>
        refine st_ild rfl rfl ?_
        refine st_k rfl ?_
        refine st_b2 rfl (fun _ => ?_) (fun zq => absurd (rfl) zq)
        refine st_ald rfl rfl ?_
        refine st_gR' rfl (by first | exact tT hM rfl | assumption | exact rw_T hM (by assumption) | exact rw_A hM (by assumption)) (by first | exact rR hM rfl rfl | assumption | exact rw_R hM (by assumption)) ?_
        refine st_ild rfl rfl ?_
        refine st_iald rfl (by first | exact tT hM rfl | assumption | exact rw_T hM (by assumption) | exact rw_A hM (by assumption)) (by first | decide | assumption | exact vp_in_nI (by omega) (by decide)) ?_
        -- at 106: stop
        refine wp_e (y := nI (cf_sg c last)) (by rw [nI_clamp (by omega)]; exact (hc.2.1 last hln).2.2.1) ?_
        refine st_ald rfl rfl ?_
        refine st_gR' rfl (by first | exact tT hM rfl | assumption | exact rw_T hM (by assumption) | exact rw_A hM (by assumption)) (by first | exact rR hM rfl rfl | assumption | exact rw_R hM (by assumption)) ?_
        refine st_ild rfl rfl ?_
        refine st_iald rfl (by first | exact tT hM rfl | assumption | exact rw_T hM (by assumption) | exact rw_A hM (by assumption)) (by first | decide | assumption | exact vp_in_nI (by omega) (by decide)) ?_
        -- at 112: stop
        refine wp_e (y := nI (m.getD r 0)) (by rw [nI_clamp (by omega)]; exact hm.2.2.1 r hr) ?_
        by_cases g2 : cf_sg c last = m.getD r 0
        · refine st_b2 rfl (fun zq => absurd zq ((fun z => z (by rw [g2])))) (fun _ => ?_)
          refine st_ild rfl rfl ?_
          refine st_k rfl ?_
          refine st_ib rfl ?_
          -- at 118: stop
          rw [nI_1]
          refine st_ild rfl rfl ?_
          refine st_k rfl ?_
          refine st_call (As := [_, _, _]) rfl rfl rfl (Nat.le_of_ble_eq_true rfl) (m_stateOf (p := 1) d) ?_
          refine st_go rfl ?_
          -- at 128: op_iret
          refine st_iret rfl ⟨?_, rfl⟩
          rw [if_pos g2]
          show _ = some (Value.int (nI (14 * (r + 1) + 2 * la k + 1)))
          rw [la1]
        · refine st_b2 rfl (fun _ => ?_) (fun zq => absurd ((fun z => g2 ((nI_eq (by omega) (by omega)).mp z))) zq)
          refine st_k rfl ?_
          -- at 128: op_iret
          exact st_iret rfl ⟨by rw [if_neg g2]; rfl, rfl⟩
      | some t =>
        have ht := pr_ps hw hp
        refine st_ild rfl rfl ?_
        refine st_k rfl ?_
        refine st_b2 rfl (fun zq => absurd zq ((fun z => by have := (n32_none hw (a := last) (b := k)).mp (by rw [hp]; exact z); rw [hp] at this; cases this))) (fun _ => ?_)
        refine st_ild rfl rfl ?_
        refine st_ald rfl rfl ?_
        refine st_gR' rfl (by first | exact tT hM rfl | assumption | exact rw_T hM (by assumption) | exact rw_A hM (by assumption)) (by first | exact rR hM rfl rfl | assumption | exact rw_R hM (by assumption)) ?_
        refine st_ild rfl rfl ?_
        refine st_iald rfl (by first | exact tT hM rfl | assumption | exact rw_T hM (by assumption) | exact rw_A hM (by assumption)) (by first | decide | assumption | exact vp_in_nI (by omega) (by decide)) ?_
        -- at 82: stop
        refine wp_e (y := nI (m.getD r 0)) (by rw [nI_clamp (by omega)]; exact hm.2.2.1 r hr) ?_
        by_cases g2 : t = m.getD r 0
        · refine st_b2 rfl (fun zq => absurd zq ((fun z => z (by rw [← g2]; rfl)))) (fun _ => ?_)
          refine st_ild rfl rfl ?_
          refine st_k rfl ?_
          refine st_ib rfl ?_
          -- at 88: stop
          rw [nI_1]
          refine st_ild rfl rfl ?_
          refine st_k rfl ?_
          refine st_call (As := [_, _, _]) rfl rfl rfl (Nat.le_of_ble_eq_true rfl) (m_stateOf (p := 0) d) ?_
          refine st_go rfl ?_
          -- at 98: op_iret
          refine st_iret rfl ⟨?_, rfl⟩
          dsimp only
          rw [if_pos g2]
          show _ = some (Value.int (nI (14 * (r + 1) + 2 * la k + 0)))
          rw [la1]
        · refine st_b2 rfl (fun _ => ?_) (fun zq => absurd ((fun z => g2 ((nI_eq (a := t) (by omega) (by omega)).mp z))) zq)
          refine st_k rfl ?_
          -- at 98: op_iret
          exact st_iret rfl ⟨by dsimp only; rw [if_neg g2]; rfl, rfl⟩
  rcases h.2.1 with hln | hl6
  · have hin := in6 hw hln
    have e1 : l32 last = nI last := lk_l32 hw hln
    obtain ⟨b1, b2⟩ := m_barred d hM hw hc hln hk
    rw [e1] at rest ⊢
    refine st_b2 rfl (fun zq => absurd zq (nI_ge hr (by omega))) (fun _ => ?_)
    refine st_ild rfl rfl ?_
    refine st_b1 rfl (fun zq => absurd zq (nI_pos (by omega))) (fun _ => ?_)
    refine st_ald rfl rfl ?_
    refine st_gR' rfl (by first | exact tT hM rfl | assumption | exact rw_T hM (by assumption) | exact rw_A hM (by assumption)) (by first | exact rR hM rfl rfl | assumption | exact rw_R hM (by assumption)) ?_
    refine st_ild rfl rfl ?_
    refine st_iald rfl (by first | exact tT hM rfl | assumption | exact rw_T hM (by assumption) | exact rw_A hM (by assumption)) (by first | decide | assumption | exact vp_in_nI (by omega) (by decide)) ?_
    -- at 35: stop
    refine wp_e (y := nI (cf_br c last)) (by rw [nI_clamp (by omega)]; exact b1) ?_
    refine st_ild rfl rfl ?_
    refine st_call (As := [_, _]) rfl rfl rfl (Nat.le_of_ble_eq_true rfl) (b2) ?_
    refine st_b1 rfl (fun g => ?_) (fun g => ?_)
    -- at 39: split 45 42
    · exact rest (fun z => b01_t z g)
    · have g := Decidable.not_not.mp (fun z => g (b01_f z))
      refine st_k rfl ?_
      -- at 44: op_iret
      exact st_iret rfl ⟨by unfold nx; rw [if_pos (Or.inr g)]; rfl, rfl⟩
  · dsimp only at hl6
    subst hl6
    refine st_b2 rfl (fun zq => absurd zq (nI_ge hr (by omega))) (fun _ => ?_)
    refine st_ild rfl rfl ?_
    refine st_b1 rfl (fun _ => ?_) (fun zq => absurd ((by decide)) zq)
    -- at 45: stop
    exact rest (by rw [bar6]; decide)
theorem nx_wS (hwf : cf_wf c) (hm : m.length ≤ 12) {s s' : St} {k : Nat} (hk : k < cf_n c) (hs : wS c s) (h : nx c m s k = some s') : wS c s' ∧ s'.1 ≤ m.length := by
  have h1 := nx_ok hk h
  have h2 : s'.1 ≤ s.1 + 1 ∧ s.1 < m.length := by
    obtain ⟨r, last, o⟩ := s
    unfold nx at h
    dsimp only at h
    split at h
    · cases h
    · rename_i hnb
      refine ⟨?_, Nat.lt_of_not_le (fun z => hnb (Or.inl z))⟩
      cases o with
      | false =>
        rw [if_pos rfl] at h
        injection h with h
        subst h
        exact Nat.le_succ _
      | true =>
        rw [if_neg (by decide)] at h
        cases hp : pr c last k with
        | some t =>
          rw [hp] at h
          dsimp only at h
          split at h
          · injection h with h
            subst h
            exact Nat.le_refl _
          · cases h
        | none =>
          rw [hp] at h
          dsimp only at h
          split at h
          · injection h with h
            subst h
            exact Nat.le_refl _
          · cases h
  exact ⟨⟨by omega, Or.inl (by rw [h1.1]; exact hk), h1.2, fun z => by have := hwf.1; rw [h1.1] at z; omega⟩, by omega⟩
end RMS

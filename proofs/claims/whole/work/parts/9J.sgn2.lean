/-! SIGNS CHANGED AMONG KNOTS: the class -/
/-- bits of those that are given -/
def gbt (w : List Nat) (g : Nat) : Prop := g < 64 ∧ ∀ i, g.testBit i = true ↔ i ∈ w
theorem gbt_s {w : List Nat} {g o : Nat} (h : gbt w g) (ho : o < 6) : nI g ||| (1 <<< (nI o &&& 31)) = nI (g ||| 2 ^ o) ∧ gbt (w ++ [o]) (g ||| 2 ^ o) := by
  refine ⟨or_bit g h.1 o ho, Nat.or_lt_two_pow (n := 6) h.1 (Nat.pow_lt_pow_right (by decide) ho), fun i => ?_⟩
  rw [Nat.testBit_or, Bool.or_eq_true, h.2 i, Nat.testBit_two_pow, List.mem_append, List.mem_singleton, decide_eq_true_iff]
  constructor
  · rintro (z | z)
    · exact Or.inl z
    · exact Or.inr z.symm
  · rintro (z | z)
    · exact Or.inl z
    · exact Or.inr z.symm
/-- bits of a MESSAGE's SIGNS -/
theorem bi_m {m : List Nat} (h : ∀ t, t ∈ m → t < 10) : ∀ i, i ≤ m.length → ∃ w : Nat, bi (m.map nI) i = nI w ∧ w < 1024 ∧ ∀ t, w.testBit t = true ↔ t ∈ m.take i
  | 0, _ => ⟨0, rfl, by decide, fun t => by simp⟩
  | i + 1, hi => by
    obtain ⟨w, h1, h2, h3⟩ := bi_m h i (by omega)
    have hl : i < m.length := by omega
    have ht := mem_gd h hl
    have e1 : ∀ t, t < 10 → (1 : Int32) <<< (nI t &&& 31) = nI (2 ^ t) ∧ 2 ^ t < 1024 := by decide +kernel
    obtain ⟨e2, e3⟩ := e1 _ ht
    refine ⟨w ||| 2 ^ (m.getD i 0), ?_, Nat.or_lt_two_pow (n := 10) h2 e3, fun t => ?_⟩
    · show bi (m.map nI) i ||| (1 <<< ((m.map nI).getD i 0 &&& 31)) = _
      rw [h1, map_getD hl, e2, nI_or (by omega) (by omega)]
    · rw [Nat.testBit_or, Bool.or_eq_true, h3 t, Nat.testBit_two_pow, decide_eq_true_iff, takeN_s hl, List.mem_append, List.mem_singleton]
      constructor
      · rintro (z | z)
        · exact Or.inl z
        · exact Or.inr z.symm
      · rintro (z | z)
        · exact Or.inl z
        · exact Or.inr z.symm
/-- what the class holds as it assigns -/
def SW (c : Cf) (m : List Nat) (o : Nat) (w : List Nat) (b : Bs) (M : pm_M) : Prop := CC c M ∧ pm_Ro M 35 (w.map nI) ∧ (∀ i, i < w.length → gI M 34 i = nI (cf_sg c (w.getD i 0))) ∧ gI M 33 5 = bi (m.map nI) m.length ∧ gI M 33 6 = nI b.1 ∧ (b.1 ≤ cf_rm c → pm_Ro M 39 (b.2.map nI)) ∧ gR M 33 4 = some o ∧ pm_Ro M o (m.map nI)
abbrev s33 : Nat → Prop := fun k => 27 ≤ k ∧ k ≤ 40
section SWC
variable {M : pm_M} {c : Cf} {m : List Nat} {o : Nat}
theorem c_doesAsWell (d : Nat) (hM : pm_ok M) (hw : cf_wf c) (h10 : ∀ t, t ∈ m → t < 10) (hb : gI M 33 5 = bi (m.map nI) m.length) {q k : Nat} (hq : q < cf_n c) (hk : k < cf_n c) : pm_call (d + 1) 79 [.ref 33, .int (nI (cf_sg c q)), .int (nI (cf_sg c k))] M (some (.int (if lik c m q k = true then 1 else 0))) M := by
  obtain ⟨w, w1, w2, w3⟩ := bi_m h10 m.length (Nat.le_refl _)
  rw [List.take_length] at w3
  rw [w1] at hb
  have sq := (hw.2.2.2.2.2.1 q hq).2.2.2.1
  have sk' := (hw.2.2.2.2.2.1 k hk).2.2.2.1
  have e1 := bit10 w w2 (cf_sg c q) (by omega)
  have e2 := bit10 w w2 (cf_sg c k) (by omega)
  refine en_79 (Nat.le_of_ble_eq_true rfl) ?_
  have fin : ∀ x : Nat, x ≤ 1 → (x = 1 ↔ (¬ cf_sg c q ∈ m ∧ ¬ cf_sg c k ∈ m)) → pm_WP (pm_call d) tb_79 (fun r0 M1 => r0 = some (.int (if lik c m q k = true then 1 else 0)) ∧ M1 = M) 27 [some (.ref 33), some (.int (nI (cf_sg c q))), some (.int (nI (cf_sg c k))), none] [.int (nI x)] M := by
    intro x hx hx2
    have el : lik c m q k = true ↔ (cf_sg c q = cf_sg c k ∨ x = 1) := by
      unfold lik
      rw [Bool.or_eq_true, Bool.and_eq_true, decide_eq_true_iff, decide_eq_true_iff, decide_eq_true_iff, hx2]
    by_cases g : cf_sg c q = cf_sg c k
    · refine st_ist rfl ?_
      refine st_ild rfl rfl ?_
      refine st_ild rfl rfl ?_
      refine st_b2 rfl (fun _ => ?_) (fun zq => absurd ((by rw [g])) zq)
      refine st_k rfl ?_
      refine st_go rfl ?_
      -- at 42: op_zret
      exact st_zret rfl (by decide) ⟨by rw [if_pos (el.mpr (Or.inl g))], rfl⟩
    · have gn : ¬ nI (cf_sg c q) = nI (cf_sg c k) := fun z => g ((nI_eq (by omega) (by omega)).mp z)
      by_cases g1 : x = 1
      · refine st_ist rfl ?_
        refine st_ild rfl rfl ?_
        refine st_ild rfl rfl ?_
        refine st_b2 rfl (fun zq => absurd zq (gn)) (fun _ => ?_)
        refine st_ild rfl rfl ?_
        refine st_b1 rfl (fun zq => absurd zq ((by rw [g1]; decide))) (fun _ => ?_)
        refine st_k rfl ?_
        refine st_go rfl ?_
        -- at 42: op_zret
        exact st_zret rfl (by decide) ⟨by rw [if_pos (el.mpr (Or.inr g1))], rfl⟩
      · refine st_ist rfl ?_
        refine st_ild rfl rfl ?_
        refine st_ild rfl rfl ?_
        refine st_b2 rfl (fun zq => absurd zq (gn)) (fun _ => ?_)
        refine st_ild rfl rfl ?_
        refine st_b1 rfl (fun _ => ?_) (fun zq => absurd ((by rw [show x = 0 by omega]; rfl)) zq)
        refine st_k rfl ?_
        -- at 42: op_zret
        exact st_zret rfl (by decide) ⟨by rw [if_neg (fun z => (el.mp z).elim g g1)], rfl⟩
  refine st_ald rfl rfl ?_
  refine st_gI rfl (by first | exact tT hM rfl | assumption | exact rw_T hM (by assumption) | exact rw_A hM (by assumption)) ?_
  -- at 4: stop
  refine wp_e hb ?_
  refine st_ild rfl rfl ?_
  refine st_ib rfl ?_
  refine st_k rfl ?_
  refine st_ib rfl ?_
  -- at 8: stop
  refine wp_e e1 ?_
  by_cases g1 : w.testBit (cf_sg c q) = true
  · rw [if_pos g1]
    refine st_b1 rfl (fun _ => ?_) (fun zq => absurd ((by decide)) zq)
    refine st_k rfl ?_
    -- at 27: stop
    exact fin 0 (by decide) ⟨fun z => by omega, fun z => absurd ((w3 _).mp g1) z.1⟩
  · rw [if_neg g1]
    refine st_b1 rfl (fun zq => absurd zq ((fun z => z rfl))) (fun _ => ?_)
    refine st_ald rfl rfl ?_
    refine st_gI rfl (by first | exact tT hM rfl | assumption | exact rw_T hM (by assumption) | exact rw_A hM (by assumption)) ?_
    -- at 15: stop
    refine wp_e hb ?_
    refine st_ild rfl rfl ?_
    refine st_ib rfl ?_
    refine st_k rfl ?_
    refine st_ib rfl ?_
    -- at 19: stop
    refine wp_e e2 ?_
    by_cases g2 : w.testBit (cf_sg c k) = true
    · rw [if_pos g2]
      refine st_b1 rfl (fun _ => ?_) (fun zq => absurd ((by decide)) zq)
      refine st_k rfl ?_
      -- at 27: stop
      exact fin 0 (by decide) ⟨fun z => by omega, fun z => absurd ((w3 _).mp g2) z.2⟩
    · rw [if_neg g2]
      refine st_b1 rfl (fun zq => absurd zq ((fun z => z rfl))) (fun _ => ?_)
      refine st_k rfl ?_
      refine st_go rfl ?_
      -- at 27: stop
      exact fin 1 (by decide) ⟨fun _ => ⟨fun z => g1 ((w3 _).mpr z), fun z => g2 ((w3 _).mpr z)⟩, fun _ => rfl⟩
theorem c_hasLikeAhead (d : Nat) (hM : pm_ok M) (hw : cf_wf c) (hc : CC c M) (h10 : ∀ t, t ∈ m → t < 10) (hb : gI M 33 5 = bi (m.map nI) m.length) {w : List Nat} {g k : Nat} (hg : gbt w g) (hk : k < cf_n c) : pm_call (d + 2) 78 [.ref 33, .int (nI k), .int (nI g)] M (some (.int (if pru c m w k = true then 1 else 0))) M := by
  have hn := hw.1
  have e4 : ∀ q, q < cf_n c → vp_in (nI q) 6 ∧ gI M 10 (nI q).toNatClampNeg = nI (cf_sg c q) := fun q hq => ⟨vp_in_nI (by omega) (by decide), by rw [nI_clamp (by omega)]; exact (hc.2.1 q hq).2.2⟩
  obtain ⟨i1, i2⟩ := e4 k hk
  refine en_78 (Nat.le_of_ble_eq_true rfl) ?_
  refine st_k rfl ?_
  refine st_ist rfl ?_
  -- at 2: stop
  refine wp_for k (fun q L M1 => ∃ x, x = nI q ∧ L = [some (.ref 33), some (.int (nI k)), some (.int (nI g)), some (.int x)] ∧ M1 = M ∧ anyb (fun q => decide (¬ q ∈ w) && lik c m q k) q = false) ?_ ?_ 0 _ _ (Nat.zero_le _) ⟨_, rfl, rfl, rfl, rfl⟩
  · rintro q L M1 hq ⟨x, rfl, rfl, rfl, ha⟩ ih
    obtain ⟨j1, j2⟩ := e4 q (by omega)
    have eb := bit_eq hg.1 (show q < 6 by omega)
    have es : ∀ P : Prop, (anyb (fun q => decide (¬ q ∈ w) && lik c m q k) (q + 1)) = (decide (¬ q ∈ w) && lik c m q k) := fun _ => by
      show (anyb (fun q => decide (¬ q ∈ w) && lik c m q k) q || _) = _
      rw [ha]
      rfl
    refine st_ild rfl rfl ?_
    refine st_ild rfl rfl ?_
    refine st_b2 rfl (fun zq => absurd zq (nI_ge hq (by omega))) (fun _ => ?_)
    refine st_ild rfl rfl ?_
    refine st_ild rfl rfl ?_
    refine st_ib rfl ?_
    refine st_k rfl ?_
    refine st_ib rfl ?_
    -- at 12: stop
    refine wp_e eb ?_
    by_cases g1 : g.testBit q = true
    · rw [if_pos g1]
      refine st_b1 rfl (fun _ => ?_) (fun zq => absurd ((by decide)) zq)
      refine st_inc rfl rfl ?_
      refine st_go rfl ?_
      -- at 2: stop
      exact ih _ _ ⟨_, nI_1 q, rfl, rfl, by rw [es True, decide_eq_false (fun z => z ((hg.2 q).mp g1))]; rfl⟩
    · rw [if_neg g1]
      have hnw : ¬ q ∈ w := fun z => g1 ((hg.2 q).mpr z)
      refine st_b1 rfl (fun zq => absurd zq ((fun z => z rfl))) (fun _ => ?_)
      refine st_ald rfl rfl ?_
      refine st_ald rfl rfl ?_
      refine st_gR' rfl (by first | exact tT hM rfl | assumption | exact rw_T hM (by assumption) | exact rw_A hM (by assumption)) (by first | exact rR hM rfl rfl | assumption | exact rw_R hM (by assumption)) ?_
      refine st_gR' rfl (by first | exact tT hM rfl | assumption | exact rw_T hM (by assumption) | exact rw_A hM (by assumption)) (by first | exact rR hM rfl rfl | assumption | exact rw_R hM (by assumption)) ?_
      refine st_ild rfl rfl ?_
      refine st_iald rfl (by first | exact tT hM rfl | assumption | exact rw_T hM (by assumption) | exact rw_A hM (by assumption)) (by first | decide | assumption | exact vp_in_nI (by omega) (by decide)) ?_
      -- at 25: stop
      refine wp_e j2 ?_
      refine st_ald rfl rfl ?_
      refine st_gR' rfl (by first | exact tT hM rfl | assumption | exact rw_T hM (by assumption) | exact rw_A hM (by assumption)) (by first | exact rR hM rfl rfl | assumption | exact rw_R hM (by assumption)) ?_
      refine st_gR' rfl (by first | exact tT hM rfl | assumption | exact rw_T hM (by assumption) | exact rw_A hM (by assumption)) (by first | exact rR hM rfl rfl | assumption | exact rw_R hM (by assumption)) ?_
      refine st_ild rfl rfl ?_
      refine st_iald rfl (by first | exact tT hM rfl | assumption | exact rw_T hM (by assumption) | exact rw_A hM (by assumption)) (by first | decide | assumption | exact vp_in_nI (by omega) (by decide)) ?_
      -- at 34: stop
      refine wp_e i2 ?_
      refine st_cav (As := [_, _]) rfl rfl rfl (by first | exact tT hM rfl | assumption | exact rw_T hM (by assumption) | exact rw_A hM (by assumption)) (Nat.le_of_ble_eq_true rfl) (c_doesAsWell d hM hw h10 hb (by omega) hk) ?_
      -- at 37: stop
      by_cases g2 : lik c m q k = true
      · refine st_b1 rfl (fun zq => absurd zq (b01_t g2)) (fun _ => ?_)
        refine st_k rfl ?_
        -- at 41: op_zret
        refine st_zret rfl (by decide) ⟨?_, rfl⟩
        rw [if_pos (show pru c m w k = true from (anyb_iff (f := fun q => decide (¬ q ∈ w) && lik c m q k) k).mpr ⟨q, hq, by rw [decide_eq_true hnw, g2]; rfl⟩)]
      · refine st_b1 rfl (fun _ => ?_) (fun zq => absurd (b01_f g2) zq)
        refine st_inc rfl rfl ?_
        refine st_go rfl ?_
        -- at 2: stop
        exact ih _ _ ⟨_, nI_1 q, rfl, rfl, by rw [es True, Bool.eq_false_iff.mpr g2, Bool.and_false]⟩
  · rintro L M1 ⟨x, rfl, rfl, rfl, ha⟩
    refine st_ild rfl rfl ?_
    refine st_ild rfl rfl ?_
    refine st_b2 rfl (fun _ => ?_) (fun zq => absurd (nI_le (Nat.le_refl _) (by omega)) zq)
    refine st_k rfl ?_
    -- at 49: op_zret
    refine st_zret rfl (by decide) ⟨?_, rfl⟩
    rw [if_neg (show ¬ pru c m w k = true by unfold pru; rw [ha]; decide)]
theorem SW.kept {w : List Nat} {b : Bs} {M' : pm_M} {S : Nat → Prop} (h : SW c m o w b M) (hs : pm_S S M M') (hn : ∀ k, S k → 27 ≤ k ∧ k ≤ 32) (ho : 40 < o) : SW c m o w b M' := by
  have q : ∀ k, (32 < k ∨ k < 27) → ¬ S k := fun k hk z => by have := hn k z; omega
  exact ⟨h.1.kept hs (fun k _ _ => q k (by omega)), h.2.1.kept hs (q _ (by omega)) (q _ (by omega)), fun i hi => by rw [hs.i (q _ (by omega))]; exact h.2.2.1 i hi, by rw [hs.i (q _ (by omega))]; exact h.2.2.2.1, by rw [hs.i (q _ (by omega))]; exact h.2.2.2.2.1, fun z => (h.2.2.2.2.2.1 z).kept hs (q _ (by omega)) (q _ (by omega)), by rw [hs.2.1]; exact h.2.2.2.2.2.2.1, h.2.2.2.2.2.2.2.kept hs (q _ (by omega)) (q _ (by omega))⟩
theorem ro35 : pm_rw 35 = true := by decide +kernel
theorem ro39 : pm_rw 39 = true := by decide +kernel
theorem c_assign (hw : cf_wf c) (h10 : ∀ t, t ∈ m → t < 10) (hl12 : m.length ≤ 12) (ho : pm_rw o = true) (ho2 : 40 < o) (d : Nat) : ∀ f w g b M, pm_ok M → f + w.length = cf_n c → okw (cf_n c) w → gbt w g → b.1 ≤ 1000 → SW c m o w b M → ∃ M', pm_call (d + 6 + f) 77 [.ref 33, .int (nI w.length), .int (nI g)] M none M' ∧ SW c m o w (AS (pru c m) (vl c m) (cf_n c) f w b) M' ∧ pm_S s33 M M' := by
  have hn := hw.1
  intro f
  induction f with
  | zero =>
    intro w g b M hM hl hok hg hb1 h
    have hwn : w.length = cf_n c := by omega
    have hwc := cs_wf hw hok.1 hwn
    obtain ⟨M1, hc1, p1, t1, s1⟩ := c_begin d (m := m) (c := cs c w) hM h.1 (al_cs c w) hw hwc ho (by omega) (Or.inr rfl) h.2.2.2.2.2.2.2 hl12 h10 (fun k hk => h.2.2.1 k (by rw [hwn]; exact hk))
    have hM1 := s1.ok hM
    have h1 := h.kept s1 (fun k hk => by omega) ho2
    have hvl := nv_lt (x := LF (cs c w) m 20 s00) (fun v hv => LF_lt hwc (m := m) (s := s00) (f := 20) (by omega) v hv)
    have hvv : vl c m w ≤ 1000 := hvl
    have s1' : pm_S s33 M M1 := s1.mo (fun k hk => by show _ ∧ _; omega)
    have lof := c_leastOfAll (d + 4) hM1 p1 t1
    by_cases gv : vl c m w < b.1
    · have hM2 : pm_ok (sI M1 33 6 (nI (vl c m w))) := hM1
      have s2 : pm_S (fun k => k = 33) M1 (sI M1 33 6 (nI (vl c m w))) := pm_S.sI (S := fun k => k = 33) pm_S.rf rfl _ _
      have r35 := h1.2.1.kept s2 (by decide) (by decide)
      have s3 : pm_S (pm_oo 39) (sI M1 33 6 (nI (vl c m w))) (sI (pm_cp (sI M1 33 6 (nI (vl c m w))) (35 + 1) (39 + 1) 0 0 (w.map nI).length) 39 1 (nI (w.map nI).length)) := s_become
      refine ⟨sI (pm_cp (sI M1 33 6 (nI (vl c m w))) (35 + 1) (39 + 1) 0 0 (w.map nI).length) 39 1 (nI (w.map nI).length), ?_, ?_, s1'.tr ((s2.mo (fun k hk => by rw [show k = 33 from hk]; decide)).tr (s3.mo (fun k hk => by rcases hk with z | z <;> (show _ ∧ _; omega))))⟩
      · refine en_77 (Nat.le_of_ble_eq_true rfl) ?_
        refine st_ild rfl rfl ?_
        refine st_ald rfl rfl ?_
        refine st_gR' rfl (by first | exact tT hM rfl | assumption | exact rw_T hM (by assumption) | exact rw_A hM (by assumption)) (by first | exact rR hM rfl rfl | assumption | exact rw_R hM (by assumption)) ?_
        refine st_gI rfl (by first | exact tT hM rfl | assumption | exact rw_T hM (by assumption) | exact rw_A hM (by assumption)) ?_
        -- at 8: stop
        refine wp_e h.1.1.2.2.1 ?_
        refine st_b2 rfl (fun zq => absurd zq (nI_nlt (by omega) (by omega))) (fun _ => ?_)
        refine st_ald rfl rfl ?_
        refine st_gR' rfl (by first | exact tT hM rfl | assumption | exact rw_T hM (by assumption) | exact rw_A hM (by assumption)) (by first | exact rR hM rfl rfl | assumption | exact rw_R hM (by assumption)) ?_
        refine st_ald rfl rfl ?_
        refine st_gR' rfl (tT hM rfl) (h.2.2.2.2.2.2.1) ?_
        refine st_ald rfl rfl ?_
        refine st_gR' rfl (by first | exact tT hM rfl | assumption | exact rw_T hM (by assumption) | exact rw_A hM (by assumption)) (by first | exact rR hM rfl rfl | assumption | exact rw_R hM (by assumption)) ?_
        refine st_cav (As := [_, _]) rfl rfl rfl (by first | exact tT hM rfl | assumption | exact rw_T hM (by assumption) | exact rw_A hM (by assumption)) (Nat.le_of_ble_eq_true rfl) (hc1) ?_
        -- at 26: stop
        refine st_ald rfl rfl ?_
        refine st_gR' rfl (by first | exact tT hM1 rfl | assumption | exact rw_T hM1 (by assumption) | exact rw_A hM1 (by assumption)) (by first | exact rR hM1 rfl rfl | assumption | exact rw_R hM1 (by assumption)) ?_
        refine st_cav (As := []) rfl rfl rfl (by first | exact tT hM1 rfl | assumption | exact rw_T hM1 (by assumption) | exact rw_A hM1 (by assumption)) (Nat.le_of_ble_eq_true rfl) (lof) ?_
        refine st_ald rfl rfl ?_
        refine st_gI rfl (by first | exact tT hM1 rfl | assumption | exact rw_T hM1 (by assumption) | exact rw_A hM1 (by assumption)) ?_
        -- at 37: stop
        refine wp_e h1.2.2.2.2.1 ?_
        refine st_b2 rfl (fun zq => absurd zq (nI_ge gv (by omega))) (fun _ => ?_)
        refine st_ald rfl rfl ?_
        refine st_ald rfl rfl ?_
        refine st_gR' rfl (by first | exact tT hM1 rfl | assumption | exact rw_T hM1 (by assumption) | exact rw_A hM1 (by assumption)) (by first | exact rR hM1 rfl rfl | assumption | exact rw_R hM1 (by assumption)) ?_
        refine st_cav (As := []) rfl rfl rfl (by first | exact tT hM1 rfl | assumption | exact rw_T hM1 (by assumption) | exact rw_A hM1 (by assumption)) (Nat.le_of_ble_eq_true rfl) (lof) ?_
        refine st_pI rfl (by first | exact tT hM1 rfl | assumption | exact rw_T hM1 (by assumption) | exact rw_A hM1 (by assumption)) ?_
        -- at 51: stop
        refine st_ald rfl rfl ?_
        refine st_gR' rfl (by first | exact tT hM2 rfl | assumption | exact rw_T hM2 (by assumption) | exact rw_A hM2 (by assumption)) (by first | exact rR hM2 rfl rfl | assumption | exact rw_R hM2 (by assumption)) ?_
        refine st_ald rfl rfl ?_
        refine st_gR' rfl (by first | exact tT hM2 rfl | assumption | exact rw_T hM2 (by assumption) | exact rw_A hM2 (by assumption)) (by first | exact rR hM2 rfl rfl | assumption | exact rw_R hM2 (by assumption)) ?_
        refine st_cav (As := [_]) rfl rfl rfl (by first | exact tT hM2 rfl | assumption | exact rw_T hM2 (by assumption) | exact rw_A hM2 (by assumption)) (Nat.le_of_ble_eq_true rfl) (c_become (d + 4) hM2 ro39 ro35 (by decide) r35) ?_
        -- at 62: op_vret
        exact st_vret rfl ⟨rfl, rfl⟩
      · unfold AS
        rw [if_pos gv]
        have q : ∀ k, k ≠ 33 → k ≠ 39 → k ≠ 40 → ∀ i, gI (sI (pm_cp (sI M1 33 6 (nI (vl c m w))) (35 + 1) (39 + 1) 0 0 (w.map nI).length) 39 1 (nI (w.map nI).length)) k i = gI M1 k i := fun k z1 z2 z3 i => by rw [gI_ne (Or.inl z2), gI_cp, if_neg (fun z => z3 z.1), gI_ne (Or.inl z1)]
        have sAll : pm_S (fun k => k = 33 ∨ k = 39 ∨ k = 40) M1 (sI (pm_cp (sI M1 33 6 (nI (vl c m w))) (35 + 1) (39 + 1) 0 0 (w.map nI).length) 39 1 (nI (w.map nI).length)) := (s2.mo (fun k hk => Or.inl hk)).tr (s3.mo (fun k hk => by rcases hk with z | z <;> (show _ ∨ _; omega)))
        refine ⟨h1.1.kept sAll (fun k _ _ => by show ¬ (_ ∨ _); omega), h1.2.1.kept sAll (by show ¬ (_ ∨ _); omega) (by show ¬ (_ ∨ _); omega), fun i hi => by rw [q 34 (by decide) (by decide) (by decide)]; exact h1.2.2.1 i hi, ?_, ?_, fun _ => ro_become r35, by rw [sAll.2.1]; exact h1.2.2.2.2.2.2.1, h1.2.2.2.2.2.2.2.kept sAll (by show ¬ (_ ∨ _); omega) (by show ¬ (_ ∨ _); omega)⟩
        · rw [gI_ne (Or.inl (by decide)), gI_cp, if_neg (by omega), gI_ne (Or.inr (by decide))]; exact h1.2.2.2.1
        · rw [gI_ne (Or.inl (by decide)), gI_cp, if_neg (by omega), gI_same]
    · refine ⟨M1, ?_, ?_, s1'⟩
      · refine en_77 (Nat.le_of_ble_eq_true rfl) ?_
        refine st_ild rfl rfl ?_
        refine st_ald rfl rfl ?_
        refine st_gR' rfl (by first | exact tT hM rfl | assumption | exact rw_T hM (by assumption) | exact rw_A hM (by assumption)) (by first | exact rR hM rfl rfl | assumption | exact rw_R hM (by assumption)) ?_
        refine st_gI rfl (by first | exact tT hM rfl | assumption | exact rw_T hM (by assumption) | exact rw_A hM (by assumption)) ?_
        -- at 8: stop
        refine wp_e h.1.1.2.2.1 ?_
        refine st_b2 rfl (fun zq => absurd zq (nI_nlt (by omega) (by omega))) (fun _ => ?_)
        refine st_ald rfl rfl ?_
        refine st_gR' rfl (by first | exact tT hM rfl | assumption | exact rw_T hM (by assumption) | exact rw_A hM (by assumption)) (by first | exact rR hM rfl rfl | assumption | exact rw_R hM (by assumption)) ?_
        refine st_ald rfl rfl ?_
        refine st_gR' rfl (tT hM rfl) (h.2.2.2.2.2.2.1) ?_
        refine st_ald rfl rfl ?_
        refine st_gR' rfl (by first | exact tT hM rfl | assumption | exact rw_T hM (by assumption) | exact rw_A hM (by assumption)) (by first | exact rR hM rfl rfl | assumption | exact rw_R hM (by assumption)) ?_
        refine st_cav (As := [_, _]) rfl rfl rfl (by first | exact tT hM rfl | assumption | exact rw_T hM (by assumption) | exact rw_A hM (by assumption)) (Nat.le_of_ble_eq_true rfl) (hc1) ?_
        -- at 26: stop
        refine st_ald rfl rfl ?_
        refine st_gR' rfl (by first | exact tT hM1 rfl | assumption | exact rw_T hM1 (by assumption) | exact rw_A hM1 (by assumption)) (by first | exact rR hM1 rfl rfl | assumption | exact rw_R hM1 (by assumption)) ?_
        refine st_cav (As := []) rfl rfl rfl (by first | exact tT hM1 rfl | assumption | exact rw_T hM1 (by assumption) | exact rw_A hM1 (by assumption)) (Nat.le_of_ble_eq_true rfl) (lof) ?_
        refine st_ald rfl rfl ?_
        refine st_gI rfl (by first | exact tT hM1 rfl | assumption | exact rw_T hM1 (by assumption) | exact rw_A hM1 (by assumption)) ?_
        -- at 37: stop
        refine wp_e h1.2.2.2.2.1 ?_
        refine st_b2 rfl (fun _ => ?_) (fun zq => absurd (nI_le (show b.1 ≤ vl c m w by omega) (by omega)) zq)
        -- at 62: op_vret
        exact st_vret rfl ⟨rfl, rfl⟩
      · unfold AS
        rw [if_neg gv]
        exact h1
  | succ f ih =>
    intro w g b M hM hl hok hg hb1 h
    have hwl : w.length < cf_n c := by omega
    obtain ⟨r, M', hcc, hr, h5, h6⟩ := eq_77 (d := d + 6 + f) (A := [.ref 33, .int (nI w.length), .int (nI g)]) (M := M) (Q := fun r M' => r = none ∧ SW c m o w (AS (pru c m) (vl c m) (cf_n c) (f + 1) w b) M' ∧ pm_S s33 M M') (Nat.le_of_ble_eq_true rfl) (by
      refine st_ild rfl rfl ?_
      refine st_ald rfl rfl ?_
      refine st_gR' rfl (by first | exact tT hM rfl | assumption | exact rw_T hM (by assumption) | exact rw_A hM (by assumption)) (by first | exact rR hM rfl rfl | assumption | exact rw_R hM (by assumption)) ?_
      refine st_gI rfl (by first | exact tT hM rfl | assumption | exact rw_T hM (by assumption) | exact rw_A hM (by assumption)) ?_
      -- at 8: stop
      refine wp_e h.1.1.2.2.1 ?_
      refine st_b2 rfl (fun _ => ?_) (fun zq => absurd (nI_lt hwl (by omega)) zq)
      refine st_k rfl ?_
      refine st_ist rfl ?_
      -- at 65: stop
      refine wp_for (cf_n c) (fun k L M1 => ∃ x, x = nI k ∧ L = [some (.ref 33), some (.int (nI w.length)), some (.int (nI g)), some (.int x)] ∧ pm_S s33 M M1 ∧ SW c m o w (lpb (fun o b => if o ∈ w then b else if pru c m w o = true then b else AS (pru c m) (vl c m) (cf_n c) f (w ++ [o]) b) k b) M1) ?_ ?_ 0 _ _ (Nat.zero_le _) ⟨_, rfl, rfl, pm_S.rf, h⟩
      · rintro k L M1 hk ⟨x, rfl, rfl, s1, h1⟩ ih2
        have hM1 := s1.ok hM
        have eb := bit_eq hg.1 (show k < 6 by omega)
        have hbk : (lpb (fun o b => if o ∈ w then b else if pru c m w o = true then b else AS (pru c m) (vl c m) (cf_n c) f (w ++ [o]) b) k b).1 ≤ 1000 := Nat.le_trans (lpb_mono (fun o b => by
          split
          · exact Nat.le_refl _
          · split
            · exact Nat.le_refl _
            · exact AS_mono f _ b) k b) hb1
        generalize hB : lpb (fun o b => if o ∈ w then b else if pru c m w o = true then b else AS (pru c m) (vl c m) (cf_n c) f (w ++ [o]) b) k b = B at h1 hbk
        have hnext : lpb (fun o b => if o ∈ w then b else if pru c m w o = true then b else AS (pru c m) (vl c m) (cf_n c) f (w ++ [o]) b) (k + 1) b = if k ∈ w then B else if pru c m w k = true then B else AS (pru c m) (vl c m) (cf_n c) f (w ++ [k]) B := by rw [lpb_s, hB]
        refine st_ild rfl rfl ?_
        refine st_ald rfl rfl ?_
        refine st_gR' rfl (by first | exact tT hM1 rfl | assumption | exact rw_T hM1 (by assumption) | exact rw_A hM1 (by assumption)) (by first | exact rR hM1 rfl rfl | assumption | exact rw_R hM1 (by assumption)) ?_
        refine st_gI rfl (by first | exact tT hM1 rfl | assumption | exact rw_T hM1 (by assumption) | exact rw_A hM1 (by assumption)) ?_
        -- at 73: stop
        refine wp_e h1.1.1.2.2.1 ?_
        refine st_b2 rfl (fun zq => absurd zq (nI_ge hk (by omega))) (fun _ => ?_)
        refine st_ild rfl rfl ?_
        refine st_ild rfl rfl ?_
        refine st_ib rfl ?_
        refine st_k rfl ?_
        refine st_ib rfl ?_
        -- at 81: stop
        refine wp_e eb ?_
        by_cases g1 : g.testBit k = true
        · rw [if_pos g1]
          refine st_b1 rfl (fun _ => ?_) (fun zq => absurd ((by decide)) zq)
          refine st_inc rfl rfl ?_
          refine st_go rfl ?_
          -- at 65: stop
          exact ih2 _ _ ⟨_, nI_1 k, rfl, s1, by rw [hnext, if_pos ((hg.2 k).mp g1)]; exact h1⟩
        · have hkw : ¬ k ∈ w := fun z => g1 ((hg.2 k).mpr z)
          have hla := c_hasLikeAhead (d + 4 + f) hM1 hw h1.1 h10 h1.2.2.2.1 hg hk
          rw [show d + 4 + f + 2 = d + 6 + f by omega] at hla
          rw [if_neg g1]
          refine st_b1 rfl (fun zq => absurd zq ((fun z => z rfl))) (fun _ => ?_)
          refine st_ald rfl rfl ?_
          refine st_ild rfl rfl ?_
          refine st_ild rfl rfl ?_
          refine st_cav (As := [_, _]) rfl rfl rfl (by first | exact tT hM1 rfl | assumption | exact rw_T hM1 (by assumption) | exact rw_A hM1 (by assumption)) (Nat.le_of_ble_eq_true rfl) (hla) ?_
          -- at 90: stop
          by_cases g2 : pru c m w k = true
          · refine st_b1 rfl (fun _ => ?_) (fun zq => absurd (b01_t g2) zq)
            refine st_inc rfl rfl ?_
            refine st_go rfl ?_
            -- at 65: stop
            exact ih2 _ _ ⟨_, nI_1 k, rfl, s1, by rw [hnext, if_neg hkw, if_pos g2]; exact h1⟩
          · obtain ⟨o1, o2⟩ := gbt_s hg (show k < 6 by omega)
            have hin6 : vp_in (nI k) 6 := vp_in_nI (by omega) (by decide)
            have hinw : vp_in (nI w.length) 6 := vp_in_nI (by omega) (by decide)
            have ew : (nI w.length).toNatClampNeg = w.length := nI_clamp (by omega)
            have s2 : pm_S s33 M1 (sI M1 34 w.length (nI (cf_sg c k))) := pm_S.rf.sI (by decide) _ _
            have hM2 := s2.ok hM1
            have r35 : pm_Ro (sI M1 34 w.length (nI (cf_sg c k))) 35 (w.map nI) := h1.2.1.kept (S := fun k => k = 34) (pm_S.sI (S := fun k => k = 34) pm_S.rf rfl _ _) (by decide) (by decide)
            have hw40 : (w.map nI).length < 40 := by rw [map_len]; omega
            have r35' := ro_add r35 hw40 (nI k)
            rw [show w.map nI ++ [nI k] = (w ++ [k]).map nI by simp] at r35'
            have cad := c_add (d + 5 + f) hM2 ro35 r35 hw40 (nI k)
            rw [show d + 5 + f + 1 = d + 6 + f by omega] at cad
            have s3 : pm_S (pm_oo 35) (sI M1 34 w.length (nI (cf_sg c k))) (sI (sI (sI M1 34 w.length (nI (cf_sg c k))) (35 + 1) (w.map nI).length (nI k)) 35 1 (nI ((w.map nI).length + 1))) := s_add
            have s23 : pm_S (fun k => 34 ≤ k ∧ k ≤ 36) M1 (sI (sI (sI M1 34 w.length (nI (cf_sg c k))) (35 + 1) (w.map nI).length (nI k)) 35 1 (nI ((w.map nI).length + 1))) := (pm_S.rf.sI (S := fun k => 34 ≤ k ∧ k ≤ 36) (by decide) _ _).tr (s3.mo (fun k hk => by rcases hk with z | z <;> (show _ ∧ _; omega)))
            have g34 : ∀ i, i < (w ++ [k]).length → gI (sI (sI (sI M1 34 w.length (nI (cf_sg c k))) (35 + 1) (w.map nI).length (nI k)) 35 1 (nI ((w.map nI).length + 1))) 34 i = nI (cf_sg c ((w ++ [k]).getD i 0)) := by
              intro i hi
              rw [List.length_append, List.length_singleton] at hi
              rw [gI_ne (Or.inl (by decide)), gI_ne (Or.inl (by decide))]
              by_cases z : i = w.length
              · subst z
                rw [gI_same]
                simp
              · rw [gI_ne (Or.inr z), h1.2.2.1 i (by omega)]
                congr 2
                simp [List.getD_eq_getElem?_getD, List.getElem?_append_left (show i < w.length by omega)]
            generalize hM3' : sI (sI (sI M1 34 w.length (nI (cf_sg c k))) (35 + 1) (w.map nI).length (nI k)) 35 1 (nI ((w.map nI).length + 1)) = M3 at s3 s23 r35' cad g34
            have hM3 := s23.ok hM1
            have h3 : SW c m o (w ++ [k]) B M3 := ⟨h1.1.kept s23 (fun k _ _ => by show ¬ (_ ∧ _); omega), r35', g34, by rw [s23.i (by show ¬ (_ ∧ _); omega)]; exact h1.2.2.2.1, by rw [s23.i (by show ¬ (_ ∧ _); omega)]; exact h1.2.2.2.2.1, fun z => (h1.2.2.2.2.2.1 z).kept s23 (by show ¬ (_ ∧ _); omega) (by show ¬ (_ ∧ _); omega), by rw [s23.2.1]; exact h1.2.2.2.2.2.2.1, h1.2.2.2.2.2.2.2.kept s23 (by show ¬ (_ ∧ _); omega) (by show ¬ (_ ∧ _); omega)⟩
            obtain ⟨M4, hc4, h4, s4⟩ := ih (w ++ [k]) (g ||| 2 ^ k) B M3 hM3 (by simp; omega) (okw_s hok hk hkw) o2 hbk h3
            rw [show (w ++ [k]).length = w.length + 1 by simp] at hc4
            have hM4 := s4.ok hM3
            have e35 : gI M4 35 1 = nI (w.length + 1) := by rw [h4.2.1.1, map_len]; simp
            have s5 : pm_S (fun k => k = 35) M4 (sI M4 35 1 (nI w.length)) := pm_S.sI (S := fun k => k = 35) pm_S.rf rfl _ _
            have h5 : SW c m o w (AS (pru c m) (vl c m) (cf_n c) f (w ++ [k]) B) (sI M4 35 1 (nI w.length)) := by
              refine ⟨h4.1.kept s5 (fun k _ _ => by show ¬ k = 35; omega), ⟨by rw [gI_same, map_len], by rw [map_len]; omega, fun i hi => ?_⟩, fun i hi => ?_, by rw [s5.i (by decide)]; exact h4.2.2.2.1, by rw [s5.i (by decide)]; exact h4.2.2.2.2.1, fun z => (h4.2.2.2.2.2.1 z).kept s5 (by decide) (by decide), by rw [s5.2.1]; exact h4.2.2.2.2.2.2.1, h4.2.2.2.2.2.2.2.kept s5 (by show ¬ o = 35; omega) (by show ¬ o + 1 = 35; omega)⟩
              · rw [map_len] at hi
                rw [gI_ne (Or.inl (by decide)), h4.2.1.2.2 i (by rw [map_len]; simp; omega), map_getD hi, map_getD (by simp; omega)]
                congr 1
                simp [List.getD_eq_getElem?_getD, List.getElem?_append_left hi]
              · rw [gI_ne (Or.inl (by decide)), h4.2.2.1 i (by simp; omega)]
                congr 2
                simp [List.getD_eq_getElem?_getD, List.getElem?_append_left hi]
            refine st_b1 rfl (fun zq => absurd zq ((fun z => z (b01_f g2)))) (fun _ => ?_)
            refine st_ald rfl rfl ?_
            refine st_gR' rfl (by first | exact tT hM1 rfl | assumption | exact rw_T hM1 (by assumption) | exact rw_A hM1 (by assumption)) (by first | exact rR hM1 rfl rfl | assumption | exact rw_R hM1 (by assumption)) ?_
            refine st_ild rfl rfl ?_
            refine st_ald rfl rfl ?_
            refine st_gR' rfl (by first | exact tT hM1 rfl | assumption | exact rw_T hM1 (by assumption) | exact rw_A hM1 (by assumption)) (by first | exact rR hM1 rfl rfl | assumption | exact rw_R hM1 (by assumption)) ?_
            refine st_gR' rfl (by first | exact tT hM1 rfl | assumption | exact rw_T hM1 (by assumption) | exact rw_A hM1 (by assumption)) (by first | exact rR hM1 rfl rfl | assumption | exact rw_R hM1 (by assumption)) ?_
            refine st_ild rfl rfl ?_
            refine st_iald rfl (by first | exact tT hM1 rfl | assumption | exact rw_T hM1 (by assumption) | exact rw_A hM1 (by assumption)) (by first | decide | assumption | exact vp_in_nI (by omega) (by decide)) ?_
            -- at 107: stop
            refine wp_e (y := nI (cf_sg c k)) (by rw [nI_clamp (by omega)]; exact (h1.1.2.1 k hk).2.2) ?_
            refine st_iast rfl (tT hM1 rfl) (hinw) ?_
            -- at 108: stop
            rw [ew]
            refine st_ald rfl rfl ?_
            refine st_gR' rfl (by first | exact tT hM2 rfl | assumption | exact rw_T hM2 (by assumption) | exact rw_A hM2 (by assumption)) (by first | exact rR hM2 rfl rfl | assumption | exact rw_R hM2 (by assumption)) ?_
            refine st_ild rfl rfl ?_
            refine st_cav (As := [_]) rfl rfl rfl (by first | exact tT hM2 rfl | assumption | exact rw_T hM2 (by assumption) | exact rw_A hM2 (by assumption)) (Nat.le_of_ble_eq_true rfl) (cad) ?_
            -- at 116: stop
            refine st_ald rfl rfl ?_
            refine st_ild rfl rfl ?_
            refine st_k rfl ?_
            refine st_ib rfl ?_
            -- at 120: stop
            rw [nI_1]
            refine st_ild rfl rfl ?_
            refine st_k rfl ?_
            refine st_ild rfl rfl ?_
            refine st_ib rfl ?_
            refine st_ib rfl ?_
            -- at 125: stop
            rw [o1]
            refine st_cav (As := [_, _]) rfl rfl rfl (by first | exact tT hM3 rfl | assumption | exact rw_T hM3 (by assumption) | exact rw_A hM3 (by assumption)) (Nat.le_of_ble_eq_true rfl) (hc4) ?_
            -- at 128: stop
            refine st_ald rfl rfl ?_
            refine st_gR' rfl (by first | exact tT hM4 rfl | assumption | exact rw_T hM4 (by assumption) | exact rw_A hM4 (by assumption)) (by first | exact rR hM4 rfl rfl | assumption | exact rw_R hM4 (by assumption)) ?_
            refine st_dup rfl rfl ?_
            refine st_gI rfl (by first | exact tT hM4 rfl | assumption | exact rw_T hM4 (by assumption) | exact rw_A hM4 (by assumption)) ?_
            -- at 136: stop
            refine wp_e e35 ?_
            refine st_k rfl ?_
            refine st_ib rfl ?_
            -- at 138: stop
            rw [nI_pred]
            refine st_pI rfl (by first | exact tT hM4 rfl | assumption | exact rw_T hM4 (by assumption) | exact rw_A hM4 (by assumption)) ?_
            refine st_inc rfl rfl ?_
            refine st_go rfl ?_
            -- at 65: stop
            exact ih2 _ _ ⟨_, nI_1 k, rfl, s1.tr ((s23.mo (fun k hk => by show _ ∧ _; omega)).tr (s4.sI (by decide) _ _)), by rw [hnext, if_neg hkw, if_neg g2]; exact h5⟩
      · rintro L M1 ⟨x, rfl, rfl, s1, h1⟩
        have hM1 := s1.ok hM
        refine st_ild rfl rfl ?_
        refine st_ald rfl rfl ?_
        refine st_gR' rfl (by first | exact tT hM1 rfl | assumption | exact rw_T hM1 (by assumption) | exact rw_A hM1 (by assumption)) (by first | exact rR hM1 rfl rfl | assumption | exact rw_R hM1 (by assumption)) ?_
        refine st_gI rfl (by first | exact tT hM1 rfl | assumption | exact rw_T hM1 (by assumption) | exact rw_A hM1 (by assumption)) ?_
        -- at 73: stop
        refine wp_e h1.1.1.2.2.1 ?_
        refine st_b2 rfl (fun _ => ?_) (fun zq => absurd (nI_le (Nat.le_refl _) (by omega)) zq)
        -- at 147: op_vret
        exact st_vret rfl ⟨rfl, h1, s1⟩)
    subst hr
    exact ⟨M', hcc, h5, h6⟩
end SWC

/-! MATTERS ON ROPES: sets by bits; the class's packing -/
def lo6 (s : Nat) : Nat := if s.testBit 0 then 0 else if s.testBit 1 then 1 else if s.testBit 2 then 2 else if s.testBit 3 then 3 else if s.testBit 4 then 4 else 5
theorem lo6_lt (s : Nat) : lo6 s < 6 := by unfold lo6; repeat' (first | omega | split)
theorem low_ok : ∀ s, s < 64 → 0 < s → s.testBit (lo6 s) = true ∧ nI s &&& -(nI s) = nI (2 ^ lo6 s) ∧ 2 ^ lo6 s ≤ s ∧ 2 ^ lo6 s &&& s = 2 ^ lo6 s ∧ (2 ^ lo6 s).testBit (lo6 s) = true := by decide +kernel
theorem low_xor : ∀ s, s < 64 → ∀ p, p < 64 → (0 < s ∧ p &&& s = p ∧ p.testBit (lo6 s) = false) → (0 < s ^^^ p ∧ lo6 (s ^^^ p) = lo6 s) := by decide +kernel
theorem low_ge : ∀ s, s < 64 → ∀ p, p < 64 → p.testBit (lo6 s) = true → p &&& s = p → 2 ^ lo6 s ≤ p ∧ s ^^^ p < s ∧ 0 < p := by decide +kernel
theorem sub_le : ∀ s, s < 64 → ∀ p, p < 64 → p &&& s = p → p ≤ s ∧ s ^^^ p ≤ s ∧ (0 < p → s ^^^ p < s) := by decide +kernel
theorem b_and : ∀ s, s < 64 → ∀ p, p < 64 → (nI p &&& nI s = nI p ↔ p &&& s = p) := by decide +kernel
theorem b_bit : ∀ p, p < 64 → ∀ k, k < 6 → (nI p &&& nI (2 ^ k) = 0 ↔ ¬ p.testBit k = true) := by decide +kernel
theorem b_xor : ∀ s, s < 64 → ∀ p, p < 64 → nI s ^^^ nI p = nI (s ^^^ p) ∧ s ^^^ p < 64 := by decide +kernel
theorem b_not : ∀ s, s < 64 → ∀ p, p < 64 → (nI p &&& (nI s ^^^ -1) = 0 ↔ p &&& s = p) := by decide +kernel
theorem b_dif : ∀ s, s < 64 → ∀ p, p < 64 → p &&& s = p → nI s &&& (nI p ^^^ -1) = nI (s ^^^ p) := by decide +kernel
theorem b_all : ∀ n, n < 7 → (1 : Int32) <<< (nI n &&& 31) - 1 = nI (2 ^ n - 1) ∧ 2 ^ n ≤ 64 := by decide +kernel
theorem sub_tr {s p q : Nat} (h1 : p &&& s = p) (h2 : q &&& (s ^^^ p) = q) : q &&& s = q ∧ p &&& (s ^^^ q) = p := by
  have e1 : ∀ i, (p.testBit i && s.testBit i) = p.testBit i := fun i => by rw [← Nat.testBit_and, h1]
  have e2 : ∀ i, (q.testBit i && (s.testBit i ^^ p.testBit i)) = q.testBit i := fun i => by rw [← Nat.testBit_xor, ← Nat.testBit_and, h2]
  constructor
  · refine Nat.eq_of_testBit_eq (fun i => ?_)
    have a1 := e1 i
    have a2 := e2 i
    rw [Nat.testBit_and]
    revert a1 a2
    cases p.testBit i <;> cases q.testBit i <;> cases s.testBit i <;> simp
  · refine Nat.eq_of_testBit_eq (fun i => ?_)
    have a1 := e1 i
    have a2 := e2 i
    rw [Nat.testBit_and, Nat.testBit_xor]
    revert a1 a2
    cases p.testBit i <;> cases q.testBit i <;> cases s.testBit i <;> simp
theorem xor_sw (s p q : Nat) : (s ^^^ p) ^^^ q = (s ^^^ q) ^^^ p := by rw [Nat.xor_assoc, Nat.xor_comm p q, ← Nat.xor_assoc]
def su (ws : List Nat) (s : Nat) : Nat → Nat
  | 0 => 0
  | i + 1 => su ws s i + if s.testBit i = true then ws.getD i 0 else 0
theorem su_s (ws : List Nat) (s i : Nat) : su ws s (i + 1) = su ws s i + if s.testBit i = true then ws.getD i 0 else 0 := rfl
theorem su_le {ws : List Nat} (h : ∀ i, i < ws.length → ws.getD i 0 ≤ 99) (s : Nat) : ∀ i, i ≤ ws.length → su ws s i ≤ 99 * i
  | 0, _ => Nat.le_refl _
  | i + 1, hi => by
    have := su_le h s i (by omega)
    have := h i (by omega)
    rw [su_s]
    split <;> omega
theorem su_one (ws : List Nat) (j : Nat) : ∀ n, su ws (2 ^ j) n = if j < n then ws.getD j 0 else 0
  | 0 => rfl
  | n + 1 => by
    rw [su_s, su_one ws j n, Nat.testBit_two_pow]
    by_cases g : j = n
    · subst g
      simp
    · by_cases g2 : j < n
      · simp [g, g2, show j < n + 1 by omega]
      · simp [g, g2, show ¬ j < n + 1 by omega]
/-- a part with the lowest matter that fits -/
def vd (ws : List Nat) (rm s p : Nat) : Prop := p &&& s = p ∧ p.testBit (lo6 s) = true ∧ su ws p ws.length ≤ rm ∧ p < 64
def bp (T : Nat → Nat) (ws : List Nat) (rm s p : Nat) : Prop := vd ws rm s p ∧ ∀ q, vd ws rm s q → T (s ^^^ p) ≤ T (s ^^^ q) ∧ (q < p → T (s ^^^ p) < T (s ^^^ q))
theorem bp_cg {T T' : Nat → Nat} {ws : List Nat} {rm s p : Nat} (hs : s < 64) (h : bp T ws rm s p) (he : ∀ x, x < s → T' x = T x) : bp T' ws rm s p := by
  refine ⟨h.1, fun q hq => ?_⟩
  rw [he _ (low_ge s hs p h.1.2.2.2 h.1.2.1 h.1.1).2.1, he _ (low_ge s hs q hq.2.2.2 hq.2.1 hq.1).2.1]
  exact h.2 q hq
/-- the fewest ropes, by any part first -/
def fw (T : Nat → Nat) (ws : List Nat) (rm s : Nat) : Prop := (∀ p, 0 < p → p < 64 → p &&& s = p → su ws p ws.length ≤ rm → T s ≤ 1 + T (s ^^^ p)) ∧ ∃ p, 0 < p ∧ p < 64 ∧ p &&& s = p ∧ su ws p ws.length ≤ rm ∧ T s = 1 + T (s ^^^ p)
theorem fw_low {T : Nat → Nat} {ws : List Nat} {rm N : Nat} (hN : N ≤ 64) (h : ∀ s, 0 < s → s < N → fw T ws rm s) : ∀ m s, s ≤ m → 0 < s → s < N → ∃ p, vd ws rm s p ∧ T s = 1 + T (s ^^^ p) := by
  intro m
  induction m with
  | zero => intro s h1 h2; omega
  | succ m ih =>
    intro s hm h0 hs
    obtain ⟨h1, p, p0, p6, ps, pf, pe⟩ := h s h0 hs
    by_cases g : p.testBit (lo6 s) = true
    · exact ⟨p, ⟨ps, g, pf, p6⟩, pe⟩
    · obtain ⟨x0, xl⟩ := low_xor s (by omega) p p6 ⟨h0, ps, by simpa using g⟩
      have xs := (sub_le s (by omega) p p6 ps).2.2 p0
      obtain ⟨q, ⟨qs, qb, qf, q6⟩, qe⟩ := ih (s ^^^ p) (by omega) x0 (by omega)
      rw [xl] at qb
      obtain ⟨t1, t2⟩ := sub_tr ps qs
      obtain ⟨l1, l2, l3⟩ := low_ge s (by omega) q q6 qb t1
      have y0 : 0 < s ^^^ q := by
        rcases Nat.eq_zero_or_pos (s ^^^ q) with z | z
        · rw [z, Nat.and_zero] at t2; omega
        · exact z
      have u1 := (h (s ^^^ q) y0 (by omega)).1 p p0 p6 t2 pf
      have u2 := h1 q l3 q6 t1 qf
      rw [xor_sw s q p] at u1
      exact ⟨q, ⟨t1, qb, qf, q6⟩, by omega⟩
/-- both ways of counting agree -/
theorem fw_bp {T T' : Nat → Nat} {ws : List Nat} {rm N : Nat} (hN : N ≤ 64) (h0 : T 0 = 0) (h0' : T' 0 = 0) (h : ∀ s, 0 < s → s < N → fw T ws rm s) (h' : ∀ s, 0 < s → s < N → ∃ p, bp T' ws rm s p ∧ T' s = 1 + T' (s ^^^ p)) : ∀ m s, s ≤ m → s < N → T s = T' s := by
  intro m
  induction m with
  | zero =>
    intro s h1 h2
    rw [show s = 0 by omega, h0, h0']
  | succ m ih =>
    intro s hm hs
    rcases Nat.eq_zero_or_pos s with z | z
    · rw [z, h0, h0']
    · obtain ⟨p, hp, e⟩ := fw_low hN h s s (Nat.le_refl _) z hs
      obtain ⟨q, hq, e'⟩ := h' s z hs
      have xp := (low_ge s (by omega) p hp.2.2.2 hp.2.1 hp.1).2.1
      have xq := low_ge s (by omega) q hq.1.2.2.2 hq.1.2.1 hq.1.1
      have i1 := ih (s ^^^ p) (by omega) (by omega)
      have i2 := ih (s ^^^ q) (by omega) (by omega)
      have a1 := (hq.2 p hp).1
      have a2 := (h s z hs).1 q xq.2.2 hq.1.2.2.2 hq.1.1 hq.1.2.2.1
      omega
section PCK
variable {a : As} {M : pm_M} {c : Cf}
theorem c_sumOf (d : Nat) (hM : pm_ok M) {o s : Nat} (ho : pm_rw o = true) {ws : List Nat} (hl : ws.length ≤ 6) (hs : s < 64) (h : pm_Ro M o (ws.map nI)) : pm_call (d + 1) 38 [.ref o, .int (nI s)] M (some (.int (nI (su ws s ws.length)))) M := by
  refine en_38 (Nat.le_of_ble_eq_true rfl) ?_
  have hlen := h.1
  rw [map_len] at hlen
  refine st_k rfl ?_
  refine st_ist rfl ?_
  refine st_k rfl ?_
  refine st_ist rfl ?_
  -- at 4: stop
  refine wp_for ws.length (fun i L M1 => ∃ x, x = nI i ∧ L = [some (.ref o), some (.int (nI s)), some (.int (nI (su ws s i))), some (.int x)] ∧ M1 = M) ?_ ?_ 0 _ _ (Nat.zero_le _) ⟨_, rfl, rfl, rfl⟩
  · rintro i L M1 hi ⟨x, rfl, rfl, rfl⟩ ih
    have hin : vp_in (nI i) 40 := vp_in_nI (by omega) (by decide)
    refine st_ild rfl rfl ?_
    refine st_ald rfl rfl ?_
    refine st_gI rfl (by first | exact tT hM rfl | assumption | exact rw_T hM (by assumption) | exact rw_A hM (by assumption)) ?_
    -- at 9: stop
    refine wp_e hlen ?_
    refine st_b2 rfl (fun zq => absurd zq (nI_ge (by omega) (by omega))) (fun _ => ?_)
    refine st_ild rfl rfl ?_
    refine st_ild rfl rfl ?_
    refine st_ild rfl rfl ?_
    refine st_ib rfl ?_
    refine st_k rfl ?_
    refine st_ib rfl ?_
    -- at 18: stop
    refine wp_e (bit_eq hs (show i < 6 by omega)) ?_
    by_cases g : s.testBit i = true
    · rw [if_pos g]
      refine st_b1 rfl (fun _ => ?_) (fun zq => absurd ((by decide)) zq)
      refine st_ald rfl rfl ?_
      refine st_gR' rfl (by first | exact tT hM rfl | assumption | exact rw_T hM (by assumption) | exact rw_A hM (by assumption)) (by first | exact rR hM rfl rfl | assumption | exact rw_R hM (by assumption)) ?_
      refine st_ild rfl rfl ?_
      refine st_iald rfl (by first | exact tT hM rfl | assumption | exact rw_T hM (by assumption) | exact rw_A hM (by assumption)) (by first | decide | assumption | exact vp_in_nI (by omega) (by decide)) ?_
      -- at 31: stop
      refine wp_e (y := nI (ws.getD i 0)) (by rw [nI_clamp (by omega), h.2.2 i (by rw [map_len]; exact hi), map_getD hi]) ?_
      refine st_ib rfl ?_
      refine st_ist rfl ?_
      refine st_inc rfl rfl ?_
      refine st_go rfl ?_
      -- at 4: stop
      exact ih _ _ ⟨_, nI_1 i, by rw [su_s, if_pos g, ← nI_add]; rfl, rfl⟩
    · rw [if_neg g]
      refine st_b1 rfl (fun zq => absurd zq ((fun z => z rfl))) (fun _ => ?_)
      refine st_k rfl ?_
      refine st_go rfl ?_
      refine st_ib rfl ?_
      refine st_ist rfl ?_
      refine st_inc rfl rfl ?_
      refine st_go rfl ?_
      -- at 4: stop
      exact ih _ _ ⟨_, nI_1 i, by rw [su_s, if_neg g, Nat.add_zero]; exact congrArg (fun z => [some (Value.ref o), some (.int (nI s)), some (.int z), some (.int (nI i + 1))]) (Int32.add_zero _), rfl⟩
  · rintro L M1 ⟨x, rfl, rfl, rfl⟩
    refine st_ild rfl rfl ?_
    refine st_ald rfl rfl ?_
    refine st_gI rfl (by first | exact tT hM rfl | assumption | exact rw_T hM (by assumption) | exact rw_A hM (by assumption)) ?_
    -- at 9: stop
    refine wp_e hlen ?_
    refine st_b2 rfl (fun _ => ?_) (fun zq => absurd (nI_le (by omega) (by omega)) zq)
    refine st_ild rfl rfl ?_
    -- at 40: op_iret
    exact st_iret rfl ⟨rfl, rfl⟩
theorem c_firstRope (d : Nat) (hM : pm_ok M) {T : Nat → Nat} {ws : List Nat} {s rm : Nat} (h0 : 0 < s) (hs : s < 64) (hl : ws.length ≤ 6) (h99 : ∀ i, i < ws.length → ws.getD i 0 ≤ 99) (ht : ∀ p, 0 < p → p ≤ s → gI M 53 p = nI (su ws p ws.length)) (hT : ∀ x, x < s → gI M 54 x = nI (T x) ∧ T x ≤ x) (h1 : su ws (2 ^ lo6 s) ws.length ≤ rm) (hrm : rm < 1000) :
    ∃ p, pm_call (d + 1) 39 [.ref 52, .int (nI s), .int (nI rm)] M (some (.int (nI p))) M ∧ p ≤ s ∧ bp T ws rm s p := by
  obtain ⟨k1, k2, k3, k4, k5⟩ := low_ok s hs h0
  have h6 := lo6_lt s
  obtain ⟨r, M', hcc, p, hr, hM', h5, h6'⟩ := eq_39 (d := d) (A := [.ref 52, .int (nI s), .int (nI rm)]) (M := M) (Q := fun r M' => ∃ p, r = some (.int (nI p)) ∧ M' = M ∧ p ≤ s ∧ bp T ws rm s p) (Nat.le_of_ble_eq_true rfl) (by
    refine st_ild rfl rfl ?_
    refine st_ild rfl rfl ?_
    refine st_iu rfl ?_
    refine st_ib rfl ?_
    -- at 4: stop
    refine wp_e k2 ?_
    refine st_ist rfl ?_
    refine st_ild rfl rfl ?_
    refine st_ist rfl ?_
    refine st_ild rfl rfl ?_
    refine st_ist rfl ?_
    -- at 11: stop
    refine wp_for (s + 1) (fun q L M1 => ∃ x b y6, 2 ^ lo6 s ≤ q ∧ x = nI q ∧ L = [some (.ref 52), some (.int (nI s)), some (.int (nI rm)), some (.int (nI (2 ^ lo6 s))), some (.int (nI b)), some (.int x), y6] ∧ M1 = M ∧ vd ws rm s b ∧ (∀ q', vd ws rm s q' → q' < q → T (s ^^^ b) ≤ T (s ^^^ q')) ∧ ∀ q', vd ws rm s q' → q' < b → T (s ^^^ b) < T (s ^^^ q')) ?_ ?_ (2 ^ lo6 s) _ _ (by omega) ⟨_, _, _, Nat.le_refl _, rfl, rfl, rfl, ⟨k4, k5, h1, by omega⟩, fun q' hq' z => absurd (low_ge s hs q' hq'.2.2.2 hq'.2.1 hq'.1).1 (by omega), fun q' hq' z => absurd (low_ge s hs q' hq'.2.2.2 hq'.2.1 hq'.1).1 (by omega)⟩
    · rintro q L M1 hq ⟨x, b, y6, hq2, rfl, rfl, rfl, hb, hb1, hb2⟩ ih
      have q6 : q < 64 := by omega
      have hsu := su_le h99 q ws.length (Nat.le_refl _)
      have q0 : 0 < q := Nat.lt_of_lt_of_le (Nat.two_pow_pos _) hq2
      have no : ¬ vd ws rm s q → pm_WP (pm_call d) tb_39 (fun r M' => ∃ p, r = some (.int (nI p)) ∧ M' = M1 ∧ p ≤ s ∧ bp T ws rm s p) 48 [some (.ref 52), some (.int (nI s)), some (.int (nI rm)), some (.int (nI (2 ^ lo6 s))), some (.int (nI b)), some (.int (nI q)), y6] [] M1 := by
        intro nv
        refine st_k rfl ?_
        refine st_ist rfl ?_
        refine st_ild rfl rfl ?_
        refine st_b1 rfl (fun _ => ?_) (fun zq => absurd (rfl) zq)
        refine st_inc rfl rfl ?_
        refine st_go rfl ?_
        -- at 11: stop
        exact ih _ _ ⟨_, b, _, by omega, nI_1 q, rfl, rfl, hb, fun q' hq' z => hb1 q' hq' (by rcases Nat.lt_or_ge q' q with w | w; exact w; exact absurd hq' (by rw [show q' = q by omega]; exact nv)), hb2⟩
      refine st_ild rfl rfl ?_
      refine st_ild rfl rfl ?_
      refine st_b2 rfl (fun zq => absurd zq (nI_nlt (by omega) (by omega))) (fun _ => ?_)
      refine st_ild rfl rfl ?_
      refine st_ild rfl rfl ?_
      refine st_ib rfl ?_
      refine st_ild rfl rfl ?_
      refine st_b2 rfl (fun g1 => ?_) (fun g1 => ?_)
      -- at 23: split 48 26
      · exact no (fun z => g1 ((b_and s hs q q6).mpr z.1))
      · have g1 := (b_and s hs q q6).mp (Decidable.not_not.mp g1)
        refine st_ild rfl rfl ?_
        refine st_ild rfl rfl ?_
        refine st_ib rfl ?_
        refine st_b1 rfl (fun g2 => ?_) (fun g2 => ?_)
        -- at 30: split 48 33
        · exact no (fun z => (b_bit q q6 _ h6).mp g2 z.2.1)
        · have g2 : q.testBit (lo6 s) = true := Decidable.not_not.mp (fun z => g2 ((b_bit q q6 _ h6).mpr z))
          have hin : vp_in (nI q) 64 := vp_in_nI q6 (by decide)
          refine st_ald rfl rfl ?_
          refine st_gR' rfl (by first | exact tT hM rfl | assumption | exact rw_T hM (by assumption) | exact rw_A hM (by assumption)) (by first | exact rR hM rfl rfl | assumption | exact rw_R hM (by assumption)) ?_
          refine st_ild rfl rfl ?_
          refine st_iald rfl (tT hM rfl) (hin) ?_
          -- at 40: stop
          refine wp_e (y := nI (su ws q ws.length)) (by rw [nI_clamp (by omega)]; exact ht q q0 (by omega)) ?_
          refine st_ild rfl rfl ?_
          refine st_b2 rfl (fun g3 => ?_) (fun g3 => ?_)
          -- at 41: split 48 44
          · exact no (fun z => absurd ((nI_ltI (by omega) (by omega)).mp g3) (by have := z.2.2.1; omega))
          · have g3 : su ws q ws.length ≤ rm := Nat.not_lt.mp (fun z => g3 (nI_lt z (by omega)))
            have hv : vd ws rm s q := ⟨g1, g2, g3, q6⟩
            obtain ⟨x1, x2⟩ := b_xor s hs q q6
            obtain ⟨y1, y2⟩ := b_xor s hs b hb.2.2.2
            have lq := (low_ge s hs q q6 g2 g1).2.1
            have lb := (low_ge s hs b hb.2.2.2 hb.2.1 hb.1).2.1
            have hin1 : vp_in (nI (s ^^^ q)) 64 := vp_in_nI x2 (by decide)
            have hin2 : vp_in (nI (s ^^^ b)) 64 := vp_in_nI y2 (by decide)
            obtain ⟨t1, t2⟩ := hT _ lq
            obtain ⟨t3, t4⟩ := hT _ lb
            refine st_k rfl ?_
            refine st_go rfl ?_
            refine st_ist rfl ?_
            refine st_ild rfl rfl ?_
            refine st_b1 rfl (fun zq => absurd zq ((by decide))) (fun _ => ?_)
            refine st_ald rfl rfl ?_
            refine st_gR' rfl (by first | exact tT hM rfl | assumption | exact rw_T hM (by assumption) | exact rw_A hM (by assumption)) (by first | exact rR hM rfl rfl | assumption | exact rw_R hM (by assumption)) ?_
            refine st_ild rfl rfl ?_
            refine st_ild rfl rfl ?_
            refine st_ib rfl ?_
            -- at 64: stop
            refine wp_e x1 ?_
            refine st_iald rfl (tT hM rfl) (hin1) ?_
            -- at 65: stop
            refine wp_e (y := nI (T (s ^^^ q))) (by rw [nI_clamp (by omega)]; exact t1) ?_
            refine st_ald rfl rfl ?_
            refine st_gR' rfl (by first | exact tT hM rfl | assumption | exact rw_T hM (by assumption) | exact rw_A hM (by assumption)) (by first | exact rR hM rfl rfl | assumption | exact rw_R hM (by assumption)) ?_
            refine st_ild rfl rfl ?_
            refine st_ild rfl rfl ?_
            refine st_ib rfl ?_
            -- at 73: stop
            refine wp_e y1 ?_
            refine st_iald rfl (tT hM rfl) (hin2) ?_
            -- at 74: stop
            refine wp_e (y := nI (T (s ^^^ b))) (by rw [nI_clamp (by omega)]; exact t3) ?_
            by_cases g4 : T (s ^^^ q) < T (s ^^^ b)
            · refine st_b2 rfl (fun zq => absurd zq (nI_ge g4 (by omega))) (fun _ => ?_)
              refine st_ild rfl rfl ?_
              refine st_ist rfl ?_
              refine st_inc rfl rfl ?_
              refine st_go rfl ?_
              -- at 11: stop
              refine ih _ _ ⟨_, q, _, by omega, nI_1 q, rfl, rfl, hv, fun q' hq' z => ?_, fun q' hq' z => ?_⟩
              · rcases Nat.lt_or_ge q' q with w | w
                · exact Nat.le_trans (Nat.le_of_lt g4) (hb1 q' hq' w)
                · rw [show q' = q by omega]; exact Nat.le_refl _
              · exact Nat.lt_of_lt_of_le g4 (hb1 q' hq' z)
            · refine st_b2 rfl (fun _ => ?_) (fun zq => absurd (nI_le (by omega) (by omega)) zq)
              refine st_inc rfl rfl ?_
              refine st_go rfl ?_
              -- at 11: stop
              refine ih _ _ ⟨_, b, _, by omega, nI_1 q, rfl, rfl, hb, fun q' hq' z => ?_, hb2⟩
              rcases Nat.lt_or_ge q' q with w | w
              · exact hb1 q' hq' w
              · rw [show q' = q by omega]; omega
    · rintro L M1 ⟨x, b, y6, hq2, rfl, rfl, rfl, hb, hb1, hb2⟩
      refine st_ild rfl rfl ?_
      refine st_ild rfl rfl ?_
      refine st_b2 rfl (fun _ => ?_) (fun zq => absurd (nI_lt (by omega) (by omega)) zq)
      refine st_ild rfl rfl ?_
      -- at 89: op_iret
      exact st_iret rfl ⟨b, rfl, rfl, (sub_le s hs b hb.2.2.2 hb.1).1, hb, fun q hq => ⟨hb1 q hq (by have := (sub_le s hs q hq.2.2.2 hq.1).1; omega), hb2 q hq⟩⟩)
  subst hr; subst hM'
  exact ⟨p, hcc, h5, h6'⟩
theorem c_pack (d : Nat) (hM : pm_ok M) {o : Nat} (ho : pm_rw o = true) (ho2 : 54 < o) {ws : List Nat} {rm : Nat} (hrm : rm < 1000) (hl : ws.length ≤ 6) (h99 : ∀ i, i < ws.length → ws.getD i 0 ≤ 99) (hf : ∀ i, i < ws.length → ws.getD i 0 ≤ rm) (h : pm_Ro M o (ws.map nI)) (h54 : gI M 54 0 = 0) :
    ∃ M' T p, pm_call (d + 2) 37 [.ref 52, .ref o, .int (nI rm)] M none M' ∧ pm_S (fun k => 52 ≤ k ∧ k ≤ 54) M M' ∧ gI M' 54 0 = 0 ∧ T 0 = 0 ∧ (∀ s, 0 < s → s < 2 ^ ws.length → ∃ p, bp T ws rm s p ∧ T s = 1 + T (s ^^^ p)) ∧ gI M' 52 2 = nI (T (2 ^ ws.length - 1)) ∧ gI M' 52 3 = nI p ∧ (ws.length = 0 → p = 0) ∧ (0 < ws.length → bp T ws rm (2 ^ ws.length - 1) p) := by
  obtain ⟨a1, a2⟩ := b_all ws.length (by omega)
  have a3 := Nat.two_pow_pos ws.length
  have hlen := h.1
  rw [map_len] at hlen
  have one : ∀ s, 0 < s → s < 2 ^ ws.length → su ws (2 ^ lo6 s) ws.length ≤ rm := by
    intro s z1 z2
    rw [su_one]
    split
    case isTrue z => exact hf _ z
    case isFalse z =>
      exact Nat.zero_le _
  obtain ⟨r, M', hcc, hr, h5, T, p, g1, g2, g3, g4, g5, g6, g7⟩ := eq_37 (d := d + 1) (A := [.ref 52, .ref o, .int (nI rm)]) (M := M) (Q := fun r M' => r = none ∧ pm_S (fun k => 52 ≤ k ∧ k ≤ 54) M M' ∧ ∃ T p, gI M' 54 0 = 0 ∧ T 0 = 0 ∧ (∀ s, 0 < s → s < 2 ^ ws.length → ∃ p, bp T ws rm s p ∧ T s = 1 + T (s ^^^ p)) ∧ gI M' 52 2 = nI (T (2 ^ ws.length - 1)) ∧ gI M' 52 3 = nI p ∧ (ws.length = 0 → p = 0) ∧ (0 < ws.length → bp T ws rm (2 ^ ws.length - 1) p)) (Nat.le_of_ble_eq_true rfl) (by
    have hMa : pm_ok (sI M 52 3 0) := hM
    refine st_ald rfl rfl ?_
    refine st_k rfl ?_
    refine st_pI rfl (by first | exact tT hM rfl | assumption | exact rw_T hM (by assumption) | exact rw_A hM (by assumption)) ?_
    -- at 5: stop
    refine st_k rfl ?_
    refine st_ald rfl rfl ?_
    refine st_gI rfl (rw_T hMa ho) ?_
    -- at 10: stop
    refine wp_e (y := nI ws.length) (by rw [gI_ne (Or.inl (by omega))]; exact hlen) ?_
    refine st_ib rfl ?_
    refine st_k rfl ?_
    refine st_ib rfl ?_
    -- at 13: stop
    refine wp_e a1 ?_
    refine st_ist rfl ?_
    refine st_k rfl ?_
    refine st_ist rfl ?_
    -- at 17: stop
    refine wp_for (2 ^ ws.length) (fun s L M1 => ∃ x T p, 1 ≤ s ∧ x = nI s ∧ L = [some (.ref 52), some (.ref o), some (.int (nI rm)), some (.int (nI (2 ^ ws.length - 1))), some (.int x)] ∧ pm_S (fun k => 52 ≤ k ∧ k ≤ 54) M M1 ∧ T 0 = 0 ∧ (∀ q, 0 < q → q < s → gI M1 53 q = nI (su ws q ws.length)) ∧ (∀ q, q < s → gI M1 54 q = nI (T q) ∧ T q ≤ q) ∧ (∀ s', 0 < s' → s' < s → ∃ p, bp T ws rm s' p ∧ T s' = 1 + T (s' ^^^ p)) ∧ gI M1 52 3 = nI p ∧ (s = 1 → p = 0) ∧ (1 < s → bp T ws rm (s - 1) p)) ?_ ?_ 1 _ _ a3 ⟨_, fun _ => 0, 0, Nat.le_refl _, rfl, rfl, pm_S.rf.sI (by decide) _ _, rfl, fun q z1 z2 => by omega, fun q z => ⟨by rw [show q = 0 by omega, gI_ne (Or.inl (by decide))]; exact h54, Nat.zero_le _⟩, fun s' z1 z2 => by omega, gI_same _ _ _ _, fun _ => rfl, fun z => by omega⟩
    · rintro s L M1 hs ⟨x, T, p, s1, rfl, rfl, hS, T0, q1, q2, q3, q4, q5, q6⟩ ih
      have hM1 := hS.ok hM
      have s64 : s < 64 := by omega
      have hr1 : pm_Ro M1 o (ws.map nI) := h.kept hS (by show ¬ (_ ∧ _); omega) (by show ¬ (_ ∧ _); omega)
      have hin : vp_in (nI s) 64 := vp_in_nI s64 (by decide)
      have e4 : (nI s).toNatClampNeg = s := nI_clamp (by omega)
      have S2 : pm_S (fun k => 52 ≤ k ∧ k ≤ 54) M (sI M1 53 s (nI (su ws s ws.length))) := hS.sI (by decide) _ _
      have hM2 := S2.ok hM
      obtain ⟨p', hc', hp', hbp⟩ := c_firstRope (M := sI M1 53 s (nI (su ws s ws.length))) d hM2 (T := T) (rm := rm) (ws := ws) s1 s64 hl h99 (fun q z1 z2 => by
        by_cases z : q = s
        · subst z; exact gI_same _ _ _ _
        · rw [gI_ne (Or.inr z)]; exact q1 q z1 (by omega)) (fun q z => by rw [gI_ne (Or.inl (by decide))]; exact q2 q z) (one s s1 hs) hrm
      have lp := low_ge s s64 p' hbp.1.2.2.2 hbp.1.2.1 hbp.1.1
      obtain ⟨x1, x2⟩ := b_xor s s64 p' hbp.1.2.2.2
      have hin2 : vp_in (nI (s ^^^ p')) 64 := vp_in_nI x2 (by decide)
      have hM3 : pm_ok (sI (sI M1 53 s (nI (su ws s ws.length))) 52 3 (nI p')) := hM2
      obtain ⟨t1, t2⟩ := q2 (s ^^^ p') lp.2.1
      refine st_ild rfl rfl ?_
      refine st_ild rfl rfl ?_
      refine st_b2 rfl (fun zq => absurd zq (nI_nlt (by omega) (by omega))) (fun _ => ?_)
      refine st_ald rfl rfl ?_
      refine st_gR' rfl (by first | exact tT hM1 rfl | assumption | exact rw_T hM1 (by assumption) | exact rw_A hM1 (by assumption)) (by first | exact rR hM1 rfl rfl | assumption | exact rw_R hM1 (by assumption)) ?_
      refine st_ild rfl rfl ?_
      refine st_ald rfl rfl ?_
      refine st_ild rfl rfl ?_
      refine st_call (As := [_, _]) rfl rfl rfl (Nat.le_of_ble_eq_true rfl) (c_sumOf d hM1 ho hl s64 hr1) ?_
      refine st_iast rfl (by first | exact tT hM1 rfl | assumption | exact rw_T hM1 (by assumption) | exact rw_A hM1 (by assumption)) (by first | decide | assumption | exact vp_in_nI (by omega) (by decide)) ?_
      -- at 36: stop
      rw [e4]
      refine st_ald rfl rfl ?_
      refine st_ald rfl rfl ?_
      refine st_ild rfl rfl ?_
      refine st_ild rfl rfl ?_
      refine st_cav (As := [_, _]) rfl rfl rfl (by first | exact tT hM2 rfl | assumption | exact rw_T hM2 (by assumption) | exact rw_A hM2 (by assumption)) (Nat.le_of_ble_eq_true rfl) (hc') ?_
      refine st_pI rfl (by first | exact tT hM2 rfl | assumption | exact rw_T hM2 (by assumption) | exact rw_A hM2 (by assumption)) ?_
      -- at 47: stop
      refine st_ald rfl rfl ?_
      refine st_gR' rfl (by first | exact tT hM3 rfl | assumption | exact rw_T hM3 (by assumption) | exact rw_A hM3 (by assumption)) (by first | exact rR hM3 rfl rfl | assumption | exact rw_R hM3 (by assumption)) ?_
      refine st_ild rfl rfl ?_
      refine st_k rfl ?_
      refine st_ald rfl rfl ?_
      refine st_gR' rfl (by first | exact tT hM3 rfl | assumption | exact rw_T hM3 (by assumption) | exact rw_A hM3 (by assumption)) (by first | exact rR hM3 rfl rfl | assumption | exact rw_R hM3 (by assumption)) ?_
      refine st_ild rfl rfl ?_
      refine st_ald rfl rfl ?_
      refine st_gI rfl (by first | exact tT hM3 rfl | assumption | exact rw_T hM3 (by assumption) | exact rw_A hM3 (by assumption)) ?_
      -- at 64: stop
      refine wp_e (y := nI p') (gI_same _ _ _ _) ?_
      refine st_ib rfl ?_
      -- at 65: stop
      refine wp_e x1 ?_
      refine st_iald rfl (tT hM3 rfl) (hin2) ?_
      -- at 66: stop
      refine wp_e (y := nI (T (s ^^^ p'))) (by rw [nI_clamp (by omega), gI_ne (Or.inl (by decide)), gI_ne (Or.inl (by decide))]; exact t1) ?_
      refine st_ib rfl ?_
      refine st_iast rfl (by first | exact tT hM3 rfl | assumption | exact rw_T hM3 (by assumption) | exact rw_A hM3 (by assumption)) (by first | decide | assumption | exact vp_in_nI (by omega) (by decide)) ?_
      refine st_inc rfl rfl ?_
      refine st_go rfl ?_
      -- at 17: stop
      rw [e4]
      have he : ∀ q, q < s → (if q = s then 1 + T (s ^^^ p') else T q) = T q := fun q z => if_neg (by omega)
      refine ih _ _ ⟨_, fun q => if q = s then 1 + T (s ^^^ p') else T q, p', by omega, nI_1 s, rfl, (S2.sI (by decide) _ _).sI (by decide) _ _, by show (if 0 = s then _ else _) = _; rw [if_neg (by omega)]; exact T0, fun q z1 z2 => ?_, fun q z => ?_, fun s' z1 z2 => ?_, ?_, fun z => by omega, fun _ => ?_⟩
      · rw [gI_ne (Or.inl (by decide)), gI_ne (Or.inl (by decide))]
        by_cases w : q = s
        · subst w; exact gI_same _ _ _ _
        · rw [gI_ne (Or.inr w)]; exact q1 q z1 (by omega)
      · by_cases w : q = s
        · subst w
          rw [gI_same]
          dsimp only
          rw [if_pos rfl]
          exact ⟨nI_add 1 _, by omega⟩
        · rw [gI_ne (Or.inr w), gI_ne (Or.inl (by decide)), gI_ne (Or.inl (by decide))]
          dsimp only
          rw [if_neg w]
          exact q2 q (by omega)
      · by_cases w : s' = s
        · subst w
          refine ⟨p', bp_cg s64 hbp he, ?_⟩
          dsimp only
          rw [if_pos rfl, if_neg (by omega)]
        · obtain ⟨p2, v1, v2⟩ := q3 s' z1 (by omega)
          have v3 := (low_ge s' (by omega) p2 v1.1.2.2.2 v1.1.2.1 v1.1.1).2.1
          refine ⟨p2, bp_cg (by omega) v1 (fun x hx => he x (by omega)), ?_⟩
          dsimp only
          rw [if_neg w, if_neg (by omega)]
          exact v2
      · rw [gI_ne (Or.inl (by decide))]
        exact gI_same _ _ _ _
      · rw [Nat.add_sub_cancel]
        exact bp_cg s64 hbp he
    · rintro L M1 ⟨x, T, p, s1, rfl, rfl, hS, T0, q1, q2, q3, q4, q5, q6⟩
      have hM1 := hS.ok hM
      have hin : vp_in (nI (2 ^ ws.length - 1)) 64 := vp_in_nI (by omega) (by decide)
      obtain ⟨t1, t2⟩ := q2 (2 ^ ws.length - 1) (by omega)
      refine st_ild rfl rfl ?_
      refine st_ild rfl rfl ?_
      refine st_b2 rfl (fun _ => ?_) (fun zq => absurd (nI_lt (by omega) (by omega)) zq)
      refine st_ald rfl rfl ?_
      refine st_ald rfl rfl ?_
      refine st_gR' rfl (by first | exact tT hM1 rfl | assumption | exact rw_T hM1 (by assumption) | exact rw_A hM1 (by assumption)) (by first | exact rR hM1 rfl rfl | assumption | exact rw_R hM1 (by assumption)) ?_
      refine st_ild rfl rfl ?_
      refine st_iald rfl (by first | exact tT hM1 rfl | assumption | exact rw_T hM1 (by assumption) | exact rw_A hM1 (by assumption)) (by first | decide | assumption | exact vp_in_nI (by omega) (by decide)) ?_
      -- at 81: stop
      refine wp_e (y := nI (T (2 ^ ws.length - 1))) (by rw [nI_clamp (by omega)]; exact t1) ?_
      refine st_pI rfl (by first | exact tT hM1 rfl | assumption | exact rw_T hM1 (by assumption) | exact rw_A hM1 (by assumption)) ?_
      -- at 84: op_vret
      refine st_vret rfl ⟨rfl, hS.sI (by decide) _ _, T, p, ?_, T0, q3, gI_same _ _ _ _, ?_, fun z => q5 (by rw [z]), fun z => q6 ?_⟩
      · rw [gI_ne (Or.inl (by decide)), (q2 0 (by omega)).1, T0]; rfl
      · rw [gI_ne (Or.inr (by decide))]; exact q4
      · have : 2 ^ 1 ≤ 2 ^ ws.length := Nat.pow_le_pow_right (by decide) z
        omega)
  subst hr
  exact ⟨M', T, p, hcc, h5, g1, g2, g3, g4, g5, g6, g7⟩
theorem IC.pk {S : Nat → Prop} {M' : pm_M} (h : IC a M) (hs : pm_S S M M') (hn : ∀ k, S k → 52 ≤ k ∧ k ≤ 54) (h54 : gI M' 54 0 = 0) : IC a M' := by
  have e : ∀ k, ¬ (52 ≤ k ∧ k ≤ 54) → ∀ i, gI M' k i = gI M k i := fun k hk i => hs.i (fun q => hk (hn k q)) i
  have e2 : ∀ k, ¬ (52 ≤ k ∧ k ≤ 54) → ∀ i, gL M' k i = gL M k i := fun k hk i => hs.l (fun q => hk (hn k q)) i
  refine ⟨hs.ok h.1, fun j hj => (h.2.1 j hj).kept (e _ (by omega)) (e _ (by omega)), fun j hj => (h.2.2.1 j hj).kept (e _ (by omega)) (e _ (by omega)), h.2.2.2.1.moved (fun k _ hk i => e k (by omega) i), ?_, fun k hk => (h.2.2.2.2.2.1 k hk).kept (e _ (by omega)) (e _ (by omega)) (e 6 (by decide) k), h.2.2.2.2.2.2.1.kept (e 25 (by decide) 2) (e2 26 (by decide)) (h54.trans h.2.2.2.2.2.2.1.1.symm), fun f hf => ?_, ?_, ?_, ?_⟩
  · have := h.2.2.2.2.1
    unfold pm_Ro at this ⊢
    simp only [e 3 (by decide), e (3 + 1) (by decide)]
    exact this
  · rw [e 105 (by decide)]; exact h.2.2.2.2.2.2.2.1 f hf
  · rw [e 0 (by decide)]; exact h.2.2.2.2.2.2.2.2.1
  · rw [e 0 (by decide)]; exact h.2.2.2.2.2.2.2.2.2.1
  · rw [e2 0 (by decide)]; exact h.2.2.2.2.2.2.2.2.2.2
end PCK

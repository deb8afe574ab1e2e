/-! BOTH ANSWER ALIKE: packs -/
theorem ib_e {l : List Int32} {e : Nat} (he : e < 2 ^ 31) : ib l (nI e) ↔ ∃ ws : List Nat, l = ws.map nI ∧ ∀ k, k ∈ ws → k < e := by
  constructor
  · intro h
    have hm : ∀ x, x ∈ l → ∃ j : Nat, j < e ∧ x = nI j := by
      intro x hx
      obtain ⟨i, hi, rfl⟩ := List.getElem_of_mem hx
      have := h i hi
      rw [List.getD_eq_getElem?_getD, List.getElem?_eq_getElem hi] at this
      obtain ⟨j, hj, ej⟩ := nI_of this.1
      refine ⟨j, ?_, ej⟩
      have t2 := this.2
      rw [ej] at t2
      exact (nI_ltI hj he).mp t2
    refine ⟨l.map (fun x => x.toNatClampNeg), ?_, fun k hk => ?_⟩
    · rw [List.map_map]
      have hid : l.map (nI ∘ fun x => x.toNatClampNeg) = l.map id := List.map_congr_left (fun x hx => by
        obtain ⟨j, hj, rfl⟩ := hm x hx
        show nI (nI j).toNatClampNeg = nI j
        rw [nI_clamp (by omega)])
      rw [hid, List.map_id]
    · obtain ⟨x, hx, rfl⟩ := List.mem_map.mp hk
      obtain ⟨j, hj, rfl⟩ := hm x hx
      rw [nI_clamp (by omega)]
      exact hj
  · rintro ⟨ws, rfl, hk⟩ i hi
    rw [map_len] at hi
    rw [map_getD hi]
    have : ws.getD i 0 < e := by
      rw [List.getD_eq_getElem?_getD, List.getElem?_eq_getElem hi]
      exact hk _ (List.getElem_mem hi)
    exact ⟨nI_pos (by omega), nI_lt this he⟩
theorem mem_gd {ws : List Nat} {e : Nat} (h : ∀ k, k ∈ ws → k < e) {i : Nat} (hi : i < ws.length) : ws.getD i 0 < e := by
  rw [List.getD_eq_getElem?_getD, List.getElem?_eq_getElem hi]
  exact h _ (List.getElem_mem hi)
theorem fw_uniq {T T' : Nat → Nat} {ws : List Nat} {rm N : Nat} (hN : N ≤ 64) (h0 : T 0 = 0) (h0' : T' 0 = 0) (h : ∀ s, 0 < s → s < N → fw T ws rm s) (h' : ∀ s, 0 < s → s < N → fw T' ws rm s) : ∀ m s, s ≤ m → s < N → T s = T' s := by
  intro m
  induction m with
  | zero =>
    intro s h1 h2
    rw [show s = 0 by omega, h0, h0']
  | succ m ih =>
    intro s hm hs
    rcases Nat.eq_zero_or_pos s with z | z
    · rw [z, h0, h0']
    · obtain ⟨a1, p, p0, p6, ps, pf, pe⟩ := h s z hs
      obtain ⟨b1, q, q0, q6, qs, qf, qe⟩ := h' s z hs
      have xp := (sub_le s (by omega) p p6 ps).2.2 p0
      have xq := (sub_le s (by omega) q q6 qs).2.2 q0
      have i1 := ih (s ^^^ p) (by omega) (by omega)
      have i2 := ih (s ^^^ q) (by omega) (by omega)
      have c1 := a1 q q0 q6 qs qf
      have c2 := b1 p p0 p6 ps pf
      omega
theorem fw_cg {T T' : Nat → Nat} {ws : List Nat} {rm s : Nat} (hs : s < 64) (he : ∀ x, x ≤ s → T' x = T x) (h : fw T ws rm s) : fw T' ws rm s := by
  obtain ⟨a1, p, p0, p6, ps, pf, pe⟩ := h
  refine ⟨fun q q0 q6 qs qf => ?_, p, p0, p6, ps, pf, ?_⟩
  · rw [he s (Nat.le_refl _), he _ (sub_le s hs q q6 qs).2.1]
    exact a1 q q0 q6 qs qf
  · rw [he s (Nat.le_refl _), he _ (sub_le s hs p p6 ps).2.1]
    exact pe
theorem fw_ex {ws : List Nat} {rm n : Nat} (hn : n ≤ 6) (h1 : ∀ s, 0 < s → s < 2 ^ n → su ws (2 ^ lo6 s) ws.length ≤ rm) : ∀ N, N ≤ 2 ^ n → ∃ T : Nat → Nat, T 0 = 0 ∧ (∀ s, s < N → T s ≤ s) ∧ ∀ s, 0 < s → s < N → fw T ws rm s
  | 0, _ => ⟨fun _ => 0, rfl, fun s hs => by omega, fun s _ hs => by omega⟩
  | N + 1, hN => by
    have h64 := (b_all n (by omega)).2
    obtain ⟨T, t0, t1, t2⟩ := fw_ex hn h1 N (by omega)
    rcases Nat.eq_zero_or_pos N with z | z
    · exact ⟨T, t0, fun s hs => by rw [show s = 0 by omega, t0]; exact Nat.le_refl _, fun s hs hs2 => by omega⟩
    · obtain ⟨k1, k2, k3, k4, k5⟩ := low_ok N (by omega) z
      obtain ⟨v, ⟨p, p0, p6, ps, pf, pe⟩, hmin⟩ := pk_least (fun v => ∃ p, 0 < p ∧ p < 64 ∧ p &&& N = p ∧ su ws p ws.length ≤ rm ∧ v = 1 + T (N ^^^ p)) ⟨_, 2 ^ lo6 N, Nat.two_pow_pos _, by omega, k4, h1 N z (by omega), rfl⟩
      have xp := (sub_le N (by omega) p p6 ps).2.2 p0
      have tp := t1 _ xp
      refine ⟨fun x => if x = N then v else T x, by show (if 0 = N then v else T 0) = 0; rw [if_neg (by omega)]; exact t0, fun s hs => ?_, fun s hs hs2 => ?_⟩
      · dsimp only
        split
        case isTrue w => omega
        case isFalse w => exact t1 s (by omega)
      · by_cases w : s = N
        · subst w
          refine ⟨fun q q0 q6 qs qf => ?_, p, p0, p6, ps, pf, ?_⟩
          · have xq := (sub_le s (by omega) q q6 qs).2.2 q0
            dsimp only
            rw [if_pos rfl, if_neg (by omega)]
            exact Nat.not_lt.mp (fun z => hmin _ z ⟨q, q0, q6, qs, qf, rfl⟩)
          · dsimp only
            rw [if_pos rfl, if_neg (by omega)]
            exact pe
        · exact fw_cg (by omega) (fun x hx => if_neg (by omega)) (t2 s hs (by omega))
/-- what is on one rope with the first matter -/
def pq (T : Nat → Nat) (ws : List Nat) (rm q : Nat) : Prop := q < 2 ^ ws.length ∧ q.testBit 0 = true ∧ su ws q ws.length ≤ rm ∧ 1 + T ((2 ^ ws.length - 1) ^^^ q) = T (2 ^ ws.length - 1)
def ow (T : Nat → Nat) (ws : List Nat) (rm o : Nat) : Prop := (ws.length = 0 ∧ o = 0) ∨ (0 < ws.length ∧ pq T ws rm o ∧ ∀ q, q < o → ¬ pq T ws rm q)
theorem all_low : ∀ n, n < 7 → 0 < n → lo6 (2 ^ n - 1) = 0 ∧ 0 < 2 ^ n - 1 := by decide +kernel
theorem all_sub : ∀ n, n < 7 → ∀ q, q < 64 → q < 2 ^ n → q &&& (2 ^ n - 1) = q := by decide +kernel
theorem ow_ex {T : Nat → Nat} {ws : List Nat} {rm : Nat} (hl : ws.length ≤ 6) (h : ∀ s, 0 < s → s < 2 ^ ws.length → fw T ws rm s) : ∃ o, ow T ws rm o := by
  rcases Nat.eq_zero_or_pos ws.length with z | z
  · exact ⟨0, Or.inl ⟨z, rfl⟩⟩
  · obtain ⟨l1, l2⟩ := all_low _ (by omega) z
    have h64 := (b_all ws.length (by omega)).2
    obtain ⟨p, hp, e⟩ := fw_low h64 h _ (2 ^ ws.length - 1) (Nat.le_refl _) l2 (by omega)
    have hb := hp.2.1
    rw [l1] at hb
    have hle := (sub_le _ (by omega) p hp.2.2.2 hp.1).1
    obtain ⟨o, h1, h2⟩ := pk_least (pq T ws rm) ⟨p, by omega, hb, hp.2.2.1, e.symm⟩
    exact ⟨o, Or.inr ⟨z, h1, h2⟩⟩
theorem ow_cg {T T' : Nat → Nat} {ws : List Nat} {rm o : Nat} (hl : ws.length ≤ 6) (he : ∀ x, x < 2 ^ ws.length → T' x = T x) (h : ow T ws rm o) : ow T' ws rm o := by
  have h64 := (b_all ws.length (by omega)).2
  have hp := Nat.two_pow_pos ws.length
  have e : ∀ q, pq T' ws rm q ↔ pq T ws rm q := by
    intro q
    unfold pq
    refine and_congr_right (fun hq => ?_)
    have := (sub_le (2 ^ ws.length - 1) (by omega) q (by omega) (all_sub _ (by omega) q (by omega) hq)).2.1
    rw [he _ (show (2 ^ ws.length - 1) ^^^ q < 2 ^ ws.length by omega), he _ (show 2 ^ ws.length - 1 < 2 ^ ws.length by omega)]
  rcases h with z | ⟨z1, z2, z3⟩
  · exact Or.inl z
  · exact Or.inr ⟨z1, (e o).mpr z2, fun q hq w => z3 q hq ((e q).mp w)⟩
theorem ow_uniq {T : Nat → Nat} {ws : List Nat} {rm o o' : Nat} (h : ow T ws rm o) (h' : ow T ws rm o') : o = o' := by
  rcases h with z | ⟨z1, z2, z3⟩
  · rcases h' with w | ⟨w1, w2, w3⟩
    · rw [z.2, w.2]
    · omega
  · rcases h' with w | ⟨w1, w2, w3⟩
    · omega
    · rcases Nat.lt_trichotomy o o' with x | x | x
      · exact absurd z2 (w3 o x)
      · exact x
      · exact absurd w2 (z3 o' x)
theorem ow_bp {T : Nat → Nat} {ws : List Nat} {rm p : Nat} (hl : ws.length ≤ 6) (h : ∀ s, 0 < s → s < 2 ^ ws.length → ∃ p, bp T ws rm s p ∧ T s = 1 + T (s ^^^ p)) (h1 : ws.length = 0 → p = 0) (h2 : 0 < ws.length → bp T ws rm (2 ^ ws.length - 1) p) : ow T ws rm p := by
  rcases Nat.eq_zero_or_pos ws.length with z | z
  · exact Or.inl ⟨z, h1 z⟩
  · obtain ⟨l1, l2⟩ := all_low _ (by omega) z
    have h64 := (b_all ws.length (by omega)).2
    obtain ⟨p', hp', e⟩ := h (2 ^ ws.length - 1) l2 (by omega)
    have hp := h2 z
    have a1 := (hp.2 p' hp'.1).1
    have a2 := (hp'.2 p hp.1).1
    have hb := hp.1.2.1
    rw [l1] at hb
    have hle := (sub_le _ (by omega) p hp.1.2.2.2 hp.1.1).1
    refine Or.inr ⟨z, ⟨by omega, hb, hp.1.2.2.1, by omega⟩, fun q hq w => ?_⟩
    have hv : vd ws rm (2 ^ ws.length - 1) q := ⟨all_sub _ (by omega) q (by have := w.1; omega) w.1, by rw [l1]; exact w.2.1, w.2.2.1, by have := w.1; omega⟩
    have := (hp.2 q hv).2 hq
    have := w.2.2.2
    omega
section PKB
variable {a : As} {M : pm_M} {c : Cf}
theorem m_sumOf (d : Nat) (hM : pm_ok M) {r s : Nat} (hr : r < 6) {ws : List Nat} (hl : ws.length ≤ 6) (hs : s < 64) (h : MRow M r (some (ws.map nI))) : pm_call (d + 2) 259 [.ref 132, .int (nI r), .int (nI s)] M (some (.int (nI (su ws s ws.length)))) M := by
  refine en_259 (Nat.le_of_ble_eq_true rfl) ?_
  obtain ⟨e1, e2, e3⟩ := h
  rw [map_len] at e1 e2 e3
  have hin : vp_in (nI r) 6 := vp_in_nI hr (by decide)
  have e4 : (nI r).toNatClampNeg = r := nI_clamp (by omega)
  refine st_k rfl ?_
  refine st_ist rfl ?_
  refine st_k rfl ?_
  refine st_ist rfl ?_
  -- at 5: stop
  refine wp_for ws.length (fun i L M1 => ∃ x, x = nI i ∧ L = [some (.ref 132), some (.int (nI r)), some (.int (nI s)), some (.int (nI (su ws s i))), some (.int x)] ∧ M1 = M) ?_ ?_ 0 _ _ (Nat.zero_le _) ⟨_, rfl, rfl, rfl⟩
  · rintro i L M1 hi ⟨x, rfl, rfl, rfl⟩ ih
    have hh := m_has (M := M1) d (nI s) (nI i)
    refine st_ild rfl rfl ?_
    refine st_ald rfl rfl ?_
    refine st_gR' rfl (by first | exact tT hM rfl | assumption | exact rw_T hM (by assumption) | exact rw_A hM (by assumption)) (by first | exact rR hM rfl rfl | assumption | exact rw_R hM (by assumption)) ?_
    refine st_ild rfl rfl ?_
    refine st_iald rfl (by first | exact tT hM rfl | assumption | exact rw_T hM (by assumption) | exact rw_A hM (by assumption)) (by first | decide | assumption | exact vp_in_nI (by omega) (by decide)) ?_
    -- at 13: stop
    refine wp_e (y := nI ws.length) (by rw [e4]; exact e1) ?_
    refine st_b2 rfl (fun zq => absurd zq (nI_ge (by omega) (by omega))) (fun _ => ?_)
    refine st_ild rfl rfl ?_
    refine st_ild rfl rfl ?_
    refine st_ild rfl rfl ?_
    refine st_call (As := [_, _]) rfl rfl rfl (Nat.le_of_ble_eq_true rfl) (hh) ?_
    -- at 23: stop
    by_cases g : s.testBit i = true
    · have g1 := (bit1 hs (show i < 6 by omega)).mpr g
      refine st_b1 rfl (fun zq => absurd zq (b01_t g1)) (fun _ => ?_)
      refine st_ald rfl rfl ?_
      refine st_ild rfl rfl ?_
      refine st_ild rfl rfl ?_
      refine st_cav (As := [_, _]) rfl rfl rfl (by first | exact tT hM rfl | assumption | exact rw_T hM (by assumption) | exact rw_A hM (by assumption)) (Nat.le_of_ble_eq_true rfl) (m_rowAt d hM hr (i := i) (by omega)) ?_
      -- at 33: stop
      refine wp_e (y := nI (ws.getD i 0)) (by rw [e3 i hi, map_getD hi]) ?_
      refine st_go rfl ?_
      refine st_ib rfl ?_
      refine st_ist rfl ?_
      refine st_inc rfl rfl ?_
      refine st_go rfl ?_
      -- at 5: stop
      exact ih _ _ ⟨_, nI_1 i, by rw [su_s, if_pos g, ← nI_add]; rfl, rfl⟩
    · have g1 := fun z => g ((bit1 hs (show i < 6 by omega)).mp z)
      refine st_b1 rfl (fun _ => ?_) (fun zq => absurd (b01_f g1) zq)
      refine st_k rfl ?_
      refine st_ib rfl ?_
      refine st_ist rfl ?_
      refine st_inc rfl rfl ?_
      refine st_go rfl ?_
      -- at 5: stop
      exact ih _ _ ⟨_, nI_1 i, by rw [su_s, if_neg g, Nat.add_zero]; exact congrArg (fun z => [some (Value.ref 132), some (.int (nI r)), some (.int (nI s)), some (.int z), some (.int (nI i + 1))]) (Int32.add_zero _), rfl⟩
  · rintro L M1 ⟨x, rfl, rfl, rfl⟩
    refine st_ild rfl rfl ?_
    refine st_ald rfl rfl ?_
    refine st_gR' rfl (by first | exact tT hM rfl | assumption | exact rw_T hM (by assumption) | exact rw_A hM (by assumption)) (by first | exact rR hM rfl rfl | assumption | exact rw_R hM (by assumption)) ?_
    refine st_ild rfl rfl ?_
    refine st_iald rfl (by first | exact tT hM rfl | assumption | exact rw_T hM (by assumption) | exact rw_A hM (by assumption)) (by first | decide | assumption | exact vp_in_nI (by omega) (by decide)) ?_
    -- at 13: stop
    refine wp_e (y := nI ws.length) (by rw [e4]; exact e1) ?_
    refine st_b2 rfl (fun _ => ?_) (fun zq => absurd (nI_le (by omega) (by omega)) zq)
    refine st_ild rfl rfl ?_
    -- at 46: op_iret
    exact st_iret rfl ⟨rfl, rfl⟩
/-- the reference looks at all matters -/
theorem m_packsPre (d : Nat) (hM : pm_ok M) (hw : cf_wf c) (hc : MC c M) {j : Nat} (hj : j < 6) {l : List Int32} (hl : l.length ≤ 6) (h : MRow M j (some l)) {Q : Option Value → pm_M → Prop}
    (hk : ∀ g f : Int32, ((g = 1 ∧ ib l 100) ∨ (g = 0 ∧ ¬ ib l 100)) → ((f = 1 ∧ ∀ i, i < l.length → l.getD i 0 ≤ nI (cf_rm c)) ∨ (f = 0 ∧ ¬ ∀ i, i < l.length → l.getD i 0 ≤ nI (cf_rm c))) → pm_WP (pm_call (d + 2)) tb_260 Q 115 [some (.ref 132), some (.int (nI j)), some (.int g), some (.int f), some (.int (nI l.length)), none, none] [] M) :
    pm_WP (pm_call (d + 2)) tb_260 Q 48 [some (.ref 132), some (.int (nI j)), some (.int 1), some (.int 1), some (.int 0), none, none] [] M := by
  have hin : vp_in (nI j) 6 := vp_in_nI hj (by decide)
  have e4 : (nI j).toNatClampNeg = j := nI_clamp (by omega)
  obtain ⟨e1, e2, e3⟩ := h
  refine wp_for l.length (fun i L M1 => ∃ x g f : Int32, x = nI i ∧ L = [some (.ref 132), some (.int (nI j)), some (.int g), some (.int f), some (.int x), none, none] ∧ M1 = M ∧ ((g = 1 ∧ ∀ q, q < i → ¬ l.getD q 0 < 0 ∧ ¬ 99 < l.getD q 0) ∨ (g = 0 ∧ ¬ ib l 100)) ∧ ((f = 1 ∧ ∀ q, q < i → l.getD q 0 ≤ nI (cf_rm c)) ∨ (f = 0 ∧ ¬ ∀ i, i < l.length → l.getD i 0 ≤ nI (cf_rm c)))) ?_ ?_ 0 _ _ (Nat.zero_le _) ⟨_, 1, 1, rfl, rfl, rfl, Or.inl ⟨rfl, fun q hq => by omega⟩, Or.inl ⟨rfl, fun q hq => by omega⟩⟩
  · rintro i L M1 hi ⟨x, g, f, rfl, rfl, rfl, hg, hf⟩ ih
    have h99 : ∀ v : Int32, ¬ 99 < v ↔ v < 100 := fun v => by
      rw [Int32.lt_iff_toInt_lt, Int32.lt_iff_toInt_lt]
      have x1 : (99 : Int32).toInt = 99 := by decide
      have x2 : (100 : Int32).toInt = 100 := by decide
      omega
    have hra := m_rowAt (d + 1) hM hj (i := i) (by omega)
    have fin : ∀ g' : Int32, ((g' = 1 ∧ ∀ q, q < i + 1 → ¬ l.getD q 0 < 0 ∧ ¬ 99 < l.getD q 0) ∨ (g' = 0 ∧ ¬ ib l 100)) → pm_WP (pm_call (d + 2)) tb_260 Q 84 [some (.ref 132), some (.int (nI j)), some (.int g), some (.int f), some (.int (nI i)), none, none] [.int g'] M1 := by
      intro g' hg'
      rcases hf with ⟨f1, f2⟩ | ⟨f1, f2⟩
      · subst f1
        refine st_ist rfl ?_
        refine st_ild rfl rfl ?_
        refine st_b1 rfl (fun zq => absurd zq ((by decide))) (fun _ => ?_)
        refine st_ald rfl rfl ?_
        refine st_ild rfl rfl ?_
        refine st_ild rfl rfl ?_
        refine st_cav (As := [_, _]) rfl rfl rfl (by first | exact tT hM rfl | assumption | exact rw_T hM (by assumption) | exact rw_A hM (by assumption)) (Nat.le_of_ble_eq_true rfl) (hra) ?_
        -- at 96: stop
        refine wp_e (e3 i hi) ?_
        refine st_ald rfl rfl ?_
        refine st_cav (As := []) rfl rfl rfl (by first | exact tT hM rfl | assumption | exact rw_T hM (by assumption) | exact rw_A hM (by assumption)) (Nat.le_of_ble_eq_true rfl) (m_roomNow (d + 1) hM hw hc) ?_
        refine st_b2 rfl (fun w => ?_) (fun w => ?_)
        -- at 100: split 107 103
        · refine st_k rfl ?_
          refine st_ist rfl ?_
          refine st_inc rfl rfl ?_
          refine st_go rfl ?_
          -- at 48: stop
          exact ih _ _ ⟨_, g', 0, nI_1 i, rfl, rfl, hg', Or.inr ⟨rfl, fun z => absurd (z i hi) (Int32.not_le.mpr w)⟩⟩
        · have w := Int32.not_lt.mp w
          refine st_k rfl ?_
          refine st_go rfl ?_
          refine st_ist rfl ?_
          refine st_inc rfl rfl ?_
          refine st_go rfl ?_
          -- at 48: stop
          refine ih _ _ ⟨_, g', 1, nI_1 i, rfl, rfl, hg', Or.inl ⟨rfl, fun q hq => ?_⟩⟩
          rcases Nat.lt_or_ge q i with z | z
          · exact f2 q z
          · rw [show q = i by omega]; exact w
      · subst f1
        refine st_ist rfl ?_
        refine st_ild rfl rfl ?_
        refine st_b1 rfl (fun _ => ?_) (fun zq => absurd (rfl) zq)
        refine st_k rfl ?_
        refine st_ist rfl ?_
        refine st_inc rfl rfl ?_
        refine st_go rfl ?_
        -- at 48: stop
        exact ih _ _ ⟨_, g', 0, nI_1 i, rfl, rfl, hg', Or.inr ⟨rfl, f2⟩⟩
    refine st_ild rfl rfl ?_
    refine st_ald rfl rfl ?_
    refine st_gR' rfl (by first | exact tT hM rfl | assumption | exact rw_T hM (by assumption) | exact rw_A hM (by assumption)) (by first | exact rR hM rfl rfl | assumption | exact rw_R hM (by assumption)) ?_
    refine st_ild rfl rfl ?_
    refine st_iald rfl (by first | exact tT hM rfl | assumption | exact rw_T hM (by assumption) | exact rw_A hM (by assumption)) (by first | decide | assumption | exact vp_in_nI (by omega) (by decide)) ?_
    -- at 56: stop
    refine wp_e (y := nI l.length) (by rw [e4]; exact e1) ?_
    rcases hg with ⟨g1, g2⟩ | ⟨g1, g2⟩
    · subst g1
      refine st_b2 rfl (fun zq => absurd zq (nI_ge (by omega) (by omega))) (fun _ => ?_)
      refine st_ild rfl rfl ?_
      refine st_b1 rfl (fun zq => absurd zq ((by decide))) (fun _ => ?_)
      refine st_ald rfl rfl ?_
      refine st_ild rfl rfl ?_
      refine st_ild rfl rfl ?_
      refine st_cav (As := [_, _]) rfl rfl rfl (by first | exact tT hM rfl | assumption | exact rw_T hM (by assumption) | exact rw_A hM (by assumption)) (Nat.le_of_ble_eq_true rfl) (hra) ?_
      -- at 70: stop
      refine wp_e (e3 i hi) ?_
      refine st_k rfl ?_
      refine st_k rfl ?_
      refine st_call (As := [_, _, _]) rfl rfl rfl (Nat.le_of_ble_eq_true rfl) (m_in (d + 1) _ 0 99) ?_
      refine st_b1 rfl (fun w => ?_) (fun w => ?_)
      -- at 76: split 83 79
      · refine st_k rfl ?_
        -- at 84: stop
        refine fin 0 (Or.inr ⟨rfl, fun z => b01_t (i := inferInstance) ⟨(z i hi).1, (h99 _).mpr (z i hi).2⟩ w⟩)
      · have w := Decidable.not_not.mp (fun z => w (b01_f z))
        refine st_k rfl ?_
        refine st_go rfl ?_
        -- at 84: stop
        refine fin 1 (Or.inl ⟨rfl, fun q hq => ?_⟩)
        rcases Nat.lt_or_ge q i with z | z
        · exact g2 q z
        · rw [show q = i by omega]; exact w
    · subst g1
      refine st_b2 rfl (fun zq => absurd zq (nI_ge (by omega) (by omega))) (fun _ => ?_)
      refine st_ild rfl rfl ?_
      refine st_b1 rfl (fun _ => ?_) (fun zq => absurd (rfl) zq)
      refine st_k rfl ?_
      -- at 84: stop
      exact fin 0 (Or.inr ⟨rfl, g2⟩)
  · rintro L M1 ⟨x, g, f, rfl, rfl, rfl, hg, hf⟩
    have h99 : ∀ v : Int32, ¬ 99 < v ↔ v < 100 := fun v => by
      rw [Int32.lt_iff_toInt_lt, Int32.lt_iff_toInt_lt]
      have x1 : (99 : Int32).toInt = 99 := by decide
      have x2 : (100 : Int32).toInt = 100 := by decide
      omega
    refine st_ild rfl rfl ?_
    refine st_ald rfl rfl ?_
    refine st_gR' rfl (by first | exact tT hM rfl | assumption | exact rw_T hM (by assumption) | exact rw_A hM (by assumption)) (by first | exact rR hM rfl rfl | assumption | exact rw_R hM (by assumption)) ?_
    refine st_ild rfl rfl ?_
    refine st_iald rfl (by first | exact tT hM rfl | assumption | exact rw_T hM (by assumption) | exact rw_A hM (by assumption)) (by first | decide | assumption | exact vp_in_nI (by omega) (by decide)) ?_
    -- at 56: stop
    refine wp_e (y := nI l.length) (by rw [e4]; exact e1) ?_
    refine st_b2 rfl (fun _ => ?_) (fun zq => absurd (nI_le (by omega) (by omega)) zq)
    -- at 115: stop
    refine hk g f ?_ hf
    rcases hg with ⟨g1, g2⟩ | z
    · exact Or.inl ⟨g1, fun i hi => ⟨(g2 i hi).1, (h99 _).mp (g2 i hi).2⟩⟩
    · exact Or.inr z
/-- the reference counts ropes for all sets, and looks for the first matter's -/
theorem m_packsEnd (d : Nat) (h : IM a M) (hw : cf_wf (aC a)) {j : Nat} (hj : j < 6) {ws : List Nat} (hl : ws.length ≤ 6) (h99 : ∀ i, i < ws.length → ws.getD i 0 ≤ 99) (hf : ∀ i, i < ws.length → ws.getD i 0 ≤ cf_rm (aC a)) (hx : aR a j = some (ws.map nI)) :
    ∀ l5 l6, pm_WP (pm_call (d + 2)) tb_260 (fun r0 M' => ∃ T o, T 0 = 0 ∧ (∀ s, 0 < s → s < 2 ^ ws.length → fw T ws (cf_rm (aC a)) s) ∧ ow T ws (cf_rm (aC a)) o ∧ r0 = some (.int (nI (T (2 ^ ws.length - 1)))) ∧ IM (sA' a (nI o)) M' ∧ Mfr M M') 132 [some (.ref 132), some (.int (nI j)), some (.int 1), some (.int 1), l5, l6, none] [] M := by
  intro l5 l6
  have hM := h.1
  obtain ⟨a1, a2⟩ := b_all ws.length (by omega)
  have a3 := Nat.two_pow_pos ws.length
  have hrm := rm99 hw
  have hin : vp_in (nI j) 6 := vp_in_nI hj (by decide)
  have e4 : (nI j).toNatClampNeg = j := nI_clamp (by omega)
  have hr0 := h.2.1 j hj
  rw [hx] at hr0
  have one : ∀ s, 0 < s → s < 2 ^ ws.length → su ws (2 ^ lo6 s) ws.length ≤ cf_rm (aC a) := by
    intro s z1 z2
    rw [su_one]
    split
    case isTrue z => exact hf _ z
    case isFalse z => exact Nat.zero_le _
  refine st_k rfl ?_
  refine st_ald rfl rfl ?_
  refine st_gR' rfl (by first | exact tT hM rfl | assumption | exact rw_T hM (by assumption) | exact rw_A hM (by assumption)) (by first | exact rR hM rfl rfl | assumption | exact rw_R hM (by assumption)) ?_
  refine st_ild rfl rfl ?_
  refine st_iald rfl (by first | exact tT hM rfl | assumption | exact rw_T hM (by assumption) | exact rw_A hM (by assumption)) (by first | decide | assumption | exact vp_in_nI (by omega) (by decide)) ?_
  -- at 139: stop
  refine wp_e (y := nI ws.length) (by rw [e4]; have := hr0.1; rw [map_len] at this; exact this) ?_
  refine st_ib rfl ?_
  refine st_k rfl ?_
  refine st_ib rfl ?_
  -- at 142: stop
  refine wp_e a1 ?_
  refine st_ist rfl ?_
  refine st_k rfl ?_
  refine st_ist rfl ?_
  -- at 147: stop
  refine wp_for (2 ^ ws.length) (fun s L M1 => ∃ x T y6, x = nI s ∧ L = [some (.ref 132), some (.int (nI j)), some (.int 1), some (.int 1), some (.int (nI (2 ^ ws.length - 1))), some (.int x), y6] ∧ Msc M M1 ∧ (0 < s → T 0 = 0) ∧ (∀ q, q < s → gI M1 166 q = nI (T q) ∧ T q ≤ q) ∧ ∀ s', 0 < s' → s' < s → fw T ws (cf_rm (aC a)) s') ?_ ?_ 0 _ _ (Nat.zero_le _) ⟨_, fun _ => 0, _, rfl, rfl, Msc.rf M, fun z => by omega, fun q hq => by omega, fun s' _ z => by omega⟩
  · rintro s L M1 hs ⟨x, T, y6, rfl, rfl, hsc, T0, q2, q3⟩ ih
    have hM1 := hsc.ok hM
    have s64 : s < 64 := by omega
    have hin2 : vp_in (nI s) 64 := vp_in_nI s64 (by decide)
    have e5 : (nI s).toNatClampNeg = s := nI_clamp (by omega)
    have inner : ∀ M2 v0, Msc M M2 → v0 = (if s = 0 then 0 else 100000) → gI M2 166 s = nI v0 → (∀ q, q < s → gI M2 166 q = nI (T q)) → pm_WP (pm_call (d + 2)) tb_260 (fun r0 M' => ∃ T o, T 0 = 0 ∧ (∀ s, 0 < s → s < 2 ^ ws.length → fw T ws (cf_rm (aC a)) s) ∧ ow T ws (cf_rm (aC a)) o ∧ r0 = some (.int (nI (T (2 ^ ws.length - 1)))) ∧ IM (sA' a (nI o)) M' ∧ Mfr M M') 176 [some (.ref 132), some (.int (nI j)), some (.int 1), some (.int 1), some (.int (nI (2 ^ ws.length - 1))), some (.int (nI s)), some (.int 1)] [] M2 := by
      intro M2 v0 hs2 hv0 hg0 hgT
      refine wp_for (s + 1) (fun q L M3 => ∃ x v, 1 ≤ q ∧ x = nI q ∧ L = [some (.ref 132), some (.int (nI j)), some (.int 1), some (.int 1), some (.int (nI (2 ^ ws.length - 1))), some (.int (nI s)), some (.int x)] ∧ Msc M M3 ∧ (∀ q, q < s → gI M3 166 q = nI (T q)) ∧ gI M3 166 s = nI v ∧ v ≤ 100000 ∧ (v = v0 ∨ ∃ p, 0 < p ∧ p < 64 ∧ p &&& s = p ∧ su ws p ws.length ≤ cf_rm (aC a) ∧ v = 1 + T (s ^^^ p)) ∧ ∀ p, 0 < p → p < q → p &&& s = p → su ws p ws.length ≤ cf_rm (aC a) → v ≤ 1 + T (s ^^^ p)) ?_ ?_ 1 _ _ (by omega) ⟨_, v0, Nat.le_refl _, rfl, rfl, hs2, hgT, hg0, by rw [hv0]; split <;> omega, Or.inl rfl, fun p z1 z2 => by omega⟩
      · rintro q L M3 hq ⟨x, v, q1, rfl, rfl, hs3, w1, w2, w3, w4, w5⟩ ih2
        have hM3 := hs3.ok hM
        have q64 : q < 64 := by omega
        have hc3 := h.2.2.2.1.sc hs3
        have hr3 := hr0.sc hs3
        have hsu := su_le h99 q ws.length (Nat.le_refl _)
        have no : ¬ (q &&& s = q ∧ su ws q ws.length ≤ cf_rm (aC a)) → pm_WP (pm_call (d + 2)) tb_260 (fun r0 M' => ∃ T o, T 0 = 0 ∧ (∀ s, 0 < s → s < 2 ^ ws.length → fw T ws (cf_rm (aC a)) s) ∧ ow T ws (cf_rm (aC a)) o ∧ r0 = some (.int (nI (T (2 ^ ws.length - 1)))) ∧ IM (sA' a (nI o)) M' ∧ Mfr M M') 238 [some (.ref 132), some (.int (nI j)), some (.int 1), some (.int 1), some (.int (nI (2 ^ ws.length - 1))), some (.int (nI s)), some (.int (nI q))] [] M3 := by
          intro nv
          refine st_inc rfl rfl ?_
          refine st_go rfl ?_
          -- at 176: stop
          refine ih2 _ _ ⟨_, v, by omega, nI_1 q, rfl, hs3, w1, w2, w3, w4, fun p p0 p1 p2 p3 => ?_⟩
          rcases Nat.lt_or_ge p q with z | z
          · exact w5 p p0 z p2 p3
          · rw [show p = q by omega] at p2 p3; exact absurd ⟨p2, p3⟩ nv
        refine st_ild rfl rfl ?_
        refine st_ild rfl rfl ?_
        refine st_b2 rfl (fun zq => absurd zq (nI_nlt (by omega) (by omega))) (fun _ => ?_)
        refine st_ild rfl rfl ?_
        refine st_ild rfl rfl ?_
        refine st_k rfl ?_
        refine st_ib rfl ?_
        refine st_ib rfl ?_
        refine st_b1 rfl (fun g1 => ?_) (fun g1 => ?_)
        -- at 190: split 238 193
        · exact no (fun z => g1 ((b_not s s64 q q64).mpr z.1))
        · have g1 := (b_not s s64 q q64).mp (Decidable.not_not.mp g1)
          refine st_ald rfl rfl ?_
          refine st_ild rfl rfl ?_
          refine st_ild rfl rfl ?_
          refine st_cav (As := [_, _]) rfl rfl rfl (by first | exact tT hM3 rfl | assumption | exact rw_T hM3 (by assumption) | exact rw_A hM3 (by assumption)) (Nat.le_of_ble_eq_true rfl) (m_sumOf d hM3 hj hl q64 hr3) ?_
          refine st_ald rfl rfl ?_
          refine st_cav (As := []) rfl rfl rfl (by first | exact tT hM3 rfl | assumption | exact rw_T hM3 (by assumption) | exact rw_A hM3 (by assumption)) (Nat.le_of_ble_eq_true rfl) (m_roomNow (d + 1) hM3 hw hc3) ?_
          refine st_b2 rfl (fun g2 => ?_) (fun g2 => ?_)
          -- at 204: split 238 207
          · exact no (fun z => absurd ((nI_ltI (by omega) (by omega)).mp g2) (by have := z.2; omega))
          · have g2 : su ws q ws.length ≤ cf_rm (aC a) := Nat.not_lt.mp (fun z => g2 (nI_lt z (by omega)))
            have xs := (sub_le s s64 q q64 g1).2.2 (by omega)
            have hin3 : vp_in (nI (s ^^^ q)) 64 := vp_in_nI (by omega) (by decide)
            obtain ⟨t1, t2⟩ := q2 _ xs
            have hle := m_lesser (M := M3) (d + 1) (nI v) (nI (1 + T (s ^^^ q)))
            refine st_ald rfl rfl ?_
            refine st_gR' rfl (by first | exact tT hM3 rfl | assumption | exact rw_T hM3 (by assumption) | exact rw_A hM3 (by assumption)) (by first | exact rR hM3 rfl rfl | assumption | exact rw_R hM3 (by assumption)) ?_
            refine st_ild rfl rfl ?_
            refine st_ald rfl rfl ?_
            refine st_gR' rfl (by first | exact tT hM3 rfl | assumption | exact rw_T hM3 (by assumption) | exact rw_A hM3 (by assumption)) (by first | exact rR hM3 rfl rfl | assumption | exact rw_R hM3 (by assumption)) ?_
            refine st_ild rfl rfl ?_
            refine st_iald rfl (tT hM3 rfl) (hin2) ?_
            -- at 220: stop
            refine wp_e (y := nI v) (by rw [e5]; exact w2) ?_
            refine st_k rfl ?_
            refine st_ald rfl rfl ?_
            refine st_gR' rfl (by first | exact tT hM3 rfl | assumption | exact rw_T hM3 (by assumption) | exact rw_A hM3 (by assumption)) (by first | exact rR hM3 rfl rfl | assumption | exact rw_R hM3 (by assumption)) ?_
            refine st_ild rfl rfl ?_
            refine st_ild rfl rfl ?_
            refine st_k rfl ?_
            refine st_ib rfl ?_
            refine st_ib rfl ?_
            -- at 232: stop
            refine wp_e (b_dif s s64 q q64 g1) ?_
            refine st_iald rfl (tT hM3 rfl) (hin3) ?_
            -- at 233: stop
            refine wp_e (y := nI (T (s ^^^ q))) (by rw [nI_clamp (by omega)]; exact w1 _ xs) ?_
            refine st_ib rfl ?_
            -- at 234: stop
            refine wp_e (nI_add 1 _) ?_
            refine st_call (As := [_, _]) rfl rfl rfl (Nat.le_of_ble_eq_true rfl) (hle) ?_
            refine st_iast rfl (tT hM3 rfl) (hin2) ?_
            refine st_inc rfl rfl ?_
            refine st_go rfl ?_
            -- at 176: stop
            rw [e5]
            have emin : (if nI v < nI (1 + T (s ^^^ q)) then nI v else nI (1 + T (s ^^^ q))) = nI (min v (1 + T (s ^^^ q))) := by
              by_cases g : v < 1 + T (s ^^^ q)
              · rw [if_pos (nI_lt g (by omega)), Nat.min_eq_left (by omega)]
              · rw [if_neg (nI_nlt (by omega) (by omega)), Nat.min_eq_right (by omega)]
            rw [emin]
            refine ih2 _ _ ⟨_, min v (1 + T (s ^^^ q)), by omega, nI_1 q, rfl, hs3.sI _ (by omega), fun x hx => ?_, gI_same _ _ _ _, by omega, ?_, fun p p0 p1 p2 p3 => ?_⟩
            · rw [gI_ne (Or.inr (by omega))]; exact w1 x hx
            · by_cases g : v < 1 + T (s ^^^ q)
              · rw [Nat.min_eq_left (by omega)]; exact w4
              · rw [Nat.min_eq_right (by omega)]; exact Or.inr ⟨q, by omega, q64, g1, g2, rfl⟩
            · rcases Nat.lt_or_ge p q with z | z
              · have := w5 p p0 z p2 p3; omega
              · rw [show p = q by omega]; omega
      · rintro L M3 ⟨x, v, q1, rfl, rfl, hs3, w1, w2, w3, w4, w5⟩
        have hv : (s = 0 ∧ v = 0) ∨ (0 < s ∧ ∃ p, 0 < p ∧ p < 64 ∧ p &&& s = p ∧ su ws p ws.length ≤ cf_rm (aC a) ∧ v = 1 + T (s ^^^ p)) := by
          rcases Nat.eq_zero_or_pos s with z | z
          · rcases w4 with w | ⟨p, p0, p6, ps, _⟩
            · exact Or.inl ⟨z, by rw [w, hv0, if_pos z]⟩
            · rw [z, Nat.and_zero] at ps; omega
          · refine Or.inr ⟨z, ?_⟩
            rcases w4 with w | w
            · obtain ⟨k1, k2, k3, k4, k5⟩ := low_ok s s64 z
              have u1 := w5 (2 ^ lo6 s) (Nat.two_pow_pos _) (by omega) k4 (one s z hs)
              have u2 := (q2 _ ((sub_le s s64 _ (by omega) k4).2.2 (Nat.two_pow_pos _))).2
              have u3 := (sub_le s s64 _ (by omega) k4).2.1
              rw [w, hv0, if_neg (by omega)] at u1
              omega
            · exact w
        refine st_ild rfl rfl ?_
        refine st_ild rfl rfl ?_
        refine st_b2 rfl (fun _ => ?_) (fun zq => absurd (nI_lt (by omega) (by omega)) zq)
        refine st_inc rfl rfl ?_
        refine st_go rfl ?_
        -- at 147: stop
        have he : ∀ q, q < s → (if q = s then v else T q) = T q := fun q z => if_neg (by omega)
        refine ih _ _ ⟨_, fun q => if q = s then v else T q, _, nI_1 s, rfl, hs3, fun _ => ?_, fun q z => ?_, fun s' z1 z2 => ?_⟩
        · rcases hv with ⟨z, z2⟩ | ⟨z, _⟩
          · show (if 0 = s then v else T 0) = 0
            rw [if_pos z.symm, z2]
          · show (if 0 = s then v else T 0) = 0
            rw [if_neg (by omega)]; exact T0 z
        · by_cases w : q = s
          · subst w
            dsimp only
            rw [if_pos rfl]
            refine ⟨w2, ?_⟩
            rcases hv with ⟨z, z2⟩ | ⟨z, p, p0, p6, ps, pf, pe⟩
            · omega
            · have xs := (sub_le q s64 p p6 ps).2.2 p0
              have := (q2 _ xs).2
              omega
          · dsimp only
            rw [if_neg w]
            exact ⟨w1 q (by omega), (q2 q (by omega)).2⟩
        · by_cases w : s' = s
          · subst w
            rcases hv with ⟨z, z2⟩ | ⟨z, p, p0, p6, ps, pf, pe⟩
            · omega
            · refine ⟨fun p p0 p6 ps pf => ?_, p, p0, p6, ps, pf, ?_⟩
              · have xs := sub_le s' s64 p p6 ps
                have xs2 := xs.2.2 p0
                dsimp only
                rw [if_pos rfl, if_neg (by omega)]
                exact w5 p p0 (by omega) ps pf
              · have xs := (sub_le s' s64 p p6 ps).2.2 p0
                dsimp only
                rw [if_pos rfl, if_neg (by omega)]
                exact pe
          · exact fw_cg (by omega) (fun x hx => if_neg (by omega)) (q3 s' z1 (by omega))
    by_cases g0 : s = 0
    · have z : nI s = 0 := by rw [g0]; rfl
      refine st_ild rfl rfl ?_
      refine st_ild rfl rfl ?_
      refine st_b2 rfl (fun zq => absurd zq (nI_nlt (by omega) (by omega))) (fun _ => ?_)
      refine st_ald rfl rfl ?_
      refine st_gR' rfl (by first | exact tT hM1 rfl | assumption | exact rw_T hM1 (by assumption) | exact rw_A hM1 (by assumption)) (by first | exact rR hM1 rfl rfl | assumption | exact rw_R hM1 (by assumption)) ?_
      refine st_ild rfl rfl ?_
      refine st_ild rfl rfl ?_
      refine st_b1 rfl (fun zq => absurd zq ((fun w => w z))) (fun _ => ?_)
      refine st_k rfl ?_
      refine st_go rfl ?_
      refine st_iast rfl (tT hM1 rfl) (hin2) ?_
      refine st_k rfl ?_
      refine st_ist rfl ?_
      -- at 176: stop
      rw [e5]
      exact inner _ 0 (hsc.sI _ (by omega)) (by rw [if_pos g0]) (gI_same _ _ _ _) (fun q hq => by omega)
    · have z : ¬ nI s = 0 := nI_ne0 (by omega) (by omega)
      refine st_ild rfl rfl ?_
      refine st_ild rfl rfl ?_
      refine st_b2 rfl (fun zq => absurd zq (nI_nlt (by omega) (by omega))) (fun _ => ?_)
      refine st_ald rfl rfl ?_
      refine st_gR' rfl (by first | exact tT hM1 rfl | assumption | exact rw_T hM1 (by assumption) | exact rw_A hM1 (by assumption)) (by first | exact rR hM1 rfl rfl | assumption | exact rw_R hM1 (by assumption)) ?_
      refine st_ild rfl rfl ?_
      refine st_ild rfl rfl ?_
      refine st_b1 rfl (fun _ => ?_) (fun zq => absurd (z) zq)
      refine st_k rfl ?_
      refine st_iast rfl (tT hM1 rfl) (hin2) ?_
      refine st_k rfl ?_
      refine st_ist rfl ?_
      -- at 176: stop
      rw [e5]
      exact inner _ 100000 (hsc.sI _ (by omega)) (by rw [if_neg g0]) (gI_same _ _ _ _) (fun q hq => by rw [gI_ne (Or.inr (by omega))]; exact (q2 q hq).1)
  · rintro L M1 ⟨x, T, y6, rfl, rfl, hsc, T0, q2, q3⟩
    have hM1 := hsc.ok hM
    have hI := h.sc hsc
    have hr1 := hr0.sc hsc
    have hina : vp_in (nI (2 ^ ws.length - 1)) 64 := vp_in_nI (by omega) (by decide)
    have e6 : (nI (2 ^ ws.length - 1)).toNatClampNeg = 2 ^ ws.length - 1 := nI_clamp (by omega)
    obtain ⟨ta1, ta2⟩ := q2 (2 ^ ws.length - 1) (by omega)
    refine st_ild rfl rfl ?_
    refine st_ild rfl rfl ?_
    refine st_b2 rfl (fun _ => ?_) (fun zq => absurd (nI_lt (by omega) (by omega)) zq)
    refine st_k rfl ?_
    refine st_ist rfl ?_
    refine st_ild rfl rfl ?_
    refine st_ist rfl ?_
    -- at 257: stop
    refine wp_for (2 ^ ws.length - 1) (fun i L M2 => ∃ x o, x = nI (2 ^ ws.length - 1 - i) ∧ L = [some (.ref 132), some (.int (nI j)), some (.int 1), some (.int 1), some (.int (nI (2 ^ ws.length - 1))), some (.int (nI o)), some (.int x)] ∧ M2 = M1 ∧ ((o = 0 ∧ ∀ q, 2 ^ ws.length - 1 - i < q → q < 2 ^ ws.length → ¬ pq T ws (cf_rm (aC a)) q) ∨ (pq T ws (cf_rm (aC a)) o ∧ ∀ q, 2 ^ ws.length - 1 - i < q → q < o → ¬ pq T ws (cf_rm (aC a)) q))) ?_ ?_ 0 _ _ (Nat.zero_le _) ⟨_, 0, rfl, rfl, rfl, Or.inl ⟨rfl, fun q z1 z2 => by omega⟩⟩
    · rintro i L M2 hi ⟨x, o, rfl, rfl, rfl, ho⟩ ih
      obtain ⟨q, hq⟩ : ∃ q, 2 ^ ws.length - 1 - i = q + 1 := ⟨2 ^ ws.length - 1 - i - 1, by omega⟩
      have hq' : 2 ^ ws.length - 1 - (i + 1) = q := by omega
      rw [hq] at ho ⊢
      have q64 : q + 1 < 64 := by omega
      have hsu := su_le h99 (q + 1) ws.length (Nat.le_refl _)
      have hh := m_has (M := M2) (d + 1) (nI (q + 1)) 0
      have no : ¬ pq T ws (cf_rm (aC a)) (q + 1) → pm_WP (pm_call (d + 2)) tb_260 (fun r0 M' => ∃ T o, T 0 = 0 ∧ (∀ s, 0 < s → s < 2 ^ ws.length → fw T ws (cf_rm (aC a)) s) ∧ ow T ws (cf_rm (aC a)) o ∧ r0 = some (.int (nI (T (2 ^ ws.length - 1)))) ∧ IM (sA' a (nI o)) M' ∧ Mfr M M') 314 [some (.ref 132), some (.int (nI j)), some (.int 1), some (.int 1), some (.int (nI (2 ^ ws.length - 1))), some (.int (nI o)), some (.int (nI (q + 1)))] [] M2 := by
        intro np
        refine st_ild rfl rfl ?_
        refine st_ist rfl ?_
        refine st_inc rfl rfl ?_
        refine st_go rfl ?_
        -- at 257: stop
        refine ih _ _ ⟨_, o, by rw [hq']; exact pk_m1 q, rfl, rfl, ?_⟩
        rw [hq']
        rcases ho with ⟨o1, o2⟩ | ⟨o1, o2⟩
        · refine Or.inl ⟨o1, fun x z1 z2 => ?_⟩
          rcases Nat.lt_or_ge (q + 1) x with z | z
          · exact o2 x z z2
          · rw [show x = q + 1 by omega]; exact np
        · refine Or.inr ⟨o1, fun x z1 z2 => ?_⟩
          rcases Nat.lt_or_ge (q + 1) x with z | z
          · exact o2 x z z2
          · rw [show x = q + 1 by omega]; exact np
      refine st_ild rfl rfl ?_
      refine st_b1 rfl (fun zq => absurd zq (nI_nle (by omega) (by omega))) (fun _ => ?_)
      refine st_ild rfl rfl ?_
      refine st_k rfl ?_
      refine st_call (As := [_, _]) rfl rfl rfl (Nat.le_of_ble_eq_true rfl) (hh) ?_
      -- at 268: stop
      by_cases g1 : (q + 1).testBit 0 = true
      · have g1' := (bit1 q64 (show 0 < 6 by decide)).mpr g1
        refine st_b1 rfl (fun zq => absurd zq (b01_t g1')) (fun _ => ?_)
        refine st_ald rfl rfl ?_
        refine st_ild rfl rfl ?_
        refine st_ild rfl rfl ?_
        refine st_cav (As := [_, _]) rfl rfl rfl (by first | exact tT hM1 rfl | assumption | exact rw_T hM1 (by assumption) | exact rw_A hM1 (by assumption)) (Nat.le_of_ble_eq_true rfl) (m_sumOf d hM1 hj hl q64 hr1) ?_
        refine st_ald rfl rfl ?_
        refine st_cav (As := []) rfl rfl rfl (by first | exact tT hM1 rfl | assumption | exact rw_T hM1 (by assumption) | exact rw_A hM1 (by assumption)) (Nat.le_of_ble_eq_true rfl) (m_roomNow (d + 1) hM1 hw hI.2.2.2.1) ?_
        refine st_b2 rfl (fun g2 => ?_) (fun g2 => ?_)
        -- at 282: split 314 285
        · exact no (fun z => absurd ((nI_ltI (by omega) (by omega)).mp g2) (by have := z.2.2.1; omega))
        · have g2 : su ws (q + 1) ws.length ≤ cf_rm (aC a) := Nat.not_lt.mp (fun z => g2 (nI_lt z (by omega)))
          have hsub := all_sub ws.length (by omega) (q + 1) q64 (by omega)
          have xs := (sub_le _ (by omega) (q + 1) q64 hsub).2.1
          have hin3 : vp_in (nI ((2 ^ ws.length - 1) ^^^ (q + 1))) 64 := vp_in_nI (by omega) (by decide)
          obtain ⟨tb1, tb2⟩ := q2 ((2 ^ ws.length - 1) ^^^ (q + 1)) (by omega)
          refine st_k rfl ?_
          refine st_ald rfl rfl ?_
          refine st_gR' rfl (by first | exact tT hM1 rfl | assumption | exact rw_T hM1 (by assumption) | exact rw_A hM1 (by assumption)) (by first | exact rR hM1 rfl rfl | assumption | exact rw_R hM1 (by assumption)) ?_
          refine st_ild rfl rfl ?_
          refine st_ild rfl rfl ?_
          refine st_k rfl ?_
          refine st_ib rfl ?_
          refine st_ib rfl ?_
          -- at 297: stop
          refine wp_e (b_dif _ (by omega) (q + 1) q64 hsub) ?_
          refine st_iald rfl (tT hM1 rfl) (hin3) ?_
          -- at 298: stop
          refine wp_e (y := nI (T ((2 ^ ws.length - 1) ^^^ (q + 1)))) (by rw [nI_clamp (by omega)]; exact tb1) ?_
          refine st_ib rfl ?_
          -- at 299: stop
          refine wp_e (nI_add 1 _) ?_
          refine st_ald rfl rfl ?_
          refine st_gR' rfl (by first | exact tT hM1 rfl | assumption | exact rw_T hM1 (by assumption) | exact rw_A hM1 (by assumption)) (by first | exact rR hM1 rfl rfl | assumption | exact rw_R hM1 (by assumption)) ?_
          refine st_ild rfl rfl ?_
          refine st_iald rfl (tT hM1 rfl) (hina) ?_
          -- at 306: stop
          refine wp_e (y := nI (T (2 ^ ws.length - 1))) (by rw [e6]; exact ta1) ?_
          refine st_b2 rfl (fun g3 => ?_) (fun g3 => ?_)
          -- at 306: split 314 309
          · exact no (fun z => g3 (by rw [z.2.2.2]))
          · have g3 := (nI_eq (by omega) (by omega)).mp (Decidable.not_not.mp g3)
            refine st_ild rfl rfl ?_
            refine st_go rfl ?_
            refine st_ist rfl ?_
            refine st_inc rfl rfl ?_
            refine st_go rfl ?_
            -- at 257: stop
            refine ih _ _ ⟨_, q + 1, by rw [hq']; exact pk_m1 q, rfl, rfl, Or.inr ⟨⟨by omega, g1, g2, g3⟩, fun x z1 z2 => by omega⟩⟩
      · have g1' := fun z => g1 ((bit1 q64 (show 0 < 6 by decide)).mp z)
        refine st_b1 rfl (fun _ => ?_) (fun zq => absurd (b01_f g1') zq)
        -- at 314: stop
        exact no (fun z => g1 z.2.1)
    · rintro L M2 ⟨x, o, rfl, rfl, rfl, ho⟩
      rw [Nat.sub_self] at ho ⊢
      refine st_ild rfl rfl ?_
      refine st_b1 rfl (fun _ => ?_) (fun zq => absurd ((by decide)) zq)
      refine st_ald rfl rfl ?_
      refine st_ild rfl rfl ?_
      refine st_ald rfl rfl ?_
      refine st_gR' rfl (by first | exact tT hM1 rfl | assumption | exact rw_T hM1 (by assumption) | exact rw_A hM1 (by assumption)) (by first | exact rR hM1 rfl rfl | assumption | exact rw_R hM1 (by assumption)) ?_
      refine st_ild rfl rfl ?_
      refine st_iald rfl (by first | exact tT hM1 rfl | assumption | exact rw_T hM1 (by assumption) | exact rw_A hM1 (by assumption)) (by first | decide | assumption | exact vp_in_nI (by omega) (by decide)) ?_
      -- at 334: stop
      refine wp_e (y := nI (T (2 ^ ws.length - 1))) (by rw [e6]; exact ta1) ?_
      refine st_cav (As := [_, _]) rfl rfl rfl (by first | exact tT hM1 rfl | assumption | exact rw_T hM1 (by assumption) | exact rw_A hM1 (by assumption)) (Nat.le_of_ble_eq_true rfl) (m_tells (d + 1) hM1 _ _) ?_
      -- at 337: op_iret
      refine st_iret rfl ⟨T, o, T0 a3, q3, ?_, rfl, hI.told, hsc.fr.sI (by decide) _ _⟩
      rcases Nat.eq_zero_or_pos ws.length with z | z
      · rcases ho with ⟨o1, o2⟩ | ⟨o1, o2⟩
        · exact Or.inl ⟨z, o1⟩
        · have := o1.1
          rw [z] at this
          exact Or.inl ⟨z, by omega⟩
      · refine Or.inr ⟨z, ?_⟩
        obtain ⟨l1, l2⟩ := all_low _ (by omega) z
        have hne0 : ¬ pq T ws (cf_rm (aC a)) 0 := fun w => by
          have := w.2.1
          simp at this
        obtain ⟨o', ho'⟩ := ow_ex hl q3
        rcases ho' with z' | ⟨z1, z2, z3⟩
        · omega
        · have o0 : 0 < o' := by
            rcases Nat.eq_zero_or_pos o' with w | w
            · rw [w] at z2; exact absurd z2 hne0
            · exact w
          rcases ho with ⟨o1, o2⟩ | ⟨o1, o2⟩
          · exact absurd z2 (o2 o' o0 z2.1)
          · refine ⟨o1, fun x hx => ?_⟩
            rcases Nat.eq_zero_or_pos x with w | w
            · rw [w]; exact hne0
            · exact o2 x w hx
end PKB

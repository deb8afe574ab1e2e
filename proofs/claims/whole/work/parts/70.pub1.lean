/-! BOTH ANSWER ALIKE: from any state that both hold, a call of both answers the same, and both hold the same state then -/
def PC (a : As) (j : Nat) (args : List Value) (x : Value) (a' : As) : Prop := ∀ (d : Nat) (M : pm_M), IC a M → ∃ M', pm_call (d + 20) j (.ref 0 :: args) M (some x) M' ∧ IC a' M' ∧ Cfr M M'
def PM (a : As) (j : Nat) (args : List Value) (x : Value) (a' : As) : Prop := ∀ (d : Nat) (M : pm_M), IM a M → ∃ M', pm_call (d + 20) j (.ref 132 :: args) M (some x) M' ∧ IM a' M' ∧ Mfr M M'
def Both (a : As) (jc jm : Nat) (args : List Value) : Prop := ∃ (x : Value) (a' : As), aw a' ∧ PC a jc args x a' ∧ PM a jm args x a'
theorem rRow' {M : pm_M} (h : pm_ok M) {j : Nat} (hj : j < 6) : gR M 1 (nI j).toNatClampNeg = some (106 + 2 * j) := by rw [nI_clamp (by omega)]; exact rRow h hj
theorem rTxt' {M : pm_M} (h : pm_ok M) {j : Nat} (hj : j < 4) : gR M 2 (nI j).toNatClampNeg = some (118 + 2 * j) := by rw [nI_clamp (by omega)]; exact rTxt h hj
theorem rKep' {M : pm_M} (h : pm_ok M) {j : Nat} (hj : j < 3) : gR M 5 (nI j).toNatClampNeg = some (126 + 2 * j) := by rw [nI_clamp (by omega)]; exact rKep h hj
theorem rRdg' {M : pm_M} (h : pm_ok M) {j : Nat} (hj : j < 21) : gR M 56 (nI j).toNatClampNeg = some (57 + 2 * j) := by rw [nI_clamp (by omega)]; exact rRdg h hj
theorem Cfr.S {S : Nat → Prop} {M M' : pm_M} (h : pm_S S M M') (hn : ∀ k, S k → k < 132) : Cfr M M' := fun k hk i => h.2.2 k (fun q => by have := hn k q; omega) i
theorem Cfr.tr {M M1 M2 : pm_M} (h : Cfr M M1) (g : Cfr M1 M2) : Cfr M M2 := fun k hk i => ⟨(g k hk i).1.trans (h k hk i).1, (g k hk i).2.trans (h k hk i).2⟩
theorem Mfr.tr {M M1 M2 : pm_M} (h : Mfr M M1) (g : Mfr M1 M2) : Mfr M M2 := fun k hk i => ⟨(g k hk i).1.trans (h k hk i).1, (g k hk i).2.trans (h k hk i).2⟩
theorem Cfr.sI {M M1 : pm_M} (h : Cfr M M1) {k : Nat} (hk : k < 132) (i : Nat) (v : Int32) : Cfr M (sI M1 k i v) := fun q hq j => ⟨(gI_ne (Or.inl (by omega))).trans (h q hq j).1, (h q hq j).2⟩
theorem Cfr.sL {M M1 : pm_M} (h : Cfr M M1) {k : Nat} (hk : k < 132) (i : Nat) (v : Int64) : Cfr M (sL M1 k i v) := fun q hq j => ⟨(h q hq j).1, by rw [gL_sL, if_neg (fun z => by have := z.1; omega)]; exact (h q hq j).2⟩
theorem Mfr.sI {M M1 : pm_M} (h : Mfr M M1) {k : Nat} (hk : 132 ≤ k) (i : Nat) (v : Int32) : Mfr M (sI M1 k i v) := fun q hq j => ⟨(gI_ne (Or.inl (by omega))).trans (h q hq j).1, (h q hq j).2⟩
theorem Mfr.sL {M M1 : pm_M} (h : Mfr M M1) {k : Nat} (hk : 132 ≤ k) (i : Nat) (v : Int64) : Mfr M (sL M1 k i v) := fun q hq j => ⟨(h q hq j).1, by rw [gL_sL, if_neg (fun z => by have := z.1; omega)]; exact (h q hq j).2⟩
/-- a row's number, or none -/
theorem r_cs (r : Int32) : (¬ (¬ r < 0 ∧ ¬ 6 ≤ r) ∧ ¬ (¬ r < 0 ∧ ¬ 5 < r)) ∨ ∃ j : Nat, j < 6 ∧ r = nI j ∧ (¬ r < 0 ∧ ¬ 6 ≤ r) ∧ (¬ r < 0 ∧ ¬ 5 < r) := by
  rcases pk_ix r (n := 6) (by decide) with h | h | ⟨j, hj, h⟩
  · exact Or.inl ⟨fun q => q.1 h, fun q => q.1 h⟩
  · have h' : (6 : Int32) ≤ r := h
    refine Or.inl ⟨fun q => q.2 h', fun q => q.2 ?_⟩
    have := Int32.le_iff_toInt_le.mp h'
    apply Int32.lt_iff_toInt_lt.mpr
    have e6 : (6 : Int32).toInt = 6 := by decide
    have e5 : (5 : Int32).toInt = 5 := by decide
    omega
  · refine Or.inr ⟨j, hj, h, ?_⟩
    subst h
    have := (by decide +kernel : ∀ j, j < 6 → (¬ nI j < 0 ∧ ¬ 6 ≤ nI j) ∧ (¬ nI j < 0 ∧ ¬ 5 < nI j)) j hj
    exact this
theorem aw.fd {a : As} (h : aw a) (f : Nat) : aw (fd a f) := h
theorem aw.row {a : As} (h : aw a) (r : Nat) (x : Option (List Int32)) : aw (sR' a r x) := h
theorem aw.told {a : As} (h : aw a) (v : Int32) : aw (sA' a v) := h
theorem aw.up {a : As} (h : aw a) (v : Int64) : aw (sU' a v) := h
section PUB
variable {a : As} {M : pm_M}
theorem c_isRow (d : Nat) (r : Int32) : pm_call (d + 1) 137 [.int r] M (some (.int (if ¬ r < 0 ∧ ¬ 6 ≤ r then 1 else 0))) M := by
  refine en_137 (Nat.le_of_ble_eq_true rfl) ?_
  refine st_ild rfl rfl ?_
  refine st_b1 rfl (fun h1 => ?_) (fun h1 => ?_)
  -- at 1: split 14 4
  · refine st_k rfl ?_
    -- at 15: op_zret
    exact st_zret rfl (by decide) ⟨by rw [if_neg (fun q => q.1 h1)], rfl⟩
  · refine st_ild rfl rfl ?_
    refine st_k rfl ?_
    refine st_b2 rfl (fun h2 => ?_) (fun h2 => ?_)
    -- at 7: split 14 10
    · refine st_k rfl ?_
      -- at 15: op_zret
      exact st_zret rfl (by decide) ⟨by rw [if_neg (fun q => q.2 h2)], rfl⟩
    · refine st_k rfl ?_
      refine st_go rfl ?_
      -- at 15: op_zret
      exact st_zret rfl (by decide) ⟨by rw [if_pos ⟨h1, h2⟩], rfl⟩
theorem c_refuse (d : Nat) (hM : pm_ok M) {f : Nat} (hf : f < 6) : pm_call (d + 1) 136 [.ref 0, .int (nI f)] M (some (.int (-3))) (sI (sI M 0 17 (nI f)) 105 f (gI M 105 f + 1)) := by
  refine en_136 (Nat.le_of_ble_eq_true rfl) ?_
  have hin : vp_in (nI f) 6 := vp_in_nI hf (by decide)
  have e : (nI f).toNatClampNeg = f := nI_clamp (by omega)
  refine st_ald rfl rfl ?_
  refine st_ild rfl rfl ?_
  refine st_pI rfl (by first | exact tT hM rfl | assumption | exact rw_T hM (by assumption) | exact rw_A hM (by assumption)) ?_
  refine st_ald rfl rfl ?_
  refine st_gR' rfl (by first | exact tT hM rfl | assumption | exact rw_T hM (by assumption) | exact rw_A hM (by assumption)) (by first | exact rR hM rfl rfl | assumption | exact rw_R hM (by assumption)) ?_
  refine st_ild rfl rfl ?_
  refine st_dup2 rfl rfl rfl ?_
  refine st_iald rfl (by first | exact tT hM rfl | assumption | exact rw_T hM (by assumption) | exact rw_A hM (by assumption)) (by first | decide | assumption | exact vp_in_nI (by omega) (by decide)) ?_
  refine st_k rfl ?_
  refine st_ib rfl ?_
  refine st_iast rfl (by first | exact tT hM rfl | assumption | exact rw_T hM (by assumption) | exact rw_A hM (by assumption)) (by first | decide | assumption | exact vp_in_nI (by omega) (by decide)) ?_
  refine st_k rfl ?_
  -- at 17: op_iret
  refine st_iret rfl ⟨rfl, ?_⟩
  rw [e]
  rfl
theorem cfr_fd {M : pm_M} (v w : Int32) (f : Nat) : Cfr M (sI (sI M 0 17 v) 105 f w) := ((Cfr.rf M).sI (by decide) _ _).sI (by decide) _ _
theorem mfr_fd {M : pm_M} (v w : Int32) (f : Nat) : Mfr M (sI (sI M 132 0 v) 133 f w) := ((Mfr.rf M).sI (by decide) _ _).sI (by decide) _ _
/-- filling a row of ints -/
def pm_fl (M : pm_M) (k : Nat) (v : Int32) (n : Nat) : pm_M := (M.1, fun a b => if a = k ∧ b < n then v else M.2.1 a b, M.2.2.1, M.2.2.2)
theorem gI_fl (M : pm_M) (k : Nat) (v : Int32) (n k' i : Nat) : gI (pm_fl M k v n) k' i = if k' = k ∧ i < n then v else gI M k' i := rfl
theorem fl_s (M : pm_M) (k : Nat) (v : Int32) (n : Nat) : sI (pm_fl M k v n) k n v = pm_fl M k v (n + 1) := by
  unfold sI pm_fl
  congr 2
  funext a b
  by_cases h : a = k
  · subst h
    by_cases h1 : b = n
    · subst h1; simp
    · by_cases h2 : b < n
      · simp [h1, h2]; omega
      · simp [h1, h2]; omega
  · simp [h]
theorem fl_0 (M : pm_M) (k : Nat) (v : Int32) : pm_fl M k v 0 = M := by
  unfold pm_fl
  simp
theorem c_fill (d : Nat) {k n : Nat} {v : Int32} (hk : M.1[k]? = some (100, n)) (hn : n < 2 ^ 31) : pm_call (d + 1) 269 [.ref k, .int v] M none (pm_fl M k v n) := by
  refine en_269 (Nat.le_of_ble_eq_true rfl) ?_
  have loop : ∀ m i x, x = nI i → i + m = n → pm_WP (pm_call d) tb_269 (fun r0 M1 => r0 = none ∧ M1 = pm_fl M k v n) 5 [some (.ref k), some (.int v), some (.int x), some (.int (nI n))] [] (pm_fl M k v i) := by
    intro m
    induction m with
    | zero =>
      intro i x hx hi
      subst hx
      have q : nI n ≤ nI i := nI_le (by omega) (by omega)
      refine st_ild rfl rfl ?_
      refine st_ild rfl rfl ?_
      refine st_b2 rfl (fun _ => ?_) (fun zq => absurd (q) zq)
      -- at 20: op_vret
      exact st_vret rfl ⟨rfl, by rw [show i = n by omega]⟩
    | succ m ih =>
      intro i x hx hi
      subst hx
      have q : ¬ nI n ≤ nI i := nI_ge (by omega) (by omega)
      have hin : vp_in (nI i) n := vp_in_nI (by omega) hn
      refine st_ild rfl rfl ?_
      refine st_ild rfl rfl ?_
      refine st_b2 rfl (fun zq => absurd zq (q)) (fun _ => ?_)
      refine st_ald rfl rfl ?_
      refine st_ild rfl rfl ?_
      refine st_ild rfl rfl ?_
      refine st_iast rfl (hk) (hin) ?_
      refine st_inc rfl rfl ?_
      refine st_go rfl ?_
      -- at 5: stop
      rw [nI_clamp (by omega), fl_s]
      exact ih (i + 1) _ (nI_1 i) (by omega)
  refine st_k rfl ?_
  refine st_ist rfl ?_
  refine st_ald rfl rfl ?_
  refine st_alen rfl hk (by decide) (by decide) ?_
  refine st_ist rfl ?_
  -- at 5: stop
  have := loop n 0 0 rfl (by omega)
  rw [fl_0] at this
  exact this
theorem s_fl {S : Nat → Prop} {M M1 : pm_M} (h : pm_S S M M1) {k : Nat} (hk : S k) (v : Int32) (n : Nat) : pm_S S M (pm_fl M1 k v n) := by
  refine ⟨h.1, h.2.1, fun q hq j => ⟨?_, (h.2.2 q hq j).2⟩⟩
  have hne : q ≠ k := fun e => hq (by rw [e]; exact hk)
  rw [gI_fl, if_neg (fun z => hne z.1)]
  exact (h.2.2 q hq j).1
/-! row -/
theorem n_cs (n : Int32) : n < 0 ∨ 40 < n ∨ ∃ m : Nat, m ≤ 40 ∧ n = nI m ∧ ¬ nI m < 0 ∧ nI m ≤ 40 := by
  rcases pk_ix n (n := 41) (by decide) with h | h | ⟨j, hj, h⟩
  · exact Or.inl h
  · refine Or.inr (Or.inl ?_)
    have h' : (41 : Int32) ≤ n := h
    have := Int32.le_iff_toInt_le.mp h'
    apply Int32.lt_iff_toInt_lt.mpr
    have e6 : (41 : Int32).toInt = 41 := by decide
    have e5 : (40 : Int32).toInt = 40 := by decide
    omega
  · exact Or.inr (Or.inr ⟨j, by omega, h, nI_pos (by omega), nI_le (a := j) (b := 40) (by omega) (by decide)⟩)
theorem nlt0 {x : Int32} (h : ¬ x < 0) : 0 ≤ x := Int32.not_lt.mp h
theorem b_row (ha : aw a) (r n : Int32) : Both a 90 162 [.int r, .int n] := by
  rcases r_cs r with ⟨h1, h2⟩ | ⟨j, hj, hr, h1, h2⟩
  · refine ⟨.int (-1), a, ha, fun d M h => ⟨M, ?_, h, Cfr.rf M⟩, fun d M h => ⟨M, ?_, h, Mfr.rf M⟩⟩
    · refine en_90 (Nat.le_of_ble_eq_true rfl) ?_
      refine st_ild rfl rfl ?_
      refine st_call (As := [_]) rfl rfl rfl (Nat.le_of_ble_eq_true rfl) (c_isRow (d + 18) r) ?_
      refine st_b1 rfl (fun _ => ?_) (fun zq => absurd (b01_f h1) zq)
      refine st_k rfl ?_
      -- at 14: op_iret
      exact st_iret rfl ⟨rfl, rfl⟩
    · refine en_162 (Nat.le_of_ble_eq_true rfl) ?_
      refine st_ild rfl rfl ?_
      refine st_call (As := [_]) rfl rfl rfl (Nat.le_of_ble_eq_true rfl) (m_isRow (d + 17) r) ?_
      refine st_b1 rfl (fun _ => ?_) (fun zq => absurd (b01_f h2) zq)
      refine st_k rfl ?_
      -- at 14: op_iret
      exact st_iret rfl ⟨rfl, rfl⟩
  · rcases n_cs n with hn | hn | ⟨m, hm, hn, g1, g2⟩
    · have hle : n ≤ 40 := Int32.le_of_lt (Int32.lt_of_lt_of_le hn (by decide))
      have hn0 : ¬ 0 ≤ n := Int32.not_le.mpr hn
      refine ⟨.int (-3), fd a 5, ha.fd 5, fun d M h => ⟨_, ?_, h.fd (f := 5) (by decide), cfr_fd _ _ _⟩, fun d M h => ⟨_, ?_, h.fd (f := 5) (by decide), mfr_fd _ _ _⟩⟩
      · refine en_90 (Nat.le_of_ble_eq_true rfl) ?_
        have hM := h.1
        refine st_ild rfl rfl ?_
        refine st_call (As := [_]) rfl rfl rfl (Nat.le_of_ble_eq_true rfl) (c_isRow (d + 18) r) ?_
        refine st_b1 rfl (fun zq => absurd zq (b01_t h1)) (fun _ => ?_)
        refine st_ild rfl rfl ?_
        refine st_k rfl ?_
        refine st_b2 rfl (fun _ => ?_) (fun zq => absurd (hle) zq)
        refine st_ild rfl rfl ?_
        refine st_b1 rfl (fun zq => absurd zq (hn0)) (fun _ => ?_)
        refine st_ald rfl rfl ?_
        refine st_k rfl ?_
        refine st_cav (As := [_]) rfl rfl rfl (by first | exact tT hM rfl | assumption | exact rw_T hM (by assumption) | exact rw_A hM (by assumption)) (Nat.le_of_ble_eq_true rfl) (c_refuse (d + 18) h.1 (f := 5) (by decide)) ?_
        -- at 24: op_iret
        exact st_iret rfl ⟨rfl, rfl⟩
      · refine en_162 (Nat.le_of_ble_eq_true rfl) ?_
        have hM := h.1
        refine st_ild rfl rfl ?_
        refine st_call (As := [_]) rfl rfl rfl (Nat.le_of_ble_eq_true rfl) (m_isRow (d + 17) r) ?_
        refine st_b1 rfl (fun zq => absurd zq (b01_t h2)) (fun _ => ?_)
        refine st_ild rfl rfl ?_
        refine st_k rfl ?_
        refine st_b2 rfl (fun _ => ?_) (fun zq => absurd (hle) zq)
        refine st_ild rfl rfl ?_
        refine st_b1 rfl (fun zq => absurd zq (hn0)) (fun _ => ?_)
        refine st_ald rfl rfl ?_
        refine st_k rfl ?_
        refine st_cav (As := [_]) rfl rfl rfl (by first | exact tT hM rfl | assumption | exact rw_T hM (by assumption) | exact rw_A hM (by assumption)) (Nat.le_of_ble_eq_true rfl) (m_meets (d + 18) h.1 (f := 5) (by decide)) ?_
        -- at 24: op_iret
        exact st_iret rfl ⟨rfl, rfl⟩
    · have hle : ¬ n ≤ 40 := Int32.not_le.mpr hn
      refine ⟨.int (-1), a, ha, fun d M h => ⟨M, ?_, h, Cfr.rf M⟩, fun d M h => ⟨M, ?_, h, Mfr.rf M⟩⟩
      · refine en_90 (Nat.le_of_ble_eq_true rfl) ?_
        refine st_ild rfl rfl ?_
        refine st_call (As := [_]) rfl rfl rfl (Nat.le_of_ble_eq_true rfl) (c_isRow (d + 18) r) ?_
        refine st_b1 rfl (fun zq => absurd zq (b01_t h1)) (fun _ => ?_)
        refine st_ild rfl rfl ?_
        refine st_k rfl ?_
        refine st_b2 rfl (fun zq => absurd zq (hle)) (fun _ => ?_)
        refine st_k rfl ?_
        -- at 14: op_iret
        exact st_iret rfl ⟨rfl, rfl⟩
      · refine en_162 (Nat.le_of_ble_eq_true rfl) ?_
        refine st_ild rfl rfl ?_
        refine st_call (As := [_]) rfl rfl rfl (Nat.le_of_ble_eq_true rfl) (m_isRow (d + 17) r) ?_
        refine st_b1 rfl (fun zq => absurd zq (b01_t h2)) (fun _ => ?_)
        refine st_ild rfl rfl ?_
        refine st_k rfl ?_
        refine st_b2 rfl (fun zq => absurd zq (hle)) (fun _ => ?_)
        refine st_k rfl ?_
        -- at 14: op_iret
        exact st_iret rfl ⟨rfl, rfl⟩
    · subst hr; subst hn
      have hin : vp_in (nI j) 6 := vp_in_nI hj (by decide)
      have gD : ∀ i, i < m → (List.replicate m (0 : Int32)).getD i 0 = 0 := fun i hi => by simp [List.getD_eq_getElem?_getD, List.getElem?_replicate, hi]
      refine ⟨.int (nI m), sR' a j (some (List.replicate m 0)), ha.row _ _, fun d M h => ⟨sI (pm_fl M (106 + 2 * j + 1) 0 40) (106 + 2 * j) 1 (nI m), ?_, ?_, ?_⟩, fun d M h => ?_⟩
      · refine en_90 (Nat.le_of_ble_eq_true rfl) ?_
        have hM := h.1
        have ho := rw_row j hj
        refine st_ild rfl rfl ?_
        refine st_call (As := [_]) rfl rfl rfl (Nat.le_of_ble_eq_true rfl) (c_isRow (d + 18) _) ?_
        refine st_b1 rfl (fun zq => absurd zq (b01_t h1)) (fun _ => ?_)
        refine st_ild rfl rfl ?_
        refine st_k rfl ?_
        refine st_b2 rfl (fun _ => ?_) (fun zq => absurd (g2) zq)
        refine st_ild rfl rfl ?_
        refine st_b1 rfl (fun _ => ?_) (fun zq => absurd (nlt0 g1) zq)
        refine st_ald rfl rfl ?_
        refine st_gR' rfl (by first | exact tT hM rfl | assumption | exact rw_T hM (by assumption) | exact rw_A hM (by assumption)) (by first | exact rR hM rfl rfl | assumption | exact rw_R hM (by assumption)) ?_
        refine st_ild rfl rfl ?_
        refine st_aald' rfl (by first | exact tT hM rfl | assumption | exact rw_T hM (by assumption) | exact rw_A hM (by assumption)) (by first | decide | assumption | exact vp_in_nI (by omega) (by decide)) (by first | assumption | exact rRow' hM (by assumption) | exact rTxt' hM (by assumption) | exact rKep' hM (by assumption) | exact rRdg' hM (by assumption)) ?_
        refine st_gR' rfl (by first | exact tT hM rfl | assumption | exact rw_T hM (by assumption) | exact rw_A hM (by assumption)) (by first | exact rR hM rfl rfl | assumption | exact rw_R hM (by assumption)) ?_
        refine st_k rfl ?_
        refine st_call (As := [_, _]) rfl rfl rfl (Nat.le_of_ble_eq_true rfl) (c_fill (d + 18) (rw_A hM ho) (by decide)) ?_
        refine st_ald rfl rfl ?_
        refine st_gR' rfl (by first | exact tT hM rfl | assumption | exact rw_T hM (by assumption) | exact rw_A hM (by assumption)) (by first | exact rR hM rfl rfl | assumption | exact rw_R hM (by assumption)) ?_
        refine st_ild rfl rfl ?_
        refine st_aald' rfl (by first | exact tT hM rfl | assumption | exact rw_T hM (by assumption) | exact rw_A hM (by assumption)) (by first | decide | assumption | exact vp_in_nI (by omega) (by decide)) (by first | assumption | exact rRow' hM (by assumption) | exact rTxt' hM (by assumption) | exact rKep' hM (by assumption) | exact rRdg' hM (by assumption)) ?_
        refine st_ild rfl rfl ?_
        refine st_pI rfl (by first | exact tT hM rfl | assumption | exact rw_T hM (by assumption) | exact rw_A hM (by assumption)) ?_
        refine st_ild rfl rfl ?_
        -- at 49: op_iret
        exact st_iret rfl ⟨rfl, rfl⟩
      · refine h.row hj (S := pm_oo (106 + 2 * j)) ((s_fl pm_S.rf (Or.inr rfl) _ _).sI (Or.inl rfl) _ _) (fun k hk => Or.inr (Or.inr hk)) ?_
        refine ⟨by rw [gI_same, List.length_replicate], by simp; omega, fun i hi => ?_⟩
        rw [List.length_replicate] at hi
        rw [gI_ne (Or.inl (by omega)), gI_fl, if_pos ⟨rfl, by omega⟩, gD i hi]
      · exact Cfr.S (S := pm_oo (106 + 2 * j)) ((s_fl pm_S.rf (Or.inr rfl) _ _).sI (Or.inl rfl) _ _) (fun k hk => by rcases hk with z | z <;> omega)
      · have hM := h.1
        have e1 : (nI j).toNatClampNeg = j := nI_clamp (by omega)
        have loop : ∀ n i x M1, x = nI i → i + n = 40 → pm_ok M1 → gI M1 134 j = nI m → (∀ t, t < i → gI M1 135 (40 * j + t) = 0) → (∀ k t, ¬ (k = 134 ∧ t = j) → ¬ (k = 135 ∧ 40 * j ≤ t ∧ t < 40 * j + 40) → gI M1 k t = gI M k t) → (∀ k t, gL M1 k t = gL M k t) → pm_WP (pm_call (d + 19)) tb_162 (fun r M' => r = some (.int (nI m)) ∧ IM (sR' a j (some (List.replicate m 0))) M' ∧ Mfr M M') 34 [some (.ref 132), some (.int (nI j)), some (.int (nI m)), some (.int x)] [] M1 := by
          intro n
          induction n with
          | zero =>
            intro i x M1 hx hi hM1 hs hz hf hg
            subst hx
            have q : (40 : Int32) ≤ nI i := nI_le (a := 40) (b := i) (by omega) (by omega)
            refine st_ild rfl rfl ?_
            refine st_k rfl ?_
            refine st_b2 rfl (fun _ => ?_) (fun zq => absurd (q) zq)
            refine st_ild rfl rfl ?_
            -- at 59: op_iret
            refine st_iret rfl ⟨rfl, h.row hM1 (fun k t _ z1 z2 => hf k t z1 z2) (hg _ _) ⟨by rw [hs, List.length_replicate], by simp; omega, fun t ht => ?_⟩, fun k hk t => ⟨hf k t (by omega) (by omega), hg k t⟩⟩
            rw [List.length_replicate] at ht
            rw [hz t (by omega), gD t ht]
          | succ n ih =>
            intro i x M1 hx hi hM1 hs hz hf hg
            subst hx
            have q : ¬ (40 : Int32) ≤ nI i := nI_ge (a := i) (b := 40) (by omega) (by decide)
            have e : 40 * nI j + nI i = nI (40 * j + i) := by show nI 40 * nI j + nI i = _; rw [pk_mul, nI_add]
            have hin2 : vp_in (40 * nI j + nI i) 240 := by rw [e]; exact vp_in_nI (by omega) (by decide)
            have e3 : (40 * nI j + nI i).toNatClampNeg = 40 * j + i := by rw [e]; exact nI_clamp (by omega)
            refine st_ild rfl rfl ?_
            refine st_k rfl ?_
            refine st_b2 rfl (fun zq => absurd zq (q)) (fun _ => ?_)
            refine st_ald rfl rfl ?_
            refine st_gR' rfl (by first | exact tT hM1 rfl | assumption | exact rw_T hM1 (by assumption) | exact rw_A hM1 (by assumption)) (by first | exact rR hM1 rfl rfl | assumption | exact rw_R hM1 (by assumption)) ?_
            refine st_k rfl ?_
            refine st_ild rfl rfl ?_
            refine st_ib rfl ?_
            refine st_ild rfl rfl ?_
            refine st_ib rfl ?_
            refine st_k rfl ?_
            refine st_iast rfl (by first | exact tT hM1 rfl | assumption | exact rw_T hM1 (by assumption) | exact rw_A hM1 (by assumption)) (by first | decide | assumption | exact vp_in_nI (by omega) (by decide)) ?_
            refine st_inc rfl rfl ?_
            refine st_go rfl ?_
            -- at 34: stop
            rw [e3]
            refine ih (i + 1) _ _ (nI_1 i) (by omega) hM1 (by rw [gI_ne (Or.inl (by decide))]; exact hs) (fun t ht => ?_) (fun k t z1 z2 => ?_) hg
            · by_cases z : t = i
              · subst z; exact gI_same _ _ _ _
              · rw [gI_ne (Or.inr (by omega))]; exact hz t (by omega)
            · rw [gI_nn (by omega)]
              exact hf k t z1 z2
        obtain ⟨r, M', hc, hr, h5, h6⟩ := eq_162 (d := d + 19) (A := [.ref 132, .int (nI j), .int (nI m)]) (M := M) (Q := fun r M' => r = some (.int (nI m)) ∧ IM (sR' a j (some (List.replicate m 0))) M' ∧ Mfr M M') (Nat.le_of_ble_eq_true rfl) (by
          refine st_ild rfl rfl ?_
          refine st_call (As := [_]) rfl rfl rfl (Nat.le_of_ble_eq_true rfl) (m_isRow (d + 17) _) ?_
          refine st_b1 rfl (fun zq => absurd zq (b01_t h2)) (fun _ => ?_)
          refine st_ild rfl rfl ?_
          refine st_k rfl ?_
          refine st_b2 rfl (fun _ => ?_) (fun zq => absurd (g2) zq)
          refine st_ild rfl rfl ?_
          refine st_b1 rfl (fun _ => ?_) (fun zq => absurd (nlt0 g1) zq)
          refine st_ald rfl rfl ?_
          refine st_gR' rfl (by first | exact tT hM rfl | assumption | exact rw_T hM (by assumption) | exact rw_A hM (by assumption)) (by first | exact rR hM rfl rfl | assumption | exact rw_R hM (by assumption)) ?_
          refine st_ild rfl rfl ?_
          refine st_ild rfl rfl ?_
          refine st_iast rfl (by first | exact tT hM rfl | assumption | exact rw_T hM (by assumption) | exact rw_A hM (by assumption)) (by first | decide | assumption | exact vp_in_nI (by omega) (by decide)) ?_
          refine st_k rfl ?_
          refine st_ist rfl ?_
          -- at 34: stop
          rw [e1]
          exact loop 40 0 0 _ rfl (by omega) hM (gI_same _ _ _ _) (fun t ht => by omega) (fun k t z1 z2 => gI_nn z1) (fun _ _ => rfl))
        subst hr
        exact ⟨M', hc, h5, h6⟩
end PUB

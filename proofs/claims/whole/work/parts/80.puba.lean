/-! BOTH ANSWER ALIKE: mark, count -/
section PUK
variable {a : As} {M : pm_M} {c : Cf}
theorem mk_cs (w : Int32) : (¬ (¬ w < 1 ∧ w ≤ 5) ∧ ¬ (¬ w < 1 ∧ ¬ 5 < w)) ∨ ∃ m : Nat, 1 ≤ m ∧ m ≤ 5 ∧ w = nI m ∧ (¬ w < 1 ∧ w ≤ 5) ∧ (¬ w < 1 ∧ ¬ 5 < w) := by
  rcases pk_ix w (n := 6) (by decide) with h | h | ⟨j, hj, h⟩
  · have h1 : w < 1 := Int32.lt_of_lt_of_le h (by decide)
    exact Or.inl ⟨fun q => q.1 h1, fun q => q.1 h1⟩
  · have h' : (6 : Int32) ≤ w := h
    have h5 : 5 < w := Int32.lt_of_lt_of_le (by decide) h'
    exact Or.inl ⟨fun q => absurd q.2 (Int32.not_le.mpr h5), fun q => q.2 h5⟩
  · subst h
    rcases Nat.eq_zero_or_pos j with z | z
    · subst z
      exact Or.inl (by decide +kernel)
    · exact Or.inr ⟨j, z, by omega, rfl, (by decide +kernel : ∀ j, j < 6 → 0 < j → (¬ nI j < 1 ∧ nI j ≤ 5) ∧ (¬ nI j < 1 ∧ ¬ 5 < nI j)) j hj z⟩
theorem m_pairsOf (d : Nat) (hM : pm_ok M) (hw : cf_wf c) (hc : MC c M) {k : Nat} (hk : k < cf_n c) : pm_call (d + 1) 191 [.ref 132, .int (nI k)] M (some (.int (nI (pw c k (cf_np c))))) M := by
  refine en_191 (Nat.le_of_ble_eq_true rfl) ?_
  have hnp := hw.2.2.2.2.1
  have hn := hw.1
  have loop : ∀ n i x y, x = nI i → y = nI (pw c k i) → i + n = cf_np c → pm_WP (pm_call d) tb_191 (fun r0 M1 => r0 = some (.int (nI (pw c k (cf_np c)))) ∧ M1 = M) 4 [some (.ref 132), some (.int (nI k)), some (.int y), some (.int x)] [] M := by
    intro n
    induction n with
    | zero =>
      intro i x y hx hy hi
      subst hx; subst hy
      refine st_ild rfl rfl ?_
      refine st_ald rfl rfl ?_
      refine st_gI rfl (by first | exact tT hM rfl | assumption | exact rw_T hM (by assumption) | exact rw_A hM (by assumption)) ?_
      -- at 9: stop
      refine wp_e hc.1.2.2.2.2 ?_
      refine st_b2 rfl (fun _ => ?_) (fun zq => absurd (nI_le (by omega) (by omega)) zq)
      refine st_ild rfl rfl ?_
      -- at 53: op_iret
      exact st_iret rfl ⟨by rw [show i = cf_np c by omega], rfl⟩
    | succ n ih =>
      intro i x y hx hy hi
      subst hx; subst hy
      have hp := hc.2.2 i (by omega)
      have hq := hw.2.2.2.2.2.2 i (by omega)
      have e0 : 3 * nI i = nI (3 * i) := by show nI 3 * nI i = _; rw [pk_mul]
      have e2 : 3 * nI i + 1 = nI (3 * i + 1) := by rw [e0, nI_1]
      have i0 : vp_in (3 * nI i) 18 := by rw [e0]; exact vp_in_nI (by omega) (by decide)
      have i1 : vp_in (3 * nI i + 1) 18 := by rw [e2]; exact vp_in_nI (by omega) (by decide)
      have m1 : nI (cf_p1 c i) = nI k ↔ cf_p1 c i = k := nI_eq (by omega) (by omega)
      have m2 : nI (cf_p2 c i) = nI k ↔ cf_p2 c i = k := nI_eq (by omega) (by omega)
      refine st_ild rfl rfl ?_
      refine st_ald rfl rfl ?_
      refine st_gI rfl (by first | exact tT hM rfl | assumption | exact rw_T hM (by assumption) | exact rw_A hM (by assumption)) ?_
      -- at 9: stop
      refine wp_e hc.1.2.2.2.2 ?_
      refine st_b2 rfl (fun zq => absurd zq (nI_ge (by omega) (by omega))) (fun _ => ?_)
      refine st_ild rfl rfl ?_
      refine st_ald rfl rfl ?_
      refine st_gR' rfl (by first | exact tT hM rfl | assumption | exact rw_T hM (by assumption) | exact rw_A hM (by assumption)) (by first | exact rR hM rfl rfl | assumption | exact rw_R hM (by assumption)) ?_
      refine st_k rfl ?_
      refine st_ild rfl rfl ?_
      refine st_ib rfl ?_
      refine st_iald rfl (by first | exact tT hM rfl | assumption | exact rw_T hM (by assumption) | exact rw_A hM (by assumption)) (by first | decide | assumption | exact vp_in_nI (by omega) (by decide)) ?_
      -- at 21: stop
      refine wp_e (y := nI (cf_p1 c i)) (by rw [e0, nI_clamp (by omega)]; exact hp.1) ?_
      refine st_ild rfl rfl ?_
      refine st_b2 rfl (fun g1 => ?_) (fun g1 => ?_)
      -- at 22: split 39 25
      · refine st_k rfl ?_
        refine st_go rfl ?_
        refine st_ib rfl ?_
        refine st_ist rfl ?_
        refine st_inc rfl rfl ?_
        refine st_go rfl ?_
        -- at 4: stop
        exact ih (i + 1) _ _ (nI_1 i) (by rw [pw_s, if_pos (Or.inl (m1.mp g1)), ← nI_add]; rfl) (by omega)
      · refine st_ald rfl rfl ?_
        refine st_gR' rfl (by first | exact tT hM rfl | assumption | exact rw_T hM (by assumption) | exact rw_A hM (by assumption)) (by first | exact rR hM rfl rfl | assumption | exact rw_R hM (by assumption)) ?_
        refine st_k rfl ?_
        refine st_ild rfl rfl ?_
        refine st_ib rfl ?_
        refine st_k rfl ?_
        refine st_ib rfl ?_
        refine st_iald rfl (by first | exact tT hM rfl | assumption | exact rw_T hM (by assumption) | exact rw_A hM (by assumption)) (by first | decide | assumption | exact vp_in_nI (by omega) (by decide)) ?_
        -- at 35: stop
        refine wp_e (y := nI (cf_p2 c i)) (by rw [e2, nI_clamp (by omega)]; exact hp.2.1) ?_
        refine st_ild rfl rfl ?_
        refine st_b2 rfl (fun g2 => ?_) (fun g2 => ?_)
        -- at 36: split 43 39
        · refine st_k rfl ?_
          refine st_ib rfl ?_
          refine st_ist rfl ?_
          refine st_inc rfl rfl ?_
          refine st_go rfl ?_
          -- at 4: stop
          exact ih (i + 1) _ _ (nI_1 i) (by rw [pw_s, if_neg (fun z => z.elim (fun z => g1 (m1.mpr z)) (fun z => g2 (m2.mpr z))), ← nI_add]; rfl) (by omega)
        · refine st_k rfl ?_
          refine st_go rfl ?_
          refine st_ib rfl ?_
          refine st_ist rfl ?_
          refine st_inc rfl rfl ?_
          refine st_go rfl ?_
          -- at 4: stop
          exact ih (i + 1) _ _ (nI_1 i) (by rw [pw_s, if_pos (Or.inr (m2.mp (Decidable.not_not.mp g2))), ← nI_add]; rfl) (by omega)
  refine st_k rfl ?_
  refine st_ist rfl ?_
  refine st_k rfl ?_
  refine st_ist rfl ?_
  -- at 4: stop
  exact loop (cf_np c) 0 0 0 rfl rfl (by omega)
theorem m_ofRope (d : Nat) (hM : pm_ok M) {ws : List Nat} (hl : ws.length ≤ 20) (h : MRop M ws) (v : Int32) : pm_call (d + 1) 192 [.ref 132, .int v] M (some (.int (nI (hm (ws.map nI) v ws.length)))) M := by
  refine en_192 (Nat.le_of_ble_eq_true rfl) ?_
  have loop : ∀ n i x y, x = nI i → y = nI (hm (ws.map nI) v i) → i + n = ws.length → pm_WP (pm_call d) tb_192 (fun r0 M1 => r0 = some (.int (nI (hm (ws.map nI) v ws.length))) ∧ M1 = M) 4 [some (.ref 132), some (.int v), some (.int y), some (.int x)] [] M := by
    intro n
    induction n with
    | zero =>
      intro i x y hx hy hi
      subst hx; subst hy
      refine st_ild rfl rfl ?_
      refine st_ald rfl rfl ?_
      refine st_gI rfl (by first | exact tT hM rfl | assumption | exact rw_T hM (by assumption) | exact rw_A hM (by assumption)) ?_
      -- at 9: stop
      refine wp_e h.1 ?_
      refine st_b2 rfl (fun _ => ?_) (fun zq => absurd (nI_le (by omega) (by omega)) zq)
      refine st_ild rfl rfl ?_
      -- at 37: op_iret
      exact st_iret rfl ⟨by rw [show i = ws.length by omega], rfl⟩
    | succ n ih =>
      intro i x y hx hy hi
      subst hx; subst hy
      have hin : vp_in (nI i) 20 := vp_in_nI (by omega) (by decide)
      refine st_ild rfl rfl ?_
      refine st_ald rfl rfl ?_
      refine st_gI rfl (by first | exact tT hM rfl | assumption | exact rw_T hM (by assumption) | exact rw_A hM (by assumption)) ?_
      -- at 9: stop
      refine wp_e h.1 ?_
      refine st_b2 rfl (fun zq => absurd zq (nI_ge (by omega) (by omega))) (fun _ => ?_)
      refine st_ild rfl rfl ?_
      refine st_ald rfl rfl ?_
      refine st_gR' rfl (by first | exact tT hM rfl | assumption | exact rw_T hM (by assumption) | exact rw_A hM (by assumption)) (by first | exact rR hM rfl rfl | assumption | exact rw_R hM (by assumption)) ?_
      refine st_ild rfl rfl ?_
      refine st_iald rfl (by first | exact tT hM rfl | assumption | exact rw_T hM (by assumption) | exact rw_A hM (by assumption)) (by first | decide | assumption | exact vp_in_nI (by omega) (by decide)) ?_
      -- at 19: stop
      refine wp_e (y := (ws.map nI).getD i 0) (by rw [nI_clamp (by omega), h.2 i (by omega), map_getD (by omega)]) ?_
      refine st_ild rfl rfl ?_
      refine st_b2 rfl (fun g => ?_) (fun g => ?_)
      -- at 20: split 27 23
      · refine st_k rfl ?_
        refine st_ib rfl ?_
        refine st_ist rfl ?_
        refine st_inc rfl rfl ?_
        refine st_go rfl ?_
        -- at 4: stop
        exact ih (i + 1) _ _ (nI_1 i) (by rw [hm_s, if_neg g, ← nI_add]; rfl) (by omega)
      · refine st_k rfl ?_
        refine st_go rfl ?_
        refine st_ib rfl ?_
        refine st_ist rfl ?_
        refine st_inc rfl rfl ?_
        refine st_go rfl ?_
        -- at 4: stop
        exact ih (i + 1) _ _ (nI_1 i) (by rw [hm_s, if_pos (Decidable.not_not.mp g), ← nI_add]; rfl) (by omega)
  refine st_k rfl ?_
  refine st_ist rfl ?_
  refine st_k rfl ?_
  refine st_ist rfl ?_
  -- at 4: stop
  exact loop ws.length 0 0 0 rfl rfl (by omega)
theorem tk6 (c : Cf) (k : Nat) : tk c 6 k = alo c k := by unfold tk; rw [if_neg (fun z => by have := z.1; omega)]
theorem b_mark (ha : aw a) (k w : Int32) : Both a 101 193 [.int k, .int w] := by
  rcases k_cs ha.1 k with ⟨h1, h2⟩ | ⟨j, hj, hr, h1, h2⟩
  · refine bo_k (x := .int (-1)) ha (fun d M h => ?_) (fun d M h => ?_)
    · refine en_101 (Nat.le_of_ble_eq_true rfl) ?_
      have hM := h.1
      refine st_ald rfl rfl ?_
      refine st_gR' rfl (by first | exact tT hM rfl | assumption | exact rw_T hM (by assumption) | exact rw_A hM (by assumption)) (by first | exact rR hM rfl rfl | assumption | exact rw_R hM (by assumption)) ?_
      refine st_ild rfl rfl ?_
      refine st_cav (As := [_]) rfl rfl rfl (by first | exact tT hM rfl | assumption | exact rw_T hM (by assumption) | exact rw_A hM (by assumption)) (Nat.le_of_ble_eq_true rfl) (c_hasKnot (d + 18) hM h.2.2.2.1 k) ?_
      refine st_b1 rfl (fun _ => ?_) (fun zq => absurd (b01_f h1) zq)
      refine st_k rfl ?_
      -- at 22: op_iret
      exact st_iret rfl ⟨rfl, rfl⟩
    · refine en_193 (Nat.le_of_ble_eq_true rfl) ?_
      have hM := h.1
      refine st_ald rfl rfl ?_
      refine st_ild rfl rfl ?_
      refine st_cav (As := [_]) rfl rfl rfl (by first | exact tT hM rfl | assumption | exact rw_T hM (by assumption) | exact rw_A hM (by assumption)) (Nat.le_of_ble_eq_true rfl) (m_isKnot (d + 17) hM ha.1 h.2.2.2.1 k) ?_
      refine st_b1 rfl (fun _ => ?_) (fun zq => absurd (b01_f h2) zq)
      refine st_k rfl ?_
      -- at 18: op_iret
      exact st_iret rfl ⟨rfl, rfl⟩
  subst hr
  rcases mk_cs w with ⟨g1, g2⟩ | ⟨m, hm1, hm5, hw, g1, g2⟩
  · refine bo_k (x := .int (-1)) ha (fun d M h => ?_) (fun d M h => ?_)
    · refine en_101 (Nat.le_of_ble_eq_true rfl) ?_
      have hM := h.1
      refine st_ald rfl rfl ?_
      refine st_gR' rfl (by first | exact tT hM rfl | assumption | exact rw_T hM (by assumption) | exact rw_A hM (by assumption)) (by first | exact rR hM rfl rfl | assumption | exact rw_R hM (by assumption)) ?_
      refine st_ild rfl rfl ?_
      refine st_cav (As := [_]) rfl rfl rfl (by first | exact tT hM rfl | assumption | exact rw_T hM (by assumption) | exact rw_A hM (by assumption)) (Nat.le_of_ble_eq_true rfl) (c_hasKnot (d + 18) hM h.2.2.2.1 _) ?_
      refine st_b1 rfl (fun zq => absurd zq (b01_t h1)) (fun _ => ?_)
      refine st_ild rfl rfl ?_
      refine st_k rfl ?_
      refine st_b2 rfl (fun g => ?_) (fun g => ?_)
      -- at 13: split 21 16
      · refine st_k rfl ?_
        -- at 22: op_iret
        exact st_iret rfl ⟨rfl, rfl⟩
      · refine st_ild rfl rfl ?_
        refine st_k rfl ?_
        refine st_b2 rfl (fun zq => absurd zq ((fun z => g1 ⟨g, z⟩))) (fun _ => ?_)
        refine st_k rfl ?_
        -- at 22: op_iret
        exact st_iret rfl ⟨rfl, rfl⟩
    · refine en_193 (Nat.le_of_ble_eq_true rfl) ?_
      have hM := h.1
      refine st_ald rfl rfl ?_
      refine st_ild rfl rfl ?_
      refine st_cav (As := [_]) rfl rfl rfl (by first | exact tT hM rfl | assumption | exact rw_T hM (by assumption) | exact rw_A hM (by assumption)) (Nat.le_of_ble_eq_true rfl) (m_isKnot (d + 17) hM ha.1 h.2.2.2.1 _) ?_
      refine st_b1 rfl (fun zq => absurd zq (b01_t h2)) (fun _ => ?_)
      refine st_ild rfl rfl ?_
      refine st_k rfl ?_
      refine st_k rfl ?_
      refine st_call (As := [_, _, _]) rfl rfl rfl (Nat.le_of_ble_eq_true rfl) (m_in (d + 18) w 1 5) ?_
      refine st_b1 rfl (fun zq => absurd zq ((fun z => z (b01_f g2)))) (fun _ => ?_)
      refine st_k rfl ?_
      -- at 18: op_iret
      exact st_iret rfl ⟨rfl, rfl⟩
  subst hw
  have h6 : j < 6 := by have := ha.1.1; omega
  have hin := in6 ha.1 hj
  have ecl := cl6 ha.1 hj
  have hkd := (ha.1.2.2.2.2.2.1 j hj).1
  have hsz := (ha.1.2.2.2.2.2.1 j hj).2
  have nkd : ∀ q : Nat, q ≤ 5 → (nI (cf_kd (aC a) j) = nI q ↔ cf_kd (aC a) j = q) := fun q hq => nI_eq (by omega) (by omega)
  have nm : ∀ q : Nat, q ≤ 5 → (nI m = nI q ↔ m = q) := fun q hq => nI_eq (by omega) (by omega)
  have cpre : ∀ d M, IC a M → ∀ Q : Option Value → pm_M → Prop, pm_WP (pm_call (d + 19)) tb_101 Q 32 [some (.ref 0), some (.int (nI j)), some (.int (nI m))] [.int (if isk (aC a) j m then 1 else 0)] M → pm_WP (pm_call (d + 19)) tb_101 Q 0 (pm_init 3 [.ref 0, .int (nI j), .int (nI m)]) [] M := by
    intro d M h Q hW
    have hM := h.1
    refine st_ald rfl rfl ?_
    refine st_gR' rfl (by first | exact tT hM rfl | assumption | exact rw_T hM (by assumption) | exact rw_A hM (by assumption)) (by first | exact rR hM rfl rfl | assumption | exact rw_R hM (by assumption)) ?_
    refine st_ild rfl rfl ?_
    refine st_cav (As := [_]) rfl rfl rfl (by first | exact tT hM rfl | assumption | exact rw_T hM (by assumption) | exact rw_A hM (by assumption)) (Nat.le_of_ble_eq_true rfl) (c_hasKnot (d + 18) hM h.2.2.2.1 _) ?_
    refine st_b1 rfl (fun zq => absurd zq (b01_t h1)) (fun _ => ?_)
    refine st_ild rfl rfl ?_
    refine st_k rfl ?_
    refine st_b2 rfl (fun zq => absurd zq (g1.1)) (fun _ => ?_)
    refine st_ild rfl rfl ?_
    refine st_k rfl ?_
    refine st_b2 rfl (fun _ => ?_) (fun zq => absurd (g1.2) zq)
    refine st_ald rfl rfl ?_
    refine st_gR' rfl (by first | exact tT hM rfl | assumption | exact rw_T hM (by assumption) | exact rw_A hM (by assumption)) (by first | exact rR hM rfl rfl | assumption | exact rw_R hM (by assumption)) ?_
    refine st_ild rfl rfl ?_
    refine st_ild rfl rfl ?_
    refine st_cav (As := [_, _]) rfl rfl rfl (by first | exact tT hM rfl | assumption | exact rw_T hM (by assumption) | exact rw_A hM (by assumption)) (Nat.le_of_ble_eq_true rfl) (c_isOfKind (d + 18) hM ha.1 h.2.2.2.1 hj (by omega)) ?_
    -- at 32: stop
    exact hW
  have mpre : ∀ d M, IM a M → ∀ Q : Option Value → pm_M → Prop, (∀ P : Prop, P = isk (aC a) j m → (P → pm_WP (pm_call (d + 19)) tb_193 Q 57 [some (.ref 132), some (.int (nI j)), some (.int (nI m)), some (.int (nI (cf_kd (aC a) j)))] [] M) ∧ (¬ P → pm_WP (pm_call (d + 19)) tb_193 Q 51 [some (.ref 132), some (.int (nI j)), some (.int (nI m)), some (.int (nI (cf_kd (aC a) j)))] [] M)) → pm_WP (pm_call (d + 19)) tb_193 Q 0 (pm_init 4 [.ref 132, .int (nI j), .int (nI m)]) [] M := by
    intro d M h Q hW
    have hM := h.1
    obtain ⟨w1, w2⟩ := hW _ rfl
    refine st_ald rfl rfl ?_
    refine st_ild rfl rfl ?_
    refine st_cav (As := [_]) rfl rfl rfl (by first | exact tT hM rfl | assumption | exact rw_T hM (by assumption) | exact rw_A hM (by assumption)) (Nat.le_of_ble_eq_true rfl) (m_isKnot (d + 17) hM ha.1 h.2.2.2.1 _) ?_
    refine st_b1 rfl (fun zq => absurd zq (b01_t h2)) (fun _ => ?_)
    refine st_ild rfl rfl ?_
    refine st_k rfl ?_
    refine st_k rfl ?_
    refine st_call (As := [_, _, _]) rfl rfl rfl (Nat.le_of_ble_eq_true rfl) (m_in (d + 18) _ 1 5) ?_
    refine st_b1 rfl (fun _ => ?_) (fun zq => absurd (b01_t g2) zq)
    refine st_ald rfl rfl ?_
    refine st_gR' rfl (by first | exact tT hM rfl | assumption | exact rw_T hM (by assumption) | exact rw_A hM (by assumption)) (by first | exact rR hM rfl rfl | assumption | exact rw_R hM (by assumption)) ?_
    refine st_ild rfl rfl ?_
    refine st_iald rfl (by first | exact tT hM rfl | assumption | exact rw_T hM (by assumption) | exact rw_A hM (by assumption)) (by first | decide | assumption | exact vp_in_nI (by omega) (by decide)) ?_
    -- at 25: stop
    refine wp_e (y := nI (cf_kd (aC a) j)) (by rw [ecl]; exact (h.2.2.2.1.2.1 j hj).1) ?_
    refine st_ist rfl ?_
    refine st_ild rfl rfl ?_
    refine st_ild rfl rfl ?_
    refine st_b2 rfl (fun s1 => ?_) (fun s1 => ?_)
    -- at 28: split 57 31
    · exact w1 (Or.inl ((nkd m hm5).mp s1))
    have s1 : ¬ cf_kd (aC a) j = m := fun z => s1 ((nkd m hm5).mpr z)
    refine st_ild rfl rfl ?_
    refine st_k rfl ?_
    refine st_b2 rfl (fun s2 => ?_) (fun s2 => ?_)
    -- at 33: split 41 36
    · have s2 : ¬ m = 1 := fun z => s2 ((nm 1 (by decide)).mpr z)
      refine st_ild rfl rfl ?_
      refine st_k rfl ?_
      refine st_b2 rfl (fun s3 => ?_) (fun s3 => ?_)
      -- at 43: split 51 46
      · have s3 : ¬ m = 2 := fun z => s3 ((nm 2 (by decide)).mpr z)
        exact w2 (fun z => by rcases z with z | z | z <;> omega)
      · have s3 : m = 2 := (nm 2 (by decide)).mp (Decidable.not_not.mp s3)
        refine st_ild rfl rfl ?_
        refine st_k rfl ?_
        refine st_b2 rfl (fun s4 => ?_) (fun s4 => ?_)
        -- at 48: split 57 51
        · have s4 : cf_kd (aC a) j = 4 := (nkd 4 (by decide)).mp s4
          exact w1 (Or.inr (Or.inr ⟨s4, s3⟩))
        · have s4 : ¬ cf_kd (aC a) j = 4 := fun z => s4 ((nkd 4 (by decide)).mpr z)
          exact w2 (fun z => by rcases z with z | z | z <;> omega)
    · have s2 : m = 1 := (nm 1 (by decide)).mp (Decidable.not_not.mp s2)
      refine st_ild rfl rfl ?_
      refine st_k rfl ?_
      refine st_b2 rfl (fun s4 => ?_) (fun s4 => ?_)
      -- at 38: split 57 41
      · have s4 : cf_kd (aC a) j = 3 := (nkd 3 (by decide)).mp s4
        exact w1 (Or.inr (Or.inl ⟨s4, s2⟩))
      · have s4 : ¬ cf_kd (aC a) j = 3 := fun z => s4 ((nkd 3 (by decide)).mpr z)
        refine st_ild rfl rfl ?_
        refine st_k rfl ?_
        refine st_b2 rfl (fun _ => ?_) (fun zq => absurd ((fun z => by have := (nm 2 (by decide)).mp z; omega)) zq)
        -- at 51: stop
        exact w2 (fun z => by rcases z with z | z | z <;> omega)
  by_cases hk : isk (aC a) j m
  case neg =>
    refine bo_f ha (f := 3) (by decide) (fun d M h => en_101 (Nat.le_of_ble_eq_true rfl) (cpre d M h _ ?_)) (fun d M h => en_193 (Nat.le_of_ble_eq_true rfl) (mpre d M h _ (fun P hP => ⟨fun z => absurd (hP ▸ z) hk, fun _ => ?_⟩)))
    · have hM := h.1
      refine st_b1 rfl (fun zq => absurd zq ((fun z => z (b01_f hk)))) (fun _ => ?_)
      refine st_ald rfl rfl ?_
      refine st_k rfl ?_
      refine st_cav (As := [_]) rfl rfl rfl (by first | exact tT hM rfl | assumption | exact rw_T hM (by assumption) | exact rw_A hM (by assumption)) (Nat.le_of_ble_eq_true rfl) (c_refuse (d + 18) hM (f := 3) (by decide)) ?_
      -- at 40: op_iret
      exact st_iret rfl ⟨rfl, rfl⟩
    · have hM := h.1
      refine st_ald rfl rfl ?_
      refine st_k rfl ?_
      refine st_cav (As := [_]) rfl rfl rfl (by first | exact tT hM rfl | assumption | exact rw_T hM (by assumption) | exact rw_A hM (by assumption)) (Nat.le_of_ble_eq_true rfl) (m_meets (d + 18) hM (f := 3) (by decide)) ?_
      -- at 56: op_iret
      exact st_iret rfl ⟨rfl, rfl⟩
  have fin : ∀ v : Int32, (∀ d M, IC a M → pm_WP (pm_call (d + 19)) tb_101 (fun r0 M1 => r0 = some (.int v) ∧ M1 = M) 41 [some (.ref 0), some (.int (nI j)), some (.int (nI m))] [] M) → (∀ d M, IM a M → pm_WP (pm_call (d + 19)) tb_193 (fun r0 M1 => r0 = some (.int v) ∧ M1 = M) 57 [some (.ref 132), some (.int (nI j)), some (.int (nI m)), some (.int (nI (cf_kd (aC a) j)))] [] M) → Both a 101 193 [.int (nI j), .int (nI m)] := by
    intro v w1 w2
    refine bo_k (x := .int v) ha (fun d M h => en_101 (Nat.le_of_ble_eq_true rfl) (cpre d M h _ ?_)) (fun d M h => en_193 (Nat.le_of_ble_eq_true rfl) (mpre d M h _ (fun P hP => ⟨fun _ => w2 d M h, fun z => absurd (hP ▸ hk) z⟩)))
    refine st_b1 rfl (fun _ => ?_) (fun zq => absurd (b01_t hk) zq)
    -- at 41: stop
    exact w1 d M h
  have hmm : m = 1 ∨ m = 2 ∨ m = 3 ∨ m = 4 ∨ m = 5 := by omega
  rcases hmm with z | z | z | z | z <;> subst z
  · refine fin (nI (alo (aC a) j) - nI (cf_sz (aC a) j)) (fun d M h => ?_) (fun d M h => ?_)
    · have hM := h.1
      refine st_ild rfl rfl (st_sw rfl ?_)
      rw [if_pos (show nI 1 = 1 from rfl)]
      refine st_ald rfl rfl ?_
      refine st_gR' rfl (by first | exact tT hM rfl | assumption | exact rw_T hM (by assumption) | exact rw_A hM (by assumption)) (by first | exact rR hM rfl rfl | assumption | exact rw_R hM (by assumption)) ?_
      refine st_ild rfl rfl ?_
      refine st_cav (As := [_]) rfl rfl rfl (by first | exact tT hM rfl | assumption | exact rw_T hM (by assumption) | exact rw_A hM (by assumption)) (Nat.le_of_ble_eq_true rfl) (c_takesAlone (d + 17) hM ha.1 h.2.2.2.1 hj) ?_
      refine st_ald rfl rfl ?_
      refine st_gR' rfl (by first | exact tT hM rfl | assumption | exact rw_T hM (by assumption) | exact rw_A hM (by assumption)) (by first | exact rR hM rfl rfl | assumption | exact rw_R hM (by assumption)) ?_
      refine st_gR' rfl (by first | exact tT hM rfl | assumption | exact rw_T hM (by assumption) | exact rw_A hM (by assumption)) (by first | exact rR hM rfl rfl | assumption | exact rw_R hM (by assumption)) ?_
      refine st_ild rfl rfl ?_
      refine st_iald rfl (by first | exact tT hM rfl | assumption | exact rw_T hM (by assumption) | exact rw_A hM (by assumption)) (by first | decide | assumption | exact vp_in_nI (by omega) (by decide)) ?_
      -- at 89: stop
      refine wp_e (y := nI (cf_sz (aC a) j)) (by rw [ecl]; exact (h.2.2.2.1.2.1 j hj).2.1) ?_
      refine st_ib rfl ?_
      -- at 90: op_iret
      exact st_iret rfl ⟨rfl, rfl⟩
    · have hM := h.1
      refine st_ild rfl rfl (st_sw rfl ?_)
      rw [if_pos (show nI 1 = 1 from rfl)]
      refine st_ald rfl rfl ?_
      refine st_k rfl ?_
      refine st_ild rfl rfl ?_
      refine st_cav (As := [_, _]) rfl rfl rfl (by first | exact tT hM rfl | assumption | exact rw_T hM (by assumption) | exact rw_A hM (by assumption)) (Nat.le_of_ble_eq_true rfl) (m_takeOf (d + 17) hM ha.1 h.2.2.2.1 (last := 6) (Or.inr rfl) hj) ?_
      refine st_ald rfl rfl ?_
      refine st_gR' rfl (by first | exact tT hM rfl | assumption | exact rw_T hM (by assumption) | exact rw_A hM (by assumption)) (by first | exact rR hM rfl rfl | assumption | exact rw_R hM (by assumption)) ?_
      refine st_ild rfl rfl ?_
      refine st_iald rfl (by first | exact tT hM rfl | assumption | exact rw_T hM (by assumption) | exact rw_A hM (by assumption)) (by first | decide | assumption | exact vp_in_nI (by omega) (by decide)) ?_
      -- at 100: stop
      refine wp_e (y := nI (cf_sz (aC a) j)) (by rw [ecl]; exact (h.2.2.2.1.2.1 j hj).2.1) ?_
      refine st_ib rfl ?_
      -- at 101: op_iret
      exact st_iret rfl ⟨by rw [tk6], rfl⟩
  · have ez : alo (aC a) j = cf_sz (aC a) j := by unfold alo; rw [if_neg (fun z => by rcases hk with w | w | w <;> omega)]
    refine fin (nI (cf_sz (aC a) j) - 1) (fun d M h => ?_) (fun d M h => ?_)
    · have hM := h.1
      refine st_ild rfl rfl (st_sw rfl ?_)
      rw [if_neg (show ¬ nI 2 = 1 by decide), if_pos (show nI 2 = 2 from rfl)]
      refine st_ald rfl rfl ?_
      refine st_gR' rfl (by first | exact tT hM rfl | assumption | exact rw_T hM (by assumption) | exact rw_A hM (by assumption)) (by first | exact rR hM rfl rfl | assumption | exact rw_R hM (by assumption)) ?_
      refine st_ild rfl rfl ?_
      refine st_cav (As := [_]) rfl rfl rfl (by first | exact tT hM rfl | assumption | exact rw_T hM (by assumption) | exact rw_A hM (by assumption)) (Nat.le_of_ble_eq_true rfl) (c_takesAlone (d + 17) hM ha.1 h.2.2.2.1 hj) ?_
      refine st_k rfl ?_
      refine st_ib rfl ?_
      -- at 101: op_iret
      exact st_iret rfl ⟨by rw [ez], rfl⟩
    · have hM := h.1
      refine st_ild rfl rfl (st_sw rfl ?_)
      rw [if_neg (show ¬ nI 2 = 1 by decide), if_pos (show nI 2 = 2 from rfl)]
      refine st_ald rfl rfl ?_
      refine st_gR' rfl (by first | exact tT hM rfl | assumption | exact rw_T hM (by assumption) | exact rw_A hM (by assumption)) (by first | exact rR hM rfl rfl | assumption | exact rw_R hM (by assumption)) ?_
      refine st_ild rfl rfl ?_
      refine st_iald rfl (by first | exact tT hM rfl | assumption | exact rw_T hM (by assumption) | exact rw_A hM (by assumption)) (by first | decide | assumption | exact vp_in_nI (by omega) (by decide)) ?_
      -- at 108: stop
      refine wp_e (y := nI (cf_sz (aC a) j)) (by rw [ecl]; exact (h.2.2.2.1.2.1 j hj).2.1) ?_
      refine st_k rfl ?_
      refine st_ib rfl ?_
      -- at 110: op_iret
      exact st_iret rfl ⟨rfl, rfl⟩
  · have hk3 : cf_kd (aC a) j = 3 := by rcases hk with w | w | w <;> omega
    have ee : em (aC a) j = 1 := by unfold em; rw [if_pos ⟨h6, hk3⟩]
    have hin7 : vp_in (nI j) 7 := vp_in_nI (by omega) (by decide)
    refine fin (nI (alo (aC a) j) + 1) (fun d M h => ?_) (fun d M h => ?_)
    · have hM := h.1
      refine st_ild rfl rfl (st_sw rfl ?_)
      rw [if_neg (show ¬ nI 3 = 1 by decide), if_neg (show ¬ nI 3 = 2 by decide), if_pos (show nI 3 = 3 from rfl)]
      refine st_ald rfl rfl ?_
      refine st_gR' rfl (by first | exact tT hM rfl | assumption | exact rw_T hM (by assumption) | exact rw_A hM (by assumption)) (by first | exact rR hM rfl rfl | assumption | exact rw_R hM (by assumption)) ?_
      refine st_ild rfl rfl ?_
      refine st_cav (As := [_]) rfl rfl rfl (by first | exact tT hM rfl | assumption | exact rw_T hM (by assumption) | exact rw_A hM (by assumption)) (Nat.le_of_ble_eq_true rfl) (c_takesAlone (d + 17) hM ha.1 h.2.2.2.1 hj) ?_
      refine st_ald rfl rfl ?_
      refine st_gR' rfl (by first | exact tT hM rfl | assumption | exact rw_T hM (by assumption) | exact rw_A hM (by assumption)) (by first | exact rR hM rfl rfl | assumption | exact rw_R hM (by assumption)) ?_
      refine st_gR' rfl (by first | exact tT hM rfl | assumption | exact rw_T hM (by assumption) | exact rw_A hM (by assumption)) (by first | exact rR hM rfl rfl | assumption | exact rw_R hM (by assumption)) ?_
      refine st_ild rfl rfl ?_
      refine st_iald rfl (by first | exact tT hM rfl | assumption | exact rw_T hM (by assumption) | exact rw_A hM (by assumption)) (hin7) ?_
      -- at 119: stop
      refine wp_e (y := nI (em (aC a) j)) (by rw [ecl]; exact (h.2.2.2.1.2.2.2.1 j (Or.inl hj)).2.1) ?_
      refine st_ib rfl ?_
      -- at 120: op_iret
      exact st_iret rfl ⟨by rw [ee]; rfl, rfl⟩
    · have hM := h.1
      refine st_ild rfl rfl (st_sw rfl ?_)
      rw [if_neg (show ¬ nI 3 = 1 by decide), if_neg (show ¬ nI 3 = 2 by decide), if_pos (show nI 3 = 3 from rfl)]
      refine st_ald rfl rfl ?_
      refine st_k rfl ?_
      refine st_ild rfl rfl ?_
      refine st_cav (As := [_, _]) rfl rfl rfl (by first | exact tT hM rfl | assumption | exact rw_T hM (by assumption) | exact rw_A hM (by assumption)) (Nat.le_of_ble_eq_true rfl) (m_takeOf (d + 17) hM ha.1 h.2.2.2.1 (last := 6) (Or.inr rfl) hj) ?_
      refine st_k rfl ?_
      refine st_ib rfl ?_
      -- at 119: op_iret
      exact st_iret rfl ⟨by rw [tk6], rfl⟩
  · refine fin (nI (pw (aC a) j (cf_np (aC a)))) (fun d M h => ?_) (fun d M h => ?_)
    · have hM := h.1
      refine st_ild rfl rfl (st_sw rfl ?_)
      rw [if_neg (show ¬ nI 4 = 1 by decide), if_neg (show ¬ nI 4 = 2 by decide), if_neg (show ¬ nI 4 = 3 by decide), if_pos (show nI 4 = 4 from rfl)]
      refine st_ald rfl rfl ?_
      refine st_gR' rfl (by first | exact tT hM rfl | assumption | exact rw_T hM (by assumption) | exact rw_A hM (by assumption)) (by first | exact rR hM rfl rfl | assumption | exact rw_R hM (by assumption)) ?_
      refine st_ild rfl rfl ?_
      refine st_cav (As := [_]) rfl rfl rfl (by first | exact tT hM rfl | assumption | exact rw_T hM (by assumption) | exact rw_A hM (by assumption)) (Nat.le_of_ble_eq_true rfl) (c_pairsWith (d + 18) hM ha.1 h.2.2.2.1 hj) ?_
      -- at 129: op_iret
      exact st_iret rfl ⟨rfl, rfl⟩
    · have hM := h.1
      refine st_ild rfl rfl (st_sw rfl ?_)
      rw [if_neg (show ¬ nI 4 = 1 by decide), if_neg (show ¬ nI 4 = 2 by decide), if_neg (show ¬ nI 4 = 3 by decide), if_pos (show nI 4 = 4 from rfl)]
      refine st_ald rfl rfl ?_
      refine st_ild rfl rfl ?_
      refine st_cav (As := [_]) rfl rfl rfl (by first | exact tT hM rfl | assumption | exact rw_T hM (by assumption) | exact rw_A hM (by assumption)) (Nat.le_of_ble_eq_true rfl) (m_pairsOf (d + 18) hM ha.1 h.2.2.2.1 hj) ?_
      -- at 125: op_iret
      exact st_iret rfl ⟨rfl, rfl⟩
  · refine fin (nI (hm ((aP a).map nI) (nI j) (aP a).length)) (fun d M h => ?_) (fun d M h => ?_)
    · have hM := h.1
      have hh := c_howMany (d + 18) hM ro3 h.2.2.2.2.1 (nI j)
      rw [map_len] at hh
      refine st_ild rfl rfl (st_sw rfl ?_)
      rw [if_neg (show ¬ nI 5 = 1 by decide), if_neg (show ¬ nI 5 = 2 by decide), if_neg (show ¬ nI 5 = 3 by decide), if_neg (show ¬ nI 5 = 4 by decide)]
      refine st_ald rfl rfl ?_
      refine st_gR' rfl (by first | exact tT hM rfl | assumption | exact rw_T hM (by assumption) | exact rw_A hM (by assumption)) (by first | exact rR hM rfl rfl | assumption | exact rw_R hM (by assumption)) ?_
      refine st_ild rfl rfl ?_
      refine st_cav (As := [_]) rfl rfl rfl (rw_T hM ro3) (Nat.le_of_ble_eq_true rfl) (hh) ?_
      -- at 138: op_iret
      exact st_iret rfl ⟨rfl, rfl⟩
    · have hM := h.1
      refine st_ild rfl rfl (st_sw rfl ?_)
      rw [if_neg (show ¬ nI 5 = 1 by decide), if_neg (show ¬ nI 5 = 2 by decide), if_neg (show ¬ nI 5 = 3 by decide), if_neg (show ¬ nI 5 = 4 by decide)]
      refine st_ald rfl rfl ?_
      refine st_ild rfl rfl ?_
      refine st_cav (As := [_]) rfl rfl rfl (by first | exact tT hM rfl | assumption | exact rw_T hM (by assumption) | exact rw_A hM (by assumption)) (Nat.le_of_ble_eq_true rfl) (m_ofRope (d + 18) hM ha.2.2.1 h.2.2.2.2.1 _) ?_
      -- at 131: op_iret
      exact st_iret rfl ⟨rfl, rfl⟩
/-! count -/
def thr {α : Type} (f : Nat → Option α) (n : Nat) : Nat := sk (fun j => if (f j).isSome = true then 1 else 0) n
theorem thr_s {α : Type} (f : Nat → Option α) (n : Nat) : thr f (n + 1) = thr f n + if (f n).isSome = true then 1 else 0 := rfl
def cv (a : As) (w : Nat) : Nat := if w = 0 then cf_n (aC a) else if w = 1 then (aP a).length else if w = 2 then nk (aC a) 1 (cf_n (aC a)) else if w = 3 then nk (aC a) 2 (cf_n (aC a)) else if w = 4 then cf_nl (aC a) else if w = 5 then cf_np (aC a) else if w = 6 then thr (aR a) 6 else if w = 7 then thr (aT a) 4 else thr (aK a) 3
theorem c_rowsThere (d : Nat) {α : Type} {k n : Nat} {f : Nat → Option α} {o : Nat → Nat} (hk : M.1[k]? = some (104, n)) (hn : n < 2 ^ 31) (h : ∀ i, i < n → gR M k i = some (o i) ∧ M.1[o i]? = some (5, 2) ∧ ((f i).isSome = true → 0 ≤ gI M (o i) 1) ∧ (¬ (f i).isSome = true → gI M (o i) 1 = -1)) : pm_call (d + 1) 146 [.ref k] M (some (.int (nI (thr f n)))) M := by
  refine en_146 (Nat.le_of_ble_eq_true rfl) ?_
  have loop : ∀ m i x y, x = nI i → y = nI (thr f i) → i + m = n → pm_WP (pm_call d) tb_146 (fun r0 M1 => r0 = some (.int (nI (thr f n))) ∧ M1 = M) 4 [some (.ref k), some (.int y), some (.int x)] [] M := by
    intro m
    induction m with
    | zero =>
      intro i x y hx hy hi
      subst hx; subst hy
      have q : Int32.ofNat n ≤ nI i := nI_le (a := n) (by omega) (by omega)
      refine st_ild rfl rfl ?_
      refine st_ald rfl rfl ?_
      refine st_alen rfl hk (by decide) (by decide) ?_
      refine st_b2 rfl (fun _ => ?_) (fun zq => absurd (q) zq)
      refine st_ild rfl rfl ?_
      -- at 34: op_iret
      exact st_iret rfl ⟨by rw [show i = n by omega], rfl⟩
    | succ m ih =>
      intro i x y hx hy hi
      subst hx; subst hy
      obtain ⟨h1, h2, h3, h4⟩ := h i (by omega)
      have q : ¬ Int32.ofNat n ≤ nI i := nI_ge (b := n) (by omega) (by omega)
      have hin : vp_in (nI i) n := vp_in_nI (by omega) hn
      have hr : gR M k (nI i).toNatClampNeg = some (o i) := by rw [nI_clamp (by omega)]; exact h1
      refine st_ild rfl rfl ?_
      refine st_ald rfl rfl ?_
      refine st_alen rfl hk (by decide) (by decide) ?_
      refine st_b2 rfl (fun zq => absurd zq (q)) (fun _ => ?_)
      refine st_ild rfl rfl ?_
      refine st_ald rfl rfl ?_
      refine st_ild rfl rfl ?_
      refine st_aald' rfl (hk) (hin) (hr) ?_
      refine st_gI rfl (h2) ?_
      refine st_b1 rfl (fun g => ?_) (fun g => ?_)
      -- at 17: split 24 20
      · refine st_k rfl ?_
        refine st_ib rfl ?_
        refine st_ist rfl ?_
        refine st_inc rfl rfl ?_
        refine st_go rfl ?_
        -- at 4: stop
        refine ih (i + 1) _ _ (nI_1 i) ?_ (by omega)
        rw [thr_s, if_pos (Decidable.not_not.mp (fun z => by rw [h4 z] at g; exact absurd g (by decide)))]
        exact nI_1 _
      · refine st_k rfl ?_
        refine st_go rfl ?_
        refine st_ib rfl ?_
        refine st_ist rfl ?_
        refine st_inc rfl rfl ?_
        refine st_go rfl ?_
        -- at 4: stop
        refine ih (i + 1) _ _ (nI_1 i) ?_ (by omega)
        rw [thr_s, if_neg (fun z => g (h3 z))]
        exact Int32.add_zero _
  refine st_k rfl ?_
  refine st_ist rfl ?_
  refine st_k rfl ?_
  refine st_ist rfl ?_
  -- at 4: stop
  exact loop n 0 0 0 rfl rfl (by omega)
theorem c_textsThere (d : Nat) (h : IC a M) : pm_call (d + 1) 147 [.ref 0] M (some (.int (nI (thr (aT a) 4)))) M := by
  refine en_147 (Nat.le_of_ble_eq_true rfl) ?_
  have hM := h.1
  have loop : ∀ m i x y, x = nI i → y = nI (thr (aT a) i) → i + m = 4 → pm_WP (pm_call d) tb_147 (fun r0 M1 => r0 = some (.int (nI (thr (aT a) 4))) ∧ M1 = M) 4 [some (.ref 0), some (.int y), some (.int x)] [] M := by
    intro m
    induction m with
    | zero =>
      intro i x y hx hy hi
      subst hx; subst hy
      refine st_ild rfl rfl ?_
      refine st_k rfl ?_
      refine st_b2 rfl (fun _ => ?_) (fun zq => absurd (nI_le (a := 4) (b := i) (by omega) (by omega)) zq)
      refine st_ild rfl rfl ?_
      -- at 36: op_iret
      exact st_iret rfl ⟨by rw [show i = 4 by omega], rfl⟩
    | succ m ih =>
      intro i x y hx hy hi
      subst hx; subst hy
      have hi4 : i < 4 := by omega
      have hz := h.2.2.1 i hi4
      have hin : vp_in (nI i) 4 := vp_in_nI (by omega) (by decide)
      refine st_ild rfl rfl ?_
      refine st_k rfl ?_
      refine st_b2 rfl (fun zq => absurd zq (nI_ge (a := i) (b := 4) (by omega) (by decide))) (fun _ => ?_)
      refine st_ild rfl rfl ?_
      refine st_ald rfl rfl ?_
      refine st_gR' rfl (by first | exact tT hM rfl | assumption | exact rw_T hM (by assumption) | exact rw_A hM (by assumption)) (by first | exact rR hM rfl rfl | assumption | exact rw_R hM (by assumption)) ?_
      refine st_ild rfl rfl ?_
      refine st_aald' rfl (by first | exact tT hM rfl | assumption | exact rw_T hM (by assumption) | exact rw_A hM (by assumption)) (by first | decide | assumption | exact vp_in_nI (by omega) (by decide)) (by first | assumption | exact rRow' hM (by assumption) | exact rTxt' hM (by assumption) | exact rKep' hM (by assumption) | exact rRdg' hM (by assumption)) ?_
      refine st_gI rfl (tTxt hM hi4) ?_
      refine st_b1 rfl (fun g => ?_) (fun g => ?_)
      -- at 19: split 26 22
      · refine st_k rfl ?_
        refine st_ib rfl ?_
        refine st_ist rfl ?_
        refine st_inc rfl rfl ?_
        refine st_go rfl ?_
        -- at 4: stop
        refine ih (i + 1) _ _ (nI_1 i) ?_ (by omega)
        rw [thr_s, if_pos (Decidable.not_not.mp (fun z => by
          cases hx : aT a i with
          | none => rw [hx] at hz; rw [show gI M (118 + 2 * i) 1 = -1 from hz] at g; exact absurd g (by decide)
          | some l => rw [hx] at z; exact z rfl))]
        exact nI_1 _
      · refine st_k rfl ?_
        refine st_go rfl ?_
        refine st_ib rfl ?_
        refine st_ist rfl ?_
        refine st_inc rfl rfl ?_
        refine st_go rfl ?_
        -- at 4: stop
        refine ih (i + 1) _ _ (nI_1 i) ?_ (by omega)
        rw [thr_s, if_neg (fun z => by
          cases hx : aT a i with
          | none => rw [hx] at z; cases z
          | some l => rw [hx] at hz; exact g (by rw [show gI M (118 + 2 * i) 1 = nI l.length from hz.1]; exact nI_pos' (by have := hz.2.1; omega)))]
        exact Int32.add_zero _
  refine st_k rfl ?_
  refine st_ist rfl ?_
  refine st_k rfl ?_
  refine st_ist rfl ?_
  -- at 4: stop
  exact loop 4 0 0 0 rfl rfl (by omega)
theorem c_count (d : Nat) (ha : aw a) (h : IC a M) {w : Nat} (hw : w ≤ 8) : pm_call (d + 3) 132 [.ref 0, .int (nI w)] M (some (.int (nI (cv a w)))) M := by
  refine en_132 (Nat.le_of_ble_eq_true rfl) ?_
  have hM := h.1
  have hc := h.2.2.2.1
  have hh : w = 0 ∨ w = 1 ∨ w = 2 ∨ w = 3 ∨ w = 4 ∨ w = 5 ∨ w = 6 ∨ w = 7 ∨ w = 8 := by omega
  refine st_ild rfl rfl (st_sw rfl ?_)
  rcases hh with z | z | z | z | z | z | z | z | z <;> subst z
  · rw [if_pos (show nI 0 = 0 from rfl)]
    refine st_ald rfl rfl ?_
    refine st_gR' rfl (by first | exact tT hM rfl | assumption | exact rw_T hM (by assumption) | exact rw_A hM (by assumption)) (by first | exact rR hM rfl rfl | assumption | exact rw_R hM (by assumption)) ?_
    refine st_gI rfl (by first | exact tT hM rfl | assumption | exact rw_T hM (by assumption) | exact rw_A hM (by assumption)) ?_
    -- at 59: op_iret
    exact st_iret rfl ⟨by rw [hc.1.2.2.1]; rfl, rfl⟩
  · rw [if_neg (show ¬ nI 1 = 0 by decide), if_pos (show nI 1 = 1 from rfl)]
    refine st_ald rfl rfl ?_
    refine st_gR' rfl (by first | exact tT hM rfl | assumption | exact rw_T hM (by assumption) | exact rw_A hM (by assumption)) (by first | exact rR hM rfl rfl | assumption | exact rw_R hM (by assumption)) ?_
    refine st_gI rfl (by first | exact tT hM rfl | assumption | exact rw_T hM (by assumption) | exact rw_A hM (by assumption)) ?_
    -- at 67: op_iret
    exact st_iret rfl ⟨by rw [h.2.2.2.2.1.1, map_len]; rfl, rfl⟩
  · rw [if_neg (show ¬ nI 2 = 0 by decide), if_neg (show ¬ nI 2 = 1 by decide), if_pos (show nI 2 = 2 from rfl)]
    refine st_ald rfl rfl ?_
    refine st_gR' rfl (by first | exact tT hM rfl | assumption | exact rw_T hM (by assumption) | exact rw_A hM (by assumption)) (by first | exact rR hM rfl rfl | assumption | exact rw_R hM (by assumption)) ?_
    refine st_k rfl ?_
    refine st_cav (As := [_]) rfl rfl rfl (by first | exact tT hM rfl | assumption | exact rw_T hM (by assumption) | exact rw_A hM (by assumption)) (Nat.le_of_ble_eq_true rfl) (c_knotsOfKind d hM ha.1 hc (kind := 1) (by decide)) ?_
    -- at 76: op_iret
    exact st_iret rfl ⟨rfl, rfl⟩
  · rw [if_neg (show ¬ nI 3 = 0 by decide), if_neg (show ¬ nI 3 = 1 by decide), if_neg (show ¬ nI 3 = 2 by decide), if_pos (show nI 3 = 3 from rfl)]
    refine st_ald rfl rfl ?_
    refine st_gR' rfl (by first | exact tT hM rfl | assumption | exact rw_T hM (by assumption) | exact rw_A hM (by assumption)) (by first | exact rR hM rfl rfl | assumption | exact rw_R hM (by assumption)) ?_
    refine st_k rfl ?_
    refine st_cav (As := [_]) rfl rfl rfl (by first | exact tT hM rfl | assumption | exact rw_T hM (by assumption) | exact rw_A hM (by assumption)) (Nat.le_of_ble_eq_true rfl) (c_knotsOfKind d hM ha.1 hc (kind := 2) (by decide)) ?_
    -- at 85: op_iret
    exact st_iret rfl ⟨rfl, rfl⟩
  · rw [if_neg (show ¬ nI 4 = 0 by decide), if_neg (show ¬ nI 4 = 1 by decide), if_neg (show ¬ nI 4 = 2 by decide), if_neg (show ¬ nI 4 = 3 by decide), if_pos (show nI 4 = 4 from rfl)]
    refine st_ald rfl rfl ?_
    refine st_gR' rfl (by first | exact tT hM rfl | assumption | exact rw_T hM (by assumption) | exact rw_A hM (by assumption)) (by first | exact rR hM rfl rfl | assumption | exact rw_R hM (by assumption)) ?_
    refine st_gI rfl (by first | exact tT hM rfl | assumption | exact rw_T hM (by assumption) | exact rw_A hM (by assumption)) ?_
    -- at 93: op_iret
    exact st_iret rfl ⟨by rw [hc.1.2.2.2.1]; rfl, rfl⟩
  · rw [if_neg (show ¬ nI 5 = 0 by decide), if_neg (show ¬ nI 5 = 1 by decide), if_neg (show ¬ nI 5 = 2 by decide), if_neg (show ¬ nI 5 = 3 by decide), if_neg (show ¬ nI 5 = 4 by decide), if_pos (show nI 5 = 5 from rfl)]
    refine st_ald rfl rfl ?_
    refine st_gR' rfl (by first | exact tT hM rfl | assumption | exact rw_T hM (by assumption) | exact rw_A hM (by assumption)) (by first | exact rR hM rfl rfl | assumption | exact rw_R hM (by assumption)) ?_
    refine st_gI rfl (by first | exact tT hM rfl | assumption | exact rw_T hM (by assumption) | exact rw_A hM (by assumption)) ?_
    -- at 101: op_iret
    exact st_iret rfl ⟨by rw [hc.1.2.2.2.2]; rfl, rfl⟩
  · rw [if_neg (show ¬ nI 6 = 0 by decide), if_neg (show ¬ nI 6 = 1 by decide), if_neg (show ¬ nI 6 = 2 by decide), if_neg (show ¬ nI 6 = 3 by decide), if_neg (show ¬ nI 6 = 4 by decide), if_neg (show ¬ nI 6 = 5 by decide), if_pos (show nI 6 = 6 from rfl)]
    have hq6 : ∀ i, i < 6 → gR M 1 i = some ((fun i => 106 + 2 * i) i) ∧ M.1[(fun i => 106 + 2 * i) i]? = some (5, 2) ∧ ((aR a i).isSome = true → 0 ≤ gI M ((fun i => 106 + 2 * i) i) 1) ∧ (¬ (aR a i).isSome = true → gI M ((fun i => 106 + 2 * i) i) 1 = -1) := fun i hi => ⟨rRow hM hi, tRow hM hi, fun z => by
      have hz := h.2.1 i hi
      cases hx : aR a i with
      | none => rw [hx] at z; cases z
      | some l => rw [hx] at hz; rw [(crow_some hz).1]; exact nI_pos' (by have := (crow_some hz).2.1; omega), fun z => by
      have hz := h.2.1 i hi
      cases hx : aR a i with
      | none => rw [hx] at hz; exact crow_none hz
      | some l => rw [hx] at z; exact absurd rfl z⟩
    refine st_ald rfl rfl ?_
    refine st_gR' rfl (by first | exact tT hM rfl | assumption | exact rw_T hM (by assumption) | exact rw_A hM (by assumption)) (by first | exact rR hM rfl rfl | assumption | exact rw_R hM (by assumption)) ?_
    refine st_call (As := [_]) rfl rfl rfl (Nat.le_of_ble_eq_true rfl) (c_rowsThere (d + 1) (n := 6) (f := aR a) (o := fun i => 106 + 2 * i) (tT hM rfl) (by decide) hq6) ?_
    -- at 109: op_iret
    exact st_iret rfl ⟨rfl, rfl⟩
  · rw [if_neg (show ¬ nI 7 = 0 by decide), if_neg (show ¬ nI 7 = 1 by decide), if_neg (show ¬ nI 7 = 2 by decide), if_neg (show ¬ nI 7 = 3 by decide), if_neg (show ¬ nI 7 = 4 by decide), if_neg (show ¬ nI 7 = 5 by decide), if_neg (show ¬ nI 7 = 6 by decide), if_pos (show nI 7 = 7 from rfl)]
    refine st_ald rfl rfl ?_
    refine st_cav (As := []) rfl rfl rfl (by first | exact tT hM rfl | assumption | exact rw_T hM (by assumption) | exact rw_A hM (by assumption)) (Nat.le_of_ble_eq_true rfl) (c_textsThere (d + 1) h) ?_
    -- at 114: op_iret
    exact st_iret rfl ⟨rfl, rfl⟩
  · rw [if_neg (show ¬ nI 8 = 0 by decide), if_neg (show ¬ nI 8 = 1 by decide), if_neg (show ¬ nI 8 = 2 by decide), if_neg (show ¬ nI 8 = 3 by decide), if_neg (show ¬ nI 8 = 4 by decide), if_neg (show ¬ nI 8 = 5 by decide), if_neg (show ¬ nI 8 = 6 by decide), if_neg (show ¬ nI 8 = 7 by decide), if_pos (show nI 8 = 8 from rfl)]
    have hq8 : ∀ i, i < 3 → gR M 5 i = some ((fun i => 126 + 2 * i) i) ∧ M.1[(fun i => 126 + 2 * i) i]? = some (5, 2) ∧ ((aK a i).isSome = true → 0 ≤ gI M ((fun i => 126 + 2 * i) i) 1) ∧ (¬ (aK a i).isSome = true → gI M ((fun i => 126 + 2 * i) i) 1 = -1) := fun i hi => ⟨rKep hM hi, tKep hM hi, fun z => by
      have hz := h.2.2.2.2.2.1 i hi
      cases hx : aK a i with
      | none => rw [hx] at z; cases z
      | some q => rw [hx] at hz; rw [hz.1.1]; exact nI_pos' (by have := hz.1.2.1; omega), fun z => by
      have hz := h.2.2.2.2.2.1 i hi
      cases hx : aK a i with
      | none => rw [hx] at hz; exact hz
      | some q => rw [hx] at z; exact absurd rfl z⟩
    refine st_ald rfl rfl ?_
    refine st_gR' rfl (by first | exact tT hM rfl | assumption | exact rw_T hM (by assumption) | exact rw_A hM (by assumption)) (by first | exact rR hM rfl rfl | assumption | exact rw_R hM (by assumption)) ?_
    refine st_call (As := [_]) rfl rfl rfl (Nat.le_of_ble_eq_true rfl) (c_rowsThere (d + 1) (n := 3) (f := aK a) (o := fun i => 126 + 2 * i) (tT hM rfl) (by decide) hq8) ?_
    -- at 122: op_iret
    exact st_iret rfl ⟨rfl, rfl⟩
theorem m_counted (d : Nat) (ha : aw a) (h : IM a M) {w : Nat} (hw : w ≤ 8) : pm_call (d + 2) 263 [.ref 132, .int (nI w)] M (some (.int (nI (cv a w)))) M := by
  refine en_263 (Nat.le_of_ble_eq_true rfl) ?_
  have hM := h.1
  have hc := h.2.2.2.1
  have hn := ha.1.1
  have nw : ∀ q : Nat, q ≤ 8 → (nI w = nI q ↔ w = q) := fun q hq => nI_eq (by omega) (by omega)
  -- the four loops, the last one first
  have fin : ∀ x, pm_WP (pm_call (d + 1)) tb_263 (fun r0 M1 => r0 = some (.int (nI (cv a w))) ∧ M1 = M) 160 [some (.ref 132), some (.int (nI w)), some (.int (nI ((if w = 2 then nk (aC a) 1 (cf_n (aC a)) else if w = 3 then nk (aC a) 2 (cf_n (aC a)) else 0) + (if w = 6 then thr (aR a) 6 else 0) + (if w = 7 then thr (aT a) 4 else 0) + (if w = 8 then thr (aK a) 3 else 0)))), some (.int x)] [] M := by
    intro x
    have hh : w = 0 ∨ w = 1 ∨ w = 2 ∨ w = 3 ∨ w = 4 ∨ w = 5 ∨ w = 6 ∨ w = 7 ∨ w = 8 := by omega
    refine st_ild rfl rfl (st_sw rfl ?_)
    rcases hh with z | z | z | z | z | z | z | z | z <;> subst z
    · rw [if_pos (show nI 0 = 0 from rfl)]
      refine st_ald rfl rfl ?_
      refine st_gI rfl (by first | exact tT hM rfl | assumption | exact rw_T hM (by assumption) | exact rw_A hM (by assumption)) ?_
      -- at 204: op_iret
      exact st_iret rfl ⟨by rw [hc.1.2.2.1]; rfl, rfl⟩
    · rw [if_neg (show ¬ nI 1 = 0 by decide), if_pos (show nI 1 = 1 from rfl)]
      refine st_ald rfl rfl ?_
      refine st_gI rfl (by first | exact tT hM rfl | assumption | exact rw_T hM (by assumption) | exact rw_A hM (by assumption)) ?_
      -- at 209: op_iret
      exact st_iret rfl ⟨by rw [h.2.2.2.2.1.1]; rfl, rfl⟩
    · rw [if_neg (show ¬ nI 2 = 0 by decide), if_neg (show ¬ nI 2 = 1 by decide), if_pos (show nI 2 = 2 from rfl)]
      refine st_ild rfl rfl ?_
      -- at 221: op_iret
      exact st_iret rfl ⟨by simp [cv], rfl⟩
    · rw [if_neg (show ¬ nI 3 = 0 by decide), if_neg (show ¬ nI 3 = 1 by decide), if_neg (show ¬ nI 3 = 2 by decide), if_pos (show nI 3 = 3 from rfl)]
      refine st_ild rfl rfl ?_
      -- at 221: op_iret
      exact st_iret rfl ⟨by simp [cv], rfl⟩
    · rw [if_neg (show ¬ nI 4 = 0 by decide), if_neg (show ¬ nI 4 = 1 by decide), if_neg (show ¬ nI 4 = 2 by decide), if_neg (show ¬ nI 4 = 3 by decide), if_pos (show nI 4 = 4 from rfl)]
      refine st_ald rfl rfl ?_
      refine st_gI rfl (by first | exact tT hM rfl | assumption | exact rw_T hM (by assumption) | exact rw_A hM (by assumption)) ?_
      -- at 214: op_iret
      exact st_iret rfl ⟨by rw [hc.1.2.2.2.1]; rfl, rfl⟩
    · rw [if_neg (show ¬ nI 5 = 0 by decide), if_neg (show ¬ nI 5 = 1 by decide), if_neg (show ¬ nI 5 = 2 by decide), if_neg (show ¬ nI 5 = 3 by decide), if_neg (show ¬ nI 5 = 4 by decide), if_pos (show nI 5 = 5 from rfl)]
      refine st_ald rfl rfl ?_
      refine st_gI rfl (by first | exact tT hM rfl | assumption | exact rw_T hM (by assumption) | exact rw_A hM (by assumption)) ?_
      -- at 219: op_iret
      exact st_iret rfl ⟨by rw [hc.1.2.2.2.2]; rfl, rfl⟩
    · rw [if_neg (show ¬ nI 6 = 0 by decide), if_neg (show ¬ nI 6 = 1 by decide), if_neg (show ¬ nI 6 = 2 by decide), if_neg (show ¬ nI 6 = 3 by decide), if_neg (show ¬ nI 6 = 4 by decide), if_neg (show ¬ nI 6 = 5 by decide)]
      refine st_ild rfl rfl ?_
      -- at 221: op_iret
      exact st_iret rfl ⟨by simp [cv], rfl⟩
    · rw [if_neg (show ¬ nI 7 = 0 by decide), if_neg (show ¬ nI 7 = 1 by decide), if_neg (show ¬ nI 7 = 2 by decide), if_neg (show ¬ nI 7 = 3 by decide), if_neg (show ¬ nI 7 = 4 by decide), if_neg (show ¬ nI 7 = 5 by decide)]
      refine st_ild rfl rfl ?_
      -- at 221: op_iret
      exact st_iret rfl ⟨by simp [cv], rfl⟩
    · rw [if_neg (show ¬ nI 8 = 0 by decide), if_neg (show ¬ nI 8 = 1 by decide), if_neg (show ¬ nI 8 = 2 by decide), if_neg (show ¬ nI 8 = 3 by decide), if_neg (show ¬ nI 8 = 4 by decide), if_neg (show ¬ nI 8 = 5 by decide)]
      refine st_ild rfl rfl ?_
      -- at 221: op_iret
      exact st_iret rfl ⟨by simp [cv], rfl⟩
  have loop4 : ∀ m i x y, x = nI i → y = nI ((if w = 2 then nk (aC a) 1 (cf_n (aC a)) else if w = 3 then nk (aC a) 2 (cf_n (aC a)) else 0) + (if w = 6 then thr (aR a) 6 else 0) + (if w = 7 then thr (aT a) 4 else 0) + (if w = 8 then thr (aK a) i else 0)) → i + m = 3 → pm_WP (pm_call (d + 1)) tb_263 (fun r0 M1 => r0 = some (.int (nI (cv a w))) ∧ M1 = M) 127 [some (.ref 132), some (.int (nI w)), some (.int y), some (.int x)] [] M := by
    intro m
    induction m with
    | zero =>
      intro i x y hx hy hi
      subst hx; subst hy
      refine st_ild rfl rfl ?_
      refine st_k rfl ?_
      refine st_b2 rfl (fun _ => ?_) (fun zq => absurd (nI_le (a := 3) (b := i) (by omega) (by omega)) zq)
      -- at 160: stop
      rw [show i = 3 by omega]
      exact fin _
    | succ m ih =>
      intro i x y hx hy hi
      subst hx; subst hy
      have hi3 : i < 3 := by omega
      have hz := h.2.2.2.2.2.1 i hi3
      refine st_ild rfl rfl ?_
      refine st_k rfl ?_
      refine st_b2 rfl (fun zq => absurd zq (nI_ge (a := i) (b := 3) (by omega) (by decide))) (fun _ => ?_)
      refine st_ild rfl rfl ?_
      refine st_ild rfl rfl ?_
      refine st_k rfl ?_
      refine st_b2 rfl (fun g => ?_) (fun g => ?_)
      -- at 136: split 151 139
      · have g : ¬ w = 8 := fun z => g ((nw 8 (by decide)).mpr z)
        refine st_k rfl ?_
        refine st_ib rfl ?_
        refine st_ist rfl ?_
        refine st_inc rfl rfl ?_
        refine st_go rfl ?_
        -- at 127: stop
        exact ih (i + 1) _ _ (nI_1 i) (by rw [if_neg g, if_neg g]; exact Int32.add_zero _) (by omega)
      · have g : w = 8 := (nw 8 (by decide)).mp (Decidable.not_not.mp g)
        refine st_ald rfl rfl ?_
        refine st_ild rfl rfl ?_
        refine st_cav (As := [_]) rfl rfl rfl (by first | exact tT hM rfl | assumption | exact rw_T hM (by assumption) | exact rw_A hM (by assumption)) (Nat.le_of_ble_eq_true rfl) (m_isThere d hM hi3 hz (fun l n q => ha.kl i l n hi3 q)) ?_
        refine st_b1 rfl (fun g2 => ?_) (fun g2 => ?_)
        -- at 144: split 151 147
        · refine st_k rfl ?_
          refine st_ib rfl ?_
          refine st_ist rfl ?_
          refine st_inc rfl rfl ?_
          refine st_go rfl ?_
          -- at 127: stop
          refine ih (i + 1) _ _ (nI_1 i) ?_ (by omega)
          rw [if_pos g, if_pos g, thr_s (aK a) i, if_neg (fun z => b01_t z g2)]
          exact Int32.add_zero _
        · refine st_k rfl ?_
          refine st_go rfl ?_
          refine st_ib rfl ?_
          refine st_ist rfl ?_
          refine st_inc rfl rfl ?_
          refine st_go rfl ?_
          -- at 127: stop
          refine ih (i + 1) _ _ (nI_1 i) ?_ (by omega)
          rw [if_pos g, if_pos g, thr_s (aK a) i, if_pos (Decidable.not_not.mp (fun z => g2 (b01_f z)))]
          exact nI_1 _
  have loop3 : ∀ m i x y, x = nI i → y = nI ((if w = 2 then nk (aC a) 1 (cf_n (aC a)) else if w = 3 then nk (aC a) 2 (cf_n (aC a)) else 0) + (if w = 6 then thr (aR a) 6 else 0) + (if w = 7 then thr (aT a) i else 0)) → i + m = 4 → pm_WP (pm_call (d + 1)) tb_263 (fun r0 M1 => r0 = some (.int (nI (cv a w))) ∧ M1 = M) 91 [some (.ref 132), some (.int (nI w)), some (.int y), some (.int x)] [] M := by
    intro m
    induction m with
    | zero =>
      intro i x y hx hy hi
      subst hx; subst hy
      refine st_ild rfl rfl ?_
      refine st_k rfl ?_
      refine st_b2 rfl (fun _ => ?_) (fun zq => absurd (nI_le (a := 4) (b := i) (by omega) (by omega)) zq)
      refine st_k rfl ?_
      refine st_ist rfl ?_
      -- at 127: stop
      rw [show i = 4 by omega]
      exact loop4 3 0 _ _ rfl (by congr 1; have : (if w = 8 then thr (aK a) 0 else 0) = 0 := by split <;> rfl
                                  omega) rfl
    | succ m ih =>
      intro i x y hx hy hi
      subst hx; subst hy
      have hi4 : i < 4 := by omega
      have hz := h.2.2.1 i hi4
      have hin : vp_in (nI i) 4 := vp_in_nI (by omega) (by decide)
      have e1 : (nI i).toNatClampNeg = i := nI_clamp (by omega)
      refine st_ild rfl rfl ?_
      refine st_k rfl ?_
      refine st_b2 rfl (fun zq => absurd zq (nI_ge (a := i) (b := 4) (by omega) (by decide))) (fun _ => ?_)
      refine st_ild rfl rfl ?_
      refine st_ild rfl rfl ?_
      refine st_k rfl ?_
      refine st_b2 rfl (fun g => ?_) (fun g => ?_)
      -- at 100: split 116 103
      · have g : ¬ w = 7 := fun z => g ((nw 7 (by decide)).mpr z)
        refine st_k rfl ?_
        refine st_ib rfl ?_
        refine st_ist rfl ?_
        refine st_inc rfl rfl ?_
        refine st_go rfl ?_
        -- at 91: stop
        exact ih (i + 1) _ _ (nI_1 i) (by rw [if_neg g, if_neg g]; exact Int32.add_zero _) (by omega)
      · have g : w = 7 := (nw 7 (by decide)).mp (Decidable.not_not.mp g)
        refine st_ald rfl rfl ?_
        refine st_gR' rfl (by first | exact tT hM rfl | assumption | exact rw_T hM (by assumption) | exact rw_A hM (by assumption)) (by first | exact rR hM rfl rfl | assumption | exact rw_R hM (by assumption)) ?_
        refine st_ild rfl rfl ?_
        refine st_iald rfl (by first | exact tT hM rfl | assumption | exact rw_T hM (by assumption) | exact rw_A hM (by assumption)) (by first | decide | assumption | exact vp_in_nI (by omega) (by decide)) ?_
        refine st_b1 rfl (fun g2 => ?_) (fun g2 => ?_)
        -- at 109: split 116 112
        · refine st_k rfl ?_
          refine st_ib rfl ?_
          refine st_ist rfl ?_
          refine st_inc rfl rfl ?_
          refine st_go rfl ?_
          -- at 91: stop
          refine ih (i + 1) _ _ (nI_1 i) ?_ (by omega)
          rw [e1] at g2
          rw [if_pos g, if_pos g, thr_s (aT a) i, if_neg (show ¬ (aT a i).isSome = true from fun z => by
            cases hx : aT a i with
            | none => rw [hx] at z; cases z
            | some l => rw [hx] at hz; rw [show gI M 137 i = nI l.length from hz.1] at g2; exact nI_pos (by have := hz.2.1; omega) g2)]
          exact Int32.add_zero _
        · refine st_k rfl ?_
          refine st_go rfl ?_
          refine st_ib rfl ?_
          refine st_ist rfl ?_
          refine st_inc rfl rfl ?_
          refine st_go rfl ?_
          -- at 91: stop
          refine ih (i + 1) _ _ (nI_1 i) ?_ (by omega)
          rw [e1] at g2
          rw [if_pos g, if_pos g, thr_s (aT a) i, if_pos (show (aT a i).isSome = true from Decidable.not_not.mp (fun z => by
            cases hx : aT a i with
            | none => rw [hx] at hz; rw [show gI M 137 i = -1 from hz] at g2; exact g2 (by decide)
            | some l => rw [hx] at z; exact z rfl))]
          exact nI_1 _
  have loop2 : ∀ m i x y, x = nI i → y = nI ((if w = 2 then nk (aC a) 1 (cf_n (aC a)) else if w = 3 then nk (aC a) 2 (cf_n (aC a)) else 0) + (if w = 6 then thr (aR a) i else 0)) → i + m = 6 → pm_WP (pm_call (d + 1)) tb_263 (fun r0 M1 => r0 = some (.int (nI (cv a w))) ∧ M1 = M) 54 [some (.ref 132), some (.int (nI w)), some (.int y), some (.int x)] [] M := by
    intro m
    induction m with
    | zero =>
      intro i x y hx hy hi
      subst hx; subst hy
      refine st_ild rfl rfl ?_
      refine st_k rfl ?_
      refine st_b2 rfl (fun _ => ?_) (fun zq => absurd (nI_le (a := 6) (b := i) (by omega) (by omega)) zq)
      refine st_k rfl ?_
      refine st_ist rfl ?_
      -- at 91: stop
      rw [show i = 6 by omega]
      exact loop3 4 0 _ _ rfl (by congr 1; have : (if w = 7 then thr (aT a) 0 else 0) = 0 := by split <;> rfl
                                  omega) rfl
    | succ m ih =>
      intro i x y hx hy hi
      subst hx; subst hy
      have hi4 : i < 6 := by omega
      have hz := h.2.1 i hi4
      have hin : vp_in (nI i) 6 := vp_in_nI (by omega) (by decide)
      have e1 : (nI i).toNatClampNeg = i := nI_clamp (by omega)
      refine st_ild rfl rfl ?_
      refine st_k rfl ?_
      refine st_b2 rfl (fun zq => absurd zq (nI_ge (a := i) (b := 6) (by omega) (by decide))) (fun _ => ?_)
      refine st_ild rfl rfl ?_
      refine st_ild rfl rfl ?_
      refine st_k rfl ?_
      refine st_b2 rfl (fun g => ?_) (fun g => ?_)
      -- at 64: split 80 67
      · have g : ¬ w = 6 := fun z => g ((nw 6 (by decide)).mpr z)
        refine st_k rfl ?_
        refine st_ib rfl ?_
        refine st_ist rfl ?_
        refine st_inc rfl rfl ?_
        refine st_go rfl ?_
        -- at 54: stop
        exact ih (i + 1) _ _ (nI_1 i) (by rw [if_neg g, if_neg g]; exact Int32.add_zero _) (by omega)
      · have g : w = 6 := (nw 6 (by decide)).mp (Decidable.not_not.mp g)
        refine st_ald rfl rfl ?_
        refine st_gR' rfl (by first | exact tT hM rfl | assumption | exact rw_T hM (by assumption) | exact rw_A hM (by assumption)) (by first | exact rR hM rfl rfl | assumption | exact rw_R hM (by assumption)) ?_
        refine st_ild rfl rfl ?_
        refine st_iald rfl (by first | exact tT hM rfl | assumption | exact rw_T hM (by assumption) | exact rw_A hM (by assumption)) (by first | decide | assumption | exact vp_in_nI (by omega) (by decide)) ?_
        refine st_b1 rfl (fun g2 => ?_) (fun g2 => ?_)
        -- at 73: split 80 76
        · refine st_k rfl ?_
          refine st_ib rfl ?_
          refine st_ist rfl ?_
          refine st_inc rfl rfl ?_
          refine st_go rfl ?_
          -- at 54: stop
          refine ih (i + 1) _ _ (nI_1 i) ?_ (by omega)
          rw [e1] at g2
          rw [if_pos g, if_pos g, thr_s (aR a) i, if_neg (show ¬ (aR a i).isSome = true from fun z => by
            cases hx : aR a i with
            | none => rw [hx] at z; cases z
            | some l => rw [hx] at hz; rw [show gI M 134 i = nI l.length from hz.1] at g2; exact nI_pos (by have := hz.2.1; omega) g2)]
          exact Int32.add_zero _
        · refine st_k rfl ?_
          refine st_go rfl ?_
          refine st_ib rfl ?_
          refine st_ist rfl ?_
          refine st_inc rfl rfl ?_
          refine st_go rfl ?_
          -- at 54: stop
          refine ih (i + 1) _ _ (nI_1 i) ?_ (by omega)
          rw [e1] at g2
          rw [if_pos g, if_pos g, thr_s (aR a) i, if_pos (show (aR a i).isSome = true from Decidable.not_not.mp (fun z => by
            cases hx : aR a i with
            | none => rw [hx] at hz; rw [show gI M 134 i = -1 from hz] at g2; exact g2 (by decide)
            | some l => rw [hx] at z; exact z rfl))]
          exact nI_1 _
  have loop1 : ∀ m i x y, x = nI i → y = nI (if w = 2 then nk (aC a) 1 i else if w = 3 then nk (aC a) 2 i else 0) → i + m = cf_n (aC a) → pm_WP (pm_call (d + 1)) tb_263 (fun r0 M1 => r0 = some (.int (nI (cv a w))) ∧ M1 = M) 4 [some (.ref 132), some (.int (nI w)), some (.int y), some (.int x)] [] M := by
    intro m
    induction m with
    | zero =>
      intro i x y hx hy hi
      subst hx; subst hy
      refine st_ild rfl rfl ?_
      refine st_ald rfl rfl ?_
      refine st_gI rfl (by first | exact tT hM rfl | assumption | exact rw_T hM (by assumption) | exact rw_A hM (by assumption)) ?_
      -- at 9: stop
      refine wp_e hc.1.2.2.1 ?_
      refine st_b2 rfl (fun _ => ?_) (fun zq => absurd (nI_le (by omega) (by omega)) zq)
      refine st_k rfl ?_
      refine st_ist rfl ?_
      -- at 54: stop
      rw [show i = cf_n (aC a) by omega]
      exact loop2 6 0 _ _ rfl (by congr 1; have : (if w = 6 then thr (aR a) 0 else 0) = 0 := by split <;> rfl
                                  omega) rfl
    | succ m ih =>
      intro i x y hx hy hi
      subst hx; subst hy
      have hik : i < cf_n (aC a) := by omega
      have hb := m_isBend d hM ha.1 hc (Or.inl hik)
      rw [lk_l32 ha.1 hik] at hb
      refine st_ild rfl rfl ?_
      refine st_ald rfl rfl ?_
      refine st_gI rfl (by first | exact tT hM rfl | assumption | exact rw_T hM (by assumption) | exact rw_A hM (by assumption)) ?_
      -- at 9: stop
      refine wp_e hc.1.2.2.1 ?_
      refine st_b2 rfl (fun zq => absurd zq (nI_ge (by omega) (by omega))) (fun _ => ?_)
      refine st_ild rfl rfl ?_
      refine st_ild rfl rfl ?_
      refine st_k rfl ?_
      refine st_b2 rfl (fun g => ?_) (fun g => ?_)
      -- at 15: split 26 18
      · have g : ¬ w = 2 := fun z => g ((nw 2 (by decide)).mpr z)
        refine st_ild rfl rfl ?_
        refine st_k rfl ?_
        refine st_b2 rfl (fun g3 => ?_) (fun g3 => ?_)
        -- at 28: split 43 31
        · have g3 : ¬ w = 3 := fun z => g3 ((nw 3 (by decide)).mpr z)
          refine st_k rfl ?_
          refine st_ib rfl ?_
          refine st_ist rfl ?_
          refine st_inc rfl rfl ?_
          refine st_go rfl ?_
          -- at 4: stop
          exact ih (i + 1) _ _ (nI_1 i) (by rw [if_neg g, if_neg g3, if_neg g, if_neg g3]; rfl) (by omega)
        · have g3 : w = 3 := (nw 3 (by decide)).mp (Decidable.not_not.mp g3)
          refine st_ald rfl rfl ?_
          refine st_ild rfl rfl ?_
          refine st_cav (As := [_]) rfl rfl rfl (by first | exact tT hM rfl | assumption | exact rw_T hM (by assumption) | exact rw_A hM (by assumption)) (Nat.le_of_ble_eq_true rfl) (hb) ?_
          refine st_b1 rfl (fun g4 => ?_) (fun g4 => ?_)
          -- at 36: split 43 39
          · have g4 : ¬ bnd (aC a) i := fun z => b01_t ⟨by omega, z⟩ g4
            refine st_k rfl ?_
            refine st_ib rfl ?_
            refine st_ist rfl ?_
            refine st_inc rfl rfl ?_
            refine st_go rfl ?_
            -- at 4: stop
            refine ih (i + 1) _ _ (nI_1 i) ?_ (by omega)
            rw [if_neg g, if_pos g3, if_neg g, if_pos g3, nk_s, if_neg (fun z => g4 (by rcases z with z | z | z; exact Or.inl z; omega; exact Or.inr z.1))]
            exact Int32.add_zero _
          · have g4 := (Decidable.not_not.mp (fun z => g4 (b01_f z))).2
            refine st_k rfl ?_
            refine st_go rfl ?_
            refine st_ib rfl ?_
            refine st_ist rfl ?_
            refine st_inc rfl rfl ?_
            refine st_go rfl ?_
            -- at 4: stop
            refine ih (i + 1) _ _ (nI_1 i) ?_ (by omega)
            rw [if_neg g, if_pos g3, if_neg g, if_pos g3, nk_s, if_pos (by rcases g4 with z | z; exact Or.inl z; exact Or.inr (Or.inr ⟨z, rfl⟩))]
            exact nI_1 _
      · have g : w = 2 := (nw 2 (by decide)).mp (Decidable.not_not.mp g)
        refine st_ald rfl rfl ?_
        refine st_ild rfl rfl ?_
        refine st_cav (As := [_]) rfl rfl rfl (by first | exact tT hM rfl | assumption | exact rw_T hM (by assumption) | exact rw_A hM (by assumption)) (Nat.le_of_ble_eq_true rfl) (m_isLoop d hM ha.1 hc hik) ?_
        refine st_b1 rfl (fun g4 => ?_) (fun g4 => ?_)
        -- at 23: split 39 26
        · have g4 := Decidable.not_not.mp (fun z => g4 (b01_f z))
          refine st_k rfl ?_
          refine st_go rfl ?_
          refine st_ib rfl ?_
          refine st_ist rfl ?_
          refine st_inc rfl rfl ?_
          refine st_go rfl ?_
          -- at 4: stop
          refine ih (i + 1) _ _ (nI_1 i) ?_ (by omega)
          rw [if_pos g, if_pos g, nk_s, if_pos (by rcases g4 with z | z; exact Or.inl z; exact Or.inr (Or.inl ⟨z, rfl⟩))]
          exact nI_1 _
        · have g4 : ¬ (cf_kd (aC a) i = 1 ∨ cf_kd (aC a) i = 3) := fun z => g4 (b01_t z)
          refine st_ild rfl rfl ?_
          refine st_k rfl ?_
          refine st_b2 rfl (fun _ => ?_) (fun zq => absurd ((fun z => by have := (nw 3 (by decide)).mp z; omega)) zq)
          refine st_k rfl ?_
          refine st_ib rfl ?_
          refine st_ist rfl ?_
          refine st_inc rfl rfl ?_
          refine st_go rfl ?_
          -- at 4: stop
          refine ih (i + 1) _ _ (nI_1 i) ?_ (by omega)
          rw [if_pos g, if_pos g, nk_s, if_neg (fun z => g4 (by rcases z with z | z | z; exact Or.inl z; exact Or.inr z.1; omega))]
          exact Int32.add_zero _
  refine st_k rfl ?_
  refine st_ist rfl ?_
  refine st_k rfl ?_
  refine st_ist rfl ?_
  -- at 4: stop
  exact loop1 (cf_n (aC a)) 0 0 _ rfl (by simp [nk]; rfl) (by omega)
theorem b_count (ha : aw a) (w : Int32) : Both a 132 264 [.int w] := by
  rcases pk_ix w (n := 9) (by decide) with h | h | ⟨j, hj, h⟩
  · have bad : ∀ d M, pm_call (d + 20) 132 (.ref 0 :: [.int w]) M (some (.int (-1))) M := by
      intro d M
      refine en_132 (Nat.le_of_ble_eq_true rfl) ?_
      refine st_ild rfl rfl (st_sw rfl ?_)
      have hq : ∀ q : Nat, q ≤ 8 → ¬ w = nI q := fun q hq z => by rw [z] at h; exact nI_pos (by omega) h
      rw [if_neg (show ¬ w = 0 from hq 0 (by decide)), if_neg (show ¬ w = 1 from hq 1 (by decide)), if_neg (show ¬ w = 2 from hq 2 (by decide)), if_neg (show ¬ w = 3 from hq 3 (by decide)), if_neg (show ¬ w = 4 from hq 4 (by decide)), if_neg (show ¬ w = 5 from hq 5 (by decide)), if_neg (show ¬ w = 6 from hq 6 (by decide)), if_neg (show ¬ w = 7 from hq 7 (by decide)), if_neg (show ¬ w = 8 from hq 8 (by decide))]
      refine st_k rfl ?_
      -- at 124: op_iret
      exact st_iret rfl ⟨rfl, rfl⟩
    refine bo_k (x := .int (-1)) ha (fun d M h => bad d M) (fun d M hI => ?_)
    refine en_264 (Nat.le_of_ble_eq_true rfl) ?_
    refine st_ild rfl rfl ?_
    refine st_k rfl ?_
    refine st_k rfl ?_
    refine st_call (As := [_, _, _]) rfl rfl rfl (Nat.le_of_ble_eq_true rfl) (m_in (d + 18) w 0 8) ?_
    refine st_b1 rfl (fun _ => ?_) (fun zq => absurd (b01_f (fun z => z.1 h)) zq)
    refine st_k rfl ?_
    -- at 19: op_iret
    exact st_iret rfl ⟨rfl, rfl⟩
  · have h8 : (8 : Int32) < w := Int32.lt_of_lt_of_le (by decide) h
    have bad : ∀ d M, pm_call (d + 20) 132 (.ref 0 :: [.int w]) M (some (.int (-1))) M := by
      intro d M
      refine en_132 (Nat.le_of_ble_eq_true rfl) ?_
      refine st_ild rfl rfl (st_sw rfl ?_)
      have hq : ∀ q : Nat, q ≤ 8 → ¬ w = nI q := fun q hq z => by rw [z] at h; exact nI_ge (by omega) (by decide) h
      rw [if_neg (show ¬ w = 0 from hq 0 (by decide)), if_neg (show ¬ w = 1 from hq 1 (by decide)), if_neg (show ¬ w = 2 from hq 2 (by decide)), if_neg (show ¬ w = 3 from hq 3 (by decide)), if_neg (show ¬ w = 4 from hq 4 (by decide)), if_neg (show ¬ w = 5 from hq 5 (by decide)), if_neg (show ¬ w = 6 from hq 6 (by decide)), if_neg (show ¬ w = 7 from hq 7 (by decide)), if_neg (show ¬ w = 8 from hq 8 (by decide))]
      refine st_k rfl ?_
      -- at 124: op_iret
      exact st_iret rfl ⟨rfl, rfl⟩
    refine bo_k (x := .int (-1)) ha (fun d M h => bad d M) (fun d M hI => ?_)
    refine en_264 (Nat.le_of_ble_eq_true rfl) ?_
    refine st_ild rfl rfl ?_
    refine st_k rfl ?_
    refine st_k rfl ?_
    refine st_call (As := [_, _, _]) rfl rfl rfl (Nat.le_of_ble_eq_true rfl) (m_in (d + 18) w 0 8) ?_
    refine st_b1 rfl (fun _ => ?_) (fun zq => absurd (b01_f (fun z => z.2 h8)) zq)
    refine st_k rfl ?_
    -- at 19: op_iret
    exact st_iret rfl ⟨rfl, rfl⟩
  · subst h
    refine bo_k (x := .int (nI (cv a j))) ha (fun d M h => c_count (d + 17) ha h (by omega)) (fun d M h => ?_)
    refine en_264 (Nat.le_of_ble_eq_true rfl) ?_
    have hM := h.1
    refine st_ild rfl rfl ?_
    refine st_k rfl ?_
    refine st_k rfl ?_
    refine st_call (As := [_, _, _]) rfl rfl rfl (Nat.le_of_ble_eq_true rfl) (m_in (d + 18) _ 0 8) ?_
    refine st_b1 rfl (fun zq => absurd zq (b01_t ⟨nI_pos (by omega), nI_nlt (a := 8) (b := j) (by omega) (by decide)⟩)) (fun _ => ?_)
    refine st_ald rfl rfl ?_
    refine st_ild rfl rfl ?_
    refine st_cav (As := [_]) rfl rfl rfl (by first | exact tT hM rfl | assumption | exact rw_T hM (by assumption) | exact rw_A hM (by assumption)) (Nat.le_of_ble_eq_true rfl) (m_counted (d + 17) ha h (by omega)) ?_
    refine st_go rfl ?_
    -- at 19: op_iret
    exact st_iret rfl ⟨rfl, rfl⟩
end PUK

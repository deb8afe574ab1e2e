/-! BOTH ANSWER ALIKE: on, text, put -/
section PUI
variable {a : As} {M : pm_M}
theorem cf_sl_wf {c : Cf} (h : cf_wf c) {n : Nat} (h1 : cf_gir c ≤ n) (h2 : n ≤ 99) : cf_wf (cf_sl c n) := ⟨h.1, h1, h2, h.2.2.2.1, h.2.2.2.2.1, h.2.2.2.2.2.1, h.2.2.2.2.2.2⟩
theorem m_isThere (d : Nat) (hM : pm_ok M) {k : Nat} (hk : k < 3) {x : Option (List Nat × Nat)} (hx : MKep M k x) (hl : ∀ l n, x = some (l, n) → l.length ≤ 20) : pm_call (d + 1) 209 [.ref 132, .int (nI k)] M (some (.int (if x.isSome = true then 1 else 0))) M := by
  refine en_209 (Nat.le_of_ble_eq_true rfl) ?_
  have hin : vp_in (nI k) 3 := vp_in_nI hk (by decide)
  have e1 : (nI k).toNatClampNeg = k := nI_clamp (by omega)
  cases x with
  | none =>
    refine st_ald rfl rfl ?_
    refine st_gR' rfl (by first | exact tT hM rfl | assumption | exact rw_T hM (by assumption) | exact rw_A hM (by assumption)) (by first | exact rR hM rfl rfl | assumption | exact rw_R hM (by assumption)) ?_
    refine st_ild rfl rfl ?_
    refine st_bald rfl (by first | exact tT hM rfl | assumption | exact rw_T hM (by assumption) | exact rw_A hM (by assumption)) (by first | decide | assumption | exact vp_in_nI (by omega) (by decide)) ?_
    refine st_b1 rfl (fun g => ?_) (fun g => ?_)
    -- at 6: split 22 9
    · refine st_k rfl ?_
      -- at 23: op_zret
      exact st_zret rfl (by decide) ⟨rfl, rfl⟩
    · rw [e1] at g
      have hz : gI M 150 k = -1 := hx.resolve_left g
      refine st_ald rfl rfl ?_
      refine st_gR' rfl (by first | exact tT hM rfl | assumption | exact rw_T hM (by assumption) | exact rw_A hM (by assumption)) (by first | exact rR hM rfl rfl | assumption | exact rw_R hM (by assumption)) ?_
      refine st_ild rfl rfl ?_
      refine st_iald rfl (by first | exact tT hM rfl | assumption | exact rw_T hM (by assumption) | exact rw_A hM (by assumption)) (by first | decide | assumption | exact vp_in_nI (by omega) (by decide)) ?_
      refine st_b1 rfl (fun _ => ?_) (fun zq => absurd ((by rw [e1, hz]; decide)) zq)
      refine st_k rfl ?_
      -- at 23: op_zret
      exact st_zret rfl (by decide) ⟨rfl, rfl⟩
  | some q =>
    obtain ⟨l, n⟩ := q
    have := hl l n rfl
    have h1 : gI M 153 k = 1 := hx.1
    have h2 : gI M 150 k = nI l.length := hx.2.1
    refine st_ald rfl rfl ?_
    refine st_gR' rfl (by first | exact tT hM rfl | assumption | exact rw_T hM (by assumption) | exact rw_A hM (by assumption)) (by first | exact rR hM rfl rfl | assumption | exact rw_R hM (by assumption)) ?_
    refine st_ild rfl rfl ?_
    refine st_bald rfl (by first | exact tT hM rfl | assumption | exact rw_T hM (by assumption) | exact rw_A hM (by assumption)) (by first | decide | assumption | exact vp_in_nI (by omega) (by decide)) ?_
    refine st_b1 rfl (fun zq => absurd zq ((by rw [e1, h1]; decide))) (fun _ => ?_)
    refine st_ald rfl rfl ?_
    refine st_gR' rfl (by first | exact tT hM rfl | assumption | exact rw_T hM (by assumption) | exact rw_A hM (by assumption)) (by first | exact rR hM rfl rfl | assumption | exact rw_R hM (by assumption)) ?_
    refine st_ild rfl rfl ?_
    refine st_iald rfl (by first | exact tT hM rfl | assumption | exact rw_T hM (by assumption) | exact rw_A hM (by assumption)) (by first | decide | assumption | exact vp_in_nI (by omega) (by decide)) ?_
    refine st_b1 rfl (fun zq => absurd zq ((by rw [e1, h2]; exact nI_pos (by omega)))) (fun _ => ?_)
    refine st_k rfl ?_
    refine st_go rfl ?_
    -- at 23: op_zret
    exact st_zret rfl (by decide) ⟨rfl, rfl⟩
theorem b_on (ha : aw a) (k : Int32) : Both a 111 211 [.int k] := by
  rcases k3_cs k with ⟨h1, h2⟩ | ⟨j, hj, hr, h1, h2⟩
  · refine bo_k (x := .int (-1)) ha (fun d M h => ?_) (fun d M h => ?_)
    · refine en_111 (Nat.le_of_ble_eq_true rfl) ?_
      refine st_ild rfl rfl ?_
      refine st_b1 rfl (fun g => ?_) (fun g => ?_)
      -- at 1: split 9 4
      · refine st_k rfl ?_
        -- at 10: op_iret
        exact st_iret rfl ⟨rfl, rfl⟩
      · refine st_ild rfl rfl ?_
        refine st_k rfl ?_
        refine st_b2 rfl (fun zq => absurd zq ((fun z => h1 ⟨g, z⟩))) (fun _ => ?_)
        refine st_k rfl ?_
        -- at 10: op_iret
        exact st_iret rfl ⟨rfl, rfl⟩
    · refine en_211 (Nat.le_of_ble_eq_true rfl) ?_
      refine st_ild rfl rfl ?_
      refine st_k rfl ?_
      refine st_k rfl ?_
      refine st_call (As := [_, _, _]) rfl rfl rfl (Nat.le_of_ble_eq_true rfl) (m_in (d + 18) k 0 2) ?_
      refine st_b1 rfl (fun zq => absurd zq ((fun z => z (b01_f h2)))) (fun _ => ?_)
      refine st_k rfl ?_
      -- at 10: op_iret
      exact st_iret rfl ⟨rfl, rfl⟩
  subst hr
  have hin : vp_in (nI j) 3 := vp_in_nI hj (by decide)
  have e1 : (nI j).toNatClampNeg = j := nI_clamp (by omega)
  have ho := rw_kep j hj
  cases hx : aK a j with
  | none =>
    refine bo_f ha (f := 1) (by decide) (fun d M h => ?_) (fun d M h => ?_)
    · refine en_111 (Nat.le_of_ble_eq_true rfl) ?_
      have hM := h.1
      have hz := h.2.2.2.2.2.1 j hj
      rw [hx] at hz
      refine st_ild rfl rfl ?_
      refine st_b1 rfl (fun zq => absurd zq (h1.1)) (fun _ => ?_)
      refine st_ild rfl rfl ?_
      refine st_k rfl ?_
      refine st_b2 rfl (fun _ => ?_) (fun zq => absurd (h1.2) zq)
      refine st_ald rfl rfl ?_
      refine st_gR' rfl (by first | exact tT hM rfl | assumption | exact rw_T hM (by assumption) | exact rw_A hM (by assumption)) (by first | exact rR hM rfl rfl | assumption | exact rw_R hM (by assumption)) ?_
      refine st_ild rfl rfl ?_
      refine st_aald' rfl (by first | exact tT hM rfl | assumption | exact rw_T hM (by assumption) | exact rw_A hM (by assumption)) (by first | decide | assumption | exact vp_in_nI (by omega) (by decide)) (by first | assumption | exact rRow' hM (by assumption) | exact rTxt' hM (by assumption) | exact rKep' hM (by assumption) | exact rRdg' hM (by assumption)) ?_
      refine st_gI rfl (by first | exact tT hM rfl | assumption | exact rw_T hM (by assumption) | exact rw_A hM (by assumption)) ?_
      -- at 20: stop
      refine wp_e (y := -1) hz ?_
      refine st_b1 rfl (fun zq => absurd zq ((by decide))) (fun _ => ?_)
      refine st_ald rfl rfl ?_
      refine st_k rfl ?_
      refine st_cav (As := [_]) rfl rfl rfl (by first | exact tT hM rfl | assumption | exact rw_T hM (by assumption) | exact rw_A hM (by assumption)) (Nat.le_of_ble_eq_true rfl) (c_refuse (d + 18) hM (f := 1) (by decide)) ?_
      -- at 28: op_iret
      exact st_iret rfl ⟨rfl, rfl⟩
    · refine en_211 (Nat.le_of_ble_eq_true rfl) ?_
      have hM := h.1
      have hz := h.2.2.2.2.2.1 j hj
      rw [hx] at hz
      refine st_ild rfl rfl ?_
      refine st_k rfl ?_
      refine st_k rfl ?_
      refine st_call (As := [_, _, _]) rfl rfl rfl (Nat.le_of_ble_eq_true rfl) (m_in (d + 18) _ 0 2) ?_
      refine st_b1 rfl (fun _ => ?_) (fun zq => absurd (b01_t h2) zq)
      refine st_ald rfl rfl ?_
      refine st_ild rfl rfl ?_
      refine st_cav (As := [_]) rfl rfl rfl (by first | exact tT hM rfl | assumption | exact rw_T hM (by assumption) | exact rw_A hM (by assumption)) (Nat.le_of_ble_eq_true rfl) (m_isThere (d + 18) hM hj hz (fun _ _ q => by cases q)) ?_
      refine st_b1 rfl (fun zq => absurd zq ((fun z => z rfl))) (fun _ => ?_)
      refine st_ald rfl rfl ?_
      refine st_k rfl ?_
      refine st_cav (As := [_]) rfl rfl rfl (by first | exact tT hM rfl | assumption | exact rw_T hM (by assumption) | exact rw_A hM (by assumption)) (Nat.le_of_ble_eq_true rfl) (m_meets (d + 18) hM (f := 1) (by decide)) ?_
      -- at 24: op_iret
      exact st_iret rfl ⟨rfl, rfl⟩
  | some q =>
    obtain ⟨l, n⟩ := q
    obtain ⟨w1, w2, w3, w4⟩ := ha.2.2.2.1 j l n hj hx
    refine ⟨.int (nI l.length), sC' (sP' a l) (cf_sl (aC a) n), ⟨cf_sl_wf ha.1 w3 w4, w1, w2, ha.2.2.2.1, ha.2.2.2.2⟩, fun d M h => ?_, fun d M h => ?_⟩
    · have hM := h.1
      have hz := h.2.2.2.2.2.1 j hj
      rw [hx] at hz
      have hr : pm_Ro M (126 + 2 * j) (l.map nI) := hz.1
      have s1 : pm_S (pm_oo 3) M (sI (pm_cp M (126 + 2 * j + 1) (3 + 1) 0 0 (l.map nI).length) 3 1 (nI (l.map nI).length)) := s_become
      have hM1 := s1.ok hM
      have hI := h.rope (ws := l) s1 (fun k hk => by rcases hk with z | z <;> omega) (ro_become hr)
      have hI2 := hI.cf (c' := cf_sl (aC a) n) (k := 7) (i := 0) (v := nI n) (al_sl _ _) (Or.inl ⟨rfl, rfl⟩) (gI_same _ _ _ _) rfl (fun t ht => by rw [gI_ne (Or.inl (by decide))]; exact (hI.2.2.2.1.2.1 t ht).2.2)
      refine ⟨_, en_111 (Nat.le_of_ble_eq_true rfl) ?_, hI2, (Cfr.S s1 (fun k hk => by rcases hk with z | z <;> omega)).sI (by decide) _ _⟩
      refine st_ild rfl rfl ?_
      refine st_b1 rfl (fun zq => absurd zq (h1.1)) (fun _ => ?_)
      refine st_ild rfl rfl ?_
      refine st_k rfl ?_
      refine st_b2 rfl (fun _ => ?_) (fun zq => absurd (h1.2) zq)
      refine st_ald rfl rfl ?_
      refine st_gR' rfl (by first | exact tT hM rfl | assumption | exact rw_T hM (by assumption) | exact rw_A hM (by assumption)) (by first | exact rR hM rfl rfl | assumption | exact rw_R hM (by assumption)) ?_
      refine st_ild rfl rfl ?_
      refine st_aald' rfl (by first | exact tT hM rfl | assumption | exact rw_T hM (by assumption) | exact rw_A hM (by assumption)) (by first | decide | assumption | exact vp_in_nI (by omega) (by decide)) (by first | assumption | exact rRow' hM (by assumption) | exact rTxt' hM (by assumption) | exact rKep' hM (by assumption) | exact rRdg' hM (by assumption)) ?_
      refine st_gI rfl (by first | exact tT hM rfl | assumption | exact rw_T hM (by assumption) | exact rw_A hM (by assumption)) ?_
      -- at 20: stop
      refine wp_e hr.1 ?_
      refine st_b1 rfl (fun _ => ?_) (fun zq => absurd (nI_pos' (by rw [map_len]; omega)) zq)
      refine st_ald rfl rfl ?_
      refine st_gR' rfl (by first | exact tT hM rfl | assumption | exact rw_T hM (by assumption) | exact rw_A hM (by assumption)) (by first | exact rR hM rfl rfl | assumption | exact rw_R hM (by assumption)) ?_
      refine st_ald rfl rfl ?_
      refine st_gR' rfl (by first | exact tT hM rfl | assumption | exact rw_T hM (by assumption) | exact rw_A hM (by assumption)) (by first | exact rR hM rfl rfl | assumption | exact rw_R hM (by assumption)) ?_
      refine st_ild rfl rfl ?_
      refine st_aald' rfl (by first | exact tT hM rfl | assumption | exact rw_T hM (by assumption) | exact rw_A hM (by assumption)) (by first | decide | assumption | exact vp_in_nI (by omega) (by decide)) (by first | assumption | exact rRow' hM (by assumption) | exact rTxt' hM (by assumption) | exact rKep' hM (by assumption) | exact rRdg' hM (by assumption)) ?_
      refine st_cav (As := [_]) rfl rfl rfl (by first | exact tT hM rfl | assumption | exact rw_T hM (by assumption) | exact rw_A hM (by assumption)) (Nat.le_of_ble_eq_true rfl) (c_become (d + 18) hM ro3 ho (by omega) hr) ?_
      -- at 42: stop
      refine st_ald rfl rfl ?_
      refine st_gR' rfl (by first | exact tT hM1 rfl | assumption | exact rw_T hM1 (by assumption) | exact rw_A hM1 (by assumption)) (by first | exact rR hM1 rfl rfl | assumption | exact rw_R hM1 (by assumption)) ?_
      refine st_ald rfl rfl ?_
      refine st_gR' rfl (by first | exact tT hM1 rfl | assumption | exact rw_T hM1 (by assumption) | exact rw_A hM1 (by assumption)) (by first | exact rR hM1 rfl rfl | assumption | exact rw_R hM1 (by assumption)) ?_
      refine st_ild rfl rfl ?_
      refine st_iald rfl (by first | exact tT hM1 rfl | assumption | exact rw_T hM1 (by assumption) | exact rw_A hM1 (by assumption)) (by first | decide | assumption | exact vp_in_nI (by omega) (by decide)) ?_
      -- at 52: stop
      refine wp_e (y := nI n) (by rw [e1, s1.i (by show ¬ (_ = _ ∨ _ = _); omega)]; exact hz.2) ?_
      refine st_pI rfl (by first | exact tT hM1 rfl | assumption | exact rw_T hM1 (by assumption) | exact rw_A hM1 (by assumption)) ?_
      refine st_ald rfl rfl ?_
      refine st_gR' rfl (by first | exact tT hM1 rfl | assumption | exact rw_T hM1 (by assumption) | exact rw_A hM1 (by assumption)) (by first | exact rR hM1 rfl rfl | assumption | exact rw_R hM1 (by assumption)) ?_
      refine st_gI rfl (by first | exact tT hM1 rfl | assumption | exact rw_T hM1 (by assumption) | exact rw_A hM1 (by assumption)) ?_
      -- at 62: op_iret
      refine st_iret rfl ⟨?_, rfl⟩
      rw [gI_ne (Or.inl (by decide)), gI_same, map_len]
    · have hM := h.1
      have hz := h.2.2.2.2.2.1 j hj
      rw [hx] at hz
      have q1 : gI M 150 j = nI l.length := hz.2.1
      have q2 : gI M 151 j = nI n := hz.2.2.1
      have loop : ∀ m i x M1, x = nI i → i + m = l.length → pm_ok M1 → gI M1 132 33 = nI l.length → gI M1 132 9 = nI n → (∀ t, t < i → gI M1 149 t = nI (l.getD t 0)) → (∀ k t, ¬ (k = 132 ∧ (t = 33 ∨ t = 9)) → ¬ (k = 149) → gI M1 k t = gI M k t) → (∀ k t, gL M1 k t = gL M k t) → pm_WP (pm_call (d + 19)) tb_211 (fun r M' => r = some (.int (nI l.length)) ∧ IM (sC' (sP' a l) (cf_sl (aC a) n)) M' ∧ Mfr M M') 47 [some (.ref 132), some (.int (nI j)), some (.int x)] [] M1 := by
        intro m
        induction m with
        | zero =>
          intro i x M1 hx hi hM1 h5 h6 hz2 hf hg
          subst hx
          refine st_ild rfl rfl ?_
          refine st_ald rfl rfl ?_
          refine st_gI rfl (by first | exact tT hM1 rfl | assumption | exact rw_T hM1 (by assumption) | exact rw_A hM1 (by assumption)) ?_
          -- at 52: stop
          refine wp_e h5 ?_
          refine st_b2 rfl (fun _ => ?_) (fun zq => absurd (nI_le (by omega) (by omega)) zq)
          refine st_ald rfl rfl ?_
          refine st_gI rfl (by first | exact tT hM1 rfl | assumption | exact rw_T hM1 (by assumption) | exact rw_A hM1 (by assumption)) ?_
          -- at 82: op_iret
          refine st_iret rfl ⟨by rw [h5], ?_, fun k hk t => ⟨hf k t (by omega) (by omega), hg k t⟩⟩
          have hc := h.2.2.2.1
          refine h.chg (X := fun k t => (k = 132 ∧ (t = 33 ∨ t = 9)) ∨ k = 149) hM1 (fun k t _ z => hf k t (fun w => z (Or.inl w)) (fun w => z (Or.inr w))) (fun q hq => Or.inl ⟨rfl, by omega, fun i hi => by omega⟩) (fun q hq => Or.inl ⟨rfl, by omega, fun i hi => by omega⟩) (Or.inr ⟨⟨h6, ?_, ?_, ?_, ?_⟩, fun k hk => ?_, fun i hi => ?_⟩) (Or.inr ⟨h5, fun t ht => hz2 t (by have ht : t < l.length := ht; omega)⟩) (fun k hk => Or.inl ⟨rfl, by omega, by omega, by omega, fun i hi => by omega⟩) ha.kl (Or.inl ⟨rfl, fun i => by omega⟩) (Or.inl ⟨rfl, by omega⟩) (Or.inl ⟨rfl, by omega⟩) ((hg _ _).trans h.2.2.2.2.2.2.2.2.2)
          · rw [hf 132 10 (by omega) (by omega)]; exact hc.1.2.1
          · rw [hf 132 11 (by omega) (by omega)]; exact hc.1.2.2.1
          · rw [hf 132 15 (by omega) (by omega)]; exact hc.1.2.2.2.1
          · rw [hf 132 17 (by omega) (by omega)]; exact hc.1.2.2.2.2
          · rw [hf 139 k (by omega) (by omega), hf 140 k (by omega) (by omega), hf 141 k (by omega) (by omega), hf 142 k (by omega) (by omega)]; exact hc.2.1 k hk
          · rw [hf 143 _ (by omega) (by omega), hf 143 _ (by omega) (by omega), hf 143 _ (by omega) (by omega)]; exact hc.2.2 i hi
        | succ m ih =>
          intro i x M1 hx hi hM1 h5 h6 hz2 hf hg
          subst hx
          have ex : 20 * nI j + nI i = nI (20 * j + i) := by show nI 20 * nI j + nI i = _; rw [pk_mul, nI_add]
          have hin2 : vp_in (20 * nI j + nI i) 60 := by rw [ex]; exact vp_in_nI (by omega) (by decide)
          have hin3 : vp_in (nI i) 20 := vp_in_nI (by omega) (by decide)
          have e3 : (20 * nI j + nI i).toNatClampNeg = 20 * j + i := by rw [ex]; exact nI_clamp (by omega)
          have e4 : (nI i).toNatClampNeg = i := nI_clamp (by omega)
          refine st_ild rfl rfl ?_
          refine st_ald rfl rfl ?_
          refine st_gI rfl (by first | exact tT hM1 rfl | assumption | exact rw_T hM1 (by assumption) | exact rw_A hM1 (by assumption)) ?_
          -- at 52: stop
          refine wp_e h5 ?_
          refine st_b2 rfl (fun zq => absurd zq (nI_ge (by omega) (by omega))) (fun _ => ?_)
          refine st_ald rfl rfl ?_
          refine st_gR' rfl (by first | exact tT hM1 rfl | assumption | exact rw_T hM1 (by assumption) | exact rw_A hM1 (by assumption)) (by first | exact rR hM1 rfl rfl | assumption | exact rw_R hM1 (by assumption)) ?_
          refine st_ild rfl rfl ?_
          refine st_ald rfl rfl ?_
          refine st_gR' rfl (by first | exact tT hM1 rfl | assumption | exact rw_T hM1 (by assumption) | exact rw_A hM1 (by assumption)) (by first | exact rR hM1 rfl rfl | assumption | exact rw_R hM1 (by assumption)) ?_
          refine st_k rfl ?_
          refine st_ild rfl rfl ?_
          refine st_ib rfl ?_
          refine st_ild rfl rfl ?_
          refine st_ib rfl ?_
          refine st_iald rfl (by first | exact tT hM1 rfl | assumption | exact rw_T hM1 (by assumption) | exact rw_A hM1 (by assumption)) (by first | decide | assumption | exact vp_in_nI (by omega) (by decide)) ?_
          -- at 71: stop
          refine wp_e (y := nI (l.getD i 0)) (by rw [e3, hf 152 _ (by omega) (by omega)]; exact hz.2.2.2 i (by omega)) ?_
          refine st_iast rfl (by first | exact tT hM1 rfl | assumption | exact rw_T hM1 (by assumption) | exact rw_A hM1 (by assumption)) (by first | decide | assumption | exact vp_in_nI (by omega) (by decide)) ?_
          refine st_inc rfl rfl ?_
          refine st_go rfl ?_
          -- at 47: stop
          rw [e4]
          refine ih (i + 1) _ _ (nI_1 i) (by omega) hM1 (by rw [gI_ne (Or.inl (by decide))]; exact h5) (by rw [gI_ne (Or.inl (by decide))]; exact h6) (fun t ht => ?_) (fun k t z1 z2 => ?_) hg
          · by_cases z : t = i
            · subst z; exact gI_same _ _ _ _
            · rw [gI_ne (Or.inr (by omega))]; exact hz2 t (by omega)
          · rw [gI_ne (Or.inl z2)]
            exact hf k t z1 z2
      obtain ⟨r, M', hc, hr', h5, h6⟩ := eq_211 (d := d + 19) (A := [.ref 132, .int (nI j)]) (M := M) (Q := fun r M' => r = some (.int (nI l.length)) ∧ IM (sC' (sP' a l) (cf_sl (aC a) n)) M' ∧ Mfr M M') (Nat.le_of_ble_eq_true rfl) (by
        refine st_ild rfl rfl ?_
        refine st_k rfl ?_
        refine st_k rfl ?_
        refine st_call (As := [_, _, _]) rfl rfl rfl (Nat.le_of_ble_eq_true rfl) (m_in (d + 18) _ 0 2) ?_
        refine st_b1 rfl (fun _ => ?_) (fun zq => absurd (b01_t h2) zq)
        refine st_ald rfl rfl ?_
        refine st_ild rfl rfl ?_
        refine st_cav (As := [_]) rfl rfl rfl (by first | exact tT hM rfl | assumption | exact rw_T hM (by assumption) | exact rw_A hM (by assumption)) (Nat.le_of_ble_eq_true rfl) (m_isThere (d + 18) hM hj (x := some (l, n)) hz (fun l' n' q => by cases q; exact w2)) ?_
        refine st_b1 rfl (fun _ => ?_) (fun zq => absurd (b01_t rfl) zq)
        refine st_ald rfl rfl ?_
        refine st_ald rfl rfl ?_
        refine st_gR' rfl (by first | exact tT hM rfl | assumption | exact rw_T hM (by assumption) | exact rw_A hM (by assumption)) (by first | exact rR hM rfl rfl | assumption | exact rw_R hM (by assumption)) ?_
        refine st_ild rfl rfl ?_
        refine st_iald rfl (by first | exact tT hM rfl | assumption | exact rw_T hM (by assumption) | exact rw_A hM (by assumption)) (by first | decide | assumption | exact vp_in_nI (by omega) (by decide)) ?_
        -- at 32: stop
        refine wp_e (y := nI l.length) (by rw [e1]; exact q1) ?_
        refine st_pI rfl (by first | exact tT hM rfl | assumption | exact rw_T hM (by assumption) | exact rw_A hM (by assumption)) ?_
        refine st_ald rfl rfl ?_
        refine st_ald rfl rfl ?_
        refine st_gR' rfl (by first | exact tT hM rfl | assumption | exact rw_T hM (by assumption) | exact rw_A hM (by assumption)) (by first | exact rR hM rfl rfl | assumption | exact rw_R hM (by assumption)) ?_
        refine st_ild rfl rfl ?_
        refine st_iald rfl (by first | exact tT hM rfl | assumption | exact rw_T hM (by assumption) | exact rw_A hM (by assumption)) (by first | decide | assumption | exact vp_in_nI (by omega) (by decide)) ?_
        -- at 42: stop
        refine wp_e (y := nI n) (by rw [e1, gI_ne (Or.inl (by decide))]; exact q2) ?_
        refine st_pI rfl (by first | exact tT hM rfl | assumption | exact rw_T hM (by assumption) | exact rw_A hM (by assumption)) ?_
        refine st_k rfl ?_
        refine st_ist rfl ?_
        -- at 47: stop
        exact loop l.length 0 0 _ rfl (by omega) hM (by rw [gI_ne (Or.inr (by decide)), gI_same]) (gI_same _ _ _ _) (fun t ht => by omega) (fun k t z1 z2 => by rw [gI_ne (by omega), gI_ne (by omega)]) (fun _ _ => rfl))
      subst hr'
      exact ⟨M', hc, h5, h6⟩
/-! text -/
theorem c_isText (d : Nat) (r : Int32) : pm_call (d + 1) 138 [.int r] M (some (.int (if ¬ r < 0 ∧ ¬ 4 ≤ r then 1 else 0))) M := by
  refine en_138 (Nat.le_of_ble_eq_true rfl) ?_
  refine st_ild rfl rfl ?_
  refine st_b1 rfl (fun h1 => ?_) (fun h1 => ?_)
  -- at 1: split 13 4
  · refine st_k rfl ?_
    -- at 14: op_zret
    exact st_zret rfl (by decide) ⟨by rw [if_neg (fun q => q.1 h1)], rfl⟩
  · refine st_ild rfl rfl ?_
    refine st_k rfl ?_
    refine st_b2 rfl (fun h2 => ?_) (fun h2 => ?_)
    -- at 6: split 13 9
    · refine st_k rfl ?_
      -- at 14: op_zret
      exact st_zret rfl (by decide) ⟨by rw [if_neg (fun q => q.2 h2)], rfl⟩
    · refine st_k rfl ?_
      refine st_go rfl ?_
      -- at 14: op_zret
      exact st_zret rfl (by decide) ⟨by rw [if_pos ⟨h1, h2⟩], rfl⟩
theorem c_fillB (d : Nat) {k n : Nat} {v : Int32} (hv : v.toInt8.toInt32 = v) (hk : M.1[k]? = some (102, n)) (hn : n < 2 ^ 31) : pm_call (d + 1) 270 [.ref k, .int v] M none (pm_fl M k v n) := by
  refine en_270 (Nat.le_of_ble_eq_true rfl) ?_
  have loop : ∀ m i x, x = nI i → i + m = n → pm_WP (pm_call d) tb_270 (fun r0 M1 => r0 = none ∧ M1 = pm_fl M k v n) 5 [some (.ref k), some (.int v), some (.int x), some (.int (nI n))] [] (pm_fl M k v i) := by
    intro m
    induction m with
    | zero =>
      intro i x hx hi
      subst hx
      have q : nI n ≤ nI i := nI_le (by omega) (by omega)
      refine st_ild rfl rfl ?_
      refine st_ild rfl rfl ?_
      refine st_b2 rfl (fun _ => ?_) (fun zq => absurd (q) zq)
      -- at 20: op_vret
      exact st_vret rfl ⟨rfl, by rw [show i = n by omega]⟩
    | succ m ih =>
      intro i x hx hi
      subst hx
      have q : ¬ nI n ≤ nI i := nI_ge (by omega) (by omega)
      have hin : vp_in (nI i) n := vp_in_nI (by omega) hn
      refine st_ild rfl rfl ?_
      refine st_ild rfl rfl ?_
      refine st_b2 rfl (fun zq => absurd zq (q)) (fun _ => ?_)
      refine st_ald rfl rfl ?_
      refine st_ild rfl rfl ?_
      refine st_ild rfl rfl ?_
      refine st_bast rfl (hk) (hin) ?_
      refine st_inc rfl rfl ?_
      refine st_go rfl ?_
      -- at 5: stop
      rw [nI_clamp (by omega), hv, fl_s]
      exact ih (i + 1) _ (nI_1 i) (by omega)
  refine st_k rfl ?_
  refine st_ist rfl ?_
  refine st_ald rfl rfl ?_
  refine st_alen rfl hk (by decide) (by decide) ?_
  refine st_ist rfl ?_
  -- at 5: stop
  have := loop n 0 0 rfl (by omega)
  rw [fl_0] at this
  exact this
theorem n80_cs (n : Int32) : n < 0 ∨ 80 < n ∨ ∃ m : Nat, m ≤ 80 ∧ n = nI m ∧ ¬ nI m < 0 ∧ nI m ≤ 80 := by
  rcases pk_ix n (n := 81) (by decide) with h | h | ⟨j, hj, h⟩
  · exact Or.inl h
  · have h' : (81 : Int32) ≤ n := h
    exact Or.inr (Or.inl (Int32.lt_of_lt_of_le (by decide) h'))
  · exact Or.inr (Or.inr ⟨j, by omega, h, nI_pos (by omega), nI_le (a := j) (b := 80) (by omega) (by decide)⟩)
theorem IC.txt {S : Nat → Prop} {M' : pm_M} {t : Nat} {x : Option (List Int32)} (h : IC a M) (ht : t < 4) (hs : pm_S S M M') (hn : ∀ k, S k → k = 118 + 2 * t ∨ k = 118 + 2 * t + 1) (hx : CTxt M' (118 + 2 * t) x) : IC (sT' a t x) M' := by
  have e : ∀ k, ¬ (k = 118 + 2 * t ∨ k = 118 + 2 * t + 1) → ¬ S k := fun k hk z => hk (hn k z)
  refine h.chg hs (fun j hj => Or.inl ⟨rfl, e _ (by omega), e _ (by omega)⟩) (fun j hj => ?_) (Or.inl ⟨rfl, fun k _ _ => e _ (by omega)⟩) (Or.inl ⟨rfl, e _ (by omega), e _ (by omega)⟩) (fun k hk => Or.inl ⟨rfl, e _ (by omega), e _ (by omega), hs.i (e _ (by omega)) _⟩) (Or.inl ⟨rfl, e _ (by omega), e _ (by omega)⟩) (Or.inl ⟨rfl, e _ (by omega)⟩) (Or.inl ⟨rfl, rfl, rfl, e _ (by omega)⟩) (e _ (by omega))
  by_cases q : j = t
  · refine Or.inr ?_
    show CTxt _ _ (if j = t then _ else _)
    rw [if_pos q]
    subst q
    exact hx
  · exact Or.inl ⟨if_neg q, e _ (by omega), e _ (by omega)⟩
theorem IM.txt {M' : pm_M} {t : Nat} {x : Option (List Int32)} (h : IM a M) (ha : aw a) (ht : t < 4) (ho : pm_ok M') (hf : ∀ k i, ¬ (k = 137 ∧ i = t) → ¬ (k = 138 ∧ 80 * t ≤ i ∧ i < 80 * t + 80) → gI M' k i = gI M k i) (hg : gL M' 132 3 = gL M 132 3) (hx : MTxt M' t x) : IM (sT' a t x) M' := by
  refine h.chg (X := fun k i => (k = 137 ∧ i = t) ∨ (k = 138 ∧ 80 * t ≤ i ∧ i < 80 * t + 80)) ho (fun k i _ z => hf k i (fun w => z (Or.inl w)) (fun w => z (Or.inr w))) (fun q hq => Or.inl ⟨rfl, by omega, fun i hi => by omega⟩) (fun j hj => ?_) (Or.inl ⟨rfl, fun k i hk => by omega⟩) (Or.inl ⟨rfl, by omega, fun i => by omega⟩) (fun k hk => Or.inl ⟨rfl, by omega, by omega, by omega, fun i hi => by omega⟩) ha.kl (Or.inl ⟨rfl, fun i => by omega⟩) (Or.inl ⟨rfl, by omega⟩) (Or.inl ⟨rfl, by omega⟩) (hg.trans h.2.2.2.2.2.2.2.2.2)
  by_cases q : j = t
  · refine Or.inr ?_
    show MTxt _ _ (if j = t then _ else _)
    rw [if_pos q]
    subst q
    exact hx
  · exact Or.inl ⟨if_neg q, by omega, fun i hi => by omega⟩
theorem aw.txt (ha : aw a) (t : Nat) {x : Option (List Int32)} (hx : ∀ l, x = some l → l.length ≤ 80) : aw (sT' a t x) := by
  refine ⟨ha.1, ha.2.1, ha.2.2.1, ha.2.2.2.1, fun s l hs hl => ?_⟩
  have hl : (if s = t then x else aT a s) = some l := hl
  by_cases q : s = t
  · rw [if_pos q] at hl; exact hx l hl
  · rw [if_neg q] at hl; exact ha.2.2.2.2 s l hs hl
theorem b_text (ha : aw a) (r n : Int32) : Both a 96 169 [.int r, .int n] := by
  rcases t4_cs r with ⟨h1, h2⟩ | ⟨j, hj, hr, h1, h2⟩
  · refine bo_k (x := .int (-1)) ha (fun d M h => ?_) (fun d M h => ?_)
    · refine en_96 (Nat.le_of_ble_eq_true rfl) ?_
      refine st_ild rfl rfl ?_
      refine st_call (As := [_]) rfl rfl rfl (Nat.le_of_ble_eq_true rfl) (c_isText (d + 18) r) ?_
      refine st_b1 rfl (fun _ => ?_) (fun zq => absurd (b01_f h1) zq)
      refine st_k rfl ?_
      -- at 14: op_iret
      exact st_iret rfl ⟨rfl, rfl⟩
    · refine en_169 (Nat.le_of_ble_eq_true rfl) ?_
      refine st_ild rfl rfl ?_
      refine st_call (As := [_]) rfl rfl rfl (Nat.le_of_ble_eq_true rfl) (m_isText (d + 17) r) ?_
      refine st_b1 rfl (fun _ => ?_) (fun zq => absurd (b01_f h2) zq)
      refine st_k rfl ?_
      -- at 14: op_iret
      exact st_iret rfl ⟨rfl, rfl⟩
  rcases n80_cs n with hn | hn | ⟨m, hm, hn, g1, g2⟩
  · have hle : n ≤ 80 := Int32.le_of_lt (Int32.lt_of_lt_of_le hn (by decide))
    have hn0 : ¬ 0 ≤ n := Int32.not_le.mpr hn
    refine bo_f ha (f := 5) (by decide) (fun d M h => ?_) (fun d M h => ?_)
    · refine en_96 (Nat.le_of_ble_eq_true rfl) ?_
      have hM := h.1
      refine st_ild rfl rfl ?_
      refine st_call (As := [_]) rfl rfl rfl (Nat.le_of_ble_eq_true rfl) (c_isText (d + 18) r) ?_
      refine st_b1 rfl (fun zq => absurd zq (b01_t h1)) (fun _ => ?_)
      refine st_ild rfl rfl ?_
      refine st_k rfl ?_
      refine st_b2 rfl (fun _ => ?_) (fun zq => absurd (hle) zq)
      refine st_ild rfl rfl ?_
      refine st_b1 rfl (fun zq => absurd zq (hn0)) (fun _ => ?_)
      refine st_ald rfl rfl ?_
      refine st_k rfl ?_
      refine st_cav (As := [_]) rfl rfl rfl (by first | exact tT hM rfl | assumption | exact rw_T hM (by assumption) | exact rw_A hM (by assumption)) (Nat.le_of_ble_eq_true rfl) (c_refuse (d + 18) h.1 (f := 5) (by decide)) ?_
      -- at 24: op_iret
      exact st_iret rfl ⟨rfl, rfl⟩
    · refine en_169 (Nat.le_of_ble_eq_true rfl) ?_
      have hM := h.1
      refine st_ild rfl rfl ?_
      refine st_call (As := [_]) rfl rfl rfl (Nat.le_of_ble_eq_true rfl) (m_isText (d + 17) r) ?_
      refine st_b1 rfl (fun zq => absurd zq (b01_t h2)) (fun _ => ?_)
      refine st_ild rfl rfl ?_
      refine st_k rfl ?_
      refine st_b2 rfl (fun _ => ?_) (fun zq => absurd (hle) zq)
      refine st_ild rfl rfl ?_
      refine st_b1 rfl (fun zq => absurd zq (hn0)) (fun _ => ?_)
      refine st_ald rfl rfl ?_
      refine st_k rfl ?_
      refine st_cav (As := [_]) rfl rfl rfl (by first | exact tT hM rfl | assumption | exact rw_T hM (by assumption) | exact rw_A hM (by assumption)) (Nat.le_of_ble_eq_true rfl) (m_meets (d + 18) h.1 (f := 5) (by decide)) ?_
      -- at 24: op_iret
      exact st_iret rfl ⟨rfl, rfl⟩
  · have hle : ¬ n ≤ 80 := Int32.not_le.mpr hn
    refine bo_k (x := .int (-1)) ha (fun d M h => ?_) (fun d M h => ?_)
    · refine en_96 (Nat.le_of_ble_eq_true rfl) ?_
      refine st_ild rfl rfl ?_
      refine st_call (As := [_]) rfl rfl rfl (Nat.le_of_ble_eq_true rfl) (c_isText (d + 18) r) ?_
      refine st_b1 rfl (fun zq => absurd zq (b01_t h1)) (fun _ => ?_)
      refine st_ild rfl rfl ?_
      refine st_k rfl ?_
      refine st_b2 rfl (fun zq => absurd zq (hle)) (fun _ => ?_)
      refine st_k rfl ?_
      -- at 14: op_iret
      exact st_iret rfl ⟨rfl, rfl⟩
    · refine en_169 (Nat.le_of_ble_eq_true rfl) ?_
      refine st_ild rfl rfl ?_
      refine st_call (As := [_]) rfl rfl rfl (Nat.le_of_ble_eq_true rfl) (m_isText (d + 17) r) ?_
      refine st_b1 rfl (fun zq => absurd zq (b01_t h2)) (fun _ => ?_)
      refine st_ild rfl rfl ?_
      refine st_k rfl ?_
      refine st_b2 rfl (fun zq => absurd zq (hle)) (fun _ => ?_)
      refine st_k rfl ?_
      -- at 14: op_iret
      exact st_iret rfl ⟨rfl, rfl⟩
  subst hr; subst hn
  have hin : vp_in (nI j) 4 := vp_in_nI hj (by decide)
  have e1 : (nI j).toNatClampNeg = j := nI_clamp (by omega)
  have gD : ∀ i, i < m → (List.replicate m (32 : Int32)).getD i 0 = 32 := fun i hi => by simp [List.getD_eq_getElem?_getD, List.getElem?_replicate, hi]
  refine ⟨.int (nI m), sT' a j (some (List.replicate m 32)), ha.txt j (fun l q => by cases q; simp; omega), fun d M h => ?_, fun d M h => ?_⟩
  · have hM := h.1
    have s1 : pm_S (pm_oo (118 + 2 * j)) M (sI (pm_fl M (118 + 2 * j + 1) 32 80) (118 + 2 * j) 1 (nI m)) := (s_fl pm_S.rf (Or.inr rfl) _ _).sI (Or.inl rfl) _ _
    refine ⟨sI (pm_fl M (118 + 2 * j + 1) 32 80) (118 + 2 * j) 1 (nI m), en_96 (Nat.le_of_ble_eq_true rfl) ?_, h.txt hj s1 (fun k hk => hk) ⟨by rw [gI_same, List.length_replicate], by simp; omega, fun i hi => ?_⟩, Cfr.S s1 (fun k hk => by rcases hk with z | z <;> omega)⟩
    · refine st_ild rfl rfl ?_
      refine st_call (As := [_]) rfl rfl rfl (Nat.le_of_ble_eq_true rfl) (c_isText (d + 18) _) ?_
      refine st_b1 rfl (fun zq => absurd zq (b01_t h1)) (fun _ => ?_)
      refine st_ild rfl rfl ?_
      refine st_k rfl ?_
      refine st_b2 rfl (fun _ => ?_) (fun zq => absurd (g2) zq)
      refine st_ild rfl rfl ?_
      refine st_b1 rfl (fun _ => ?_) (fun zq => absurd (nlt0 g1) zq)
      refine st_ald rfl rfl ?_
      refine st_gR' rfl (by first | exact tT hM rfl | assumption | exact rw_T hM (by assumption) | exact rw_A hM (by assumption)) (by first | exact rR hM rfl rfl | assumption | exact rw_R hM (by assumption)) ?_
      refine st_ild rfl rfl ?_
      refine st_aald' rfl (by first | exact tT hM rfl | assumption | exact rw_T hM (by assumption) | exact rw_A hM (by assumption)) (by first | decide | assumption | exact vp_in_nI (by omega) (by decide)) (by first | assumption | exact rRow' hM (by assumption) | exact rTxt' hM (by assumption) | exact rKep' hM (by assumption) | exact rRdg' hM (by assumption)) ?_
      refine st_gR' rfl (tTxt hM hj) (rTxtA hM hj) ?_
      refine st_k rfl ?_
      refine st_call (As := [_, _]) rfl rfl rfl (Nat.le_of_ble_eq_true rfl) (c_fillB (d + 18) (by decide) (tTxtA hM hj) (by decide)) ?_
      refine st_ald rfl rfl ?_
      refine st_gR' rfl (by first | exact tT hM rfl | assumption | exact rw_T hM (by assumption) | exact rw_A hM (by assumption)) (by first | exact rR hM rfl rfl | assumption | exact rw_R hM (by assumption)) ?_
      refine st_ild rfl rfl ?_
      refine st_aald' rfl (by first | exact tT hM rfl | assumption | exact rw_T hM (by assumption) | exact rw_A hM (by assumption)) (by first | decide | assumption | exact vp_in_nI (by omega) (by decide)) (by first | assumption | exact rRow' hM (by assumption) | exact rTxt' hM (by assumption) | exact rKep' hM (by assumption) | exact rRdg' hM (by assumption)) ?_
      refine st_ild rfl rfl ?_
      refine st_pI rfl (tTxt hM hj) ?_
      refine st_ild rfl rfl ?_
      -- at 50: op_iret
      exact st_iret rfl ⟨rfl, rfl⟩
    · rw [List.length_replicate] at hi
      rw [gI_ne (Or.inl (by omega)), gI_fl, if_pos ⟨rfl, by omega⟩, gD i hi]
  · have hM := h.1
    have loop : ∀ n i x M1, x = nI i → i + n = 80 → pm_ok M1 → gI M1 137 j = nI m → (∀ t, t < i → gI M1 138 (80 * j + t) = 32) → (∀ k t, ¬ (k = 137 ∧ t = j) → ¬ (k = 138 ∧ 80 * j ≤ t ∧ t < 80 * j + 80) → gI M1 k t = gI M k t) → (∀ k t, gL M1 k t = gL M k t) → pm_WP (pm_call (d + 19)) tb_169 (fun r M' => r = some (.int (nI m)) ∧ IM (sT' a j (some (List.replicate m 32))) M' ∧ Mfr M M') 34 [some (.ref 132), some (.int (nI j)), some (.int (nI m)), some (.int x)] [] M1 := by
      intro n
      induction n with
      | zero =>
        intro i x M1 hx hi hM1 hs hz hf hg
        subst hx
        have q : (80 : Int32) ≤ nI i := nI_le (a := 80) (b := i) (by omega) (by omega)
        refine st_ild rfl rfl ?_
        refine st_k rfl ?_
        refine st_b2 rfl (fun _ => ?_) (fun zq => absurd (q) zq)
        refine st_ild rfl rfl ?_
        -- at 60: op_iret
        refine st_iret rfl ⟨rfl, h.txt ha hj hM1 hf (hg _ _) ⟨by rw [hs, List.length_replicate], by simp; omega, fun t ht => ?_⟩, fun k hk t => ⟨hf k t (by omega) (by omega), hg k t⟩⟩
        rw [List.length_replicate] at ht
        rw [hz t (by omega), gD t ht]
      | succ n ih =>
        intro i x M1 hx hi hM1 hs hz hf hg
        subst hx
        have q : ¬ (80 : Int32) ≤ nI i := nI_ge (a := i) (b := 80) (by omega) (by decide)
        have e : 80 * nI j + nI i = nI (80 * j + i) := by show nI 80 * nI j + nI i = _; rw [pk_mul, nI_add]
        have hin2 : vp_in (80 * nI j + nI i) 320 := by rw [e]; exact vp_in_nI (by omega) (by decide)
        have e3 : (80 * nI j + nI i).toNatClampNeg = 80 * j + i := by rw [e]; exact nI_clamp (by omega)
        refine st_ild rfl rfl ?_
        refine st_k rfl ?_
        refine st_b2 rfl (fun zq => absurd zq (q)) (fun _ => ?_)
        refine st_ald rfl rfl ?_
        refine st_gR' rfl (by first | exact tT hM1 rfl | assumption | exact rw_T hM1 (by assumption) | exact rw_A hM1 (by assumption)) (by first | exact rR hM1 rfl rfl | assumption | exact rw_R hM1 (by assumption)) ?_
        refine st_k rfl ?_
        refine st_ild rfl rfl ?_
        refine st_ib rfl ?_
        refine st_ild rfl rfl ?_
        refine st_ib rfl ?_
        refine st_k rfl ?_
        refine st_bast rfl (by first | exact tT hM1 rfl | assumption | exact rw_T hM1 (by assumption) | exact rw_A hM1 (by assumption)) (by first | decide | assumption | exact vp_in_nI (by omega) (by decide)) ?_
        refine st_inc rfl rfl ?_
        refine st_go rfl ?_
        -- at 34: stop
        rw [e3]
        refine ih (i + 1) _ _ (nI_1 i) (by omega) hM1 (by rw [gI_ne (Or.inl (by decide))]; exact hs) (fun t ht => ?_) (fun k t z1 z2 => ?_) hg
        · by_cases z : t = i
          · subst z; exact gI_same _ _ _ _
          · rw [gI_ne (Or.inr (by omega))]; exact hz t (by omega)
        · rw [gI_nn (by omega)]
          exact hf k t z1 z2
    obtain ⟨r, M', hc, hr, h5, h6⟩ := eq_169 (d := d + 19) (A := [.ref 132, .int (nI j), .int (nI m)]) (M := M) (Q := fun r M' => r = some (.int (nI m)) ∧ IM (sT' a j (some (List.replicate m 32))) M' ∧ Mfr M M') (Nat.le_of_ble_eq_true rfl) (by
      refine st_ild rfl rfl ?_
      refine st_call (As := [_]) rfl rfl rfl (Nat.le_of_ble_eq_true rfl) (m_isText (d + 17) _) ?_
      refine st_b1 rfl (fun zq => absurd zq (b01_t h2)) (fun _ => ?_)
      refine st_ild rfl rfl ?_
      refine st_k rfl ?_
      refine st_b2 rfl (fun _ => ?_) (fun zq => absurd (g2) zq)
      refine st_ild rfl rfl ?_
      refine st_b1 rfl (fun _ => ?_) (fun zq => absurd (nlt0 g1) zq)
      refine st_ald rfl rfl ?_
      refine st_gR' rfl (by first | exact tT hM rfl | assumption | exact rw_T hM (by assumption) | exact rw_A hM (by assumption)) (by first | exact rR hM rfl rfl | assumption | exact rw_R hM (by assumption)) ?_
      refine st_ild rfl rfl ?_
      refine st_ild rfl rfl ?_
      refine st_iast rfl (by first | exact tT hM rfl | assumption | exact rw_T hM (by assumption) | exact rw_A hM (by assumption)) (by first | decide | assumption | exact vp_in_nI (by omega) (by decide)) ?_
      refine st_k rfl ?_
      refine st_ist rfl ?_
      -- at 34: stop
      rw [e1]
      exact loop 80 0 0 _ rfl (by omega) hM (gI_same _ _ _ _) (fun t ht => by omega) (fun k t z1 z2 => gI_nn z1) (fun _ _ => rfl))
    subst hr
    exact ⟨M', hc, h5, h6⟩
/-! put -/
theorem b_put (ha : aw a) (r i v : Int32) : Both a 97 170 [.int r, .int i, .int v] := by
  rcases t4_cs r with ⟨h1, h2⟩ | ⟨j, hj, hr, h1, h2⟩
  · refine bo_k (x := .int (-1)) ha (fun d M h => ?_) (fun d M h => ?_)
    · refine en_97 (Nat.le_of_ble_eq_true rfl) ?_
      refine st_ild rfl rfl ?_
      refine st_call (As := [_]) rfl rfl rfl (Nat.le_of_ble_eq_true rfl) (c_isText (d + 18) r) ?_
      refine st_b1 rfl (fun zq => absurd zq ((fun z => z (b01_f h1)))) (fun _ => ?_)
      refine st_k rfl ?_
      -- at 8: op_iret
      exact st_iret rfl ⟨rfl, rfl⟩
    · refine en_170 (Nat.le_of_ble_eq_true rfl) ?_
      refine st_ild rfl rfl ?_
      refine st_call (As := [_]) rfl rfl rfl (Nat.le_of_ble_eq_true rfl) (m_isText (d + 17) r) ?_
      refine st_b1 rfl (fun zq => absurd zq ((fun z => z (b01_f h2)))) (fun _ => ?_)
      refine st_k rfl ?_
      -- at 8: op_iret
      exact st_iret rfl ⟨rfl, rfl⟩
  have hin : vp_in (nI j) 4 := vp_in_nI hj (by decide)
  have e1 : (nI j).toNatClampNeg = j := nI_clamp (by omega)
  subst hr
  cases hx : aT a j with
  | none =>
    refine bo_f ha (f := 1) (by decide) (fun d M h => ?_) (fun d M h => ?_)
    · refine en_97 (Nat.le_of_ble_eq_true rfl) ?_
      have hM := h.1
      have hz := h.2.2.1 j hj
      rw [hx] at hz
      refine st_ild rfl rfl ?_
      refine st_call (As := [_]) rfl rfl rfl (Nat.le_of_ble_eq_true rfl) (c_isText (d + 18) _) ?_
      refine st_b1 rfl (fun _ => ?_) (fun zq => absurd (b01_t h1) zq)
      refine st_ald rfl rfl ?_
      refine st_ald rfl rfl ?_
      refine st_gR' rfl (by first | exact tT hM rfl | assumption | exact rw_T hM (by assumption) | exact rw_A hM (by assumption)) (by first | exact rR hM rfl rfl | assumption | exact rw_R hM (by assumption)) ?_
      refine st_ild rfl rfl ?_
      refine st_aald' rfl (by first | exact tT hM rfl | assumption | exact rw_T hM (by assumption) | exact rw_A hM (by assumption)) (by first | decide | assumption | exact vp_in_nI (by omega) (by decide)) (by first | assumption | exact rRow' hM (by assumption) | exact rTxt' hM (by assumption) | exact rKep' hM (by assumption) | exact rRdg' hM (by assumption)) ?_
      refine st_gI rfl (tTxt hM hj) ?_
      -- at 19: stop
      refine wp_e (y := -1) hz ?_
      refine st_ild rfl rfl ?_
      refine st_cav (As := [_, _]) rfl rfl rfl (by first | exact tT hM rfl | assumption | exact rw_T hM (by assumption) | exact rw_A hM (by assumption)) (Nat.le_of_ble_eq_true rfl) ((c_refusalOfPlace (d + 17) hM (-1) i).1 m1lt) ?_
      refine st_ist rfl ?_
      refine st_ild rfl rfl ?_
      refine st_b1 rfl (fun zq => absurd zq ((by decide))) (fun _ => ?_)
      refine st_ild rfl rfl ?_
      -- at 32: op_iret
      exact st_iret rfl ⟨rfl, rfl⟩
    · refine en_170 (Nat.le_of_ble_eq_true rfl) ?_
      have hM := h.1
      have hz := h.2.2.1 j hj
      rw [hx] at hz
      refine st_ild rfl rfl ?_
      refine st_call (As := [_]) rfl rfl rfl (Nat.le_of_ble_eq_true rfl) (m_isText (d + 17) _) ?_
      refine st_b1 rfl (fun _ => ?_) (fun zq => absurd (b01_t h2) zq)
      refine st_ald rfl rfl ?_
      refine st_gR' rfl (by first | exact tT hM rfl | assumption | exact rw_T hM (by assumption) | exact rw_A hM (by assumption)) (by first | exact rR hM rfl rfl | assumption | exact rw_R hM (by assumption)) ?_
      refine st_ild rfl rfl ?_
      refine st_iald rfl (by first | exact tT hM rfl | assumption | exact rw_T hM (by assumption) | exact rw_A hM (by assumption)) (by first | decide | assumption | exact vp_in_nI (by omega) (by decide)) ?_
      -- at 15: stop
      refine wp_e (y := -1) (by rw [e1]; exact hz) ?_
      refine st_b1 rfl (fun zq => absurd zq ((by decide))) (fun _ => ?_)
      refine st_ald rfl rfl ?_
      refine st_k rfl ?_
      refine st_cav (As := [_]) rfl rfl rfl (by first | exact tT hM rfl | assumption | exact rw_T hM (by assumption) | exact rw_A hM (by assumption)) (Nat.le_of_ble_eq_true rfl) (m_meets (d + 18) hM (f := 1) (by decide)) ?_
      -- at 23: op_iret
      exact st_iret rfl ⟨rfl, rfl⟩
  | some l =>
    have hl80 : l.length ≤ 80 := ha.2.2.2.2 j l hj hx
    rcases i_cs i hl80 with ⟨g1, g2⟩ | ⟨t, ht, hi, g1, g2⟩
    · refine bo_f ha (f := 2) (by decide) (fun d M h => ?_) (fun d M h => ?_)
      · refine en_97 (Nat.le_of_ble_eq_true rfl) ?_
        have hM := h.1
        have hz := h.2.2.1 j hj
        rw [hx] at hz
        refine st_ild rfl rfl ?_
        refine st_call (As := [_]) rfl rfl rfl (Nat.le_of_ble_eq_true rfl) (c_isText (d + 18) _) ?_
        refine st_b1 rfl (fun _ => ?_) (fun zq => absurd (b01_t h1) zq)
        refine st_ald rfl rfl ?_
        refine st_ald rfl rfl ?_
        refine st_gR' rfl (by first | exact tT hM rfl | assumption | exact rw_T hM (by assumption) | exact rw_A hM (by assumption)) (by first | exact rR hM rfl rfl | assumption | exact rw_R hM (by assumption)) ?_
        refine st_ild rfl rfl ?_
        refine st_aald' rfl (by first | exact tT hM rfl | assumption | exact rw_T hM (by assumption) | exact rw_A hM (by assumption)) (by first | decide | assumption | exact vp_in_nI (by omega) (by decide)) (by first | assumption | exact rRow' hM (by assumption) | exact rTxt' hM (by assumption) | exact rKep' hM (by assumption) | exact rRdg' hM (by assumption)) ?_
        refine st_gI rfl (tTxt hM hj) ?_
        -- at 19: stop
        refine wp_e (y := nI l.length) hz.1 ?_
        refine st_ild rfl rfl ?_
        refine st_cav (As := [_, _]) rfl rfl rfl (by first | exact tT hM rfl | assumption | exact rw_T hM (by assumption) | exact rw_A hM (by assumption)) (Nat.le_of_ble_eq_true rfl) ((c_refusalOfPlace (d + 17) hM _ i).2.1 (nI_pos (by omega)) g1) ?_
        refine st_ist rfl ?_
        refine st_ild rfl rfl ?_
        refine st_b1 rfl (fun zq => absurd zq ((by decide))) (fun _ => ?_)
        refine st_ild rfl rfl ?_
        -- at 32: op_iret
        exact st_iret rfl ⟨rfl, rfl⟩
      · refine en_170 (Nat.le_of_ble_eq_true rfl) ?_
        have hM := h.1
        have hz := h.2.2.1 j hj
        rw [hx] at hz
        have e2 : gI M 137 (nI j).toNatClampNeg = nI l.length := by rw [e1]; exact hz.1
        refine st_ild rfl rfl ?_
        refine st_call (As := [_]) rfl rfl rfl (Nat.le_of_ble_eq_true rfl) (m_isText (d + 17) _) ?_
        refine st_b1 rfl (fun _ => ?_) (fun zq => absurd (b01_t h2) zq)
        refine st_ald rfl rfl ?_
        refine st_gR' rfl (by first | exact tT hM rfl | assumption | exact rw_T hM (by assumption) | exact rw_A hM (by assumption)) (by first | exact rR hM rfl rfl | assumption | exact rw_R hM (by assumption)) ?_
        refine st_ild rfl rfl ?_
        refine st_iald rfl (by first | exact tT hM rfl | assumption | exact rw_T hM (by assumption) | exact rw_A hM (by assumption)) (by first | decide | assumption | exact vp_in_nI (by omega) (by decide)) ?_
        -- at 15: stop
        refine wp_e e2 ?_
        refine st_b1 rfl (fun _ => ?_) (fun zq => absurd (nI_pos' (by omega)) zq)
        refine st_ild rfl rfl ?_
        refine st_k rfl ?_
        refine st_ald rfl rfl ?_
        refine st_gR' rfl (by first | exact tT hM rfl | assumption | exact rw_T hM (by assumption) | exact rw_A hM (by assumption)) (by first | exact rR hM rfl rfl | assumption | exact rw_R hM (by assumption)) ?_
        refine st_ild rfl rfl ?_
        refine st_iald rfl (by first | exact tT hM rfl | assumption | exact rw_T hM (by assumption) | exact rw_A hM (by assumption)) (by first | decide | assumption | exact vp_in_nI (by omega) (by decide)) ?_
        -- at 32: stop
        refine wp_e e2 ?_
        refine st_k rfl ?_
        refine st_ib rfl ?_
        refine st_call (As := [_, _, _]) rfl rfl rfl (Nat.le_of_ble_eq_true rfl) (m_in (d + 18) i 0 _) ?_
        refine st_b1 rfl (fun zq => absurd zq ((fun z => z (b01_f g2)))) (fun _ => ?_)
        refine st_ald rfl rfl ?_
        refine st_k rfl ?_
        refine st_cav (As := [_]) rfl rfl rfl (by first | exact tT hM rfl | assumption | exact rw_T hM (by assumption) | exact rw_A hM (by assumption)) (Nat.le_of_ble_eq_true rfl) (m_meets (d + 18) hM (f := 2) (by decide)) ?_
        -- at 45: op_iret
        exact st_iret rfl ⟨rfl, rfl⟩
    · subst hi
      have e4 : (nI t).toNatClampNeg = t := nI_clamp (by omega)
      have hin2 : vp_in (nI t) 80 := vp_in_nI (by omega) (by decide)
      refine ⟨.int (l.getD t 0 + 1000), sT' a j (some (l.set t v.toInt8.toInt32)), ha.txt j (fun l' q => by cases q; rw [set_len]; exact hl80), fun d M h => ?_, fun d M h => ?_⟩
      · have hM := h.1
        have hz := h.2.2.1 j hj
        rw [hx] at hz
        have s1 : pm_S (pm_oo (118 + 2 * j)) M (sI M (118 + 2 * j + 1) t v.toInt8.toInt32) := pm_S.rf.sI (Or.inr rfl) _ _
        refine ⟨sI M (118 + 2 * j + 1) t v.toInt8.toInt32, en_97 (Nat.le_of_ble_eq_true rfl) ?_, h.txt hj s1 (fun k hk => hk) ⟨by rw [gI_ne (Or.inl (by omega)), set_len]; exact hz.1, by rw [set_len]; exact hl80, fun q hq => ?_⟩, Cfr.S s1 (fun k hk => by rcases hk with z | z <;> omega)⟩
        · refine st_ild rfl rfl ?_
          refine st_call (As := [_]) rfl rfl rfl (Nat.le_of_ble_eq_true rfl) (c_isText (d + 18) _) ?_
          refine st_b1 rfl (fun _ => ?_) (fun zq => absurd (b01_t h1) zq)
          refine st_ald rfl rfl ?_
          refine st_ald rfl rfl ?_
          refine st_gR' rfl (by first | exact tT hM rfl | assumption | exact rw_T hM (by assumption) | exact rw_A hM (by assumption)) (by first | exact rR hM rfl rfl | assumption | exact rw_R hM (by assumption)) ?_
          refine st_ild rfl rfl ?_
          refine st_aald' rfl (by first | exact tT hM rfl | assumption | exact rw_T hM (by assumption) | exact rw_A hM (by assumption)) (by first | decide | assumption | exact vp_in_nI (by omega) (by decide)) (by first | assumption | exact rRow' hM (by assumption) | exact rTxt' hM (by assumption) | exact rKep' hM (by assumption) | exact rRdg' hM (by assumption)) ?_
          refine st_gI rfl (tTxt hM hj) ?_
          -- at 19: stop
          refine wp_e (y := nI l.length) hz.1 ?_
          refine st_ild rfl rfl ?_
          refine st_cav (As := [_, _]) rfl rfl rfl (by first | exact tT hM rfl | assumption | exact rw_T hM (by assumption) | exact rw_A hM (by assumption)) (Nat.le_of_ble_eq_true rfl) ((c_refusalOfPlace (d + 17) hM _ _).2.2 (nI_pos (by omega)) g1) ?_
          refine st_ist rfl ?_
          refine st_ild rfl rfl ?_
          refine st_b1 rfl (fun _ => ?_) (fun zq => absurd (rfl) zq)
          refine st_ald rfl rfl ?_
          refine st_gR' rfl (by first | exact tT hM rfl | assumption | exact rw_T hM (by assumption) | exact rw_A hM (by assumption)) (by first | exact rR hM rfl rfl | assumption | exact rw_R hM (by assumption)) ?_
          refine st_ild rfl rfl ?_
          refine st_aald' rfl (by first | exact tT hM rfl | assumption | exact rw_T hM (by assumption) | exact rw_A hM (by assumption)) (by first | decide | assumption | exact vp_in_nI (by omega) (by decide)) (by first | assumption | exact rRow' hM (by assumption) | exact rTxt' hM (by assumption) | exact rKep' hM (by assumption) | exact rRdg' hM (by assumption)) ?_
          refine st_gR' rfl (tTxt hM hj) (rTxtA hM hj) ?_
          refine st_ild rfl rfl ?_
          refine st_bald rfl (tTxtA hM hj) (hin2) ?_
          -- at 44: stop
          refine wp_e (y := l.getD t 0) (by rw [e4]; exact hz.2.2 t ht) ?_
          refine st_ist rfl ?_
          refine st_ald rfl rfl ?_
          refine st_gR' rfl (by first | exact tT hM rfl | assumption | exact rw_T hM (by assumption) | exact rw_A hM (by assumption)) (by first | exact rR hM rfl rfl | assumption | exact rw_R hM (by assumption)) ?_
          refine st_ild rfl rfl ?_
          refine st_aald' rfl (by first | exact tT hM rfl | assumption | exact rw_T hM (by assumption) | exact rw_A hM (by assumption)) (by first | decide | assumption | exact vp_in_nI (by omega) (by decide)) (by first | assumption | exact rRow' hM (by assumption) | exact rTxt' hM (by assumption) | exact rKep' hM (by assumption) | exact rRdg' hM (by assumption)) ?_
          refine st_gR' rfl (tTxt hM hj) (rTxtA hM hj) ?_
          refine st_ild rfl rfl ?_
          refine st_ild rfl rfl ?_
          refine st_iu rfl ?_
          refine st_bast rfl (tTxtA hM hj) (hin2) ?_
          refine st_ild rfl rfl ?_
          refine st_k rfl ?_
          refine st_ib rfl ?_
          -- at 65: op_iret
          exact st_iret rfl ⟨rfl, by rw [e4]; simp⟩
        · rw [set_len] at hq
          rw [set_gd ht, gI_sI]
          by_cases e : q = t
          · rw [if_pos ⟨rfl, e⟩, if_pos e]
          · rw [if_neg (fun z => e z.2), if_neg e]
            exact hz.2.2 q hq
      · have hM := h.1
        have hz := h.2.2.1 j hj
        rw [hx] at hz
        have e2 : gI M 137 (nI j).toNatClampNeg = nI l.length := by rw [e1]; exact hz.1
        have e : 80 * nI j + nI t = nI (80 * j + t) := by show nI 80 * nI j + nI t = _; rw [pk_mul, nI_add]
        have hin3 : vp_in (80 * nI j + nI t) 320 := by rw [e]; exact vp_in_nI (by omega) (by decide)
        have e3 : (80 * nI j + nI t).toNatClampNeg = 80 * j + t := by rw [e]; exact nI_clamp (by omega)
        refine ⟨sI M 138 (80 * j + t) v.toInt8.toInt32, en_170 (Nat.le_of_ble_eq_true rfl) ?_, h.txt ha hj hM (fun k i _ z2 => gI_nn (by omega)) rfl ⟨by rw [gI_ne (Or.inl (by decide)), set_len]; exact hz.1, by rw [set_len]; exact hl80, fun q hq => ?_⟩, (Mfr.rf M).sI (by decide) _ _⟩
        · refine st_ild rfl rfl ?_
          refine st_call (As := [_]) rfl rfl rfl (Nat.le_of_ble_eq_true rfl) (m_isText (d + 17) _) ?_
          refine st_b1 rfl (fun _ => ?_) (fun zq => absurd (b01_t h2) zq)
          refine st_ald rfl rfl ?_
          refine st_gR' rfl (by first | exact tT hM rfl | assumption | exact rw_T hM (by assumption) | exact rw_A hM (by assumption)) (by first | exact rR hM rfl rfl | assumption | exact rw_R hM (by assumption)) ?_
          refine st_ild rfl rfl ?_
          refine st_iald rfl (by first | exact tT hM rfl | assumption | exact rw_T hM (by assumption) | exact rw_A hM (by assumption)) (by first | decide | assumption | exact vp_in_nI (by omega) (by decide)) ?_
          -- at 15: stop
          refine wp_e e2 ?_
          refine st_b1 rfl (fun _ => ?_) (fun zq => absurd (nI_pos' (by omega)) zq)
          refine st_ild rfl rfl ?_
          refine st_k rfl ?_
          refine st_ald rfl rfl ?_
          refine st_gR' rfl (by first | exact tT hM rfl | assumption | exact rw_T hM (by assumption) | exact rw_A hM (by assumption)) (by first | exact rR hM rfl rfl | assumption | exact rw_R hM (by assumption)) ?_
          refine st_ild rfl rfl ?_
          refine st_iald rfl (by first | exact tT hM rfl | assumption | exact rw_T hM (by assumption) | exact rw_A hM (by assumption)) (by first | decide | assumption | exact vp_in_nI (by omega) (by decide)) ?_
          -- at 32: stop
          refine wp_e e2 ?_
          refine st_k rfl ?_
          refine st_ib rfl ?_
          refine st_call (As := [_, _, _]) rfl rfl rfl (Nat.le_of_ble_eq_true rfl) (m_in (d + 18) _ 0 _) ?_
          refine st_b1 rfl (fun _ => ?_) (fun zq => absurd (b01_t g2) zq)
          refine st_ald rfl rfl ?_
          refine st_gR' rfl (by first | exact tT hM rfl | assumption | exact rw_T hM (by assumption) | exact rw_A hM (by assumption)) (by first | exact rR hM rfl rfl | assumption | exact rw_R hM (by assumption)) ?_
          refine st_k rfl ?_
          refine st_ild rfl rfl ?_
          refine st_ib rfl ?_
          refine st_ild rfl rfl ?_
          refine st_ib rfl ?_
          refine st_bald rfl (by first | exact tT hM rfl | assumption | exact rw_T hM (by assumption) | exact rw_A hM (by assumption)) (by first | decide | assumption | exact vp_in_nI (by omega) (by decide)) ?_
          -- at 57: stop
          refine wp_e (y := l.getD t 0) (by rw [e3]; exact hz.2.2 t ht) ?_
          refine st_ist rfl ?_
          refine st_ald rfl rfl ?_
          refine st_gR' rfl (by first | exact tT hM rfl | assumption | exact rw_T hM (by assumption) | exact rw_A hM (by assumption)) (by first | exact rR hM rfl rfl | assumption | exact rw_R hM (by assumption)) ?_
          refine st_k rfl ?_
          refine st_ild rfl rfl ?_
          refine st_ib rfl ?_
          refine st_ild rfl rfl ?_
          refine st_ib rfl ?_
          refine st_ild rfl rfl ?_
          refine st_iu rfl ?_
          refine st_bast rfl (by first | exact tT hM rfl | assumption | exact rw_T hM (by assumption) | exact rw_A hM (by assumption)) (by first | decide | assumption | exact vp_in_nI (by omega) (by decide)) ?_
          refine st_k rfl ?_
          refine st_ild rfl rfl ?_
          refine st_ib rfl ?_
          -- at 78: op_iret
          exact st_iret rfl ⟨by rw [Int32.add_comm], by rw [e3]; simp⟩
        · rw [set_len] at hq
          rw [set_gd ht, gI_sI]
          by_cases e : q = t
          · rw [if_pos ⟨rfl, by omega⟩, if_pos e]
          · rw [if_neg (by omega), if_neg e]
            exact hz.2.2 q hq
end PUI

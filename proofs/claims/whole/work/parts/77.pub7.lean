/-! any change of the class's state, any change of the reference's -/
section CHG
variable {a a' : As} {M M' : pm_M}
theorem IC.chg {S : Nat → Prop} (h : IC a M) (hs : pm_S S M M')
    (hR : ∀ j, j < 6 → (aR a' j = aR a j ∧ ¬ S (106 + 2 * j) ∧ ¬ S (106 + 2 * j + 1)) ∨ CRow M' (106 + 2 * j) (aR a' j))
    (hT : ∀ j, j < 4 → (aT a' j = aT a j ∧ ¬ S (118 + 2 * j) ∧ ¬ S (118 + 2 * j + 1)) ∨ CTxt M' (118 + 2 * j) (aT a' j))
    (hC : (aC a' = aC a ∧ ∀ k, 7 ≤ k → k ≤ 19 → ¬ S k) ∨ CC (aC a') M')
    (hP : (aP a' = aP a ∧ ¬ S 3 ∧ ¬ S 4) ∨ pm_Ro M' 3 ((aP a').map nI))
    (hK : ∀ k, k < 3 → (aK a' k = aK a k ∧ ¬ S (126 + 2 * k) ∧ ¬ S (126 + 2 * k + 1) ∧ gI M' 6 k = gI M 6 k) ∨ CKep M' k (aK a' k))
    (hY : (aC a' = aC a ∧ ¬ S 25 ∧ ¬ S 26) ∨ CY (aC a') M')
    (hF : (aF a' = aF a ∧ ¬ S 105) ∨ ∀ f, f < 6 → gI M' 105 f = aF a' f)
    (h0 : (aL a' = aL a ∧ aA a' = aA a ∧ aU a' = aU a ∧ ¬ S 0) ∨ (gI M' 0 17 = aL a' ∧ gI M' 0 18 = aA a' ∧ gL M' 0 19 = aU a')) (h54 : ¬ S 54) : IC a' M' := by
  refine ⟨hs.ok h.1, fun j hj => ?_, fun j hj => ?_, ?_, ?_, fun k hk => ?_, ?_, fun f hf => ?_, ?_⟩
  · rcases hR j hj with z | z
    · rw [z.1]; exact (h.2.1 j hj).kept (hs.i z.2.1) (hs.i z.2.2)
    · exact z
  · rcases hT j hj with z | z
    · rw [z.1]; exact (h.2.2.1 j hj).kept (hs.i z.2.1) (hs.i z.2.2)
    · exact z
  · rcases hC with z | z
    · rw [z.1]; exact h.2.2.2.1.kept hs z.2
    · exact z
  · rcases hP with z | z
    · rw [z.1]; exact h.2.2.2.2.1.kept hs z.2.1 z.2.2
    · exact z
  · rcases hK k hk with z | z
    · rw [z.1]; exact (h.2.2.2.2.2.1 k hk).kept (hs.i z.2.1) (hs.i z.2.2.1) z.2.2.2
    · exact z
  · rcases hY with z | z
    · rw [z.1]; exact h.2.2.2.2.2.2.1.kept (hs.i z.2.1 _) (hs.l z.2.2) (hs.i h54 _)
    · exact z
  · rcases hF with z | z
    · rw [hs.i z.2, z.1]; exact h.2.2.2.2.2.2.2.1 f hf
    · exact z f hf
  · rcases h0 with z | z
    · rw [hs.i z.2.2.2, hs.i z.2.2.2, hs.l z.2.2.2, z.1, z.2.1, z.2.2.1]; exact h.2.2.2.2.2.2.2.2
    · exact z
theorem IM.chg {X : Nat → Nat → Prop} (h : IM a M) (ho : pm_ok M') (he : ∀ k i, mkp k i → ¬ X k i → gI M' k i = gI M k i)
    (hR : ∀ j, j < 6 → (aR a' j = aR a j ∧ ¬ X 134 j ∧ ∀ i, i < 40 → ¬ X 135 (40 * j + i)) ∨ MRow M' j (aR a' j))
    (hT : ∀ j, j < 4 → (aT a' j = aT a j ∧ ¬ X 137 j ∧ ∀ i, i < 80 → ¬ X 138 (80 * j + i)) ∨ MTxt M' j (aT a' j))
    (hC : (aC a' = aC a ∧ ∀ k i, ((k = 132 ∧ (i = 9 ∨ i = 10 ∨ i = 11 ∨ i = 15 ∨ i = 17)) ∨ (139 ≤ k ∧ k ≤ 143)) → ¬ X k i) ∨ MC (aC a') M')
    (hP : (aP a' = aP a ∧ ¬ X 132 33 ∧ ∀ i, ¬ X 149 i) ∨ MRop M' (aP a'))
    (hK : ∀ k, k < 3 → (aK a' k = aK a k ∧ ¬ X 153 k ∧ ¬ X 150 k ∧ ¬ X 151 k ∧ ∀ i, i < 20 → ¬ X 152 (20 * k + i)) ∨ MKep M' k (aK a' k))
    (hl : ∀ k l n, k < 3 → aK a k = some (l, n) → l.length ≤ 20)
    (hF : (aF a' = aF a ∧ ∀ i, ¬ X 133 i) ∨ ∀ f, f < 6 → gI M' 133 f = aF a' f)
    (hL : (aL a' = aL a ∧ ¬ X 132 0) ∨ gI M' 132 0 = aL a') (hA : (aA a' = aA a ∧ ¬ X 132 2) ∨ gI M' 132 2 = aA a')
    (hU : gL M' 132 3 = aU a') : IM a' M' := by
  refine ⟨ho, fun j hj => ?_, fun j hj => ?_, ?_, ?_, fun k hk => ?_, fun f hf => ?_, ?_, ?_, hU⟩
  · rcases hR j hj with z | z
    · have := h.2.1 j hj
      rw [z.1]
      unfold MRow at this ⊢
      rw [he 134 j (by omega) z.2.1]
      cases hx : aR a j with
      | none => rw [hx] at this; exact this
      | some l =>
        rw [hx] at this
        exact ⟨this.1, this.2.1, fun i hi => by rw [he 135 _ (by omega) (z.2.2 i (by have := this.2.1; omega))]; exact this.2.2 i hi⟩
    · exact z
  · rcases hT j hj with z | z
    · have := h.2.2.1 j hj
      rw [z.1]
      unfold MTxt at this ⊢
      rw [he 137 j (by omega) z.2.1]
      cases hx : aT a j with
      | none => rw [hx] at this; exact this
      | some l =>
        rw [hx] at this
        exact ⟨this.1, this.2.1, fun i hi => by rw [he 138 _ (by omega) (z.2.2 i (by have := this.2.1; omega))]; exact this.2.2 i hi⟩
    · exact z
  · rcases hC with z | z
    · rw [z.1]
      exact h.2.2.2.1.moved (fun i hi => he 132 i (by omega) (z.2 _ _ (Or.inl ⟨rfl, hi⟩))) (fun k hk i => he k i (by omega) (z.2 _ _ (Or.inr hk)))
    · exact z
  · rcases hP with z | z
    · have := h.2.2.2.2.1
      rw [z.1]
      exact ⟨by rw [he 132 33 (by omega) z.2.1]; exact this.1, fun i hi => by rw [he 149 i (by omega) (z.2.2 i)]; exact this.2 i hi⟩
    · exact z
  · rcases hK k hk with z | z
    · have := h.2.2.2.2.2.1 k hk
      rw [z.1]
      unfold MKep at this ⊢
      rw [he 153 k (by omega) z.2.1, he 150 k (by omega) z.2.2.1, he 151 k (by omega) z.2.2.2.1]
      cases hx : aK a k with
      | none => rw [hx] at this; exact this
      | some q =>
        obtain ⟨l, n⟩ := q
        rw [hx] at this
        have hlen := hl k l n hk hx
        exact ⟨this.1, this.2.1, this.2.2.1, fun i hi => by rw [he 152 _ (by omega) (z.2.2.2.2 i (by omega))]; exact this.2.2.2 i hi⟩
    · exact z
  · rcases hF with z | z
    · rw [he 133 f (by omega) (z.2 f), z.1]; exact h.2.2.2.2.2.2.1 f hf
    · exact z f hf
  · rcases hL with z | z
    · rw [he 132 0 (by omega) z.2, z.1]; exact h.2.2.2.2.2.2.2.1
    · exact z
  · rcases hA with z | z
    · rw [he 132 2 (by omega) z.2, z.1]; exact h.2.2.2.2.2.2.2.2.1
    · exact z
theorem k3_cs (w : Int32) : (¬ (¬ w < 0 ∧ w < 3) ∧ ¬ (¬ w < 0 ∧ ¬ 2 < w)) ∨ ∃ m : Nat, m < 3 ∧ w = nI m ∧ (¬ w < 0 ∧ w < 3) ∧ (¬ w < 0 ∧ ¬ 2 < w) := by
  rcases pk_ix w (n := 3) (by decide) with h | h | ⟨j, hj, h⟩
  · exact Or.inl ⟨fun q => q.1 h, fun q => q.1 h⟩
  · have h' : (3 : Int32) ≤ w := h
    exact Or.inl ⟨fun q => absurd q.2 (Int32.not_lt.mpr h'), fun q => q.2 (Int32.lt_of_lt_of_le (by decide) h')⟩
  · refine Or.inr ⟨j, by omega, h, ?_⟩
    subst h
    exact (by decide +kernel : ∀ j, j < 3 → (¬ nI j < 0 ∧ nI j < 3) ∧ (¬ nI j < 0 ∧ ¬ 2 < nI j)) j hj
theorem t4_cs (w : Int32) : (¬ (¬ w < 0 ∧ ¬ 4 ≤ w) ∧ ¬ (¬ w < 0 ∧ ¬ 3 < w)) ∨ ∃ m : Nat, m < 4 ∧ w = nI m ∧ (¬ w < 0 ∧ ¬ 4 ≤ w) ∧ (¬ w < 0 ∧ ¬ 3 < w) := by
  rcases pk_ix w (n := 4) (by decide) with h | h | ⟨j, hj, h⟩
  · exact Or.inl ⟨fun q => q.1 h, fun q => q.1 h⟩
  · have h' : (4 : Int32) ≤ w := h
    exact Or.inl ⟨fun q => q.2 h', fun q => q.2 (Int32.lt_of_lt_of_le (by decide) h')⟩
  · refine Or.inr ⟨j, by omega, h, ?_⟩
    subst h
    exact (by decide +kernel : ∀ j, j < 4 → (¬ nI j < 0 ∧ ¬ 4 ≤ nI j) ∧ (¬ nI j < 0 ∧ ¬ 3 < nI j)) j hj
end CHG
section PUH
variable {a : As} {M : pm_M}
theorem aw.kl (ha : aw a) : ∀ k l n, k < 3 → aK a k = some (l, n) → l.length ≤ 20 := fun k l n hk hx => (ha.2.2.2.1 k l n hk hx).2.1
/-! keep -/
theorem b_keep (ha : aw a) (k : Int32) : Both a 110 210 [.int k] := by
  rcases k3_cs k with ⟨h1, h2⟩ | ⟨j, hj, hr, h1, h2⟩
  · refine bo_k (x := .int (-1)) ha (fun d M h => ?_) (fun d M h => ?_)
    · refine en_110 (Nat.le_of_ble_eq_true rfl) ?_
      refine st_ild rfl rfl ?_
      refine st_b1 rfl (fun g => ?_) (fun g => ?_)
      -- at 1: split 9 4
      · refine st_k rfl ?_
        -- at 10: op_iret
        exact st_iret rfl ⟨rfl, rfl⟩
      · refine st_ild rfl rfl ?_
        refine st_k rfl ?_
        refine st_b2 rfl (fun zq => absurd zq ((fun z => h1 ⟨g, z⟩))) (fun _ => ?_)
        refine st_k rfl ?_
        -- at 10: op_iret
        exact st_iret rfl ⟨rfl, rfl⟩
    · refine en_210 (Nat.le_of_ble_eq_true rfl) ?_
      refine st_ild rfl rfl ?_
      refine st_k rfl ?_
      refine st_k rfl ?_
      refine st_call (As := [_, _, _]) rfl rfl rfl (Nat.le_of_ble_eq_true rfl) (m_in (d + 18) k 0 2) ?_
      refine st_b1 rfl (fun zq => absurd zq ((fun z => z (b01_f h2)))) (fun _ => ?_)
      refine st_k rfl ?_
      -- at 10: op_iret
      exact st_iret rfl ⟨rfl, rfl⟩
  subst hr
  have hin : vp_in (nI j) 3 := vp_in_nI hj (by decide)
  have e1 : (nI j).toNatClampNeg = j := nI_clamp (by omega)
  have hn := ha.1.1
  have hl := ha.2.2.1
  have n0 : nI (cf_n (aC a)) = 0 ↔ cf_n (aC a) = 0 := nI_eq (a := cf_n (aC a)) (b := 0) (by omega) (by decide)
  by_cases g : cf_n (aC a) = 0
  · refine bo_k (x := .int (-4)) ha (fun d M h => ?_) (fun d M h => ?_)
    · refine en_110 (Nat.le_of_ble_eq_true rfl) ?_
      have hM := h.1
      refine st_ild rfl rfl ?_
      refine st_b1 rfl (fun zq => absurd zq (h1.1)) (fun _ => ?_)
      refine st_ild rfl rfl ?_
      refine st_k rfl ?_
      refine st_b2 rfl (fun _ => ?_) (fun zq => absurd (h1.2) zq)
      refine st_ald rfl rfl ?_
      refine st_gR' rfl (by first | exact tT hM rfl | assumption | exact rw_T hM (by assumption) | exact rw_A hM (by assumption)) (by first | exact rR hM rfl rfl | assumption | exact rw_R hM (by assumption)) ?_
      refine st_gI rfl (by first | exact tT hM rfl | assumption | exact rw_T hM (by assumption) | exact rw_A hM (by assumption)) ?_
      -- at 18: stop
      refine wp_e h.2.2.2.1.1.2.2.1 ?_
      refine st_b1 rfl (fun zq => absurd zq ((fun z => z (n0.mpr g)))) (fun _ => ?_)
      refine st_k rfl ?_
      -- at 23: op_iret
      exact st_iret rfl ⟨rfl, rfl⟩
    · refine en_210 (Nat.le_of_ble_eq_true rfl) ?_
      have hM := h.1
      refine st_ild rfl rfl ?_
      refine st_k rfl ?_
      refine st_k rfl ?_
      refine st_call (As := [_, _, _]) rfl rfl rfl (Nat.le_of_ble_eq_true rfl) (m_in (d + 18) _ 0 2) ?_
      refine st_b1 rfl (fun _ => ?_) (fun zq => absurd (b01_t h2) zq)
      refine st_ald rfl rfl ?_
      refine st_gI rfl (by first | exact tT hM rfl | assumption | exact rw_T hM (by assumption) | exact rw_A hM (by assumption)) ?_
      -- at 15: stop
      refine wp_e h.2.2.2.1.1.2.2.1 ?_
      refine st_b1 rfl (fun zq => absurd zq ((fun z => z (n0.mpr g)))) (fun _ => ?_)
      refine st_k rfl ?_
      -- at 20: op_iret
      exact st_iret rfl ⟨rfl, rfl⟩
  have ho := rw_kep j hj
  refine ⟨.int (nI (aP a).length), sK' a j (some (aP a, cf_len (aC a))), ⟨ha.1, ha.2.1, ha.2.2.1, fun k l n hk hx => ?_, ha.2.2.2.2⟩, fun d M h => ?_, fun d M h => ?_⟩
  · have hx : (if k = j then some (aP a, cf_len (aC a)) else aK a k) = some (l, n) := hx
    by_cases q : k = j
    · rw [if_pos q] at hx
      cases hx
      exact ⟨ha.2.1, hl, ha.1.2.1, ha.1.2.2.1⟩
    · rw [if_neg q] at hx
      exact ha.2.2.2.1 k l n hk hx
  · have hM := h.1
    have hr := h.2.2.2.2.1
    have s1 : pm_S (pm_oo (126 + 2 * j)) M (sI (pm_cp M (3 + 1) (126 + 2 * j + 1) 0 0 ((aP a).map nI).length) (126 + 2 * j) 1 (nI ((aP a).map nI).length)) := s_become
    have hM1 := s1.ok hM
    have s2 := (s1.mo (S' := fun k => pm_oo (126 + 2 * j) k ∨ k = 6) (fun k hk => Or.inl hk)).sI (k := 6) (Or.inr rfl) j (nI (cf_len (aC a)))
    refine ⟨sI (sI (pm_cp M (3 + 1) (126 + 2 * j + 1) 0 0 ((aP a).map nI).length) (126 + 2 * j) 1 (nI ((aP a).map nI).length)) 6 j (nI (cf_len (aC a))), en_110 (Nat.le_of_ble_eq_true rfl) ?_, ?_, Cfr.S s2 (fun k hk => by rcases hk with (z | z) | z <;> omega)⟩
    · refine st_ild rfl rfl ?_
      refine st_b1 rfl (fun zq => absurd zq (h1.1)) (fun _ => ?_)
      refine st_ild rfl rfl ?_
      refine st_k rfl ?_
      refine st_b2 rfl (fun _ => ?_) (fun zq => absurd (h1.2) zq)
      refine st_ald rfl rfl ?_
      refine st_gR' rfl (by first | exact tT hM rfl | assumption | exact rw_T hM (by assumption) | exact rw_A hM (by assumption)) (by first | exact rR hM rfl rfl | assumption | exact rw_R hM (by assumption)) ?_
      refine st_gI rfl (by first | exact tT hM rfl | assumption | exact rw_T hM (by assumption) | exact rw_A hM (by assumption)) ?_
      -- at 18: stop
      refine wp_e h.2.2.2.1.1.2.2.1 ?_
      refine st_b1 rfl (fun _ => ?_) (fun zq => absurd ((fun z => g (n0.mp z))) zq)
      refine st_ald rfl rfl ?_
      refine st_gR' rfl (by first | exact tT hM rfl | assumption | exact rw_T hM (by assumption) | exact rw_A hM (by assumption)) (by first | exact rR hM rfl rfl | assumption | exact rw_R hM (by assumption)) ?_
      refine st_ild rfl rfl ?_
      refine st_aald' rfl (by first | exact tT hM rfl | assumption | exact rw_T hM (by assumption) | exact rw_A hM (by assumption)) (by first | decide | assumption | exact vp_in_nI (by omega) (by decide)) (by first | assumption | exact rRow' hM (by assumption) | exact rTxt' hM (by assumption) | exact rKep' hM (by assumption) | exact rRdg' hM (by assumption)) ?_
      refine st_ald rfl rfl ?_
      refine st_gR' rfl (by first | exact tT hM rfl | assumption | exact rw_T hM (by assumption) | exact rw_A hM (by assumption)) (by first | exact rR hM rfl rfl | assumption | exact rw_R hM (by assumption)) ?_
      refine st_cav (As := [_]) rfl rfl rfl (rw_T hM ho) (Nat.le_of_ble_eq_true rfl) (c_become (d + 18) hM ho ro3 (by omega) hr) ?_
      -- at 37: stop
      refine st_ald rfl rfl ?_
      refine st_gR' rfl (by first | exact tT hM1 rfl | assumption | exact rw_T hM1 (by assumption) | exact rw_A hM1 (by assumption)) (by first | exact rR hM1 rfl rfl | assumption | exact rw_R hM1 (by assumption)) ?_
      refine st_ild rfl rfl ?_
      refine st_ald rfl rfl ?_
      refine st_gR' rfl (by first | exact tT hM1 rfl | assumption | exact rw_T hM1 (by assumption) | exact rw_A hM1 (by assumption)) (by first | exact rR hM1 rfl rfl | assumption | exact rw_R hM1 (by assumption)) ?_
      refine st_gI rfl (by first | exact tT hM1 rfl | assumption | exact rw_T hM1 (by assumption) | exact rw_A hM1 (by assumption)) ?_
      -- at 49: stop
      refine wp_e (y := nI (cf_len (aC a))) (by rw [s1.i (by simp [pm_oo]; omega)]; exact h.2.2.2.1.1.1) ?_
      refine st_iast rfl (by first | exact tT hM1 rfl | assumption | exact rw_T hM1 (by assumption) | exact rw_A hM1 (by assumption)) (by first | decide | assumption | exact vp_in_nI (by omega) (by decide)) ?_
      refine st_ald rfl rfl ?_
      refine st_gR' rfl (by first | exact tT hM1 rfl | assumption | exact rw_T hM1 (by assumption) | exact rw_A hM1 (by assumption)) (by first | exact rR hM1 rfl rfl | assumption | exact rw_R hM1 (by assumption)) ?_
      refine st_gI rfl (by first | exact tT hM1 rfl | assumption | exact rw_T hM1 (by assumption) | exact rw_A hM1 (by assumption)) ?_
      -- at 57: op_iret
      refine st_iret rfl ⟨?_, by rw [e1]⟩
      rw [gI_ne (Or.inl (by decide)), gI_ne (Or.inl (by omega)), gI_cp, if_neg (by omega), hr.1, map_len]
    · refine h.chg s2 (fun i hi => Or.inl ⟨rfl, by simp [pm_oo]; omega, by simp [pm_oo]; omega⟩) (fun i hi => Or.inl ⟨rfl, by simp [pm_oo]; omega, by simp [pm_oo]; omega⟩) (Or.inl ⟨rfl, fun k h1 h2 => by simp [pm_oo]; omega⟩) (Or.inl ⟨rfl, by simp [pm_oo]; omega, by simp [pm_oo]; omega⟩) (fun k hk => ?_) (Or.inl ⟨rfl, by simp [pm_oo]; omega, by simp [pm_oo]; omega⟩) (Or.inl ⟨rfl, by simp [pm_oo]; omega⟩) (Or.inl ⟨rfl, rfl, rfl, by simp [pm_oo]; omega⟩) (by simp [pm_oo]; omega)
      by_cases q : k = j
      · refine Or.inr ?_
        show CKep _ k (if k = j then _ else _)
        rw [if_pos q]
        subst q
        refine ⟨(ro_become hr).kept (S := fun k => k = 6) (pm_S.rf.sI (S := fun k => k = 6) (k := 6) rfl _ _) (by omega) (by omega), gI_same _ _ _ _⟩
      · exact Or.inl ⟨if_neg q, by simp [pm_oo]; omega, by simp [pm_oo]; omega, by rw [gI_ne (Or.inr q), gI_ne (Or.inl (by omega)), gI_cp, if_neg (by omega)]⟩
  · have hM := h.1
    have hr := h.2.2.2.2.1
    have loop : ∀ n i x M1, x = nI i → i + n = (aP a).length → pm_ok M1 → gI M1 150 j = nI (aP a).length → gI M1 151 j = nI (cf_len (aC a)) → gI M1 153 j = 1 → (∀ t, t < i → gI M1 152 (20 * j + t) = nI ((aP a).getD t 0)) → (∀ k t, ¬ ((k = 150 ∨ k = 151 ∨ k = 153) ∧ t = j) → ¬ (k = 152 ∧ 20 * j ≤ t ∧ t < 20 * j + 20) → gI M1 k t = gI M k t) → (∀ k t, gL M1 k t = gL M k t) → pm_WP (pm_call (d + 19)) tb_210 (fun r M' => r = some (.int (nI (aP a).length)) ∧ IM (sK' a j (some (aP a, cf_len (aC a)))) M' ∧ Mfr M M') 50 [some (.ref 132), some (.int (nI j)), some (.int x)] [] M1 := by
      intro n
      induction n with
      | zero =>
        intro i x M1 hx hi hM1 h5 h6 h7 hz hf hg
        subst hx
        have e : gI M1 132 33 = nI (aP a).length := by rw [hf 132 33 (by omega) (by omega)]; exact hr.1
        refine st_ild rfl rfl ?_
        refine st_ald rfl rfl ?_
        refine st_gI rfl (by first | exact tT hM1 rfl | assumption | exact rw_T hM1 (by assumption) | exact rw_A hM1 (by assumption)) ?_
        -- at 55: stop
        refine wp_e e ?_
        refine st_b2 rfl (fun _ => ?_) (fun zq => absurd (nI_le (by omega) (by omega)) zq)
        refine st_ald rfl rfl ?_
        refine st_gI rfl (by first | exact tT hM1 rfl | assumption | exact rw_T hM1 (by assumption) | exact rw_A hM1 (by assumption)) ?_
        -- at 85: op_iret
        refine st_iret rfl ⟨by rw [e], ?_, fun k hk t => ⟨hf k t (by omega) (by omega), hg k t⟩⟩
        refine h.chg (X := fun k t => ((k = 150 ∨ k = 151 ∨ k = 153) ∧ t = j) ∨ (k = 152 ∧ 20 * j ≤ t ∧ t < 20 * j + 20)) hM1 (fun k t _ z => hf k t (fun w => z (Or.inl w)) (fun w => z (Or.inr w))) (fun q hq => Or.inl ⟨rfl, by omega, fun i hi => by omega⟩) (fun q hq => Or.inl ⟨rfl, by omega, fun i hi => by omega⟩) (Or.inl ⟨rfl, fun k i hk => by omega⟩) (Or.inl ⟨rfl, by omega, fun i => by omega⟩) (fun k hk => ?_) ha.kl (Or.inl ⟨rfl, fun i => by omega⟩) (Or.inl ⟨rfl, by omega⟩) (Or.inl ⟨rfl, by omega⟩) ((hg _ _).trans h.2.2.2.2.2.2.2.2.2)
        by_cases q : k = j
        · refine Or.inr ?_
          show MKep _ k (if k = j then _ else _)
          rw [if_pos q]
          subst q
          exact ⟨h7, h5, h6, fun t ht => hz t (by omega)⟩
        · exact Or.inl ⟨if_neg q, by omega, by omega, by omega, fun i hi => by omega⟩
      | succ n ih =>
        intro i x M1 hx hi hM1 h5 h6 h7 hz hf hg
        subst hx
        have e : gI M1 132 33 = nI (aP a).length := by rw [hf 132 33 (by omega) (by omega)]; exact hr.1
        have ex : 20 * nI j + nI i = nI (20 * j + i) := by show nI 20 * nI j + nI i = _; rw [pk_mul, nI_add]
        have hin2 : vp_in (20 * nI j + nI i) 60 := by rw [ex]; exact vp_in_nI (by omega) (by decide)
        have hin3 : vp_in (nI i) 20 := vp_in_nI (by omega) (by decide)
        have e3 : (20 * nI j + nI i).toNatClampNeg = 20 * j + i := by rw [ex]; exact nI_clamp (by omega)
        refine st_ild rfl rfl ?_
        refine st_ald rfl rfl ?_
        refine st_gI rfl (by first | exact tT hM1 rfl | assumption | exact rw_T hM1 (by assumption) | exact rw_A hM1 (by assumption)) ?_
        -- at 55: stop
        refine wp_e e ?_
        refine st_b2 rfl (fun zq => absurd zq (nI_ge (by omega) (by omega))) (fun _ => ?_)
        refine st_ald rfl rfl ?_
        refine st_gR' rfl (by first | exact tT hM1 rfl | assumption | exact rw_T hM1 (by assumption) | exact rw_A hM1 (by assumption)) (by first | exact rR hM1 rfl rfl | assumption | exact rw_R hM1 (by assumption)) ?_
        refine st_k rfl ?_
        refine st_ild rfl rfl ?_
        refine st_ib rfl ?_
        refine st_ild rfl rfl ?_
        refine st_ib rfl ?_
        refine st_ald rfl rfl ?_
        refine st_gR' rfl (by first | exact tT hM1 rfl | assumption | exact rw_T hM1 (by assumption) | exact rw_A hM1 (by assumption)) (by first | exact rR hM1 rfl rfl | assumption | exact rw_R hM1 (by assumption)) ?_
        refine st_ild rfl rfl ?_
        refine st_iald rfl (by first | exact tT hM1 rfl | assumption | exact rw_T hM1 (by assumption) | exact rw_A hM1 (by assumption)) (by first | decide | assumption | exact vp_in_nI (by omega) (by decide)) ?_
        -- at 74: stop
        refine wp_e (y := nI ((aP a).getD i 0)) (by rw [nI_clamp (by omega), hf 149 i (by omega) (by omega)]; exact hr.2 i (by omega)) ?_
        refine st_iast rfl (by first | exact tT hM1 rfl | assumption | exact rw_T hM1 (by assumption) | exact rw_A hM1 (by assumption)) (by first | decide | assumption | exact vp_in_nI (by omega) (by decide)) ?_
        refine st_inc rfl rfl ?_
        refine st_go rfl ?_
        -- at 50: stop
        rw [e3]
        refine ih (i + 1) _ _ (nI_1 i) (by omega) hM1 (by rw [gI_ne (Or.inl (by decide))]; exact h5) (by rw [gI_ne (Or.inl (by decide))]; exact h6) (by rw [gI_ne (Or.inl (by decide))]; exact h7) (fun t ht => ?_) (fun k t z1 z2 => ?_) hg
        · by_cases z : t = i
          · subst z; exact gI_same _ _ _ _
          · rw [gI_ne (Or.inr (by omega))]; exact hz t (by omega)
        · rw [gI_nn (by omega)]
          exact hf k t z1 z2
    obtain ⟨r, M', hc, hr', h5, h6⟩ := eq_210 (d := d + 19) (A := [.ref 132, .int (nI j)]) (M := M) (Q := fun r M' => r = some (.int (nI (aP a).length)) ∧ IM (sK' a j (some (aP a, cf_len (aC a)))) M' ∧ Mfr M M') (Nat.le_of_ble_eq_true rfl) (by
      refine st_ild rfl rfl ?_
      refine st_k rfl ?_
      refine st_k rfl ?_
      refine st_call (As := [_, _, _]) rfl rfl rfl (Nat.le_of_ble_eq_true rfl) (m_in (d + 18) _ 0 2) ?_
      refine st_b1 rfl (fun _ => ?_) (fun zq => absurd (b01_t h2) zq)
      refine st_ald rfl rfl ?_
      refine st_gI rfl (by first | exact tT hM rfl | assumption | exact rw_T hM (by assumption) | exact rw_A hM (by assumption)) ?_
      -- at 15: stop
      refine wp_e h.2.2.2.1.1.2.2.1 ?_
      refine st_b1 rfl (fun _ => ?_) (fun zq => absurd ((fun z => g (n0.mp z))) zq)
      refine st_ald rfl rfl ?_
      refine st_gR' rfl (by first | exact tT hM rfl | assumption | exact rw_T hM (by assumption) | exact rw_A hM (by assumption)) (by first | exact rR hM rfl rfl | assumption | exact rw_R hM (by assumption)) ?_
      refine st_ild rfl rfl ?_
      refine st_ald rfl rfl ?_
      refine st_gI rfl (by first | exact tT hM rfl | assumption | exact rw_T hM (by assumption) | exact rw_A hM (by assumption)) ?_
      -- at 30: stop
      refine wp_e hr.1 ?_
      refine st_iast rfl (by first | exact tT hM rfl | assumption | exact rw_T hM (by assumption) | exact rw_A hM (by assumption)) (by first | decide | assumption | exact vp_in_nI (by omega) (by decide)) ?_
      refine st_ald rfl rfl ?_
      refine st_gR' rfl (by first | exact tT hM rfl | assumption | exact rw_T hM (by assumption) | exact rw_A hM (by assumption)) (by first | exact rR hM rfl rfl | assumption | exact rw_R hM (by assumption)) ?_
      refine st_ild rfl rfl ?_
      refine st_ald rfl rfl ?_
      refine st_gI rfl (by first | exact tT hM rfl | assumption | exact rw_T hM (by assumption) | exact rw_A hM (by assumption)) ?_
      -- at 40: stop
      rw [e1]
      refine wp_e (y := nI (cf_len (aC a))) (by rw [gI_ne (Or.inl (by decide))]; exact h.2.2.2.1.1.1) ?_
      refine st_iast rfl (by first | exact tT hM rfl | assumption | exact rw_T hM (by assumption) | exact rw_A hM (by assumption)) (by first | decide | assumption | exact vp_in_nI (by omega) (by decide)) ?_
      refine st_ald rfl rfl ?_
      refine st_gR' rfl (by first | exact tT hM rfl | assumption | exact rw_T hM (by assumption) | exact rw_A hM (by assumption)) (by first | exact rR hM rfl rfl | assumption | exact rw_R hM (by assumption)) ?_
      refine st_ild rfl rfl ?_
      refine st_k rfl ?_
      refine st_zast rfl (by first | exact tT hM rfl | assumption | exact rw_T hM (by assumption) | exact rw_A hM (by assumption)) (by first | decide | assumption | exact vp_in_nI (by omega) (by decide)) ?_
      refine st_k rfl ?_
      refine st_ist rfl ?_
      -- at 50: stop
      rw [e1]
      exact loop (aP a).length 0 0 _ rfl (by omega) hM (by rw [gI_ne (Or.inl (by decide)), gI_ne (Or.inl (by decide)), gI_same]) (by rw [gI_ne (Or.inl (by decide)), gI_same]) (gI_same _ _ _ _) (fun t ht => by omega) (fun k t z1 z2 => by rw [gI_ne (by omega), gI_ne (by omega), gI_ne (by omega)]) (fun _ _ => rfl))
    subst hr'
    exact ⟨M', hc, h5, h6⟩
end PUH

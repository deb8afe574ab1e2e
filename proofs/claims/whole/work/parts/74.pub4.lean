/-! BOTH ANSWER ALIKE: the craft's KNOTS, LENGTH, SIGNS -/
def cf_sl (c : Cf) (v : Nat) : Cf := ((v, c.1.2), c.2)
def cf_ss (c : Cf) (k v : Nat) : Cf := (c.1, c.2.1, c.2.2.1, (fun j => if j = k then v else cf_sg c j), c.2.2.2.2)
/-- two crafts whose KNOTS TAKE alike, with the same LAWS, PAIRS -/
def alike (c c' : Cf) : Prop := cf_n c' = cf_n c ∧ cf_kd c' = cf_kd c ∧ cf_sz c' = cf_sz c ∧ cf_br c' = cf_br c ∧ cf_np c' = cf_np c ∧ cf_p1 c' = cf_p1 c ∧ cf_p2 c' = cf_p2 c ∧ cf_ps c' = cf_ps c ∧ cf_nl c' = cf_nl c
theorem al_sl (c : Cf) (v : Nat) : alike c (cf_sl c v) := ⟨rfl, rfl, rfl, rfl, rfl, rfl, rfl, rfl, rfl⟩
theorem al_ss (c : Cf) (k v : Nat) : alike c (cf_ss c k v) := ⟨rfl, rfl, rfl, rfl, rfl, rfl, rfl, rfl, rfl⟩
section ALI
variable {c c' : Cf}
theorem al_em (h : alike c c') : em c' = em c := by funext k; unfold em; rw [h.2.1]
theorem al_tk (h : alike c c') : tk c' = tk c := by funext l k; unfold tk alo bnd; simp only [h.2.1, h.2.2.1]
theorem al_bar (h : alike c c') : bar c' = bar c := by funext l k; unfold bar; rw [h.2.2.2.1]
theorem al_prf (h : alike c c') (a b : Nat) : ∀ i, prf c' a b i = prf c a b i
  | 0 => rfl
  | i + 1 => by
    have := (al_prf h) a b i
    unfold prf
    rw [this, h.2.2.2.2.2.1, h.2.2.2.2.2.2.1, h.2.2.2.2.2.2.2.1]
theorem al_pr (h : alike c c') (a b : Nat) : pr c' a b = pr c a b := by
  unfold pr
  rw [h.2.1, h.2.2.2.2.1, (al_prf h)]
theorem al_cnt (h : alike c c') : ∀ l last room, cnt c' l last room = cnt c l last room
  | 0, last, room => by simp only [cnt]; rw [al_em h]
  | l + 1, last, room => by
    simp only [cnt]
    rw [(al_bar h), (al_tk h), h.1]
    congr 1
    funext k
    rw [(al_cnt h) l k]
theorem al_CY (h : alike c c') {M : pm_M} (hy : CY c M) : CY c' M := by
  obtain ⟨h0, lv, h1, h2, h3⟩ := hy
  refine ⟨h0, lv, h1, h2, fun level last room a b e => ?_⟩
  rw [(al_cnt h)]
  exact h3 level last room a (by unfold lst at b ⊢; rw [h.1] at b; exact b) e
theorem al_kn (h : alike c c') {ws : List Nat} (hk : kn c ws) : kn c' ws := fun k q => by rw [h.1]; exact hk k q
end ALI
section PUE
variable {a : As} {M : pm_M}
/-- IC with another craft, whose tables but LENGTH and SIGNS are the same -/
theorem IC.cf {c' : Cf} {k i : Nat} {v : Int32} (h : IC a M) (hl : alike (aC a) c') (hk : (k = 7 ∧ i = 0) ∨ k = 10) (h0 : gI (sI M k i v) 7 0 = nI (cf_len c')) (hg : cf_gir c' = cf_gir (aC a)) (hs : ∀ j, j < cf_n (aC a) → gI (sI M k i v) 10 j = nI (cf_sg c' j)) : IC (sC' a c') (sI M k i v) := by
  have e : ∀ q, q ≠ 7 → q ≠ 10 → ∀ j, gI (sI M k i v) q j = gI M q j := fun q z1 z2 j => gI_ne (Or.inl (by omega))
  have e7 : ∀ j, j ≠ 0 → gI (sI M k i v) 7 j = gI M 7 j := fun j hj => gI_nn (by omega)
  obtain ⟨c1, c2, c3, c4, c5, c6, c7⟩ := h.2.2.2.1
  refine ⟨h.1, fun j hj => (h.2.1 j hj).kept (e _ (by omega) (by omega)) (e _ (by omega) (by omega)), fun j hj => (h.2.2.1 j hj).kept (e _ (by omega) (by omega)) (e _ (by omega) (by omega)), ?_, ?_, fun q hq => (h.2.2.2.2.2.1 q hq).kept (e _ (by omega) (by omega)) (e _ (by omega) (by omega)) (e 6 (by decide) (by decide) q), (al_CY hl) (h.2.2.2.2.2.2.1.kept (e 25 (by decide) (by decide) 2) (fun _ => rfl) (e 54 (by decide) (by decide) 0)), fun f hf => ?_, ?_, ?_, h.2.2.2.2.2.2.2.2.2.2⟩
  · refine ⟨⟨h0, ?_, ?_, ?_, ?_⟩, fun q hq => ⟨?_, ?_, ?_⟩, fun q hq => ?_, fun last hlast => ?_, fun x y hx hy => ?_, fun q hq => ?_, fun q hq => ?_⟩
    · rw [e7 1 (by decide)]; show _ = nI (cf_gir c'); rw [hg]; exact c1.2.1
    · rw [e7 2 (by decide)]; show _ = nI (cf_n c'); rw [hl.1]; exact c1.2.2.1
    · rw [e7 3 (by decide)]; show _ = nI (cf_nl c'); rw [hl.2.2.2.2.2.2.2.2]; exact c1.2.2.2.1
    · rw [e7 4 (by decide)]; show _ = nI (cf_np c'); rw [hl.2.2.2.2.1]; exact c1.2.2.2.2
    · have hq : q < cf_n c' := hq
      rw [hl.1] at hq
      rw [e 8 (by decide) (by decide)]; show _ = nI (cf_kd c' q); rw [hl.2.1]; exact (c2 q hq).1
    · have hq : q < cf_n c' := hq
      rw [hl.1] at hq
      rw [e 9 (by decide) (by decide)]; show _ = nI (cf_sz c' q); rw [hl.2.2.1]; exact (c2 q hq).2.1
    · have hq : q < cf_n c' := hq
      rw [hl.1] at hq
      exact hs q hq
    · have hq : q < cf_np c' := hq
      rw [hl.2.2.2.2.1] at hq
      rw [e 11 (by decide) (by decide), e 12 (by decide) (by decide), e 13 (by decide) (by decide)]
      show _ = nI (cf_p1 c' q) ∧ _ = nI (cf_p2 c' q) ∧ _ = nI (cf_ps c' q)
      rw [hl.2.2.2.2.2.1, hl.2.2.2.2.2.2.1, hl.2.2.2.2.2.2.2.1]
      exact c3 q hq
    · have hlast : lst c' last := hlast
      unfold lst at hlast
      rw [hl.1] at hlast
      rw [e 14 (by decide) (by decide), e 15 (by decide) (by decide)]
      show _ = nI (if last < 6 then cf_br c' last else 0) ∧ _ = nI (em c' last) ∧ ∀ k, k < cf_n c' → _ = nI (tk c' last k)
      rw [hl.2.2.2.1, (al_em hl), (al_tk hl), hl.1]
      refine ⟨(c4 last hlast).1, (c4 last hlast).2.1, fun k hk => ?_⟩
      rw [e 16 (by decide) (by decide)]
      exact (c4 last hlast).2.2 k hk
    · have hx : x < cf_n c' := hx
      have hy : y < cf_n c' := hy
      rw [hl.1] at hx hy
      rw [e 17 (by decide) (by decide)]
      show _ = p32 (pr c' x y)
      rw [(al_pr hl)]
      exact c5 x y hx hy
    · have hq : q < cf_n c' := hq
      rw [hl.1] at hq
      obtain ⟨w, w1, w2, w3⟩ := c6 q hq
      refine ⟨w, by rw [e 18 (by decide) (by decide)]; exact w1, w2, fun s => ?_⟩
      show _ ↔ ∃ b, b < cf_n c' ∧ pr c' q b = some s
      simp only [hl.1, (al_pr hl)]
      exact w3 s
    · have hq : q < cf_n c' := hq
      rw [hl.1] at hq
      obtain ⟨w, w1, w2, w3⟩ := c7 q hq
      refine ⟨w, by rw [e 19 (by decide) (by decide)]; exact w1, w2, fun s => ?_⟩
      show _ ↔ ∃ a, a < cf_n c' ∧ pr c' a q = some s
      simp only [hl.1, (al_pr hl)]
      exact w3 s
  · have := h.2.2.2.2.1
    show pm_Ro _ 3 ((aP a).map nI)
    unfold pm_Ro at this ⊢
    simp only [e 3 (by decide) (by decide), e (3 + 1) (by decide) (by decide)]
    exact this
  · rw [e 105 (by decide) (by decide)]; exact h.2.2.2.2.2.2.2.1 f hf
  · rw [e 0 (by decide) (by decide)]; exact h.2.2.2.2.2.2.2.2.1
  · rw [e 0 (by decide) (by decide)]; exact h.2.2.2.2.2.2.2.2.2.1
theorem IM.cf {c' : Cf} {k i : Nat} {v : Int32} (h : IM a M) (hl : alike (aC a) c') (hk : (k = 132 ∧ i = 9) ∨ k = 141) (h0 : gI (sI M k i v) 132 9 = nI (cf_len c')) (hg : cf_gir c' = cf_gir (aC a)) (hs : ∀ j, j < cf_n (aC a) → gI (sI M k i v) 141 j = nI (cf_sg c' j)) : IM (sC' a c') (sI M k i v) := by
  have e : ∀ q, q ≠ 132 → q ≠ 141 → ∀ j, gI (sI M k i v) q j = gI M q j := fun q z1 z2 j => gI_ne (Or.inl (by omega))
  have e7 : ∀ j, j ≠ 9 → gI (sI M k i v) 132 j = gI M 132 j := fun j hj => gI_nn (by omega)
  obtain ⟨c1, c2, c3⟩ := h.2.2.2.1
  refine ⟨h.1, fun j hj => ?_, fun j hj => ?_, ?_, ?_, fun q hq => ?_, fun f hf => ?_, ?_, ?_, h.2.2.2.2.2.2.2.2.2⟩
  · have := h.2.1 j hj
    show MRow _ j (aR a j)
    unfold MRow at this ⊢
    simp only [e 134 (by decide) (by decide), e 135 (by decide) (by decide)]
    exact this
  · have := h.2.2.1 j hj
    show MTxt _ j (aT a j)
    unfold MTxt at this ⊢
    simp only [e 137 (by decide) (by decide), e 138 (by decide) (by decide)]
    exact this
  · refine ⟨⟨h0, ?_, ?_, ?_, ?_⟩, fun q hq => ⟨?_, ?_, ?_, ?_⟩, fun q hq => ?_⟩
    · rw [e7 10 (by decide)]; show _ = nI (cf_gir c'); rw [hg]; exact c1.2.1
    · rw [e7 11 (by decide)]; show _ = nI (cf_n c'); rw [hl.1]; exact c1.2.2.1
    · rw [e7 15 (by decide)]; show _ = nI (cf_nl c'); rw [hl.2.2.2.2.2.2.2.2]; exact c1.2.2.2.1
    · rw [e7 17 (by decide)]; show _ = nI (cf_np c'); rw [hl.2.2.2.2.1]; exact c1.2.2.2.2
    · have hq : q < cf_n c' := hq
      rw [hl.1] at hq
      rw [e 139 (by decide) (by decide)]; show _ = nI (cf_kd c' q); rw [hl.2.1]; exact (c2 q hq).1
    · have hq : q < cf_n c' := hq
      rw [hl.1] at hq
      rw [e 140 (by decide) (by decide)]; show _ = nI (cf_sz c' q); rw [hl.2.2.1]; exact (c2 q hq).2.1
    · have hq : q < cf_n c' := hq
      rw [hl.1] at hq
      exact hs q hq
    · have hq : q < cf_n c' := hq
      rw [hl.1] at hq
      rw [e 142 (by decide) (by decide)]; show _ = nI (cf_br c' q); rw [hl.2.2.2.1]; exact (c2 q hq).2.2.2
    · have hq : q < cf_np c' := hq
      rw [hl.2.2.2.2.1] at hq
      simp only [e 143 (by decide) (by decide)]
      show _ = nI (cf_p1 c' q) ∧ _ = nI (cf_p2 c' q) ∧ _ = nI (cf_ps c' q)
      rw [hl.2.2.2.2.2.1, hl.2.2.2.2.2.2.1, hl.2.2.2.2.2.2.2.1]
      exact c3 q hq
  · have := h.2.2.2.2.1
    show MRop _ (aP a)
    unfold MRop at this ⊢
    simp only [e7 33 (by decide), e 149 (by decide) (by decide)]
    exact this
  · have := h.2.2.2.2.2.1 q hq
    show MKep _ q (aK a q)
    unfold MKep at this ⊢
    simp only [e 150 (by decide) (by decide), e 151 (by decide) (by decide), e 152 (by decide) (by decide), e 153 (by decide) (by decide)]
    exact this
  · rw [e 133 (by decide) (by decide)]; exact h.2.2.2.2.2.2.1 f hf
  · rw [e7 0 (by decide)]; exact h.2.2.2.2.2.2.2.1
  · rw [e7 2 (by decide)]; exact h.2.2.2.2.2.2.2.2.1
/-! knot -/
theorem w_cs (w : Int32) : (¬ (¬ w < 0 ∧ w < 5) ∧ ¬ (¬ w < 0 ∧ ¬ 4 < w)) ∨ ((¬ w < 0 ∧ w < 5) ∧ (¬ w < 0 ∧ ¬ 4 < w)) := by
  have e5 : (5 : Int32).toInt = 5 := by decide
  have e4 : (4 : Int32).toInt = 4 := by decide
  have a1 : w < 5 ↔ w.toInt < 5 := by rw [Int32.lt_iff_toInt_lt, e5]
  have a2 : 4 < w ↔ 4 < w.toInt := by rw [Int32.lt_iff_toInt_lt, e4]
  by_cases h : ¬ w < 0 ∧ w < 5
  · exact Or.inr ⟨h, h.1, fun z => by rw [a2] at z; rw [a1] at h; omega⟩
  · exact Or.inl ⟨h, fun z => h ⟨z.1, by rw [a1]; rw [a2] at z; omega⟩⟩
theorem b_knot (ha : aw a) (k w : Int32) : Both a 100 190 [.int k, .int w] := by
  rcases k_cs ha.1 k with ⟨h1, h2⟩ | ⟨j, hj, hr, h1, h2⟩
  · refine bo_k (x := .int (-1)) ha (fun d M h => ?_) (fun d M h => ?_)
    · refine en_100 (Nat.le_of_ble_eq_true rfl) ?_
      have hM := h.1
      refine st_ald rfl rfl ?_
      refine st_gR' rfl (by first | exact tT hM rfl | assumption | exact rw_T hM (by assumption) | exact rw_A hM (by assumption)) (by first | exact rR hM rfl rfl | assumption | exact rw_R hM (by assumption)) ?_
      refine st_ild rfl rfl ?_
      refine st_cav (As := [_]) rfl rfl rfl (by first | exact tT hM rfl | assumption | exact rw_T hM (by assumption) | exact rw_A hM (by assumption)) (Nat.le_of_ble_eq_true rfl) (c_hasKnot (d + 18) hM h.2.2.2.1 k) ?_
      refine st_b1 rfl (fun _ => ?_) (fun zq => absurd (b01_f h1) zq)
      refine st_k rfl ?_
      -- at 21: op_iret
      exact st_iret rfl ⟨rfl, rfl⟩
    · refine en_190 (Nat.le_of_ble_eq_true rfl) ?_
      have hM := h.1
      refine st_ald rfl rfl ?_
      refine st_ild rfl rfl ?_
      refine st_cav (As := [_]) rfl rfl rfl (by first | exact tT hM rfl | assumption | exact rw_T hM (by assumption) | exact rw_A hM (by assumption)) (Nat.le_of_ble_eq_true rfl) (m_isKnot (d + 17) hM ha.1 h.2.2.2.1 k) ?_
      refine st_b1 rfl (fun _ => ?_) (fun zq => absurd (b01_f h2) zq)
      refine st_k rfl ?_
      -- at 32: op_iret
      exact st_iret rfl ⟨rfl, rfl⟩
  subst hr
  rcases w_cs w with ⟨g1, g2⟩ | ⟨g1, g2⟩
  · refine bo_k (x := .int (-1)) ha (fun d M h => ?_) (fun d M h => ?_)
    · refine en_100 (Nat.le_of_ble_eq_true rfl) ?_
      have hM := h.1
      refine st_ald rfl rfl ?_
      refine st_gR' rfl (by first | exact tT hM rfl | assumption | exact rw_T hM (by assumption) | exact rw_A hM (by assumption)) (by first | exact rR hM rfl rfl | assumption | exact rw_R hM (by assumption)) ?_
      refine st_ild rfl rfl ?_
      refine st_cav (As := [_]) rfl rfl rfl (by first | exact tT hM rfl | assumption | exact rw_T hM (by assumption) | exact rw_A hM (by assumption)) (Nat.le_of_ble_eq_true rfl) (c_hasKnot (d + 18) hM h.2.2.2.1 _) ?_
      refine st_b1 rfl (fun zq => absurd zq (b01_t h1)) (fun _ => ?_)
      refine st_ild rfl rfl ?_
      refine st_b1 rfl (fun g => ?_) (fun g => ?_)
      -- at 12: split 20 15
      · refine st_k rfl ?_
        -- at 21: op_iret
        exact st_iret rfl ⟨rfl, rfl⟩
      · refine st_ild rfl rfl ?_
        refine st_k rfl ?_
        refine st_b2 rfl (fun zq => absurd zq ((fun z => g1 ⟨g, z⟩))) (fun _ => ?_)
        refine st_k rfl ?_
        -- at 21: op_iret
        exact st_iret rfl ⟨rfl, rfl⟩
    · refine en_190 (Nat.le_of_ble_eq_true rfl) ?_
      have hM := h.1
      refine st_ald rfl rfl ?_
      refine st_ild rfl rfl ?_
      refine st_cav (As := [_]) rfl rfl rfl (by first | exact tT hM rfl | assumption | exact rw_T hM (by assumption) | exact rw_A hM (by assumption)) (Nat.le_of_ble_eq_true rfl) (m_isKnot (d + 17) hM ha.1 h.2.2.2.1 _) ?_
      refine st_b1 rfl (fun zq => absurd zq (b01_t h2)) (fun _ => ?_)
      refine st_ild rfl rfl ?_
      refine st_k rfl ?_
      refine st_k rfl ?_
      refine st_call (As := [_, _, _]) rfl rfl rfl (Nat.le_of_ble_eq_true rfl) (m_in (d + 18) w 0 4) ?_
      refine st_b1 rfl (fun _ => ?_) (fun zq => absurd (b01_f g2) zq)
      refine st_k rfl ?_
      -- at 32: op_iret
      exact st_iret rfl ⟨rfl, rfl⟩
  · refine bo_t (x := .int 1) (v := nI (kf (aC a) j w)) ha (fun d M h => ?_) (fun d M h => ?_)
    · refine en_100 (Nat.le_of_ble_eq_true rfl) ?_
      have hM := h.1
      refine st_ald rfl rfl ?_
      refine st_gR' rfl (by first | exact tT hM rfl | assumption | exact rw_T hM (by assumption) | exact rw_A hM (by assumption)) (by first | exact rR hM rfl rfl | assumption | exact rw_R hM (by assumption)) ?_
      refine st_ild rfl rfl ?_
      refine st_cav (As := [_]) rfl rfl rfl (by first | exact tT hM rfl | assumption | exact rw_T hM (by assumption) | exact rw_A hM (by assumption)) (Nat.le_of_ble_eq_true rfl) (c_hasKnot (d + 18) hM h.2.2.2.1 _) ?_
      refine st_b1 rfl (fun zq => absurd zq (b01_t h1)) (fun _ => ?_)
      refine st_ild rfl rfl ?_
      refine st_b1 rfl (fun zq => absurd zq (g1.1)) (fun _ => ?_)
      refine st_ild rfl rfl ?_
      refine st_k rfl ?_
      refine st_b2 rfl (fun _ => ?_) (fun zq => absurd (g1.2) zq)
      refine st_ald rfl rfl ?_
      refine st_ald rfl rfl ?_
      refine st_gR' rfl (by first | exact tT hM rfl | assumption | exact rw_T hM (by assumption) | exact rw_A hM (by assumption)) (by first | exact rR hM rfl rfl | assumption | exact rw_R hM (by assumption)) ?_
      refine st_ild rfl rfl ?_
      refine st_ild rfl rfl ?_
      refine st_cav (As := [_, _]) rfl rfl rfl (by first | exact tT hM rfl | assumption | exact rw_T hM (by assumption) | exact rw_A hM (by assumption)) (Nat.le_of_ble_eq_true rfl) (c_knotFact (d + 16) hM ha.1 h.2.2.2.1 hj w) ?_
      refine st_pI rfl (by first | exact tT hM rfl | assumption | exact rw_T hM (by assumption) | exact rw_A hM (by assumption)) ?_
      refine st_k rfl ?_
      -- at 36: op_iret
      exact st_iret rfl ⟨rfl, rfl⟩
    · refine en_190 (Nat.le_of_ble_eq_true rfl) ?_
      have hM := h.1
      refine st_ald rfl rfl ?_
      refine st_ild rfl rfl ?_
      refine st_cav (As := [_]) rfl rfl rfl (by first | exact tT hM rfl | assumption | exact rw_T hM (by assumption) | exact rw_A hM (by assumption)) (Nat.le_of_ble_eq_true rfl) (m_isKnot (d + 17) hM ha.1 h.2.2.2.1 _) ?_
      refine st_b1 rfl (fun zq => absurd zq (b01_t h2)) (fun _ => ?_)
      refine st_ild rfl rfl ?_
      refine st_k rfl ?_
      refine st_k rfl ?_
      refine st_call (As := [_, _, _]) rfl rfl rfl (Nat.le_of_ble_eq_true rfl) (m_in (d + 18) w 0 4) ?_
      refine st_b1 rfl (fun zq => absurd zq (b01_t g2)) (fun _ => ?_)
      refine st_ald rfl rfl ?_
      refine st_ald rfl rfl ?_
      refine st_ild rfl rfl ?_
      refine st_ild rfl rfl ?_
      refine st_cav (As := [_, _]) rfl rfl rfl (by first | exact tT hM rfl | assumption | exact rw_T hM (by assumption) | exact rw_A hM (by assumption)) (Nat.le_of_ble_eq_true rfl) (m_knotTells (d + 16) hM ha.1 h.2.2.2.1 hj w) ?_
      refine st_k rfl ?_
      refine st_cav (As := [_, _]) rfl rfl rfl (by first | exact tT hM rfl | assumption | exact rw_T hM (by assumption) | exact rw_A hM (by assumption)) (Nat.le_of_ble_eq_true rfl) (m_tells (d + 18) hM _ _) ?_
      refine st_go rfl ?_
      -- at 32: op_iret
      exact st_iret rfl ⟨rfl, rfl⟩
/-! length -/
theorem aw.cf {c' : Cf} (ha : aw a) (hl : alike (aC a) c') (hw : cf_wf c') (hg : cf_gir c' = cf_gir (aC a)) : aw (sC' a c') := ⟨hw, (al_kn hl) ha.2.1, ha.2.2.1, fun k l n hk hx => by
  obtain ⟨h1, h2, h3, h4⟩ := ha.2.2.2.1 k l n hk hx
  exact ⟨(al_kn hl) h1, h2, by show cf_gir c' ≤ n; rw [hg]; exact h3, h4⟩, ha.2.2.2.2⟩
theorem b_length (ha : aw a) (v : Int32) : Both a 102 194 [.int v] := by
  have hg := ha.1.2.1
  have hg2 := ha.1.2.2.1
  have hn := ha.1.1
  by_cases g : ¬ v < 1 ∧ ¬ 99 < v
  case neg =>
    refine bo_k (x := .int (-1)) ha (fun d M h => ?_) (fun d M h => ?_)
    · refine en_102 (Nat.le_of_ble_eq_true rfl) ?_
      refine st_ild rfl rfl ?_
      refine st_k rfl ?_
      refine st_b2 rfl (fun g1 => ?_) (fun g1 => ?_)
      -- at 2: split 11 5
      · refine st_k rfl ?_
        -- at 12: op_iret
        exact st_iret rfl ⟨rfl, rfl⟩
      · refine st_ild rfl rfl ?_
        refine st_k rfl ?_
        refine st_b2 rfl (fun zq => absurd zq ((fun z => g ⟨g1, Int32.not_lt.mpr z⟩))) (fun _ => ?_)
        refine st_k rfl ?_
        -- at 12: op_iret
        exact st_iret rfl ⟨rfl, rfl⟩
    · refine en_194 (Nat.le_of_ble_eq_true rfl) ?_
      refine st_ild rfl rfl ?_
      refine st_k rfl ?_
      refine st_k rfl ?_
      refine st_call (As := [_, _, _]) rfl rfl rfl (Nat.le_of_ble_eq_true rfl) (m_in (d + 18) v 1 99) ?_
      refine st_b1 rfl (fun zq => absurd zq ((fun z => z (b01_f g)))) (fun _ => ?_)
      refine st_k rfl ?_
      -- at 11: op_iret
      exact st_iret rfl ⟨rfl, rfl⟩
  have gle : v ≤ 99 := Int32.not_lt.mp g.2
  obtain ⟨m, hm, hv⟩ : ∃ m : Nat, m ≤ 99 ∧ v = nI m := by
    obtain ⟨m, hm, hv⟩ := nI_of2 (M := 99) (n := 99) (by decide) (fun z => g.1 (Int32.lt_trans z (by decide))) gle
    exact ⟨m, hm, hv⟩
  by_cases g0 : cf_n (aC a) = 0 ∨ m < cf_gir (aC a)
  · refine bo_k (x := .int (-4)) ha (fun d M h => ?_) (fun d M h => ?_)
    · refine en_102 (Nat.le_of_ble_eq_true rfl) ?_
      have hM := h.1
      refine st_ild rfl rfl ?_
      refine st_k rfl ?_
      refine st_b2 rfl (fun zq => absurd zq (g.1)) (fun _ => ?_)
      refine st_ild rfl rfl ?_
      refine st_k rfl ?_
      refine st_b2 rfl (fun _ => ?_) (fun zq => absurd (gle) zq)
      refine st_ald rfl rfl ?_
      refine st_gR' rfl (by first | exact tT hM rfl | assumption | exact rw_T hM (by assumption) | exact rw_A hM (by assumption)) (by first | exact rR hM rfl rfl | assumption | exact rw_R hM (by assumption)) ?_
      refine st_gI rfl (by first | exact tT hM rfl | assumption | exact rw_T hM (by assumption) | exact rw_A hM (by assumption)) ?_
      -- at 20: stop
      refine wp_e h.2.2.2.1.1.2.2.1 ?_
      refine st_b1 rfl (fun q => ?_) (fun q => ?_)
      · refine st_k rfl ?_
        -- at 36: op_iret
        exact st_iret rfl ⟨rfl, rfl⟩
      · have hlt : m < cf_gir (aC a) := g0.elim (fun z => absurd (show nI (cf_n (aC a)) = 0 by rw [z]; rfl) q) id
        refine st_ald rfl rfl ?_
        refine st_gR' rfl (by first | exact tT hM rfl | assumption | exact rw_T hM (by assumption) | exact rw_A hM (by assumption)) (by first | exact rR hM rfl rfl | assumption | exact rw_R hM (by assumption)) ?_
        refine st_gI rfl (by first | exact tT hM rfl | assumption | exact rw_T hM (by assumption) | exact rw_A hM (by assumption)) ?_
        -- at 30: stop
        refine wp_e h.2.2.2.1.1.2.1 ?_
        refine st_ild rfl rfl ?_
        refine st_b2 rfl (fun zq => absurd zq ((by rw [hv]; exact nI_ge hlt (by omega)))) (fun _ => ?_)
        refine st_k rfl ?_
        -- at 36: op_iret
        exact st_iret rfl ⟨rfl, rfl⟩
    · refine en_194 (Nat.le_of_ble_eq_true rfl) ?_
      have hM := h.1
      refine st_ild rfl rfl ?_
      refine st_k rfl ?_
      refine st_k rfl ?_
      refine st_call (As := [_, _, _]) rfl rfl rfl (Nat.le_of_ble_eq_true rfl) (m_in (d + 18) v 1 99) ?_
      refine st_b1 rfl (fun _ => ?_) (fun zq => absurd (b01_t g) zq)
      refine st_ald rfl rfl ?_
      refine st_gI rfl (by first | exact tT hM rfl | assumption | exact rw_T hM (by assumption) | exact rw_A hM (by assumption)) ?_
      -- at 16: stop
      refine wp_e h.2.2.2.1.1.2.2.1 ?_
      refine st_b1 rfl (fun q => ?_) (fun q => ?_)
      · refine st_k rfl ?_
        -- at 29: op_iret
        exact st_iret rfl ⟨rfl, rfl⟩
      · have hlt : m < cf_gir (aC a) := g0.elim (fun z => absurd (show nI (cf_n (aC a)) = 0 by rw [z]; rfl) q) id
        refine st_ald rfl rfl ?_
        refine st_gI rfl (by first | exact tT hM rfl | assumption | exact rw_T hM (by assumption) | exact rw_A hM (by assumption)) ?_
        -- at 23: stop
        refine wp_e h.2.2.2.1.1.2.1 ?_
        refine st_ild rfl rfl ?_
        refine st_b2 rfl (fun zq => absurd zq ((by rw [hv]; exact nI_ge hlt (by omega)))) (fun _ => ?_)
        refine st_k rfl ?_
        -- at 29: op_iret
        exact st_iret rfl ⟨rfl, rfl⟩
  · have q1 : ¬ nI (cf_n (aC a)) = 0 := fun z => g0 (Or.inl ((nI_eq (a := cf_n (aC a)) (b := 0) (by omega) (by decide)).mp z))
    have q2 : nI (cf_gir (aC a)) ≤ v := by rw [hv]; exact nI_le (by omega) (by omega)
    have hal := al_sl (aC a) m
    have hwf : cf_wf (cf_sl (aC a) m) := ⟨ha.1.1, by show cf_gir (aC a) ≤ m; omega, hm, ha.1.2.2.2⟩
    refine ⟨.int (nI (cf_len (aC a))), sC' a (cf_sl (aC a) m), ha.cf hal hwf rfl, fun d M h => ⟨sI M 7 0 v, ?_, ?_, (Cfr.rf M).sI (by decide) _ _⟩, fun d M h => ⟨sI M 132 9 v, ?_, ?_, (Mfr.rf M).sI (by decide) _ _⟩⟩
    · refine en_102 (Nat.le_of_ble_eq_true rfl) ?_
      have hM := h.1
      refine st_ild rfl rfl ?_
      refine st_k rfl ?_
      refine st_b2 rfl (fun zq => absurd zq (g.1)) (fun _ => ?_)
      refine st_ild rfl rfl ?_
      refine st_k rfl ?_
      refine st_b2 rfl (fun _ => ?_) (fun zq => absurd (gle) zq)
      refine st_ald rfl rfl ?_
      refine st_gR' rfl (by first | exact tT hM rfl | assumption | exact rw_T hM (by assumption) | exact rw_A hM (by assumption)) (by first | exact rR hM rfl rfl | assumption | exact rw_R hM (by assumption)) ?_
      refine st_gI rfl (by first | exact tT hM rfl | assumption | exact rw_T hM (by assumption) | exact rw_A hM (by assumption)) ?_
      -- at 20: stop
      refine wp_e h.2.2.2.1.1.2.2.1 ?_
      refine st_b1 rfl (fun zq => absurd zq (q1)) (fun _ => ?_)
      refine st_ald rfl rfl ?_
      refine st_gR' rfl (by first | exact tT hM rfl | assumption | exact rw_T hM (by assumption) | exact rw_A hM (by assumption)) (by first | exact rR hM rfl rfl | assumption | exact rw_R hM (by assumption)) ?_
      refine st_gI rfl (by first | exact tT hM rfl | assumption | exact rw_T hM (by assumption) | exact rw_A hM (by assumption)) ?_
      -- at 30: stop
      refine wp_e h.2.2.2.1.1.2.1 ?_
      refine st_ild rfl rfl ?_
      refine st_b2 rfl (fun _ => ?_) (fun zq => absurd (q2) zq)
      refine st_ald rfl rfl ?_
      refine st_gR' rfl (by first | exact tT hM rfl | assumption | exact rw_T hM (by assumption) | exact rw_A hM (by assumption)) (by first | exact rR hM rfl rfl | assumption | exact rw_R hM (by assumption)) ?_
      refine st_gI rfl (by first | exact tT hM rfl | assumption | exact rw_T hM (by assumption) | exact rw_A hM (by assumption)) ?_
      refine st_ist rfl ?_
      refine st_ald rfl rfl ?_
      refine st_gR' rfl (by first | exact tT hM rfl | assumption | exact rw_T hM (by assumption) | exact rw_A hM (by assumption)) (by first | exact rR hM rfl rfl | assumption | exact rw_R hM (by assumption)) ?_
      refine st_ild rfl rfl ?_
      refine st_pI rfl (by first | exact tT hM rfl | assumption | exact rw_T hM (by assumption) | exact rw_A hM (by assumption)) ?_
      refine st_ild rfl rfl ?_
      -- at 54: op_iret
      exact st_iret rfl ⟨by rw [h.2.2.2.1.1.1], rfl⟩
    · exact h.cf hal (Or.inl ⟨rfl, rfl⟩) (by rw [gI_same, hv]; rfl) rfl (fun j hj => by rw [gI_ne (Or.inl (by decide))]; exact (h.2.2.2.1.2.1 j hj).2.2)
    · refine en_194 (Nat.le_of_ble_eq_true rfl) ?_
      have hM := h.1
      refine st_ild rfl rfl ?_
      refine st_k rfl ?_
      refine st_k rfl ?_
      refine st_call (As := [_, _, _]) rfl rfl rfl (Nat.le_of_ble_eq_true rfl) (m_in (d + 18) v 1 99) ?_
      refine st_b1 rfl (fun _ => ?_) (fun zq => absurd (b01_t g) zq)
      refine st_ald rfl rfl ?_
      refine st_gI rfl (by first | exact tT hM rfl | assumption | exact rw_T hM (by assumption) | exact rw_A hM (by assumption)) ?_
      -- at 16: stop
      refine wp_e h.2.2.2.1.1.2.2.1 ?_
      refine st_b1 rfl (fun zq => absurd zq (q1)) (fun _ => ?_)
      refine st_ald rfl rfl ?_
      refine st_gI rfl (by first | exact tT hM rfl | assumption | exact rw_T hM (by assumption) | exact rw_A hM (by assumption)) ?_
      -- at 23: stop
      refine wp_e h.2.2.2.1.1.2.1 ?_
      refine st_ild rfl rfl ?_
      refine st_b2 rfl (fun _ => ?_) (fun zq => absurd (q2) zq)
      refine st_ald rfl rfl ?_
      refine st_gI rfl (by first | exact tT hM rfl | assumption | exact rw_T hM (by assumption) | exact rw_A hM (by assumption)) ?_
      refine st_ist rfl ?_
      refine st_ald rfl rfl ?_
      refine st_ild rfl rfl ?_
      refine st_pI rfl (by first | exact tT hM rfl | assumption | exact rw_T hM (by assumption) | exact rw_A hM (by assumption)) ?_
      refine st_ild rfl rfl ?_
      -- at 41: op_iret
      exact st_iret rfl ⟨by rw [h.2.2.2.1.1.1], rfl⟩
    · exact h.cf hal (Or.inl ⟨rfl, rfl⟩) (by rw [gI_same, hv]; rfl) rfl (fun j hj => by rw [gI_ne (Or.inl (by decide))]; exact (h.2.2.2.1.2.1 j hj).2.2.1)
/-! sign -/
theorem s_cs (w : Int32) : (¬ (¬ w < 0 ∧ w < 10) ∧ ¬ (¬ w < 0 ∧ ¬ 9 < w)) ∨ ∃ m : Nat, m ≤ 9 ∧ w = nI m ∧ (¬ w < 0 ∧ w < 10) ∧ (¬ w < 0 ∧ ¬ 9 < w) := by
  rcases pk_ix w (n := 10) (by decide) with h | h | ⟨j, hj, h⟩
  · exact Or.inl ⟨fun q => q.1 h, fun q => q.1 h⟩
  · have h' : (10 : Int32) ≤ w := h
    exact Or.inl ⟨fun q => absurd q.2 (Int32.not_lt.mpr h'), fun q => q.2 (Int32.lt_of_lt_of_le (by decide) h')⟩
  · refine Or.inr ⟨j, by omega, h, ?_⟩
    subst h
    exact (by decide +kernel : ∀ j, j < 10 → (¬ nI j < 0 ∧ nI j < 10) ∧ (¬ nI j < 0 ∧ ¬ 9 < nI j)) j hj
theorem b_sign (ha : aw a) (k w : Int32) : Both a 103 195 [.int k, .int w] := by
  rcases k_cs ha.1 k with ⟨h1, h2⟩ | ⟨j, hj, hr, h1, h2⟩
  · refine bo_k (x := .int (-1)) ha (fun d M h => ?_) (fun d M h => ?_)
    · refine en_103 (Nat.le_of_ble_eq_true rfl) ?_
      have hM := h.1
      refine st_ald rfl rfl ?_
      refine st_gR' rfl (by first | exact tT hM rfl | assumption | exact rw_T hM (by assumption) | exact rw_A hM (by assumption)) (by first | exact rR hM rfl rfl | assumption | exact rw_R hM (by assumption)) ?_
      refine st_ild rfl rfl ?_
      refine st_cav (As := [_]) rfl rfl rfl (by first | exact tT hM rfl | assumption | exact rw_T hM (by assumption) | exact rw_A hM (by assumption)) (Nat.le_of_ble_eq_true rfl) (c_hasKnot (d + 18) hM h.2.2.2.1 k) ?_
      refine st_b1 rfl (fun _ => ?_) (fun zq => absurd (b01_f h1) zq)
      refine st_k rfl ?_
      -- at 22: op_iret
      exact st_iret rfl ⟨rfl, rfl⟩
    · refine en_195 (Nat.le_of_ble_eq_true rfl) ?_
      have hM := h.1
      refine st_ald rfl rfl ?_
      refine st_ild rfl rfl ?_
      refine st_cav (As := [_]) rfl rfl rfl (by first | exact tT hM rfl | assumption | exact rw_T hM (by assumption) | exact rw_A hM (by assumption)) (Nat.le_of_ble_eq_true rfl) (m_isKnot (d + 17) hM ha.1 h.2.2.2.1 k) ?_
      refine st_b1 rfl (fun _ => ?_) (fun zq => absurd (b01_f h2) zq)
      refine st_k rfl ?_
      -- at 19: op_iret
      exact st_iret rfl ⟨rfl, rfl⟩
  subst hr
  rcases s_cs w with ⟨g1, g2⟩ | ⟨m, hm, hv, g1, g2⟩
  · refine bo_k (x := .int (-1)) ha (fun d M h => ?_) (fun d M h => ?_)
    · refine en_103 (Nat.le_of_ble_eq_true rfl) ?_
      have hM := h.1
      refine st_ald rfl rfl ?_
      refine st_gR' rfl (by first | exact tT hM rfl | assumption | exact rw_T hM (by assumption) | exact rw_A hM (by assumption)) (by first | exact rR hM rfl rfl | assumption | exact rw_R hM (by assumption)) ?_
      refine st_ild rfl rfl ?_
      refine st_cav (As := [_]) rfl rfl rfl (by first | exact tT hM rfl | assumption | exact rw_T hM (by assumption) | exact rw_A hM (by assumption)) (Nat.le_of_ble_eq_true rfl) (c_hasKnot (d + 18) hM h.2.2.2.1 _) ?_
      refine st_b1 rfl (fun zq => absurd zq (b01_t h1)) (fun _ => ?_)
      refine st_ild rfl rfl ?_
      refine st_b1 rfl (fun g => ?_) (fun g => ?_)
      -- at 12: split 21 15
      · refine st_k rfl ?_
        -- at 22: op_iret
        exact st_iret rfl ⟨rfl, rfl⟩
      · refine st_ild rfl rfl ?_
        refine st_k rfl ?_
        refine st_b2 rfl (fun zq => absurd zq ((fun z => g1 ⟨g, z⟩))) (fun _ => ?_)
        refine st_k rfl ?_
        -- at 22: op_iret
        exact st_iret rfl ⟨rfl, rfl⟩
    · refine en_195 (Nat.le_of_ble_eq_true rfl) ?_
      have hM := h.1
      refine st_ald rfl rfl ?_
      refine st_ild rfl rfl ?_
      refine st_cav (As := [_]) rfl rfl rfl (by first | exact tT hM rfl | assumption | exact rw_T hM (by assumption) | exact rw_A hM (by assumption)) (Nat.le_of_ble_eq_true rfl) (m_isKnot (d + 17) hM ha.1 h.2.2.2.1 _) ?_
      refine st_b1 rfl (fun zq => absurd zq (b01_t h2)) (fun _ => ?_)
      refine st_ild rfl rfl ?_
      refine st_k rfl ?_
      refine st_k rfl ?_
      refine st_call (As := [_, _, _]) rfl rfl rfl (Nat.le_of_ble_eq_true rfl) (m_in (d + 18) w 0 9) ?_
      refine st_b1 rfl (fun zq => absurd zq ((fun z => z (b01_f g2)))) (fun _ => ?_)
      refine st_k rfl ?_
      -- at 19: op_iret
      exact st_iret rfl ⟨rfl, rfl⟩
  · subst hv
    have hin := in6 ha.1 hj
    have e1 := cl6 ha.1 hj
    have hal := al_ss (aC a) j m
    have hwf : cf_wf (cf_ss (aC a) j m) := ⟨ha.1.1, ha.1.2.1, ha.1.2.2.1, ha.1.2.2.2.1, ha.1.2.2.2.2.1, fun q hq => by
      have := ha.1.2.2.2.2.2.1 q hq
      refine ⟨this.1, this.2.1, this.2.2.1, ?_, this.2.2.2.2⟩
      show (if q = j then m else cf_sg (aC a) q) ≤ 9
      split
      · exact hm
      · exact this.2.2.2.1, ha.1.2.2.2.2.2.2⟩
    refine ⟨.int (nI (cf_sg (aC a) j)), sC' a (cf_ss (aC a) j m), ha.cf hal hwf rfl, fun d M h => ⟨sI M 10 j (nI m), ?_, ?_, (Cfr.rf M).sI (by decide) _ _⟩, fun d M h => ⟨sI M 141 j (nI m), ?_, ?_, (Mfr.rf M).sI (by decide) _ _⟩⟩
    · refine en_103 (Nat.le_of_ble_eq_true rfl) ?_
      have hM := h.1
      refine st_ald rfl rfl ?_
      refine st_gR' rfl (by first | exact tT hM rfl | assumption | exact rw_T hM (by assumption) | exact rw_A hM (by assumption)) (by first | exact rR hM rfl rfl | assumption | exact rw_R hM (by assumption)) ?_
      refine st_ild rfl rfl ?_
      refine st_cav (As := [_]) rfl rfl rfl (by first | exact tT hM rfl | assumption | exact rw_T hM (by assumption) | exact rw_A hM (by assumption)) (Nat.le_of_ble_eq_true rfl) (c_hasKnot (d + 18) hM h.2.2.2.1 _) ?_
      refine st_b1 rfl (fun zq => absurd zq (b01_t h1)) (fun _ => ?_)
      refine st_ild rfl rfl ?_
      refine st_b1 rfl (fun zq => absurd zq (g1.1)) (fun _ => ?_)
      refine st_ild rfl rfl ?_
      refine st_k rfl ?_
      refine st_b2 rfl (fun _ => ?_) (fun zq => absurd (g1.2) zq)
      refine st_ald rfl rfl ?_
      refine st_gR' rfl (by first | exact tT hM rfl | assumption | exact rw_T hM (by assumption) | exact rw_A hM (by assumption)) (by first | exact rR hM rfl rfl | assumption | exact rw_R hM (by assumption)) ?_
      refine st_gR' rfl (by first | exact tT hM rfl | assumption | exact rw_T hM (by assumption) | exact rw_A hM (by assumption)) (by first | exact rR hM rfl rfl | assumption | exact rw_R hM (by assumption)) ?_
      refine st_ild rfl rfl ?_
      refine st_iald rfl (by first | exact tT hM rfl | assumption | exact rw_T hM (by assumption) | exact rw_A hM (by assumption)) (by first | decide | assumption | exact vp_in_nI (by omega) (by decide)) ?_
      refine st_ist rfl ?_
      refine st_ald rfl rfl ?_
      refine st_gR' rfl (by first | exact tT hM rfl | assumption | exact rw_T hM (by assumption) | exact rw_A hM (by assumption)) (by first | exact rR hM rfl rfl | assumption | exact rw_R hM (by assumption)) ?_
      refine st_gR' rfl (by first | exact tT hM rfl | assumption | exact rw_T hM (by assumption) | exact rw_A hM (by assumption)) (by first | exact rR hM rfl rfl | assumption | exact rw_R hM (by assumption)) ?_
      refine st_ild rfl rfl ?_
      refine st_ild rfl rfl ?_
      refine st_iast rfl (by first | exact tT hM rfl | assumption | exact rw_T hM (by assumption) | exact rw_A hM (by assumption)) (by first | decide | assumption | exact vp_in_nI (by omega) (by decide)) ?_
      refine st_ild rfl rfl ?_
      -- at 44: op_iret
      exact st_iret rfl ⟨by rw [e1, (h.2.2.2.1.2.1 j hj).2.2], by rw [e1]⟩
    · refine h.cf hal (Or.inr rfl) (by rw [gI_ne (Or.inl (by decide))]; exact h.2.2.2.1.1.1) rfl (fun q hq => ?_)
      rw [gI_sI]
      show _ = nI (if q = j then m else cf_sg (aC a) q)
      by_cases z : q = j
      · rw [if_pos ⟨rfl, z⟩, if_pos z]
      · rw [if_neg (fun w => z w.2), if_neg z]
        exact (h.2.2.2.1.2.1 q hq).2.2
    · refine en_195 (Nat.le_of_ble_eq_true rfl) ?_
      have hM := h.1
      refine st_ald rfl rfl ?_
      refine st_ild rfl rfl ?_
      refine st_cav (As := [_]) rfl rfl rfl (by first | exact tT hM rfl | assumption | exact rw_T hM (by assumption) | exact rw_A hM (by assumption)) (Nat.le_of_ble_eq_true rfl) (m_isKnot (d + 17) hM ha.1 h.2.2.2.1 _) ?_
      refine st_b1 rfl (fun zq => absurd zq (b01_t h2)) (fun _ => ?_)
      refine st_ild rfl rfl ?_
      refine st_k rfl ?_
      refine st_k rfl ?_
      refine st_call (As := [_, _, _]) rfl rfl rfl (Nat.le_of_ble_eq_true rfl) (m_in (d + 18) _ 0 9) ?_
      refine st_b1 rfl (fun _ => ?_) (fun zq => absurd (b01_t g2) zq)
      refine st_ald rfl rfl ?_
      refine st_gR' rfl (by first | exact tT hM rfl | assumption | exact rw_T hM (by assumption) | exact rw_A hM (by assumption)) (by first | exact rR hM rfl rfl | assumption | exact rw_R hM (by assumption)) ?_
      refine st_ild rfl rfl ?_
      refine st_iald rfl (by first | exact tT hM rfl | assumption | exact rw_T hM (by assumption) | exact rw_A hM (by assumption)) (by first | decide | assumption | exact vp_in_nI (by omega) (by decide)) ?_
      refine st_ist rfl ?_
      refine st_ald rfl rfl ?_
      refine st_gR' rfl (by first | exact tT hM rfl | assumption | exact rw_T hM (by assumption) | exact rw_A hM (by assumption)) (by first | exact rR hM rfl rfl | assumption | exact rw_R hM (by assumption)) ?_
      refine st_ild rfl rfl ?_
      refine st_ild rfl rfl ?_
      refine st_iast rfl (by first | exact tT hM rfl | assumption | exact rw_T hM (by assumption) | exact rw_A hM (by assumption)) (by first | decide | assumption | exact vp_in_nI (by omega) (by decide)) ?_
      refine st_ild rfl rfl ?_
      -- at 35: op_iret
      exact st_iret rfl ⟨by rw [e1, (h.2.2.2.1.2.1 j hj).2.2.1], by rw [e1]⟩
    · refine h.cf hal (Or.inr rfl) (by rw [gI_ne (Or.inl (by decide))]; exact h.2.2.2.1.1.1) rfl (fun q hq => ?_)
      rw [gI_sI]
      show _ = nI (if q = j then m else cf_sg (aC a) q)
      by_cases z : q = j
      · rw [if_pos ⟨rfl, z⟩, if_pos z]
      · rw [if_neg (fun w => z w.2), if_neg z]
        exact (h.2.2.2.1.2.1 q hq).2.2.1
end PUE

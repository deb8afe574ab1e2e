/-! each instruction keeps cells (pm_Sz), and asks no more of the locals than it reads (pm_Mo) -/
def pm_Sz (sem : pm_Sem) : Prop := ∀ (call : pm_Cr) (Q : Option Value → pm_M → Prop) (rec : pm_Rc) (a b : Nat), (∀ j A M r M', call j A M r M' → pm_zC M ≤ pm_zC M' ∧ pm_zS M ≤ pm_zS M') → (∀ r M, Q r M → pm_zC M ≤ a ∧ pm_zS M ≤ b) → (∀ pc L st M, rec pc L st M → pm_zC M ≤ a ∧ pm_zS M ≤ b) → ∀ L st M, sem call Q rec L st M → pm_zC M ≤ a ∧ pm_zS M ≤ b
def pm_le (L L' : pm_L) : Prop := L.length = L'.length ∧ ∀ (i : Nat) (v : Value), L[i]? = some (some v) → L'[i]? = some (some v)
def pm_Mo (sem : pm_Sem) : Prop := ∀ (call : pm_Cr) (Q : Option Value → pm_M → Prop) (rec rec' : pm_Rc), (∀ pc L L' st M, pm_le L L' → rec pc L st M → rec' pc L' st M) → ∀ L L' st M, pm_le L L' → sem call Q rec L st M → sem call Q rec' L' st M
theorem pm_st1_len (L : pm_L) (i : Nat) (v : Value) : (pm_st1 L i v).length = L.length := by
  cases i with
  | zero => simp [pm_st1]
  | succ i => simp only [pm_st1]; split <;> simp
theorem pm_st1_self {L : pm_L} {i : Nat} {v : Value} (h : i < L.length) : (pm_st1 L i v)[i]? = some (some v) := by
  cases i with
  | zero => simp [pm_st1, h]
  | succ i =>
    simp only [pm_st1]
    rw [List.getElem?_set_self (by split <;> simp [h])]
theorem pm_st1_other {L : pm_L} {i j : Nat} {v w : Value} (hj : j ≠ i) (h : L[j]? = some (some w)) (hn : ¬ (j + 1 = i ∧ w.category = 2)) : (pm_st1 L i v)[j]? = some (some w) := by
  cases i with
  | zero => simp only [pm_st1]; rw [List.getElem?_set_ne (Ne.symm hj)]; exact h
  | succ i =>
    simp only [pm_st1]
    rw [List.getElem?_set_ne (Ne.symm hj)]
    split
    · rename_i hw
      by_cases e : j = i
      · subst e
        rw [List.getD_eq_getElem?_getD, h] at hw
        exact absurd ⟨rfl, pm_wide_cat.mp hw⟩ hn
      · rw [List.getElem?_set_ne (Ne.symm e)]; exact h
    · exact h
theorem pm_le.st1 {L L' : pm_L} (h : pm_le L L') (i : Nat) (v : Value) : pm_le (pm_st1 L i v) (pm_st1 L' i v) := by
  refine ⟨by rw [pm_st1_len, pm_st1_len]; exact h.1, fun j w hj => ?_⟩
  have hl : j < (pm_st1 L i v).length := (List.getElem?_eq_some_iff.mp hj).1
  rw [pm_st1_len, h.1] at hl
  rcases pm_st1_get hj with ⟨e1, e2⟩ | ⟨e1, e2, e3⟩
  · subst e1; subst e2
    exact pm_st1_self hl
  · exact pm_st1_other e1 (h.2 j w e2) e3
theorem pm_le.st2 {L L' : pm_L} (h : pm_le L L') (i : Nat) (v : Value) : pm_le (pm_st2 L i v) (pm_st2 L' i v) := by
  have h1 := h.st1 i v
  refine ⟨by simp only [pm_st2, List.length_set]; exact h1.1, fun j w hj => ?_⟩
  unfold pm_st2 at hj ⊢
  by_cases e : j = i + 1
  · subst e
    exact absurd (pm_set_self hj) (by simp)
  · rw [List.getElem?_set_ne (Ne.symm e)] at hj ⊢
    exact h1.2 j w hj
theorem pm_le.rf (L : pm_L) : pm_le L L := ⟨rfl, fun _ _ h => h⟩
theorem zz_k {v : Value} {nx : Nat} : pm_Sz (op_k v nx) := by
  intro call Q rec a b hc hq hr L st M h
  have hz := hr _ _ _ _ h
  exact hz
theorem mo_k {v : Value} {nx : Nat} : pm_Mo (op_k v nx) := by
  intro call Q rec rec' hr L L' st M hl h
  exact hr _ _ _ _ _ hl h
theorem zz_ild {i nx : Nat} : pm_Sz (op_ild i nx) := by
  intro call Q rec a b hc hq hr L st M h
  obtain ⟨x, g0, h⟩ := h
  have hz := hr _ _ _ _ h
  exact hz
theorem mo_ild {i nx : Nat} : pm_Mo (op_ild i nx) := by
  intro call Q rec rec' hr L L' st M hl h
  obtain ⟨x, g0, h⟩ := h
  exact ⟨x, hl.2 _ _ g0, hr _ _ _ _ _ hl h⟩
theorem zz_lld {i nx : Nat} : pm_Sz (op_lld i nx) := by
  intro call Q rec a b hc hq hr L st M h
  obtain ⟨x, g0, h⟩ := h
  have hz := hr _ _ _ _ h
  exact hz
theorem mo_lld {i nx : Nat} : pm_Mo (op_lld i nx) := by
  intro call Q rec rec' hr L L' st M hl h
  obtain ⟨x, g0, h⟩ := h
  exact ⟨x, hl.2 _ _ g0, hr _ _ _ _ _ hl h⟩
theorem zz_ald {i nx : Nat} : pm_Sz (op_ald i nx) := by
  intro call Q rec a b hc hq hr L st M h
  obtain ⟨x, g0, h⟩ := h
  have hz := hr _ _ _ _ h
  exact hz
theorem mo_ald {i nx : Nat} : pm_Mo (op_ald i nx) := by
  intro call Q rec rec' hr L L' st M hl h
  obtain ⟨x, g0, h⟩ := h
  exact ⟨x, hl.2 _ _ g0, hr _ _ _ _ _ hl h⟩
theorem zz_ist {i nx : Nat} : pm_Sz (op_ist i nx) := by
  intro call Q rec a b hc hq hr L st M h
  obtain ⟨x, st', rfl, h⟩ := h
  have hz := hr _ _ _ _ h
  exact hz
theorem mo_ist {i nx : Nat} : pm_Mo (op_ist i nx) := by
  intro call Q rec rec' hr L L' st M hl h
  obtain ⟨x, st', rfl, h⟩ := h
  exact ⟨x, st', rfl, hr _ _ _ _ _ (hl.st1 _ _) h⟩
theorem zz_lst {i nx : Nat} : pm_Sz (op_lst i nx) := by
  intro call Q rec a b hc hq hr L st M h
  obtain ⟨x, st', rfl, h⟩ := h
  have hz := hr _ _ _ _ h
  exact hz
theorem mo_lst {i nx : Nat} : pm_Mo (op_lst i nx) := by
  intro call Q rec rec' hr L L' st M hl h
  obtain ⟨x, st', rfl, h⟩ := h
  exact ⟨x, st', rfl, hr _ _ _ _ _ (hl.st2 _ _) h⟩
theorem zz_ast {i nx : Nat} : pm_Sz (op_ast i nx) := by
  intro call Q rec a b hc hq hr L st M h
  obtain ⟨x, st', rfl, h⟩ := h
  have hz := hr _ _ _ _ h
  exact hz
theorem mo_ast {i nx : Nat} : pm_Mo (op_ast i nx) := by
  intro call Q rec rec' hr L L' st M hl h
  obtain ⟨x, st', rfl, h⟩ := h
  exact ⟨x, st', rfl, hr _ _ _ _ _ (hl.st1 _ _) h⟩
theorem zz_inc {i : Nat} {n : Int32} {nx : Nat} : pm_Sz (op_inc i n nx) := by
  intro call Q rec a b hc hq hr L st M h
  obtain ⟨x, g0, h⟩ := h
  have hz := hr _ _ _ _ h
  exact hz
theorem mo_inc {i : Nat} {n : Int32} {nx : Nat} : pm_Mo (op_inc i n nx) := by
  intro call Q rec rec' hr L L' st M hl h
  obtain ⟨x, g0, h⟩ := h
  exact ⟨x, hl.2 _ _ g0, hr _ _ _ _ _ (hl.st1 _ _) h⟩
theorem zz_ib {f : Int32 → Int32 → Int32} {nx : Nat} : pm_Sz (op_ib f nx) := by
  intro call Q rec a b hc hq hr L st M h
  obtain ⟨x, y, st', rfl, h⟩ := h
  have hz := hr _ _ _ _ h
  exact hz
theorem mo_ib {f : Int32 → Int32 → Int32} {nx : Nat} : pm_Mo (op_ib f nx) := by
  intro call Q rec rec' hr L L' st M hl h
  obtain ⟨x, y, st', rfl, h⟩ := h
  exact ⟨x, y, st', rfl, hr _ _ _ _ _ hl h⟩
theorem zz_idv {f : Int32 → Int32 → Int32} {nx : Nat} : pm_Sz (op_idv f nx) := by
  intro call Q rec a b hc hq hr L st M h
  obtain ⟨x, y, st', rfl, g1, h⟩ := h
  have hz := hr _ _ _ _ h
  exact hz
theorem mo_idv {f : Int32 → Int32 → Int32} {nx : Nat} : pm_Mo (op_idv f nx) := by
  intro call Q rec rec' hr L L' st M hl h
  obtain ⟨x, y, st', rfl, g1, h⟩ := h
  exact ⟨x, y, st', rfl, g1, hr _ _ _ _ _ hl h⟩
theorem zz_lb {f : Int64 → Int64 → Int64} {nx : Nat} : pm_Sz (op_lb f nx) := by
  intro call Q rec a b hc hq hr L st M h
  obtain ⟨x, y, st', rfl, h⟩ := h
  have hz := hr _ _ _ _ h
  exact hz
theorem mo_lb {f : Int64 → Int64 → Int64} {nx : Nat} : pm_Mo (op_lb f nx) := by
  intro call Q rec rec' hr L L' st M hl h
  obtain ⟨x, y, st', rfl, h⟩ := h
  exact ⟨x, y, st', rfl, hr _ _ _ _ _ hl h⟩
theorem zz_ldv {f : Int64 → Int64 → Int64} {nx : Nat} : pm_Sz (op_ldv f nx) := by
  intro call Q rec a b hc hq hr L st M h
  obtain ⟨x, y, st', rfl, g1, h⟩ := h
  have hz := hr _ _ _ _ h
  exact hz
theorem mo_ldv {f : Int64 → Int64 → Int64} {nx : Nat} : pm_Mo (op_ldv f nx) := by
  intro call Q rec rec' hr L L' st M hl h
  obtain ⟨x, y, st', rfl, g1, h⟩ := h
  exact ⟨x, y, st', rfl, g1, hr _ _ _ _ _ hl h⟩
theorem zz_iu {f : Int32 → Int32} {nx : Nat} : pm_Sz (op_iu f nx) := by
  intro call Q rec a b hc hq hr L st M h
  obtain ⟨x, st', rfl, h⟩ := h
  have hz := hr _ _ _ _ h
  exact hz
theorem mo_iu {f : Int32 → Int32} {nx : Nat} : pm_Mo (op_iu f nx) := by
  intro call Q rec rec' hr L L' st M hl h
  obtain ⟨x, st', rfl, h⟩ := h
  exact ⟨x, st', rfl, hr _ _ _ _ _ hl h⟩
theorem zz_i2l {nx : Nat} : pm_Sz (op_i2l nx) := by
  intro call Q rec a b hc hq hr L st M h
  obtain ⟨x, st', rfl, h⟩ := h
  have hz := hr _ _ _ _ h
  exact hz
theorem mo_i2l {nx : Nat} : pm_Mo (op_i2l nx) := by
  intro call Q rec rec' hr L L' st M hl h
  obtain ⟨x, st', rfl, h⟩ := h
  exact ⟨x, st', rfl, hr _ _ _ _ _ hl h⟩
theorem zz_l2i {nx : Nat} : pm_Sz (op_l2i nx) := by
  intro call Q rec a b hc hq hr L st M h
  obtain ⟨x, st', rfl, h⟩ := h
  have hz := hr _ _ _ _ h
  exact hz
theorem mo_l2i {nx : Nat} : pm_Mo (op_l2i nx) := by
  intro call Q rec rec' hr L L' st M hl h
  obtain ⟨x, st', rfl, h⟩ := h
  exact ⟨x, st', rfl, hr _ _ _ _ _ hl h⟩
theorem zz_lcmp {nx : Nat} : pm_Sz (op_lcmp nx) := by
  intro call Q rec a b hc hq hr L st M h
  obtain ⟨x, y, st', rfl, h⟩ := h
  have hz := hr _ _ _ _ h
  exact hz
theorem mo_lcmp {nx : Nat} : pm_Mo (op_lcmp nx) := by
  intro call Q rec rec' hr L L' st M hl h
  obtain ⟨x, y, st', rfl, h⟩ := h
  exact ⟨x, y, st', rfl, hr _ _ _ _ _ hl h⟩
theorem zz_b2 {c : Int32 → Int32 → Prop} {tg nx : Nat} : pm_Sz (op_b2 c tg nx) := by
  intro call Q rec a b hc hq hr L st M h
  obtain ⟨x, y, st', rfl, ha, hb⟩ := h
  by_cases hx : c x y
  · exact hr _ _ _ _ (ha hx)
  · exact hr _ _ _ _ (hb hx)
theorem mo_b2 {c : Int32 → Int32 → Prop} {tg nx : Nat} : pm_Mo (op_b2 c tg nx) := by
  intro call Q rec rec' hr L L' st M hl h
  obtain ⟨x, y, st', rfl, ha, hb⟩ := h
  exact ⟨x, y, st', rfl, fun q => hr _ _ _ _ _ hl (ha q), fun q => hr _ _ _ _ _ hl (hb q)⟩
theorem zz_b1 {c : Int32 → Prop} {tg nx : Nat} : pm_Sz (op_b1 c tg nx) := by
  intro call Q rec a b hc hq hr L st M h
  obtain ⟨x, st', rfl, ha, hb⟩ := h
  by_cases hx : c x
  · exact hr _ _ _ _ (ha hx)
  · exact hr _ _ _ _ (hb hx)
theorem mo_b1 {c : Int32 → Prop} {tg nx : Nat} : pm_Mo (op_b1 c tg nx) := by
  intro call Q rec rec' hr L L' st M hl h
  obtain ⟨x, st', rfl, ha, hb⟩ := h
  exact ⟨x, st', rfl, fun q => hr _ _ _ _ _ hl (ha q), fun q => hr _ _ _ _ _ hl (hb q)⟩
theorem zz_go {tg : Nat} : pm_Sz (op_go tg) := by
  intro call Q rec a b hc hq hr L st M h
  have hz := hr _ _ _ _ h
  exact hz
theorem mo_go {tg : Nat} : pm_Mo (op_go tg) := by
  intro call Q rec rec' hr L L' st M hl h
  exact hr _ _ _ _ _ hl h
theorem zz_dup {nx : Nat} : pm_Sz (op_dup nx) := by
  intro call Q rec a b hc hq hr L st M h
  obtain ⟨v, st', rfl, g1, h⟩ := h
  have hz := hr _ _ _ _ h
  exact hz
theorem mo_dup {nx : Nat} : pm_Mo (op_dup nx) := by
  intro call Q rec rec' hr L L' st M hl h
  obtain ⟨v, st', rfl, g1, h⟩ := h
  exact ⟨v, st', rfl, g1, hr _ _ _ _ _ hl h⟩
theorem zz_dup2 {nx : Nat} : pm_Sz (op_dup2 nx) := by
  intro call Q rec a b hc hq hr L st M h
  obtain ⟨v, w, st', rfl, g1, g2, h⟩ := h
  have hz := hr _ _ _ _ h
  exact hz
theorem mo_dup2 {nx : Nat} : pm_Mo (op_dup2 nx) := by
  intro call Q rec rec' hr L L' st M hl h
  obtain ⟨v, w, st', rfl, g1, g2, h⟩ := h
  exact ⟨v, w, st', rfl, g1, g2, hr _ _ _ _ _ hl h⟩
theorem zz_sw {f : Int32 → Nat} : pm_Sz (op_sw f) := by
  intro call Q rec a b hc hq hr L st M h
  obtain ⟨x, st', rfl, h⟩ := h
  have hz := hr _ _ _ _ h
  exact hz
theorem mo_sw {f : Int32 → Nat} : pm_Mo (op_sw f) := by
  intro call Q rec rec' hr L L' st M hl h
  obtain ⟨x, st', rfl, h⟩ := h
  exact ⟨x, st', rfl, hr _ _ _ _ _ hl h⟩
theorem zz_gI {c N f nx : Nat} : pm_Sz (op_gI c N f nx) := by
  intro call Q rec a b hc hq hr L st M h
  obtain ⟨k, st', rfl, g1, h⟩ := h
  have hz := hr _ _ _ _ h
  exact hz
theorem mo_gI {c N f nx : Nat} : pm_Mo (op_gI c N f nx) := by
  intro call Q rec rec' hr L L' st M hl h
  obtain ⟨k, st', rfl, g1, h⟩ := h
  exact ⟨k, st', rfl, g1, hr _ _ _ _ _ hl h⟩
theorem zz_gL {c N f nx : Nat} : pm_Sz (op_gL c N f nx) := by
  intro call Q rec a b hc hq hr L st M h
  obtain ⟨k, st', rfl, g1, h⟩ := h
  have hz := hr _ _ _ _ h
  exact hz
theorem mo_gL {c N f nx : Nat} : pm_Mo (op_gL c N f nx) := by
  intro call Q rec rec' hr L L' st M hl h
  obtain ⟨k, st', rfl, g1, h⟩ := h
  exact ⟨k, st', rfl, g1, hr _ _ _ _ _ hl h⟩
theorem zz_gR {c N f nx : Nat} : pm_Sz (op_gR c N f nx) := by
  intro call Q rec a b hc hq hr L st M h
  obtain ⟨k, st', rfl, g1, h⟩ := h
  have hz := hr _ _ _ _ h
  exact hz
theorem mo_gR {c N f nx : Nat} : pm_Mo (op_gR c N f nx) := by
  intro call Q rec rec' hr L L' st M hl h
  obtain ⟨k, st', rfl, g1, h⟩ := h
  exact ⟨k, st', rfl, g1, hr _ _ _ _ _ hl h⟩
theorem zz_pI {c N f nx : Nat} : pm_Sz (op_pI c N f nx) := by
  intro call Q rec a b hc hq hr L st M h
  obtain ⟨v, k, st', rfl, g1, h⟩ := h
  have hz := hr _ _ _ _ h
  exact hz
theorem mo_pI {c N f nx : Nat} : pm_Mo (op_pI c N f nx) := by
  intro call Q rec rec' hr L L' st M hl h
  obtain ⟨v, k, st', rfl, g1, h⟩ := h
  exact ⟨v, k, st', rfl, g1, hr _ _ _ _ _ hl h⟩
theorem zz_pL {c N f nx : Nat} : pm_Sz (op_pL c N f nx) := by
  intro call Q rec a b hc hq hr L st M h
  obtain ⟨v, k, st', rfl, g1, h⟩ := h
  have hz := hr _ _ _ _ h
  exact hz
theorem mo_pL {c N f nx : Nat} : pm_Mo (op_pL c N f nx) := by
  intro call Q rec rec' hr L L' st M hl h
  obtain ⟨v, k, st', rfl, g1, h⟩ := h
  exact ⟨v, k, st', rfl, g1, hr _ _ _ _ _ hl h⟩
theorem zz_pR {c N f nx : Nat} : pm_Sz (op_pR c N f nx) := by
  intro call Q rec a b hc hq hr L st M h
  obtain ⟨v, k, st', rfl, g1, h⟩ := h
  have hz := hr _ _ _ _ h
  exact hz
theorem mo_pR {c N f nx : Nat} : pm_Mo (op_pR c N f nx) := by
  intro call Q rec rec' hr L L' st M hl h
  obtain ⟨v, k, st', rfl, g1, h⟩ := h
  exact ⟨v, k, st', rfl, g1, hr _ _ _ _ _ hl h⟩
theorem zz_iald {nx : Nat} : pm_Sz (op_iald nx) := by
  intro call Q rec a b hc hq hr L st M h
  obtain ⟨i, k, n, st', rfl, g1, g2, h⟩ := h
  have hz := hr _ _ _ _ h
  exact hz
theorem mo_iald {nx : Nat} : pm_Mo (op_iald nx) := by
  intro call Q rec rec' hr L L' st M hl h
  obtain ⟨i, k, n, st', rfl, g1, g2, h⟩ := h
  exact ⟨i, k, n, st', rfl, g1, g2, hr _ _ _ _ _ hl h⟩
theorem zz_lald {nx : Nat} : pm_Sz (op_lald nx) := by
  intro call Q rec a b hc hq hr L st M h
  obtain ⟨i, k, n, st', rfl, g1, g2, h⟩ := h
  have hz := hr _ _ _ _ h
  exact hz
theorem mo_lald {nx : Nat} : pm_Mo (op_lald nx) := by
  intro call Q rec rec' hr L L' st M hl h
  obtain ⟨i, k, n, st', rfl, g1, g2, h⟩ := h
  exact ⟨i, k, n, st', rfl, g1, g2, hr _ _ _ _ _ hl h⟩
theorem zz_bald {t nx : Nat} : pm_Sz (op_bald t nx) := by
  intro call Q rec a b hc hq hr L st M h
  obtain ⟨i, k, n, st', rfl, g1, g2, h⟩ := h
  have hz := hr _ _ _ _ h
  exact hz
theorem mo_bald {t nx : Nat} : pm_Mo (op_bald t nx) := by
  intro call Q rec rec' hr L L' st M hl h
  obtain ⟨i, k, n, st', rfl, g1, g2, h⟩ := h
  exact ⟨i, k, n, st', rfl, g1, g2, hr _ _ _ _ _ hl h⟩
theorem zz_aald {t nx : Nat} : pm_Sz (op_aald t nx) := by
  intro call Q rec a b hc hq hr L st M h
  obtain ⟨i, k, n, st', rfl, g1, g2, h⟩ := h
  have hz := hr _ _ _ _ h
  exact hz
theorem mo_aald {t nx : Nat} : pm_Mo (op_aald t nx) := by
  intro call Q rec rec' hr L L' st M hl h
  obtain ⟨i, k, n, st', rfl, g1, g2, h⟩ := h
  exact ⟨i, k, n, st', rfl, g1, g2, hr _ _ _ _ _ hl h⟩
theorem zz_iast {nx : Nat} : pm_Sz (op_iast nx) := by
  intro call Q rec a b hc hq hr L st M h
  obtain ⟨x, i, k, n, st', rfl, g1, g2, h⟩ := h
  have hz := hr _ _ _ _ h
  exact hz
theorem mo_iast {nx : Nat} : pm_Mo (op_iast nx) := by
  intro call Q rec rec' hr L L' st M hl h
  obtain ⟨x, i, k, n, st', rfl, g1, g2, h⟩ := h
  exact ⟨x, i, k, n, st', rfl, g1, g2, hr _ _ _ _ _ hl h⟩
theorem zz_last {nx : Nat} : pm_Sz (op_last nx) := by
  intro call Q rec a b hc hq hr L st M h
  obtain ⟨x, i, k, n, st', rfl, g1, g2, h⟩ := h
  have hz := hr _ _ _ _ h
  exact hz
theorem mo_last {nx : Nat} : pm_Mo (op_last nx) := by
  intro call Q rec rec' hr L L' st M hl h
  obtain ⟨x, i, k, n, st', rfl, g1, g2, h⟩ := h
  exact ⟨x, i, k, n, st', rfl, g1, g2, hr _ _ _ _ _ hl h⟩
theorem zz_bast {nx : Nat} : pm_Sz (op_bast nx) := by
  intro call Q rec a b hc hq hr L st M h
  obtain ⟨x, i, k, n, st', rfl, g1, g2, h⟩ := h
  have hz := hr _ _ _ _ h
  exact hz
theorem mo_bast {nx : Nat} : pm_Mo (op_bast nx) := by
  intro call Q rec rec' hr L L' st M hl h
  obtain ⟨x, i, k, n, st', rfl, g1, g2, h⟩ := h
  exact ⟨x, i, k, n, st', rfl, g1, g2, hr _ _ _ _ _ hl h⟩
theorem zz_zast {nx : Nat} : pm_Sz (op_zast nx) := by
  intro call Q rec a b hc hq hr L st M h
  obtain ⟨x, i, k, n, st', rfl, g1, g2, h⟩ := h
  have hz := hr _ _ _ _ h
  exact hz
theorem mo_zast {nx : Nat} : pm_Mo (op_zast nx) := by
  intro call Q rec rec' hr L L' st M hl h
  obtain ⟨x, i, k, n, st', rfl, g1, g2, h⟩ := h
  exact ⟨x, i, k, n, st', rfl, g1, g2, hr _ _ _ _ _ hl h⟩
theorem zz_aast {t c N nx : Nat} : pm_Sz (op_aast t c N nx) := by
  intro call Q rec a b hc hq hr L st M h
  obtain ⟨v, i, k, n, st', rfl, g1, g2, g3, h⟩ := h
  have hz := hr _ _ _ _ h
  exact hz
theorem mo_aast {t c N nx : Nat} : pm_Mo (op_aast t c N nx) := by
  intro call Q rec rec' hr L L' st M hl h
  obtain ⟨v, i, k, n, st', rfl, g1, g2, g3, h⟩ := h
  exact ⟨v, i, k, n, st', rfl, g1, g2, g3, hr _ _ _ _ _ hl h⟩
theorem zz_alen {nx : Nat} : pm_Sz (op_alen nx) := by
  intro call Q rec a b hc hq hr L st M h
  obtain ⟨k, t, n, st', rfl, g1, g2, g3, h⟩ := h
  have hz := hr _ _ _ _ h
  exact hz
theorem mo_alen {nx : Nat} : pm_Mo (op_alen nx) := by
  intro call Q rec rec' hr L L' st M hl h
  obtain ⟨k, t, n, st', rfl, g1, g2, g3, h⟩ := h
  exact ⟨k, t, n, st', rfl, g1, g2, g3, hr _ _ _ _ _ hl h⟩
theorem zz_new {c N nx : Nat} : pm_Sz (op_new c N nx) := by
  intro call Q rec a b hc hq hr L st M h
  have hz := hr _ _ _ _ h
  rw [pm_nw_zC, pm_nw_zS] at hz
  omega
theorem mo_new {c N nx : Nat} : pm_Mo (op_new c N nx) := by
  intro call Q rec rec' hr L L' st M hl h
  exact hr _ _ _ _ _ hl h
theorem zz_nwa {t nx : Nat} : pm_Sz (op_nwa t nx) := by
  intro call Q rec a b hc hq hr L st M h
  obtain ⟨n, st', rfl, g1, g2, h⟩ := h
  have hz := hr _ _ _ _ h
  rw [pm_nw_zC, pm_nw_zS] at hz
  omega
theorem mo_nwa {t nx : Nat} : pm_Mo (op_nwa t nx) := by
  intro call Q rec rec' hr L L' st M hl h
  obtain ⟨n, st', rfl, g1, g2, h⟩ := h
  exact ⟨n, st', rfl, g1, g2, hr _ _ _ _ _ hl h⟩
theorem zz_call {j na nx : Nat} : pm_Sz (op_call j na nx) := by
  intro call Q rec a b hc hq hr L st M h
  obtain ⟨As, rest, r, M', rfl, g1, g2, g3, h⟩ := h
  have hz := hr _ _ _ _ h
  have hy := hc _ _ _ _ _ g3
  omega
theorem mo_call {j na nx : Nat} : pm_Mo (op_call j na nx) := by
  intro call Q rec rec' hr L L' st M hl h
  obtain ⟨As, rest, r, M', rfl, g1, g2, g3, h⟩ := h
  exact ⟨As, rest, r, M', rfl, g1, g2, g3, hr _ _ _ _ _ hl h⟩
theorem zz_cav {j na c N nx : Nat} : pm_Sz (op_cav j na c N nx) := by
  intro call Q rec a b hc hq hr L st M h
  obtain ⟨k, As, rest, r, M', rfl, g1, g2, g3, g4, h⟩ := h
  have hz := hr _ _ _ _ h
  have hy := hc _ _ _ _ _ g4
  omega
theorem mo_cav {j na c N nx : Nat} : pm_Mo (op_cav j na c N nx) := by
  intro call Q rec rec' hr L L' st M hl h
  obtain ⟨k, As, rest, r, M', rfl, g1, g2, g3, g4, h⟩ := h
  exact ⟨k, As, rest, r, M', rfl, g1, g2, g3, g4, hr _ _ _ _ _ hl h⟩
theorem zz_oin {nx : Nat} : pm_Sz (op_oin nx) := by
  intro call Q rec a b hc hq hr L st M h
  obtain ⟨k, st', rfl, g1, h⟩ := h
  have hz := hr _ _ _ _ h
  exact hz
theorem mo_oin {nx : Nat} : pm_Mo (op_oin nx) := by
  intro call Q rec rec' hr L L' st M hl h
  obtain ⟨k, st', rfl, g1, h⟩ := h
  exact ⟨k, st', rfl, g1, hr _ _ _ _ _ hl h⟩
theorem zz_acp {nx : Nat} : pm_Sz (op_acp nx) := by
  intro call Q rec a b hc hq hr L st M h
  obtain ⟨n, dp, sp, dst, src, n0, n1, st', rfl, g1, g2, g3, g4, g5, g6, g7, g8, h⟩ := h
  have hz := hr _ _ _ _ h
  exact hz
theorem mo_acp {nx : Nat} : pm_Mo (op_acp nx) := by
  intro call Q rec rec' hr L L' st M hl h
  obtain ⟨n, dp, sp, dst, src, n0, n1, st', rfl, g1, g2, g3, g4, g5, g6, g7, g8, h⟩ := h
  exact ⟨n, dp, sp, dst, src, n0, n1, st', rfl, g1, g2, g3, g4, g5, g6, g7, g8, hr _ _ _ _ _ hl h⟩
theorem zz_iret : pm_Sz (op_iret) := by
  intro call Q rec a b hc hq hr L st M h
  obtain ⟨v, rfl, h⟩ := h
  exact hq _ _ h
theorem mo_iret : pm_Mo (op_iret) := by
  intro call Q rec rec' hr L L' st M hl h
  obtain ⟨v, rfl, h⟩ := h
  exact ⟨v, rfl, h⟩
theorem zz_zret : pm_Sz (op_zret) := by
  intro call Q rec a b hc hq hr L st M h
  obtain ⟨v, rfl, g1, h⟩ := h
  exact hq _ _ h
theorem mo_zret : pm_Mo (op_zret) := by
  intro call Q rec rec' hr L L' st M hl h
  obtain ⟨v, rfl, g1, h⟩ := h
  exact ⟨v, rfl, g1, h⟩
theorem zz_lret : pm_Sz (op_lret) := by
  intro call Q rec a b hc hq hr L st M h
  obtain ⟨v, rfl, h⟩ := h
  exact hq _ _ h
theorem mo_lret : pm_Mo (op_lret) := by
  intro call Q rec rec' hr L L' st M hl h
  obtain ⟨v, rfl, h⟩ := h
  exact ⟨v, rfl, h⟩
theorem zz_vret : pm_Sz (op_vret) := by
  intro call Q rec a b hc hq hr L st M h
  obtain ⟨rfl, h⟩ := h
  exact hq _ _ h
theorem mo_vret : pm_Mo (op_vret) := by
  intro call Q rec rec' hr L L' st M hl h
  obtain ⟨rfl, h⟩ := h
  exact ⟨rfl, h⟩

/-! how each of both keeps its state, and changes it at one place -/
section INV
variable {a : As} {M M' : pm_M}
/-- IC from its parts, where a set of cells has changed -/
theorem IC.row {S : Nat → Prop} {r : Nat} {x : Option (List Int32)} (h : IC a M) (hr : r < 6) (hs : pm_S S M M') (hn : ∀ k, S k → (27 ≤ k ∧ k ≤ 104 ∧ k ≠ 54) ∨ (20 ≤ k ∧ k ≤ 24) ∨ k = 106 + 2 * r ∨ k = 106 + 2 * r + 1) (hx : CRow M' (106 + 2 * r) x) : IC (sR' a r x) M' := by
  have e : ∀ k, ¬ ((27 ≤ k ∧ k ≤ 104 ∧ k ≠ 54) ∨ (20 ≤ k ∧ k ≤ 24) ∨ k = 106 + 2 * r ∨ k = 106 + 2 * r + 1) → ∀ i, gI M' k i = gI M k i := fun k hk i => hs.i (fun q => hk (hn k q)) i
  have e2 : ∀ k, ¬ ((27 ≤ k ∧ k ≤ 104 ∧ k ≠ 54) ∨ (20 ≤ k ∧ k ≤ 24) ∨ k = 106 + 2 * r ∨ k = 106 + 2 * r + 1) → ∀ i, gL M' k i = gL M k i := fun k hk i => hs.l (fun q => hk (hn k q)) i
  refine ⟨hs.ok h.1, fun j hj => ?_, fun j hj => (h.2.2.1 j hj).kept (e _ (by omega)) (e _ (by omega)), h.2.2.2.1.moved (fun k _ hk i => e k (by omega) i), ?_, fun k hk => (h.2.2.2.2.2.1 k hk).kept (e _ (by omega)) (e _ (by omega)) (e 6 (by omega) k), h.2.2.2.2.2.2.1.kept (e 25 (by omega) 2) (e2 26 (by omega)) (e 54 (by omega) 0), fun f hf => ?_, ?_, ?_, ?_⟩
  · by_cases q : j = r
    · subst q
      show CRow M' _ (if j = j then x else aR a j)
      rw [if_pos rfl]
      exact hx
    · show CRow M' _ (if j = r then x else aR a j)
      rw [if_neg q]
      exact (h.2.1 j hj).kept (e _ (by omega)) (e _ (by omega))
  · have := h.2.2.2.2.1
    show pm_Ro M' 3 ((aP a).map nI)
    unfold pm_Ro at this ⊢
    simp only [e 3 (by omega), e (3 + 1) (by omega)]
    exact this
  · rw [e 105 (by omega)]; exact h.2.2.2.2.2.2.2.1 f hf
  · rw [e 0 (by omega)]; exact h.2.2.2.2.2.2.2.2.1
  · rw [e 0 (by omega)]; exact h.2.2.2.2.2.2.2.2.2.1
  · rw [e2 0 (by omega)]; exact h.2.2.2.2.2.2.2.2.2.2
theorem IC.own {v : Int32} {i : Nat} (h : IC a M) (hi : i = 17 ∨ i = 18) : pm_ok (sI M 0 i v) ∧ (∀ j, j < 6 → CRow (sI M 0 i v) (106 + 2 * j) (aR a j)) ∧ (∀ j, j < 4 → CTxt (sI M 0 i v) (118 + 2 * j) (aT a j)) ∧ CC (aC a) (sI M 0 i v) ∧ pm_Ro (sI M 0 i v) 3 ((aP a).map nI) ∧ (∀ k, k < 3 → CKep (sI M 0 i v) k (aK a k)) ∧ CY (aC a) (sI M 0 i v) ∧ (∀ f, f < 6 → gI (sI M 0 i v) 105 f = aF a f) := by
  have e : ∀ k, k ≠ 0 → ∀ j, gI (sI M 0 i v) k j = gI M k j := fun k hk j => gI_ne (Or.inl hk)
  refine ⟨h.1, fun j hj => (h.2.1 j hj).kept (e _ (by omega)) (e _ (by omega)), fun j hj => (h.2.2.1 j hj).kept (e _ (by omega)) (e _ (by omega)), h.2.2.2.1.moved (fun k hk _ i => e k (by omega) i), ?_, fun k hk => (h.2.2.2.2.2.1 k hk).kept (e _ (by omega)) (e _ (by omega)) (e 6 (by omega) k), h.2.2.2.2.2.2.1.kept (e 25 (by omega) 2) (fun _ => rfl) (e 54 (by omega) 0), fun f hf => ?_⟩
  · have := h.2.2.2.2.1
    unfold pm_Ro at this ⊢
    simp only [e 3 (by omega), e (3 + 1) (by omega)]
    exact this
  · rw [e 105 (by omega)]; exact h.2.2.2.2.2.2.2.1 f hf
theorem IC.told {v : Int32} (h : IC a M) : IC (sA' a v) (sI M 0 18 v) := by
  obtain ⟨h1, h2, h3, h4, h5, h6, h7, h8⟩ := h.own (v := v) (i := 18) (Or.inr rfl)
  refine ⟨h1, h2, h3, h4, h5, h6, h7, h8, ?_, gI_same _ _ _ _, h.2.2.2.2.2.2.2.2.2.2⟩
  rw [gI_ne (Or.inr (by decide))]
  exact h.2.2.2.2.2.2.2.2.1
theorem IC.up {v : Int64} (h : IC a M) : IC (sU' a v) (sL M 0 19 v) := by
  refine ⟨h.1, h.2.1, h.2.2.1, h.2.2.2.1, h.2.2.2.2.1, h.2.2.2.2.2.1, h.2.2.2.2.2.2.1.kept rfl (fun i => by rw [gL_sL, if_neg (fun z => by have := z.1; omega)]) rfl, h.2.2.2.2.2.2.2.1, h.2.2.2.2.2.2.2.2.1, h.2.2.2.2.2.2.2.2.2.1, ?_⟩
  rw [gL_sL, if_pos ⟨rfl, rfl⟩]
  rfl
theorem IC.fd {f : Nat} (h : IC a M) (hf : f < 6) : IC (fd a f) (sI (sI M 0 17 (nI f)) 105 f (gI M 105 f + 1)) := by
  obtain ⟨h1, h2, h3, h4, h5, h6, h7, h8⟩ := h.own (v := nI f) (i := 17) (Or.inl rfl)
  have e : ∀ k, k ≠ 105 → ∀ j, gI (sI (sI M 0 17 (nI f)) 105 f (gI M 105 f + 1)) k j = gI (sI M 0 17 (nI f)) k j := fun k hk j => gI_ne (Or.inl hk)
  refine ⟨h1, fun j hj => (h2 j hj).kept (e _ (by omega)) (e _ (by omega)), fun j hj => (h3 j hj).kept (e _ (by omega)) (e _ (by omega)), h4.moved (fun k hk _ i => e k (by omega) i), ?_, fun k hk => (h6 k hk).kept (e _ (by omega)) (e _ (by omega)) (e 6 (by omega) k), h7.kept (e 25 (by omega) 2) (fun _ => rfl) (e 54 (by omega) 0), fun g hg => ?_, ?_, ?_, h.2.2.2.2.2.2.2.2.2.2⟩
  · unfold pm_Ro at h5 ⊢
    simp only [e 3 (by omega), e (3 + 1) (by omega)]
    exact h5
  · show gI _ 105 g = if g = f then aF a g + 1 else aF a g
    by_cases q : g = f
    · subst q
      rw [gI_same, if_pos rfl, h.2.2.2.2.2.2.2.1 g hg]
    · rw [gI_ne (Or.inr q), if_neg q]
      exact h8 g hg
  · rw [e 0 (by omega), gI_same]
    rfl
  · rw [e 0 (by omega), gI_ne (Or.inr (by decide))]
    exact h.2.2.2.2.2.2.2.2.2.1
/-! the reference -/
/-- places that hold the reference's state, or are none of its own -/
abbrev mkp (k i : Nat) : Prop := k < 132 ∨ k = 133 ∨ k = 134 ∨ k = 135 ∨ (137 ≤ k ∧ k ≤ 143) ∨ (149 ≤ k ∧ k ≤ 153) ∨ (k = 132 ∧ (i = 0 ∨ i = 2 ∨ i = 3 ∨ i = 9 ∨ i = 10 ∨ i = 11 ∨ i = 15 ∨ i = 17 ∨ i = 33))
def Msc (M M' : pm_M) : Prop := M'.1 = M.1 ∧ (∀ k i, gR M' k i = gR M k i) ∧ ∀ k i, mkp k i → gI M' k i = gI M k i ∧ gL M' k i = gL M k i
theorem Msc.rf (M : pm_M) : Msc M M := ⟨rfl, fun _ _ => rfl, fun _ _ _ => ⟨rfl, rfl⟩⟩
theorem Msc.tr {M M1 M2 : pm_M} (h : Msc M M1) (g : Msc M1 M2) : Msc M M2 := ⟨g.1.trans h.1, fun k i => (g.2.1 k i).trans (h.2.1 k i), fun k i hk => ⟨(g.2.2 k i hk).1.trans (h.2.2 k i hk).1, (g.2.2 k i hk).2.trans (h.2.2 k i hk).2⟩⟩
theorem Msc.sI {M M1 : pm_M} (h : Msc M M1) {k i : Nat} (v : Int32) (hk : ¬ mkp k i) : Msc M (sI M1 k i v) := by
  refine ⟨h.1, h.2.1, fun q j hq => ⟨?_, (h.2.2 q j hq).2⟩⟩
  rw [gI_sI, if_neg (fun z => hk (by rw [← z.1, ← z.2]; exact hq))]
  exact (h.2.2 q j hq).1
theorem Msc.sL {M M1 : pm_M} (h : Msc M M1) {k i : Nat} (v : Int64) (hk : ¬ mkp k i) : Msc M (sL M1 k i v) := by
  refine ⟨h.1, h.2.1, fun q j hq => ⟨(h.2.2 q j hq).1, ?_⟩⟩
  rw [gL_sL, if_neg (fun z => hk (by rw [← z.1, ← z.2]; exact hq))]
  exact (h.2.2 q j hq).2
theorem Msc.ok {M M1 : pm_M} (h : Msc M M1) (ho : pm_ok M) : pm_ok M1 := ⟨h.1.trans ho.1, fun k f hf => (h.2.1 k f).trans (ho.2 k f hf)⟩
theorem Msc.i {M M1 : pm_M} (h : Msc M M1) (k i : Nat) (hk : mkp k i) : gI M1 k i = gI M k i := (h.2.2 k i hk).1
theorem Msc.fr {M M1 : pm_M} (h : Msc M M1) : Mfr M M1 := fun k hk i => h.2.2 k i (Or.inl hk)
theorem MC.sc {c : Cf} {M M1 : pm_M} (h : MC c M) (hs : Msc M M1) : MC c M1 := h.moved (fun i hi => hs.i _ _ (by omega)) (fun k hk i => hs.i _ _ (by omega))
theorem MRow.sc {M M1 : pm_M} {r : Nat} {x : Option (List Int32)} (h : MRow M r x) (hs : Msc M M1) : MRow M1 r x := by
  unfold MRow at h ⊢
  simp only [fun i => hs.i 134 i (by omega), fun i => hs.i 135 i (by omega)]
  exact h
theorem IM.sc (h : IM a M) (hs : Msc M M') : IM a M' := by
  refine ⟨hs.ok h.1, fun j hj => (h.2.1 j hj).sc hs, fun j hj => ?_, h.2.2.2.1.sc hs, ?_, fun k hk => ?_, fun f hf => ?_, ?_, ?_, ?_⟩
  · have := h.2.2.1 j hj
    unfold MTxt at this ⊢
    simp only [fun i => hs.i 137 i (by omega), fun i => hs.i 138 i (by omega)]
    exact this
  · have := h.2.2.2.2.1
    unfold MRop at this ⊢
    simp only [hs.i 132 33 (by omega), fun i => hs.i 149 i (by omega)]
    exact this
  · have := h.2.2.2.2.2.1 k hk
    unfold MKep at this ⊢
    simp only [fun i => hs.i 150 i (by omega), fun i => hs.i 151 i (by omega), fun i => hs.i 152 i (by omega), fun i => hs.i 153 i (by omega)]
    exact this
  · rw [hs.i 133 f (by omega)]; exact h.2.2.2.2.2.2.1 f hf
  · rw [hs.i 132 0 (by omega)]; exact h.2.2.2.2.2.2.2.1
  · rw [hs.i 132 2 (by omega)]; exact h.2.2.2.2.2.2.2.2.1
  · rw [(hs.2.2 132 3 (by omega)).2]; exact h.2.2.2.2.2.2.2.2.2
theorem IM.told {v : Int32} (h : IM a M) : IM (sA' a v) (sI M 132 2 v) := by
  have e : ∀ k, k ≠ 132 → ∀ j, gI (sI M 132 2 v) k j = gI M k j := fun k hk j => gI_ne (Or.inl hk)
  have e2 : ∀ j, j ≠ 2 → gI (sI M 132 2 v) 132 j = gI M 132 j := fun j hj => gI_ne (Or.inr hj)
  refine ⟨h.1, fun j hj => ?_, fun j hj => ?_, h.2.2.2.1.moved (fun i hi => e2 i (by omega)) (fun k hk i => e k (by omega) i), ?_, fun k hk => ?_, fun f hf => ?_, ?_, gI_same _ _ _ _, h.2.2.2.2.2.2.2.2.2⟩
  · have := h.2.1 j hj
    show MRow _ j (aR a j)
    unfold MRow at this ⊢
    simp only [e 134 (by decide), e 135 (by decide)]
    exact this
  · have := h.2.2.1 j hj
    show MTxt _ j (aT a j)
    unfold MTxt at this ⊢
    simp only [e 137 (by decide), e 138 (by decide)]
    exact this
  · have := h.2.2.2.2.1
    show MRop _ (aP a)
    unfold MRop at this ⊢
    simp only [e2 33 (by decide), e 149 (by decide)]
    exact this
  · have := h.2.2.2.2.2.1 k hk
    show MKep _ k (aK a k)
    unfold MKep at this ⊢
    simp only [e 150 (by decide), e 151 (by decide), e 152 (by decide), e 153 (by decide)]
    exact this
  · rw [e 133 (by decide)]; exact h.2.2.2.2.2.2.1 f hf
  · rw [e2 0 (by decide)]; exact h.2.2.2.2.2.2.2.1
theorem IM.fd {f : Nat} (h : IM a M) (hf : f < 6) : IM (fd a f) (sI (sI M 132 0 (nI f)) 133 f (gI M 133 f + 1)) := by
  have e : ∀ k, k ≠ 132 → k ≠ 133 → ∀ j, gI (sI (sI M 132 0 (nI f)) 133 f (gI M 133 f + 1)) k j = gI M k j := fun k h1 h2 j => (gI_ne (Or.inl h2)).trans (gI_ne (Or.inl h1))
  have e2 : ∀ j, j ≠ 0 → gI (sI (sI M 132 0 (nI f)) 133 f (gI M 133 f + 1)) 132 j = gI M 132 j := fun j hj => (gI_ne (Or.inl (by decide))).trans (gI_ne (Or.inr hj))
  refine ⟨h.1, fun j hj => ?_, fun j hj => ?_, h.2.2.2.1.moved (fun i hi => e2 i (by omega)) (fun k hk i => e k (by omega) (by omega) i), ?_, fun k hk => ?_, fun g hg => ?_, ?_, ?_, h.2.2.2.2.2.2.2.2.2⟩
  · have := h.2.1 j hj
    show MRow _ j (aR a j)
    unfold MRow at this ⊢
    simp only [e 134 (by decide) (by decide), e 135 (by decide) (by decide)]
    exact this
  · have := h.2.2.1 j hj
    show MTxt _ j (aT a j)
    unfold MTxt at this ⊢
    simp only [e 137 (by decide) (by decide), e 138 (by decide) (by decide)]
    exact this
  · have := h.2.2.2.2.1
    show MRop _ (aP a)
    unfold MRop at this ⊢
    simp only [e2 33 (by decide), e 149 (by decide) (by decide)]
    exact this
  · have := h.2.2.2.2.2.1 k hk
    show MKep _ k (aK a k)
    unfold MKep at this ⊢
    simp only [e 150 (by decide) (by decide), e 151 (by decide) (by decide), e 152 (by decide) (by decide), e 153 (by decide) (by decide)]
    exact this
  · show gI _ 133 g = if g = f then aF a g + 1 else aF a g
    by_cases q : g = f
    · subst q
      rw [gI_same, if_pos rfl, h.2.2.2.2.2.2.1 g hg]
    · rw [gI_ne (Or.inr q), if_neg q, gI_ne (Or.inl (by decide))]
      exact h.2.2.2.2.2.2.1 g hg
  · rw [gI_ne (Or.inl (by decide)), gI_same]
    rfl
  · rw [e2 2 (by decide)]
    exact h.2.2.2.2.2.2.2.2.1
/-- a ROW of the reference anew: its size, its places, nothing else but scratch -/
theorem IM.row {r : Nat} {x : Option (List Int32)} (h : IM a M) (ho : pm_ok M') (hf : ∀ k i, mkp k i → ¬ (k = 134 ∧ i = r) → ¬ (k = 135 ∧ 40 * r ≤ i ∧ i < 40 * r + 40) → gI M' k i = gI M k i) (hg : gL M' 132 3 = gL M 132 3) (hx : MRow M' r x) : IM (sR' a r x) M' := by
  refine ⟨ho, fun j hj => ?_, fun j hj => ?_, h.2.2.2.1.moved (fun i hi => hf 132 i (by omega) (by omega) (by omega)) (fun k hk i => hf k i (by omega) (by omega) (by omega)), ?_, fun k hk => ?_, fun f hff => ?_, ?_, ?_, ?_⟩
  · by_cases q : j = r
    · subst q
      show MRow M' _ (if j = j then x else aR a j)
      rw [if_pos rfl]
      exact hx
    · show MRow M' _ (if j = r then x else aR a j)
      rw [if_neg q]
      have := h.2.1 j hj
      unfold MRow at this ⊢
      rw [hf 134 j (by omega) (by omega) (by omega)]
      cases hx : aR a j with
      | none => rw [hx] at this; exact this
      | some l =>
        rw [hx] at this
        exact ⟨this.1, this.2.1, fun i hi => by rw [hf 135 (40 * j + i) (by omega) (by omega) (by have := this.2.1; omega)]; exact this.2.2 i hi⟩
  · have := h.2.2.1 j hj
    show MTxt _ j (aT a j)
    unfold MTxt at this ⊢
    simp only [fun i => hf 137 i (by omega) (by omega) (by omega), fun i => hf 138 i (by omega) (by omega) (by omega)]
    exact this
  · have := h.2.2.2.2.1
    show MRop _ (aP a)
    unfold MRop at this ⊢
    simp only [hf 132 33 (by omega) (by omega) (by omega), fun i => hf 149 i (by omega) (by omega) (by omega)]
    exact this
  · have := h.2.2.2.2.2.1 k hk
    show MKep _ k (aK a k)
    unfold MKep at this ⊢
    simp only [fun i => hf 150 i (by omega) (by omega) (by omega), fun i => hf 151 i (by omega) (by omega) (by omega), fun i => hf 152 i (by omega) (by omega) (by omega), fun i => hf 153 i (by omega) (by omega) (by omega)]
    exact this
  · rw [hf 133 f (by omega) (by omega) (by omega)]; exact h.2.2.2.2.2.2.1 f hff
  · rw [hf 132 0 (by omega) (by omega) (by omega)]; exact h.2.2.2.2.2.2.2.1
  · rw [hf 132 2 (by omega) (by omega) (by omega)]; exact h.2.2.2.2.2.2.2.2.1
  · rw [hg]; exact h.2.2.2.2.2.2.2.2.2
end INV

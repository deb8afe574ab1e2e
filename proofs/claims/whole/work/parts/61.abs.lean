/-! THE STATE that both hold: rows, texts, craft, rope, kept ropes, findings, what is told -/
abbrev As : Type := (Nat → Option (List Int32)) × (Nat → Option (List Int32)) × Cf × List Nat × (Nat → Option (List Nat × Nat)) × (Nat → Int32) × Int32 × Int32 × Int64
def aR (a : As) : Nat → Option (List Int32) := a.1
def aT (a : As) : Nat → Option (List Int32) := a.2.1
def aC (a : As) : Cf := a.2.2.1
def aP (a : As) : List Nat := a.2.2.2.1
def aK (a : As) : Nat → Option (List Nat × Nat) := a.2.2.2.2.1
def aF (a : As) : Nat → Int32 := a.2.2.2.2.2.1
def aL (a : As) : Int32 := a.2.2.2.2.2.2.1
def aA (a : As) : Int32 := a.2.2.2.2.2.2.2.1
def aU (a : As) : Int64 := a.2.2.2.2.2.2.2.2
def aw (a : As) : Prop := cf_wf (aC a) ∧ kn (aC a) (aP a) ∧ (aP a).length ≤ 20 ∧ (∀ k l n, k < 3 → aK a k = some (l, n) → kn (aC a) l ∧ l.length ≤ 20 ∧ cf_gir (aC a) ≤ n ∧ n ≤ 99) ∧ (∀ t l, t < 4 → aT a t = some l → l.length ≤ 80)
/-! setters -/
def sR' (a : As) (r : Nat) (x : Option (List Int32)) : As := (fun j => if j = r then x else aR a j, a.2)
def sT' (a : As) (r : Nat) (x : Option (List Int32)) : As := (a.1, fun j => if j = r then x else aT a j, a.2.2)
def sA' (a : As) (v : Int32) : As := (a.1, a.2.1, a.2.2.1, a.2.2.2.1, a.2.2.2.2.1, a.2.2.2.2.2.1, a.2.2.2.2.2.2.1, v, a.2.2.2.2.2.2.2.2)
def sU' (a : As) (v : Int64) : As := (a.1, a.2.1, a.2.2.1, a.2.2.2.1, a.2.2.2.2.1, a.2.2.2.2.2.1, a.2.2.2.2.2.2.1, a.2.2.2.2.2.2.2.1, v)
def sP' (a : As) (ws : List Nat) : As := (a.1, a.2.1, a.2.2.1, ws, a.2.2.2.2)
def sC' (a : As) (c : Cf) : As := (a.1, a.2.1, c, a.2.2.2)
def sK' (a : As) (k : Nat) (x : Option (List Nat × Nat)) : As := (a.1, a.2.1, a.2.2.1, a.2.2.2.1, fun j => if j = k then x else aK a j, a.2.2.2.2.2)
/-- a FINDING -/
def fd (a : As) (f : Nat) : As := (a.1, a.2.1, a.2.2.1, a.2.2.2.1, a.2.2.2.2.1, fun j => if j = f then aF a j + 1 else aF a j, nI f, aA a, aU a)
/-! counting ropes -/
def sk (f : Nat → Nat) : Nat → Nat
  | 0 => 0
  | n + 1 => sk f n + f n
def cnt (c : Cf) : Nat → Nat → Nat → Nat
  | 0, last, room => if em c last ≤ room then 1 else 0
  | l + 1, last, room => sk (fun k => if bar c last k = true then 0 else if tk c last k ≤ room then cnt c l k (room - tk c last k) else 0) (cf_n c)
theorem sk_le {f : Nat → Nat} {b : Nat} : ∀ n, (∀ k, k < n → f k ≤ b) → sk f n ≤ n * b
  | 0, _ => by simp [sk]
  | n + 1, h => by
    have h1 := sk_le n (fun k hk => h k (by omega))
    have h2 := h n (by omega)
    simp only [sk]
    rw [Nat.add_mul, Nat.one_mul]
    omega
theorem cnt_le {c : Cf} (hw : cf_wf c) : ∀ l last room, cnt c l last room ≤ 6 ^ l
  | 0, last, room => by simp only [cnt]; split <;> simp
  | l + 1, last, room => by
    have h := sk_le (f := fun k => if bar c last k = true then 0 else if tk c last k ≤ room then cnt c l k (room - tk c last k) else 0) (b := 6 ^ l) (cf_n c) (fun k _ => by
      split
      · exact Nat.zero_le _
      · split
        · exact cnt_le hw l k _
        · exact Nat.zero_le _)
    have h2 : cf_n c * 6 ^ l ≤ 6 * 6 ^ l := Nat.mul_le_mul_right _ hw.1
    simp only [cnt]
    rw [Nat.pow_succ, Nat.mul_comm]
    omega
/-! what the class holds -/
def CRow (M : pm_M) (o : Nat) (x : Option (List Int32)) : Prop := match x with
  | none => gI M o 1 = -1
  | some l => pm_Ro M o l
def CTxt (M : pm_M) (o : Nat) (x : Option (List Int32)) : Prop := match x with
  | none => gI M o 1 = -1
  | some l => gI M o 1 = nI l.length ∧ l.length ≤ 80 ∧ ∀ i, i < l.length → gI M (o + 1) i = l.getD i 0
def CKep (M : pm_M) (k : Nat) (x : Option (List Nat × Nat)) : Prop := match x with
  | none => gI M (126 + 2 * k) 1 = -1
  | some (l, n) => pm_Ro M (126 + 2 * k) (l.map nI) ∧ gI M 6 k = nI n
def CY (c : Cf) (M : pm_M) : Prop := gI M 54 0 = 0 ∧ ∃ lv, lv ≤ 21 ∧ gI M 25 2 = nI lv ∧ ∀ level last room, level < lv → lst c last → room < 100 → gL M 26 ((level * 7 + last) * 100 + room) = lN (cnt c level last room)
def IC (a : As) (M : pm_M) : Prop := pm_ok M ∧ (∀ j, j < 6 → CRow M (106 + 2 * j) (aR a j)) ∧ (∀ j, j < 4 → CTxt M (118 + 2 * j) (aT a j)) ∧ CC (aC a) M ∧ pm_Ro M 3 ((aP a).map nI) ∧ (∀ k, k < 3 → CKep M k (aK a k)) ∧ CY (aC a) M ∧
  (∀ f, f < 6 → gI M 105 f = aF a f) ∧ gI M 0 17 = aL a ∧ gI M 0 18 = aA a ∧ gL M 0 19 = aU a
/-! what the reference holds -/
def MRow (M : pm_M) (r : Nat) (x : Option (List Int32)) : Prop := match x with
  | none => gI M 134 r = -1
  | some l => gI M 134 r = nI l.length ∧ l.length ≤ 40 ∧ ∀ i, i < l.length → gI M 135 (40 * r + i) = l.getD i 0
def MTxt (M : pm_M) (t : Nat) (x : Option (List Int32)) : Prop := match x with
  | none => gI M 137 t = -1
  | some l => gI M 137 t = nI l.length ∧ l.length ≤ 80 ∧ ∀ i, i < l.length → gI M 138 (80 * t + i) = l.getD i 0
def MKep (M : pm_M) (k : Nat) (x : Option (List Nat × Nat)) : Prop := match x with
  | none => gI M 153 k = 0 ∨ gI M 150 k = -1
  | some (l, n) => gI M 153 k = 1 ∧ gI M 150 k = nI l.length ∧ gI M 151 k = nI n ∧ ∀ i, i < l.length → gI M 152 (20 * k + i) = nI (l.getD i 0)
def MRop (M : pm_M) (ws : List Nat) : Prop := gI M 132 33 = nI ws.length ∧ ∀ i, i < ws.length → gI M 149 i = nI (ws.getD i 0)
def IM (a : As) (M : pm_M) : Prop := pm_ok M ∧ (∀ j, j < 6 → MRow M j (aR a j)) ∧ (∀ j, j < 4 → MTxt M j (aT a j)) ∧ MC (aC a) M ∧ MRop M (aP a) ∧ (∀ k, k < 3 → MKep M k (aK a k)) ∧
  (∀ f, f < 6 → gI M 133 f = aF a f) ∧ gI M 132 0 = aL a ∧ gI M 132 2 = aA a ∧ gL M 132 3 = aU a
/-- the class's cells alone have changed; the reference's alone -/
def Cfr (M M' : pm_M) : Prop := ∀ k, 132 ≤ k → ∀ i, gI M' k i = gI M k i ∧ gL M' k i = gL M k i
def Mfr (M M' : pm_M) : Prop := ∀ k, k < 132 → ∀ i, gI M' k i = gI M k i ∧ gL M' k i = gL M k i
theorem Cfr.rf (M : pm_M) : Cfr M M := fun _ _ _ => ⟨rfl, rfl⟩
theorem Mfr.rf (M : pm_M) : Mfr M M := fun _ _ _ => ⟨rfl, rfl⟩
theorem IM.kept {a : As} {M M' : pm_M} (h : IM a M) (ho : pm_ok M') (hf : Cfr M M') : IM a M' := by
  have e : ∀ k, 132 ≤ k → ∀ i, gI M' k i = gI M k i := fun k hk i => (hf k hk i).1
  have e2 : gL M' 132 3 = gL M 132 3 := (hf 132 (by decide) 3).2
  refine ⟨ho, fun j hj => ?_, fun j hj => ?_, h.2.2.2.1.moved (fun i _ => e 132 (by decide) i) (fun k hk i => e k (by omega) i), ?_, fun k hk => ?_, fun f hf => ?_, ?_, ?_, ?_⟩
  · have := h.2.1 j hj
    unfold MRow at this ⊢
    simp only [e 134 (by decide), e 135 (by decide)]
    exact this
  · have := h.2.2.1 j hj
    unfold MTxt at this ⊢
    simp only [e 137 (by decide), e 138 (by decide)]
    exact this
  · have := h.2.2.2.2.1
    unfold MRop at this ⊢
    simp only [e 132 (by decide), e 149 (by decide)]
    exact this
  · have := h.2.2.2.2.2.1 k hk
    unfold MKep at this ⊢
    simp only [e 150 (by decide), e 151 (by decide), e 152 (by decide), e 153 (by decide)]
    exact this
  · rw [e 133 (by decide)]; exact h.2.2.2.2.2.2.1 f hf
  · rw [e 132 (by decide)]; exact h.2.2.2.2.2.2.2.1
  · rw [e 132 (by decide)]; exact h.2.2.2.2.2.2.2.2.1
  · rw [e2]; exact h.2.2.2.2.2.2.2.2.2
theorem CRow.kept {M M' : pm_M} {o : Nat} {x : Option (List Int32)} (h : CRow M o x) (e1 : ∀ i, gI M' o i = gI M o i) (e2 : ∀ i, gI M' (o + 1) i = gI M (o + 1) i) : CRow M' o x := by
  unfold CRow pm_Ro at h ⊢
  simp only [e1, e2]
  exact h
theorem CTxt.kept {M M' : pm_M} {o : Nat} {x : Option (List Int32)} (h : CTxt M o x) (e1 : ∀ i, gI M' o i = gI M o i) (e2 : ∀ i, gI M' (o + 1) i = gI M (o + 1) i) : CTxt M' o x := by
  unfold CTxt at h ⊢
  simp only [e1, e2]
  exact h
theorem CKep.kept {M M' : pm_M} {k : Nat} {x : Option (List Nat × Nat)} (h : CKep M k x) (e1 : ∀ i, gI M' (126 + 2 * k) i = gI M (126 + 2 * k) i) (e2 : ∀ i, gI M' (126 + 2 * k + 1) i = gI M (126 + 2 * k + 1) i) (e3 : gI M' 6 k = gI M 6 k) : CKep M' k x := by
  unfold CKep pm_Ro at h ⊢
  simp only [e1, e2, e3]
  exact h
theorem CY.kept {c : Cf} {M M' : pm_M} (h : CY c M) (e1 : gI M' 25 2 = gI M 25 2) (e2 : ∀ i, gL M' 26 i = gL M 26 i) (e3 : gI M' 54 0 = gI M 54 0) : CY c M' := by
  unfold CY at h ⊢
  simp only [e1, e2, e3]
  exact h
theorem CC.moved {c : Cf} {M M' : pm_M} (h : CC c M) (e : ∀ k, 7 ≤ k → k ≤ 19 → ∀ i, gI M' k i = gI M k i) : CC c M' := by
  unfold CC
  simp only [e 7 (by decide) (by decide), e 8 (by decide) (by decide), e 9 (by decide) (by decide), e 10 (by decide) (by decide), e 11 (by decide) (by decide), e 12 (by decide) (by decide), e 13 (by decide) (by decide), e 14 (by decide) (by decide), e 15 (by decide) (by decide), e 16 (by decide) (by decide), e 17 (by decide) (by decide), e 18 (by decide) (by decide), e 19 (by decide) (by decide)]
  exact h
theorem IC.kept {a : As} {M M' : pm_M} (h : IC a M) (ho : pm_ok M') (hf : Mfr M M') : IC a M' := by
  have e : ∀ k, k < 132 → ∀ i, gI M' k i = gI M k i := fun k hk i => (hf k hk i).1
  have e2 : ∀ k, k < 132 → ∀ i, gL M' k i = gL M k i := fun k hk i => (hf k hk i).2
  refine ⟨ho, fun j hj => (h.2.1 j hj).kept (e _ (by omega)) (e _ (by omega)), fun j hj => (h.2.2.1 j hj).kept (e _ (by omega)) (e _ (by omega)), h.2.2.2.1.moved (fun k _ hk i => e k (by omega) i), ?_, fun k hk => (h.2.2.2.2.2.1 k hk).kept (e _ (by omega)) (e _ (by omega)) (e 6 (by decide) k), h.2.2.2.2.2.2.1.kept (e 25 (by decide) 2) (e2 26 (by decide)) (e 54 (by decide) 0), fun f hf => ?_, ?_, ?_, ?_⟩
  · have := h.2.2.2.2.1
    unfold pm_Ro at this ⊢
    simp only [e 3 (by decide), e (3 + 1) (by decide)]
    exact this
  · rw [e 105 (by decide)]; exact h.2.2.2.2.2.2.2.1 f hf
  · rw [e 0 (by decide)]; exact h.2.2.2.2.2.2.2.2.1
  · rw [e 0 (by decide)]; exact h.2.2.2.2.2.2.2.2.2.1
  · rw [e2 0 (by decide)]; exact h.2.2.2.2.2.2.2.2.2.2
/-- the class keeps its state where a method leaves these cells alone -/
theorem IC.S {a : As} {M M' : pm_M} {S : Nat → Prop} (h : IC a M) (hs : pm_S S M M') (hn : ∀ k, S k → (27 ≤ k ∧ k ≤ 104 ∧ k ≠ 54) ∨ (20 ≤ k ∧ k ≤ 24)) : IC a M' := by
  have e : ∀ k, ¬ ((27 ≤ k ∧ k ≤ 104 ∧ k ≠ 54) ∨ (20 ≤ k ∧ k ≤ 24)) → ∀ i, gI M' k i = gI M k i := fun k hk i => hs.i (fun q => hk (hn k q)) i
  have e2 : ∀ k, ¬ ((27 ≤ k ∧ k ≤ 104 ∧ k ≠ 54) ∨ (20 ≤ k ∧ k ≤ 24)) → ∀ i, gL M' k i = gL M k i := fun k hk i => hs.l (fun q => hk (hn k q)) i
  refine ⟨hs.ok h.1, fun j hj => (h.2.1 j hj).kept (e _ (by omega)) (e _ (by omega)), fun j hj => (h.2.2.1 j hj).kept (e _ (by omega)) (e _ (by omega)), h.2.2.2.1.moved (fun k _ hk i => e k (by omega) i), ?_, fun k hk => (h.2.2.2.2.2.1 k hk).kept (e _ (by omega)) (e _ (by omega)) (e 6 (by decide) k), h.2.2.2.2.2.2.1.kept (e 25 (by decide) 2) (e2 26 (by decide)) (e 54 (by decide) 0), fun f hf => ?_, ?_, ?_, ?_⟩
  · have := h.2.2.2.2.1
    unfold pm_Ro at this ⊢
    simp only [e 3 (by decide), e (3 + 1) (by decide)]
    exact this
  · rw [e 105 (by decide)]; exact h.2.2.2.2.2.2.2.1 f hf
  · rw [e 0 (by decide)]; exact h.2.2.2.2.2.2.2.2.1
  · rw [e 0 (by decide)]; exact h.2.2.2.2.2.2.2.2.2.1
  · rw [e2 0 (by decide)]; exact h.2.2.2.2.2.2.2.2.2.2

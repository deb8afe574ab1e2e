/-! CRAFTS as numbers, and what the class holds of one -/
abbrev Cf : Type := (Nat × Nat × Nat) × (Nat → Nat) × (Nat → Nat) × (Nat → Nat) × (Nat × (Nat → Nat)) × (Nat × (Nat → Nat) × (Nat → Nat) × (Nat → Nat))
def cf_len (c : Cf) : Nat := c.1.1
def cf_gir (c : Cf) : Nat := c.1.2.1
def cf_n (c : Cf) : Nat := c.1.2.2
def cf_kd (c : Cf) : Nat → Nat := c.2.1
def cf_sz (c : Cf) : Nat → Nat := c.2.2.1
def cf_sg (c : Cf) : Nat → Nat := c.2.2.2.1
def cf_nl (c : Cf) : Nat := c.2.2.2.2.1.1
def cf_br (c : Cf) : Nat → Nat := c.2.2.2.2.1.2
def cf_np (c : Cf) : Nat := c.2.2.2.2.2.1
def cf_p1 (c : Cf) : Nat → Nat := c.2.2.2.2.2.2.1
def cf_p2 (c : Cf) : Nat → Nat := c.2.2.2.2.2.2.2.1
def cf_ps (c : Cf) : Nat → Nat := c.2.2.2.2.2.2.2.2
def cf_rm (c : Cf) : Nat := cf_len c - cf_gir c
def cf_wf (c : Cf) : Prop := cf_n c ≤ 6 ∧ cf_gir c ≤ cf_len c ∧ cf_len c ≤ 99 ∧ cf_nl c ≤ 6 ∧ cf_np c ≤ 6 ∧
  (∀ k, k < cf_n c → cf_kd c k ≤ 5 ∧ 1 ≤ cf_sz c k ∧ cf_sz c k ≤ 9 ∧ cf_sg c k ≤ 9 ∧ cf_br c k < 64) ∧ (∀ i, i < cf_np c → cf_p1 c i < cf_n c ∧ cf_p2 c i < cf_n c ∧ cf_ps c i ≤ 9)
/-- of a KIND (a HITCH is a LOOP, a SHEEP a BEND) -/
abbrev isk (c : Cf) (k kind : Nat) : Prop := cf_kd c k = kind ∨ (cf_kd c k = 3 ∧ kind = 1) ∨ (cf_kd c k = 4 ∧ kind = 2)
def alo (c : Cf) (k : Nat) : Nat := if cf_kd c k = 1 ∨ cf_kd c k = 3 then 2 * cf_sz c k else cf_sz c k
abbrev bnd (c : Cf) (k : Nat) : Prop := cf_kd c k = 2 ∨ cf_kd c k = 4
/-- what k TAKES behind last (6: none) -/
def tk (c : Cf) (last k : Nat) : Nat := if last < 6 ∧ bnd c k ∧ bnd c last then alo c k - 1 else alo c k
def em (c : Cf) (last : Nat) : Nat := if last < 6 ∧ cf_kd c last = 3 then 1 else 0
def bar (c : Cf) (last k : Nat) : Bool := decide (last < 6) && (cf_br c last).testBit k
/-- the SIGN of two as a PAIR: the first such one; none with a SHEEP -/
def prf (c : Cf) (a b : Nat) : Nat → Option Nat
  | 0 => none
  | i + 1 => match prf c a b i with
    | some s => some s
    | none => if cf_p1 c i = a ∧ cf_p2 c i = b then some (cf_ps c i) else none
def pr (c : Cf) (a b : Nat) : Option Nat := if cf_kd c a = 4 ∨ cf_kd c b = 4 then none else prf c a b (cf_np c)
def p32 (s : Option Nat) : Int32 := match s with
  | none => -1
  | some s => nI s
/-- what a ROPE TAKES behind last -/
def ms (c : Cf) (last : Nat) : List Nat → Nat
  | [] => em c last
  | k :: t => tk c last k + ms c k t
/-- no LAW against it behind last -/
def lw (c : Cf) (last : Nat) : List Nat → Bool
  | [] => true
  | k :: t => !bar c last k && lw c k t
/-- RIGHT -/
abbrev rt (c : Cf) (ws : List Nat) : Prop := lw c 6 ws = true ∧ ms c 6 ws ≤ cf_rm c
/-- what is READ -/
def rd (c : Cf) : List Nat → List Nat
  | [] => []
  | [a] => [cf_sg c a]
  | a :: b :: t => match pr c a b with
    | some s => s :: rd c t
    | none => cf_sg c a :: rd c (b :: t)
/-- KNOTS of the craft -/
abbrev kn (c : Cf) (ws : List Nat) : Prop := ∀ k, k ∈ ws → k < cf_n c
abbrev lst (c : Cf) (last : Nat) : Prop := last < cf_n c ∨ last = 6
theorem lst6 {c : Cf} (h : cf_wf c) {last : Nat} (hl : lst c last) : last ≤ 6 := by
  rcases hl with q | q
  · have := h.1; omega
  · omega
theorem alo_le {c : Cf} (h : cf_wf c) {k : Nat} (hk : k < cf_n c) : alo c k ≤ 18 := by
  have := (h.2.2.2.2.2.1 k hk).2.2.1
  unfold alo
  split <;> omega
theorem tk_le {c : Cf} (h : cf_wf c) {last k : Nat} (hk : k < cf_n c) : tk c last k ≤ 18 := by
  have := alo_le h hk
  unfold tk
  split <;> omega
theorem em_le (c : Cf) (last : Nat) : em c last ≤ 1 := by unfold em; split <;> omega
theorem ms_le {c : Cf} (h : cf_wf c) : ∀ (ws : List Nat) (last : Nat), kn c ws → ms c last ws ≤ 18 * ws.length + 1
  | [], last, _ => by
    have := em_le c last
    simp [ms]; omega
  | k :: t, last, hk => by
    have h1 := ms_le h t k (fun q hq => hk q (List.mem_cons_of_mem _ hq))
    have h2 := tk_le h (last := last) (hk k List.mem_cons_self)
    simp [ms]; omega
theorem prf_ps {c : Cf} (h : cf_wf c) {a b s : Nat} : ∀ i, i ≤ cf_np c → prf c a b i = some s → s ≤ 9
  | 0, _, q => by simp [prf] at q
  | i + 1, hi, q => by
    unfold prf at q
    cases e : prf c a b i with
    | some z =>
      rw [e] at q
      cases q
      exact prf_ps h i (by omega) e
    | none =>
      rw [e] at q
      dsimp only at q
      split at q
      · cases q
        exact (h.2.2.2.2.2.2 i (by omega)).2.2
      · cases q
theorem pr_ps {c : Cf} (h : cf_wf c) {a b s : Nat} (q : pr c a b = some s) : s ≤ 9 := by
  unfold pr at q
  split at q
  · cases q
  · exact prf_ps h _ (Nat.le_refl _) q
theorem rd_kn {c : Cf} (h : cf_wf c) : ∀ ws : List Nat, kn c ws → ∀ s ∈ rd c ws, s ≤ 9
  | [], _, s, hs => by simp [rd] at hs
  | [a], hk, s, hs => by
    simp [rd] at hs
    rw [hs]
    exact (h.2.2.2.2.2.1 a (hk a List.mem_cons_self)).2.2.2.1
  | a :: b :: t, hk, s, hs => by
    unfold rd at hs
    cases e : pr c a b with
    | some z =>
      rw [e] at hs
      rcases List.mem_cons.mp hs with q | q
      · rw [q]; exact pr_ps h e
      · exact rd_kn h t (fun k hq => hk k (List.mem_cons_of_mem _ (List.mem_cons_of_mem _ hq))) s q
    | none =>
      rw [e] at hs
      rcases List.mem_cons.mp hs with q | q
      · rw [q]; exact (h.2.2.2.2.2.1 a (hk a List.mem_cons_self)).2.2.2.1
      · exact rd_kn h (b :: t) (fun k hq => hk k (List.mem_cons_of_mem _ hq)) s q
theorem rd_len (c : Cf) : ∀ ws : List Nat, (rd c ws).length ≤ ws.length
  | [] => by simp [rd]
  | [a] => by simp [rd]
  | a :: b :: t => by
    unfold rd
    have h1 := rd_len c t
    have h2 := rd_len c (b :: t)
    split <;> simp at * <;> omega
/-- what the class holds: cell 7 and its rows -/
def CC (c : Cf) (M : pm_M) : Prop :=
  (gI M 7 0 = nI (cf_len c) ∧ gI M 7 1 = nI (cf_gir c) ∧ gI M 7 2 = nI (cf_n c) ∧ gI M 7 3 = nI (cf_nl c) ∧ gI M 7 4 = nI (cf_np c)) ∧
  (∀ k, k < cf_n c → gI M 8 k = nI (cf_kd c k) ∧ gI M 9 k = nI (cf_sz c k) ∧ gI M 10 k = nI (cf_sg c k)) ∧
  (∀ i, i < cf_np c → gI M 11 i = nI (cf_p1 c i) ∧ gI M 12 i = nI (cf_p2 c i) ∧ gI M 13 i = nI (cf_ps c i)) ∧
  (∀ last, lst c last → gI M 14 last = nI (if last < 6 then cf_br c last else 0) ∧ gI M 15 last = nI (em c last) ∧ ∀ k, k < cf_n c → gI M 16 (last * 6 + k) = nI (tk c last k)) ∧
  (∀ a b, a < cf_n c → b < cf_n c → gI M 17 (a * 6 + b) = p32 (pr c a b)) ∧
  (∀ k, k < cf_n c → ∃ w : Nat, gI M 18 k = nI w ∧ w < 1024 ∧ ∀ s, w.testBit s = true ↔ ∃ b, b < cf_n c ∧ pr c k b = some s) ∧
  (∀ k, k < cf_n c → ∃ w : Nat, gI M 19 k = nI w ∧ w < 1024 ∧ ∀ s, w.testBit s = true ↔ ∃ a, a < cf_n c ∧ pr c a k = some s)
theorem CC.kept {c : Cf} {M M' : pm_M} {S : Nat → Prop} (h : CC c M) (hs : pm_S S M M') (hn : ∀ k, 7 ≤ k → k ≤ 19 → ¬ S k) : CC c M' := by
  have e : ∀ k, 7 ≤ k → k ≤ 19 → ∀ i, gI M' k i = gI M k i := fun k h1 h2 i => hs.i (hn k h1 h2) i
  unfold CC
  simp only [e 7 (by decide) (by decide), e 8 (by decide) (by decide), e 9 (by decide) (by decide), e 10 (by decide) (by decide), e 11 (by decide) (by decide), e 12 (by decide) (by decide), e 13 (by decide) (by decide), e 14 (by decide) (by decide), e 15 (by decide) (by decide), e 16 (by decide) (by decide), e 17 (by decide) (by decide), e 18 (by decide) (by decide), e 19 (by decide) (by decide)]
  exact h
abbrev b01 (P : Prop) (i : Decidable P) : Int32 := @ite _ P i 1 0
theorem b01_t {P : Prop} {i : Decidable P} (h : P) : ¬ (@ite Int32 P i 1 0) = 0 := by rw [if_pos h]; decide
theorem b01_f {P : Prop} {i : Decidable P} (h : ¬ P) : (@ite Int32 P i 1 0) = 0 := by rw [if_neg h]
theorem bit_eq {n k : Nat} (hn : n < 64) (hk : k < 6) : (nI n >>> (nI k &&& 31)) &&& 1 = if n.testBit k = true then 1 else 0 := by
  have h : ∀ n, n < 64 → ∀ k, k < 6 → (nI n >>> (nI k &&& 31)) &&& 1 = if n.testBit k = true then 1 else 0 := by decide +kernel
  exact h n hn k hk

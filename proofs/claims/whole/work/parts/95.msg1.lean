/-! MESSAGES: states of reading, the least that is taken, the first such rope -/
abbrev St : Type := Nat × Nat × Bool
/-- whether it is all said, if the ROPE ends so -/
def sdn (c : Cf) (m : List Nat) (s : St) : Bool := if s.2.2 then decide (s.1 + 1 = m.length) && decide (cf_sg c s.2.1 = m.getD s.1 0) else decide (s.1 = m.length)
/-- the state behind one KNOT more -/
def nx (c : Cf) (m : List Nat) (s : St) (k : Nat) : Option St :=
  if m.length ≤ s.1 ∨ bar c s.2.1 k = true then none else if s.2.2 = false then some (s.1, k, true) else match pr c s.2.1 k with
    | some t => if t = m.getD s.1 0 then some (s.1 + 1, k, false) else none
    | none => if cf_sg c s.2.1 = m.getD s.1 0 then some (s.1 + 1, k, true) else none
def om (x y : Option Nat) : Option Nat := match x, y with
  | none, y => y
  | some a, none => some a
  | some a, some b => some (min a b)
def lb (x : Option Nat) (F : Nat → Option Nat) : Nat → Option Nat
  | 0 => x
  | k + 1 => om (lb x F k) (F k)
def sde (c : Cf) (m : List Nat) (s : St) : Option Nat := if sdn c m s = true then some (em c s.2.1) else none
def gk (L : St → Option Nat) (c : Cf) (m : List Nat) (s : St) (k : Nat) : Option Nat := match nx c m s k with
  | none => none
  | some s' => match L s' with
    | none => none
    | some v => some (tk c s.2.1 k + v)
/-- the least that is TAKEN until all is said, by so many KNOTS at most -/
def LF (c : Cf) (m : List Nat) : Nat → St → Option Nat
  | 0, s => sde c m s
  | f + 1, s => lb (sde c m s) (gk (LF c m f) c m s) (cf_n c)
theorem LF_s (c : Cf) (m : List Nat) (f : Nat) (s : St) : LF c m (f + 1) s = lb (sde c m s) (gk (LF c m f) c m s) (cf_n c) := rfl
theorem lb_s (x : Option Nat) (F : Nat → Option Nat) (k : Nat) : lb x F (k + 1) = om (lb x F k) (F k) := rfl
theorem om_n (x : Option Nat) : om x none = x := by cases x <;> rfl
theorem om_some {x y : Option Nat} {v : Nat} (h : om x y = some v) : (x = some v) ∨ (y = some v) := by
  cases x with
  | none => exact Or.inr h
  | some a =>
    cases y with
    | none => exact Or.inl h
    | some b =>
      have h' : min a b = v := by injection h
      rcases Nat.le_total a b with z | z
      · rw [Nat.min_eq_left z] at h'; exact Or.inl (by rw [h'])
      · rw [Nat.min_eq_right z] at h'; exact Or.inr (by rw [h'])
theorem lb_none {x : Option Nat} {F : Nat → Option Nat} : ∀ n, (∀ k, k < n → F k = none) → lb x F n = x
  | 0, _ => rfl
  | n + 1, h => by rw [lb_s, lb_none n (fun k hk => h k (by omega)), h n (by omega), om_n]
theorem lb_cg {x : Option Nat} {F G : Nat → Option Nat} : ∀ n, (∀ k, k < n → F k = G k) → lb x F n = lb x G n
  | 0, _ => rfl
  | n + 1, h => by rw [lb_s, lb_s, lb_cg n (fun k hk => h k (by omega)), h n (by omega)]
theorem lb_some {x : Option Nat} {F : Nat → Option Nat} {v : Nat} : ∀ n, lb x F n = some v → x = some v ∨ ∃ k, k < n ∧ F k = some v
  | 0, h => Or.inl h
  | n + 1, h => by
    rw [lb_s] at h
    rcases om_some h with z | z
    · rcases lb_some n z with w | ⟨k, hk, w⟩
      · exact Or.inl w
      · exact Or.inr ⟨k, by omega, w⟩
    · exact Or.inr ⟨n, by omega, z⟩
/-- x is at most v -/
def ole (x : Option Nat) (v : Nat) : Prop := ∃ a, x = some a ∧ a ≤ v
theorem om_l {x y : Option Nat} {v : Nat} (h : ole x v) : ole (om x y) v := by
  obtain ⟨a, rfl, ha⟩ := h
  cases y with
  | none => exact ⟨a, rfl, ha⟩
  | some b => exact ⟨min a b, rfl, Nat.le_trans (Nat.min_le_left _ _) ha⟩
theorem om_r {x y : Option Nat} {v : Nat} (h : ole y v) : ole (om x y) v := by
  obtain ⟨b, rfl, hb⟩ := h
  cases x with
  | none => exact ⟨b, rfl, hb⟩
  | some a => exact ⟨min a b, rfl, Nat.le_trans (Nat.min_le_right _ _) hb⟩
theorem lb_0 {x : Option Nat} {F : Nat → Option Nat} {v : Nat} (h : ole x v) : ∀ n, ole (lb x F n) v
  | 0 => h
  | n + 1 => om_l (lb_0 h n)
theorem lb_k {x : Option Nat} {F : Nat → Option Nat} {v k : Nat} (h : ole (F k) v) : ∀ n, k < n → ole (lb x F n) v
  | 0, hk => by omega
  | n + 1, hk => by
    rcases Nat.lt_or_ge k n with z | z
    · exact om_l (lb_k h n z)
    · rw [show k = n by omega] at h
      exact om_r h
section MSG
variable {c : Cf} {m : List Nat}
theorem gk_some {L : St → Option Nat} {s : St} {k v : Nat} (h : gk L c m s k = some v) : ∃ s' w, nx c m s k = some s' ∧ L s' = some w ∧ v = tk c s.2.1 k + w := by
  unfold gk at h
  cases hx : nx c m s k with
  | none => rw [hx] at h; cases h
  | some s' =>
    rw [hx] at h
    dsimp only at h
    cases hy : L s' with
    | none => rw [hy] at h; cases h
    | some w =>
      rw [hy] at h
      exact ⟨s', w, rfl, hy, by injection h with h; exact h.symm⟩
theorem gk_eq {L : St → Option Nat} {s s' : St} {k w : Nat} (h1 : nx c m s k = some s') (h2 : L s' = some w) : gk L c m s k = some (tk c s.2.1 k + w) := by
  unfold gk
  rw [h1]
  dsimp only
  rw [h2]
theorem gk_n0 {L : St → Option Nat} {s : St} {k : Nat} (h : nx c m s k = none) : gk L c m s k = none := by
  unfold gk
  rw [h]
theorem gk_n1 {L : St → Option Nat} {s s' : St} {k : Nat} (h1 : nx c m s k = some s') (h2 : L s' = none) : gk L c m s k = none := by
  unfold gk
  rw [h1]
  dsimp only
  rw [h2]
theorem LF_bd (hw : cf_wf c) : ∀ f s v, LF c m f s = some v → v ≤ 18 * f + 1
  | 0, s, v, h => by
    have h' : (if sdn c m s = true then some (em c s.2.1) else none) = some v := h
    split at h'
    · injection h' with h'
      have := em_le c s.2.1
      omega
    · cases h'
  | f + 1, s, v, h => by
    rw [LF_s] at h
    rcases lb_some _ h with z | ⟨k, hk, z⟩
    · have := LF_bd hw 0 s v z
      omega
    · obtain ⟨s', w, h1, h2, h3⟩ := gk_some z
      have := LF_bd hw f s' w h2
      have := tk_le hw (last := s.2.1) hk
      omega
/-- how many KNOTS it wants at least -/
def need (m : List Nat) (s : St) : Nat := m.length - s.1 - (if s.2.2 = true then 1 else 0)
theorem sdn_need {s : St} (h : sdn c m s = true) : need m s = 0 := by
  obtain ⟨r, last, o⟩ := s
  unfold sdn at h
  unfold need
  cases o with
  | true =>
    simp only [if_true, Bool.and_eq_true, decide_eq_true_eq] at h ⊢
    omega
  | false =>
    simp at h ⊢
    omega
theorem nx_need {s s' : St} {k : Nat} (h : nx c m s k = some s') : need m s ≤ need m s' + 1 := by
  obtain ⟨r, last, o⟩ := s
  unfold nx at h
  dsimp only at h
  split at h
  · cases h
  · cases o with
    | false =>
      rw [if_pos rfl] at h
      injection h with h
      subst h
      simp only [need, if_true]
      simp
      omega
    | true =>
      rw [if_neg (by decide)] at h
      cases hp : pr c last k with
      | some t =>
        rw [hp] at h
        dsimp only at h
        split at h
        · injection h with h
          subst h
          simp only [need, if_true]
          simp
          omega
        · cases h
      | none =>
        rw [hp] at h
        dsimp only at h
        split at h
        · injection h with h
          subst h
          simp only [need, if_true]
          omega
        · cases h
theorem LF_need : ∀ f s, f < need m s → LF c m f s = none
  | 0, s, h => by
    show (if sdn c m s = true then some (em c s.2.1) else none) = none
    rw [if_neg (fun z => by rw [sdn_need z] at h; omega)]
  | f + 1, s, h => by
    rw [LF_s, lb_none]
    · exact LF_need 0 s (by omega)
    · intro k hk
      cases hx : nx c m s k with
      | none => exact gk_n0 hx
      | some s' => exact gk_n1 hx (LF_need f s' (by have := nx_need hx; omega))
/-- nothing goes on from here, nothing is said -/
theorem LF_dead {s : St} (h1 : s.2.2 = true) (h2 : m.length ≤ s.1) : ∀ f, LF c m f s = none := by
  have h0 : sde c m s = none := by
    unfold sde sdn
    rw [h1]
    simp
    intro z
    omega
  intro f
  cases f with
  | zero => exact h0
  | succ f =>
    rw [LF_s, lb_none, h0]
    intro k hk
    refine gk_n0 ?_
    unfold nx
    rw [if_pos (Or.inl h2)]
/-- an OPEN KNOT that has nothing to do with the SIGN -/
theorem LF_idle {r last : Nat} (h1 : cf_sg c last ≠ m.getD r 0) (h2 : ∀ b, b < cf_n c → pr c last b ≠ some (m.getD r 0)) : ∀ f, LF c m f (r, last, true) = none := by
  have h0 : sde c m (r, last, true) = none := by
    unfold sde sdn
    simp
    intro z1 z2
    exact h1 z2
  intro f
  cases f with
  | zero => exact h0
  | succ f =>
    rw [LF_s, lb_none, h0]
    intro k hk
    refine gk_n0 ?_
    unfold nx
    dsimp only
    split
    · rfl
    · rw [if_neg (by decide)]
      cases hp : pr c last k with
      | some t =>
        dsimp only
        rw [if_neg (fun z => h2 k hk (by rw [hp, z]))]
      | none =>
        first | rfl | exact if_neg h1
def anyb (f : Nat → Bool) : Nat → Bool
  | 0 => false
  | n + 1 => anyb f n || f n
theorem anyb_iff {f : Nat → Bool} : ∀ n, anyb f n = true ↔ ∃ k, k < n ∧ f k = true
  | 0 => ⟨fun h => (by cases h), fun z => (by obtain ⟨k, hk, _⟩ := z; omega)⟩
  | n + 1 => by
    show (anyb f n || f n) = true ↔ _
    rw [Bool.or_eq_true, anyb_iff n]
    constructor
    · rintro (⟨k, hk, h⟩ | h)
      · exact ⟨k, by omega, h⟩
      · exact ⟨n, by omega, h⟩
    · rintro ⟨k, hk, h⟩
      rcases Nat.lt_or_ge k n with z | z
      · exact Or.inl ⟨k, z, h⟩
      · rw [show k = n by omega] at h; exact Or.inr h
/-- the SIGN of a PAIR -/
def isps (c : Cf) (t : Nat) : Bool := anyb (fun a => anyb (fun b => decide (pr c a b = some t)) (cf_n c)) (cf_n c)
theorem isps_iff {t : Nat} : isps c t = true ↔ ∃ a b, a < cf_n c ∧ b < cf_n c ∧ pr c a b = some t := by
  unfold isps
  rw [anyb_iff]
  constructor
  · rintro ⟨a, ha, h⟩
    obtain ⟨b, hb, h⟩ := (anyb_iff _).mp h
    exact ⟨a, b, ha, hb, of_decide_eq_true h⟩
  · rintro ⟨a, b, ha, hb, h⟩
    exact ⟨a, ha, (anyb_iff _).mpr ⟨b, hb, decide_eq_true h⟩⟩
def cp (c : Cf) : List Nat → Nat
  | [] => 0
  | t :: l => (if isps c t = true then 1 else 0) + cp c l
theorem cp_le (c : Cf) : ∀ l : List Nat, cp c l ≤ l.length
  | [] => Nat.le_refl _
  | t :: l => by
    have := cp_le c l
    simp only [cp, List.length_cons]
    split <;> omega
/-- how many KNOTS it can want at most -/
def mu (c : Cf) (m : List Nat) (s : St) : Nat := m.length - s.1 + cp c (m.drop s.1) - (if s.2.2 = true then 1 else 0)
theorem cp_drop {r : Nat} (h : r < m.length) : cp c (m.drop r) = (if isps c (m.getD r 0) = true then 1 else 0) + cp c (m.drop (r + 1)) := by
  rw [drop_getD h]
  rfl
theorem nx_mu {s s' : St} {k : Nat} (hk : k < cf_n c) (hl : s.2.2 = true → s.2.1 < cf_n c) (h : nx c m s k = some s') : (s'.2.2 = true ∧ m.length ≤ s'.1) ∨ mu c m s' + 1 ≤ mu c m s := by
  obtain ⟨r, last, o⟩ := s
  unfold nx at h
  dsimp only at h hl
  split at h
  · cases h
  · rename_i hnb
    have hr : r < m.length := Nat.lt_of_not_le (fun z => hnb (Or.inl z))
    cases o with
    | false =>
      rw [if_pos rfl] at h
      injection h with h
      subst h
      right
      simp only [mu, if_true]
      simp
      omega
    | true =>
      rw [if_neg (by decide)] at h
      cases hp : pr c last k with
      | some t =>
        rw [hp] at h
        dsimp only at h
        split at h
        · rename_i ht
          injection h with h
          subst h
          have hi : isps c (m.getD r 0) = true := isps_iff.mpr ⟨last, k, hl rfl, hk, by rw [hp, ht]⟩
          right
          have e := cp_drop (c := c) hr
          rw [if_pos hi] at e
          simp only [mu, if_true, e]
          simp
          omega
        · cases h
      | none =>
        rw [hp] at h
        dsimp only at h
        split at h
        · injection h with h
          subst h
          by_cases g : m.length ≤ r + 1
          · exact Or.inl ⟨rfl, g⟩
          · right
            have e := cp_drop (c := c) hr
            simp only [mu, if_true, e]
            omega
        · cases h
/-- the state's KNOT is one of the craft's, where it counts -/
def okS (c : Cf) (s : St) : Prop := s.2.2 = true → s.2.1 < cf_n c
theorem nx_ok {s s' : St} {k : Nat} (hk : k < cf_n c) (h : nx c m s k = some s') : s'.2.1 = k ∧ okS c s' := by
  obtain ⟨r, last, o⟩ := s
  unfold nx at h
  dsimp only at h
  split at h
  · cases h
  · cases o with
    | false =>
      rw [if_pos rfl] at h
      injection h with h
      subst h
      exact ⟨rfl, fun _ => hk⟩
    | true =>
      rw [if_neg (by decide)] at h
      cases hp : pr c last k with
      | some t =>
        rw [hp] at h
        dsimp only at h
        split at h
        · injection h with h
          subst h
          exact ⟨rfl, fun _ => hk⟩
        · cases h
      | none =>
        rw [hp] at h
        dsimp only at h
        split at h
        · injection h with h
          subst h
          exact ⟨rfl, fun _ => hk⟩
        · cases h
theorem LF_mu : ∀ f f' s, okS c s → mu c m s ≤ f → mu c m s ≤ f' → LF c m f s = LF c m f' s := by
  have one : ∀ f s, okS c s → mu c m s = 0 → LF c m f s = sde c m s := by
    intro f s ho h0
    cases f with
    | zero => rfl
    | succ f =>
      rw [LF_s, lb_none]
      intro k hk
      cases hx : nx c m s k with
      | none => exact gk_n0 hx
      | some s' =>
        rcases nx_mu hk ho hx with z | z
        · exact gk_n1 hx (LF_dead z.1 z.2 f)
        · omega
  intro f
  induction f with
  | zero =>
    intro f' s ho h1 h2
    rw [one f' s ho (by omega)]
    rfl
  | succ f ih =>
    intro f' s ho h1 h2
    cases f' with
    | zero =>
      rw [one (f + 1) s ho (by omega)]
      rfl
    | succ f' =>
      rw [LF_s, LF_s]
      refine lb_cg _ (fun k hk => ?_)
      cases hx : nx c m s k with
      | none => rw [gk_n0 hx, gk_n0 hx]
      | some s' =>
        rcases nx_mu hk ho hx with z | z
        · rw [gk_n1 hx (LF_dead z.1 z.2 f), gk_n1 hx (LF_dead z.1 z.2 f')]
        · have e := ih f' s' (nx_ok hk hx).2 (by omega) (by omega)
          unfold gk
          rw [hx]
          dsimp only
          rw [e]
/-- the first k, or n -/
def ffk (p : Nat → Bool) : Nat → Nat
  | 0 => 0
  | n + 1 => if ffk p n < n then ffk p n else if p n = true then n else n + 1
theorem ffk_ok (p : Nat → Bool) : ∀ n, ffk p n ≤ n ∧ (∀ j, j < ffk p n → p j = false) ∧ (ffk p n < n → p (ffk p n) = true)
  | 0 => ⟨Nat.le_refl _, fun j h => by simp [ffk] at h, fun h => by simp [ffk] at h⟩
  | n + 1 => by
    obtain ⟨h1, h2, h3⟩ := ffk_ok p n
    unfold ffk
    by_cases g : ffk p n < n
    · rw [if_pos g]
      exact ⟨by omega, h2, fun _ => h3 g⟩
    · have e : ffk p n = n := by omega
      rw [if_neg g]
      rw [e] at h2
      by_cases g2 : p n = true
      · rw [if_pos g2]
        exact ⟨by omega, h2, fun _ => g2⟩
      · rw [if_neg g2]
        refine ⟨by omega, fun j hj => ?_, fun h => by omega⟩
        rcases Nat.lt_or_ge j n with z | z
        · exact h2 j z
        · rw [show j = n by omega]; exact Bool.eq_false_iff.mpr g2
theorem ffk_ex {p : Nat → Bool} {n k : Nat} (hk : k < n) (h : p k = true) : ffk p n < n := by
  obtain ⟨h1, h2, h3⟩ := ffk_ok p n
  rcases Nat.lt_or_ge (ffk p n) n with z | z
  · exact z
  · have := h2 k (by omega)
    rw [h] at this
    cases this
/-- the first of the ROPES that go on so and TAKE least -/
def sp (c : Cf) (m : List Nat) : Nat → St → List Nat
  | 0, _ => []
  | f + 1, s => if sde c m s = LF c m (f + 1) s then [] else
    ffk (fun k => decide (gk (LF c m f) c m s k = LF c m (f + 1) s)) (cf_n c) :: (match nx c m s (ffk (fun k => decide (gk (LF c m f) c m s k = LF c m (f + 1) s)) (cf_n c)) with
      | none => []
      | some s' => sp c m f s')
/-- the next KNOT of such a ROPE -/
def kf1 (c : Cf) (m : List Nat) (f : Nat) (s : St) : Nat := ffk (fun k => decide (gk (LF c m f) c m s k = LF c m (f + 1) s)) (cf_n c)
theorem kf1_ok {f v : Nat} {s : St} (h : LF c m (f + 1) s = some v) (hn : sde c m s ≠ LF c m (f + 1) s) : kf1 c m f s < cf_n c ∧ gk (LF c m f) c m s (kf1 c m f s) = some v ∧ ∀ j, j < kf1 c m f s → gk (LF c m f) c m s j ≠ some v := by
  have hx := h
  rw [LF_s] at hx
  rcases lb_some _ hx with z | ⟨k, hk, z⟩
  · rw [z, h] at hn
    exact absurd rfl hn
  · have h1 := ffk_ex (p := fun k => decide (gk (LF c m f) c m s k = LF c m (f + 1) s)) hk (by rw [z, h]; simp)
    obtain ⟨_, h2, h3⟩ := ffk_ok (fun k => decide (gk (LF c m f) c m s k = LF c m (f + 1) s)) (cf_n c)
    refine ⟨h1, ?_, fun j hj => ?_⟩
    · exact (of_decide_eq_true (h3 h1)).trans h
    · exact fun z => of_decide_eq_false (h2 j hj) (z.trans h.symm)
theorem sp_0 {f : Nat} {s : St} (h : sde c m s = LF c m f s) : sp c m f s = [] := by
  cases f with
  | zero => rfl
  | succ f => unfold sp; rw [if_pos h]
theorem sp_s {f v : Nat} {s : St} (h : LF c m (f + 1) s = some v) (hn : sde c m s ≠ LF c m (f + 1) s) : ∃ s' w, nx c m s (kf1 c m f s) = some s' ∧ LF c m f s' = some w ∧ v = tk c s.2.1 (kf1 c m f s) + w ∧ sp c m (f + 1) s = kf1 c m f s :: sp c m f s' := by
  obtain ⟨h1, h2, h3⟩ := kf1_ok h hn
  obtain ⟨s', w, e1, e2, e3⟩ := gk_some h2
  refine ⟨s', w, e1, e2, e3, ?_⟩
  show (if sde c m s = LF c m (f + 1) s then [] else kf1 c m f s :: (match nx c m s (kf1 c m f s) with
      | none => []
      | some s' => sp c m f s')) = _
  rw [if_neg hn, e1]
theorem sp_len : ∀ f s, (sp c m f s).length ≤ f
  | 0, s => Nat.le_refl _
  | f + 1, s => by
    unfold sp
    split
    · exact Nat.zero_le _
    · rw [List.length_cons]
      split
      · simp
      · have := sp_len f (by assumption : St)
        rename_i s' _
        have := sp_len f s'
        omega
theorem sp_kn : ∀ f s v, LF c m f s = some v → kn c (sp c m f s)
  | 0, s, v, h => fun k hk => absurd hk List.not_mem_nil
  | f + 1, s, v, h => by
    by_cases g : sde c m s = LF c m (f + 1) s
    · rw [sp_0 g]
      exact fun k hk => absurd hk List.not_mem_nil
    · obtain ⟨s', w, e1, e2, e3, e4⟩ := sp_s h g
      rw [e4]
      intro k hk
      rcases List.mem_cons.mp hk with z | z
      · rw [z]; exact (kf1_ok h g).1
      · exact sp_kn f s' w e2 k z
end MSG

/-! TWO WHO READ ONE ROPE: states and what is read; all ropes, and fewer of them -/
section RDS
variable {c : Cf} {m : List Nat}
theorem drop_cons {r t : Nat} {l : List Nat} : t :: l = m.drop r ↔ r < m.length ∧ t = m.getD r 0 ∧ l = m.drop (r + 1) := by
  by_cases h : r < m.length
  · rw [drop_getD h]
    constructor
    · intro z; injection z with z1 z2; exact ⟨h, z1, z2⟩
    · rintro ⟨_, z1, z2⟩; rw [z1, z2]
  · rw [List.drop_of_length_le (by omega)]
    constructor
    · intro z; cases z
    · rintro ⟨z, _⟩; omega
theorem rd_ne : ∀ (k : Nat) (ws : List Nat), rd c (k :: ws) ≠ []
  | k, [] => by simp [rd]
  | k, q :: ws => by
    unfold rd
    split <;> simp
/-- all is said behind a state by a ROPE -/
def sy (c : Cf) (m : List Nat) (s : St) (ws : List Nat) : Prop := ∃ s', rsl c m s ws = some s' ∧ sdn c m s' = true
theorem sy_c {s : St} {k : Nat} {ws : List Nat} : sy c m s (k :: ws) ↔ ∃ s1, nx c m s k = some s1 ∧ sy c m s1 ws := by
  constructor
  · rintro ⟨s', h1, h2⟩
    have h' : (match nx c m s k with
      | none => none
      | some s' => rsl c m s' ws) = some s' := h1
    cases hx : nx c m s k with
    | none => rw [hx] at h'; cases h'
    | some s1 => rw [hx] at h'; exact ⟨s1, rfl, s', h', h2⟩
  · rintro ⟨s1, h1, s', h2, h3⟩
    refine ⟨s', ?_, h3⟩
    show (match nx c m s k with
      | none => none
      | some s' => rsl c m s' ws) = some s'
    rw [h1]
    exact h2
theorem sy_rd : ∀ (ws : List Nat) (r last : Nat), r ≤ m.length → (sy c m (r, last, false) ws ↔ (lw c last ws = true ∧ rd c ws = m.drop r)) ∧ (sy c m (r, last, true) ws ↔ (lw c last ws = true ∧ rd c (last :: ws) = m.drop r))
  | [], r, last, hr => by
    constructor
    · have e1 : rd c [] = [] := by simp [rd]
      rw [e1]
      constructor
      · rintro ⟨s', h1, h2⟩
        have h1' : some (r, last, false) = some s' := h1
        injection h1' with h1'
        subst h1'
        have h3 : r = m.length := by simpa [sdn] using h2
        exact ⟨rfl, by rw [h3, List.drop_length]⟩
      · rintro ⟨_, h2⟩
        have h3 : r = m.length := by
          have := congrArg List.length h2
          rw [List.length_drop] at this
          simp at this
          omega
        exact ⟨_, rfl, by simp [sdn, h3]⟩
    · have e1 : rd c [last] = [cf_sg c last] := by simp [rd]
      rw [e1, drop_cons]
      constructor
      · rintro ⟨s', h1, h2⟩
        have h1' : some (r, last, true) = some s' := h1
        injection h1' with h1'
        subst h1'
        have h3 : r + 1 = m.length ∧ cf_sg c last = m.getD r 0 := by simpa [sdn] using h2
        exact ⟨rfl, by omega, h3.2, by rw [h3.1, List.drop_length]⟩
      · rintro ⟨_, h1, h2, h3⟩
        have h4 : r + 1 = m.length := by
          have := congrArg List.length h3
          rw [List.length_drop] at this
          simp at this
          omega
        exact ⟨_, rfl, by simp only [sdn, if_true, Bool.and_eq_true, decide_eq_true_eq]; exact ⟨h4, h2⟩⟩
  | k :: ws, r, last, hr => by
    have elw : lw c last (k :: ws) = true ↔ (¬ bar c last k = true ∧ lw c k ws = true) := by
      show (!bar c last k && lw c k ws) = true ↔ _
      rw [Bool.and_eq_true]
      cases bar c last k <;> simp
    rw [elw]
    constructor
    · rw [sy_c]
      have hnx : nx c m (r, last, false) k = if m.length ≤ r ∨ bar c last k = true then none else some (r, k, true) := rfl
      rw [hnx]
      by_cases g : m.length ≤ r ∨ bar c last k = true
      · rw [if_pos g]
        constructor
        · rintro ⟨s1, z, _⟩; cases z
        · rintro ⟨⟨z1, z2⟩, z3⟩
          rcases g with g | g
          · rw [List.drop_of_length_le g] at z3
            exact absurd z3 (rd_ne k ws)
          · exact absurd g z1
      · rw [if_neg g]
        have ih := (sy_rd ws r k hr).2
        constructor
        · rintro ⟨s1, z, z2⟩
          injection z with z
          subst z
          obtain ⟨y1, y2⟩ := ih.mp z2
          exact ⟨⟨fun z => g (Or.inr z), y1⟩, y2⟩
        · rintro ⟨⟨z1, z2⟩, z3⟩
          exact ⟨_, rfl, ih.mpr ⟨z2, z3⟩⟩
    · rw [sy_c]
      have hnx : nx c m (r, last, true) k = if m.length ≤ r ∨ bar c last k = true then none else match pr c last k with
          | some t => if t = m.getD r 0 then some (r + 1, k, false) else none
          | none => if cf_sg c last = m.getD r 0 then some (r + 1, k, true) else none := rfl
      rw [hnx]
      have erd : rd c (last :: k :: ws) = match pr c last k with
          | some s => s :: rd c ws
          | none => cf_sg c last :: rd c (k :: ws) := by
        rw [rd]
        cases pr c last k <;> rfl
      rw [erd]
      cases hp : pr c last k with
      | some t =>
        dsimp only
        rw [drop_cons]
        by_cases g : m.length ≤ r ∨ bar c last k = true
        · rw [if_pos g]
          constructor
          · rintro ⟨s1, z, _⟩; cases z
          · rintro ⟨⟨z1, z2⟩, z3, z4⟩
            rcases g with g | g
            · omega
            · exact absurd g z1
        · rw [if_neg g]
          have hrl : r < m.length := Nat.lt_of_not_le (fun z => g (Or.inl z))
          have ih := (sy_rd ws (r + 1) k (by omega)).1
          by_cases g2 : t = m.getD r 0
          · rw [if_pos g2]
            constructor
            · rintro ⟨s1, z, z2⟩
              injection z with z
              subst z
              obtain ⟨y1, y2⟩ := ih.mp z2
              exact ⟨⟨fun z => g (Or.inr z), y1⟩, hrl, g2, y2⟩
            · rintro ⟨⟨z1, z2⟩, z3, z4, z5⟩
              exact ⟨_, rfl, ih.mpr ⟨z2, z5⟩⟩
          · rw [if_neg g2]
            constructor
            · rintro ⟨s1, z, _⟩; cases z
            · rintro ⟨_, _, z4, _⟩; exact absurd z4 g2
      | none =>
        dsimp only
        rw [drop_cons]
        by_cases g : m.length ≤ r ∨ bar c last k = true
        · rw [if_pos g]
          constructor
          · rintro ⟨s1, z, _⟩; cases z
          · rintro ⟨⟨z1, z2⟩, z3, z4⟩
            rcases g with g | g
            · omega
            · exact absurd g z1
        · rw [if_neg g]
          have hrl : r < m.length := Nat.lt_of_not_le (fun z => g (Or.inl z))
          have ih := (sy_rd ws (r + 1) k (by omega)).2
          by_cases g2 : cf_sg c last = m.getD r 0
          · rw [if_pos g2]
            constructor
            · rintro ⟨s1, z, z2⟩
              injection z with z
              subst z
              obtain ⟨y1, y2⟩ := ih.mp z2
              exact ⟨⟨fun z => g (Or.inr z), y1⟩, hrl, g2, y2⟩
            · rintro ⟨⟨z1, z2⟩, z3, z4, z5⟩
              exact ⟨_, rfl, ih.mpr ⟨z2, z5⟩⟩
          · rw [if_neg g2]
            constructor
            · rintro ⟨s1, z, _⟩; cases z
            · rintro ⟨_, _, z4, _⟩; exact absurd z4 g2
theorem sy_00 (ws : List Nat) : sy c m s00 ws ↔ (lw c 6 ws = true ∧ rd c ws = m) := by
  have := (sy_rd (c := c) (m := m) ws 0 6 (Nat.zero_le _)).1
  rw [List.drop_zero] at this
  exact this
/-- what is least is no more than a ROPE that SAYS it -/
theorem LF_sy : ∀ (ws : List Nat) (s : St) (f : Nat), kn c ws → sy c m s ws → ws.length ≤ f → ole (LF c m f s) (ms c s.2.1 ws)
  | [], s, f, _, h, _ => by
    obtain ⟨s', h1, h2⟩ := h
    have h1' : some s = some s' := h1
    injection h1' with h1'
    subst h1'
    have h0 : ole (sde c m s) (em c s.2.1) := ⟨em c s.2.1, by unfold sde; rw [if_pos h2], Nat.le_refl _⟩
    cases f with
    | zero => exact h0
    | succ f => exact lb_0 h0 _
  | k :: ws, s, f, hk, h, hl => by
    rw [List.length_cons] at hl
    obtain ⟨f, rfl⟩ : ∃ f0, f = f0 + 1 := ⟨f - 1, by omega⟩
    obtain ⟨s1, h1, h2⟩ := sy_c.mp h
    have hkk := hk k List.mem_cons_self
    obtain ⟨w, w1, w2⟩ := LF_sy ws s1 f (fun q hq => hk q (List.mem_cons_of_mem _ hq)) h2 (by omega)
    rw [(nx_ok hkk h1).1] at w2
    rw [LF_s]
    refine lb_k ⟨_, gk_eq h1 w1, ?_⟩ _ hkk
    show tk c s.2.1 k + w ≤ tk c s.2.1 k + ms c k ws
    omega
theorem rsl_app : ∀ (u v : List Nat) (s : St), rsl c m s (u ++ v) = match rsl c m s u with
    | none => none
    | some s' => rsl c m s' v
  | [], v, s => rfl
  | k :: u, v, s => by
    show (match nx c m s k with
      | none => none
      | some s' => rsl c m s' (u ++ v)) = match (match nx c m s k with
      | none => none
      | some s' => rsl c m s' u) with
      | none => none
      | some s' => rsl c m s' v
    cases nx c m s k with
    | none => rfl
    | some s1 => exact rsl_app u v s1
theorem ms_app : ∀ (u v : List Nat) (last : Nat), ms c last (u ++ v) = mt c last u + ms c (lsD last u) v
  | [], v, last => by simp [mt, lsD]
  | k :: u, v, last => by
    have := ms_app u v k
    simp only [List.cons_append, ms, mt, lsD]
    rw [this]
    omega
/-- one ROPE looked at -/
def udb (c : Cf) (m bk : List Nat) (ws : List Nat) (b : Bs) : Bs := if (lw c 6 ws = true ∧ rd c ws = m ∧ rd c ws.reverse = bk) ∧ ms c 6 ws < b.1 then (ms c 6 ws, ws) else b
def DF (go : List Nat → Nat → Bs → Bool) (c : Cf) (m bk : List Nat) : Nat → List Nat → Bs → Bs
  | 0, ws, b => udb c m bk ws b
  | f + 1, ws, b => lpb (fun k b => if go ws k b = true then DF go c m bk f (ws ++ [k]) b else b) (cf_n c) (udb c m bk ws b)
abbrev goA : List Nat → Nat → Bs → Bool := fun _ _ _ => true
theorem DF_id : ∀ f ws b, (∀ t, kn c t → t.length ≤ f → (lw c 6 (ws ++ t) = true ∧ rd c (ws ++ t) = m) → b.1 ≤ ms c 6 (ws ++ t)) → ∀ bk, DF goA c m bk f ws b = b
  | 0, ws, b, h, bk => by
    show udb c m bk ws b = b
    unfold udb
    rw [if_neg]
    rintro ⟨⟨z1, z2, _⟩, z3⟩
    have := h [] (fun k hk => absurd hk List.not_mem_nil) (Nat.le_refl _) (by rw [List.append_nil]; exact ⟨z1, z2⟩)
    rw [List.append_nil] at this
    omega
  | f + 1, ws, b, h, bk => by
    have e0 : udb c m bk ws b = b := DF_id 0 ws b (fun t h1 h2 => h t h1 (by omega)) bk
    show lpb (fun k b => if goA ws k b = true then DF goA c m bk f (ws ++ [k]) b else b) (cf_n c) (udb c m bk ws b) = b
    rw [e0]
    have : ∀ k, k ≤ cf_n c → lpb (fun k b => if goA ws k b = true then DF goA c m bk f (ws ++ [k]) b else b) k b = b := by
      intro k
      induction k with
      | zero => intro _; rfl
      | succ k ih =>
        intro hk
        rw [lpb_s, ih (by omega)]
        rw [if_pos rfl]
        refine DF_id f (ws ++ [k]) b (fun t h1 h2 h3 => ?_) bk
        rw [List.append_assoc] at h3 ⊢
        exact h ([k] ++ t) (fun q hq => (List.mem_append.mp hq).elim (fun z => by rw [List.mem_singleton.mp z]; omega) (h1 q)) (by simp; omega) h3
    exact this _ (Nat.le_refl _)
/-- where it is worth to go on -/
def goC (c : Cf) (m : List Nat) (pc : Nat) (ws : List Nat) (k : Nat) (b : Bs) : Bool := match rcl c m pc c00 (ws ++ [k]) with
  | none => false
  | some y => decide (mt c 6 (ws ++ [k]) + nv (LF c m (20 - (ws.length + 1)) (stc y)) < b.1)
theorem DF_eq {pc : Nat} (hp : pcok c m pc) (bk : List Nat) : ∀ f ws b, ws.length + f = 5 → kn c ws → b.1 ≤ 1000 → rcl c m pc c00 ws ≠ none → DF (goC c m pc) c m bk f ws b = DF goA c m bk f ws b
  | 0, ws, b, _, _, _, _ => rfl
  | f + 1, ws, b, hl, hk, hb, hr => by
    show lpb (fun k b => if goC c m pc ws k b = true then DF (goC c m pc) c m bk f (ws ++ [k]) b else b) (cf_n c) (udb c m bk ws b) = lpb (fun k b => if goA ws k b = true then DF goA c m bk f (ws ++ [k]) b else b) (cf_n c) (udb c m bk ws b)
    have hub : (udb c m bk ws b).1 ≤ 1000 := by
      unfold udb
      split
      · rename_i z; show ms c 6 ws ≤ 1000; omega
      · exact hb
    have hmono : ∀ (f : Nat) (ws : List Nat) (b : Bs), (DF goA c m bk f ws b).1 ≤ b.1 := by
      intro f
      induction f with
      | zero =>
        intro ws b
        show (udb c m bk ws b).1 ≤ b.1
        unfold udb
        split
        · rename_i z; exact Nat.le_of_lt z.2
        · exact Nat.le_refl _
      | succ f ihf =>
        intro ws b
        refine Nat.le_trans (lpb_mono (fun k b => ?_) (cf_n c) (udb c m bk ws b)) ?_
        · rw [if_pos rfl]; exact ihf _ _
        · unfold udb
          split
          · rename_i z; exact Nat.le_of_lt z.2
          · exact Nat.le_refl _
    have key : ∀ k, k ≤ cf_n c → lpb (fun k b => if goC c m pc ws k b = true then DF (goC c m pc) c m bk f (ws ++ [k]) b else b) k (udb c m bk ws b) = lpb (fun k b => if goA ws k b = true then DF goA c m bk f (ws ++ [k]) b else b) k (udb c m bk ws b) := by
      intro k
      induction k with
      | zero => intro _; rfl
      | succ k ih =>
        intro hkn
        rw [lpb_s, lpb_s, ih (by omega)]
        have hB : (lpb (fun k b => if goA ws k b = true then DF goA c m bk f (ws ++ [k]) b else b) k (udb c m bk ws b)).1 ≤ 1000 := Nat.le_trans (lpb_mono (fun k b => by rw [if_pos rfl]; exact hmono _ _ _) k _) hub
        generalize lpb (fun k b => if goA ws k b = true then DF goA c m bk f (ws ++ [k]) b else b) k (udb c m bk ws b) = B at hB
        rw [if_pos (show goA ws k B = true from rfl)]
        have hk2 : kn c (ws ++ [k]) := fun q hq => (List.mem_append.mp hq).elim (hk q) (fun z => by rw [List.mem_singleton.mp z]; omega)
        have hl2 : (ws ++ [k]).length = ws.length + 1 := by simp
        by_cases g : goC c m pc ws k B = true
        · rw [if_pos g]
          refine DF_eq hp bk f (ws ++ [k]) B (by rw [hl2]; omega) hk2 hB (fun z => ?_)
          unfold goC at g
          rw [z] at g
          cases g
        · rw [if_neg g]
          refine (DF_id f (ws ++ [k]) B (fun t h1 h2 h3 => ?_) bk).symm
          obtain ⟨s', q1, q2⟩ := (sy_00 _).mpr h3
          rw [rsl_app] at q1
          cases hs : rsl c m s00 (ws ++ [k]) with
          | none => rw [hs] at q1; cases q1
          | some s1 =>
            rw [hs] at q1
            dsimp only at q1
            have hlast := rsl_last _ _ _ hk2 hs
            obtain ⟨v, v1, v2⟩ := LF_sy t s1 (20 - (ws.length + 1)) h1 ⟨s', q1, q2⟩ (by omega)
            rw [ms_app]
            have hl6 : lsD 6 (ws ++ [k]) = s1.2.1 := hlast.symm
            rw [hl6]
            unfold goC at g
            cases hy : rcl c m pc c00 (ws ++ [k]) with
            | none =>
              have := run_none hp (ws ++ [k]) c00 20 (vx00 hp) (Fu00 hp) hk2 (by rw [hl2]; omega) hy s1 hs
              rw [hl2, v1] at this
              cases this
            | some y =>
              rw [hy] at g
              obtain ⟨y1, y2, _⟩ := run_some hp (ws ++ [k]) c00 y 20 (vx00 hp) (Fu00 hp) hk2 hy
              have hsy : s1 = stc y := by rw [show stc c00 = s00 from rfl, hs] at y2; injection y2
              subst hsy
              have g' : ¬ mt c 6 (ws ++ [k]) + v < B.1 := fun z => g (decide_eq_true (by rw [v1]; exact z))
              omega
    exact key _ (Nat.le_refl _)
end RDS

/-! THE TEXT OF A CRAFT in numbers; the class's small methods -/
theorem sI_id {M : pm_M} {k i : Nat} {v : Int32} (h : gI M k i = v) : sI M k i v = M := by
  obtain ⟨a, b, c, e⟩ := M
  unfold sI
  refine congrArg (fun z => (a, z, c, e)) (funext fun x => funext fun y => ?_)
  dsimp only
  split
  · rename_i g
    rw [g.1, g.2]
    exact h.symm
  · rfl
theorem sI_sI (M : pm_M) (k i : Nat) (v w : Int32) : sI (sI M k i v) k i w = sI M k i w := by
  obtain ⟨a, b, c, e⟩ := M
  unfold sI
  refine congrArg (fun z => (a, z, c, e)) (funext fun x => funext fun y => ?_)
  dsimp only
  split
  · rfl
  · rfl
/-- a figure from lo on, below n -/
def fgn (l : List Int32) (p lo n : Nat) : Option Nat := match fg l p (nI lo) (nI n - 1) with
  | none => none
  | some v => some v.toNatClampNeg
theorem nIs1 : ∀ n, n ≤ 10 → (nI n - 1).toInt = (n : Int) - 1 := by decide +kernel
theorem fgn_cs {l : List Int32} {p lo n : Nat} (hlo : lo ≤ 1) (hn : n ≤ 10) : (fgn l p lo n = none ∧ fg l p (nI lo) (nI n - 1) = none) ∨ ∃ v, fgn l p lo n = some v ∧ fg l p (nI lo) (nI n - 1) = some (nI v) ∧ lo ≤ v ∧ v < n ∧ p < l.length := by
  by_cases g : p < l.length ∧ nI lo ≤ l.getD p 0 - 48 ∧ l.getD p 0 - 48 ≤ nI n - 1
  · have e : fg l p (nI lo) (nI n - 1) = some (l.getD p 0 - 48) := if_pos g
    obtain ⟨g0, g1, g2⟩ := g
    generalize l.getD p 0 - 48 = x at *
    have g1' := Int32.le_iff_toInt_le.mp g1
    have g2' := Int32.le_iff_toInt_le.mp g2
    rw [nIs1 n hn] at g2'
    rw [nI_toInt (by omega)] at g1'
    obtain ⟨j, hj, hx⟩ := nI_of (x := x) (fun z => by
      have := Int32.lt_iff_toInt_lt.mp z
      have e0 : (0 : Int32).toInt = 0 := by decide
      omega)
    subst hx
    rw [nI_toInt hj] at g1' g2'
    refine Or.inr ⟨j, ?_, e, by omega, by omega, g0⟩
    unfold fgn
    rw [e]
    show some (nI j).toNatClampNeg = _
    rw [nI_clamp hj]
  · have e : fg l p (nI lo) (nI n - 1) = none := if_neg g
    refine Or.inl ⟨?_, e⟩
    unfold fgn
    rw [e]
theorem fgn_s {l : List Int32} {p lo n v : Nat} (hlo : lo ≤ 1) (hn : n ≤ 10) (h : fgn l p lo n = some v) : fg l p (nI lo) (nI n - 1) = some (nI v) ∧ lo ≤ v ∧ v < n ∧ p < l.length := by
  rcases fgn_cs (l := l) (p := p) hlo hn with ⟨e, _⟩ | ⟨w, e, q⟩
  · rw [h] at e; cases e
  · rw [h] at e; cases e; exact q
theorem fgn_n {l : List Int32} {p lo n : Nat} (hlo : lo ≤ 1) (hn : n ≤ 10) (h : fgn l p lo n = none) : fg l p (nI lo) (nI n - 1) = none := by
  rcases fgn_cs (l := l) (p := p) hlo hn with ⟨_, e⟩ | ⟨w, e, q⟩
  · exact e
  · rw [h] at e; cases e
/-- what has been read: place, KNOTS, LAWS, PAIRS -/
abbrev Pn : Type := Nat × List (Nat × Nat × Nat) × List (Nat × Nat) × List (Nat × Nat × Nat)
def knF (l : List Int32) (s : Pn) (k : Nat) : Nat ⊕ Pn := match fgn l (s.1 + 1) 1 10 with
  | none => .inl (s.1 + 1)
  | some z => match fgn l (s.1 + 2) 0 10 with
    | none => .inl (s.1 + 2)
    | some t => .inr (s.1 + 3, s.2.1 ++ [(k, z, t)], s.2.2.1, s.2.2.2)
def laF (l : List Int32) (s : Pn) : Nat ⊕ Pn := match fgn l (s.1 + 1) 0 s.2.1.length with
  | none => .inl (s.1 + 1)
  | some a => match fgn l (s.1 + 2) 0 s.2.1.length with
    | none => .inl (s.1 + 2)
    | some b => .inr (s.1 + 3, s.2.1, s.2.2.1 ++ [(a, b)], s.2.2.2)
def paF (l : List Int32) (s : Pn) : Nat ⊕ Pn := match fgn l (s.1 + 1) 0 s.2.1.length with
  | none => .inl (s.1 + 1)
  | some a => match fgn l (s.1 + 2) 0 s.2.1.length with
    | none => .inl (s.1 + 2)
    | some b => match fgn l (s.1 + 3) 0 10 with
      | none => .inl (s.1 + 3)
      | some t => .inr (s.1 + 4, s.2.1, s.2.2.1, s.2.2.2 ++ [(a, b, t)])
/-- one item: the place of its fault, or what has been read behind it -/
def itn (l : List Int32) (s : Pn) : Nat ⊕ Pn :=
  if l.getD s.1 0 = 120 then (if s.2.2.1.length = 6 ∨ 0 < s.2.2.2.length then .inl s.1 else laF l s)
  else if l.getD s.1 0 = 121 then (if s.2.2.2.length = 6 then .inl s.1 else paF l s)
  else match kd0 (l.getD s.1 0) with
    | none => .inl s.1
    | some k => if s.2.1.length = 6 ∨ 0 < s.2.2.1.length + s.2.2.2.length then .inl s.1 else knF l s k
/-- well made -/
def pwf (s : Pn) : Prop := s.2.1.length ≤ 6 ∧ s.2.2.1.length ≤ 6 ∧ s.2.2.2.length ≤ 6 ∧ (∀ x, x ∈ s.2.1 → x.1 ≤ 5 ∧ 1 ≤ x.2.1 ∧ x.2.1 ≤ 9 ∧ x.2.2 ≤ 9) ∧ (∀ x, x ∈ s.2.2.1 → x.1 < s.2.1.length ∧ x.2 < s.2.1.length) ∧ (∀ x, x ∈ s.2.2.2 → x.1 < s.2.1.length ∧ x.2.1 < s.2.1.length ∧ x.2.2 ≤ 9)
theorem kd0_le {b : Int32} {k : Nat} (h : kd0 b = some k) : k ≤ 5 := by
  unfold kd0 at h
  repeat' split at h
  all_goals first | (cases h; decide) | cases h
theorem itn_ok {l : List Int32} {s s' : Pn} (hw : pwf s) (h : itn l s = .inr s') : pwf s' ∧ s.1 + 3 ≤ s'.1 ∧ s'.1 ≤ l.length := by
  obtain ⟨w1, w2, w3, w4, w5, w6⟩ := hw
  unfold itn at h
  split at h
  · split at h
    · cases h
    · rename_i q
      unfold laF at h
      rcases fgn_cs (l := l) (p := s.1 + 1) (lo := 0) (n := s.2.1.length) (by decide) (by omega) with ⟨e, _⟩ | ⟨a, e, _, _, ha, _⟩
      · rw [e] at h; cases h
      · rw [e] at h
        rcases fgn_cs (l := l) (p := s.1 + 2) (lo := 0) (n := s.2.1.length) (by decide) (by omega) with ⟨e, _⟩ | ⟨b, e, _, _, hb, hp⟩
        · rw [e] at h; cases h
        · rw [e] at h
          cases h
          refine ⟨⟨w1, ?_, w3, w4, fun x hx => ?_, w6⟩, Nat.le_refl _, hp⟩
          · show (s.2.2.1 ++ [(a, b)]).length ≤ 6
            rw [List.length_append]
            show s.2.2.1.length + 1 ≤ 6
            omega
          · rcases List.mem_append.mp hx with z | z
            · exact w5 x z
            · rw [List.mem_singleton.mp z]; exact ⟨ha, hb⟩
  · split at h
    · split at h
      · cases h
      · rename_i q
        unfold paF at h
        rcases fgn_cs (l := l) (p := s.1 + 1) (lo := 0) (n := s.2.1.length) (by decide) (by omega) with ⟨e, _⟩ | ⟨a, e, _, _, ha, _⟩
        · rw [e] at h; cases h
        · rw [e] at h
          rcases fgn_cs (l := l) (p := s.1 + 2) (lo := 0) (n := s.2.1.length) (by decide) (by omega) with ⟨e, _⟩ | ⟨b, e, _, _, hb, _⟩
          · rw [e] at h; cases h
          · rw [e] at h
            rcases fgn_cs (l := l) (p := s.1 + 3) (lo := 0) (n := 10) (by decide) (by omega) with ⟨e, _⟩ | ⟨t, e, _, _, ht, hp⟩
            · rw [e] at h; cases h
            · rw [e] at h
              cases h
              refine ⟨⟨w1, w2, ?_, w4, w5, fun x hx => ?_⟩, Nat.le_succ _, hp⟩
              · show (s.2.2.2 ++ [(a, b, t)]).length ≤ 6
                rw [List.length_append]
                show s.2.2.2.length + 1 ≤ 6
                omega
              · rcases List.mem_append.mp hx with z | z
                · exact w6 x z
                · rw [List.mem_singleton.mp z]; exact ⟨ha, hb, by show t ≤ 9; omega⟩
    · split at h
      · cases h
      · rename_i k hk
        split at h
        · cases h
        · rename_i q
          unfold knF at h
          rcases fgn_cs (l := l) (p := s.1 + 1) (lo := 1) (n := 10) (by decide) (by omega) with ⟨e, _⟩ | ⟨z, e, _, hz1, hz, _⟩
          · rw [e] at h; cases h
          · rw [e] at h
            rcases fgn_cs (l := l) (p := s.1 + 2) (lo := 0) (n := 10) (by decide) (by omega) with ⟨e, _⟩ | ⟨t, e, _, _, ht, hp⟩
            · rw [e] at h; cases h
            · rw [e] at h
              cases h
              have z1 : s.2.2.1 = [] := List.length_eq_zero_iff.mp (by omega)
              have z2 : s.2.2.2 = [] := List.length_eq_zero_iff.mp (by omega)
              refine ⟨⟨?_, w2, w3, fun x hx => ?_, fun x hx => ?_, fun x hx => ?_⟩, Nat.le_refl _, hp⟩
              · show (s.2.1 ++ [(k, z, t)]).length ≤ 6
                rw [List.length_append]
                show s.2.1.length + 1 ≤ 6
                omega
              · rcases List.mem_append.mp hx with y | y
                · exact w4 x y
                · rw [List.mem_singleton.mp y]; exact ⟨kd0_le hk, hz1, by show z ≤ 9; omega, by show t ≤ 9; omega⟩
              · rw [show s.2.2.1 = [] from z1] at hx
                cases hx
              · rw [show s.2.2.2 = [] from z2] at hx
                cases hx
/-- the items to the end -/
def itz (l : List Int32) : Nat → Pn → Nat ⊕ Pn
  | 0, s => .inr s
  | f + 1, s => if l.length ≤ s.1 then .inr s else if l.getD s.1 0 = 32 then itz l f (s.1 + 1, s.2) else match itn l s with
    | .inl q => .inl q
    | .inr s' => itz l f s'
theorem itz_f {l : List Int32} : ∀ f g s, pwf s → l.length - s.1 ≤ f → l.length - s.1 ≤ g → itz l f s = itz l g s
  | 0, 0, s, _, _, _ => rfl
  | 0, g + 1, s, _, hf, _ => by
    unfold itz
    rw [if_pos (by omega)]
  | f + 1, 0, s, _, _, hg => by
    unfold itz
    rw [if_pos (by omega)]
  | f + 1, g + 1, s, hw, hf, hg => by
    unfold itz
    split
    · rfl
    · split
      · exact itz_f f g _ hw (by show l.length - (s.1 + 1) ≤ f; omega) (by show l.length - (s.1 + 1) ≤ g; omega)
      · cases e : itn l s with
        | inl q => rfl
        | inr s' =>
          obtain ⟨h1, h2, _⟩ := itn_ok hw e
          exact itz_f f g s' h1 (by omega) (by omega)
def itT (l : List Int32) (s : Pn) : Nat ⊕ Pn := itz l (l.length - s.1) s
theorem itT_end {l : List Int32} {s : Pn} (h : l.length ≤ s.1) : itT l s = .inr s := by
  unfold itT
  rw [show l.length - s.1 = 0 by omega]
  rfl
theorem itT_bl {l : List Int32} {s : Pn} (h : s.1 < l.length) (g : l.getD s.1 0 = 32) : itT l s = itT l (s.1 + 1, s.2) := by
  unfold itT
  rw [show l.length - s.1 = (l.length - (s.1 + 1)) + 1 by omega]
  show (if l.length ≤ s.1 then _ else _) = _
  rw [if_neg (by omega), if_pos g]
theorem itT_l {l : List Int32} {s : Pn} {q : Nat} (h : s.1 < l.length) (g : l.getD s.1 0 ≠ 32) (e : itn l s = .inl q) : itT l s = .inl q := by
  unfold itT
  rw [show l.length - s.1 = (l.length - (s.1 + 1)) + 1 by omega]
  show (if l.length ≤ s.1 then _ else _) = _
  rw [if_neg (by omega), if_neg g, e]
theorem itT_r {l : List Int32} {s s' : Pn} (hw : pwf s) (h : s.1 < l.length) (g : l.getD s.1 0 ≠ 32) (e : itn l s = .inr s') : itT l s = itT l s' := by
  obtain ⟨h1, h2, _⟩ := itn_ok hw e
  unfold itT
  rw [show l.length - s.1 = (l.length - (s.1 + 1)) + 1 by omega]
  show (if l.length ≤ s.1 then _ else _) = _
  rw [if_neg (by omega), if_neg g, e]
  exact itz_f _ _ s' h1 (by omega) (by omega)
theorem skb_ge {l : List Int32} : ∀ f p, p ≤ skb l f p
  | 0, p => Nat.le_refl _
  | f + 1, p => by
    unfold skb
    split
    · exact Nat.le_trans (Nat.le_succ p) (skb_ge f (p + 1))
    · exact Nat.le_refl _
theorem skb_le {l : List Int32} : ∀ f p, p ≤ l.length → skb l f p ≤ l.length
  | 0, p, h => h
  | f + 1, p, h => by
    unfold skb
    split
    · rename_i q
      exact skb_le f (p + 1) q.1
    · exact h
theorem skb_st {l : List Int32} : ∀ f p, l.length - p ≤ f → l.length ≤ skb l f p ∨ l.getD (skb l f p) 0 ≠ 32
  | 0, p, h => Or.inl (by unfold skb; omega)
  | f + 1, p, h => by
    unfold skb
    split
    · exact skb_st f (p + 1) (by omega)
    · rename_i q
      by_cases z : l.length ≤ p
      · exact Or.inl z
      · exact Or.inr (fun y => q ⟨by omega, y⟩)
theorem itT_sk {l : List Int32} : ∀ f (s : Pn), itT l s = itT l (skb l f s.1, s.2)
  | 0, s => rfl
  | f + 1, s => by
    unfold skb
    split
    · rename_i q
      rw [itT_bl q.1 q.2]
      exact itT_sk f (s.1 + 1, s.2)
    · rfl
section PRC
variable {M : pm_M} {t : Nat} {l : List Int32}
theorem c_fgN (d : Nat) (hM : pm_ok M) (ht : t < 4) (h : CTxt M (118 + 2 * t) (some l)) {p lo n : Nat} (hp : p ≤ 80) (h6 : gI M 20 6 = nI p) (hlo : lo ≤ 1) (hn : n ≤ 10) {x y : Int32} (hx : x = nI lo) (hy : y = nI n - 1) (e : fgn l p lo n = none) :
    pm_call (d + 1) 33 [.ref 20, .ref (118 + 2 * t), .int x, .int y] M (some (.int (-1))) M := by
  subst hx hy
  have := c_figure2 d hM ht h h.2.1 hp h6 (nI lo) (nI n - 1)
  rw [fgn_n hlo hn e] at this
  exact this
theorem c_fgS (d : Nat) (hM : pm_ok M) (ht : t < 4) (h : CTxt M (118 + 2 * t) (some l)) {p lo n v : Nat} (hp : p ≤ 80) (h6 : gI M 20 6 = nI p) (hlo : lo ≤ 1) (hn : n ≤ 10) {x y : Int32} (hx : x = nI lo) (hy : y = nI n - 1) (e : fgn l p lo n = some v) :
    pm_call (d + 1) 33 [.ref 20, .ref (118 + 2 * t), .int x, .int y] M (some (.int (nI v))) (sI M 20 6 (nI (p + 1))) := by
  subst hx hy
  have := c_figure2 d hM ht h h.2.1 hp h6 (nI lo) (nI n - 1)
  rw [(fgn_s hlo hn e).1] at this
  exact this
theorem c_skipBlanks (d : Nat) (hM : pm_ok M) (ht : t < 4) (h : CTxt M (118 + 2 * t) (some l)) {p : Nat} (hp : p ≤ 90) (h6 : gI M 20 6 = nI p) :
    pm_call (d + 1) 28 [.ref 20, .ref (118 + 2 * t)] M none (sI M 20 6 (nI (skb l 80 p))) := by
  refine en_28 (Nat.le_of_ble_eq_true rfl) ?_
  have hl := h.2.1
  refine st_ald rfl rfl ?_
  refine st_gI rfl (by first | exact tT hM rfl | assumption | exact rw_T hM (by assumption) | exact rw_A hM (by assumption)) ?_
  -- at 4: stop
  refine wp_e h6 ?_
  refine st_ist rfl ?_
  -- at 5: stop
  have key : ∀ f q (M1 M' : pm_M), pm_ok M1 → CTxt M1 (118 + 2 * t) (some l) → gI M1 20 6 = nI q → q ≤ 90 → l.length - q ≤ f → M' = sI M1 20 6 (nI (skb l f q)) → pm_WP (pm_call d) tb_28 (fun r0 M2 => r0 = none ∧ M2 = M') 5 [some (.ref 20), some (.ref (118 + 2 * t)), some (.int (nI q))] [] M1 := by
    intro f
    induction f with
    | zero =>
      intro q M1 M' hM h h6 hq hf e
      obtain ⟨h1, h2, h3⟩ := h
      have t1 := tTxt hM ht
      refine st_ild rfl rfl ?_
      refine st_ald rfl rfl ?_
      refine st_gI rfl (by first | exact tT hM rfl | assumption | exact rw_T hM (by assumption) | exact rw_A hM (by assumption)) ?_
      -- at 10: stop
      refine wp_e h1 ?_
      refine st_b2 rfl (fun _ => ?_) (fun zq => absurd (nI_le (by omega) (by omega)) zq)
      -- at 40: op_vret
      exact st_vret rfl ⟨rfl, by rw [e]; exact (sI_id h6).symm⟩
    | succ f ih =>
      intro q M1 M' hM h h6 hq hf e
      obtain ⟨h1, h2, h3⟩ := h
      have t1 := tTxt hM ht
      have t3 := rTxtA hM ht
      have t2 := tTxtA hM ht
      refine st_ild rfl rfl ?_
      refine st_ald rfl rfl ?_
      refine st_gI rfl (by first | exact tT hM rfl | assumption | exact rw_T hM (by assumption) | exact rw_A hM (by assumption)) ?_
      -- at 10: stop
      refine wp_e h1 ?_
      by_cases g : q < l.length
      · have hin : vp_in (nI q) 80 := vp_in_nI (by omega) (by decide)
        refine st_b2 rfl (fun zq => absurd zq (nI_ge g (by omega))) (fun _ => ?_)
        refine st_ald rfl rfl ?_
        refine st_gR' rfl (by first | exact tT hM rfl | assumption | exact rw_T hM (by assumption) | exact rw_A hM (by assumption)) (by first | exact rR hM rfl rfl | assumption | exact rw_R hM (by assumption)) ?_
        refine st_ild rfl rfl ?_
        refine st_bald rfl (t2) (hin) ?_
        -- at 19: stop
        refine wp_e (y := l.getD q 0) (by rw [nI_clamp (by omega)]; exact h3 q g) ?_
        by_cases g2 : l.getD q 0 = 32
        · have e' : skb l (f + 1) q = skb l f (q + 1) := by show (if _ then _ else _) = _; rw [if_pos ⟨g, g2⟩]
          rw [e'] at e
          refine st_k rfl ?_
          refine st_b2 rfl (fun zq => absurd zq ((fun z => z g2))) (fun _ => ?_)
          refine st_ald rfl rfl ?_
          refine st_dup rfl rfl ?_
          refine st_gI rfl (by first | exact tT hM rfl | assumption | exact rw_T hM (by assumption) | exact rw_A hM (by assumption)) ?_
          -- at 29: stop
          refine wp_e h6 ?_
          refine st_k rfl ?_
          refine st_ib rfl ?_
          refine st_pI rfl (by first | exact tT hM rfl | assumption | exact rw_T hM (by assumption) | exact rw_A hM (by assumption)) ?_
          refine st_inc rfl rfl ?_
          refine st_go rfl ?_
          -- at 5: stop
          rw [show nI q + 1 = nI (q + 1) from nI_1 q]
          refine ih (q + 1) (sI M1 20 6 (nI (q + 1))) M' hM ?_ (gI_same _ _ _ _) (by omega) (by omega) (by rw [sI_sI]; exact e)
          exact CTxt.kept (x := some l) ⟨h1, h2, h3⟩ (fun i => gI_ne (Or.inl (by omega))) (fun i => gI_ne (Or.inl (by omega)))
        · have e' : skb l (f + 1) q = q := by show (if _ then _ else _) = _; rw [if_neg (fun z => g2 z.2)]
          rw [e'] at e
          refine st_k rfl ?_
          refine st_b2 rfl (fun _ => ?_) (fun zq => absurd (g2) zq)
          -- at 40: op_vret
          exact st_vret rfl ⟨rfl, by rw [e]; exact (sI_id h6).symm⟩
      · have e' : skb l (f + 1) q = q := by show (if _ then _ else _) = _; rw [if_neg (fun z => g z.1)]
        rw [e'] at e
        refine st_b2 rfl (fun _ => ?_) (fun zq => absurd (nI_le (by omega) (by omega)) zq)
        -- at 40: op_vret
        exact st_vret rfl ⟨rfl, by rw [e]; exact (sI_id h6).symm⟩
  exact key 80 p M _ hM h h6 hp (by omega) rfl
/-- two figures -/
def twF (l : List Int32) (p : Nat) : Nat ⊕ Nat := match fgn l p 0 10 with
  | none => .inl p
  | some a => match fgn l (p + 1) 0 10 with
    | none => .inl (p + 1)
    | some b => .inr (10 * a + b)
theorem twF_cs (l : List Int32) (p : Nat) : (fgn l p 0 10 = none ∧ twF l p = .inl p) ∨ (∃ a, fgn l p 0 10 = some a ∧ fgn l (p + 1) 0 10 = none ∧ p < l.length ∧ twF l p = .inl (p + 1)) ∨ ∃ a b, fgn l p 0 10 = some a ∧ fgn l (p + 1) 0 10 = some b ∧ a < 10 ∧ b < 10 ∧ p + 1 < l.length ∧ twF l p = .inr (10 * a + b) := by
  unfold twF
  rcases fgn_cs (l := l) (p := p) (lo := 0) (n := 10) (by decide) (by decide) with ⟨e, _⟩ | ⟨a, e, _, _, ha, h0⟩
  · rw [e]; exact Or.inl ⟨rfl, rfl⟩
  · rw [e]
    rcases fgn_cs (l := l) (p := p + 1) (lo := 0) (n := 10) (by decide) (by decide) with ⟨e, _⟩ | ⟨b, e, _, _, hb, hp⟩
    · rw [e]; exact Or.inr (Or.inl ⟨a, rfl, rfl, h0, rfl⟩)
    · rw [e]; exact Or.inr (Or.inr ⟨a, b, rfl, rfl, ha, hb, hp, rfl⟩)
theorem c_twoFigures (d : Nat) (hM : pm_ok M) (ht : t < 4) (h : CTxt M (118 + 2 * t) (some l)) {p : Nat} (hp : p ≤ 80) (h6 : gI M 20 6 = nI p) :
    pm_call (d + 2) 32 [.ref 20, .ref (118 + 2 * t)] M (some (.int (match twF l p with | .inl _ => -1 | .inr v => nI v))) (sI M 20 6 (nI (match twF l p with | .inl q => q | .inr _ => p + 2))) := by
  refine en_32 (Nat.le_of_ble_eq_true rfl) ?_
  have hl := h.2.1
  have h' : ∀ v : Int32, CTxt (sI M 20 6 v) (118 + 2 * t) (some l) := fun v => h.kept (fun i => gI_ne (Or.inl (by omega))) (fun i => gI_ne (Or.inl (by omega)))
  have hM1 : ∀ v : Int32, pm_ok (sI M 20 6 v) := fun v => hM
  rcases twF_cs l p with ⟨e, et⟩ | ⟨a, e, e2, h0, et⟩ | ⟨a, b, e, e2, ha, hb, h0, et⟩
  · rw [et]
    refine st_ald rfl rfl ?_
    refine st_ald rfl rfl ?_
    refine st_k rfl ?_
    refine st_k rfl ?_
    refine st_cav (As := [_, _, _]) rfl rfl rfl (by first | exact tT hM rfl | assumption | exact rw_T hM (by assumption) | exact rw_A hM (by assumption)) (Nat.le_of_ble_eq_true rfl) (c_fgN d hM ht h hp h6 (lo := 0) (n := 10) (by decide) (by decide) (by decide) (by decide) e) ?_
    refine st_ist rfl ?_
    refine st_ild rfl rfl ?_
    refine st_b1 rfl (fun zq => absurd zq ((by decide))) (fun _ => ?_)
    refine st_k rfl ?_
    -- at 14: op_iret
    exact st_iret rfl ⟨rfl, (sI_id h6).symm⟩
  · rw [et]
    refine st_ald rfl rfl ?_
    refine st_ald rfl rfl ?_
    refine st_k rfl ?_
    refine st_k rfl ?_
    refine st_cav (As := [_, _, _]) rfl rfl rfl (by first | exact tT hM rfl | assumption | exact rw_T hM (by assumption) | exact rw_A hM (by assumption)) (Nat.le_of_ble_eq_true rfl) (c_fgS d hM ht h hp h6 (lo := 0) (n := 10) (by decide) (by decide) (by decide) (by decide) e) ?_
    refine st_ist rfl ?_
    refine st_ild rfl rfl ?_
    refine st_b1 rfl (fun _ => ?_) (fun zq => absurd (nI_pos' (by have := (fgn_s (by decide) (by decide) e).2.2.1; omega)) zq)
    -- at 15: stop
    refine st_ald rfl rfl ?_
    refine st_ald rfl rfl ?_
    refine st_k rfl ?_
    refine st_k rfl ?_
    refine st_cav (As := [_, _, _]) rfl rfl rfl (by first | exact tT (hM1 _) rfl | assumption | exact rw_T (hM1 _) (by assumption) | exact rw_A (hM1 _) (by assumption)) (Nat.le_of_ble_eq_true rfl) (c_fgN d (hM1 _) ht (h' _) (p := p + 1) (by omega) (gI_same _ _ _ _) (lo := 0) (n := 10) (by decide) (by decide) (by decide) (by decide) e2) ?_
    refine st_ist rfl ?_
    refine st_ild rfl rfl ?_
    refine st_b1 rfl (fun zq => absurd zq ((by decide))) (fun _ => ?_)
    refine st_k rfl ?_
    refine st_go rfl ?_
    -- at 38: op_iret
    exact st_iret rfl ⟨rfl, rfl⟩
  · rw [et]
    refine st_ald rfl rfl ?_
    refine st_ald rfl rfl ?_
    refine st_k rfl ?_
    refine st_k rfl ?_
    refine st_cav (As := [_, _, _]) rfl rfl rfl (by first | exact tT hM rfl | assumption | exact rw_T hM (by assumption) | exact rw_A hM (by assumption)) (Nat.le_of_ble_eq_true rfl) (c_fgS d hM ht h hp h6 (lo := 0) (n := 10) (by decide) (by decide) (by decide) (by decide) e) ?_
    refine st_ist rfl ?_
    refine st_ild rfl rfl ?_
    refine st_b1 rfl (fun _ => ?_) (fun zq => absurd (nI_pos' (by omega)) zq)
    -- at 15: stop
    refine st_ald rfl rfl ?_
    refine st_ald rfl rfl ?_
    refine st_k rfl ?_
    refine st_k rfl ?_
    refine st_cav (As := [_, _, _]) rfl rfl rfl (by first | exact tT (hM1 _) rfl | assumption | exact rw_T (hM1 _) (by assumption) | exact rw_A (hM1 _) (by assumption)) (Nat.le_of_ble_eq_true rfl) (c_fgS d (hM1 _) ht (h' _) (p := p + 1) (by omega) (gI_same _ _ _ _) (lo := 0) (n := 10) (by decide) (by decide) (by decide) (by decide) e2) ?_
    refine st_ist rfl ?_
    refine st_ild rfl rfl ?_
    refine st_b1 rfl (fun _ => ?_) (fun zq => absurd (nI_pos' (by omega)) zq)
    refine st_k rfl ?_
    refine st_ild rfl rfl ?_
    refine st_ib rfl ?_
    refine st_ild rfl rfl ?_
    refine st_ib rfl ?_
    -- at 38: op_iret
    exact st_iret rfl ⟨by show some (Value.int (nI 10 * nI a + nI b)) = some (Value.int (nI (10 * a + b))); rw [pk_mul, nI_add], by rw [sI_sI]⟩
end PRC

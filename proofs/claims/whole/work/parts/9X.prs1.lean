/-! THE TEXT OF A CRAFT, read in pure form -/
/-- a figure at a place, between two bounds -/
def fg (l : List Int32) (p : Nat) (lo hi : Int32) : Option Int32 := if p < l.length ∧ lo ≤ l.getD p 0 - 48 ∧ l.getD p 0 - 48 ≤ hi then some (l.getD p 0 - 48) else none
/-- what has been read: place, KNOTS, LAWS, PAIRS -/
abbrev Pz : Type := Nat × List (Nat × Int32 × Int32) × List (Int32 × Int32) × List (Int32 × Int32 × Int32)
def kd0 (b : Int32) : Option Nat := if b = 98 then some 2 else if b = 104 then some 3 else if b = 107 then some 0 else if b = 111 then some 1 else if b = 115 then some 4 else if b = 119 then some 5 else none
/-- one item: the place of its fault, or what has been read behind it -/
def itm (l : List Int32) (s : Pz) : Nat ⊕ Pz :=
  if l.getD s.1 0 = 120 then
    if s.2.2.1.length = 6 ∨ 0 < s.2.2.2.length then .inl s.1 else
    match fg l (s.1 + 1) 0 (nI s.2.1.length - 1) with
    | none => .inl (s.1 + 1)
    | some a => match fg l (s.1 + 2) 0 (nI s.2.1.length - 1) with
      | none => .inl (s.1 + 2)
      | some b => .inr (s.1 + 3, s.2.1, s.2.2.1 ++ [(a, b)], s.2.2.2)
  else if l.getD s.1 0 = 121 then
    if s.2.2.2.length = 6 then .inl s.1 else
    match fg l (s.1 + 1) 0 (nI s.2.1.length - 1) with
    | none => .inl (s.1 + 1)
    | some a => match fg l (s.1 + 2) 0 (nI s.2.1.length - 1) with
      | none => .inl (s.1 + 2)
      | some b => match fg l (s.1 + 3) 0 9 with
        | none => .inl (s.1 + 3)
        | some t => .inr (s.1 + 4, s.2.1, s.2.2.1, s.2.2.2 ++ [(a, b, t)])
  else match kd0 (l.getD s.1 0) with
    | none => .inl s.1
    | some k =>
      if s.2.1.length = 6 ∨ 0 < s.2.2.1.length + s.2.2.2.length then .inl s.1 else
      match fg l (s.1 + 1) 1 9 with
      | none => .inl (s.1 + 1)
      | some z => match fg l (s.1 + 2) 0 9 with
        | none => .inl (s.1 + 2)
        | some t => .inr (s.1 + 3, s.2.1 ++ [(k, z, t)], s.2.2.1, s.2.2.2)
/-- behind the blanks -/
def skb (l : List Int32) : Nat → Nat → Nat
  | 0, p => p
  | f + 1, p => if p < l.length ∧ l.getD p 0 = 32 then skb l f (p + 1) else p
/-- the items to the end -/
def its (l : List Int32) : Nat → Pz → Nat ⊕ Pz
  | 0, s => .inr s
  | f + 1, s => if l.length ≤ s.1 then .inr s else if l.getD s.1 0 = 32 then its l f (s.1 + 1, s.2) else match itm l s with
    | .inl q => .inl q
    | .inr s' => its l f s'
section PRS
variable {M : pm_M}
theorem c_figure2 (d : Nat) (hM : pm_ok M) {t p : Nat} (ht : t < 4) {l : List Int32} (h : CTxt M (118 + 2 * t) (some l)) (hl : l.length ≤ 80) (hp : p ≤ 80) (h6 : gI M 20 6 = nI p) (lo hi : Int32) :
    pm_call (d + 1) 33 [.ref 20, .ref (118 + 2 * t), .int lo, .int hi] M (some (.int ((fg l p lo hi).getD (-1)))) (match fg l p lo hi with | none => M | some _ => sI M 20 6 (nI (p + 1))) := by
  obtain ⟨h1, h2, h3⟩ := h
  have t1 := tTxt hM ht
  have t3 := rTxtA hM ht
  have t2 := tTxtA hM ht
  have hin : p < l.length → vp_in (nI p) 80 := fun z => vp_in_nI (by omega) (by decide)
  refine en_33 (Nat.le_of_ble_eq_true rfl) ?_
  refine st_ald rfl rfl ?_
  refine st_gI rfl (by first | exact tT hM rfl | assumption | exact rw_T hM (by assumption) | exact rw_A hM (by assumption)) ?_
  -- at 4: stop
  refine wp_e h6 ?_
  refine st_ald rfl rfl ?_
  refine st_gI rfl (by first | exact tT hM rfl | assumption | exact rw_T hM (by assumption) | exact rw_A hM (by assumption)) ?_
  -- at 8: stop
  refine wp_e h1 ?_
  by_cases g : p < l.length
  · refine st_b2 rfl (fun _ => ?_) (fun zq => absurd (nI_lt g (by omega)) zq)
    refine st_ald rfl rfl ?_
    refine st_gR' rfl (by first | exact tT hM rfl | assumption | exact rw_T hM (by assumption) | exact rw_A hM (by assumption)) (by first | exact rR hM rfl rfl | assumption | exact rw_R hM (by assumption)) ?_
    refine st_ald rfl rfl ?_
    -- at 18: stop
    refine st_gI rfl (by first | exact tT hM rfl | assumption | exact rw_T hM (by assumption) | exact rw_A hM (by assumption)) ?_
    -- at 21: stop
    refine wp_e h6 ?_
    have hin' := hin g
    refine st_bald rfl (t2) (hin') ?_
    -- at 22: stop
    refine wp_e (y := l.getD p 0) (by rw [nI_clamp (by omega)]; exact h3 p g) ?_
    by_cases g1 : lo ≤ l.getD p 0 - 48
    · by_cases g2 : l.getD p 0 - 48 ≤ hi
      · have e : fg l p lo hi = some (l.getD p 0 - 48) := if_pos ⟨g, g1, g2⟩
        rw [e]
        refine st_k rfl ?_
        refine st_ib rfl ?_
        refine st_ist rfl ?_
        refine st_ild rfl rfl ?_
        refine st_ild rfl rfl ?_
        refine st_b2 rfl (fun zq => absurd zq (Int32.not_lt.mpr g1)) (fun _ => ?_)
        refine st_ild rfl rfl ?_
        refine st_ild rfl rfl ?_
        refine st_b2 rfl (fun _ => ?_) (fun zq => absurd (g2) zq)
        refine st_ald rfl rfl ?_
        refine st_dup rfl rfl ?_
        refine st_gI rfl (by first | exact tT hM rfl | assumption | exact rw_T hM (by assumption) | exact rw_A hM (by assumption)) ?_
        -- at 46: stop
        refine wp_e h6 ?_
        refine st_k rfl ?_
        refine st_ib rfl ?_
        refine st_pI rfl (by first | exact tT hM rfl | assumption | exact rw_T hM (by assumption) | exact rw_A hM (by assumption)) ?_
        refine st_ild rfl rfl ?_
        -- at 53: op_iret
        exact st_iret rfl ⟨rfl, by rw [nI_1]⟩
      · have e : fg l p lo hi = none := if_neg (fun z => g2 z.2.2)
        rw [e]
        refine st_k rfl ?_
        refine st_ib rfl ?_
        refine st_ist rfl ?_
        refine st_ild rfl rfl ?_
        refine st_ild rfl rfl ?_
        refine st_b2 rfl (fun zq => absurd zq (Int32.not_lt.mpr g1)) (fun _ => ?_)
        refine st_ild rfl rfl ?_
        refine st_ild rfl rfl ?_
        refine st_b2 rfl (fun zq => absurd zq (g2)) (fun _ => ?_)
        refine st_k rfl ?_
        -- at 40: op_iret
        exact st_iret rfl ⟨rfl, rfl⟩
    · have e : fg l p lo hi = none := if_neg (fun z => g1 z.2.1)
      rw [e]
      refine st_k rfl ?_
      refine st_ib rfl ?_
      refine st_ist rfl ?_
      refine st_ild rfl rfl ?_
      refine st_ild rfl rfl ?_
      refine st_b2 rfl (fun _ => ?_) (fun zq => absurd (Int32.not_le.mp g1) zq)
      refine st_k rfl ?_
      -- at 40: op_iret
      exact st_iret rfl ⟨rfl, rfl⟩
  · have e : fg l p lo hi = none := if_neg (fun z => g z.1)
    rw [e]
    refine st_b2 rfl (fun zq => absurd zq (nI_nlt (by omega) (by omega))) (fun _ => ?_)
    refine st_k rfl ?_
    -- at 12: op_iret
    exact st_iret rfl ⟨rfl, rfl⟩
end PRS

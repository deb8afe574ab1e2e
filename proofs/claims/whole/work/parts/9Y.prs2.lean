section PRM
variable {M : pm_M}
theorem fg_out {l : List Int32} {p : Nat} {lo hi : Int32} (hlo : 0 ≤ lo) (h : ¬ p < l.length) : ¬ (¬ l.getD p 0 - 48 < lo ∧ ¬ hi < l.getD p 0 - 48) := fun z => by
  have e : l.getD p 0 = 0 := by rw [List.getD_eq_getElem?_getD, List.getElem?_eq_none (by omega)]; rfl
  rw [e] at z
  exact z.1 (Int32.lt_of_lt_of_le (by decide) hlo)
theorem fg_cs {l : List Int32} {p : Nat} {lo hi : Int32} (hlo : 0 ≤ lo) : (fg l p lo hi = none ∧ ¬ (¬ l.getD p 0 - 48 < lo ∧ ¬ hi < l.getD p 0 - 48)) ∨ (fg l p lo hi = some (l.getD p 0 - 48) ∧ p < l.length ∧ ¬ l.getD p 0 - 48 < lo ∧ ¬ hi < l.getD p 0 - 48) := by
  by_cases g : p < l.length
  · by_cases g1 : lo ≤ l.getD p 0 - 48 ∧ l.getD p 0 - 48 ≤ hi
    · exact Or.inr ⟨if_pos ⟨g, g1.1, g1.2⟩, g, Int32.not_lt.mpr g1.1, Int32.not_lt.mpr g1.2⟩
    · exact Or.inl ⟨if_neg (fun z => g1 z.2), fun z => g1 ⟨Int32.not_lt.mp z.1, Int32.not_lt.mp z.2⟩⟩
  · exact Or.inl ⟨if_neg (fun z => g z.1), fg_out hlo g⟩
theorem m_figure (d : Nat) (hM : pm_ok M) {t p : Nat} (ht : t < 4) {l : List Int32} (h : MTxt M t (some l)) (hp : p ≤ 90) (h19 : gI M 132 19 = nI p) {lo hi : Int32} (hlo : 0 ≤ lo) :
    pm_call (d + 2) 174 [.ref 132, .int (nI t), .int lo, .int hi] M (some (.int (if (fg l p lo hi).isSome = true then 1 else 0))) (sI (sI M 132 20 (l.getD p 0 - 48)) 132 19 (nI (if (fg l p lo hi).isSome = true then p + 1 else p))) := by
  refine en_174 (Nat.le_of_ble_eq_true rfl) ?_
  have hM1 : pm_ok (sI M 132 20 (l.getD p 0 - 48)) := hM
  refine st_ald rfl rfl ?_
  refine st_ald rfl rfl ?_
  refine st_ild rfl rfl ?_
  refine st_ald rfl rfl ?_
  refine st_gI rfl (by first | exact tT hM rfl | assumption | exact rw_T hM (by assumption) | exact rw_A hM (by assumption)) ?_
  -- at 7: stop
  refine wp_e h19 ?_
  refine st_cav (As := [_, _]) rfl rfl rfl (by first | exact tT hM rfl | assumption | exact rw_T hM (by assumption) | exact rw_A hM (by assumption)) (Nat.le_of_ble_eq_true rfl) (m_byteAt d hM ht h (by omega)) ?_
  refine st_k rfl ?_
  refine st_ib rfl ?_
  refine st_pI rfl (by first | exact tT hM rfl | assumption | exact rw_T hM (by assumption) | exact rw_A hM (by assumption)) ?_
  -- at 16: stop
  refine st_ald rfl rfl ?_
  refine st_gI rfl (by first | exact tT hM1 rfl | assumption | exact rw_T hM1 (by assumption) | exact rw_A hM1 (by assumption)) ?_
  -- at 20: stop
  refine wp_e (gI_same _ _ _ _) ?_
  rcases fg_cs (l := l) (p := p) (hi := hi) hlo with ⟨e, g⟩ | ⟨e, g0, g⟩
  · rw [e]
    refine st_ild rfl rfl ?_
    refine st_ild rfl rfl ?_
    refine st_call (As := [_, _, _]) rfl rfl rfl (Nat.le_of_ble_eq_true rfl) (m_in d (l.getD p 0 - 48) lo hi) ?_
    refine st_ist rfl ?_
    refine st_ald rfl rfl ?_
    refine st_dup rfl rfl ?_
    refine st_gI rfl (by first | exact tT hM1 rfl | assumption | exact rw_T hM1 (by assumption) | exact rw_A hM1 (by assumption)) ?_
    -- at 32: stop
    refine wp_e (y := nI p) (by rw [gI_ne (Or.inr (by decide))]; exact h19) ?_
    refine st_ild rfl rfl ?_
    refine st_b1 rfl (fun _ => ?_) (fun zq => absurd (if_neg g) zq)
    refine st_k rfl ?_
    refine st_ib rfl ?_
    refine st_pI rfl (by first | exact tT hM1 rfl | assumption | exact rw_T hM1 (by assumption) | exact rw_A hM1 (by assumption)) ?_
    refine st_ild rfl rfl ?_
    -- at 48: op_zret
    rw [if_neg g]
    exact st_zret rfl (by decide) ⟨rfl, by rw [show nI p + 0 = nI p from nI_add p 0]; rfl⟩
  · rw [e]
    refine st_ild rfl rfl ?_
    refine st_ild rfl rfl ?_
    refine st_call (As := [_, _, _]) rfl rfl rfl (Nat.le_of_ble_eq_true rfl) (m_in d (l.getD p 0 - 48) lo hi) ?_
    refine st_ist rfl ?_
    refine st_ald rfl rfl ?_
    refine st_dup rfl rfl ?_
    refine st_gI rfl (by first | exact tT hM1 rfl | assumption | exact rw_T hM1 (by assumption) | exact rw_A hM1 (by assumption)) ?_
    -- at 32: stop
    refine wp_e (y := nI p) (by rw [gI_ne (Or.inr (by decide))]; exact h19) ?_
    refine st_ild rfl rfl ?_
    refine st_b1 rfl (fun zq => absurd zq ((fun z => absurd ((if_pos g).symm.trans z) (by decide)))) (fun _ => ?_)
    refine st_k rfl ?_
    refine st_go rfl ?_
    refine st_ib rfl ?_
    refine st_pI rfl (by first | exact tT hM1 rfl | assumption | exact rw_T hM1 (by assumption) | exact rw_A hM1 (by assumption)) ?_
    refine st_ild rfl rfl ?_
    -- at 48: op_zret
    rw [if_pos g]
    exact st_zret rfl (by decide) ⟨rfl, by rw [nI_1]; rfl⟩
end PRM

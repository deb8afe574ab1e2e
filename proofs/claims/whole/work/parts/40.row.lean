/-! THE CLASS Row: contracts -/
/-- the Row at o (its places behind it) holds l -/
def pm_Ro (M : pm_M) (o : Nat) (l : List Int32) : Prop := gI M o 1 = nI l.length ∧ l.length ≤ 40 ∧ ∀ i, i < l.length → gI M (o + 1) i = l.getD i 0
abbrev pm_oo (o : Nat) : Nat → Prop := fun k => k = o ∨ k = o + 1
theorem pm_Ro.kept {M M' : pm_M} {o : Nat} {l : List Int32} (h : pm_Ro M o l) {S : Nat → Prop} (hs : pm_S S M M') (h1 : ¬ S o) (h2 : ¬ S (o + 1)) : pm_Ro M' o l := ⟨by rw [hs.i h1]; exact h.1, h.2.1, fun i hi => by rw [hs.i h2]; exact h.2.2 i hi⟩
theorem ro_clear (M : pm_M) (o : Nat) : pm_Ro (sI M o 1 0) o [] := ⟨gI_same _ _ _ _, by decide, fun i hi => by simp at hi⟩
theorem ro_add {M : pm_M} {o : Nat} {l : List Int32} (h : pm_Ro M o l) (hl : l.length < 40) (v : Int32) : pm_Ro (sI (sI M (o + 1) l.length v) o 1 (nI (l.length + 1))) o (l ++ [v]) := by
  refine ⟨by rw [gI_same]; simp, by simp; omega, fun i hi => ?_⟩
  rw [gI_ne (Or.inl (by omega)), gI_sI]
  simp at hi
  by_cases e : i = l.length
  · subst e; simp
  · rw [if_neg (by omega), h.2.2 i (by omega)]
    simp [List.getD_eq_getElem?_getD, List.getElem?_append_left (show i < l.length by omega)]
theorem c_clear (d : Nat) {M : pm_M} {o : Nat} (hM : pm_ok M) (ho : pm_rw o = true) : pm_call (d + 1) 45 [.ref o] M none (sI M o 1 0) := by
  refine en_45 (Nat.le_of_ble_eq_true rfl) ?_
  refine st_ald rfl rfl ?_
  refine st_k rfl ?_
  refine st_pI rfl (by first | exact tT hM rfl | assumption | exact rw_T hM (by assumption) | exact rw_A hM (by assumption)) ?_
  -- at 5: op_vret
  exact st_vret rfl ⟨rfl, rfl⟩
theorem c_add (d : Nat) {M : pm_M} {o : Nat} {l : List Int32} (hM : pm_ok M) (ho : pm_rw o = true) (h : pm_Ro M o l) (hl : l.length < 40) (v : Int32) : pm_call (d + 1) 46 [.ref o, .int v] M none (sI (sI M (o + 1) l.length v) o 1 (nI (l.length + 1))) := by
  refine en_46 (Nat.le_of_ble_eq_true rfl) ?_
  have e1 : ¬ gI M o 1 < 0 := by rw [h.1]; exact nI_pos (by omega)
  have e2 : ¬ (40 : Int32) ≤ gI M o 1 := by rw [h.1]; exact nI_ge hl (by decide)
  have e3 : vp_in (gI M o 1) 40 := by rw [h.1]; exact vp_in_nI hl (by decide)
  have e4 : (gI M o 1).toNatClampNeg = l.length := by rw [h.1]; exact nI_clamp (by omega)
  refine st_ald rfl rfl ?_
  refine st_gI rfl (by first | exact tT hM rfl | assumption | exact rw_T hM (by assumption) | exact rw_A hM (by assumption)) ?_
  refine st_b1 rfl (fun zq => absurd zq (e1)) (fun _ => ?_)
  refine st_ald rfl rfl ?_
  refine st_gI rfl (by first | exact tT hM rfl | assumption | exact rw_T hM (by assumption) | exact rw_A hM (by assumption)) ?_
  refine st_k rfl ?_
  refine st_b2 rfl (fun zq => absurd zq (e2)) (fun _ => ?_)
  refine st_ald rfl rfl ?_
  refine st_gR' rfl (by first | exact tT hM rfl | assumption | exact rw_T hM (by assumption) | exact rw_A hM (by assumption)) (by first | exact rR hM rfl rfl | assumption | exact rw_R hM (by assumption)) ?_
  refine st_ald rfl rfl ?_
  refine st_gI rfl (by first | exact tT hM rfl | assumption | exact rw_T hM (by assumption) | exact rw_A hM (by assumption)) ?_
  refine st_ild rfl rfl ?_
  refine st_iast rfl (by first | exact tT hM rfl | assumption | exact rw_T hM (by assumption) | exact rw_A hM (by assumption)) (by first | decide | assumption | exact vp_in_nI (by omega) (by decide)) ?_
  refine st_ald rfl rfl ?_
  refine st_dup rfl rfl ?_
  refine st_gI rfl (by first | exact tT hM rfl | assumption | exact rw_T hM (by assumption) | exact rw_A hM (by assumption)) ?_
  refine st_k rfl ?_
  refine st_ib rfl ?_
  refine st_pI rfl (by first | exact tT hM rfl | assumption | exact rw_T hM (by assumption) | exact rw_A hM (by assumption)) ?_
  -- at 36: op_vret
  refine st_vret rfl ⟨rfl, ?_⟩
  rw [e4, gI_ne (Or.inl (by omega)), h.1, nI_1]
theorem c_become (d : Nat) {M : pm_M} {o p : Nat} {l : List Int32} (hM : pm_ok M) (ho : pm_rw o = true) (hp : pm_rw p = true) (hop : o + 1 ≠ p) (h : pm_Ro M p l) : pm_call (d + 1) 47 [.ref o, .ref p] M none (sI (pm_cp M (p + 1) (o + 1) 0 0 l.length) o 1 (nI l.length)) := by
  refine en_47 (Nat.le_of_ble_eq_true rfl) ?_
  have hl := h.2.1
  have e2 : (if (0 : Int32) < gI M p 1 then gI M p 1 else 0) = nI l.length := by
    rw [h.1]
    by_cases e : l.length = 0
    · rw [e]; rfl
    · rw [if_pos (by rw [← nI_0]; exact nI_lt (by omega) (by omega))]
  have e4 : (nI l.length).toNatClampNeg = l.length := nI_clamp (by omega)
  refine st_ald rfl rfl ?_
  refine st_gR' rfl (rw_T hM hp) (rw_R hM hp) ?_
  refine st_k rfl ?_
  refine st_ald rfl rfl ?_
  refine st_gR' rfl (rw_T hM ho) (rw_R hM ho) ?_
  refine st_k rfl ?_
  refine st_k rfl ?_
  refine st_ald rfl rfl ?_
  refine st_gI rfl (rw_T hM hp) ?_
  refine st_mx rfl (Nat.le_of_ble_eq_true rfl) ?_
  -- at 18: op_acp 21
  refine wp_e e2 ?_
  refine st_acp rfl (rw_A hM hp) (rw_A hM ho) (by decide) (by decide) (nI_pos (by omega)) (by rw [e4]; exact Nat.le_trans (Nat.le_of_eq (Nat.zero_add _)) hl) (by rw [e4]; exact Nat.le_trans (Nat.le_of_eq (Nat.zero_add _)) hl) (Nat.le_of_ble_eq_true rfl) ?_
  refine st_ald rfl rfl ?_
  refine st_ald rfl rfl ?_
  refine st_gI rfl (rw_T hM hp) ?_
  refine st_pI rfl (rw_T hM ho) ?_
  -- at 29: op_vret
  refine st_vret rfl ⟨rfl, ?_⟩
  rw [e4, gI_cp, if_neg (fun q => hop q.1.symm), h.1]
  rfl
theorem ro_become {M : pm_M} {o p : Nat} {l : List Int32} (h : pm_Ro M p l) : pm_Ro (sI (pm_cp M (p + 1) (o + 1) 0 0 l.length) o 1 (nI l.length)) o l := by
  refine ⟨gI_same _ _ _ _, h.2.1, fun i hi => ?_⟩
  rw [gI_ne (Or.inl (by omega)), gI_cp, if_pos ⟨rfl, by omega, by omega⟩, Nat.sub_zero, Nat.zero_add]
  exact h.2.2 i hi
theorem s_add {M : pm_M} {o : Nat} {n : Nat} {v w : Int32} : pm_S (pm_oo o) M (sI (sI M (o + 1) n v) o 1 w) := (pm_S.rf.sI (Or.inr rfl) _ _).sI (Or.inl rfl) _ _
theorem s_become {M : pm_M} {o p n : Nat} {w : Int32} : pm_S (pm_oo o) M (sI (pm_cp M (p + 1) (o + 1) 0 0 n) o 1 w) := (pm_S.rf.cp (Or.inr rfl) _ _ _).sI (Or.inl rfl) _ _
theorem s_clear {M : pm_M} {o : Nat} {w : Int32} : pm_S (pm_oo o) M (sI M o 1 w) := pm_S.rf.sI (Or.inl rfl) _ _
theorem ro_at {M : pm_M} {o i : Nat} {l : List Int32} (h : pm_Ro M o l) (hi : i < l.length) : gI M (o + 1) (nI i).toNatClampNeg = l.getD i 0 := by rw [nI_clamp (by have := h.2.1; omega)]; exact h.2.2 i hi
theorem ro_in {M : pm_M} {o i : Nat} {l : List Int32} (h : pm_Ro M o l) (hi : i < l.length) : vp_in (nI i) 40 := vp_in_nI (by have := h.2.1; omega) (by decide)
/-! becomeWithout: all places but one -/
def ew (l : List Int32) (q : Nat) : Nat → List Int32
  | 0 => []
  | i + 1 => if i = q then ew l q i else ew l q i ++ [l.getD i 0]
theorem ew_s (l : List Int32) (q i : Nat) : ew l q (i + 1) = if i = q then ew l q i else ew l q i ++ [l.getD i 0] := rfl
theorem ew_len (l : List Int32) (q : Nat) : ∀ i, (ew l q i).length ≤ i
  | 0 => Nat.le_refl _
  | i + 1 => by
    have := ew_len l q i
    unfold ew
    split
    · omega
    · simp; omega
theorem c_becomeWithout (d : Nat) {M : pm_M} {o p q : Nat} {l : List Int32} (hM : pm_ok M) (ho : pm_rw o = true) (hp : pm_rw p = true) (h1 : o ≠ p) (h2 : o + 1 ≠ p) (h3 : o ≠ p + 1) (hq : q < 2 ^ 31) (h : pm_Ro M p l) :
    ∃ M', pm_call (d + 2) 48 [.ref o, .ref p, .int (nI q)] M none M' ∧ pm_Ro M' o (ew l q l.length) ∧ pm_S (pm_oo o) M M' := by
  have hl := h.2.1
  have loop : ∀ n i x M1, x = nI i → i + n = l.length → pm_S (pm_oo o) M M1 → pm_Ro M1 o (ew l q i) → pm_WP (pm_call (d + 1)) tb_48 (fun r M' => r = none ∧ pm_Ro M' o (ew l q l.length) ∧ pm_S (pm_oo o) M M') 6 [some (.ref o), some (.ref p), some (.int (nI q)), some (.int x)] [] M1 := by
    intro n
    induction n with
    | zero =>
      intro i x M1 hx hi hs hr
      subst hx
      have hM1 := hs.ok hM
      have hp1 : pm_Ro M1 p l := h.kept hs (by simp [pm_oo]; omega) (by simp [pm_oo]; omega)
      have e : gI M1 p 1 ≤ nI i := by rw [hp1.1]; exact nI_le (by omega) (by omega)
      refine st_ild rfl rfl ?_
      refine st_ald rfl rfl ?_
      refine st_gI rfl (rw_T hM1 hp) ?_
      refine st_b2 rfl (fun _ => ?_) (fun zq => absurd (e) zq)
      -- at 35: op_vret
      exact st_vret rfl ⟨rfl, by rw [← show i = l.length by omega]; exact hr, hs⟩
    | succ n ih =>
      intro i x M1 hx hi hs hr
      subst hx
      have hM1 := hs.ok hM
      have hp1 : pm_Ro M1 p l := h.kept hs (by simp [pm_oo]; omega) (by simp [pm_oo]; omega)
      have e : ¬ gI M1 p 1 ≤ nI i := by rw [hp1.1]; exact nI_ge (by omega) (by omega)
      have hin : vp_in (nI i) 40 := vp_in_nI (by omega) (by decide)
      have e4 : (nI i).toNatClampNeg = i := nI_clamp (by omega)
      refine st_ild rfl rfl ?_
      refine st_ald rfl rfl ?_
      refine st_gI rfl (rw_T hM1 hp) ?_
      refine st_b2 rfl (fun zq => absurd zq (e)) (fun _ => ?_)
      refine st_ild rfl rfl ?_
      refine st_ild rfl rfl ?_
      refine st_b2 rfl (fun hb => ?_) (fun hb => ?_)
      -- at 16: split 29 19
      · have hiq : i = q := (nI_eq (by omega) hq).mp hb
        refine st_inc rfl rfl ?_
        refine st_go rfl ?_
        -- at 6: stop
        exact ih (i + 1) _ M1 (nI_1 i) (by omega) hs (by rw [ew_s, if_pos hiq]; exact hr)
      · have hiq : ¬ i = q := fun z => hb (by rw [z])
        refine st_ald rfl rfl ?_
        refine st_ald rfl rfl ?_
        refine st_gR' rfl (rw_T hM1 hp) (rw_R hM1 hp) ?_
        refine st_ild rfl rfl ?_
        refine st_iald rfl (rw_A hM1 hp) (hin) ?_
        -- at 26: op_cav 46 1 5 2 29
        refine wp_e (y := l.getD i 0) (by rw [e4]; exact hp1.2.2 i (by omega)) ?_
        have hlen := ew_len l q i
        refine st_cav (As := [_]) rfl rfl rfl (rw_T hM1 ho) (Nat.le_of_ble_eq_true rfl) (c_add d hM1 ho hr (by omega) _) ?_
        refine st_inc rfl rfl ?_
        refine st_go rfl ?_
        -- at 6: stop
        exact ih (i + 1) _ _ (nI_1 i) (by omega) (hs.tr s_add) (by rw [ew_s, if_neg hiq]; exact ro_add hr (by omega) (l.getD i 0))
  obtain ⟨r, M', hc, hr, h5, h6⟩ := eq_48 (d := d + 1) (A := [.ref o, .ref p, .int (nI q)]) (M := M) (Q := fun r M' => r = none ∧ pm_Ro M' o (ew l q l.length) ∧ pm_S (pm_oo o) M M') (Nat.le_of_ble_eq_true rfl) (by
    refine st_ald rfl rfl ?_
    refine st_cav (As := []) rfl rfl rfl (by first | exact tT hM rfl | assumption | exact rw_T hM (by assumption) | exact rw_A hM (by assumption)) (Nat.le_of_ble_eq_true rfl) (c_clear d hM ho) ?_
    refine st_k rfl ?_
    refine st_ist rfl ?_
    -- at 6: stop
    exact loop l.length 0 0 _ rfl (by omega) s_clear (ro_clear M o))
  subst hr
  exact ⟨M', hc, h5, h6⟩

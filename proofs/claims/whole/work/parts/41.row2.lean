/-! THE CLASS Row, further -/
theorem getD_take {l : List Int32} {n i : Nat} (h : i < n) : (l.take n).getD i 0 = l.getD i 0 := by
  simp [List.getD_eq_getElem?_getD, List.getElem?_take, h]
theorem take_s {l : List Int32} {i : Nat} (h : i < l.length) : l.take (i + 1) = l.take i ++ [l.getD i 0] := by
  rw [List.take_succ]
  simp [List.getD_eq_getElem?_getD, List.getElem?_eq_getElem h]
/-! becomeWith: one more -/
def iw (l : List Int32) (q : Nat) (v : Int32) (i : Nat) : List Int32 := if i ≤ q then l.take i else l.take q ++ v :: (l.take i).drop q
theorem iw_le {l : List Int32} {q : Nat} {v : Int32} {i : Nat} (hi : i ≤ l.length) : (iw l q v i).length ≤ i + 1 := by
  unfold iw
  split
  · simp; omega
  · simp; omega
theorem iw_s1 {l : List Int32} {q : Nat} {v : Int32} {i : Nat} (hi : i < l.length) (h : i ≠ q) : iw l q v (i + 1) = iw l q v i ++ [l.getD i 0] := by
  unfold iw
  by_cases e : i + 1 ≤ q
  · rw [if_pos e, if_pos (by omega), take_s hi]
  · rw [if_neg e, if_neg (by omega), take_s hi, List.drop_append_of_le_length (by simp; omega)]
    simp
theorem iw_s2 {l : List Int32} {v : Int32} {i : Nat} (hi : i < l.length) : iw l i v (i + 1) = iw l i v i ++ [v] ++ [l.getD i 0] := by
  unfold iw
  rw [if_neg (by omega), if_pos (by omega), take_s hi, List.drop_append_of_le_length (by simp; omega)]
  simp
theorem iw_end {l : List Int32} {q : Nat} {v : Int32} (h : q < l.length) : iw l q v l.length = l.take q ++ v :: l.drop q := by
  unfold iw
  rw [if_neg (by omega), List.take_length]
theorem c_becomeWith (d : Nat) {M : pm_M} {o p q : Nat} {v : Int32} {l : List Int32} (hM : pm_ok M) (ho : pm_rw o = true) (hp : pm_rw p = true) (h1 : o ≠ p) (h2 : o + 1 ≠ p) (h3 : o ≠ p + 1) (hq : q ≤ l.length) (hl : l.length < 40) (h : pm_Ro M p l) :
    ∃ M', pm_call (d + 2) 49 [.ref o, .ref p, .int (nI q), .int v] M none M' ∧ pm_Ro M' o (l.take q ++ v :: l.drop q) ∧ pm_S (pm_oo o) M M' := by
  have loop : ∀ n i x M1, x = nI i → i + n = l.length → pm_S (pm_oo o) M M1 → pm_Ro M1 o (iw l q v i) → pm_WP (pm_call (d + 1)) tb_49 (fun r M' => r = none ∧ pm_Ro M' o (l.take q ++ v :: l.drop q) ∧ pm_S (pm_oo o) M M') 7 [some (.ref o), some (.ref p), some (.int (nI q)), some (.int v), some (.int x)] [] M1 := by
    intro n
    induction n with
    | zero =>
      intro i x M1 hx hi hs hr
      subst hx
      have hM1 := hs.ok hM
      have hp1 : pm_Ro M1 p l := h.kept hs (by simp [pm_oo]; omega) (by simp [pm_oo]; omega)
      have e : gI M1 p 1 ≤ nI i := by rw [hp1.1]; exact nI_le (by omega) (by omega)
      have hil : i = l.length := by omega
      refine st_ild rfl rfl ?_
      refine st_ald rfl rfl ?_
      refine st_gI rfl (rw_T hM1 hp) ?_
      refine st_b2 rfl (fun _ => ?_) (fun zq => absurd (e) zq)
      refine st_ild rfl rfl ?_
      refine st_ald rfl rfl ?_
      refine st_gI rfl (rw_T hM1 hp) ?_
      refine st_b2 rfl (fun hb => ?_) (fun hb => ?_)
      -- at 49: split 57 52
      · refine st_vret rfl ⟨rfl, ?_, hs⟩
        rw [hp1.1] at hb
        have : q < l.length := by
          rcases Nat.lt_or_ge q l.length with z | z
          · exact z
          · exact absurd (show nI q = nI l.length by rw [show q = l.length by omega]) hb
        rw [hil, iw_end this] at hr
        exact hr
      · rw [hp1.1] at hb
        have hql : q = l.length := by
          by_cases z : q = l.length
          · exact z
          · exact absurd (fun w => z ((nI_eq (by omega) (by omega)).mp w)) hb
        have hr2 : iw l q v i = l := by unfold iw; rw [if_pos (by omega), hil, List.take_length]
        rw [hr2] at hr
        refine st_ald rfl rfl ?_
        refine st_ild rfl rfl ?_
        refine st_cav (As := [_]) rfl rfl rfl (rw_T hM1 ho) (Nat.le_of_ble_eq_true rfl) (c_add d hM1 ho hr hl _) ?_
        -- at 57: op_vret
        refine st_vret rfl ⟨rfl, ?_, hs.tr s_add⟩
        have := ro_add hr hl v
        rw [hql]
        simpa using this
    | succ n ih =>
      intro i x M1 hx hi hs hr
      subst hx
      have hM1 := hs.ok hM
      have hp1 : pm_Ro M1 p l := h.kept hs (by simp [pm_oo]; omega) (by simp [pm_oo]; omega)
      have e : ¬ gI M1 p 1 ≤ nI i := by rw [hp1.1]; exact nI_ge (by omega) (by omega)
      have hin : vp_in (nI i) 40 := vp_in_nI (by omega) (by decide)
      have hlen : (iw l q v i).length ≤ i + 1 := iw_le (by omega)
      refine st_ild rfl rfl ?_
      refine st_ald rfl rfl ?_
      refine st_gI rfl (rw_T hM1 hp) ?_
      refine st_b2 rfl (fun zq => absurd zq (e)) (fun _ => ?_)
      refine st_ild rfl rfl ?_
      refine st_ild rfl rfl ?_
      refine st_b2 rfl (fun hb => ?_) (fun hb => ?_)
      -- at 19: split 27 22
      · have hiq : i ≠ q := fun z => hb (by rw [z])
        refine st_ald rfl rfl ?_
        refine st_ald rfl rfl ?_
        refine st_gR' rfl (rw_T hM1 hp) (rw_R hM1 hp) ?_
        refine st_ild rfl rfl ?_
        refine st_iald rfl (rw_A hM1 hp) (hin) ?_
        -- at 35: op_cav 46 1 5 2 38
        refine wp_e (y := l.getD i 0) (ro_at hp1 (by omega)) ?_
        refine st_cav (As := [_]) rfl rfl rfl (rw_T hM1 ho) (Nat.le_of_ble_eq_true rfl) (c_add d hM1 ho hr (by omega) _) ?_
        refine st_inc rfl rfl ?_
        refine st_go rfl ?_
        -- at 7: stop
        exact ih (i + 1) _ _ (nI_1 i) (by omega) (hs.tr s_add) (by rw [iw_s1 (by omega) hiq]; exact ro_add hr (by omega) _)
      · have hiq : i = q := by
          by_cases z : i = q
          · exact z
          · exact absurd (fun w => z ((nI_eq (by omega) (by omega)).mp w)) hb
        have hlen2 : (iw l q v i).length = i := by unfold iw; rw [if_pos (by omega)]; simp; omega
        have hs2 := hs.tr (s_add (M := M1) (o := o) (n := (iw l q v i).length) (v := v) (w := nI ((iw l q v i).length + 1)))
        have hr2 := ro_add hr (by omega) v
        refine st_ald rfl rfl ?_
        refine st_ild rfl rfl ?_
        refine st_cav (As := [_]) rfl rfl rfl (rw_T hM1 ho) (Nat.le_of_ble_eq_true rfl) (c_add d hM1 ho hr (by omega) _) ?_
        refine st_ald rfl rfl ?_
        refine st_ald rfl rfl ?_
        refine st_gR' rfl (rw_T hM1 hp) (rw_R hM1 hp) ?_
        refine st_ild rfl rfl ?_
        refine st_iald rfl (rw_A hM1 hp) (hin) ?_
        -- at 35: op_cav 46 1 5 2 38
        refine wp_e (y := l.getD i 0) (ro_at (h.kept hs2 (by simp [pm_oo]; omega) (by simp [pm_oo]; omega)) (by omega)) ?_
        have hM2 := hs2.ok hM
        refine st_cav (As := [_]) rfl rfl rfl (rw_T hM2 ho) (Nat.le_of_ble_eq_true rfl) (c_add d hM2 ho hr2 (by simp; omega) _) ?_
        refine st_inc rfl rfl ?_
        refine st_go rfl ?_
        -- at 7: stop
        refine ih (i + 1) _ _ (nI_1 i) (by omega) (hs2.tr s_add) ?_
        have := ro_add hr2 (by simp; omega) (l.getD i 0)
        subst hiq
        rw [iw_s2 (by omega)]
        exact this
  obtain ⟨r, M', hc, hr, h5, h6⟩ := eq_49 (d := d + 1) (A := [.ref o, .ref p, .int (nI q), .int v]) (M := M) (Q := fun r M' => r = none ∧ pm_Ro M' o (l.take q ++ v :: l.drop q) ∧ pm_S (pm_oo o) M M') (Nat.le_of_ble_eq_true rfl) (by
    refine st_ald rfl rfl ?_
    refine st_cav (As := []) rfl rfl rfl (by first | exact tT hM rfl | assumption | exact rw_T hM (by assumption) | exact rw_A hM (by assumption)) (Nat.le_of_ble_eq_true rfl) (c_clear d hM ho) ?_
    refine st_k rfl ?_
    refine st_ist rfl ?_
    -- at 7: stop
    exact loop l.length 0 0 _ rfl (by omega) s_clear (by have : iw l q v 0 = [] := by unfold iw; simp
                                                         rw [this]; exact ro_clear M o))
  subst hr
  exact ⟨M', hc, h5, h6⟩
/-! becomeTurned -/
theorem c_becomeTurned (d : Nat) {M : pm_M} {o p q : Nat} {l : List Int32} (hM : pm_ok M) (ho : pm_rw o = true) (hp : pm_rw p = true) (h1 : o ≠ p) (h2 : o + 1 ≠ p) (h3 : o ≠ p + 1) (hq : q ≤ l.length) (h : pm_Ro M p l) :
    ∃ M', pm_call (d + 2) 50 [.ref o, .ref p, .int (nI q)] M none M' ∧ pm_Ro M' o (l.drop q ++ l.take q) ∧ pm_S (pm_oo o) M M' := by
  have hl := h.2.1
  have loop2 : ∀ n i x M1, x = nI i → i + n = q → pm_S (pm_oo o) M M1 → pm_Ro M1 o (l.drop q ++ l.take i) → pm_WP (pm_call (d + 1)) tb_50 (fun r M' => r = none ∧ pm_Ro M' o (l.drop q ++ l.take q) ∧ pm_S (pm_oo o) M M') 32 [some (.ref o), some (.ref p), some (.int (nI q)), some (.int x)] [] M1 := by
    intro n
    induction n with
    | zero =>
      intro i x M1 hx hi hs hr
      subst hx
      have e : nI q ≤ nI i := nI_le (by omega) (by omega)
      refine st_ild rfl rfl ?_
      refine st_ild rfl rfl ?_
      refine st_b2 rfl (fun _ => ?_) (fun zq => absurd (e) zq)
      -- at 53: op_vret
      refine st_vret rfl ⟨rfl, ?_, hs⟩
      rw [show i = q by omega] at hr
      exact hr
    | succ n ih =>
      intro i x M1 hx hi hs hr
      subst hx
      have hM1 := hs.ok hM
      have hp1 : pm_Ro M1 p l := h.kept hs (by simp [pm_oo]; omega) (by simp [pm_oo]; omega)
      have e : ¬ nI q ≤ nI i := nI_ge (by omega) (by omega)
      have hin : vp_in (nI i) 40 := vp_in_nI (by omega) (by decide)
      refine st_ild rfl rfl ?_
      refine st_ild rfl rfl ?_
      refine st_b2 rfl (fun zq => absurd zq (e)) (fun _ => ?_)
      refine st_ald rfl rfl ?_
      refine st_ald rfl rfl ?_
      refine st_gR' rfl (rw_T hM1 hp) (rw_R hM1 hp) ?_
      refine st_ild rfl rfl ?_
      refine st_iald rfl (rw_A hM1 hp) (hin) ?_
      -- at 44: op_cav 46 1 5 2 47
      refine wp_e (y := l.getD i 0) (ro_at hp1 (by omega)) ?_
      have hlen : (l.drop q ++ l.take i).length < 40 := by simp; omega
      refine st_cav (As := [_]) rfl rfl rfl (rw_T hM1 ho) (Nat.le_of_ble_eq_true rfl) (c_add d hM1 ho hr hlen _) ?_
      refine st_inc rfl rfl ?_
      refine st_go rfl ?_
      -- at 32: stop
      refine ih (i + 1) _ _ (nI_1 i) (by omega) (hs.tr s_add) ?_
      rw [take_s (by omega), ← List.append_assoc]
      exact ro_add hr hlen _
  have loop : ∀ n i x M1, x = nI i → i + n = l.length → q ≤ i → pm_S (pm_oo o) M M1 → pm_Ro M1 o ((l.take i).drop q) → pm_WP (pm_call (d + 1)) tb_50 (fun r M' => r = none ∧ pm_Ro M' o (l.drop q ++ l.take q) ∧ pm_S (pm_oo o) M M') 6 [some (.ref o), some (.ref p), some (.int (nI q)), some (.int x)] [] M1 := by
    intro n
    induction n with
    | zero =>
      intro i x M1 hx hi hqi hs hr
      subst hx
      have hM1 := hs.ok hM
      have hp1 : pm_Ro M1 p l := h.kept hs (by simp [pm_oo]; omega) (by simp [pm_oo]; omega)
      have e : gI M1 p 1 ≤ nI i := by rw [hp1.1]; exact nI_le (by omega) (by omega)
      refine st_ild rfl rfl ?_
      refine st_ald rfl rfl ?_
      refine st_gI rfl (rw_T hM1 hp) ?_
      refine st_b2 rfl (fun _ => ?_) (fun zq => absurd (e) zq)
      refine st_k rfl ?_
      refine st_ist rfl ?_
      -- at 32: stop
      refine loop2 q 0 0 M1 rfl (by omega) hs ?_
      rw [show i = l.length by omega, List.take_length] at hr
      simpa using hr
    | succ n ih =>
      intro i x M1 hx hi hqi hs hr
      subst hx
      have hM1 := hs.ok hM
      have hp1 : pm_Ro M1 p l := h.kept hs (by simp [pm_oo]; omega) (by simp [pm_oo]; omega)
      have e : ¬ gI M1 p 1 ≤ nI i := by rw [hp1.1]; exact nI_ge (by omega) (by omega)
      have hin : vp_in (nI i) 40 := vp_in_nI (by omega) (by decide)
      refine st_ild rfl rfl ?_
      refine st_ald rfl rfl ?_
      refine st_gI rfl (rw_T hM1 hp) ?_
      refine st_b2 rfl (fun zq => absurd zq (e)) (fun _ => ?_)
      refine st_ald rfl rfl ?_
      refine st_ald rfl rfl ?_
      refine st_gR' rfl (rw_T hM1 hp) (rw_R hM1 hp) ?_
      refine st_ild rfl rfl ?_
      refine st_iald rfl (rw_A hM1 hp) (hin) ?_
      -- at 21: op_cav 46 1 5 2 24
      refine wp_e (y := l.getD i 0) (ro_at hp1 (by omega)) ?_
      have hlen : ((l.take i).drop q).length < 40 := by simp; omega
      refine st_cav (As := [_]) rfl rfl rfl (rw_T hM1 ho) (Nat.le_of_ble_eq_true rfl) (c_add d hM1 ho hr hlen _) ?_
      refine st_inc rfl rfl ?_
      refine st_go rfl ?_
      -- at 6: stop
      refine ih (i + 1) _ _ (nI_1 i) (by omega) (by omega) (hs.tr s_add) ?_
      rw [take_s (by omega), List.drop_append_of_le_length (by simp; omega)]
      exact ro_add hr hlen _
  obtain ⟨r, M', hc, hr, h5, h6⟩ := eq_50 (d := d + 1) (A := [.ref o, .ref p, .int (nI q)]) (M := M) (Q := fun r M' => r = none ∧ pm_Ro M' o (l.drop q ++ l.take q) ∧ pm_S (pm_oo o) M M') (Nat.le_of_ble_eq_true rfl) (by
    refine st_ald rfl rfl ?_
    refine st_cav (As := []) rfl rfl rfl (by first | exact tT hM rfl | assumption | exact rw_T hM (by assumption) | exact rw_A hM (by assumption)) (Nat.le_of_ble_eq_true rfl) (c_clear d hM ho) ?_
    refine st_ild rfl rfl ?_
    refine st_ist rfl ?_
    -- at 6: stop
    refine loop (l.length - q) q _ _ rfl (by omega) (Nat.le_refl _) s_clear ?_
    rw [List.drop_eq_nil_of_le (by simp; omega)]
    exact ro_clear M o)
  subst hr
  exact ⟨M', hc, h5, h6⟩
/-! becomeReversed -/
theorem c_becomeReversed (d : Nat) {M : pm_M} {o p : Nat} {l : List Int32} (hM : pm_ok M) (ho : pm_rw o = true) (hp : pm_rw p = true) (h1 : o ≠ p) (h2 : o + 1 ≠ p) (h3 : o ≠ p + 1) (h : pm_Ro M p l) :
    ∃ M', pm_call (d + 2) 51 [.ref o, .ref p] M none M' ∧ pm_Ro M' o l.reverse ∧ pm_S (pm_oo o) M M' := by
  have hl := h.2.1
  have loop : ∀ n x M1, x = nI n - 1 → n ≤ l.length → pm_S (pm_oo o) M M1 → pm_Ro M1 o (l.drop n).reverse → pm_WP (pm_call (d + 1)) tb_51 (fun r M' => r = none ∧ pm_Ro M' o l.reverse ∧ pm_S (pm_oo o) M M') 11 [some (.ref o), some (.ref p), some (.int x)] [] M1 := by
    intro n
    induction n with
    | zero =>
      intro x M1 hx hi hs hr
      subst hx
      have e : nI 0 - 1 < 0 := by decide
      refine st_ild rfl rfl ?_
      refine st_b1 rfl (fun _ => ?_) (fun zq => absurd (e) zq)
      -- at 31: op_vret
      refine st_vret rfl ⟨rfl, ?_, hs⟩
      simpa using hr
    | succ n ih =>
      intro x M1 hx hi hs hr
      rw [nI_pred] at hx
      subst hx
      have hM1 := hs.ok hM
      have hp1 : pm_Ro M1 p l := h.kept hs (by simp [pm_oo]; omega) (by simp [pm_oo]; omega)
      have e : ¬ nI n < 0 := nI_pos (by omega)
      have hin : vp_in (nI n) 40 := vp_in_nI (by omega) (by decide)
      refine st_ild rfl rfl ?_
      refine st_b1 rfl (fun zq => absurd zq (e)) (fun _ => ?_)
      refine st_ald rfl rfl ?_
      refine st_ald rfl rfl ?_
      refine st_gR' rfl (rw_T hM1 hp) (rw_R hM1 hp) ?_
      refine st_ild rfl rfl ?_
      refine st_iald rfl (rw_A hM1 hp) (hin) ?_
      -- at 22: op_cav 46 1 5 2 25
      refine wp_e (y := l.getD n 0) (ro_at hp1 (by omega)) ?_
      have hlen : (l.drop (n + 1)).reverse.length < 40 := by simp; omega
      refine st_cav (As := [_]) rfl rfl rfl (rw_T hM1 ho) (Nat.le_of_ble_eq_true rfl) (c_add d hM1 ho hr hlen _) ?_
      refine st_inc rfl rfl ?_
      refine st_go rfl ?_
      -- at 11: stop
      refine ih _ _ (by rw [Int32.sub_eq_add_neg]) (by omega) (hs.tr s_add) ?_
      have e2 : (l.drop n).reverse = (l.drop (n + 1)).reverse ++ [l.getD n 0] := by
        rw [List.drop_eq_getElem_cons (show n < l.length by omega)]
        simp [List.getD_eq_getElem?_getD, List.getElem?_eq_getElem (show n < l.length by omega)]
      rw [e2]
      exact ro_add hr hlen _
  obtain ⟨r, M', hc, hr, h5, h6⟩ := eq_51 (d := d + 1) (A := [.ref o, .ref p]) (M := M) (Q := fun r M' => r = none ∧ pm_Ro M' o l.reverse ∧ pm_S (pm_oo o) M M') (Nat.le_of_ble_eq_true rfl) (by
    refine st_ald rfl rfl ?_
    refine st_cav (As := []) rfl rfl rfl (by first | exact tT hM rfl | assumption | exact rw_T hM (by assumption) | exact rw_A hM (by assumption)) (Nat.le_of_ble_eq_true rfl) (c_clear d hM ho) ?_
    refine st_ald rfl rfl ?_
    refine st_gI rfl (rw_T hM hp) ?_
    refine st_k rfl ?_
    refine st_ib rfl ?_
    refine st_ist rfl ?_
    -- at 11: stop
    refine loop l.length _ _ ?_ (Nat.le_refl _) s_clear ?_
    · rw [gI_ne (Or.inl (by omega)), h.1]
    · rw [List.drop_length]
      exact ro_clear M o)
  subst hr
  exact ⟨M', hc, h5, h6⟩

/-! THE CLASS reads a craft's text: the whole -/
theorem itz_ok {l : List Int32} : ∀ f s s', pwf s → itz l f s = .inr s' → pwf s'
  | 0, s, s', hw, h => by
    have h : Sum.inr s = (Sum.inr s' : Nat ⊕ Pn) := h
    cases h
    exact hw
  | f + 1, s, s', hw, h => by
    unfold itz at h
    split at h
    · cases h
      exact hw
    · split at h
      · exact itz_ok f (s.1 + 1, s.2) s' (show pwf (s.1 + 1, s.2) from hw) h
      · cases e : itn l s with
        | inl q => rw [e] at h; cases h
        | inr s1 =>
          rw [e] at h
          exact itz_ok f s1 s' (itn_ok hw e).1 h
/-- a craft's text: the place of its FAULT, or length, girth and what it tells -/
def flt1 (l : List Int32) (p : Nat) : Nat ⊕ (Nat × Nat × Pn) :=
  if l.length ≤ p ∨ l.getD p 0 ≠ 114 then .inl p else match twF l (p + 1) with
  | .inl q => .inl q
  | .inr L => match twF l (p + 3) with
    | .inl q => .inl q
    | .inr G => if L < G then .inl (p + 3) else match itT l (p + 5, [], [], []) with
      | .inl q => .inl q
      | .inr s => .inr (L, G, s)
def flt (l : List Int32) : Nat ⊕ (Nat × Nat × Pn) := flt1 l (skb l 80 0)
theorem pwf0 (p : Nat) : pwf (p, [], [], []) := ⟨Nat.zero_le 6, Nat.zero_le 6, Nat.zero_le 6, fun x h => (by cases h), fun x h => (by cases h), fun x h => (by cases h)⟩
theorem flt_ok {l : List Int32} {x : Nat × Nat × Pn} (h : flt l = .inr x) : x.1 ≤ 99 ∧ x.2.1 ≤ x.1 ∧ pwf x.2.2 := by
  unfold flt flt1 at h
  split at h
  · cases h
  · rcases twF_cs l (skb l 80 0 + 1) with ⟨_, e⟩ | ⟨_, _, _, _, e⟩ | ⟨a, b, _, _, ha, hb, _, e⟩
    · rw [e] at h; cases h
    · rw [e] at h; cases h
    · rw [e] at h
      dsimp only at h
      cases e2 : twF l (skb l 80 0 + 3) with
      | inl q => rw [e2] at h; cases h
      | inr G =>
        rw [e2] at h
        dsimp only at h
        split at h
        · cases h
        · cases e3 : itT l (skb l 80 0 + 5, [], [], []) with
          | inl q => rw [e3] at h; cases h
          | inr s =>
            rw [e3] at h
            cases h
            exact ⟨by show 10 * a + b ≤ 99; omega, by show G ≤ 10 * a + b; omega, itz_ok _ _ _ (pwf0 _) e3⟩
theorem Cs.S {M M' : pm_M} (h : Cs M M') : pm_S (fun k => 20 ≤ k ∧ k ≤ 24) M M' := ⟨h.1, h.2.1, fun k hk i => ⟨h.2.2.2 k i (by omega), h.2.2.1 k i⟩⟩
section PRF
variable {M : pm_M} {t : Nat} {l : List Int32} {s : Pn}
theorem c_faultOfItems (d : Nat) (hM : pm_ok M) (ht : t < 4) (h : CTxt M (118 + 2 * t) (some l)) (hw : pwf s) (hc : CP s M) (hs : s.1 ≤ l.length) :
    ∃ r M', pm_call (d + 4) 27 [.ref 20, .ref (118 + 2 * t)] M r M' ∧ Cs M M' ∧ (match itT l s with
      | .inl q => r = some (.int (nI q))
      | .inr s' => r = some (.int (-9)) ∧ CP s' M') := by
  refine eq_27 (Nat.le_of_ble_eq_true rfl) ?_
  have hl := h.2.1
  generalize hT : itT l s = T
  have key : ∀ f (s : Pn) (i : Nat) (M1 : pm_M), pwf s → CP s M1 → Cs M M1 → i ≤ s.1 → s.1 ≤ l.length → l.length - s.1 ≤ f → itT l s = T → pm_WP (pm_call (d + 3)) tb_27 (fun r M' => Cs M M' ∧ (match (generalizing := false) T with
      | .inl q => r = some (.int (nI q))
      | .inr s' => r = some (.int (-9)) ∧ CP s' M')) 2 [some (.ref 20), some (.ref (118 + 2 * t)), some (.int (nI i))] [] M1 := by
    intro f
    induction f using Nat.strongRecOn with
    | ind f ih =>
      intro s i M1 hw hc h1 hi hs hf hT
      have hM1 := h1.ok hM
      have hT1 := h1.txt h
      have q1 := skb_ge (l := l) 80 s.1
      have q2 := skb_le (l := l) 80 s.1 hs
      have q3 := skb_st (l := l) 80 s.1 (by omega)
      rw [itT_sk 80 s] at hT
      refine st_ild rfl rfl ?_
      refine st_k rfl ?_
      refine st_b2 rfl (fun zq => absurd zq (nI_nlt (b := i) (a := 80) (by omega) (by decide))) (fun _ => ?_)
      refine st_ald rfl rfl ?_
      refine st_ald rfl rfl ?_
      refine st_cav (As := [_]) rfl rfl rfl (by first | exact tT hM1 rfl | assumption | exact rw_T hM1 (by assumption) | exact rw_A hM1 (by assumption)) (Nat.le_of_ble_eq_true rfl) (c_skipBlanks (d + 2) hM1 ht hT1 (p := s.1) (by omega) hc.1) ?_
      -- at 13: stop
      have hc2 := hc.at (skb l 80 s.1)
      obtain ⟨M2, e2⟩ : ∃ M2, M2 = sI M1 20 6 (nI (skb l 80 s.1)) := ⟨_, rfl⟩
      rw [← e2] at hc2 ⊢
      have h2 : Cs M M2 := by rw [e2]; exact h1.sI (Or.inr ⟨rfl, by decide⟩) _
      generalize skb l 80 s.1 = q at *
      have hM2 := h2.ok hM
      have hT2 := h2.txt h
      have t1 := tTxt hM2 ht
      refine st_ald rfl rfl ?_
      refine st_gI rfl (by first | exact tT hM2 rfl | assumption | exact rw_T hM2 (by assumption) | exact rw_A hM2 (by assumption)) ?_
      -- at 17: stop
      refine wp_e hc2.1 ?_
      refine st_ald rfl rfl ?_
      refine st_gI rfl (by first | exact tT hM2 rfl | assumption | exact rw_T hM2 (by assumption) | exact rw_A hM2 (by assumption)) ?_
      -- at 21: stop
      refine wp_e hT2.1 ?_
      by_cases g : q < l.length
      · have q3' : l.getD q 0 ≠ 32 := by
          rcases q3 with z | z
          · omega
          · exact z
        obtain ⟨r, M3, hcall, h3, hm⟩ := c_takeItem d hM2 ht hT2 (s := (q, s.2)) hw hc2 g
        cases e : itn l (q, s.2) with
        | inl q' =>
          rw [e] at hm
          obtain ⟨hr, k6⟩ := hm
          subst hr
          rw [itT_l (s := (q, s.2)) g q3' e] at hT
          subst hT
          have hM3 := h3.ok hM2
          refine st_b2 rfl (fun _ => ?_) (fun zq => absurd (nI_lt g (by omega)) zq)
          refine st_ald rfl rfl ?_
          refine st_ald rfl rfl ?_
          refine st_cav (As := [_]) rfl rfl rfl (by first | exact tT hM2 rfl | assumption | exact rw_T hM2 (by assumption) | exact rw_A hM2 (by assumption)) (Nat.le_of_ble_eq_true rfl) (hcall) ?_
          refine st_b1 rfl (fun zq => absurd zq ((fun z => z rfl))) (fun _ => ?_)
          -- at 35: stop
          refine st_ald rfl rfl ?_
          refine st_gI rfl (by first | exact tT hM3 rfl | assumption | exact rw_T hM3 (by assumption) | exact rw_A hM3 (by assumption)) ?_
          -- at 39: stop
          refine wp_e k6 ?_
          exact st_iret rfl ⟨h2.tr h3, rfl⟩
        | inr s' =>
          rw [e] at hm
          obtain ⟨hr, k6⟩ := hm
          subst hr
          rw [itT_r (s := (q, s.2)) hw g q3' e] at hT
          obtain ⟨w1, w2, w3⟩ := itn_ok (s := (q, s.2)) hw e
          have w2 : q + 3 ≤ s'.1 := w2
          refine st_b2 rfl (fun _ => ?_) (fun zq => absurd (nI_lt g (by omega)) zq)
          refine st_ald rfl rfl ?_
          refine st_ald rfl rfl ?_
          refine st_cav (As := [_]) rfl rfl rfl (by first | exact tT hM2 rfl | assumption | exact rw_T hM2 (by assumption) | exact rw_A hM2 (by assumption)) (Nat.le_of_ble_eq_true rfl) (hcall) ?_
          refine st_b1 rfl (fun _ => ?_) (fun zq => absurd ((by decide)) zq)
          refine st_inc rfl rfl ?_
          refine st_go rfl ?_
          -- at 2: stop
          rw [show nI i + 1 = nI (i + 1) from nI_1 i]
          exact ih (l.length - s'.1) (by omega) s' (i + 1) M3 w1 k6 (h2.tr h3) (by omega) w3 (Nat.le_refl _) hT
      · rw [itT_end (s := (q, s.2)) (by show l.length ≤ q; omega)] at hT
        subst hT
        refine st_b2 rfl (fun zq => absurd zq (nI_nlt (by omega) (by omega))) (fun _ => ?_)
        refine st_k rfl ?_
        -- at 26: op_iret
        exact st_iret rfl ⟨h2, rfl, hc2⟩
  refine st_k rfl ?_
  refine st_ist rfl ?_
  -- at 2: stop
  exact key _ s 0 M hw hc (Cs.rf M) (Nat.zero_le _) hs (Nat.le_refl _) hT
theorem fl_cs (M : pm_M) : Cs M (pm_fl M 24 0 3) := ⟨rfl, fun _ _ => rfl, fun _ _ => rfl, fun k j z => by rw [gI_fl, if_neg (by omega)]⟩
theorem c_faultOf (d : Nat) (hM : pm_ok M) (ht : t < 4) (h : CTxt M (118 + 2 * t) (some l)) :
    ∃ r M', pm_call (d + 5) 26 [.ref 20, .ref (118 + 2 * t)] M r M' ∧ pm_S (fun k => 20 ≤ k ∧ k ≤ 24) M M' ∧ (match flt l with
      | .inl q => r = some (.int (nI q))
      | .inr x => r = some (.int (-9)) ∧ gI M' 20 4 = nI x.1 ∧ gI M' 20 5 = nI x.2.1 ∧ CP x.2.2 M') := by
  refine eq_26 (Nat.le_of_ble_eq_true rfl) ?_
  have hl := h.2.1
  refine st_ald rfl rfl ?_
  refine st_gR' rfl (by first | exact tT hM rfl | assumption | exact rw_T hM (by assumption) | exact rw_A hM (by assumption)) (by first | exact rR hM rfl rfl | assumption | exact rw_R hM (by assumption)) ?_
  refine st_k rfl ?_
  refine st_call (As := [_, _]) rfl rfl rfl (Nat.le_of_ble_eq_true rfl) (c_fill (d + 3) (tT hM rfl) (by decide)) ?_
  -- at 8: stop
  have hMf : pm_ok (pm_fl M 24 0 3) := hM
  have hMg : pm_ok (sI (pm_fl M 24 0 3) 20 6 0) := hM
  refine st_ald rfl rfl ?_
  refine st_k rfl ?_
  refine st_pI rfl (by first | exact tT hMf rfl | assumption | exact rw_T hMf (by assumption) | exact rw_A hMf (by assumption)) ?_
  -- at 13: stop
  refine st_ald rfl rfl ?_
  refine st_k rfl ?_
  refine st_pI rfl (by first | exact tT hMg rfl | assumption | exact rw_T hMg (by assumption) | exact rw_A hMg (by assumption)) ?_
  -- at 18: stop
  obtain ⟨M1, e1⟩ : ∃ M1, M1 = sI (sI (pm_fl M 24 0 3) 20 6 0) 20 7 0 := ⟨_, rfl⟩
  have hc1 : CP (0, [], [], []) M1 := by
    have f : ∀ j, j < 3 → gI M1 24 j = nI 0 := fun j hj => by rw [e1, gI_ne (Or.inl (by decide)), gI_ne (Or.inl (by decide)), gI_fl, if_pos ⟨rfl, hj⟩]; rfl
    refine ⟨by rw [e1, gI_ne (Or.inr (by decide)), gI_same]; rfl, by rw [e1, gI_same]; rfl, f 0 (by decide), f 1 (by decide), f 2 (by decide), fun i x z => (by cases z), fun i x z => (by cases z), fun i x z => (by cases z)⟩
  have s1 : Cs M M1 := by rw [e1]; exact ((fl_cs M).sI (Or.inr ⟨rfl, by decide⟩) _).sI (Or.inr ⟨rfl, by decide⟩) _
  rw [← e1]
  clear e1
  have hM1 := s1.ok hM
  have hT1 := s1.txt h
  refine st_ald rfl rfl ?_
  refine st_ald rfl rfl ?_
  refine st_cav (As := [_]) rfl rfl rfl (by first | exact tT hM1 rfl | assumption | exact rw_T hM1 (by assumption) | exact rw_A hM1 (by assumption)) (Nat.le_of_ble_eq_true rfl) (c_skipBlanks (d + 3) hM1 ht hT1 (p := 0) (by decide) hc1.1) ?_
  -- at 23: stop
  have q2 := skb_le (l := l) 80 0 (Nat.zero_le _)
  unfold flt
  have hc2 := hc1.at (skb l 80 0)
  generalize skb l 80 0 = p at *
  obtain ⟨M2, e2⟩ : ∃ M2, M2 = sI M1 20 6 (nI p) := ⟨_, rfl⟩
  rw [← e2] at hc2 ⊢
  have s2 : Cs M M2 := by rw [e2]; exact s1.sI (Or.inr ⟨rfl, by decide⟩) _
  clear e2
  have hM2 := s2.ok hM
  have hT2 := s2.txt h
  have t1 := tTxt hM2 ht
  have t3 := rTxtA hM2 ht
  have t2 := tTxtA hM2 ht
  refine st_ald rfl rfl ?_
  refine st_gI rfl (by first | exact tT hM2 rfl | assumption | exact rw_T hM2 (by assumption) | exact rw_A hM2 (by assumption)) ?_
  -- at 27: stop
  refine wp_e hc2.1 ?_
  refine st_ald rfl rfl ?_
  refine st_gI rfl (by first | exact tT hM2 rfl | assumption | exact rw_T hM2 (by assumption) | exact rw_A hM2 (by assumption)) ?_
  -- at 31: stop
  refine wp_e hT2.1 ?_
  unfold flt1
  by_cases g : p < l.length
  · have hin : vp_in (nI p) 80 := vp_in_nI (by omega) (by decide)
    refine st_b2 rfl (fun zq => absurd zq (nI_ge g (by omega))) (fun _ => ?_)
    refine st_ald rfl rfl ?_
    refine st_gR' rfl (by first | exact tT hM2 rfl | assumption | exact rw_T hM2 (by assumption) | exact rw_A hM2 (by assumption)) (by first | exact rR hM2 rfl rfl | assumption | exact rw_R hM2 (by assumption)) ?_
    refine st_ald rfl rfl ?_
    refine st_gI rfl (by first | exact tT hM2 rfl | assumption | exact rw_T hM2 (by assumption) | exact rw_A hM2 (by assumption)) ?_
    -- at 42: stop
    refine wp_e hc2.1 ?_
    refine st_bald rfl (t2) (hin) ?_
    -- at 43: stop
    refine wp_e (y := l.getD p 0) (by rw [nI_clamp (by omega)]; exact hT2.2.2 p g) ?_
    by_cases g2 : l.getD p 0 = 114
    · rw [if_neg (fun z => z.elim (fun y => by omega) (fun y => y g2))]
      refine st_k rfl ?_
      refine st_b2 rfl (fun _ => ?_) (fun zq => absurd (g2) zq)
      refine st_ald rfl rfl ?_
      refine st_dup rfl rfl ?_
      refine st_gI rfl (by first | exact tT hM2 rfl | assumption | exact rw_T hM2 (by assumption) | exact rw_A hM2 (by assumption)) ?_
      -- at 58: stop
      refine wp_e hc2.1 ?_
      refine st_k rfl ?_
      refine st_ib rfl ?_
      refine st_pI rfl (by first | exact tT hM2 rfl | assumption | exact rw_T hM2 (by assumption) | exact rw_A hM2 (by assumption)) ?_
      -- at 63: stop
      rw [nI_1]
      have hc3 := hc2.at (p + 1)
      obtain ⟨M3, e3⟩ : ∃ M3, M3 = sI M2 20 6 (nI (p + 1)) := ⟨_, rfl⟩
      rw [← e3] at hc3 ⊢
      have s3 : Cs M M3 := by rw [e3]; exact s2.sI (Or.inr ⟨rfl, by decide⟩) _
      clear e3
      have hM3 := s3.ok hM
      have hT3 := s3.txt h
      refine st_ald rfl rfl ?_
      refine st_ald rfl rfl ?_
      refine st_ald rfl rfl ?_
      refine st_cav (As := [_]) rfl rfl rfl (by first | exact tT hM3 rfl | assumption | exact rw_T hM3 (by assumption) | exact rw_A hM3 (by assumption)) (Nat.le_of_ble_eq_true rfl) (c_twoFigures (d + 2) hM3 ht hT3 (p := p + 1) (by omega) hc3.1) ?_
      -- at 69: stop
      rcases twF_cs l (p + 1) with ⟨_, e⟩ | ⟨_, _, _, h0, e⟩ | ⟨a, b, _, _, ha, hb, h0, e⟩
      · rw [e]
        have hM4 : ∀ v : Int32, pm_ok (sI M3 20 6 v) := fun v => hM3
        have hM5 : ∀ v w : Int32, pm_ok (sI (sI M3 20 6 v) 20 4 w) := fun v w => hM3
        refine st_pI rfl (by first | exact tT (hM4 _) rfl | assumption | exact rw_T (hM4 _) (by assumption) | exact rw_A (hM4 _) (by assumption)) ?_
        -- at 72: stop
        refine st_ald rfl rfl ?_
        refine st_gI rfl (by first | exact tT (hM5 _ _) rfl | assumption | exact rw_T (hM5 _ _) (by assumption) | exact rw_A (hM5 _ _) (by assumption)) ?_
        -- at 76: stop
        refine wp_e (y := -1) (gI_same _ _ _ _) ?_
        refine st_b1 rfl (fun zq => absurd zq ((by decide))) (fun _ => ?_)
        refine st_ald rfl rfl ?_
        refine st_gI rfl (by first | exact tT (hM5 _ _) rfl | assumption | exact rw_T (hM5 _ _) (by assumption) | exact rw_A (hM5 _ _) (by assumption)) ?_
        -- at 83: stop
        refine wp_e (y := nI (p + 1)) (by rw [gI_ne (Or.inr (by decide))]; exact gI_same _ _ _ _) ?_
        exact st_iret rfl ⟨(s3.S.sI ⟨by decide, by decide⟩ _ _).sI ⟨by decide, by decide⟩ _ _, rfl⟩
      · rw [e]
        have hM4 : ∀ v : Int32, pm_ok (sI M3 20 6 v) := fun v => hM3
        have hM5 : ∀ v w : Int32, pm_ok (sI (sI M3 20 6 v) 20 4 w) := fun v w => hM3
        refine st_pI rfl (by first | exact tT (hM4 _) rfl | assumption | exact rw_T (hM4 _) (by assumption) | exact rw_A (hM4 _) (by assumption)) ?_
        -- at 72: stop
        refine st_ald rfl rfl ?_
        refine st_gI rfl (by first | exact tT (hM5 _ _) rfl | assumption | exact rw_T (hM5 _ _) (by assumption) | exact rw_A (hM5 _ _) (by assumption)) ?_
        -- at 76: stop
        refine wp_e (y := -1) (gI_same _ _ _ _) ?_
        refine st_b1 rfl (fun zq => absurd zq ((by decide))) (fun _ => ?_)
        refine st_ald rfl rfl ?_
        refine st_gI rfl (by first | exact tT (hM5 _ _) rfl | assumption | exact rw_T (hM5 _ _) (by assumption) | exact rw_A (hM5 _ _) (by assumption)) ?_
        -- at 83: stop
        refine wp_e (y := nI (p + 1 + 1)) (by rw [gI_ne (Or.inr (by decide))]; exact gI_same _ _ _ _) ?_
        exact st_iret rfl ⟨(s3.S.sI ⟨by decide, by decide⟩ _ _).sI ⟨by decide, by decide⟩ _ _, rfl⟩
      · rw [e]
        dsimp only
        have hLb : 10 * a + b ≤ 99 := by omega
        generalize 10 * a + b = L at *
        have hc4 := hc3.at (p + 3)
        obtain ⟨M4, e4⟩ : ∃ M4, M4 = sI M3 20 6 (nI (p + 3)) := ⟨_, rfl⟩
        have hM4 : pm_ok (sI M3 20 6 (nI (p + 1 + 2))) := hM3
        refine st_pI rfl (by first | exact tT hM4 rfl | assumption | exact rw_T hM4 (by assumption) | exact rw_A hM4 (by assumption)) ?_
        -- at 72: stop
        rw [show p + 1 + 2 = p + 3 from rfl, ← e4]
        rw [← e4] at hc4
        have s4 : Cs M M4 := by rw [e4]; exact s3.sI (Or.inr ⟨rfl, by decide⟩) _
        clear e4
        have hc5 : CP (p + 3, [], [], []) (sI M4 20 4 (nI L)) := by
          obtain ⟨z1, z2, z3, z4, z5, z6, z7, z8⟩ := hc4
          exact ⟨by rw [gI_ne (Or.inr (by decide))]; exact z1, by rw [gI_ne (Or.inr (by decide))]; exact z2, by rw [gI_ne (Or.inl (by decide))]; exact z3, by rw [gI_ne (Or.inl (by decide))]; exact z4, by rw [gI_ne (Or.inl (by decide))]; exact z5, fun i x z => (by cases z), fun i x z => (by cases z), fun i x z => (by cases z)⟩
        obtain ⟨M5, e5⟩ : ∃ M5, M5 = sI M4 20 4 (nI L) := ⟨_, rfl⟩
        have s5 : pm_S (fun k => 20 ≤ k ∧ k ≤ 24) M M5 := by rw [e5]; exact s4.S.sI ⟨by decide, by decide⟩ _ _
        have l5 : gI M5 20 4 = nI L := by rw [e5]; exact gI_same _ _ _ _
        rw [← e5] at hc5 ⊢
        clear e5
        have hM5 := s5.ok hM
        have hT5 : CTxt M5 (118 + 2 * t) (some l) := h.kept (fun i => s5.i (by omega) i) (fun i => s5.i (by omega) i)
        refine st_ald rfl rfl ?_
        refine st_gI rfl (by first | exact tT hM5 rfl | assumption | exact rw_T hM5 (by assumption) | exact rw_A hM5 (by assumption)) ?_
        -- at 76: stop
        refine wp_e l5 ?_
        refine st_b1 rfl (fun _ => ?_) (fun zq => absurd (nI_pos' (by omega)) zq)
        refine st_ald rfl rfl ?_
        refine st_gI rfl (by first | exact tT hM5 rfl | assumption | exact rw_T hM5 (by assumption) | exact rw_A hM5 (by assumption)) ?_
        -- at 88: stop
        refine wp_e hc5.1 ?_
        refine st_ist rfl ?_
        refine st_ald rfl rfl ?_
        refine st_ald rfl rfl ?_
        refine st_ald rfl rfl ?_
        refine st_cav (As := [_]) rfl rfl rfl (by first | exact tT hM5 rfl | assumption | exact rw_T hM5 (by assumption) | exact rw_A hM5 (by assumption)) (Nat.le_of_ble_eq_true rfl) (c_twoFigures (d + 2) hM5 ht hT5 (p := p + 3) (by omega) hc5.1) ?_
        -- at 95: stop
        rcases twF_cs l (p + 3) with ⟨_, e⟩ | ⟨_, _, _, h0, e⟩ | ⟨a, b, _, _, ha, hb, h0, e⟩
        · rw [e]
          have hM6 : ∀ v : Int32, pm_ok (sI M5 20 6 v) := fun v => hM5
          have hM7 : ∀ v w : Int32, pm_ok (sI (sI M5 20 6 v) 20 5 w) := fun v w => hM5
          refine st_pI rfl (by first | exact tT (hM6 _) rfl | assumption | exact rw_T (hM6 _) (by assumption) | exact rw_A (hM6 _) (by assumption)) ?_
          -- at 98: stop
          refine st_ald rfl rfl ?_
          refine st_gI rfl (by first | exact tT (hM7 _ _) rfl | assumption | exact rw_T (hM7 _ _) (by assumption) | exact rw_A (hM7 _ _) (by assumption)) ?_
          -- at 102: stop
          refine wp_e (y := -1) (gI_same _ _ _ _) ?_
          refine st_b1 rfl (fun zq => absurd zq ((by decide))) (fun _ => ?_)
          refine st_ald rfl rfl ?_
          refine st_gI rfl (by first | exact tT (hM7 _ _) rfl | assumption | exact rw_T (hM7 _ _) (by assumption) | exact rw_A (hM7 _ _) (by assumption)) ?_
          -- at 109: stop
          refine wp_e (y := nI (p + 3)) (by rw [gI_ne (Or.inr (by decide))]; exact gI_same _ _ _ _) ?_
          exact st_iret rfl ⟨(s5.sI ⟨by decide, by decide⟩ _ _).sI ⟨by decide, by decide⟩ _ _, rfl⟩
        · rw [e]
          have hM6 : ∀ v : Int32, pm_ok (sI M5 20 6 v) := fun v => hM5
          have hM7 : ∀ v w : Int32, pm_ok (sI (sI M5 20 6 v) 20 5 w) := fun v w => hM5
          refine st_pI rfl (by first | exact tT (hM6 _) rfl | assumption | exact rw_T (hM6 _) (by assumption) | exact rw_A (hM6 _) (by assumption)) ?_
          -- at 98: stop
          refine st_ald rfl rfl ?_
          refine st_gI rfl (by first | exact tT (hM7 _ _) rfl | assumption | exact rw_T (hM7 _ _) (by assumption) | exact rw_A (hM7 _ _) (by assumption)) ?_
          -- at 102: stop
          refine wp_e (y := -1) (gI_same _ _ _ _) ?_
          refine st_b1 rfl (fun zq => absurd zq ((by decide))) (fun _ => ?_)
          refine st_ald rfl rfl ?_
          refine st_gI rfl (by first | exact tT (hM7 _ _) rfl | assumption | exact rw_T (hM7 _ _) (by assumption) | exact rw_A (hM7 _ _) (by assumption)) ?_
          -- at 109: stop
          refine wp_e (y := nI (p + 3 + 1)) (by rw [gI_ne (Or.inr (by decide))]; exact gI_same _ _ _ _) ?_
          exact st_iret rfl ⟨(s5.sI ⟨by decide, by decide⟩ _ _).sI ⟨by decide, by decide⟩ _ _, rfl⟩
        · rw [e]
          dsimp only
          have hGb : 10 * a + b ≤ 99 := by omega
          generalize 10 * a + b = G at *
          have hc6 := hc5.at (p + 5)
          have hM6 : pm_ok (sI M5 20 6 (nI (p + 3 + 2))) := hM5
          refine st_pI rfl (by first | exact tT hM6 rfl | assumption | exact rw_T hM6 (by assumption) | exact rw_A hM6 (by assumption)) ?_
          -- at 98: stop
          rw [show p + 3 + 2 = p + 5 from rfl]
          have hc7 : CP (p + 5, [], [], []) (sI (sI M5 20 6 (nI (p + 5))) 20 5 (nI G)) := by
            obtain ⟨z1, z2, z3, z4, z5, z6, z7, z8⟩ := hc6
            exact ⟨by rw [gI_ne (Or.inr (by decide))]; exact z1, by rw [gI_ne (Or.inr (by decide))]; exact z2, by rw [gI_ne (Or.inl (by decide))]; exact z3, by rw [gI_ne (Or.inl (by decide))]; exact z4, by rw [gI_ne (Or.inl (by decide))]; exact z5, fun i x z => (by cases z), fun i x z => (by cases z), fun i x z => (by cases z)⟩
          obtain ⟨M7, e7⟩ : ∃ M7, M7 = sI (sI M5 20 6 (nI (p + 5))) 20 5 (nI G) := ⟨_, rfl⟩
          have s7 : pm_S (fun k => 20 ≤ k ∧ k ≤ 24) M M7 := by rw [e7]; exact (s5.sI ⟨by decide, by decide⟩ _ _).sI ⟨by decide, by decide⟩ _ _
          have l7 : gI M7 20 4 = nI L := by rw [e7, gI_ne (Or.inr (by decide)), gI_ne (Or.inr (by decide))]; exact l5
          have m7 : gI M7 20 5 = nI G := by rw [e7]; exact gI_same _ _ _ _
          rw [← e7] at hc7 ⊢
          clear e7
          have hM7 := s7.ok hM
          have hT7 : CTxt M7 (118 + 2 * t) (some l) := h.kept (fun i => s7.i (by omega) i) (fun i => s7.i (by omega) i)
          refine st_ald rfl rfl ?_
          refine st_gI rfl (by first | exact tT hM7 rfl | assumption | exact rw_T hM7 (by assumption) | exact rw_A hM7 (by assumption)) ?_
          -- at 102: stop
          refine wp_e m7 ?_
          refine st_b1 rfl (fun _ => ?_) (fun zq => absurd (nI_pos' (by omega)) zq)
          refine st_ald rfl rfl ?_
          refine st_gI rfl (by first | exact tT hM7 rfl | assumption | exact rw_T hM7 (by assumption) | exact rw_A hM7 (by assumption)) ?_
          -- at 114: stop
          refine wp_e m7 ?_
          refine st_ald rfl rfl ?_
          refine st_gI rfl (by first | exact tT hM7 rfl | assumption | exact rw_T hM7 (by assumption) | exact rw_A hM7 (by assumption)) ?_
          -- at 118: stop
          refine wp_e l7 ?_
          by_cases gl : L < G
          · rw [if_pos gl]
            refine st_b2 rfl (fun zq => absurd zq (nI_ge gl (by omega))) (fun _ => ?_)
            refine st_ild rfl rfl ?_
            refine st_go rfl ?_
            -- at 130: op_iret
            exact st_iret rfl ⟨s7, rfl⟩
          · rw [if_neg gl]
            obtain ⟨r, M8, hcall, s8, hm⟩ := c_faultOfItems d hM7 ht hT7 (pwf0 (p + 5)) hc7 (by show p + 5 ≤ l.length; omega)
            cases e : itT l (p + 5, [], [], []) with
            | inl q =>
              rw [e] at hm
              have hm : r = some (.int (nI q)) := hm
              subst hm
              refine st_b2 rfl (fun _ => ?_) (fun zq => absurd (nI_le (by omega) (by omega)) zq)
              refine st_ald rfl rfl ?_
              refine st_ald rfl rfl ?_
              refine st_cav (As := [_]) rfl rfl rfl (by first | exact tT hM7 rfl | assumption | exact rw_T hM7 (by assumption) | exact rw_A hM7 (by assumption)) (Nat.le_of_ble_eq_true rfl) (hcall) ?_
              -- at 130: op_iret
              exact st_iret rfl ⟨s7.tr s8.S, rfl⟩
            | inr s' =>
              rw [e] at hm
              obtain ⟨hr, k⟩ := hm
              subst hr
              refine st_b2 rfl (fun _ => ?_) (fun zq => absurd (nI_le (by omega) (by omega)) zq)
              refine st_ald rfl rfl ?_
              refine st_ald rfl rfl ?_
              refine st_cav (As := [_]) rfl rfl rfl (by first | exact tT hM7 rfl | assumption | exact rw_T hM7 (by assumption) | exact rw_A hM7 (by assumption)) (Nat.le_of_ble_eq_true rfl) (hcall) ?_
              -- at 130: op_iret
              exact st_iret rfl ⟨s7.tr s8.S, rfl, by rw [s8.2.2.2 20 4 (by omega)]; exact l7, by rw [s8.2.2.2 20 5 (by omega)]; exact m7, k⟩
    · rw [if_pos (Or.inr g2)]
      refine st_k rfl ?_
      refine st_b2 rfl (fun zq => absurd zq (g2)) (fun _ => ?_)
      refine st_ald rfl rfl ?_
      refine st_gI rfl (by first | exact tT hM2 rfl | assumption | exact rw_T hM2 (by assumption) | exact rw_A hM2 (by assumption)) ?_
      -- at 52: stop
      refine wp_e hc2.1 ?_
      exact st_iret rfl ⟨s2.S, rfl⟩
  · rw [if_pos (Or.inl (by omega))]
    refine st_b2 rfl (fun _ => ?_) (fun zq => absurd (nI_le (by omega) (by omega)) zq)
    refine st_ald rfl rfl ?_
    refine st_gI rfl (by first | exact tT hM2 rfl | assumption | exact rw_T hM2 (by assumption) | exact rw_A hM2 (by assumption)) ?_
    -- at 52: stop
    refine wp_e hc2.1 ?_
    exact st_iret rfl ⟨s2.S, rfl⟩
end PRF

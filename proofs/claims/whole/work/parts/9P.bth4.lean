/-! BOTH ANSWER ALIKE: both -/
section BTB
variable {a : As} {M : pm_M} {c : Cf} {m bk : List Nat}
theorem two_ms {a : As} (j v : Nat) : (aR a j = none ∨ aR a v = none) ∨ (∃ l k, aR a j = some l ∧ aR a v = some k ∧ (12 < l.length ∨ 12 < k.length)) ∨ (∃ l k, aR a j = some l ∧ aR a v = some k ∧ l.length ≤ 12 ∧ k.length ≤ 12 ∧ ¬ (ib l (nI 10) ∧ ib k (nI 10))) ∨ (∃ m bk : List Nat, aR a j = some (m.map nI) ∧ aR a v = some (bk.map nI) ∧ m.length ≤ 12 ∧ bk.length ≤ 12 ∧ (∀ t, t ∈ m → t < 10) ∧ ∀ t, t ∈ bk → t < 10) := by
  rcases row_cs (a := a) j 12 10 (by decide) with h | ⟨l, h1, h2⟩ | ⟨l, h1, h2, h3⟩ | ⟨m, h1, h2, h3⟩
  · exact Or.inl (Or.inl h)
  · rcases row_cs (a := a) v 12 10 (by decide) with g | ⟨k, g1, g2⟩ | ⟨k, g1, g2, g3⟩ | ⟨k, g1, g2, g3⟩
    · exact Or.inl (Or.inr g)
    · exact Or.inr (Or.inl ⟨l, k, h1, g1, Or.inl h2⟩)
    · exact Or.inr (Or.inl ⟨l, k, h1, g1, Or.inl h2⟩)
    · exact Or.inr (Or.inl ⟨l, _, h1, g1, Or.inl h2⟩)
  · rcases row_cs (a := a) v 12 10 (by decide) with g | ⟨k, g1, g2⟩ | ⟨k, g1, g2, g3⟩ | ⟨k, g1, g2, g3⟩
    · exact Or.inl (Or.inr g)
    · exact Or.inr (Or.inl ⟨l, k, h1, g1, Or.inr g2⟩)
    · exact Or.inr (Or.inr (Or.inl ⟨l, k, h1, g1, h2, g2, fun z => h3 z.1⟩))
    · exact Or.inr (Or.inr (Or.inl ⟨l, _, h1, g1, h2, by rw [map_len]; exact g3, fun z => h3 z.1⟩))
  · rcases row_cs (a := a) v 12 10 (by decide) with g | ⟨k, g1, g2⟩ | ⟨k, g1, g2, g3⟩ | ⟨k, g1, g2, g3⟩
    · exact Or.inl (Or.inr g)
    · exact Or.inr (Or.inl ⟨_, k, h1, g1, Or.inr g2⟩)
    · exact Or.inr (Or.inr (Or.inl ⟨_, k, h1, g1, by rw [map_len]; exact h3, g2, fun z => g3 z.2⟩))
    · exact Or.inr (Or.inr (Or.inr ⟨m, k, h1, g1, h3, g3, h2, g2⟩))
theorem c_search0 (d : Nat) (hM : pm_ok M) (hw : cf_wf c) (hc : CC c M) (h10 : ∀ t, t ∈ m → t < 10) (hl12 : m.length ≤ 12) (k10 : ∀ t, t ∈ bk → t < 10) {o1 o : Nat} (ho1 : pm_rw o1 = true) (ho12 : 51 < o1) (ho : pm_rw o = true) (ho2 : 51 < o) (hr1 : pm_Ro M o1 (m.map nI)) (hr : pm_Ro M o (bk.map nI)) :
    ∃ M', pm_call (d + 10) 1 [.ref 41, .ref o1, .ref o] M (some (.int (nI (DF goA c m bk 5 [] (cf_rm c + 1, [])).1))) M' ∧ pm_S (fun k => (27 ≤ k ∧ k ≤ 31) ∨ s41 k) (sR M 41 5 (some o)) M' ∧ ((DF goA c m bk 5 [] (cf_rm c + 1, [])).1 ≤ cf_rm c → pm_Ro M' 50 ((DF goA c m bk 5 [] (cf_rm c + 1, [])).2.map nI)) ∧ (DF goA c m bk 5 [] (cf_rm c + 1, [])).1 ≤ cf_rm c + 1 := by
  have hrm := rm99 hw
  have hM0 := ok_sR hM (o := 41) (x := 5) (Or.inr ⟨rfl, rfl⟩) (some o)
  have hM1 : pm_ok (sI (sR M 41 5 (some o)) 41 6 (nI (cf_rm c + 1))) := hM0
  have hM2 : pm_ok (sI (sI (sR M 41 5 (some o)) 41 6 (nI (cf_rm c + 1))) 42 1 0) := hM0
  have sA : pm_S (fun k => k = 41 ∨ k = 42) (sR M 41 5 (some o)) (sI (sI (sR M 41 5 (some o)) 41 6 (nI (cf_rm c + 1))) 42 1 0) := (pm_S.rf.sI (Or.inl rfl) _ _).sI (Or.inr rfl) _ _
  have hc0 : CC c (sR M 41 5 (some o)) := hc
  have hr0 : pm_Ro (sR M 41 5 (some o)) o (bk.map nI) := hr
  have hr10 : pm_Ro (sR M 41 5 (some o)) o1 (m.map nI) := hr1
  have hc2 := hc0.kept sA (fun k _ _ => by show ¬ (_ ∨ _); omega)
  obtain ⟨M3, hc3, p3, t3, s3⟩ := c_begin (d + 4) hM2 hc2 (al_rf c) hw hw ho1 (by omega) (Or.inl rfl) (hr10.kept sA (by show ¬ (_ ∨ _); omega) (by show ¬ (_ ∨ _); omega)) hl12 h10 (fun k hk => (hc2.2.1 k hk).2.2)
  have hM3 := s3.ok hM2
  have h3 : BW c m bk (pcv c m) o [] (cf_rm c + 1, []) M3 := by
    refine ⟨p3, t3, (ro_clear _ 42).kept s3 (by show ¬ (_ ∧ _); omega) (by show ¬ (_ ∧ _); omega), ?_, fun z => by dsimp only at z; omega, ?_, (hr0.kept sA (by show ¬ (_ ∨ _); omega) (by show ¬ (_ ∨ _); omega)).kept s3 (by show ¬ (_ ∧ _); omega) (by show ¬ (_ ∧ _); omega)⟩
    · rw [s3.i (by show ¬ (_ ∧ _); omega), gI_ne (Or.inl (by decide)), gI_same]
    · rw [s3.2.1, gR_sI, gR_sI, gR_sR, if_pos ⟨rfl, rfl⟩]
  obtain ⟨M4, hc4, h4, s4, b4⟩ := c_goOn hw k10 ho ho2 d 5 [] c00 (cf_rm c + 1, []) M3 hM3 rfl (fun k hk => absurd hk List.not_mem_nil) rfl (Nat.le_refl _) h3
  rw [DF_eq p3.2.2 bk 5 [] _ rfl (fun k hk => absurd hk List.not_mem_nil) (by show cf_rm c + 1 ≤ 1000; omega) (by show some c00 ≠ none; simp)] at h4 b4
  have hM4 := s4.ok hM3
  refine ⟨M4, en_1 (Nat.le_of_ble_eq_true rfl) ?_, (sA.mo (fun k hk => Or.inr (by rcases hk with z | z <;> (show _ ∧ _; omega)))).tr ((s3.mo (fun k hk => Or.inl hk)).tr (s4.mo (fun k hk => Or.inr hk))), h4.2.2.2.2.1, b4⟩
  refine st_ald rfl rfl ?_
  refine st_ald rfl rfl ?_
  refine st_pR rfl (by first | exact tT hM rfl | assumption | exact rw_T hM (by assumption) | exact rw_A hM (by assumption)) ?_
  -- at 5: stop
  refine st_ald rfl rfl ?_
  refine st_ald rfl rfl ?_
  refine st_gR' rfl (by first | exact tT hM0 rfl | assumption | exact rw_T hM0 (by assumption) | exact rw_A hM0 (by assumption)) (by first | exact rR hM0 rfl rfl | assumption | exact rw_R hM0 (by assumption)) ?_
  refine st_cav (As := []) rfl rfl rfl (by first | exact tT hM0 rfl | assumption | exact rw_T hM0 (by assumption) | exact rw_A hM0 (by assumption)) (Nat.le_of_ble_eq_true rfl) (c_room (d + 8) hM0 hw hc0) ?_
  refine st_k rfl ?_
  refine st_ib rfl ?_
  -- at 15: stop
  rw [nI_1]
  refine st_pI rfl (by first | exact tT hM0 rfl | assumption | exact rw_T hM0 (by assumption) | exact rw_A hM0 (by assumption)) ?_
  -- at 18: stop
  refine st_ald rfl rfl ?_
  refine st_gR' rfl (by first | exact tT hM1 rfl | assumption | exact rw_T hM1 (by assumption) | exact rw_A hM1 (by assumption)) (by first | exact rR hM1 rfl rfl | assumption | exact rw_R hM1 (by assumption)) ?_
  refine st_cav (As := []) rfl rfl rfl (by first | exact tT hM1 rfl | assumption | exact rw_T hM1 (by assumption) | exact rw_A hM1 (by assumption)) (Nat.le_of_ble_eq_true rfl) (c_clear (d + 8) hM1 ro42) ?_
  -- at 25: stop
  refine st_ald rfl rfl ?_
  refine st_gR' rfl (by first | exact tT hM2 rfl | assumption | exact rw_T hM2 (by assumption) | exact rw_A hM2 (by assumption)) (by first | exact rR hM2 rfl rfl | assumption | exact rw_R hM2 (by assumption)) ?_
  refine st_ald rfl rfl ?_
  refine st_ald rfl rfl ?_
  refine st_gR' rfl (by first | exact tT hM2 rfl | assumption | exact rw_T hM2 (by assumption) | exact rw_A hM2 (by assumption)) (by first | exact rR hM2 rfl rfl | assumption | exact rw_R hM2 (by assumption)) ?_
  refine st_gR' rfl (by first | exact tT hM2 rfl | assumption | exact rw_T hM2 (by assumption) | exact rw_A hM2 (by assumption)) (by first | exact rR hM2 rfl rfl | assumption | exact rw_R hM2 (by assumption)) ?_
  refine st_cav (As := [_, _]) rfl rfl rfl (by first | exact tT hM2 rfl | assumption | exact rw_T hM2 (by assumption) | exact rw_A hM2 (by assumption)) (Nat.le_of_ble_eq_true rfl) (hc3) ?_
  -- at 40: stop
  refine st_ald rfl rfl ?_
  refine st_k rfl ?_
  refine st_k rfl ?_
  refine st_k rfl ?_
  refine st_cav (As := [_, _, _]) rfl rfl rfl (by first | exact tT hM3 rfl | assumption | exact rw_T hM3 (by assumption) | exact rw_A hM3 (by assumption)) (Nat.le_of_ble_eq_true rfl) (hc4) ?_
  -- at 49: stop
  refine st_ald rfl rfl ?_
  refine st_gI rfl (by first | exact tT hM4 rfl | assumption | exact rw_T hM4 (by assumption) | exact rw_A hM4 (by assumption)) ?_
  -- at 53: stop
  refine wp_e h4.2.2.2.1 ?_
  exact st_iret rfl ⟨rfl, rfl⟩
theorem b_both (ha : aw a) (r q t : Int32) : Both a 121 247 [.int r, .int q, .int t] := by
  have hw := ha.1
  have hrm := rm99 hw
  by_cases gg : (¬ r < 0 ∧ ¬ 6 ≤ r) ∧ (¬ q < 0 ∧ ¬ 6 ≤ q) ∧ (¬ t < 0 ∧ ¬ 6 ≤ t)
  case neg =>
    have rr : ∀ x : Int32, (¬ x < 0 ∧ ¬ 6 ≤ x) ↔ (¬ x < 0 ∧ ¬ 5 < x) := fun x => by
      rcases r_cs x with ⟨h1, h2⟩ | ⟨j, hj, hr, h1, h2⟩
      · exact ⟨fun z => absurd z h1, fun z => absurd z h2⟩
      · exact ⟨fun _ => h2, fun _ => h1⟩
    refine bo_k (x := .int (-1)) ha (fun d M h => ?_) (fun d M h => ?_)
    · refine en_121 (Nat.le_of_ble_eq_true rfl) ?_
      have hM := h.1
      refine st_ald rfl rfl ?_
      refine st_ild rfl rfl ?_
      refine st_ild rfl rfl ?_
      refine st_ild rfl rfl ?_
      refine st_cav (As := [_, _, _]) rfl rfl rfl (by first | exact tT hM rfl | assumption | exact rw_T hM (by assumption) | exact rw_A hM (by assumption)) (Nat.le_of_ble_eq_true rfl) (c_mess (d + 16) h _ _ _ (c_rowsBad (d + 16) _ _ _ _ _ gg) ⟨_, rfl⟩) ?_
      refine st_ist rfl ?_
      refine st_ild rfl rfl ?_
      refine st_b1 rfl (fun zq => absurd zq ((by decide))) (fun _ => ?_)
      refine st_ild rfl rfl ?_
      -- at 16: op_iret
      exact st_iret rfl ⟨rfl, rfl⟩
    · refine en_247 (Nat.le_of_ble_eq_true rfl) ?_
      have bad : pm_WP (pm_call (d + 19)) tb_247 (fun r0 M1 => r0 = some (.int (-1)) ∧ M1 = M) 21 [some (.ref 132), some (.int r), some (.int q), some (.int t), none] [] M := by
        refine st_k rfl ?_
        -- at 22: op_iret
        exact st_iret rfl ⟨rfl, rfl⟩
      refine st_ild rfl rfl ?_
      refine st_call (As := [_]) rfl rfl rfl (Nat.le_of_ble_eq_true rfl) (m_isRow (d + 17) r) ?_
      refine st_b1 rfl (fun z1 => ?_) (fun z1 => ?_)
      -- at 4: split 21 7
      · exact bad
      · have z1 := Decidable.not_not.mp (fun z => z1 (b01_f z))
        refine st_ild rfl rfl ?_
        refine st_call (As := [_]) rfl rfl rfl (Nat.le_of_ble_eq_true rfl) (m_isRow (d + 17) q) ?_
        refine st_b1 rfl (fun z2 => ?_) (fun z2 => ?_)
        -- at 11: split 21 14
        · exact bad
        · have z2 := Decidable.not_not.mp (fun z => z2 (b01_f z))
          refine st_ild rfl rfl ?_
          refine st_call (As := [_]) rfl rfl rfl (Nat.le_of_ble_eq_true rfl) (m_isRow (d + 17) t) ?_
          refine st_b1 rfl (fun zq => absurd zq ((fun z => z (b01_f (fun w => gg ⟨(rr r).mpr z1, (rr q).mpr z2, (rr t).mpr w⟩))))) (fun _ => ?_)
          -- at 21: stop
          exact bad
  obtain ⟨y1, y2, y3⟩ := gg
  rcases r_cs r with ⟨h1, h2⟩ | ⟨j, hj, hr, h1, h2⟩
  · exact absurd y1 h1
  rcases r_cs q with ⟨v1, v2⟩ | ⟨v, hv, hq, v1, v2⟩
  · exact absurd y2 v1
  rcases r_cs t with ⟨k1, k2⟩ | ⟨u, hu, ht, k1, k2⟩
  · exact absurd y3 k1
  subst hr; subst hq; subst ht
  have hin : vp_in (nI j) 6 := vp_in_nI hj (by decide)
  have hinv : vp_in (nI v) 6 := vp_in_nI hv (by decide)
  have hinu : vp_in (nI u) 6 := vp_in_nI hu (by decide)
  have e4 : (nI j).toNatClampNeg = j := nI_clamp (by omega)
  have e5 : (nI v).toNatClampNeg = v := nI_clamp (by omega)
  have hoj := rw_row j hj
  have hov := rw_row v hv
  have hou := rw_row u hu
  have cr := fun d M (h : IC a M) => c_rows d h hj hv hu (most := 12) (by decide) (nI 10)
  -- the reference's beginning
  have mb : ∀ d M (Q : Option Value → pm_M → Prop), pm_WP (pm_call (d + 19)) tb_247 Q 23 [some (.ref 132), some (.int (nI j)), some (.int (nI v)), some (.int (nI u)), none] [] M → pm_WP (pm_call (d + 19)) tb_247 Q 0 (pm_init 5 [.ref 132, .int (nI j), .int (nI v), .int (nI u)]) [] M := by
    intro d M Q hQ
    refine st_ild rfl rfl ?_
    refine st_call (As := [_]) rfl rfl rfl (Nat.le_of_ble_eq_true rfl) (m_isRow (d + 17) _) ?_
    refine st_b1 rfl (fun zq => absurd zq (b01_t h2)) (fun _ => ?_)
    refine st_ild rfl rfl ?_
    refine st_call (As := [_]) rfl rfl rfl (Nat.le_of_ble_eq_true rfl) (m_isRow (d + 17) _) ?_
    refine st_b1 rfl (fun zq => absurd zq (b01_t v2)) (fun _ => ?_)
    refine st_ild rfl rfl ?_
    refine st_call (As := [_]) rfl rfl rfl (Nat.le_of_ble_eq_true rfl) (m_isRow (d + 17) _) ?_
    refine st_b1 rfl (fun _ => ?_) (fun zq => absurd (b01_t k2) zq)
    -- at 23: stop
    exact hQ
  have szr : ∀ M, IM a M → gI M 134 (nI j).toNatClampNeg = szo (aR a j) ∧ gI M 134 (nI v).toNatClampNeg = szo (aR a v) := by
    intro M h
    have q1 := h.2.1 j hj
    have q2 := h.2.1 v hv
    rw [e4, e5]
    constructor
    · cases hx : aR a j with
      | none => rw [hx] at q1; exact q1
      | some l => rw [hx] at q1; exact q1.1
    · cases hx : aR a v with
      | none => rw [hx] at q2; exact q2
      | some l => rw [hx] at q2; exact q2.1
  have l40 : ∀ M, IM a M → ∀ i, i < 6 → ∀ l, aR a i = some l → l.length ≤ 40 := fun M h i hi l hx => by have := h.2.1 i hi; rw [hx] at this; exact this.2.1
  rcases two_ms (a := a) j v with hx | ⟨l, k, hx, hy, hlen⟩ | ⟨l, k, hx, hy, hl1, hl2, hno⟩ | ⟨m, bk, hx, hy, hl1, hl2, hm1, hm2⟩
  · refine bo_f ha (f := 1) (by decide) (fun d M h => ?_) (fun d M h => ?_)
    · refine en_121 (Nat.le_of_ble_eq_true rfl) ?_
      have hM := h.1
      refine st_ald rfl rfl ?_
      refine st_ild rfl rfl ?_
      refine st_ild rfl rfl ?_
      refine st_ild rfl rfl ?_
      refine st_cav (As := [_, _, _]) rfl rfl rfl (by first | exact tT hM rfl | assumption | exact rw_T hM (by assumption) | exact rw_A hM (by assumption)) (Nat.le_of_ble_eq_true rfl) (c_mess (d + 16) h _ _ _ ((cr (d + 16) M h).1 hx) ⟨_, rfl⟩) ?_
      refine st_ist rfl ?_
      refine st_ild rfl rfl ?_
      refine st_b1 rfl (fun zq => absurd zq ((by decide))) (fun _ => ?_)
      refine st_ild rfl rfl ?_
      -- at 16: op_iret
      exact st_iret rfl ⟨rfl, rfl⟩
    · refine en_247 (Nat.le_of_ble_eq_true rfl) (mb d M _ ?_)
      have hM := h.1
      have fin : pm_WP (pm_call (d + 19)) tb_247 (fun r0 M1 => r0 = some (.int (-3)) ∧ M1 = sI (sI M 132 0 (nI 1)) 133 1 (gI M 133 1 + 1)) 41 [some (.ref 132), some (.int (nI j)), some (.int (nI v)), some (.int (nI u)), none] [] M := by
        refine st_ald rfl rfl ?_
        refine st_k rfl ?_
        refine st_cav (As := [_]) rfl rfl rfl (by first | exact tT hM rfl | assumption | exact rw_T hM (by assumption) | exact rw_A hM (by assumption)) (Nat.le_of_ble_eq_true rfl) (m_meets (d + 18) hM (f := 1) (by decide)) ?_
        -- at 46: op_iret
        exact st_iret rfl ⟨rfl, rfl⟩
      refine st_ald rfl rfl ?_
      refine st_gR' rfl (by first | exact tT hM rfl | assumption | exact rw_T hM (by assumption) | exact rw_A hM (by assumption)) (by first | exact rR hM rfl rfl | assumption | exact rw_R hM (by assumption)) ?_
      refine st_ild rfl rfl ?_
      refine st_iald rfl (by first | exact tT hM rfl | assumption | exact rw_T hM (by assumption) | exact rw_A hM (by assumption)) (by first | decide | assumption | exact vp_in_nI (by omega) (by decide)) ?_
      -- at 29: stop
      refine wp_e (szr M h).1 ?_
      cases hj' : aR a j with
      | none =>
        refine st_b1 rfl (fun _ => ?_) (fun zq => absurd ((by decide)) zq)
        -- at 41: stop
        exact fin
      | some l =>
        have hv' : aR a v = none := hx.elim (fun z => by rw [hj'] at z; cases z) (fun z => z)
        have hl := l40 M h j hj l hj'
        refine st_b1 rfl (fun zq => absurd zq (nI_pos (show l.length < 2 ^ 31 by omega))) (fun _ => ?_)
        refine st_ald rfl rfl ?_
        refine st_gR' rfl (by first | exact tT hM rfl | assumption | exact rw_T hM (by assumption) | exact rw_A hM (by assumption)) (by first | exact rR hM rfl rfl | assumption | exact rw_R hM (by assumption)) ?_
        refine st_ild rfl rfl ?_
        refine st_iald rfl (by first | exact tT hM rfl | assumption | exact rw_T hM (by assumption) | exact rw_A hM (by assumption)) (by first | decide | assumption | exact vp_in_nI (by omega) (by decide)) ?_
        -- at 38: stop
        refine wp_e (szr M h).2 ?_
        rw [hv']
        refine st_b1 rfl (fun zq => absurd zq ((by decide))) (fun _ => ?_)
        -- at 41: stop
        exact fin
  · refine bo_f ha (f := 5) (by decide) (fun d M h => ?_) (fun d M h => ?_)
    · refine en_121 (Nat.le_of_ble_eq_true rfl) ?_
      have hM := h.1
      refine st_ald rfl rfl ?_
      refine st_ild rfl rfl ?_
      refine st_ild rfl rfl ?_
      refine st_ild rfl rfl ?_
      refine st_cav (As := [_, _, _]) rfl rfl rfl (by first | exact tT hM rfl | assumption | exact rw_T hM (by assumption) | exact rw_A hM (by assumption)) (Nat.le_of_ble_eq_true rfl) (c_mess (d + 16) h _ _ _ ((cr (d + 16) M h).2.1 l k hx hy hlen) ⟨_, rfl⟩) ?_
      refine st_ist rfl ?_
      refine st_ild rfl rfl ?_
      refine st_b1 rfl (fun zq => absurd zq ((by decide))) (fun _ => ?_)
      refine st_ild rfl rfl ?_
      -- at 16: op_iret
      exact st_iret rfl ⟨rfl, rfl⟩
    · refine en_247 (Nat.le_of_ble_eq_true rfl) (mb d M _ ?_)
      have hM := h.1
      have q1 := (szr M h).1
      have q2 := (szr M h).2
      rw [hx] at q1
      rw [hy] at q2
      have hl := l40 M h j hj l hx
      have hl' := l40 M h v hv k hy
      have fin : pm_WP (pm_call (d + 19)) tb_247 (fun r0 M1 => r0 = some (.int (-3)) ∧ M1 = sI (sI M 132 0 (nI 5)) 133 5 (gI M 133 5 + 1)) 69 [some (.ref 132), some (.int (nI j)), some (.int (nI v)), some (.int (nI u)), none] [] M := by
        refine st_ald rfl rfl ?_
        refine st_k rfl ?_
        refine st_cav (As := [_]) rfl rfl rfl (by first | exact tT hM rfl | assumption | exact rw_T hM (by assumption) | exact rw_A hM (by assumption)) (Nat.le_of_ble_eq_true rfl) (m_meets (d + 18) hM (f := 5) (by decide)) ?_
        -- at 74: op_iret
        exact st_iret rfl ⟨rfl, rfl⟩
      refine st_ald rfl rfl ?_
      refine st_gR' rfl (by first | exact tT hM rfl | assumption | exact rw_T hM (by assumption) | exact rw_A hM (by assumption)) (by first | exact rR hM rfl rfl | assumption | exact rw_R hM (by assumption)) ?_
      refine st_ild rfl rfl ?_
      refine st_iald rfl (by first | exact tT hM rfl | assumption | exact rw_T hM (by assumption) | exact rw_A hM (by assumption)) (by first | decide | assumption | exact vp_in_nI (by omega) (by decide)) ?_
      -- at 29: stop
      refine wp_e q1 ?_
      refine st_b1 rfl (fun zq => absurd zq (nI_pos (show l.length < 2 ^ 31 by omega))) (fun _ => ?_)
      refine st_ald rfl rfl ?_
      refine st_gR' rfl (by first | exact tT hM rfl | assumption | exact rw_T hM (by assumption) | exact rw_A hM (by assumption)) (by first | exact rR hM rfl rfl | assumption | exact rw_R hM (by assumption)) ?_
      refine st_ild rfl rfl ?_
      refine st_iald rfl (by first | exact tT hM rfl | assumption | exact rw_T hM (by assumption) | exact rw_A hM (by assumption)) (by first | decide | assumption | exact vp_in_nI (by omega) (by decide)) ?_
      -- at 38: stop
      refine wp_e q2 ?_
      refine st_b1 rfl (fun _ => ?_) (fun zq => absurd (nI_pos' (show k.length < 2 ^ 31 by omega)) zq)
      refine st_ald rfl rfl ?_
      refine st_gR' rfl (by first | exact tT hM rfl | assumption | exact rw_T hM (by assumption) | exact rw_A hM (by assumption)) (by first | exact rR hM rfl rfl | assumption | exact rw_R hM (by assumption)) ?_
      refine st_ild rfl rfl ?_
      refine st_iald rfl (by first | exact tT hM rfl | assumption | exact rw_T hM (by assumption) | exact rw_A hM (by assumption)) (by first | decide | assumption | exact vp_in_nI (by omega) (by decide)) ?_
      -- at 53: stop
      refine wp_e (y := nI l.length) q1 ?_
      by_cases g : 12 < l.length
      · refine st_k rfl ?_
        refine st_b2 rfl (fun _ => ?_) (fun zq => absurd (nI_lt (a := 12) (b := l.length) g (by omega)) zq)
        -- at 69: stop
        exact fin
      · refine st_k rfl ?_
        refine st_b2 rfl (fun zq => absurd zq (nI_nlt (a := 12) (b := l.length) (by omega) (by decide))) (fun _ => ?_)
        refine st_ald rfl rfl ?_
        refine st_gR' rfl (by first | exact tT hM rfl | assumption | exact rw_T hM (by assumption) | exact rw_A hM (by assumption)) (by first | exact rR hM rfl rfl | assumption | exact rw_R hM (by assumption)) ?_
        refine st_ild rfl rfl ?_
        refine st_iald rfl (by first | exact tT hM rfl | assumption | exact rw_T hM (by assumption) | exact rw_A hM (by assumption)) (by first | decide | assumption | exact vp_in_nI (by omega) (by decide)) ?_
        -- at 64: stop
        refine wp_e (y := nI k.length) q2 ?_
        refine st_k rfl ?_
        refine st_b2 rfl (fun zq => absurd zq (nI_ge (a := 12) (b := k.length) (by omega) (by omega))) (fun _ => ?_)
        -- at 69: stop
        exact fin
  · refine bo_f ha (f := 3) (by decide) (fun d M h => ?_) (fun d M h => ?_)
    · refine en_121 (Nat.le_of_ble_eq_true rfl) ?_
      have hM := h.1
      refine st_ald rfl rfl ?_
      refine st_ild rfl rfl ?_
      refine st_ild rfl rfl ?_
      refine st_ild rfl rfl ?_
      refine st_cav (As := [_, _, _]) rfl rfl rfl (by first | exact tT hM rfl | assumption | exact rw_T hM (by assumption) | exact rw_A hM (by assumption)) (Nat.le_of_ble_eq_true rfl) (c_mess (d + 16) h _ _ _ ((cr (d + 16) M h).2.2.1 l k hx hy hl1 hl2 hno) ⟨_, rfl⟩) ?_
      refine st_ist rfl ?_
      refine st_ild rfl rfl ?_
      refine st_b1 rfl (fun zq => absurd zq ((by decide))) (fun _ => ?_)
      refine st_ild rfl rfl ?_
      -- at 16: op_iret
      exact st_iret rfl ⟨rfl, rfl⟩
    · refine en_247 (Nat.le_of_ble_eq_true rfl) (mb d M _ ?_)
      have hM := h.1
      have q1 := (szr M h).1
      have q2 := (szr M h).2
      rw [hx] at q1
      rw [hy] at q2
      have r1 := h.2.1 j hj
      have r2 := h.2.1 v hv
      rw [hx] at r1
      rw [hy] at r2
      obtain ⟨b1, ba1, bb1⟩ := m_areSigns (d + 17) hM hj r1
      obtain ⟨b2, ba2, bb2⟩ := m_areSigns (d + 17) hM hv r2
      have fin : pm_WP (pm_call (d + 19)) tb_247 (fun r0 M1 => r0 = some (.int (-3)) ∧ M1 = sI (sI M 132 0 (nI 3)) 133 3 (gI M 133 3 + 1)) 91 [some (.ref 132), some (.int (nI j)), some (.int (nI v)), some (.int (nI u)), none] [] M := by
        refine st_ald rfl rfl ?_
        refine st_k rfl ?_
        refine st_cav (As := [_]) rfl rfl rfl (by first | exact tT hM rfl | assumption | exact rw_T hM (by assumption) | exact rw_A hM (by assumption)) (Nat.le_of_ble_eq_true rfl) (m_meets (d + 18) hM (f := 3) (by decide)) ?_
        -- at 96: op_iret
        exact st_iret rfl ⟨rfl, rfl⟩
      refine st_ald rfl rfl ?_
      refine st_gR' rfl (by first | exact tT hM rfl | assumption | exact rw_T hM (by assumption) | exact rw_A hM (by assumption)) (by first | exact rR hM rfl rfl | assumption | exact rw_R hM (by assumption)) ?_
      refine st_ild rfl rfl ?_
      refine st_iald rfl (by first | exact tT hM rfl | assumption | exact rw_T hM (by assumption) | exact rw_A hM (by assumption)) (by first | decide | assumption | exact vp_in_nI (by omega) (by decide)) ?_
      -- at 29: stop
      refine wp_e q1 ?_
      refine st_b1 rfl (fun zq => absurd zq (nI_pos (show l.length < 2 ^ 31 by omega))) (fun _ => ?_)
      refine st_ald rfl rfl ?_
      refine st_gR' rfl (by first | exact tT hM rfl | assumption | exact rw_T hM (by assumption) | exact rw_A hM (by assumption)) (by first | exact rR hM rfl rfl | assumption | exact rw_R hM (by assumption)) ?_
      refine st_ild rfl rfl ?_
      refine st_iald rfl (by first | exact tT hM rfl | assumption | exact rw_T hM (by assumption) | exact rw_A hM (by assumption)) (by first | decide | assumption | exact vp_in_nI (by omega) (by decide)) ?_
      -- at 38: stop
      refine wp_e q2 ?_
      refine st_b1 rfl (fun _ => ?_) (fun zq => absurd (nI_pos' (show k.length < 2 ^ 31 by omega)) zq)
      refine st_ald rfl rfl ?_
      refine st_gR' rfl (by first | exact tT hM rfl | assumption | exact rw_T hM (by assumption) | exact rw_A hM (by assumption)) (by first | exact rR hM rfl rfl | assumption | exact rw_R hM (by assumption)) ?_
      refine st_ild rfl rfl ?_
      refine st_iald rfl (by first | exact tT hM rfl | assumption | exact rw_T hM (by assumption) | exact rw_A hM (by assumption)) (by first | decide | assumption | exact vp_in_nI (by omega) (by decide)) ?_
      -- at 53: stop
      refine wp_e (y := nI l.length) q1 ?_
      refine st_k rfl ?_
      refine st_b2 rfl (fun zq => absurd zq (nI_nlt (a := 12) (b := l.length) (by omega) (by decide))) (fun _ => ?_)
      refine st_ald rfl rfl ?_
      refine st_gR' rfl (by first | exact tT hM rfl | assumption | exact rw_T hM (by assumption) | exact rw_A hM (by assumption)) (by first | exact rR hM rfl rfl | assumption | exact rw_R hM (by assumption)) ?_
      refine st_ild rfl rfl ?_
      refine st_iald rfl (by first | exact tT hM rfl | assumption | exact rw_T hM (by assumption) | exact rw_A hM (by assumption)) (by first | decide | assumption | exact vp_in_nI (by omega) (by decide)) ?_
      -- at 64: stop
      refine wp_e (y := nI k.length) q2 ?_
      refine st_k rfl ?_
      refine st_b2 rfl (fun _ => ?_) (fun zq => absurd (nI_le (a := k.length) (b := 12) hl2 (by decide)) zq)
      refine st_ald rfl rfl ?_
      refine st_ild rfl rfl ?_
      refine st_cav (As := [_]) rfl rfl rfl (by first | exact tT hM rfl | assumption | exact rw_T hM (by assumption) | exact rw_A hM (by assumption)) (Nat.le_of_ble_eq_true rfl) (ba1) ?_
      -- at 80: stop
      rcases bb1 with ⟨z1, z2⟩ | ⟨z1, z2⟩
      · subst z1
        rcases bb2 with ⟨w1, w2⟩ | ⟨w1, w2⟩
        · exact absurd ⟨z2, w2⟩ hno
        · subst w1
          refine st_b1 rfl (fun zq => absurd zq ((by decide))) (fun _ => ?_)
          refine st_ald rfl rfl ?_
          refine st_ild rfl rfl ?_
          refine st_cav (As := [_]) rfl rfl rfl (by first | exact tT hM rfl | assumption | exact rw_T hM (by assumption) | exact rw_A hM (by assumption)) (Nat.le_of_ble_eq_true rfl) (ba2) ?_
          refine st_b1 rfl (fun zq => absurd zq ((fun z => z rfl))) (fun _ => ?_)
          -- at 91: stop
          exact fin
      · subst z1
        refine st_b1 rfl (fun _ => ?_) (fun zq => absurd (rfl) zq)
        -- at 91: stop
        exact fin
  have ib1 : ib (m.map nI) (nI 10) := (ib_e (by decide)).mpr ⟨m, rfl, hm1⟩
  have ib2 : ib (bk.map nI) (nI 10) := (ib_e (by decide)).mpr ⟨bk, rfl, hm2⟩
  generalize hB : DF goA (aC a) m bk 5 [] (cf_rm (aC a) + 1, []) = B
  have cpre : ∀ d M (h : IC a M), ∃ M1, IC a M1 ∧ Cfr M M1 ∧ (B.1 ≤ cf_rm (aC a) → pm_Ro M1 50 (B.2.map nI)) ∧ B.1 ≤ cf_rm (aC a) + 1 ∧ ∀ Q : Option Value → pm_M → Prop, pm_WP (pm_call (d + 19)) tb_121 Q 47 [some (.ref 0), some (.int (nI j)), some (.int (nI v)), some (.int (nI u)), some (.int 0), some (.int (nI B.1))] [.int (nI (cf_rm (aC a))), .int (nI B.1)] M1 → pm_WP (pm_call (d + 19)) tb_121 Q 0 (pm_init 6 [.ref 0, .int (nI j), .int (nI v), .int (nI u)]) [] M := by
    intro d M h
    have hM := h.1
    have r1 : pm_Ro M (106 + 2 * j) (m.map nI) := by have := h.2.1 j hj; rw [hx] at this; exact this
    have r2 : pm_Ro M (106 + 2 * v) (bk.map nI) := by have := h.2.1 v hv; rw [hy] at this; exact this
    obtain ⟨M1, hc1, s1, p1, b1⟩ := c_search0 (d + 9) hM hw h.2.2.2.1 hm1 hl1 hm2 hoj (by omega) hov (by omega) r1 r2
    rw [hB] at hc1 p1 b1
    have hI := (h.ref (o := 41) (x := 5) (Or.inr ⟨rfl, rfl⟩) (some (106 + 2 * v))).S s1 (fun k hk => Or.inl (by rcases hk with z | z <;> omega))
    have hM1 := hI.1
    refine ⟨M1, hI, fun k hk i => s1.2.2 k (by show ¬ (_ ∨ _); omega) i, p1, b1, fun Q hQ => ?_⟩
    refine st_ald rfl rfl ?_
    refine st_ild rfl rfl ?_
    refine st_ild rfl rfl ?_
    refine st_ild rfl rfl ?_
    refine st_cav (As := [_, _, _]) rfl rfl rfl (by first | exact tT hM rfl | assumption | exact rw_T hM (by assumption) | exact rw_A hM (by assumption)) (Nat.le_of_ble_eq_true rfl) (c_mess (d + 16) h _ _ _ ((cr (d + 16) M h).2.2.2 _ _ hx hy (by rw [map_len]; exact hl1) (by rw [map_len]; exact hl2) ib1 ib2) ⟨_, rfl⟩) ?_
    refine st_ist rfl ?_
    refine st_ild rfl rfl ?_
    refine st_b1 rfl (fun _ => ?_) (fun zq => absurd (rfl) zq)
    refine st_ald rfl rfl ?_
    refine st_gR' rfl (by first | exact tT hM rfl | assumption | exact rw_T hM (by assumption) | exact rw_A hM (by assumption)) (by first | exact rR hM rfl rfl | assumption | exact rw_R hM (by assumption)) ?_
    refine st_ald rfl rfl ?_
    refine st_gR' rfl (by first | exact tT hM rfl | assumption | exact rw_T hM (by assumption) | exact rw_A hM (by assumption)) (by first | exact rR hM rfl rfl | assumption | exact rw_R hM (by assumption)) ?_
    refine st_ild rfl rfl ?_
    refine st_aald' rfl (by first | exact tT hM rfl | assumption | exact rw_T hM (by assumption) | exact rw_A hM (by assumption)) (by first | decide | assumption | exact vp_in_nI (by omega) (by decide)) (by first | assumption | exact rRow' hM (by assumption) | exact rTxt' hM (by assumption) | exact rKep' hM (by assumption) | exact rRdg' hM (by assumption)) ?_
    refine st_ald rfl rfl ?_
    refine st_gR' rfl (by first | exact tT hM rfl | assumption | exact rw_T hM (by assumption) | exact rw_A hM (by assumption)) (by first | exact rR hM rfl rfl | assumption | exact rw_R hM (by assumption)) ?_
    refine st_ild rfl rfl ?_
    refine st_aald' rfl (by first | exact tT hM rfl | assumption | exact rw_T hM (by assumption) | exact rw_A hM (by assumption)) (by first | decide | assumption | exact vp_in_nI (by omega) (by decide)) (by first | assumption | exact rRow' hM (by assumption) | exact rTxt' hM (by assumption) | exact rKep' hM (by assumption) | exact rRdg' hM (by assumption)) ?_
    refine st_cav (As := [_, _]) rfl rfl rfl (by first | exact tT hM rfl | assumption | exact rw_T hM (by assumption) | exact rw_A hM (by assumption)) (Nat.le_of_ble_eq_true rfl) (hc1) ?_
    -- at 36: stop
    refine st_ist rfl ?_
    refine st_ild rfl rfl ?_
    refine st_ald rfl rfl ?_
    refine st_gR' rfl (by first | exact tT hM1 rfl | assumption | exact rw_T hM1 (by assumption) | exact rw_A hM1 (by assumption)) (by first | exact rR hM1 rfl rfl | assumption | exact rw_R hM1 (by assumption)) ?_
    refine st_cav (As := []) rfl rfl rfl (by first | exact tT hM1 rfl | assumption | exact rw_T hM1 (by assumption) | exact rw_A hM1 (by assumption)) (Nat.le_of_ble_eq_true rfl) (c_room (d + 18) hM1 hw hI.2.2.2.1) ?_
    -- at 47: stop
    exact hQ
  have mpre : ∀ d M (h : IM a M), ∃ M1, IM a M1 ∧ Mfr M M1 ∧ LB (aC a) B M1 ∧ ∀ Q : Option Value → pm_M → Prop, (∀ l4, pm_WP (pm_call (d + 19)) tb_247 Q 158 [some (.ref 132), some (.int (nI j)), some (.int (nI v)), some (.int (nI u)), l4] [] M1) → pm_WP (pm_call (d + 19)) tb_247 Q 0 (pm_init 5 [.ref 132, .int (nI j), .int (nI v), .int (nI u)]) [] M := by
    intro d M h
    have hM := h.1
    have q1 := (szr M h).1
    have q2 := (szr M h).2
    rw [hx] at q1
    rw [hy] at q2
    have q1' : gI M 134 (nI j).toNatClampNeg = nI m.length := by rw [q1]; show nI (m.map nI).length = _; rw [map_len]
    have q2' : gI M 134 (nI v).toNatClampNeg = nI bk.length := by rw [q2]; show nI (bk.map nI).length = _; rw [map_len]
    have r1 := h.2.1 j hj
    have r2 := h.2.1 v hv
    rw [hx] at r1
    rw [hy] at r2
    obtain ⟨b1, ba1, bb1⟩ := m_areSigns (d + 17) hM hj r1
    obtain ⟨b2, ba2, bb2⟩ := m_areSigns (d + 17) hM hv r2
    have hb1 : b1 = 1 := bb1.elim (fun z => z.1) (fun z => absurd ib1 z.2)
    have hb2 : b2 = 1 := bb2.elim (fun z => z.1) (fun z => absurd ib2 z.2)
    subst hb1; subst hb2
    obtain ⟨M1, hc1, p1, s1⟩ := m_layMessage (d + 17) hM hj hl1 hm1 r1
    have hI := h.sc s1
    have hM1 := hI.1
    have r2' := hI.2.1 v hv
    rw [hy] at r2'
    -- the other ROW
    have s2 : Msc M1 (wI (sI M1 132 49 (nI bk.length)) 162 bk.length (fun q => nI (bk.getD q 0))) := ⟨rfl, fun _ _ => rfl, fun k i hk => ⟨by rw [gI_wn i (by omega), gI_nn (by omega)], rfl⟩⟩
    have e2 : ∀ k i, ¬ (k = 132 ∧ i = 49) → k ≠ 162 → gI (wI (sI M1 132 49 (nI bk.length)) 162 bk.length (fun q => nI (bk.getD q 0))) k i = gI M1 k i := fun k i z1 z2 => by rw [gI_wn i z2, gI_nn z1]
    have s3 : Msc M1 (sI (sI (wI (sI M1 132 49 (nI bk.length)) 162 bk.length (fun q => nI (bk.getD q 0))) 132 48 (-1)) 132 29 0) := (s2.sI _ (by omega)).sI _ (by omega)
    have hI3 := hI.sc s3
    have hM3 := hI3.1
    have h3 : LW (aC a) m bk [] (cf_rm (aC a) + 1, []) (sI (sI (wI (sI M1 132 49 (nI bk.length)) 162 bk.length (fun q => nI (bk.getD q 0))) 132 48 (-1)) 132 29 0) := by
      refine ⟨hI3.2.2.2.1, ⟨?_, p1.2.1, fun i hi => ?_, p1.2.2.2⟩, ⟨?_, hl2, fun i hi => ?_, hm2⟩, ⟨gI_same _ _ _ _, by simp, fun i hi => by simp at hi⟩, Or.inr ⟨rfl, ?_⟩⟩
      · rw [gI_ne (Or.inr (by decide)), gI_ne (Or.inr (by decide)), e2 132 40 (by omega) (by omega)]; exact p1.1
      · rw [gI_ne (Or.inl (by decide)), gI_ne (Or.inl (by decide)), e2 155 i (by omega) (by omega)]; exact p1.2.2.1 i hi
      · rw [gI_ne (Or.inr (by decide)), gI_ne (Or.inr (by decide)), gI_wn _ (by decide), gI_same]
      · rw [gI_ne (Or.inl (by decide)), gI_ne (Or.inl (by decide)), gI_w1 hi]
      · rw [gI_ne (Or.inr (by decide)), gI_same]
    obtain ⟨M4, hc4, h4, f4⟩ := m_layBoth hw (d + 8) 5 [] (cf_rm (aC a) + 1, []) _ hM3 rfl (fun k hk => absurd hk List.not_mem_nil) h3
    rw [hB] at h4
    refine ⟨M4, hI3.sc f4.1, s1.fr.tr (s3.fr.tr f4.1.fr), h4.2.2.2.2, fun Q hQ => mb d M Q ?_⟩
    have hMw : ∀ i, pm_ok (wI (sI M1 132 49 (nI bk.length)) 162 i (fun q => nI (bk.getD q 0))) := fun i => hM1
    refine st_ald rfl rfl ?_
    refine st_gR' rfl (by first | exact tT hM rfl | assumption | exact rw_T hM (by assumption) | exact rw_A hM (by assumption)) (by first | exact rR hM rfl rfl | assumption | exact rw_R hM (by assumption)) ?_
    refine st_ild rfl rfl ?_
    refine st_iald rfl (by first | exact tT hM rfl | assumption | exact rw_T hM (by assumption) | exact rw_A hM (by assumption)) (by first | decide | assumption | exact vp_in_nI (by omega) (by decide)) ?_
    -- at 29: stop
    refine wp_e q1' ?_
    refine st_b1 rfl (fun zq => absurd zq (nI_pos (by omega))) (fun _ => ?_)
    refine st_ald rfl rfl ?_
    refine st_gR' rfl (by first | exact tT hM rfl | assumption | exact rw_T hM (by assumption) | exact rw_A hM (by assumption)) (by first | exact rR hM rfl rfl | assumption | exact rw_R hM (by assumption)) ?_
    refine st_ild rfl rfl ?_
    refine st_iald rfl (by first | exact tT hM rfl | assumption | exact rw_T hM (by assumption) | exact rw_A hM (by assumption)) (by first | decide | assumption | exact vp_in_nI (by omega) (by decide)) ?_
    -- at 38: stop
    refine wp_e q2' ?_
    refine st_b1 rfl (fun _ => ?_) (fun zq => absurd (nI_pos' (by omega)) zq)
    refine st_ald rfl rfl ?_
    refine st_gR' rfl (by first | exact tT hM rfl | assumption | exact rw_T hM (by assumption) | exact rw_A hM (by assumption)) (by first | exact rR hM rfl rfl | assumption | exact rw_R hM (by assumption)) ?_
    refine st_ild rfl rfl ?_
    refine st_iald rfl (by first | exact tT hM rfl | assumption | exact rw_T hM (by assumption) | exact rw_A hM (by assumption)) (by first | decide | assumption | exact vp_in_nI (by omega) (by decide)) ?_
    -- at 53: stop
    refine wp_e q1' ?_
    refine st_k rfl ?_
    refine st_b2 rfl (fun zq => absurd zq (nI_nlt (a := 12) (b := m.length) (by omega) (by decide))) (fun _ => ?_)
    refine st_ald rfl rfl ?_
    refine st_gR' rfl (by first | exact tT hM rfl | assumption | exact rw_T hM (by assumption) | exact rw_A hM (by assumption)) (by first | exact rR hM rfl rfl | assumption | exact rw_R hM (by assumption)) ?_
    refine st_ild rfl rfl ?_
    refine st_iald rfl (by first | exact tT hM rfl | assumption | exact rw_T hM (by assumption) | exact rw_A hM (by assumption)) (by first | decide | assumption | exact vp_in_nI (by omega) (by decide)) ?_
    -- at 64: stop
    refine wp_e q2' ?_
    refine st_k rfl ?_
    refine st_b2 rfl (fun _ => ?_) (fun zq => absurd (nI_le (a := bk.length) (b := 12) hl2 (by decide)) zq)
    refine st_ald rfl rfl ?_
    refine st_ild rfl rfl ?_
    refine st_cav (As := [_]) rfl rfl rfl (by first | exact tT hM rfl | assumption | exact rw_T hM (by assumption) | exact rw_A hM (by assumption)) (Nat.le_of_ble_eq_true rfl) (ba1) ?_
    refine st_b1 rfl (fun zq => absurd zq ((by decide))) (fun _ => ?_)
    refine st_ald rfl rfl ?_
    refine st_ild rfl rfl ?_
    refine st_cav (As := [_]) rfl rfl rfl (by first | exact tT hM rfl | assumption | exact rw_T hM (by assumption) | exact rw_A hM (by assumption)) (Nat.le_of_ble_eq_true rfl) (ba2) ?_
    refine st_b1 rfl (fun _ => ?_) (fun zq => absurd ((by decide)) zq)
    refine st_ald rfl rfl ?_
    refine st_ild rfl rfl ?_
    refine st_cav (As := [_]) rfl rfl rfl (by first | exact tT hM rfl | assumption | exact rw_T hM (by assumption) | exact rw_A hM (by assumption)) (Nat.le_of_ble_eq_true rfl) (hc1) ?_
    -- at 102: stop
    refine st_ald rfl rfl ?_
    refine st_ald rfl rfl ?_
    refine st_gR' rfl (by first | exact tT hM1 rfl | assumption | exact rw_T hM1 (by assumption) | exact rw_A hM1 (by assumption)) (by first | exact rR hM1 rfl rfl | assumption | exact rw_R hM1 (by assumption)) ?_
    refine st_ild rfl rfl ?_
    refine st_iald rfl (by first | exact tT hM1 rfl | assumption | exact rw_T hM1 (by assumption) | exact rw_A hM1 (by assumption)) (by first | decide | assumption | exact vp_in_nI (by omega) (by decide)) ?_
    -- at 109: stop
    refine wp_e (y := nI bk.length) (by rw [s1.i 134 _ (by omega)]; exact q2') ?_
    refine st_pI rfl (by first | exact tT hM1 rfl | assumption | exact rw_T hM1 (by assumption) | exact rw_A hM1 (by assumption)) ?_
    refine st_k rfl ?_
    refine st_ist rfl ?_
    -- at 115: stop
    refine wp_for bk.length (fun i L M2 => ∃ x, x = nI i ∧ L = [some (.ref 132), some (.int (nI j)), some (.int (nI v)), some (.int (nI u)), some (.int x)] ∧ M2 = wI (sI M1 132 49 (nI bk.length)) 162 i (fun q => nI (bk.getD q 0))) ?_ ?_ 0 _ _ (Nat.zero_le _) ⟨_, rfl, rfl, (wI_0 _ _ _).symm⟩
    · rintro i L M2 hi ⟨x, rfl, rfl, rfl⟩ ih
      have hin2 : vp_in (nI i) 12 := vp_in_nI (by omega) (by decide)
      refine st_ild rfl rfl ?_
      refine st_ald rfl rfl ?_
      refine st_gI rfl (by first | exact tT (hMw i) rfl | assumption | exact rw_T (hMw i) (by assumption) | exact rw_A (hMw i) (by assumption)) ?_
      -- at 121: stop
      refine wp_e (y := nI bk.length) (by rw [gI_wn _ (by decide), gI_same]) ?_
      refine st_b2 rfl (fun zq => absurd zq (nI_ge hi (by omega))) (fun _ => ?_)
      refine st_ald rfl rfl ?_
      refine st_gR' rfl (by first | exact tT (hMw i) rfl | assumption | exact rw_T (hMw i) (by assumption) | exact rw_A (hMw i) (by assumption)) (by first | exact rR (hMw i) rfl rfl | assumption | exact rw_R (hMw i) (by assumption)) ?_
      refine st_ild rfl rfl ?_
      refine st_ald rfl rfl ?_
      refine st_ild rfl rfl ?_
      refine st_ild rfl rfl ?_
      refine st_cav (As := [_, _]) rfl rfl rfl (by first | exact tT (hMw i) rfl | assumption | exact rw_T (hMw i) (by assumption) | exact rw_A (hMw i) (by assumption)) (Nat.le_of_ble_eq_true rfl) (m_rowAt (d + 18) (hMw i) hv (i := i) (by omega)) ?_
      -- at 137: stop
      refine wp_e (y := nI (bk.getD i 0)) (by rw [gI_wn _ (by decide), gI_ne (Or.inl (by decide)), r2'.2.2 i (by rw [map_len]; exact hi), map_getD hi]) ?_
      refine st_iast rfl (by first | exact tT (hMw i) rfl | assumption | exact rw_T (hMw i) (by assumption) | exact rw_A (hMw i) (by assumption)) (by first | decide | assumption | exact vp_in_nI (by omega) (by decide)) ?_
      refine st_inc rfl rfl ?_
      refine st_go rfl ?_
      -- at 115: stop
      rw [nI_clamp (by omega)]
      exact ih _ _ ⟨_, nI_1 i, rfl, wI_s _ _ _ _⟩
    · rintro L M2 ⟨x, rfl, rfl, rfl⟩
      have hM5 : pm_ok (sI (wI (sI M1 132 49 (nI bk.length)) 162 bk.length (fun q => nI (bk.getD q 0))) 132 48 (-1)) := hM1
      refine st_ild rfl rfl ?_
      refine st_ald rfl rfl ?_
      refine st_gI rfl (by first | exact tT (hMw _) rfl | assumption | exact rw_T (hMw _) (by assumption) | exact rw_A (hMw _) (by assumption)) ?_
      -- at 121: stop
      refine wp_e (y := nI bk.length) (by rw [gI_wn _ (by decide), gI_same]) ?_
      refine st_b2 rfl (fun _ => ?_) (fun zq => absurd (nI_le (Nat.le_refl _) (by omega)) zq)
      refine st_ald rfl rfl ?_
      refine st_k rfl ?_
      refine st_pI rfl (by first | exact tT (hMw _) rfl | assumption | exact rw_T (hMw _) (by assumption) | exact rw_A (hMw _) (by assumption)) ?_
      -- at 149: stop
      refine st_ald rfl rfl ?_
      refine st_k rfl ?_
      refine st_pI rfl (by first | exact tT hM5 rfl | assumption | exact rw_T hM5 (by assumption) | exact rw_A hM5 (by assumption)) ?_
      -- at 154: stop
      refine st_ald rfl rfl ?_
      refine st_cav (As := []) rfl rfl rfl (by first | exact tT hM3 rfl | assumption | exact rw_T hM3 (by assumption) | exact rw_A hM3 (by assumption)) (Nat.le_of_ble_eq_true rfl) (hc4) ?_
      -- at 158: stop
      exact hQ _
  by_cases g : B.1 ≤ cf_rm (aC a)
  · refine ⟨.int (nI B.1), sR' a u (some (B.2.map nI)), ha.row _ _, fun d M h => ?_, fun d M h => ?_⟩
    · obtain ⟨M1, hI, hcf, r1, b1, pre⟩ := cpre d M h
      have hM1 := hI.1
      have r50 := r1 g
      have s2 : pm_S (pm_oo (106 + 2 * u)) M1 (sI (pm_cp M1 (50 + 1) (106 + 2 * u + 1) 0 0 (B.2.map nI).length) (106 + 2 * u) 1 (nI (B.2.map nI).length)) := s_become
      have hI2 := hI.row (x := some (B.2.map nI)) hu s2 (fun k hk => by rcases hk with z | z <;> omega) (ro_become r50)
      refine ⟨_, en_121 (Nat.le_of_ble_eq_true rfl) (pre _ ?_), hI2, hcf.tr (Cfr.S s2 (fun k hk => by rcases hk with z | z <;> omega))⟩
      refine st_b2 rfl (fun _ => ?_) (fun zq => absurd (nI_le g (by omega)) zq)
      refine st_ald rfl rfl ?_
      refine st_gR' rfl (by first | exact tT hM1 rfl | assumption | exact rw_T hM1 (by assumption) | exact rw_A hM1 (by assumption)) (by first | exact rR hM1 rfl rfl | assumption | exact rw_R hM1 (by assumption)) ?_
      refine st_ild rfl rfl ?_
      refine st_aald' rfl (by first | exact tT hM1 rfl | assumption | exact rw_T hM1 (by assumption) | exact rw_A hM1 (by assumption)) (by first | decide | assumption | exact vp_in_nI (by omega) (by decide)) (by first | assumption | exact rRow' hM1 (by assumption) | exact rTxt' hM1 (by assumption) | exact rKep' hM1 (by assumption) | exact rRdg' hM1 (by assumption)) ?_
      refine st_ald rfl rfl ?_
      refine st_gR' rfl (by first | exact tT hM1 rfl | assumption | exact rw_T hM1 (by assumption) | exact rw_A hM1 (by assumption)) (by first | exact rR hM1 rfl rfl | assumption | exact rw_R hM1 (by assumption)) ?_
      refine st_gR' rfl (by first | exact tT hM1 rfl | assumption | exact rw_T hM1 (by assumption) | exact rw_A hM1 (by assumption)) (by first | exact rR hM1 rfl rfl | assumption | exact rw_R hM1 (by assumption)) ?_
      refine st_cav (As := [_]) rfl rfl rfl (rw_T hM1 hou) (Nat.le_of_ble_eq_true rfl) (c_become (d + 18) hM1 hou ro50 (by omega) r50) ?_
      -- at 69: stop
      refine st_ild rfl rfl ?_
      -- at 71: op_iret
      exact st_iret rfl ⟨rfl, rfl⟩
    · obtain ⟨M1, hI, hcf, rb, pre⟩ := mpre d M h
      have hM1 := hI.1
      rcases rb with ⟨z1, z2, z3, z4, z5⟩ | ⟨z1, z2⟩
      · obtain ⟨M4, hc4, h7, h8⟩ := m_layRow (d + 18) hM1 hu (k := 163) (n := 24) (l := B.2.map nI) (tT hM1 rfl) (by decide) (by rw [map_len]; omega) (by rw [map_len]; omega) (fun i hi => by rw [map_len] at hi; rw [z5 i hi, map_getD hi])
        rw [map_len] at hc4
        have hI4 := hI.lay h8 h7
        have hM4 := hI4.1
        refine ⟨M4, en_247 (Nat.le_of_ble_eq_true rfl) (pre _ (fun l4 => ?_)), hI4, hcf.tr h8.fr⟩
        refine st_ald rfl rfl ?_
        refine st_gI rfl (by first | exact tT hM1 rfl | assumption | exact rw_T hM1 (by assumption) | exact rw_A hM1 (by assumption)) ?_
        -- at 162: stop
        refine wp_e z2 ?_
        refine st_b1 rfl (fun _ => ?_) (fun zq => absurd (nI_pos' (by omega)) zq)
        refine st_ald rfl rfl ?_
        refine st_ild rfl rfl ?_
        refine st_ald rfl rfl ?_
        refine st_gR' rfl (by first | exact tT hM1 rfl | assumption | exact rw_T hM1 (by assumption) | exact rw_A hM1 (by assumption)) (by first | exact rR hM1 rfl rfl | assumption | exact rw_R hM1 (by assumption)) ?_
        refine st_ald rfl rfl ?_
        refine st_gI rfl (by first | exact tT hM1 rfl | assumption | exact rw_T hM1 (by assumption) | exact rw_A hM1 (by assumption)) ?_
        -- at 178: stop
        refine wp_e z3 ?_
        refine st_cav (As := [_, _, _]) rfl rfl rfl (by first | exact tT hM1 rfl | assumption | exact rw_T hM1 (by assumption) | exact rw_A hM1 (by assumption)) (Nat.le_of_ble_eq_true rfl) (hc4) ?_
        -- at 181: stop
        refine st_ald rfl rfl ?_
        refine st_gI rfl (by first | exact tT hM4 rfl | assumption | exact rw_T hM4 (by assumption) | exact rw_A hM4 (by assumption)) ?_
        -- at 185: stop
        refine wp_e (y := nI B.1) (by rw [h8.2.2.1 132 48 (by omega) (by omega)]; exact z2) ?_
        exact st_iret rfl ⟨rfl, rfl⟩
      · omega
  · refine ⟨.int (-9), a, ha, fun d M h => ?_, fun d M h => ?_⟩
    · obtain ⟨M1, hI, hcf, r1, b1, pre⟩ := cpre d M h
      refine ⟨M1, en_121 (Nat.le_of_ble_eq_true rfl) (pre _ ?_), hI, hcf⟩
      refine st_b2 rfl (fun zq => absurd zq (nI_ge (by omega) (by omega))) (fun _ => ?_)
      refine st_k rfl ?_
      -- at 52: op_iret
      exact st_iret rfl ⟨rfl, rfl⟩
    · obtain ⟨M1, hI, hcf, rb, pre⟩ := mpre d M h
      have hM1 := hI.1
      rcases rb with ⟨z1, z2, z3, z4, z5⟩ | ⟨z1, z2⟩
      · exact absurd z1 g
      · refine ⟨M1, en_247 (Nat.le_of_ble_eq_true rfl) (pre _ (fun l4 => ?_)), hI, hcf⟩
        refine st_ald rfl rfl ?_
        refine st_gI rfl (by first | exact tT hM1 rfl | assumption | exact rw_T hM1 (by assumption) | exact rw_A hM1 (by assumption)) ?_
        -- at 162: stop
        refine wp_e z2 ?_
        refine st_b1 rfl (fun zq => absurd zq ((by decide))) (fun _ => ?_)
        refine st_k rfl ?_
        -- at 167: op_iret
        exact st_iret rfl ⟨rfl, rfl⟩
end BTB

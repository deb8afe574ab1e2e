/-! BOTH ANSWER ALIKE: packs -/
section PKC
variable {a : As} {M : pm_M} {c : Cf}
theorem row_cs {a : As} (j most e : Nat) (he : e < 2 ^ 31) : aR a j = none ∨ (∃ l, aR a j = some l ∧ most < l.length) ∨ (∃ l, aR a j = some l ∧ l.length ≤ most ∧ ¬ ib l (nI e)) ∨ (∃ ws : List Nat, aR a j = some (ws.map nI) ∧ (∀ k, k ∈ ws → k < e) ∧ ws.length ≤ most) := by
  cases hx : aR a j with
  | none => exact Or.inl rfl
  | some l =>
    by_cases g : most < l.length
    · exact Or.inr (Or.inl ⟨l, rfl, g⟩)
    · by_cases g2 : ib l (nI e)
      · obtain ⟨ws, rfl, hk⟩ := (ib_e he).mp g2
        exact Or.inr (Or.inr (Or.inr ⟨ws, rfl, hk, by rw [map_len] at g; omega⟩))
      · exact Or.inr (Or.inr (Or.inl ⟨l, rfl, by omega, g2⟩))
theorem b_packs (ha : aw a) (r : Int32) : Both a 127 260 [.int r] := by
  have hw := ha.1
  have hrm := rm99 hw
  rcases r_cs r with ⟨h1, h2⟩ | ⟨j, hj, hr, h1, h2⟩
  · refine bo_k (x := .int (-1)) ha (fun d M h => ?_) (fun d M h => ?_)
    · refine en_127 (Nat.le_of_ble_eq_true rfl) ?_
      have hM := h.1
      refine st_ald rfl rfl ?_
      refine st_ild rfl rfl ?_
      refine st_ild rfl rfl ?_
      refine st_ild rfl rfl ?_
      refine st_k rfl ?_
      refine st_k rfl ?_
      refine st_cav (As := [_, _, _, _, _]) rfl rfl rfl (by first | exact tT hM rfl | assumption | exact rw_T hM (by assumption) | exact rw_A hM (by assumption)) (Nat.le_of_ble_eq_true rfl) (c_rowsBad (d + 17) _ _ _ _ _ (fun z => h1 z.1)) ?_
      refine st_ist rfl ?_
      refine st_ild rfl rfl ?_
      refine st_b1 rfl (fun zq => absurd zq ((by decide))) (fun _ => ?_)
      refine st_ild rfl rfl ?_
      -- at 17: op_iret
      exact st_iret rfl ⟨rfl, rfl⟩
    · refine en_260 (Nat.le_of_ble_eq_true rfl) ?_
      refine st_ild rfl rfl ?_
      refine st_call (As := [_]) rfl rfl rfl (Nat.le_of_ble_eq_true rfl) (m_isRow (d + 17) r) ?_
      refine st_b1 rfl (fun zq => absurd zq ((fun z => z (b01_f h2)))) (fun _ => ?_)
      refine st_k rfl ?_
      -- at 8: op_iret
      exact st_iret rfl ⟨rfl, rfl⟩
  subst hr
  have hin : vp_in (nI j) 6 := vp_in_nI hj (by decide)
  have e4 : (nI j).toNatClampNeg = j := nI_clamp (by omega)
  have ho := rw_row j hj
  have cr := fun d M (h : IC a M) => c_rows d h hj hj hj (most := 6) (by decide) (100 : Int32)
  rcases row_cs (a := a) j 6 100 (by decide) with hx | ⟨l, hx, hlen⟩ | ⟨l, hx, hlen, hno⟩ | ⟨ws, hx, hk, hlen⟩
  · refine bo_f ha (f := 1) (by decide) (fun d M h => ?_) (fun d M h => ?_)
    · refine en_127 (Nat.le_of_ble_eq_true rfl) ?_
      have hM := h.1
      refine st_ald rfl rfl ?_
      refine st_ild rfl rfl ?_
      refine st_ild rfl rfl ?_
      refine st_ild rfl rfl ?_
      refine st_k rfl ?_
      refine st_k rfl ?_
      refine st_cav (As := [_, _, _, _, _]) rfl rfl rfl (by first | exact tT hM rfl | assumption | exact rw_T hM (by assumption) | exact rw_A hM (by assumption)) (Nat.le_of_ble_eq_true rfl) ((cr (d + 17) M h).1 (Or.inl hx)) ?_
      refine st_ist rfl ?_
      refine st_ild rfl rfl ?_
      refine st_b1 rfl (fun zq => absurd zq ((by decide))) (fun _ => ?_)
      refine st_ild rfl rfl ?_
      -- at 17: op_iret
      exact st_iret rfl ⟨rfl, rfl⟩
    · refine en_260 (Nat.le_of_ble_eq_true rfl) ?_
      have hM := h.1
      have hr0 := h.2.1 j hj
      rw [hx] at hr0
      refine st_ild rfl rfl ?_
      refine st_call (As := [_]) rfl rfl rfl (Nat.le_of_ble_eq_true rfl) (m_isRow (d + 17) _) ?_
      refine st_b1 rfl (fun _ => ?_) (fun zq => absurd (b01_t h2) zq)
      refine st_ald rfl rfl ?_
      refine st_gR' rfl (by first | exact tT hM rfl | assumption | exact rw_T hM (by assumption) | exact rw_A hM (by assumption)) (by first | exact rR hM rfl rfl | assumption | exact rw_R hM (by assumption)) ?_
      refine st_ild rfl rfl ?_
      refine st_iald rfl (by first | exact tT hM rfl | assumption | exact rw_T hM (by assumption) | exact rw_A hM (by assumption)) (by first | decide | assumption | exact vp_in_nI (by omega) (by decide)) ?_
      -- at 15: stop
      refine wp_e (y := -1) (by rw [e4]; exact hr0) ?_
      refine st_b1 rfl (fun zq => absurd zq ((by decide))) (fun _ => ?_)
      refine st_ald rfl rfl ?_
      refine st_k rfl ?_
      refine st_cav (As := [_]) rfl rfl rfl (by first | exact tT hM rfl | assumption | exact rw_T hM (by assumption) | exact rw_A hM (by assumption)) (Nat.le_of_ble_eq_true rfl) (m_meets (d + 18) hM (f := 1) (by decide)) ?_
      -- at 23: op_iret
      exact st_iret rfl ⟨rfl, rfl⟩
  · refine bo_f ha (f := 5) (by decide) (fun d M h => ?_) (fun d M h => ?_)
    · refine en_127 (Nat.le_of_ble_eq_true rfl) ?_
      have hM := h.1
      refine st_ald rfl rfl ?_
      refine st_ild rfl rfl ?_
      refine st_ild rfl rfl ?_
      refine st_ild rfl rfl ?_
      refine st_k rfl ?_
      refine st_k rfl ?_
      refine st_cav (As := [_, _, _, _, _]) rfl rfl rfl (by first | exact tT hM rfl | assumption | exact rw_T hM (by assumption) | exact rw_A hM (by assumption)) (Nat.le_of_ble_eq_true rfl) ((cr (d + 17) M h).2.1 l l hx hx (Or.inl hlen)) ?_
      refine st_ist rfl ?_
      refine st_ild rfl rfl ?_
      refine st_b1 rfl (fun zq => absurd zq ((by decide))) (fun _ => ?_)
      refine st_ild rfl rfl ?_
      -- at 17: op_iret
      exact st_iret rfl ⟨rfl, rfl⟩
    · refine en_260 (Nat.le_of_ble_eq_true rfl) ?_
      have hM := h.1
      have hr0 := h.2.1 j hj
      rw [hx] at hr0
      have hl := hr0.2.1
      refine st_ild rfl rfl ?_
      refine st_call (As := [_]) rfl rfl rfl (Nat.le_of_ble_eq_true rfl) (m_isRow (d + 17) _) ?_
      refine st_b1 rfl (fun _ => ?_) (fun zq => absurd (b01_t h2) zq)
      refine st_ald rfl rfl ?_
      refine st_gR' rfl (by first | exact tT hM rfl | assumption | exact rw_T hM (by assumption) | exact rw_A hM (by assumption)) (by first | exact rR hM rfl rfl | assumption | exact rw_R hM (by assumption)) ?_
      refine st_ild rfl rfl ?_
      refine st_iald rfl (by first | exact tT hM rfl | assumption | exact rw_T hM (by assumption) | exact rw_A hM (by assumption)) (by first | decide | assumption | exact vp_in_nI (by omega) (by decide)) ?_
      -- at 15: stop
      refine wp_e (y := nI l.length) (by rw [e4]; exact hr0.1) ?_
      refine st_b1 rfl (fun _ => ?_) (fun zq => absurd (nI_pos' (by omega)) zq)
      refine st_ald rfl rfl ?_
      refine st_gR' rfl (by first | exact tT hM rfl | assumption | exact rw_T hM (by assumption) | exact rw_A hM (by assumption)) (by first | exact rR hM rfl rfl | assumption | exact rw_R hM (by assumption)) ?_
      refine st_ild rfl rfl ?_
      refine st_iald rfl (by first | exact tT hM rfl | assumption | exact rw_T hM (by assumption) | exact rw_A hM (by assumption)) (by first | decide | assumption | exact vp_in_nI (by omega) (by decide)) ?_
      -- at 30: stop
      refine wp_e (y := nI l.length) (by rw [e4]; exact hr0.1) ?_
      refine st_k rfl ?_
      refine st_b2 rfl (fun zq => absurd zq (nI_ge (a := 6) (b := l.length) hlen (by omega))) (fun _ => ?_)
      refine st_ald rfl rfl ?_
      refine st_k rfl ?_
      refine st_cav (As := [_]) rfl rfl rfl (by first | exact tT hM rfl | assumption | exact rw_T hM (by assumption) | exact rw_A hM (by assumption)) (Nat.le_of_ble_eq_true rfl) (m_meets (d + 18) hM (f := 5) (by decide)) ?_
      -- at 40: op_iret
      exact st_iret rfl ⟨rfl, rfl⟩
  · refine bo_f ha (f := 3) (by decide) (fun d M h => ?_) (fun d M h => ?_)
    · refine en_127 (Nat.le_of_ble_eq_true rfl) ?_
      have hM := h.1
      refine st_ald rfl rfl ?_
      refine st_ild rfl rfl ?_
      refine st_ild rfl rfl ?_
      refine st_ild rfl rfl ?_
      refine st_k rfl ?_
      refine st_k rfl ?_
      refine st_cav (As := [_, _, _, _, _]) rfl rfl rfl (by first | exact tT hM rfl | assumption | exact rw_T hM (by assumption) | exact rw_A hM (by assumption)) (Nat.le_of_ble_eq_true rfl) ((cr (d + 17) M h).2.2.1 l l hx hx hlen hlen (fun z => hno z.1)) ?_
      refine st_ist rfl ?_
      refine st_ild rfl rfl ?_
      refine st_b1 rfl (fun zq => absurd zq ((by decide))) (fun _ => ?_)
      refine st_ild rfl rfl ?_
      -- at 17: op_iret
      exact st_iret rfl ⟨rfl, rfl⟩
    · refine en_260 (Nat.le_of_ble_eq_true rfl) ?_
      have hM := h.1
      have hr0 := h.2.1 j hj
      rw [hx] at hr0
      have hl := hr0.2.1
      refine st_ild rfl rfl ?_
      refine st_call (As := [_]) rfl rfl rfl (Nat.le_of_ble_eq_true rfl) (m_isRow (d + 17) _) ?_
      refine st_b1 rfl (fun _ => ?_) (fun zq => absurd (b01_t h2) zq)
      refine st_ald rfl rfl ?_
      refine st_gR' rfl (by first | exact tT hM rfl | assumption | exact rw_T hM (by assumption) | exact rw_A hM (by assumption)) (by first | exact rR hM rfl rfl | assumption | exact rw_R hM (by assumption)) ?_
      refine st_ild rfl rfl ?_
      refine st_iald rfl (by first | exact tT hM rfl | assumption | exact rw_T hM (by assumption) | exact rw_A hM (by assumption)) (by first | decide | assumption | exact vp_in_nI (by omega) (by decide)) ?_
      -- at 15: stop
      refine wp_e (y := nI l.length) (by rw [e4]; exact hr0.1) ?_
      refine st_b1 rfl (fun _ => ?_) (fun zq => absurd (nI_pos' (by omega)) zq)
      refine st_ald rfl rfl ?_
      refine st_gR' rfl (by first | exact tT hM rfl | assumption | exact rw_T hM (by assumption) | exact rw_A hM (by assumption)) (by first | exact rR hM rfl rfl | assumption | exact rw_R hM (by assumption)) ?_
      refine st_ild rfl rfl ?_
      refine st_iald rfl (by first | exact tT hM rfl | assumption | exact rw_T hM (by assumption) | exact rw_A hM (by assumption)) (by first | decide | assumption | exact vp_in_nI (by omega) (by decide)) ?_
      -- at 30: stop
      refine wp_e (y := nI l.length) (by rw [e4]; exact hr0.1) ?_
      refine st_k rfl ?_
      refine st_b2 rfl (fun _ => ?_) (fun zq => absurd (nI_le (a := l.length) (b := 6) hlen (by decide)) zq)
      refine st_k rfl ?_
      refine st_ist rfl ?_
      refine st_k rfl ?_
      refine st_ist rfl ?_
      refine st_k rfl ?_
      refine st_ist rfl ?_
      -- at 48: stop
      refine m_packsPre (d + 17) hM hw h.2.2.2.1 hj hlen hr0 (fun g f hg hf => ?_)
      rcases hg with ⟨g1, g2⟩ | ⟨g1, g2⟩
      · exact absurd g2 hno
      · subst g1
        refine st_ild rfl rfl ?_
        refine st_b1 rfl (fun zq => absurd zq ((fun z => z rfl))) (fun _ => ?_)
        refine st_ald rfl rfl ?_
        refine st_k rfl ?_
        refine st_cav (As := [_]) rfl rfl rfl (by first | exact tT hM rfl | assumption | exact rw_T hM (by assumption) | exact rw_A hM (by assumption)) (Nat.le_of_ble_eq_true rfl) (m_meets (d + 18) hM (f := 3) (by decide)) ?_
        -- at 124: op_iret
        exact st_iret rfl ⟨rfl, rfl⟩
  have h99 : ∀ i, i < ws.length → ws.getD i 0 ≤ 99 := fun i hi => by have := mem_gd hk hi; omega
  have hibl : ib (ws.map nI) 100 := (ib_e (e := 100) (by decide)).mpr ⟨ws, rfl, hk⟩
  have hl2 : (ws.map nI).length ≤ 6 := by rw [map_len]; exact hlen
  have pre : ∀ d M (_ : IM a M) (Q : Option Value → pm_M → Prop), (∀ f : Int32, ((f = 1 ∧ ∀ i, i < ws.length → ws.getD i 0 ≤ cf_rm (aC a)) ∨ (f = 0 ∧ ¬ ∀ i, i < ws.length → ws.getD i 0 ≤ cf_rm (aC a))) → pm_WP (pm_call (d + 19)) tb_260 Q 125 [some (.ref 132), some (.int (nI j)), some (.int 1), some (.int f), some (.int (nI (ws.map nI).length)), none, none] [] M) → pm_WP (pm_call (d + 19)) tb_260 Q 0 (pm_init 7 [.ref 132, .int (nI j)]) [] M := by
    intro d M h Q hQ
    have hM := h.1
    have hr0 := h.2.1 j hj
    rw [hx] at hr0
    have hl := hr0.2.1
    have hlq := hr0.1
    have conv : (∀ i, i < (ws.map nI).length → (ws.map nI).getD i 0 ≤ nI (cf_rm (aC a))) ↔ ∀ i, i < ws.length → ws.getD i 0 ≤ cf_rm (aC a) := by
      rw [map_len]
      refine ⟨fun z i hi => ?_, fun z i hi => ?_⟩
      · have := z i hi
        rw [map_getD hi] at this
        exact (nI_leI (by have := h99 i hi; omega) (by omega)).mp this
      · rw [map_getD hi]
        exact nI_le (z i hi) (by omega)
    refine st_ild rfl rfl ?_
    refine st_call (As := [_]) rfl rfl rfl (Nat.le_of_ble_eq_true rfl) (m_isRow (d + 17) _) ?_
    refine st_b1 rfl (fun _ => ?_) (fun zq => absurd (b01_t h2) zq)
    refine st_ald rfl rfl ?_
    refine st_gR' rfl (by first | exact tT hM rfl | assumption | exact rw_T hM (by assumption) | exact rw_A hM (by assumption)) (by first | exact rR hM rfl rfl | assumption | exact rw_R hM (by assumption)) ?_
    refine st_ild rfl rfl ?_
    refine st_iald rfl (by first | exact tT hM rfl | assumption | exact rw_T hM (by assumption) | exact rw_A hM (by assumption)) (by first | decide | assumption | exact vp_in_nI (by omega) (by decide)) ?_
    -- at 15: stop
    refine wp_e (y := nI (ws.map nI).length) (by rw [e4]; exact hlq) ?_
    refine st_b1 rfl (fun _ => ?_) (fun zq => absurd (nI_pos' (by omega)) zq)
    refine st_ald rfl rfl ?_
    refine st_gR' rfl (by first | exact tT hM rfl | assumption | exact rw_T hM (by assumption) | exact rw_A hM (by assumption)) (by first | exact rR hM rfl rfl | assumption | exact rw_R hM (by assumption)) ?_
    refine st_ild rfl rfl ?_
    refine st_iald rfl (by first | exact tT hM rfl | assumption | exact rw_T hM (by assumption) | exact rw_A hM (by assumption)) (by first | decide | assumption | exact vp_in_nI (by omega) (by decide)) ?_
    -- at 30: stop
    refine wp_e (y := nI (ws.map nI).length) (by rw [e4]; exact hlq) ?_
    refine st_k rfl ?_
    refine st_b2 rfl (fun _ => ?_) (fun zq => absurd (nI_le (a := (ws.map nI).length) (b := 6) hl2 (by decide)) zq)
    refine st_k rfl ?_
    refine st_ist rfl ?_
    refine st_k rfl ?_
    refine st_ist rfl ?_
    refine st_k rfl ?_
    refine st_ist rfl ?_
    -- at 48: stop
    refine m_packsPre (d + 17) hM hw h.2.2.2.1 hj hl2 hr0 (fun g f hg hf => ?_)
    rcases hg with ⟨g1, g2⟩ | ⟨g1, g2⟩
    · subst g1
      refine st_ild rfl rfl ?_
      refine st_b1 rfl (fun _ => ?_) (fun zq => absurd ((by decide)) zq)
      -- at 125: stop
      rw [conv] at hf
      exact hQ f hf
    · exact absurd hibl g2
  by_cases gf : ∀ i, i < ws.length → ws.getD i 0 ≤ cf_rm (aC a)
  case neg =>
    refine bo_k (x := .int (-9)) ha (fun d M h => ?_) (fun d M h => ?_)
    · refine en_127 (Nat.le_of_ble_eq_true rfl) ?_
      have hM := h.1
      have hr0 : pm_Ro M (106 + 2 * j) (ws.map nI) := by have := h.2.1 j hj; rw [hx] at this; exact this
      have hlq := hr0.1
      rw [map_len] at hlq
      refine st_ald rfl rfl ?_
      refine st_ild rfl rfl ?_
      refine st_ild rfl rfl ?_
      refine st_ild rfl rfl ?_
      refine st_k rfl ?_
      refine st_k rfl ?_
      refine st_cav (As := [_, _, _, _, _]) rfl rfl rfl (by first | exact tT hM rfl | assumption | exact rw_T hM (by assumption) | exact rw_A hM (by assumption)) (Nat.le_of_ble_eq_true rfl) ((cr (d + 17) M h).2.2.2 _ _ hx hx hl2 hl2 hibl hibl) ?_
      refine st_ist rfl ?_
      refine st_ild rfl rfl ?_
      refine st_b1 rfl (fun _ => ?_) (fun zq => absurd (rfl) zq)
      refine st_k rfl ?_
      refine st_ist rfl ?_
      -- at 20: stop
      refine wp_for ws.length (fun i L M1 => ∃ x, x = nI i ∧ L = [some (.ref 0), some (.int (nI j)), some (.int 0), some (.int x)] ∧ M1 = M ∧ ∀ q, q < i → ws.getD q 0 ≤ cf_rm (aC a)) ?_ ?_ 0 _ _ (Nat.zero_le _) ⟨_, rfl, rfl, rfl, fun q hq => by omega⟩
      · rintro i L M1 hi ⟨x, rfl, rfl, rfl, hq⟩ ih
        have hin2 : vp_in (nI i) 40 := vp_in_nI (by omega) (by decide)
        have := h99 i hi
        refine st_ild rfl rfl ?_
        refine st_ald rfl rfl ?_
        refine st_gR' rfl (by first | exact tT hM rfl | assumption | exact rw_T hM (by assumption) | exact rw_A hM (by assumption)) (by first | exact rR hM rfl rfl | assumption | exact rw_R hM (by assumption)) ?_
        refine st_ild rfl rfl ?_
        refine st_aald' rfl (by first | exact tT hM rfl | assumption | exact rw_T hM (by assumption) | exact rw_A hM (by assumption)) (by first | decide | assumption | exact vp_in_nI (by omega) (by decide)) (by first | assumption | exact rRow' hM (by assumption) | exact rTxt' hM (by assumption) | exact rKep' hM (by assumption) | exact rRdg' hM (by assumption)) ?_
        refine st_gI rfl (by first | exact tT hM rfl | assumption | exact rw_T hM (by assumption) | exact rw_A hM (by assumption)) ?_
        -- at 30: stop
        refine wp_e hlq ?_
        refine st_b2 rfl (fun zq => absurd zq (nI_ge (by omega) (by omega))) (fun _ => ?_)
        refine st_ald rfl rfl ?_
        refine st_gR' rfl (by first | exact tT hM rfl | assumption | exact rw_T hM (by assumption) | exact rw_A hM (by assumption)) (by first | exact rR hM rfl rfl | assumption | exact rw_R hM (by assumption)) ?_
        refine st_ild rfl rfl ?_
        refine st_aald' rfl (by first | exact tT hM rfl | assumption | exact rw_T hM (by assumption) | exact rw_A hM (by assumption)) (by first | decide | assumption | exact vp_in_nI (by omega) (by decide)) (by first | assumption | exact rRow' hM (by assumption) | exact rTxt' hM (by assumption) | exact rKep' hM (by assumption) | exact rRdg' hM (by assumption)) ?_
        refine st_gR' rfl (by first | exact tT hM rfl | assumption | exact rw_T hM (by assumption) | exact rw_A hM (by assumption)) (by first | exact rR hM rfl rfl | assumption | exact rw_R hM (by assumption)) ?_
        refine st_ild rfl rfl ?_
        refine st_iald rfl (by first | exact tT hM rfl | assumption | exact rw_T hM (by assumption) | exact rw_A hM (by assumption)) (by first | decide | assumption | exact vp_in_nI (by omega) (by decide)) ?_
        -- at 44: stop
        refine wp_e (y := nI (ws.getD i 0)) (by rw [nI_clamp (by omega), hr0.2.2 i (by rw [map_len]; exact hi), map_getD hi]) ?_
        refine st_ald rfl rfl ?_
        refine st_gR' rfl (by first | exact tT hM rfl | assumption | exact rw_T hM (by assumption) | exact rw_A hM (by assumption)) (by first | exact rR hM rfl rfl | assumption | exact rw_R hM (by assumption)) ?_
        refine st_cav (As := []) rfl rfl rfl (by first | exact tT hM rfl | assumption | exact rw_T hM (by assumption) | exact rw_A hM (by assumption)) (Nat.le_of_ble_eq_true rfl) (c_room (d + 18) hM hw h.2.2.2.1) ?_
        refine st_b2 rfl (fun g => ?_) (fun g => ?_)
        -- at 51: split 57 54
        · have g := (nI_leI (by omega) (by omega)).mp g
          refine st_inc rfl rfl ?_
          refine st_go rfl ?_
          -- at 20: stop
          refine ih _ _ ⟨_, nI_1 i, rfl, rfl, fun q z => ?_⟩
          rcases Nat.lt_or_ge q i with w | w
          · exact hq q w
          · rw [show q = i by omega]; exact g
        · refine st_k rfl ?_
          -- at 56: op_iret
          exact st_iret rfl ⟨rfl, rfl⟩
      · rintro L M1 ⟨x, rfl, rfl, rfl, hq⟩
        exact absurd hq gf
    · refine en_260 (Nat.le_of_ble_eq_true rfl) ?_
      refine pre d M h _ (fun f hf => ?_)
      rcases hf with ⟨f1, f2⟩ | ⟨f1, f2⟩
      · exact absurd f2 gf
      · subst f1
        refine st_ild rfl rfl ?_
        refine st_b1 rfl (fun zq => absurd zq ((fun z => z rfl))) (fun _ => ?_)
        refine st_k rfl ?_
        -- at 131: op_iret
        exact st_iret rfl ⟨rfl, rfl⟩
  have one : ∀ s, 0 < s → s < 2 ^ ws.length → su ws (2 ^ lo6 s) ws.length ≤ cf_rm (aC a) := by
    intro s z1 z2
    rw [su_one]
    split
    case isTrue z => exact gf _ z
    case isFalse z => exact Nat.zero_le _
  have h64 := (b_all ws.length (by omega)).2
  have hp2 := Nat.two_pow_pos ws.length
  obtain ⟨T, T0, T1, T2⟩ := fw_ex hlen one (2 ^ ws.length) (Nat.le_refl _)
  obtain ⟨o, ho'⟩ := ow_ex hlen T2
  refine ⟨.int (nI (T (2 ^ ws.length - 1))), sA' a (nI o), ha.told _, fun d M h => ?_, fun d M h => ?_⟩
  · have hM := h.1
    have hr0 : pm_Ro M (106 + 2 * j) (ws.map nI) := by have := h.2.1 j hj; rw [hx] at this; exact this
    have hlq := hr0.1
    rw [map_len] at hlq
    obtain ⟨M1, T', p, hc1, s1, s2, s3, s4, s5, s6, s7, s8⟩ := c_pack (d + 17) hM ho (by omega) (rm := cf_rm (aC a)) (by omega) hlen h99 gf hr0 h.2.2.2.2.2.2.1.1
    have hI1 := h.pk s1 (fun k hk => hk) s2
    have hM1 := hI1.1
    have eT : ∀ x, x < 2 ^ ws.length → T' x = T x := fun x hx => (fw_bp h64 T0 s3 T2 s4 x x (Nat.le_refl _) hx).symm
    have ep : p = o := ow_uniq (ow_bp hlen s4 s7 s8) (ow_cg hlen eT ho')
    subst ep
    rw [eT _ (by omega)] at s5
    refine ⟨sI M1 0 18 (nI p), en_127 (Nat.le_of_ble_eq_true rfl) ?_, hI1.told, (Cfr.S s1 (fun k hk => by omega)).sI (by decide) _ _⟩
    have hM2 : pm_ok (sI M1 0 18 (nI p)) := hM1
    refine st_ald rfl rfl ?_
    refine st_ild rfl rfl ?_
    refine st_ild rfl rfl ?_
    refine st_ild rfl rfl ?_
    refine st_k rfl ?_
    refine st_k rfl ?_
    refine st_cav (As := [_, _, _, _, _]) rfl rfl rfl (by first | exact tT hM rfl | assumption | exact rw_T hM (by assumption) | exact rw_A hM (by assumption)) (Nat.le_of_ble_eq_true rfl) ((cr (d + 17) M h).2.2.2 _ _ hx hx hl2 hl2 hibl hibl) ?_
    refine st_ist rfl ?_
    refine st_ild rfl rfl ?_
    refine st_b1 rfl (fun _ => ?_) (fun zq => absurd (rfl) zq)
    refine st_k rfl ?_
    refine st_ist rfl ?_
    -- at 20: stop
    refine wp_for ws.length (fun i L M2 => ∃ x, x = nI i ∧ L = [some (.ref 0), some (.int (nI j)), some (.int 0), some (.int x)] ∧ M2 = M) ?_ ?_ 0 _ _ (Nat.zero_le _) ⟨_, rfl, rfl, rfl⟩
    · rintro i L M2 hi ⟨x, rfl, rfl, rfl⟩ ih
      have hin2 : vp_in (nI i) 40 := vp_in_nI (by omega) (by decide)
      have := h99 i hi
      refine st_ild rfl rfl ?_
      refine st_ald rfl rfl ?_
      refine st_gR' rfl (by first | exact tT hM rfl | assumption | exact rw_T hM (by assumption) | exact rw_A hM (by assumption)) (by first | exact rR hM rfl rfl | assumption | exact rw_R hM (by assumption)) ?_
      refine st_ild rfl rfl ?_
      refine st_aald' rfl (by first | exact tT hM rfl | assumption | exact rw_T hM (by assumption) | exact rw_A hM (by assumption)) (by first | decide | assumption | exact vp_in_nI (by omega) (by decide)) (by first | assumption | exact rRow' hM (by assumption) | exact rTxt' hM (by assumption) | exact rKep' hM (by assumption) | exact rRdg' hM (by assumption)) ?_
      refine st_gI rfl (by first | exact tT hM rfl | assumption | exact rw_T hM (by assumption) | exact rw_A hM (by assumption)) ?_
      -- at 30: stop
      refine wp_e hlq ?_
      refine st_b2 rfl (fun zq => absurd zq (nI_ge (by omega) (by omega))) (fun _ => ?_)
      refine st_ald rfl rfl ?_
      refine st_gR' rfl (by first | exact tT hM rfl | assumption | exact rw_T hM (by assumption) | exact rw_A hM (by assumption)) (by first | exact rR hM rfl rfl | assumption | exact rw_R hM (by assumption)) ?_
      refine st_ild rfl rfl ?_
      refine st_aald' rfl (by first | exact tT hM rfl | assumption | exact rw_T hM (by assumption) | exact rw_A hM (by assumption)) (by first | decide | assumption | exact vp_in_nI (by omega) (by decide)) (by first | assumption | exact rRow' hM (by assumption) | exact rTxt' hM (by assumption) | exact rKep' hM (by assumption) | exact rRdg' hM (by assumption)) ?_
      refine st_gR' rfl (by first | exact tT hM rfl | assumption | exact rw_T hM (by assumption) | exact rw_A hM (by assumption)) (by first | exact rR hM rfl rfl | assumption | exact rw_R hM (by assumption)) ?_
      refine st_ild rfl rfl ?_
      refine st_iald rfl (by first | exact tT hM rfl | assumption | exact rw_T hM (by assumption) | exact rw_A hM (by assumption)) (by first | decide | assumption | exact vp_in_nI (by omega) (by decide)) ?_
      -- at 44: stop
      refine wp_e (y := nI (ws.getD i 0)) (by rw [nI_clamp (by omega), hr0.2.2 i (by rw [map_len]; exact hi), map_getD hi]) ?_
      refine st_ald rfl rfl ?_
      refine st_gR' rfl (by first | exact tT hM rfl | assumption | exact rw_T hM (by assumption) | exact rw_A hM (by assumption)) (by first | exact rR hM rfl rfl | assumption | exact rw_R hM (by assumption)) ?_
      refine st_cav (As := []) rfl rfl rfl (by first | exact tT hM rfl | assumption | exact rw_T hM (by assumption) | exact rw_A hM (by assumption)) (Nat.le_of_ble_eq_true rfl) (c_room (d + 18) hM hw h.2.2.2.1) ?_
      refine st_b2 rfl (fun _ => ?_) (fun zq => absurd (nI_le (gf i hi) (by omega)) zq)
      refine st_inc rfl rfl ?_
      refine st_go rfl ?_
      -- at 20: stop
      exact ih _ _ ⟨_, nI_1 i, rfl, rfl⟩
    · rintro L M2 ⟨x, rfl, rfl, rfl⟩
      refine st_ild rfl rfl ?_
      refine st_ald rfl rfl ?_
      refine st_gR' rfl (by first | exact tT hM rfl | assumption | exact rw_T hM (by assumption) | exact rw_A hM (by assumption)) (by first | exact rR hM rfl rfl | assumption | exact rw_R hM (by assumption)) ?_
      refine st_ild rfl rfl ?_
      refine st_aald' rfl (by first | exact tT hM rfl | assumption | exact rw_T hM (by assumption) | exact rw_A hM (by assumption)) (by first | decide | assumption | exact vp_in_nI (by omega) (by decide)) (by first | assumption | exact rRow' hM (by assumption) | exact rTxt' hM (by assumption) | exact rKep' hM (by assumption) | exact rRdg' hM (by assumption)) ?_
      refine st_gI rfl (by first | exact tT hM rfl | assumption | exact rw_T hM (by assumption) | exact rw_A hM (by assumption)) ?_
      -- at 30: stop
      refine wp_e hlq ?_
      refine st_b2 rfl (fun _ => ?_) (fun zq => absurd (nI_le (by omega) (by omega)) zq)
      refine st_ald rfl rfl ?_
      refine st_gR' rfl (by first | exact tT hM rfl | assumption | exact rw_T hM (by assumption) | exact rw_A hM (by assumption)) (by first | exact rR hM rfl rfl | assumption | exact rw_R hM (by assumption)) ?_
      refine st_ald rfl rfl ?_
      refine st_gR' rfl (by first | exact tT hM rfl | assumption | exact rw_T hM (by assumption) | exact rw_A hM (by assumption)) (by first | exact rR hM rfl rfl | assumption | exact rw_R hM (by assumption)) ?_
      refine st_ild rfl rfl ?_
      refine st_aald' rfl (by first | exact tT hM rfl | assumption | exact rw_T hM (by assumption) | exact rw_A hM (by assumption)) (by first | decide | assumption | exact vp_in_nI (by omega) (by decide)) (by first | assumption | exact rRow' hM (by assumption) | exact rTxt' hM (by assumption) | exact rKep' hM (by assumption) | exact rRdg' hM (by assumption)) ?_
      refine st_ald rfl rfl ?_
      refine st_gR' rfl (by first | exact tT hM rfl | assumption | exact rw_T hM (by assumption) | exact rw_A hM (by assumption)) (by first | exact rR hM rfl rfl | assumption | exact rw_R hM (by assumption)) ?_
      refine st_cav (As := []) rfl rfl rfl (by first | exact tT hM rfl | assumption | exact rw_T hM (by assumption) | exact rw_A hM (by assumption)) (Nat.le_of_ble_eq_true rfl) (c_room (d + 18) hM hw h.2.2.2.1) ?_
      refine st_cav (As := [_, _]) rfl rfl rfl (by first | exact tT hM rfl | assumption | exact rw_T hM (by assumption) | exact rw_A hM (by assumption)) (Nat.le_of_ble_eq_true rfl) (hc1) ?_
      -- at 83: stop
      refine st_ald rfl rfl ?_
      refine st_ald rfl rfl ?_
      refine st_gR' rfl (by first | exact tT hM1 rfl | assumption | exact rw_T hM1 (by assumption) | exact rw_A hM1 (by assumption)) (by first | exact rR hM1 rfl rfl | assumption | exact rw_R hM1 (by assumption)) ?_
      refine st_gI rfl (by first | exact tT hM1 rfl | assumption | exact rw_T hM1 (by assumption) | exact rw_A hM1 (by assumption)) ?_
      -- at 91: stop
      refine wp_e s6 ?_
      refine st_pI rfl (by first | exact tT hM1 rfl | assumption | exact rw_T hM1 (by assumption) | exact rw_A hM1 (by assumption)) ?_
      -- at 94: stop
      refine st_ald rfl rfl ?_
      refine st_gR' rfl (by first | exact tT hM2 rfl | assumption | exact rw_T hM2 (by assumption) | exact rw_A hM2 (by assumption)) (by first | exact rR hM2 rfl rfl | assumption | exact rw_R hM2 (by assumption)) ?_
      refine st_gI rfl (by first | exact tT hM2 rfl | assumption | exact rw_T hM2 (by assumption) | exact rw_A hM2 (by assumption)) ?_
      -- at 101: stop
      refine wp_e (y := nI (T (2 ^ ws.length - 1))) (by rw [gI_ne (Or.inl (by decide))]; exact s5) ?_
      exact st_iret rfl ⟨rfl, rfl⟩
  · obtain ⟨r, M', hcc, T', o', t1, t2, t3, t4, t5, t6⟩ := eq_260 (d := d + 19) (A := [.ref 132, .int (nI j)]) (M := M) (Q := fun r0 M' => ∃ T o, T 0 = 0 ∧ (∀ s, 0 < s → s < 2 ^ ws.length → fw T ws (cf_rm (aC a)) s) ∧ ow T ws (cf_rm (aC a)) o ∧ r0 = some (.int (nI (T (2 ^ ws.length - 1)))) ∧ IM (sA' a (nI o)) M' ∧ Mfr M M') (Nat.le_of_ble_eq_true rfl) (by
      refine pre d M h _ (fun f hf => ?_)
      rcases hf with ⟨f1, f2⟩ | ⟨f1, f2⟩
      · subst f1
        refine st_ild rfl rfl ?_
        refine st_b1 rfl (fun _ => ?_) (fun zq => absurd ((by decide)) zq)
        -- at 132: stop
        exact m_packsEnd (d + 17) h hw hj hlen h99 gf hx _ _
      · exact absurd gf f2)
    have eT : ∀ x, x < 2 ^ ws.length → T' x = T x := fun x hx => (fw_uniq h64 T0 t1 T2 t2 x x (Nat.le_refl _) hx).symm
    have eo : o' = o := ow_uniq t3 (ow_cg hlen eT ho')
    subst eo
    rw [eT _ (by omega)] at t4
    subst t4
    exact ⟨M', hcc, t5, t6⟩
end PKC

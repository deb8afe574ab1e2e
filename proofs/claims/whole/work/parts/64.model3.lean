/-! THE REFERENCE: laws, what is RIGHT, what is READ, what is needed of a row -/
theorem bit1 {n k : Nat} (hn : n < 64) (hk : k < 6) : ((nI n >>> (nI k &&& 31)) &&& 1 = 1) ↔ n.testBit k = true := by
  have h : ∀ n, n < 64 → ∀ k, k < 6 → ((nI n >>> (nI k &&& 31)) &&& 1 = 1 ↔ n.testBit k = true) := by decide +kernel
  exact h n hn k hk
section MOF
variable {M : pm_M} {c : Cf}
theorem m_barred (d : Nat) (hM : pm_ok M) (hw : cf_wf c) (hc : MC c M) {last k : Nat} (hl : last < cf_n c) (hk : k < cf_n c) : gI M 142 last = nI (cf_br c last) ∧ pm_call (d + 1) 152 [.int (nI (cf_br c last)), .int (nI k)] M (some (.int (if bar c last k = true then 1 else 0))) M := by
  refine ⟨(hc.2.1 last hl).2.2.2, ?_⟩
  have hn := hw.1
  have := m_has (M := M) d (nI (cf_br c last)) (nI k)
  have e : (nI (cf_br c last) >>> (nI k &&& 31)) &&& 1 = 1 ↔ bar c last k = true := by
    rw [bit1 (hw.2.2.2.2.2.1 last hl).2.2.2.2 (by omega)]
    unfold bar
    simp [show last < 6 by omega]
  by_cases z : bar c last k = true
  · rw [if_pos z]
    rw [if_pos (e.mpr z)] at this
    exact this
  · rw [if_neg z]
    rw [if_neg (fun w => z (e.mp w))] at this
    exact this
theorem m_lookLaws (d : Nat) (hM : pm_ok M) (hw : cf_wf c) (hc : MC c M) {ws : List Nat} (hk : kn c ws) (h : Lk M ws) : pm_call (d + 2) 197 [.ref 132] M (some (.int (if lw c 6 ws = true then 1 else 0))) M := by
  refine en_197 (Nat.le_of_ble_eq_true rfl) ?_
  have hl := h.2.1
  have hn := hw.1
  have loop : ∀ n i x y, x = nI i → (i + n = ws.length ∨ (i = 1 ∧ n = 0 ∧ ws.length = 0)) → 1 ≤ i → ((y = 1 ∧ ∀ t, t + 1 < i → bar c (ws.getD t 0) (ws.getD (t + 1) 0) = false) ∨ (y = 0 ∧ ∃ t, t + 1 < i ∧ t + 1 < ws.length ∧ bar c (ws.getD t 0) (ws.getD (t + 1) 0) = true)) → pm_WP (pm_call (d + 1)) tb_197 (fun r0 M1 => r0 = some (.int (if lw c 6 ws = true then 1 else 0)) ∧ M1 = M) 4 [some (.ref 132), some (.int y), some (.int x)] [] M := by
    intro n
    induction n with
    | zero =>
      intro i x y hx hi h1 hy
      subst hx
      have q : gI M 132 29 ≤ nI i := by rw [h.1]; exact nI_le (by omega) (by omega)
      refine st_ild rfl rfl ?_
      refine st_ald rfl rfl ?_
      refine st_gI rfl (by first | exact tT hM rfl | assumption | exact rw_T hM (by assumption) | exact rw_A hM (by assumption)) ?_
      refine st_b2 rfl (fun _ => ?_) (fun zq => absurd (q) zq)
      refine st_ild rfl rfl ?_
      -- at 54: op_zret
      rcases hy with ⟨rfl, hy⟩ | ⟨rfl, t, h2, h3, hy⟩
      · exact st_zret rfl (by decide) ⟨by rw [if_pos (lw6.mpr (fun t ht => hy t (by omega)))], rfl⟩
      · refine st_zret rfl (by decide) ⟨?_, rfl⟩
        rw [if_neg]
        intro z
        have := lw6.mp z t h3
        rw [hy] at this
        cases this
    | succ n ih =>
      intro i x y hx hi h1 hy
      subst hx
      have hi : i + (n + 1) = ws.length := by omega
      have q : ¬ gI M 132 29 ≤ nI i := by rw [h.1]; exact nI_ge (by omega) (by omega)
      have ep : nI i - 1 = nI (i - 1) := nI_p1 (by omega)
      have hin : vp_in (nI i) 24 := vp_in_nI (by omega) (by decide)
      have hin2 : vp_in (nI i - 1) 24 := by rw [ep]; exact vp_in_nI (by omega) (by decide)
      have hat : gI M 147 (nI i).toNatClampNeg = nI (ws.getD i 0) := by rw [nI_clamp (by omega)]; exact h.2.2 i (by omega)
      have hat2 : gI M 147 (nI i - 1).toNatClampNeg = nI (ws.getD (i - 1) 0) := by rw [ep, nI_clamp (by omega)]; exact h.2.2 (i - 1) (by omega)
      have hk1 := kn_getD hk (show i - 1 < ws.length by omega)
      have hk2 := kn_getD hk (show i < ws.length by omega)
      have hin3 : vp_in (nI (ws.getD (i - 1) 0)) 6 := in6 hw hk1
      obtain ⟨hb1, hb2⟩ := m_barred d hM hw hc hk1 hk2
      have hat3 : gI M 142 (nI (ws.getD (i - 1) 0)).toNatClampNeg = nI (cf_br c (ws.getD (i - 1) 0)) := by rw [cl6 hw hk1]; exact hb1
      rcases hy with ⟨rfl, hy⟩ | ⟨rfl, t, h2, h3, hy⟩
      · refine st_ild rfl rfl ?_
        refine st_ald rfl rfl ?_
        refine st_gI rfl (by first | exact tT hM rfl | assumption | exact rw_T hM (by assumption) | exact rw_A hM (by assumption)) ?_
        refine st_b2 rfl (fun zq => absurd zq (q)) (fun _ => ?_)
        refine st_ild rfl rfl ?_
        refine st_b1 rfl (fun zq => absurd zq ((by decide))) (fun _ => ?_)
        refine st_ald rfl rfl ?_
        refine st_gR' rfl (by first | exact tT hM rfl | assumption | exact rw_T hM (by assumption) | exact rw_A hM (by assumption)) (by first | exact rR hM rfl rfl | assumption | exact rw_R hM (by assumption)) ?_
        refine st_ald rfl rfl ?_
        refine st_gR' rfl (by first | exact tT hM rfl | assumption | exact rw_T hM (by assumption) | exact rw_A hM (by assumption)) (by first | exact rR hM rfl rfl | assumption | exact rw_R hM (by assumption)) ?_
        refine st_ild rfl rfl ?_
        refine st_k rfl ?_
        refine st_ib rfl ?_
        refine st_iald rfl (by first | exact tT hM rfl | assumption | exact rw_T hM (by assumption) | exact rw_A hM (by assumption)) (hin2) ?_
        -- at 28: stop
        refine wp_e hat2 ?_
        refine st_iald rfl (by first | exact tT hM rfl | assumption | exact rw_T hM (by assumption) | exact rw_A hM (by assumption)) (by first | decide | assumption | exact vp_in_nI (by omega) (by decide)) ?_
        -- at 29: stop
        refine wp_e hat3 ?_
        refine st_ald rfl rfl ?_
        refine st_gR' rfl (by first | exact tT hM rfl | assumption | exact rw_T hM (by assumption) | exact rw_A hM (by assumption)) (by first | exact rR hM rfl rfl | assumption | exact rw_R hM (by assumption)) ?_
        refine st_ild rfl rfl ?_
        refine st_iald rfl (by first | exact tT hM rfl | assumption | exact rw_T hM (by assumption) | exact rw_A hM (by assumption)) (by first | decide | assumption | exact vp_in_nI (by omega) (by decide)) ?_
        -- at 35: stop
        refine wp_e hat ?_
        refine st_call (As := [_, _]) rfl rfl rfl (Nat.le_of_ble_eq_true rfl) (hb2) ?_
        refine st_b1 rfl (fun g => ?_) (fun g => ?_)
        -- at 38: split 45 41
        · have g2 : bar c (ws.getD (i - 1) 0) (ws.getD i 0) = true := Decidable.not_not.mp (fun z => g (b01_f z))
          refine st_k rfl ?_
          refine st_ist rfl ?_
          refine st_inc rfl rfl ?_
          refine st_go rfl ?_
          -- at 4: stop
          refine ih (i + 1) _ 0 (nI_1 i) (by omega) (by omega) (Or.inr ⟨rfl, i - 1, by omega, by omega, ?_⟩)
          rw [show i - 1 + 1 = i by omega]
          exact g2
        · have g2 : ¬ bar c (ws.getD (i - 1) 0) (ws.getD i 0) = true := fun z => g (b01_t z)
          refine st_k rfl ?_
          refine st_go rfl ?_
          refine st_ist rfl ?_
          refine st_inc rfl rfl ?_
          refine st_go rfl ?_
          -- at 4: stop
          refine ih (i + 1) _ 1 (nI_1 i) (by omega) (by omega) (Or.inl ⟨rfl, fun t ht => ?_⟩)
          by_cases z : t = i - 1
          · subst z
            rw [show i - 1 + 1 = i by omega]
            simpa using g2
          · exact hy t (by omega)
      · refine st_ild rfl rfl ?_
        refine st_ald rfl rfl ?_
        refine st_gI rfl (by first | exact tT hM rfl | assumption | exact rw_T hM (by assumption) | exact rw_A hM (by assumption)) ?_
        refine st_b2 rfl (fun zq => absurd zq (q)) (fun _ => ?_)
        refine st_ild rfl rfl ?_
        refine st_b1 rfl (fun _ => ?_) (fun zq => absurd (rfl) zq)
        refine st_k rfl ?_
        refine st_ist rfl ?_
        refine st_inc rfl rfl ?_
        refine st_go rfl ?_
        -- at 4: stop
        exact ih (i + 1) _ 0 (nI_1 i) (by omega) (by omega) (Or.inr ⟨rfl, t, by omega, h3, hy⟩)
  refine st_k rfl ?_
  refine st_ist rfl ?_
  refine st_k rfl ?_
  refine st_ist rfl ?_
  -- at 4: stop
  exact loop (ws.length - 1) 1 1 1 rfl (by omega) (Nat.le_refl _) (Or.inl ⟨rfl, fun t ht => by omega⟩)
theorem m_lookRight (d : Nat) (hM : pm_ok M) (hw : cf_wf c) (hc : MC c M) {ws : List Nat} (hk : kn c ws) (h : Lk M ws) : pm_call (d + 4) 198 [.ref 132] M (some (.int (if rt c ws then 1 else 0))) M := by
  refine en_198 (Nat.le_of_ble_eq_true rfl) ?_
  have hl := h.2.1
  have hms := ms_le hw ws 6 hk
  have hrm : cf_rm c ≤ 99 := by have := hw.2.2.1; unfold cf_rm; omega
  refine st_ald rfl rfl ?_
  refine st_cav (As := []) rfl rfl rfl (by first | exact tT hM rfl | assumption | exact rw_T hM (by assumption) | exact rw_A hM (by assumption)) (Nat.le_of_ble_eq_true rfl) (m_lookLaws (d + 1) hM hw hc hk h) ?_
  refine st_b1 rfl (fun g1 => ?_) (fun g1 => ?_)
  -- at 4: split 22 7
  · refine st_k rfl ?_
    -- at 23: op_zret
    exact st_zret rfl (by decide) ⟨by rw [if_neg (fun z => b01_t z.1 g1)], rfl⟩
  · have g1 := Decidable.not_not.mp (fun z => g1 (b01_f z))
    refine st_ald rfl rfl ?_
    refine st_cav (As := []) rfl rfl rfl (by first | exact tT hM rfl | assumption | exact rw_T hM (by assumption) | exact rw_A hM (by assumption)) (Nat.le_of_ble_eq_true rfl) (m_lookTakes d hM hw hc hk h) ?_
    refine st_ald rfl rfl ?_
    refine st_cav (As := []) rfl rfl rfl (by first | exact tT hM rfl | assumption | exact rw_T hM (by assumption) | exact rw_A hM (by assumption)) (Nat.le_of_ble_eq_true rfl) (m_roomNow (d + 2) hM hw hc) ?_
    refine st_b2 rfl (fun g2 => ?_) (fun g2 => ?_)
    -- at 15: split 22 18
    · have g2 := (nI_ltI (by omega) (by omega)).mp g2
      refine st_k rfl ?_
      -- at 23: op_zret
      exact st_zret rfl (by decide) ⟨by rw [if_neg (fun z => by have := z.2; omega)], rfl⟩
    · have g2 : ¬ cf_rm c < ms c 6 ws := fun z => g2 ((nI_ltI (by omega) (by omega)).mpr z)
      refine st_k rfl ?_
      refine st_go rfl ?_
      -- at 23: op_zret
      exact st_zret rfl (by decide) ⟨by rw [if_pos ⟨g1, by omega⟩], rfl⟩
/-- the row 'signsRead' holds l -/
def Sr (M : pm_M) (l : List Nat) : Prop := gI M 132 31 = nI l.length ∧ l.length ≤ 24 ∧ ∀ i, i < l.length → gI M 148 i = nI (l.getD i 0)
theorem n32_none {c : Cf} (hw : cf_wf c) {a b : Nat} : n32 (pr c a b) = -9 ↔ pr c a b = none := by
  cases e : pr c a b with
  | none => simp [n32]
  | some s =>
    have := pr_ps hw e
    simp only [n32, reduceCtorEq, iff_false]
    have h : ∀ s, s ≤ 9 → ¬ nI s = -9 := by decide +kernel
    exact h s this
/-- what readLook leaves alone: all but the count and the row of signs -/
theorem m_readLook (d : Nat) (hM : pm_ok M) (hw : cf_wf c) (hc : MC c M) {ws : List Nat} (hk : kn c ws) (h : Lk M ws) : ∃ M', pm_call (d + 2) 199 [.ref 132] M none M' ∧ Sr M' (rd c ws) ∧ Msc M M' ∧ (∀ k i, ¬ (k = 132 ∧ i = 31) → k ≠ 148 → gI M' k i = gI M k i) := by
  have hl := h.2.1
  have hrl := rd_len c ws
  have loop : ∀ n i x M1 done, x = nI i → ws.length - i ≤ n → i ≤ ws.length → Msc M M1 → (∀ k i, ¬ (k = 132 ∧ i = 31) → k ≠ 148 → gI M1 k i = gI M k i) → Sr M1 done → done ++ rd c (ws.drop i) = rd c ws → pm_WP (pm_call (d + 1)) tb_199 (fun r M' => r = none ∧ Sr M' (rd c ws) ∧ Msc M M' ∧ (∀ k i, ¬ (k = 132 ∧ i = 31) → k ≠ 148 → gI M' k i = gI M k i)) 7 [some (.ref 132), some (.int x), none] [] M1 := by
    intro n
    induction n with
    | zero =>
      intro i x M1 done hx hn hi hs hf hr hd
      subst hx
      have hM1 := hs.ok hM
      have q : gI M1 132 29 ≤ nI i := by rw [hf 132 29 (by omega) (by omega), h.1]; exact nI_le (by omega) (by omega)
      refine st_ild rfl rfl ?_
      refine st_ald rfl rfl ?_
      refine st_gI rfl (by first | exact tT hM1 rfl | assumption | exact rw_T hM1 (by assumption) | exact rw_A hM1 (by assumption)) ?_
      refine st_b2 rfl (fun _ => ?_) (fun zq => absurd (q) zq)
      -- at 106: op_vret
      refine st_vret rfl ⟨rfl, ?_, hs, hf⟩
      rw [← hd, List.drop_eq_nil_of_le (by omega)]
      simpa [rd] using hr
    | succ n ih =>
      intro i x M1 done hx hn hi hs hf hr hd
      subst hx
      have hM1 := hs.ok hM
      have hc1 : MC c M1 := hc.sc hs
      have h29 : gI M1 132 29 = nI ws.length := by rw [hf 132 29 (by omega) (by omega)]; exact h.1
      by_cases hil : i = ws.length
      · have q : gI M1 132 29 ≤ nI i := by rw [h29]; exact nI_le (by omega) (by omega)
        refine st_ild rfl rfl ?_
        refine st_ald rfl rfl ?_
        refine st_gI rfl (by first | exact tT hM1 rfl | assumption | exact rw_T hM1 (by assumption) | exact rw_A hM1 (by assumption)) ?_
        refine st_b2 rfl (fun _ => ?_) (fun zq => absurd (q) zq)
        -- at 106: op_vret
        refine st_vret rfl ⟨rfl, ?_, hs, hf⟩
        rw [← hd, List.drop_eq_nil_of_le (by omega)]
        simpa [rd] using hr
      have hi : i < ws.length := by omega
      have q : ¬ gI M1 132 29 ≤ nI i := by rw [h29]; exact nI_ge (by omega) (by omega)
      have hin : vp_in (nI i) 24 := vp_in_nI (by omega) (by decide)
      have e4 : (nI i).toNatClampNeg = i := nI_clamp (by omega)
      have hat : gI M1 147 (nI i).toNatClampNeg = nI (ws.getD i 0) := by rw [e4, hf 147 i (by omega) (by omega)]; exact h.2.2 i hi
      have hka := kn_getD hk hi
      have hina : vp_in (nI (ws.getD i 0)) 6 := in6 hw hka
      have hsg : gI M1 141 (nI (ws.getD i 0)).toNatClampNeg = nI (cf_sg c (ws.getD i 0)) := by rw [cl6 hw hka]; exact (hc1.2.1 _ hka).2.2.1
      -- one sign more, s, going on at i + st
      have put : ∀ (s st : Nat) (two v : Int32), v = nI s → (two = -9 ↔ st = 1) → (st = 1 ∨ st = 2) → i + st ≤ ws.length → rd c (ws.drop i) = s :: rd c (ws.drop (i + st)) → pm_WP (pm_call (d + 1)) tb_199 (fun r M' => r = none ∧ Sr M' (rd c ws) ∧ Msc M M' ∧ (∀ k i, ¬ (k = 132 ∧ i = 31) → k ≠ 148 → gI M' k i = gI M k i)) 78 [some (.ref 132), some (.int (nI i)), some (.int two)] [.int v, .int (nI done.length), .ref 148] M1 := by
        intro s st two v hv htwo hst hle hrd
        subst hv
        have hdl : done.length < 24 := by
          have := congrArg List.length hd
          rw [hrd] at this
          simp at this
          omega
        have hin5 : vp_in (nI done.length) 24 := vp_in_nI hdl (by decide)
        have e5 : (nI done.length).toNatClampNeg = done.length := nI_clamp (by omega)
        have fin : ∀ M2, M2 = sI (sI M1 148 done.length (nI s)) 132 31 (nI (done.length + 1)) → ∀ x, x = nI (i + st) → pm_WP (pm_call (d + 1)) tb_199 (fun r M' => r = none ∧ Sr M' (rd c ws) ∧ Msc M M' ∧ (∀ k i, ¬ (k = 132 ∧ i = 31) → k ≠ 148 → gI M' k i = gI M k i)) 7 [some (.ref 132), some (.int x), none] [] M2 := by
          intro M2 hM2 x hx
          subst hM2
          refine ih (i + st) x _ (done ++ [s]) hx (by omega) hle ((hs.sI _ (by omega)).sI _ (by omega)) (fun k j z1 z2 => ?_) ⟨?_, by simp; omega, fun j hj => ?_⟩ ?_
          · rw [gI_nn z1, gI_ne (Or.inl z2)]
            exact hf k j z1 z2
          · rw [gI_same]; simp
          · rw [gI_ne (Or.inl (by decide)), gI_sI]
            simp at hj
            by_cases z : j = done.length
            · subst z; simp
            · rw [if_neg (fun w => z w.2), hr.2.2 j (by omega)]
              simp [List.getD_eq_getElem?_getD, List.getElem?_append_left (show j < done.length by omega)]
          · rw [← hd, hrd]
            simp
        refine st_iast rfl (by first | exact tT hM1 rfl | assumption | exact rw_T hM1 (by assumption) | exact rw_A hM1 (by assumption)) (by first | decide | assumption | exact vp_in_nI (by omega) (by decide)) ?_
        refine st_ald rfl rfl ?_
        refine st_dup rfl rfl ?_
        refine st_gI rfl (by first | exact tT hM1 rfl | assumption | exact rw_T hM1 (by assumption) | exact rw_A hM1 (by assumption)) ?_
        -- at 84: stop
        refine wp_e (y := nI done.length) (by rw [gI_ne (Or.inl (by decide))]; exact hr.1) ?_
        refine st_k rfl ?_
        refine st_ib rfl ?_
        refine st_pI rfl (by first | exact tT hM1 rfl | assumption | exact rw_T hM1 (by assumption) | exact rw_A hM1 (by assumption)) ?_
        refine st_ild rfl rfl ?_
        refine st_ild rfl rfl ?_
        refine st_k rfl ?_
        -- at 93: stop
        rw [e5]
        refine st_b2 rfl (fun g => ?_) (fun g => ?_)
        · have hst2 : st = 2 := by
            rcases hst with z | z
            · exact absurd (htwo.mpr z) g
            · exact z
          refine st_k rfl ?_
          refine st_ib rfl ?_
          refine st_ist rfl ?_
          refine st_go rfl ?_
          -- at 7: stop
          exact wp_le ms_199 (lc (lc (ln l0))) (fin _ (by rw [nI_1]) _ (by rw [hst2]; exact nI_add i 2))
        · have hst1 : st = 1 := htwo.mp (Decidable.not_not.mp g)
          refine st_k rfl ?_
          refine st_go rfl ?_
          refine st_ib rfl ?_
          refine st_ist rfl ?_
          refine st_go rfl ?_
          -- at 7: stop
          exact wp_le ms_199 (lc (lc (ln l0))) (fin _ (by rw [nI_1]) _ (by rw [hst1]; exact nI_1 i))
      have one : rd c (ws.drop i) = cf_sg c (ws.getD i 0) :: rd c (ws.drop (i + 1)) → pm_WP (pm_call (d + 1)) tb_199 (fun r M' => r = none ∧ Sr M' (rd c ws) ∧ Msc M M' ∧ (∀ k i, ¬ (k = 132 ∧ i = 31) → k ≠ 148 → gI M' k i = gI M k i)) 48 [some (.ref 132), some (.int (nI i)), none] [.int (-9)] M1 := by
        intro e
        refine st_ist rfl ?_
        refine st_ald rfl rfl ?_
        refine st_gR' rfl (by first | exact tT hM1 rfl | assumption | exact rw_T hM1 (by assumption) | exact rw_A hM1 (by assumption)) (by first | exact rR hM1 rfl rfl | assumption | exact rw_R hM1 (by assumption)) ?_
        refine st_ald rfl rfl ?_
        refine st_gI rfl (by first | exact tT hM1 rfl | assumption | exact rw_T hM1 (by assumption) | exact rw_A hM1 (by assumption)) ?_
        -- at 57: stop
        refine wp_e hr.1 ?_
        refine st_ild rfl rfl ?_
        refine st_k rfl ?_
        refine st_b2 rfl (fun zq => absurd zq ((fun z => z rfl))) (fun _ => ?_)
        refine st_ald rfl rfl ?_
        refine st_gR' rfl (by first | exact tT hM1 rfl | assumption | exact rw_T hM1 (by assumption) | exact rw_A hM1 (by assumption)) (by first | exact rR hM1 rfl rfl | assumption | exact rw_R hM1 (by assumption)) ?_
        refine st_ald rfl rfl ?_
        refine st_gR' rfl (by first | exact tT hM1 rfl | assumption | exact rw_T hM1 (by assumption) | exact rw_A hM1 (by assumption)) (by first | exact rR hM1 rfl rfl | assumption | exact rw_R hM1 (by assumption)) ?_
        refine st_ild rfl rfl ?_
        refine st_iald rfl (by first | exact tT hM1 rfl | assumption | exact rw_T hM1 (by assumption) | exact rw_A hM1 (by assumption)) (by first | decide | assumption | exact vp_in_nI (by omega) (by decide)) ?_
        -- at 73: stop
        refine wp_e hat ?_
        refine st_iald rfl (by first | exact tT hM1 rfl | assumption | exact rw_T hM1 (by assumption) | exact rw_A hM1 (by assumption)) (by first | decide | assumption | exact vp_in_nI (by omega) (by decide)) ?_
        -- at 74: stop
        refine wp_e hsg ?_
        refine st_go rfl ?_
        -- at 78: stop
        exact put _ 1 (-9) _ rfl (by decide) (Or.inl rfl) (by omega) e
      refine st_ild rfl rfl ?_
      refine st_ald rfl rfl ?_
      refine st_gI rfl (by first | exact tT hM1 rfl | assumption | exact rw_T hM1 (by assumption) | exact rw_A hM1 (by assumption)) ?_
      refine st_b2 rfl (fun zq => absurd zq (q)) (fun _ => ?_)
      refine st_ild rfl rfl ?_
      refine st_ald rfl rfl ?_
      refine st_gI rfl (by first | exact tT hM1 rfl | assumption | exact rw_T hM1 (by assumption) | exact rw_A hM1 (by assumption)) ?_
      -- at 20: stop
      refine wp_e h29 ?_
      refine st_k rfl ?_
      refine st_ib rfl ?_
      -- at 22: stop
      refine wp_e (nI_p1 (by omega)) ?_
      refine st_b2 rfl (fun hb => ?_) (fun hb => ?_)
      · have hb2 := (nI_leI (by omega) (by omega)).mp hb
        refine st_k rfl ?_
        -- at 48: stop
        refine one ?_
        rw [rd_drop1 (by omega), List.drop_eq_nil_of_le (by omega)]
        rfl
      · have hb2 : i + 1 < ws.length := by
          have : ¬ ws.length - 1 ≤ i := fun z => hb ((nI_leI (by omega) (by omega)).mpr z)
          omega
        have hkb := kn_getD hk hb2
        have ep : nI i + 1 = nI (i + 1) := nI_1 i
        have hin2 : vp_in (nI i + 1) 24 := by rw [ep]; exact vp_in_nI (by omega) (by decide)
        have hat2 : gI M1 147 (nI i + 1).toNatClampNeg = nI (ws.getD (i + 1) 0) := by rw [ep, nI_clamp (by omega), hf 147 (i + 1) (by omega) (by omega)]; exact h.2.2 (i + 1) hb2
        have e2 := rd_drop2 (c := c) hb2
        refine st_ald rfl rfl ?_
        refine st_ald rfl rfl ?_
        refine st_gR' rfl (by first | exact tT hM1 rfl | assumption | exact rw_T hM1 (by assumption) | exact rw_A hM1 (by assumption)) (by first | exact rR hM1 rfl rfl | assumption | exact rw_R hM1 (by assumption)) ?_
        refine st_ild rfl rfl ?_
        refine st_iald rfl (by first | exact tT hM1 rfl | assumption | exact rw_T hM1 (by assumption) | exact rw_A hM1 (by assumption)) (by first | decide | assumption | exact vp_in_nI (by omega) (by decide)) ?_
        -- at 32: stop
        refine wp_e hat ?_
        refine st_ald rfl rfl ?_
        refine st_gR' rfl (by first | exact tT hM1 rfl | assumption | exact rw_T hM1 (by assumption) | exact rw_A hM1 (by assumption)) (by first | exact rR hM1 rfl rfl | assumption | exact rw_R hM1 (by assumption)) ?_
        refine st_ild rfl rfl ?_
        refine st_k rfl ?_
        refine st_ib rfl ?_
        refine st_iald rfl (by first | exact tT hM1 rfl | assumption | exact rw_T hM1 (by assumption) | exact rw_A hM1 (by assumption)) (hin2) ?_
        -- at 40: stop
        refine wp_e hat2 ?_
        refine st_cav (As := [_, _]) rfl rfl rfl (by first | exact tT hM1 rfl | assumption | exact rw_T hM1 (by assumption) | exact rw_A hM1 (by assumption)) (Nat.le_of_ble_eq_true rfl) (m_pairSign d hM1 hw hc1 hka hkb) ?_
        refine st_go rfl ?_
        -- at 48: stop
        cases e : pr c (ws.getD i 0) (ws.getD (i + 1) 0) with
        | none =>
          rw [e] at e2
          exact one e2
        | some s =>
          rw [e] at e2
          have hne : ¬ n32 (some s) = -9 := by
            rw [← e]
            exact fun z => by rw [(n32_none hw).mp z] at e; cases e
          refine st_ist rfl ?_
          refine st_ald rfl rfl ?_
          refine st_gR' rfl (by first | exact tT hM1 rfl | assumption | exact rw_T hM1 (by assumption) | exact rw_A hM1 (by assumption)) (by first | exact rR hM1 rfl rfl | assumption | exact rw_R hM1 (by assumption)) ?_
          refine st_ald rfl rfl ?_
          refine st_gI rfl (by first | exact tT hM1 rfl | assumption | exact rw_T hM1 (by assumption) | exact rw_A hM1 (by assumption)) ?_
          -- at 57: stop
          refine wp_e hr.1 ?_
          refine st_ild rfl rfl ?_
          refine st_k rfl ?_
          refine st_b2 rfl (fun _ => ?_) (fun zq => absurd (hne) zq)
          refine st_ild rfl rfl ?_
          -- at 78: stop
          exact put s 2 (n32 (some s)) _ rfl ⟨fun z => absurd z hne, fun z => by omega⟩ (Or.inr rfl) (by omega) e2
  obtain ⟨r, M', hcc, hr, h5, h6, h7⟩ := eq_199 (d := d + 1) (A := [.ref 132]) (M := M) (Q := fun r M' => r = none ∧ Sr M' (rd c ws) ∧ Msc M M' ∧ (∀ k i, ¬ (k = 132 ∧ i = 31) → k ≠ 148 → gI M' k i = gI M k i)) (Nat.le_of_ble_eq_true rfl) (by
    refine st_ald rfl rfl ?_
    refine st_k rfl ?_
    refine st_pI rfl (by first | exact tT hM rfl | assumption | exact rw_T hM (by assumption) | exact rw_A hM (by assumption)) ?_
    refine st_k rfl ?_
    refine st_ist rfl ?_
    -- at 7: stop
    exact loop ws.length 0 0 _ [] rfl (by omega) (by omega) ((Msc.rf M).sI _ (by omega)) (fun k j z1 z2 => gI_nn z1) ⟨gI_same _ _ _ _, by decide, fun i hi => by simp at hi⟩ (by simp))
  subst hr
  exact ⟨M', hcc, h5, h6, h7⟩
end MOF

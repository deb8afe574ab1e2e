/-! THE REFERENCE: what it holds of a craft; its small methods -/
def MC (c : Cf) (M : pm_M) : Prop :=
  (gI M 132 9 = nI (cf_len c) ∧ gI M 132 10 = nI (cf_gir c) ∧ gI M 132 11 = nI (cf_n c) ∧ gI M 132 15 = nI (cf_nl c) ∧ gI M 132 17 = nI (cf_np c)) ∧
  (∀ k, k < cf_n c → gI M 139 k = nI (cf_kd c k) ∧ gI M 140 k = nI (cf_sz c k) ∧ gI M 141 k = nI (cf_sg c k) ∧ gI M 142 k = nI (cf_br c k)) ∧
  (∀ i, i < cf_np c → gI M 143 (3 * i) = nI (cf_p1 c i) ∧ gI M 143 (3 * i + 1) = nI (cf_p2 c i) ∧ gI M 143 (3 * i + 2) = nI (cf_ps c i))
/-- MC rests on these places alone -/
theorem MC.moved {c : Cf} {M M' : pm_M} (h : MC c M) (h1 : ∀ i, (i = 9 ∨ i = 10 ∨ i = 11 ∨ i = 15 ∨ i = 17) → gI M' 132 i = gI M 132 i) (h2 : ∀ k, (139 ≤ k ∧ k ≤ 143) → ∀ i, gI M' k i = gI M k i) : MC c M' := by
  unfold MC
  rw [h1 9 (by simp), h1 10 (by simp), h1 11 (by simp), h1 15 (by simp), h1 17 (by simp)]
  simp only [h2 139 (by decide), h2 140 (by decide), h2 141 (by decide), h2 142 (by decide), h2 143 (by decide)]
  exact h
def l32 (last : Nat) : Int32 := if last < 6 then nI last else -1
def n32 (s : Option Nat) : Int32 := match s with
  | none => -9
  | some s => nI s
/-- the row 'look' holds ws -/
def Lk (M : pm_M) (ws : List Nat) : Prop := gI M 132 29 = nI ws.length ∧ ws.length ≤ 24 ∧ ∀ i, i < ws.length → gI M 147 i = nI (ws.getD i 0)
section MOD
variable {M : pm_M} {c : Cf}
theorem m_in (d : Nat) (v lo hi : Int32) : pm_call (d + 1) 151 [.int v, .int lo, .int hi] M (some (.int (if ¬ v < lo ∧ ¬ hi < v then 1 else 0))) M := by
  refine en_151 (Nat.le_of_ble_eq_true rfl) ?_
  refine st_ild rfl rfl ?_
  refine st_ild rfl rfl ?_
  refine st_b2 rfl (fun h1 => ?_) (fun h1 => ?_)
  -- at 2: split 14 5
  · refine st_k rfl ?_
    -- at 15: op_zret
    exact st_zret rfl (by decide) ⟨by rw [if_neg (fun q => q.1 h1)], rfl⟩
  · refine st_ild rfl rfl ?_
    refine st_ild rfl rfl ?_
    refine st_b2 rfl (fun h2 => ?_) (fun h2 => ?_)
    -- at 7: split 14 10
    · refine st_k rfl ?_
      -- at 15: op_zret
      exact st_zret rfl (by decide) ⟨by rw [if_neg (fun q => q.2 h2)], rfl⟩
    · refine st_k rfl ?_
      refine st_go rfl ?_
      -- at 15: op_zret
      exact st_zret rfl (by decide) ⟨by rw [if_pos ⟨h1, h2⟩], rfl⟩
theorem m_has (d : Nat) (s k : Int32) : pm_call (d + 1) 152 [.int s, .int k] M (some (.int (if (s >>> (k &&& 31)) &&& 1 = 1 then 1 else 0))) M := by
  refine en_152 (Nat.le_of_ble_eq_true rfl) ?_
  refine st_ild rfl rfl ?_
  refine st_ild rfl rfl ?_
  refine st_ib rfl ?_
  refine st_k rfl ?_
  refine st_ib rfl ?_
  refine st_k rfl ?_
  refine st_b2 rfl (fun h1 => ?_) (fun h1 => ?_)
  -- at 6: split 13 9
  · refine st_k rfl ?_
    -- at 14: op_zret
    exact st_zret rfl (by decide) ⟨by rw [if_neg h1], rfl⟩
  · refine st_k rfl ?_
    refine st_go rfl ?_
    -- at 14: op_zret
    exact st_zret rfl (by decide) ⟨by rw [if_pos (Decidable.not_not.mp h1)], rfl⟩
theorem m_lesser (d : Nat) (a b : Int32) : pm_call (d + 1) 153 [.int a, .int b] M (some (.int (if a < b then a else b))) M := by
  refine en_153 (Nat.le_of_ble_eq_true rfl) ?_
  refine st_ild rfl rfl ?_
  refine st_ild rfl rfl ?_
  refine st_b2 rfl (fun h1 => ?_) (fun h1 => ?_)
  -- at 2: split 9 5
  · refine st_ild rfl rfl ?_
    -- at 10: op_iret
    exact st_iret rfl ⟨by rw [if_neg (Int32.not_lt.mpr h1)], rfl⟩
  · refine st_ild rfl rfl ?_
    refine st_go rfl ?_
    -- at 10: op_iret
    exact st_iret rfl ⟨by rw [if_pos (Int32.not_le.mp h1)], rfl⟩
theorem m_tells (d : Nat) (hM : pm_ok M) (v a : Int32) : pm_call (d + 1) 157 [.ref 132, .int v, .int a] M (some (.int a)) (sI M 132 2 v) := by
  refine en_157 (Nat.le_of_ble_eq_true rfl) ?_
  refine st_ald rfl rfl ?_
  refine st_ild rfl rfl ?_
  refine st_pI rfl (by first | exact tT hM rfl | assumption | exact rw_T hM (by assumption) | exact rw_A hM (by assumption)) ?_
  refine st_ild rfl rfl ?_
  -- at 6: op_iret
  exact st_iret rfl ⟨rfl, rfl⟩
theorem m_meets (d : Nat) (hM : pm_ok M) {f : Nat} (hf : f < 6) : pm_call (d + 1) 154 [.ref 132, .int (nI f)] M (some (.int (-3))) (sI (sI M 132 0 (nI f)) 133 f (gI M 133 f + 1)) := by
  refine en_154 (Nat.le_of_ble_eq_true rfl) ?_
  have hin : vp_in (nI f) 6 := vp_in_nI hf (by decide)
  have e : (nI f).toNatClampNeg = f := nI_clamp (by omega)
  refine st_ald rfl rfl ?_
  refine st_ild rfl rfl ?_
  refine st_pI rfl (by first | exact tT hM rfl | assumption | exact rw_T hM (by assumption) | exact rw_A hM (by assumption)) ?_
  refine st_ald rfl rfl ?_
  refine st_gR' rfl (by first | exact tT hM rfl | assumption | exact rw_T hM (by assumption) | exact rw_A hM (by assumption)) (by first | exact rR hM rfl rfl | assumption | exact rw_R hM (by assumption)) ?_
  refine st_ild rfl rfl ?_
  refine st_dup2 rfl rfl rfl ?_
  refine st_iald rfl (by first | exact tT hM rfl | assumption | exact rw_T hM (by assumption) | exact rw_A hM (by assumption)) (by first | decide | assumption | exact vp_in_nI (by omega) (by decide)) ?_
  refine st_k rfl ?_
  refine st_ib rfl ?_
  refine st_iast rfl (by first | exact tT hM rfl | assumption | exact rw_T hM (by assumption) | exact rw_A hM (by assumption)) (by first | decide | assumption | exact vp_in_nI (by omega) (by decide)) ?_
  refine st_k rfl ?_
  -- at 17: op_iret
  refine st_iret rfl ⟨rfl, ?_⟩
  rw [e]
  rfl
theorem m_isRow (d : Nat) (r : Int32) : pm_call (d + 2) 160 [.int r] M (some (.int (if ¬ r < 0 ∧ ¬ 5 < r then 1 else 0))) M := by
  refine en_160 (Nat.le_of_ble_eq_true rfl) ?_
  refine st_ild rfl rfl ?_
  refine st_k rfl ?_
  refine st_k rfl ?_
  refine st_call (As := [_, _, _]) rfl rfl rfl (Nat.le_of_ble_eq_true rfl) (m_in d r 0 5) ?_
  -- at 6: op_zret
  exact st_zret rfl (by split <;> rfl) ⟨rfl, rfl⟩
theorem m_isText (d : Nat) (r : Int32) : pm_call (d + 2) 168 [.int r] M (some (.int (if ¬ r < 0 ∧ ¬ 3 < r then 1 else 0))) M := by
  refine en_168 (Nat.le_of_ble_eq_true rfl) ?_
  refine st_ild rfl rfl ?_
  refine st_k rfl ?_
  refine st_k rfl ?_
  refine st_call (As := [_, _, _]) rfl rfl rfl (Nat.le_of_ble_eq_true rfl) (m_in d r 0 3) ?_
  -- at 6: op_zret
  exact st_zret rfl (by split <;> rfl) ⟨rfl, rfl⟩
theorem m_rowAt (d : Nat) (hM : pm_ok M) {r i : Nat} (hr : r < 6) (hi : i < 40) : pm_call (d + 1) 161 [.ref 132, .int (nI r), .int (nI i)] M (some (.int (gI M 135 (40 * r + i)))) M := by
  refine en_161 (Nat.le_of_ble_eq_true rfl) ?_
  have e : 40 * nI r + nI i = nI (40 * r + i) := by show nI 40 * nI r + nI i = _; rw [pk_mul, nI_add]
  have hin : vp_in (40 * nI r + nI i) 240 := by rw [e]; exact vp_in_nI (by omega) (by decide)
  refine st_ald rfl rfl ?_
  refine st_gR' rfl (by first | exact tT hM rfl | assumption | exact rw_T hM (by assumption) | exact rw_A hM (by assumption)) (by first | exact rR hM rfl rfl | assumption | exact rw_R hM (by assumption)) ?_
  refine st_k rfl ?_
  refine st_ild rfl rfl ?_
  refine st_ib rfl ?_
  refine st_ild rfl rfl ?_
  refine st_ib rfl ?_
  refine st_iald rfl (by first | exact tT hM rfl | assumption | exact rw_T hM (by assumption) | exact rw_A hM (by assumption)) (by first | decide | assumption | exact vp_in_nI (by omega) (by decide)) ?_
  -- at 11: op_iret
  refine st_iret rfl ⟨?_, rfl⟩
  rw [e, nI_clamp (by omega)]
theorem m_isLoop (d : Nat) (hM : pm_ok M) (hw : cf_wf c) (hc : MC c M) {k : Nat} (hk : k < cf_n c) : pm_call (d + 1) 184 [.ref 132, .int (nI k)] M (some (.int (if cf_kd c k = 1 ∨ cf_kd c k = 3 then 1 else 0))) M := by
  refine en_184 (Nat.le_of_ble_eq_true rfl) ?_
  have hin := in6 hw hk
  have hkd := (hw.2.2.2.2.2.1 k hk).1
  have e : gI M 139 (nI k).toNatClampNeg = nI (cf_kd c k) := by rw [cl6 hw hk]; exact (hc.2.1 k hk).1
  have n1 : nI (cf_kd c k) = 1 ↔ cf_kd c k = 1 := nI_eq (a := cf_kd c k) (b := 1) (by omega) (by decide)
  have n3 : nI (cf_kd c k) = 3 ↔ cf_kd c k = 3 := nI_eq (a := cf_kd c k) (b := 3) (by omega) (by decide)
  refine st_ald rfl rfl ?_
  refine st_gR' rfl (by first | exact tT hM rfl | assumption | exact rw_T hM (by assumption) | exact rw_A hM (by assumption)) (by first | exact rR hM rfl rfl | assumption | exact rw_R hM (by assumption)) ?_
  refine st_ild rfl rfl ?_
  refine st_iald rfl (by first | exact tT hM rfl | assumption | exact rw_T hM (by assumption) | exact rw_A hM (by assumption)) (by first | decide | assumption | exact vp_in_nI (by omega) (by decide)) ?_
  -- at 6: stop
  refine wp_e e ?_
  refine st_k rfl ?_
  refine st_b2 rfl (fun h1 => ?_) (fun h1 => ?_)
  -- at 7: split 20 10
  · refine st_k rfl ?_
    refine st_go rfl ?_
    -- at 25: op_zret
    exact st_zret rfl (by decide) ⟨by rw [if_pos (Or.inl (n1.mp h1))], rfl⟩
  · refine st_ald rfl rfl ?_
    refine st_gR' rfl (by first | exact tT hM rfl | assumption | exact rw_T hM (by assumption) | exact rw_A hM (by assumption)) (by first | exact rR hM rfl rfl | assumption | exact rw_R hM (by assumption)) ?_
    refine st_ild rfl rfl ?_
    refine st_iald rfl (by first | exact tT hM rfl | assumption | exact rw_T hM (by assumption) | exact rw_A hM (by assumption)) (by first | decide | assumption | exact vp_in_nI (by omega) (by decide)) ?_
    -- at 16: stop
    refine wp_e e ?_
    refine st_k rfl ?_
    refine st_b2 rfl (fun h3 => ?_) (fun h3 => ?_)
    -- at 17: split 24 20
    · refine st_k rfl ?_
      -- at 25: op_zret
      exact st_zret rfl (by decide) ⟨by rw [if_neg (fun z => z.elim (fun z => h1 (n1.mpr z)) (fun z => h3 (n3.mpr z)))], rfl⟩
    · refine st_k rfl ?_
      refine st_go rfl ?_
      -- at 25: op_zret
      exact st_zret rfl (by decide) ⟨by rw [if_pos (Or.inr (n3.mp (Decidable.not_not.mp h3)))], rfl⟩
theorem m_isBend (d : Nat) (hM : pm_ok M) (hw : cf_wf c) (hc : MC c M) {k : Nat} (hk : lst c k) : pm_call (d + 1) 183 [.ref 132, .int (l32 k)] M (some (.int (if k < 6 ∧ bnd c k then 1 else 0))) M := by
  refine en_183 (Nat.le_of_ble_eq_true rfl) ?_
  rcases hk with hk | hk
  · have h6 : k < 6 := by have := hw.1; omega
    have hin := in6 hw hk
    have hkd := (hw.2.2.2.2.2.1 k hk).1
    have e : gI M 139 (nI k).toNatClampNeg = nI (cf_kd c k) := by rw [cl6 hw hk]; exact (hc.2.1 k hk).1
    have n2 : nI (cf_kd c k) = 2 ↔ cf_kd c k = 2 := nI_eq (a := cf_kd c k) (b := 2) (by omega) (by decide)
    have n4 : nI (cf_kd c k) = 4 ↔ cf_kd c k = 4 := nI_eq (a := cf_kd c k) (b := 4) (by omega) (by decide)
    rw [show l32 k = nI k by unfold l32; rw [if_pos h6]]
    have hp : ¬ nI k < 0 := nI_pos (by omega)
    refine st_ild rfl rfl ?_
    refine st_b1 rfl (fun zq => absurd zq (hp)) (fun _ => ?_)
    refine st_ald rfl rfl ?_
    refine st_gR' rfl (by first | exact tT hM rfl | assumption | exact rw_T hM (by assumption) | exact rw_A hM (by assumption)) (by first | exact rR hM rfl rfl | assumption | exact rw_R hM (by assumption)) ?_
    refine st_ild rfl rfl ?_
    refine st_iald rfl (by first | exact tT hM rfl | assumption | exact rw_T hM (by assumption) | exact rw_A hM (by assumption)) (by first | decide | assumption | exact vp_in_nI (by omega) (by decide)) ?_
    -- at 10: stop
    refine wp_e e ?_
    refine st_k rfl ?_
    refine st_b2 rfl (fun h1 => ?_) (fun h1 => ?_)
    -- at 11: split 24 14
    · refine st_k rfl ?_
      refine st_go rfl ?_
      -- at 29: op_zret
      exact st_zret rfl (by decide) ⟨by rw [if_pos ⟨h6, Or.inl (n2.mp h1)⟩], rfl⟩
    · refine st_ald rfl rfl ?_
      refine st_gR' rfl (by first | exact tT hM rfl | assumption | exact rw_T hM (by assumption) | exact rw_A hM (by assumption)) (by first | exact rR hM rfl rfl | assumption | exact rw_R hM (by assumption)) ?_
      refine st_ild rfl rfl ?_
      refine st_iald rfl (by first | exact tT hM rfl | assumption | exact rw_T hM (by assumption) | exact rw_A hM (by assumption)) (by first | decide | assumption | exact vp_in_nI (by omega) (by decide)) ?_
      -- at 20: stop
      refine wp_e e ?_
      refine st_k rfl ?_
      refine st_b2 rfl (fun h3 => ?_) (fun h3 => ?_)
      -- at 21: split 28 24
      · refine st_k rfl ?_
        -- at 29: op_zret
        exact st_zret rfl (by decide) ⟨by rw [if_neg (fun z => z.2.elim (fun z => h1 (n2.mpr z)) (fun z => h3 (n4.mpr z)))], rfl⟩
      · refine st_k rfl ?_
        refine st_go rfl ?_
        -- at 29: op_zret
        exact st_zret rfl (by decide) ⟨by rw [if_pos ⟨h6, Or.inr (n4.mp (Decidable.not_not.mp h3))⟩], rfl⟩
  · subst hk
    have hp : (l32 6) < 0 := by decide
    refine st_ild rfl rfl ?_
    refine st_b1 rfl (fun _ => ?_) (fun zq => absurd (hp) zq)
    refine st_k rfl ?_
    -- at 29: op_zret
    exact st_zret rfl (by decide) ⟨by rw [if_neg (fun z => by have := z.1; omega)], rfl⟩
theorem lk_l32 {c : Cf} (hw : cf_wf c) {k : Nat} (hk : k < cf_n c) : l32 k = nI k := by unfold l32; rw [if_pos (by have := hw.1; omega)]
theorem m_takeOf (d : Nat) (hM : pm_ok M) (hw : cf_wf c) (hc : MC c M) {last k : Nat} (hl : lst c last) (hk : k < cf_n c) : pm_call (d + 2) 185 [.ref 132, .int (l32 last), .int (nI k)] M (some (.int (nI (tk c last k)))) M := by
  refine en_185 (Nat.le_of_ble_eq_true rfl) ?_
  have hin := in6 hw hk
  have h6 : k < 6 := by have := hw.1; omega
  have hsz := (hw.2.2.2.2.2.1 k hk)
  have e : gI M 140 (nI k).toNatClampNeg = nI (cf_sz c k) := by rw [cl6 hw hk]; exact (hc.2.1 k hk).2.1
  have hb := m_isBend d hM hw hc (Or.inl hk)
  rw [lk_l32 hw hk] at hb
  refine st_ald rfl rfl ?_
  refine st_ild rfl rfl ?_
  refine st_cav (As := [_]) rfl rfl rfl (by first | exact tT hM rfl | assumption | exact rw_T hM (by assumption) | exact rw_A hM (by assumption)) (Nat.le_of_ble_eq_true rfl) (m_isLoop d hM hw hc hk) ?_
  refine st_b1 rfl (fun h1 => ?_) (fun h1 => ?_)
  -- at 5: split 19 8
  · have g : ¬ (cf_kd c k = 1 ∨ cf_kd c k = 3) := fun z => b01_t z h1
    have plain : ¬ (last < 6 ∧ bnd c k ∧ bnd c last) → pm_WP (pm_call (d + 1)) tb_185 (fun r0 M1 => r0 = some (.int (nI (tk c last k))) ∧ M1 = M) 46 [some (.ref 132), some (.int (l32 last)), some (.int (nI k))] [] M := by
      intro z
      refine st_ald rfl rfl ?_
      refine st_gR' rfl (by first | exact tT hM rfl | assumption | exact rw_T hM (by assumption) | exact rw_A hM (by assumption)) (by first | exact rR hM rfl rfl | assumption | exact rw_R hM (by assumption)) ?_
      refine st_ild rfl rfl ?_
      refine st_iald rfl (by first | exact tT hM rfl | assumption | exact rw_T hM (by assumption) | exact rw_A hM (by assumption)) (by first | decide | assumption | exact vp_in_nI (by omega) (by decide)) ?_
      -- at 52: op_iret
      refine wp_e e ?_
      exact st_iret rfl ⟨by unfold tk alo; rw [if_neg z, if_neg g], rfl⟩
    refine st_ald rfl rfl ?_
    refine st_ild rfl rfl ?_
    refine st_cav (As := [_]) rfl rfl rfl (by first | exact tT hM rfl | assumption | exact rw_T hM (by assumption) | exact rw_A hM (by assumption)) (Nat.le_of_ble_eq_true rfl) (hb) ?_
    refine st_b1 rfl (fun h2 => ?_) (fun h2 => ?_)
    -- at 24: split 46 27
    · exact plain (fun z => b01_t ⟨h6, z.2.1⟩ h2)
    · have g2 := Decidable.not_not.mp (fun z => h2 (b01_f z))
      refine st_ald rfl rfl ?_
      refine st_ild rfl rfl ?_
      refine st_cav (As := [_]) rfl rfl rfl (by first | exact tT hM rfl | assumption | exact rw_T hM (by assumption) | exact rw_A hM (by assumption)) (Nat.le_of_ble_eq_true rfl) (m_isBend d hM hw hc hl) ?_
      refine st_b1 rfl (fun h3 => ?_) (fun h3 => ?_)
      -- at 32: split 46 35
      · exact plain (fun z => b01_t ⟨z.1, z.2.2⟩ h3)
      · have g3 := Decidable.not_not.mp (fun z => h3 (b01_f z))
        refine st_ald rfl rfl ?_
        refine st_gR' rfl (by first | exact tT hM rfl | assumption | exact rw_T hM (by assumption) | exact rw_A hM (by assumption)) (by first | exact rR hM rfl rfl | assumption | exact rw_R hM (by assumption)) ?_
        refine st_ild rfl rfl ?_
        refine st_iald rfl (by first | exact tT hM rfl | assumption | exact rw_T hM (by assumption) | exact rw_A hM (by assumption)) (by first | decide | assumption | exact vp_in_nI (by omega) (by decide)) ?_
        -- at 41: stop
        refine wp_e e ?_
        refine st_k rfl ?_
        refine st_ib rfl ?_
        refine st_go rfl ?_
        -- at 52: op_iret
        refine st_iret rfl ⟨?_, rfl⟩
        unfold tk alo
        rw [if_pos ⟨g3.1, g2.2, g3.2⟩, if_neg g]
        exact congrArg (fun z => some (Value.int z)) (pk_sub (a := cf_sz c k) (b := 1) (by omega))
  · have g : cf_kd c k = 1 ∨ cf_kd c k = 3 := Decidable.not_not.mp (fun z => h1 (b01_f z))
    refine st_k rfl ?_
    refine st_ald rfl rfl ?_
    refine st_gR' rfl (by first | exact tT hM rfl | assumption | exact rw_T hM (by assumption) | exact rw_A hM (by assumption)) (by first | exact rR hM rfl rfl | assumption | exact rw_R hM (by assumption)) ?_
    refine st_ild rfl rfl ?_
    refine st_iald rfl (by first | exact tT hM rfl | assumption | exact rw_T hM (by assumption) | exact rw_A hM (by assumption)) (by first | decide | assumption | exact vp_in_nI (by omega) (by decide)) ?_
    -- at 15: stop
    refine wp_e e ?_
    refine st_ib rfl ?_
    refine st_go rfl ?_
    -- at 52: op_iret
    refine st_iret rfl ⟨?_, rfl⟩
    have nb : ¬ bnd c k := fun z => by rcases z with z | z <;> omega
    unfold tk alo
    rw [if_neg (fun z => nb z.2.1), if_pos g]
    show some (Value.int (nI 2 * nI _)) = _
    rw [pk_mul]
theorem m_endOf (d : Nat) (hM : pm_ok M) (hw : cf_wf c) (hc : MC c M) {last : Nat} (hl : lst c last) : pm_call (d + 1) 186 [.ref 132, .int (l32 last)] M (some (.int (nI (em c last)))) M := by
  refine en_186 (Nat.le_of_ble_eq_true rfl) ?_
  rcases hl with hk | hk
  · have h6 : last < 6 := by have := hw.1; omega
    have hin := in6 hw hk
    have hkd := (hw.2.2.2.2.2.1 last hk).1
    have e : gI M 139 (nI last).toNatClampNeg = nI (cf_kd c last) := by rw [cl6 hw hk]; exact (hc.2.1 last hk).1
    have n3 : nI (cf_kd c last) = 3 ↔ cf_kd c last = 3 := nI_eq (a := cf_kd c last) (b := 3) (by omega) (by decide)
    rw [lk_l32 hw hk]
    have hp : ¬ nI last < 0 := nI_pos (by omega)
    refine st_ild rfl rfl ?_
    refine st_b1 rfl (fun zq => absurd zq (hp)) (fun _ => ?_)
    refine st_ald rfl rfl ?_
    refine st_gR' rfl (by first | exact tT hM rfl | assumption | exact rw_T hM (by assumption) | exact rw_A hM (by assumption)) (by first | exact rR hM rfl rfl | assumption | exact rw_R hM (by assumption)) ?_
    refine st_ild rfl rfl ?_
    refine st_iald rfl (by first | exact tT hM rfl | assumption | exact rw_T hM (by assumption) | exact rw_A hM (by assumption)) (by first | decide | assumption | exact vp_in_nI (by omega) (by decide)) ?_
    -- at 10: stop
    refine wp_e e ?_
    refine st_k rfl ?_
    refine st_b2 rfl (fun h1 => ?_) (fun h1 => ?_)
    -- at 11: split 18 14
    · refine st_k rfl ?_
      -- at 19: op_iret
      exact st_iret rfl ⟨by unfold em; rw [if_neg (fun z => h1 (n3.mpr z.2))]; rfl, rfl⟩
    · refine st_k rfl ?_
      refine st_go rfl ?_
      -- at 19: op_iret
      exact st_iret rfl ⟨by unfold em; rw [if_pos ⟨h6, n3.mp (Decidable.not_not.mp h1)⟩]; rfl, rfl⟩
  · subst hk
    have hp : (l32 6) < 0 := by decide
    refine st_ild rfl rfl ?_
    refine st_b1 rfl (fun _ => ?_) (fun zq => absurd (hp) zq)
    refine st_k rfl ?_
    -- at 19: op_iret
    exact st_iret rfl ⟨rfl, rfl⟩
theorem m_roomNow (d : Nat) (hM : pm_ok M) (hw : cf_wf c) (hc : MC c M) : pm_call (d + 1) 188 [.ref 132] M (some (.int (nI (cf_rm c)))) M := by
  refine en_188 (Nat.le_of_ble_eq_true rfl) ?_
  refine st_ald rfl rfl ?_
  refine st_gI rfl (by first | exact tT hM rfl | assumption | exact rw_T hM (by assumption) | exact rw_A hM (by assumption)) ?_
  refine st_ald rfl rfl ?_
  refine st_gI rfl (by first | exact tT hM rfl | assumption | exact rw_T hM (by assumption) | exact rw_A hM (by assumption)) ?_
  refine st_ib rfl ?_
  -- at 9: op_iret
  refine st_iret rfl ⟨?_, rfl⟩
  rw [hc.1.1, hc.1.2.1, pk_sub hw.2.1]
  rfl
theorem m_pairSign (d : Nat) (hM : pm_ok M) (hw : cf_wf c) (hc : MC c M) {a b : Nat} (ha : a < cf_n c) (hb : b < cf_n c) : pm_call (d + 1) 187 [.ref 132, .int (nI a), .int (nI b)] M (some (.int (n32 (pr c a b)))) M := by
  refine en_187 (Nat.le_of_ble_eq_true rfl) ?_
  have hina := in6 hw ha
  have hinb := in6 hw hb
  have hn := hw.1
  have hnp := hw.2.2.2.2.1
  have ka := (hw.2.2.2.2.2.1 a ha).1
  have kb := (hw.2.2.2.2.2.1 b hb).1
  have ea : gI M 139 (nI a).toNatClampNeg = nI (cf_kd c a) := by rw [cl6 hw ha]; exact (hc.2.1 a ha).1
  have eb : gI M 139 (nI b).toNatClampNeg = nI (cf_kd c b) := by rw [cl6 hw hb]; exact (hc.2.1 b hb).1
  have na : nI (cf_kd c a) = 4 ↔ cf_kd c a = 4 := nI_eq (a := cf_kd c a) (b := 4) (by omega) (by decide)
  have nb : nI (cf_kd c b) = 4 ↔ cf_kd c b = 4 := nI_eq (a := cf_kd c b) (b := 4) (by omega) (by decide)
  have no : (cf_kd c a = 4 ∨ cf_kd c b = 4) → pm_WP (pm_call d) tb_187 (fun r0 M1 => r0 = some (.int (n32 (pr c a b))) ∧ M1 = M) 20 [some (.ref 132), some (.int (nI a)), some (.int (nI b)), none] [] M := by
    intro z
    refine st_k rfl ?_
    -- at 22: op_iret
    exact st_iret rfl ⟨by unfold pr; rw [if_pos z]; rfl, rfl⟩
  have loop : ¬ (cf_kd c a = 4 ∨ cf_kd c b = 4) → ∀ n i x, x = nI i → i + n = cf_np c → prf c a b i = none → pm_WP (pm_call d) tb_187 (fun r0 M1 => r0 = some (.int (n32 (pr c a b))) ∧ M1 = M) 25 [some (.ref 132), some (.int (nI a)), some (.int (nI b)), some (.int x)] [] M := by
    intro z n
    have hpr : pr c a b = prf c a b (cf_np c) := by unfold pr; rw [if_neg z]
    induction n with
    | zero =>
      intro i x hx hi hp
      subst hx
      have q : gI M 132 17 ≤ nI i := by rw [hc.1.2.2.2.2]; exact nI_le (by omega) (by omega)
      refine st_ild rfl rfl ?_
      refine st_ald rfl rfl ?_
      refine st_gI rfl (by first | exact tT hM rfl | assumption | exact rw_T hM (by assumption) | exact rw_A hM (by assumption)) ?_
      refine st_b2 rfl (fun _ => ?_) (fun zq => absurd (q) zq)
      refine st_k rfl ?_
      -- at 78: op_iret
      exact st_iret rfl ⟨by rw [hpr, ← show i = cf_np c by omega, hp]; rfl, rfl⟩
    | succ n ih =>
      intro i x hx hi hp
      subst hx
      have q : ¬ gI M 132 17 ≤ nI i := by rw [hc.1.2.2.2.2]; exact nI_ge (by omega) (by omega)
      have hpi := hc.2.2 i (by omega)
      have hwi := hw.2.2.2.2.2.2 i (by omega)
      have e0 : 3 * nI i = nI (3 * i) := by show nI 3 * nI i = _; rw [pk_mul]
      have e1 : 3 * nI i + 1 = nI (3 * i + 1) := by rw [e0, nI_1]
      have e2 : 3 * nI i + 2 = nI (3 * i + 2) := by rw [e0]; exact nI_add (3 * i) 2
      have i0 : vp_in (3 * nI i) 18 := by rw [e0]; exact vp_in_nI (by omega) (by decide)
      have i1 : vp_in (3 * nI i + 1) 18 := by rw [e1]; exact vp_in_nI (by omega) (by decide)
      have i2 : vp_in (3 * nI i + 2) 18 := by rw [e2]; exact vp_in_nI (by omega) (by decide)
      have m1 : nI (cf_p1 c i) = nI a ↔ cf_p1 c i = a := nI_eq (by omega) (by omega)
      have m2 : nI (cf_p2 c i) = nI b ↔ cf_p2 c i = b := nI_eq (by omega) (by omega)
      have step : ¬ (cf_p1 c i = a ∧ cf_p2 c i = b) → prf c a b (i + 1) = none := by
        intro w
        unfold prf
        rw [hp]
        dsimp only
        rw [if_neg w]
      refine st_ild rfl rfl ?_
      refine st_ald rfl rfl ?_
      refine st_gI rfl (by first | exact tT hM rfl | assumption | exact rw_T hM (by assumption) | exact rw_A hM (by assumption)) ?_
      refine st_b2 rfl (fun zq => absurd zq (q)) (fun _ => ?_)
      refine st_ald rfl rfl ?_
      refine st_gR' rfl (by first | exact tT hM rfl | assumption | exact rw_T hM (by assumption) | exact rw_A hM (by assumption)) (by first | exact rR hM rfl rfl | assumption | exact rw_R hM (by assumption)) ?_
      refine st_k rfl ?_
      refine st_ild rfl rfl ?_
      refine st_ib rfl ?_
      refine st_iald rfl (by first | exact tT hM rfl | assumption | exact rw_T hM (by assumption) | exact rw_A hM (by assumption)) (by first | decide | assumption | exact vp_in_nI (by omega) (by decide)) ?_
      -- at 41: stop
      refine wp_e (y := nI (cf_p1 c i)) (by rw [e0, nI_clamp (by omega)]; exact hpi.1) ?_
      refine st_ild rfl rfl ?_
      refine st_b2 rfl (fun g1 => ?_) (fun g1 => ?_)
      -- at 42: split 70 45
      · refine st_inc rfl rfl ?_
        refine st_go rfl ?_
        -- at 25: stop
        exact ih (i + 1) _ (nI_1 i) (by omega) (step (fun w => g1 (m1.mpr w.1)))
      · have g1 := m1.mp (Decidable.not_not.mp g1)
        refine st_ald rfl rfl ?_
        refine st_gR' rfl (by first | exact tT hM rfl | assumption | exact rw_T hM (by assumption) | exact rw_A hM (by assumption)) (by first | exact rR hM rfl rfl | assumption | exact rw_R hM (by assumption)) ?_
        refine st_k rfl ?_
        refine st_ild rfl rfl ?_
        refine st_ib rfl ?_
        refine st_k rfl ?_
        refine st_ib rfl ?_
        refine st_iald rfl (by first | exact tT hM rfl | assumption | exact rw_T hM (by assumption) | exact rw_A hM (by assumption)) (by first | decide | assumption | exact vp_in_nI (by omega) (by decide)) ?_
        -- at 55: stop
        refine wp_e (y := nI (cf_p2 c i)) (by rw [e1, nI_clamp (by omega)]; exact hpi.2.1) ?_
        refine st_ild rfl rfl ?_
        refine st_b2 rfl (fun g2 => ?_) (fun g2 => ?_)
        -- at 56: split 70 59
        · refine st_inc rfl rfl ?_
          refine st_go rfl ?_
          -- at 25: stop
          exact ih (i + 1) _ (nI_1 i) (by omega) (step (fun w => g2 (m2.mpr w.2)))
        · have g2 := m2.mp (Decidable.not_not.mp g2)
          refine st_ald rfl rfl ?_
          refine st_gR' rfl (by first | exact tT hM rfl | assumption | exact rw_T hM (by assumption) | exact rw_A hM (by assumption)) (by first | exact rR hM rfl rfl | assumption | exact rw_R hM (by assumption)) ?_
          refine st_k rfl ?_
          refine st_ild rfl rfl ?_
          refine st_ib rfl ?_
          refine st_k rfl ?_
          refine st_ib rfl ?_
          refine st_iald rfl (by first | exact tT hM rfl | assumption | exact rw_T hM (by assumption) | exact rw_A hM (by assumption)) (by first | decide | assumption | exact vp_in_nI (by omega) (by decide)) ?_
          -- at 69: op_iret
          refine st_iret rfl ⟨?_, rfl⟩
          rw [e2, nI_clamp (by omega), hpi.2.2, hpr]
          have key : ∀ k, prf c a b (i + 1 + k) = some (cf_ps c i) := by
            intro k
            induction k with
            | zero =>
              show prf c a b (i + 1) = _
              unfold prf
              rw [hp]
              dsimp only
              rw [if_pos ⟨g1, g2⟩]
            | succ k ihk =>
              show prf c a b (i + 1 + k + 1) = _
              unfold prf
              rw [ihk]
          have := key (cf_np c - (i + 1))
          rw [show i + 1 + (cf_np c - (i + 1)) = cf_np c by omega] at this
          rw [this]
          rfl
  refine st_ald rfl rfl ?_
  refine st_gR' rfl (by first | exact tT hM rfl | assumption | exact rw_T hM (by assumption) | exact rw_A hM (by assumption)) (by first | exact rR hM rfl rfl | assumption | exact rw_R hM (by assumption)) ?_
  refine st_ild rfl rfl ?_
  refine st_iald rfl (by first | exact tT hM rfl | assumption | exact rw_T hM (by assumption) | exact rw_A hM (by assumption)) (by first | decide | assumption | exact vp_in_nI (by omega) (by decide)) ?_
  -- at 6: stop
  refine wp_e ea ?_
  refine st_k rfl ?_
  refine st_b2 rfl (fun h1 => ?_) (fun h1 => ?_)
  -- at 7: split 20 10
  · exact no (Or.inl (na.mp h1))
  · refine st_ald rfl rfl ?_
    refine st_gR' rfl (by first | exact tT hM rfl | assumption | exact rw_T hM (by assumption) | exact rw_A hM (by assumption)) (by first | exact rR hM rfl rfl | assumption | exact rw_R hM (by assumption)) ?_
    refine st_ild rfl rfl ?_
    refine st_iald rfl (by first | exact tT hM rfl | assumption | exact rw_T hM (by assumption) | exact rw_A hM (by assumption)) (by first | decide | assumption | exact vp_in_nI (by omega) (by decide)) ?_
    -- at 16: stop
    refine wp_e eb ?_
    refine st_k rfl ?_
    refine st_b2 rfl (fun h2 => ?_) (fun h2 => ?_)
    -- at 17: split 23 20
    · refine st_k rfl ?_
      refine st_ist rfl ?_
      -- at 25: stop
      exact loop (fun z => z.elim (fun z => h1 (na.mpr z)) (fun z => h2 (nb.mpr z))) (cf_np c) 0 0 rfl (by omega) rfl
    · exact no (Or.inr (nb.mp (Decidable.not_not.mp h2)))
end MOD

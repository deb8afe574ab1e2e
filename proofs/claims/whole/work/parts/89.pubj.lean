/-! BOTH ANSWER ALIKE: ropes, upTo, nth -/
/-- the reference's last (from -1 on) by its number -/
def lx (i : Nat) : Nat := if i = 0 then 6 else i - 1
theorem lx_32 : ∀ i, i < 7 → l32 (lx i) = nI i - 1 := by decide +kernel
theorem lx_lst {c : Cf} {i : Nat} (h : i ≤ cf_n c) : lst c (lx i) := by
  unfold lx
  split
  · exact Or.inr rfl
  · exact Or.inl (by omega)
def rst (c : Cf) (m last used : Nat) : Nat := if used ≤ cf_rm c then cnt c m last (cf_rm c - used) else 0
def rb (c : Cf) (m last used k : Nat) : Nat := if bar c last k = true then 0 else if 100 ≤ used + tk c last k then 0 else rst c m k (used + tk c last k)
theorem rb_fk {c : Cf} (hw : cf_wf c) {m last used k : Nat} (h : used ≤ cf_rm c) : rb c m last used k = fk c m last (cf_rm c - used) k := by
  have hrm := rm99 hw
  unfold rb fk rst
  by_cases g : bar c last k = true
  · rw [if_pos g, if_pos g]
  · rw [if_neg g, if_neg g]
    by_cases g2 : tk c last k ≤ cf_rm c - used
    · rw [if_pos g2, if_neg (by omega), if_pos (by omega)]
      congr 1
      omega
    · rw [if_neg g2]
      split
      · rfl
      · rw [if_neg (by omega)]
theorem rb_0 {c : Cf} {m last used k : Nat} (h : ¬ used ≤ cf_rm c) : rb c m last used k = 0 := by
  unfold rb rst
  split
  · rfl
  · split
    · rfl
    · rw [if_neg (by omega)]
theorem sk_cg {f g : Nat → Nat} : ∀ n, (∀ k, k < n → f k = g k) → sk f n = sk g n
  | 0, _ => rfl
  | n + 1, h => by rw [sk_s, sk_s, sk_cg n (fun k hk => h k (by omega)), h n (by omega)]
theorem sk_0 {f : Nat → Nat} : ∀ n, (∀ k, k < n → f k = 0) → sk f n = 0
  | 0, _ => rfl
  | n + 1, h => by rw [sk_s, sk_0 n (fun k hk => h k (by omega)), h n (by omega)]
theorem rst_s {c : Cf} (hw : cf_wf c) (m last used : Nat) : rst c (m + 1) last used = sk (rb c m last used) (cf_n c) := by
  by_cases g : used ≤ cf_rm c
  · unfold rst
    rw [if_pos g, cnt_fk]
    exact sk_cg _ (fun k _ => (rb_fk hw g).symm)
  · rw [sk_0 _ (fun k _ => rb_0 g)]
    unfold rst
    rw [if_neg g]
theorem rst_z (c : Cf) (m last : Nat) : rst c m last 0 = cnt c m last (cf_rm c) := by
  unfold rst
  rw [if_pos (Nat.zero_le _), Nat.sub_zero]
/-- what is laid of 'rest': before (more, i, used) -/
def RT (c : Cf) (m i u : Nat) (M : pm_M) : Prop := ∀ m' i' u', i' ≤ cf_n c → u' < 100 → (m' < m ∨ (m' = m ∧ (i' < i ∨ (i' = i ∧ u' < u)))) → gL M 154 ((m' * 7 + i') * 100 + u') = lN (rst c m' (lx i') u')
theorem RT.s {c : Cf} (hw : cf_wf c) {M : pm_M} {m i u : Nat} (h : RT c m i u M) (hi : i ≤ cf_n c) (hu : u < 100) : RT c m i (u + 1) (sL M 154 ((m * 7 + i) * 100 + u) (lN (rst c m (lx i) u))) := by
  intro m' i' u' h1 h2 h3
  have hn := hw.1
  rw [gL_sL]
  by_cases g : m' = m ∧ i' = i ∧ u' = u
  · obtain ⟨rfl, rfl, rfl⟩ := g
    rw [if_pos ⟨rfl, rfl⟩]
  · rw [if_neg (by omega)]
    exact h m' i' u' h1 h2 (by omega)
section RPS
variable {a : As} {M : pm_M} {c : Cf}
theorem m_restAt (d : Nat) {m i u : Nat} {x : Int32} (hx : x = nI i - 1) : pm_call (d + 1) 218 [.int (nI m), .int x, .int (nI u)] M (some (.int (nI ((m * 7 + i) * 100 + u)))) M := by
  refine en_218 (Nat.le_of_ble_eq_true rfl) ?_
  subst hx
  refine st_ild rfl rfl ?_
  refine st_k rfl ?_
  refine st_ib rfl ?_
  refine st_ild rfl rfl ?_
  refine st_ib rfl ?_
  refine st_k rfl ?_
  refine st_ib rfl ?_
  refine st_k rfl ?_
  refine st_ib rfl ?_
  refine st_ild rfl rfl ?_
  refine st_ib rfl ?_
  -- at 13: op_iret
  refine st_iret rfl ⟨?_, rfl⟩
  show some (Value.int ((nI m * nI 7 + (nI i - 1) + 1) * nI 100 + nI u)) = _
  rw [show nI m * nI 7 + (nI i - 1) + 1 = nI (m * 7 + i) by rw [Int32.add_assoc, Int32.sub_add_cancel, pk_mul, nI_add], pk_mul, nI_add]
theorem m_restBy (d : Nat) (hM : pm_ok M) (hw : cf_wf c) (hc : MC c M) {m i u k : Nat} {x : Int32} (hx : x = nI i - 1) (hi : i ≤ cf_n c) (hu : u < 200) (hk : k < cf_n c) (hm : m < 20) (h : RT c (m + 1) 0 0 M) : pm_call (d + 3) 220 [.ref 132, .int (nI (m + 1)), .int x, .int (nI u), .int (nI k)] M (some (.long (lN (rb c m (lx i) u k)))) M := by
  refine en_220 (Nat.le_of_ble_eq_true rfl) ?_
  have hn := hw.1
  have hl := lx_lst hi
  have ex : x = l32 (lx i) := by rw [hx, lx_32 i (by omega)]
  have htk := tk_le hw (last := lx i) hk
  have htak := m_takeOf d hM hw hc hl hk
  rw [← ex] at htak
  refine st_ild rfl rfl ?_
  refine st_ald rfl rfl ?_
  refine st_ild rfl rfl ?_
  refine st_ild rfl rfl ?_
  refine st_cav (As := [_, _]) rfl rfl rfl (by first | exact tT hM rfl | assumption | exact rw_T hM (by assumption) | exact rw_A hM (by assumption)) (Nat.le_of_ble_eq_true rfl) (htak) ?_
  -- at 8: stop
  refine st_ib rfl ?_
  -- at 9: stop
  refine wp_e (nI_add _ _) ?_
  have rest : ¬ bar c (lx i) k = true → pm_WP (pm_call (d + 2)) tb_220 (fun r0 M1 => r0 = some (.long (lN (rb c m (lx i) u k))) ∧ M1 = M) 29 [some (.ref 132), some (.int (nI (m + 1))), some (.int x), some (.int (nI u)), some (.int (nI k)), some (.int (nI (u + tk c (lx i) k)))] [] M := by
    intro g
    by_cases g2 : 100 ≤ u + tk c (lx i) k
    · refine st_ild rfl rfl ?_
      refine st_k rfl ?_
      refine st_b2 rfl (fun zq => absurd zq (nI_nlt (a := u + tk c (lx i) k) (b := 100) g2 (by omega))) (fun _ => ?_)
      refine st_k rfl ?_
      refine st_go rfl ?_
      -- at 55: op_lret
      exact st_lret rfl ⟨by unfold rb; rw [if_neg g, if_pos g2]; rfl, rfl⟩
    · have hin : vp_in (nI ((m * 7 + (k + 1)) * 100 + (u + tk c (lx i) k))) 14700 := vp_in_nI (by omega) (by decide)
      refine st_ild rfl rfl ?_
      refine st_k rfl ?_
      refine st_b2 rfl (fun _ => ?_) (fun zq => absurd (nI_lt (a := u + tk c (lx i) k) (b := 100) (by omega) (by decide)) zq)
      refine st_ald rfl rfl ?_
      refine st_gR' rfl (by first | exact tT hM rfl | assumption | exact rw_T hM (by assumption) | exact rw_A hM (by assumption)) (by first | exact rR hM rfl rfl | assumption | exact rw_R hM (by assumption)) ?_
      refine st_ild rfl rfl ?_
      refine st_k rfl ?_
      refine st_ib rfl ?_
      -- at 47: stop
      refine wp_e (nI_pred m) ?_
      refine st_ild rfl rfl ?_
      refine st_ild rfl rfl ?_
      refine st_call (As := [_, _, _]) rfl rfl rfl (Nat.le_of_ble_eq_true rfl) (m_restAt (d + 1) (i := k + 1) (nI_pred k).symm) ?_
      refine st_lald rfl (by first | exact tT hM rfl | assumption | exact rw_T hM (by assumption) | exact rw_A hM (by assumption)) (by first | decide | assumption | exact vp_in_nI (by omega) (by decide)) ?_
      -- at 55: op_lret
      refine st_lret rfl ⟨?_, rfl⟩
      rw [nI_clamp (by omega), h m (k + 1) (u + tk c (lx i) k) (by omega) (by omega) (Or.inl (by omega))]
      unfold rb
      rw [if_neg g, if_neg g2]
      rfl
  by_cases g0 : i = 0
  · subst g0
    refine st_ist rfl ?_
    refine st_ild rfl rfl ?_
    refine st_b1 rfl (fun _ => ?_) (fun zq => absurd ((by rw [hx]; decide)) zq)
    -- at 29: stop
    exact rest (by show ¬ bar c 6 k = true; rw [bar6]; decide)
  · have e6 : lx i = i - 1 := by unfold lx; rw [if_neg g0]
    have hx2 : x = nI (i - 1) := by rw [hx, nI_p1 (by omega)]
    have hl6 : lx i < cf_n c := by omega
    have hin : vp_in (nI (i - 1)) 6 := vp_in_nI (by omega) (by decide)
    obtain ⟨b1, b2⟩ := m_barred (d + 1) hM hw hc hl6 hk
    subst hx2
    refine st_ist rfl ?_
    refine st_ild rfl rfl ?_
    refine st_b1 rfl (fun zq => absurd zq (nI_pos (by omega))) (fun _ => ?_)
    refine st_ald rfl rfl ?_
    refine st_gR' rfl (by first | exact tT hM rfl | assumption | exact rw_T hM (by assumption) | exact rw_A hM (by assumption)) (by first | exact rR hM rfl rfl | assumption | exact rw_R hM (by assumption)) ?_
    refine st_ild rfl rfl ?_
    refine st_iald rfl (by first | exact tT hM rfl | assumption | exact rw_T hM (by assumption) | exact rw_A hM (by assumption)) (by first | decide | assumption | exact vp_in_nI (by omega) (by decide)) ?_
    -- at 21: stop
    refine wp_e (y := nI (cf_br c (lx i))) (by rw [nI_clamp (by omega), ← e6]; exact b1) ?_
    refine st_ild rfl rfl ?_
    refine st_call (As := [_, _]) rfl rfl rfl (Nat.le_of_ble_eq_true rfl) (b2) ?_
    refine st_b1 rfl (fun g => ?_) (fun g => ?_)
    -- at 26: split 36 29
    · have g := Decidable.not_not.mp (fun z => g (b01_f z))
      refine st_k rfl ?_
      refine st_go rfl ?_
      -- at 55: op_lret
      exact st_lret rfl ⟨by unfold rb; rw [if_pos g]; rfl, rfl⟩
    · exact rest (fun z => g (b01_t z))
theorem m_layRest (d : Nat) (hM : pm_ok M) (hw : cf_wf c) (hc : MC c M) {K : Nat} (hK : K ≤ 20) : ∃ M', pm_call (d + 4) 219 [.ref 132, .int (nI K)] M none M' ∧ Msc M M' ∧ RT c (K + 1) 0 0 M' := by
  have hn := hw.1
  have hrm := rm99 hw
  obtain ⟨r, M', hcc, hr, h5, h6⟩ := eq_219 (d := d + 3) (A := [.ref 132, .int (nI K)]) (M := M) (Q := fun r M' => r = none ∧ Msc M M' ∧ RT c (K + 1) 0 0 M') (Nat.le_of_ble_eq_true rfl) (by
    refine st_k rfl ?_
    refine st_ist rfl ?_
    -- at 2: stop
    refine wp_for (cf_n c + 1) (fun i L M1 => ∃ x y4 y5 y6 y7 y8, x = nI i - 1 ∧ L = [some (.ref 132), some (.int (nI K)), some (.int x), y4, y5, y6, y7, y8] ∧ Msc M M1 ∧ RT c 0 i 0 M1) ?_ ?_ 0 _ _ (Nat.zero_le _) ⟨_, _, _, _, _, _, rfl, rfl, Msc.rf M, fun m' i' u' _ _ z => by omega⟩
    · rintro i L M1 hi ⟨x, y4, y5, y6, y7, y8, rfl, rfl, hs, hr⟩ ih
      have hM1 := hs.ok hM
      have hc1 := hc.sc hs
      have hnl : ¬ nI (cf_n c) ≤ nI i - 1 := by
        rcases Nat.eq_zero_or_pos i with z | z
        · subst z
          exact fun w => absurd (Int32.le_trans (nI_pos' (n := cf_n c) (by omega)) w) (by decide)
        · rw [nI_p1 z]; exact nI_ge (by omega) (by omega)
      refine st_ild rfl rfl ?_
      refine st_ald rfl rfl ?_
      refine st_gI rfl (by first | exact tT hM1 rfl | assumption | exact rw_T hM1 (by assumption) | exact rw_A hM1 (by assumption)) ?_
      -- at 7: stop
      refine wp_e hc1.1.2.2.1 ?_
      refine st_b2 rfl (fun zq => absurd zq (hnl)) (fun _ => ?_)
      refine st_k rfl ?_
      refine st_ist rfl ?_
      -- at 12: stop
      refine wp_for 100 (fun u L M2 => ∃ x, x = nI u ∧ L = [some (.ref 132), some (.int (nI K)), some (.int (nI i - 1)), some (.int x), y5, y6, y7, y8] ∧ Msc M M2 ∧ RT c 0 i u M2) ?_ ?_ 0 _ _ (Nat.zero_le _) ⟨_, rfl, rfl, hs, hr⟩
      · rintro u L M2 hu ⟨x, rfl, rfl, hs2, hr2⟩ ih2
        have hM2 := hs2.ok hM
        have hc2 := hc.sc hs2
        have hl := lx_lst (show i ≤ cf_n c by omega)
        have hem := em_le c (lx i)
        have hend := m_endOf (d + 2) hM2 hw hc2 hl
        rw [lx_32 i (by omega)] at hend
        have hin : vp_in (nI ((0 * 7 + i) * 100 + u)) 14700 := vp_in_nI (by omega) (by decide)
        have fin : ∀ v, v = lN (rst c 0 (lx i) u) → pm_WP (pm_call (d + 3)) tb_219 (fun r M' => r = none ∧ Msc M M' ∧ RT c (K + 1) 0 0 M') 47 [some (.ref 132), some (.int (nI K)), some (.int (nI i - 1)), some (.int (nI u)), y5, y6, y7, y8] [.long v, .int (nI ((0 * 7 + i) * 100 + u)), .ref 154] M2 := by
          intro v hv
          subst hv
          refine st_last rfl (tT hM2 rfl) (hin) ?_
          refine st_inc rfl rfl ?_
          refine st_go rfl ?_
          -- at 12: stop
          refine ih2 _ _ ⟨_, nI_1 u, rfl, hs2.sL _ (by omega), ?_⟩
          rw [nI_clamp (by omega)]
          exact hr2.s hw (by omega) hu
        refine st_ild rfl rfl ?_
        refine st_k rfl ?_
        refine st_b2 rfl (fun zq => absurd zq (nI_ge (a := u) (b := 100) (by omega) (by decide))) (fun _ => ?_)
        refine st_ald rfl rfl ?_
        refine st_gR' rfl (by first | exact tT hM2 rfl | assumption | exact rw_T hM2 (by assumption) | exact rw_A hM2 (by assumption)) (by first | exact rR hM2 rfl rfl | assumption | exact rw_R hM2 (by assumption)) ?_
        refine st_k rfl ?_
        refine st_ild rfl rfl ?_
        refine st_ild rfl rfl ?_
        refine st_call (As := [_, _, _]) rfl rfl rfl (Nat.le_of_ble_eq_true rfl) (m_restAt (m := 0) (i := i) (u := u) (d + 2) rfl) ?_
        refine st_ild rfl rfl ?_
        refine st_ald rfl rfl ?_
        refine st_ild rfl rfl ?_
        refine st_cav (As := [_]) rfl rfl rfl (by first | exact tT hM2 rfl | assumption | exact rw_T hM2 (by assumption) | exact rw_A hM2 (by assumption)) (Nat.le_of_ble_eq_true rfl) (hend) ?_
        -- at 34: stop
        refine st_ib rfl ?_
        -- at 35: stop
        refine wp_e (nI_add _ _) ?_
        refine st_ald rfl rfl ?_
        refine st_cav (As := []) rfl rfl rfl (by first | exact tT hM2 rfl | assumption | exact rw_T hM2 (by assumption) | exact rw_A hM2 (by assumption)) (Nat.le_of_ble_eq_true rfl) (m_roomNow (d + 2) hM2 hw hc2) ?_
        refine st_b2 rfl (fun g => ?_) (fun g => ?_)
        -- at 39: split 46 42
        · have g := (nI_ltI (by omega) (by omega)).mp g
          refine st_k rfl ?_
          -- at 47: stop
          refine fin _ ?_
          unfold rst
          split
          · show _ = lN (if em c (lx i) ≤ cf_rm c - u then 1 else 0)
            rw [if_neg (by omega)]; rfl
          · rfl
        · have g : u + em c (lx i) ≤ cf_rm c := Nat.not_lt.mp (fun z => g (nI_lt z (by omega)))
          refine st_k rfl ?_
          refine st_go rfl ?_
          -- at 47: stop
          refine fin _ ?_
          unfold rst
          rw [if_pos (by omega)]
          show _ = lN (if em c (lx i) ≤ cf_rm c - u then 1 else 0)
          rw [if_pos (by omega)]; rfl
      · rintro L M2 ⟨x, rfl, rfl, hs2, hr2⟩
        refine st_ild rfl rfl ?_
        refine st_k rfl ?_
        refine st_b2 rfl (fun _ => ?_) (fun zq => absurd (nI_le (a := 100) (b := 100) (by decide) (by decide)) zq)
        refine st_inc rfl rfl ?_
        refine st_go rfl ?_
        -- at 2: stop
        refine ih _ _ ⟨_, _, _, _, _, _, ?_, rfl, hs2, fun m' i' u' h1 h2 h3 => hr2 m' i' u' h1 h2 (by omega)⟩
        rw [← nI_1, Int32.sub_add_cancel, Int32.add_sub_cancel]
    rintro L M1 ⟨x, y4, y5, y6, y7, y8, rfl, rfl, hs, hr⟩
    have hM1 := hs.ok hM
    have hc1 := hc.sc hs
    refine st_ild rfl rfl ?_
    refine st_ald rfl rfl ?_
    refine st_gI rfl (by first | exact tT hM1 rfl | assumption | exact rw_T hM1 (by assumption) | exact rw_A hM1 (by assumption)) ?_
    -- at 7: stop
    refine wp_e hc1.1.2.2.1 ?_
    rw [nI_pred]
    refine st_b2 rfl (fun _ => ?_) (fun zq => absurd (nI_le (by omega) (by omega)) zq)
    refine st_k rfl ?_
    refine st_ist rfl ?_
    -- at 62: stop
    refine wp_for (K + 1) (fun m L M1 => ∃ x y4 y5 y6 y7 y8, 1 ≤ m ∧ x = nI m ∧ L = [some (.ref 132), some (.int (nI K)), some (.int x), y4, y5, y6, y7, y8] ∧ Msc M M1 ∧ RT c m 0 0 M1) ?_ ?_ 1 _ _ (by omega) ⟨_, _, _, _, _, _, Nat.le_refl _, rfl, rfl, hs, fun m' i' u' h1 h2 h3 => hr m' i' u' h1 h2 (by omega)⟩
    · rintro m0 L M1 hi ⟨x, y4, y5, y6, y7, y8, hm1, rfl, rfl, hs, hr⟩ ih
      obtain ⟨m, rfl⟩ : ∃ m, m0 = m + 1 := ⟨m0 - 1, by omega⟩
      refine st_ild rfl rfl ?_
      refine st_ild rfl rfl ?_
      refine st_b2 rfl (fun zq => absurd zq (nI_nlt (by omega) (by omega))) (fun _ => ?_)
      refine st_k rfl ?_
      refine st_ist rfl ?_
      -- at 69: stop
      refine wp_for (cf_n c + 1) (fun i L M2 => ∃ x y5 y6 y7 y8, x = nI i - 1 ∧ L = [some (.ref 132), some (.int (nI K)), some (.int (nI (m + 1))), some (.int x), y5, y6, y7, y8] ∧ Msc M M2 ∧ RT c (m + 1) i 0 M2) ?_ ?_ 0 _ _ (Nat.zero_le _) ⟨_, _, _, _, _, rfl, rfl, hs, hr⟩
      · rintro i L M2 hi2 ⟨x, y5, y6, y7, y8, rfl, rfl, hs2, hr2⟩ ih2
        have hM2 := hs2.ok hM
        have hc2 := hc.sc hs2
        have hnl : ¬ nI (cf_n c) ≤ nI i - 1 := by
          rcases Nat.eq_zero_or_pos i with z | z
          · subst z
            exact fun w => absurd (Int32.le_trans (nI_pos' (n := cf_n c) (by omega)) w) (by decide)
          · rw [nI_p1 z]; exact nI_ge (by omega) (by omega)
        refine st_ild rfl rfl ?_
        refine st_ald rfl rfl ?_
        refine st_gI rfl (by first | exact tT hM2 rfl | assumption | exact rw_T hM2 (by assumption) | exact rw_A hM2 (by assumption)) ?_
        -- at 74: stop
        refine wp_e hc2.1.2.2.1 ?_
        refine st_b2 rfl (fun zq => absurd zq (hnl)) (fun _ => ?_)
        refine st_k rfl ?_
        refine st_ist rfl ?_
        -- at 80: stop
        refine wp_for 100 (fun u L M3 => ∃ x y6 y7 y8, x = nI u ∧ L = [some (.ref 132), some (.int (nI K)), some (.int (nI (m + 1))), some (.int (nI i - 1)), some (.int x), y6, y7, y8] ∧ Msc M M3 ∧ RT c (m + 1) i u M3) ?_ ?_ 0 _ _ (Nat.zero_le _) ⟨_, _, _, _, rfl, rfl, hs2, hr2⟩
        · rintro u L M3 hu ⟨x, y6, y7, y8, rfl, rfl, hs3, hr3⟩ ih3
          have hM3 := hs3.ok hM
          have hc3 := hc.sc hs3
          have hin : vp_in (nI (((m + 1) * 7 + i) * 100 + u)) 14700 := vp_in_nI (by omega) (by decide)
          refine st_ild rfl rfl ?_
          refine st_k rfl ?_
          refine st_b2 rfl (fun zq => absurd zq (nI_ge (a := u) (b := 100) (by omega) (by decide))) (fun _ => ?_)
          refine st_k rfl ?_
          refine st_lst rfl ?_
          refine st_k rfl ?_
          refine st_ist rfl ?_
          -- at 93: stop
          refine wp_for (cf_n c) (fun k L M4 => ∃ x, x = nI k ∧ L = [some (.ref 132), some (.int (nI K)), some (.int (nI (m + 1))), some (.int (nI i - 1)), some (.int (nI u)), some (.long (lN (sk (rb c m (lx i) u) k))), none, some (.int x)] ∧ M4 = M3) ?_ ?_ 0 _ _ (Nat.zero_le _) ⟨_, rfl, rfl, rfl⟩
          · rintro k L M4 hk ⟨x, rfl, rfl, rfl⟩ ih4
            have hrb := m_restBy d hM3 hw hc3 (m := m) (i := i) (u := u) (k := k) rfl (by omega) (by omega) hk (by omega) (fun m' i' u' h1 h2 h3 => hr3 m' i' u' h1 h2 (by omega))
            refine st_ild rfl rfl ?_
            refine st_ald rfl rfl ?_
            refine st_gI rfl (by first | exact tT hM3 rfl | assumption | exact rw_T hM3 (by assumption) | exact rw_A hM3 (by assumption)) ?_
            -- at 99: stop
            refine wp_e hc3.1.2.2.1 ?_
            refine st_b2 rfl (fun zq => absurd zq (nI_ge (by omega) (by omega))) (fun _ => ?_)
            refine st_lld rfl rfl ?_
            refine st_ald rfl rfl ?_
            refine st_ild rfl rfl ?_
            refine st_ild rfl rfl ?_
            refine st_ild rfl rfl ?_
            refine st_ild rfl rfl ?_
            refine st_cav (As := [_, _, _, _]) rfl rfl rfl (by first | exact tT hM3 rfl | assumption | exact rw_T hM3 (by assumption) | exact rw_A hM3 (by assumption)) (Nat.le_of_ble_eq_true rfl) (hrb) ?_
            refine st_lb rfl ?_
            -- at 115: stop
            refine wp_el (lN_add _ _) ?_
            refine st_lst rfl ?_
            refine st_inc rfl rfl ?_
            refine st_go rfl ?_
            -- at 93: stop
            exact ih4 _ _ ⟨_, nI_1 k, rfl, rfl⟩
          · rintro L M4 ⟨x, rfl, rfl, rfl⟩
            refine st_ild rfl rfl ?_
            refine st_ald rfl rfl ?_
            refine st_gI rfl (by first | exact tT hM3 rfl | assumption | exact rw_T hM3 (by assumption) | exact rw_A hM3 (by assumption)) ?_
            -- at 99: stop
            refine wp_e hc3.1.2.2.1 ?_
            refine st_b2 rfl (fun _ => ?_) (fun zq => absurd (nI_le (by omega) (by omega)) zq)
            refine st_ald rfl rfl ?_
            refine st_gR' rfl (by first | exact tT hM3 rfl | assumption | exact rw_T hM3 (by assumption) | exact rw_A hM3 (by assumption)) (by first | exact rR hM3 rfl rfl | assumption | exact rw_R hM3 (by assumption)) ?_
            refine st_ild rfl rfl ?_
            refine st_ild rfl rfl ?_
            refine st_ild rfl rfl ?_
            refine st_call (As := [_, _, _]) rfl rfl rfl (Nat.le_of_ble_eq_true rfl) (m_restAt (m := m + 1) (i := i) (u := u) (d + 2) rfl) ?_
            refine st_lld rfl rfl ?_
            refine st_last rfl (tT hM3 rfl) (hin) ?_
            refine st_inc rfl rfl ?_
            refine st_go rfl ?_
            -- at 80: stop
            refine ih3 _ _ ⟨_, _, _, _, nI_1 u, rfl, hs3.sL _ (by omega), ?_⟩
            rw [nI_clamp (by omega), ← rst_s hw]
            exact hr3.s hw (by omega) hu
        · rintro L M3 ⟨x, y6, y7, y8, rfl, rfl, hs3, hr3⟩
          refine st_ild rfl rfl ?_
          refine st_k rfl ?_
          refine st_b2 rfl (fun _ => ?_) (fun zq => absurd (nI_le (a := 100) (b := 100) (by decide) (by decide)) zq)
          refine st_inc rfl rfl ?_
          refine st_go rfl ?_
          -- at 69: stop
          refine ih2 _ _ ⟨_, _, _, _, _, ?_, rfl, hs3, fun m' i' u' h1 h2 h3 => hr3 m' i' u' h1 h2 (by omega)⟩
          rw [← nI_1, Int32.sub_add_cancel, Int32.add_sub_cancel]
      · rintro L M2 ⟨x, y5, y6, y7, y8, rfl, rfl, hs2, hr2⟩
        have hM2 := hs2.ok hM
        have hc2 := hc.sc hs2
        refine st_ild rfl rfl ?_
        refine st_ald rfl rfl ?_
        refine st_gI rfl (by first | exact tT hM2 rfl | assumption | exact rw_T hM2 (by assumption) | exact rw_A hM2 (by assumption)) ?_
        -- at 74: stop
        refine wp_e hc2.1.2.2.1 ?_
        rw [nI_pred]
        refine st_b2 rfl (fun _ => ?_) (fun zq => absurd (nI_le (by omega) (by omega)) zq)
        refine st_inc rfl rfl ?_
        refine st_go rfl ?_
        -- at 62: stop
        exact ih _ _ ⟨_, _, _, _, _, _, by omega, nI_1 _, rfl, hs2, fun m' i' u' h1 h2 h3 => hr2 m' i' u' h1 h2 (by omega)⟩
    · rintro L M1 ⟨x, y4, y5, y6, y7, y8, hm1, rfl, rfl, hs, hr⟩
      refine st_ild rfl rfl ?_
      refine st_ild rfl rfl ?_
      refine st_b2 rfl (fun _ => ?_) (fun zq => absurd (nI_lt (by omega) (by omega)) zq)
      -- at 155: op_vret
      exact st_vret rfl ⟨rfl, hs, hr⟩)
  subst hr
  exact ⟨M', hcc, h5, h6⟩
theorem n20_cs (n : Int32) : ¬ (¬ n < 0 ∧ ¬ 20 < n) ∨ ∃ K : Nat, K ≤ 20 ∧ n = nI K ∧ (¬ n < 0 ∧ ¬ 20 < n) ∧ n ≤ 20 := by
  by_cases g : ¬ n < 0 ∧ ¬ 20 < n
  · obtain ⟨K, hK, hn⟩ := nI_of g.1
    refine Or.inr ⟨K, ?_, hn, g, Int32.not_lt.mp g.2⟩
    subst hn
    exact Nat.not_lt.mp (fun z => g.2 (nI_lt (a := 20) (b := K) z hK))
  · exact Or.inl g
theorem IM.up {v : Int64} (h : IM a M) : IM (sU' a v) (sL M 132 3 v) := ⟨h.1, h.2.1, h.2.2.1, h.2.2.2.1, h.2.2.2.2.1, h.2.2.2.2.2.1, h.2.2.2.2.2.2.1, h.2.2.2.2.2.2.2.1, h.2.2.2.2.2.2.2.2.1, by rw [gL_sL, if_pos ⟨rfl, rfl⟩]; rfl⟩
theorem b_ropes (ha : aw a) (n : Int32) : Both a 115 221 [.int n] := by
  rcases n20_cs n with g | ⟨K, hK, rfl, g, gl⟩
  · refine bo_k (x := .int (-1)) ha (fun d M h => ?_) (fun d M h => ?_)
    · refine en_115 (Nat.le_of_ble_eq_true rfl) ?_
      refine st_ild rfl rfl ?_
      refine st_b1 rfl (fun z => ?_) (fun z => ?_)
      -- at 1: split 10 4
      · refine st_k rfl ?_
        -- at 11: op_iret
        exact st_iret rfl ⟨rfl, rfl⟩
      · refine st_ild rfl rfl ?_
        refine st_k rfl ?_
        refine st_b2 rfl (fun zq => absurd zq ((fun w => g ⟨z, Int32.not_lt.mpr w⟩))) (fun _ => ?_)
        refine st_k rfl ?_
        -- at 11: op_iret
        exact st_iret rfl ⟨rfl, rfl⟩
    · refine en_221 (Nat.le_of_ble_eq_true rfl) ?_
      refine st_ild rfl rfl ?_
      refine st_k rfl ?_
      refine st_k rfl ?_
      refine st_call (As := [_, _, _]) rfl rfl rfl (Nat.le_of_ble_eq_true rfl) (m_in (d + 18) n 0 20) ?_
      refine st_b1 rfl (fun zq => absurd zq ((fun z => z (b01_f g)))) (fun _ => ?_)
      refine st_k rfl ?_
      -- at 11: op_iret
      exact st_iret rfl ⟨rfl, rfl⟩
  · refine ⟨.int 1, sU' a (lN (cnt (aC a) K 6 (cf_rm (aC a)))), ha.up _, fun d M h => ?_, fun d M h => ?_⟩
    · have hM := h.1
      obtain ⟨M1, hc1, h1, h2, h3⟩ := c_ropesOf (d + 15) hM ha.1 h.2.2.2.1 h.2.2.2.2.2.2.1 hK
      have hI := h.tal h1 h2
      refine ⟨sL M1 0 19 _, en_115 (Nat.le_of_ble_eq_true rfl) ?_, hI.up, (Cfr.S h1 (fun k hk => by rcases hk with z | z <;> omega)).sL (by decide) _ _⟩
      have hM1 := hI.1
      refine st_ild rfl rfl ?_
      refine st_b1 rfl (fun zq => absurd zq (g.1)) (fun _ => ?_)
      refine st_ild rfl rfl ?_
      refine st_k rfl ?_
      refine st_b2 rfl (fun _ => ?_) (fun zq => absurd (gl) zq)
      refine st_ald rfl rfl ?_
      refine st_ald rfl rfl ?_
      refine st_gR' rfl (by first | exact tT hM rfl | assumption | exact rw_T hM (by assumption) | exact rw_A hM (by assumption)) (by first | exact rR hM rfl rfl | assumption | exact rw_R hM (by assumption)) ?_
      refine st_ild rfl rfl ?_
      refine st_cav (As := [_]) rfl rfl rfl (by first | exact tT hM rfl | assumption | exact rw_T hM (by assumption) | exact rw_A hM (by assumption)) (Nat.le_of_ble_eq_true rfl) (hc1) ?_
      -- at 21: stop
      refine st_pL rfl (by first | exact tT hM1 rfl | assumption | exact rw_T hM1 (by assumption) | exact rw_A hM1 (by assumption)) ?_
      refine st_k rfl ?_
      -- at 25: op_iret
      exact st_iret rfl ⟨rfl, rfl⟩
    · have hM := h.1
      obtain ⟨M1, hc1, h1, h2⟩ := m_layRest (d + 15) hM ha.1 h.2.2.2.1 hK
      have hI := h.sc h1
      have hM1 := hI.1
      have hin : vp_in (nI ((K * 7 + 0) * 100 + 0)) 14700 := vp_in_nI (by omega) (by decide)
      refine ⟨sL M1 132 3 _, en_221 (Nat.le_of_ble_eq_true rfl) ?_, hI.up, h1.fr.sL (by decide) _ _⟩
      refine st_ild rfl rfl ?_
      refine st_k rfl ?_
      refine st_k rfl ?_
      refine st_call (As := [_, _, _]) rfl rfl rfl (Nat.le_of_ble_eq_true rfl) (m_in (d + 18) _ 0 20) ?_
      refine st_b1 rfl (fun _ => ?_) (fun zq => absurd (b01_t g) zq)
      refine st_ald rfl rfl ?_
      refine st_ild rfl rfl ?_
      refine st_cav (As := [_]) rfl rfl rfl (by first | exact tT hM rfl | assumption | exact rw_T hM (by assumption) | exact rw_A hM (by assumption)) (Nat.le_of_ble_eq_true rfl) (hc1) ?_
      -- at 17: stop
      refine st_ald rfl rfl ?_
      refine st_ald rfl rfl ?_
      refine st_gR' rfl (by first | exact tT hM1 rfl | assumption | exact rw_T hM1 (by assumption) | exact rw_A hM1 (by assumption)) (by first | exact rR hM1 rfl rfl | assumption | exact rw_R hM1 (by assumption)) ?_
      refine st_ild rfl rfl ?_
      refine st_k rfl ?_
      refine st_k rfl ?_
      refine st_call (As := [_, _, _]) rfl rfl rfl (Nat.le_of_ble_eq_true rfl) (m_restAt (m := K) (i := 0) (u := 0) (d + 18) (by decide)) ?_
      refine st_lald rfl (by first | exact tT hM1 rfl | assumption | exact rw_T hM1 (by assumption) | exact rw_A hM1 (by assumption)) (by first | decide | assumption | exact vp_in_nI (by omega) (by decide)) ?_
      -- at 29: stop
      refine wp_el (y := lN (cnt (aC a) K 6 (cf_rm (aC a)))) (by rw [nI_clamp (by omega), h2 K 0 0 (Nat.zero_le _) (by decide) (Or.inl (by omega)), ← rst_z]; rfl) ?_
      refine st_pL rfl (by first | exact tT hM1 rfl | assumption | exact rw_T hM1 (by assumption) | exact rw_A hM1 (by assumption)) ?_
      refine st_k rfl ?_
      -- at 33: op_iret
      exact st_iret rfl ⟨rfl, rfl⟩
end RPS

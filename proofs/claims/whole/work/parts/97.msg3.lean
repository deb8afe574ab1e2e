/-! MESSAGES: the reference's least, its first rope -/
theorem Msc.S {S : Nat → Prop} {M M' : pm_M} (h : pm_S S M M') (hn : ∀ k i, S k → ¬ mkp k i) : Msc M M' := ⟨h.1, h.2.1, fun k i hk => h.2.2 k (fun z => hn k i z hk) i⟩
def oat (t : Nat) (b : Option Nat) : Option Nat := match b with
  | none => none
  | some v => some (t + v)
theorem gk_x {L : St → Option Nat} {c : Cf} {m : List Nat} {s s' : St} {k : Nat} (h : nx c m s k = some s') : gk L c m s k = oat (tk c s.2.1 k) (L s') := by
  unfold gk oat
  rw [h]
  dsimp only
  cases L s' <;> rfl
theorem nr_oa {a b : Option Nat} {t : Nat} (ha : ∀ v, a = some v → v < 10000) (hb : ∀ v, b = some v → v < 10000) (ht : t ≤ 18) : (if nr a < t + nr b then nr a else t + nr b) = nr (om a (oat t b)) := by
  cases b with
  | none =>
    cases a with
    | none =>
      show (if 100000 < t + 100000 then 100000 else t + 100000) = 100000
      split <;> omega
    | some v =>
      have := ha v rfl
      show (if v < t + 100000 then v else t + 100000) = v
      rw [if_pos (by omega)]
  | some w =>
    have := hb w rfl
    cases a with
    | none =>
      show (if 100000 < t + w then 100000 else t + w) = t + w
      rw [if_neg (by omega)]
    | some v =>
      show (if v < t + w then v else t + w) = min v (t + w)
      split
      · rw [Nat.min_eq_left (by omega)]
      · rw [Nat.min_eq_right (by omega)]
/-- a number of a state by its parts -/
def st0 (i : Nat) : St := (i / 14, if i % 14 / 2 = 0 then 6 else i % 14 / 2 - 1, decide (i % 2 = 1))
theorem st0_si : ∀ i, i < 182 → (0 < i % 14 / 2 ∨ i = 0) → si (st0 i) = i := by decide +kernel
section RML
variable {a : As} {M : pm_M} {c : Cf} {m : List Nat}
theorem st0_w (hwf : cf_wf c) {i n : Nat} (hi : i < 182) (hn : n = cf_n c) (h1 : i % 14 / 2 ≤ n) (h2 : 0 < i % 14 / 2 ∨ i = 0) : wS c (st0 i) := by
  subst hn
  have hn6 := hwf.1
  refine ⟨by show i / 14 ≤ 12; omega, ?_, ?_, ?_⟩
  · show lst c (if i % 14 / 2 = 0 then 6 else i % 14 / 2 - 1)
    split
    · exact Or.inr rfl
    · exact Or.inl (by omega)
  · show decide (i % 2 = 1) = true → (if i % 14 / 2 = 0 then 6 else i % 14 / 2 - 1) < _
    intro z
    have := of_decide_eq_true z
    rw [if_neg (by omega)]
    omega
  · show (if i % 14 / 2 = 0 then 6 else i % 14 / 2 - 1) = 6 → i / 14 = 0
    split
    · intro _; omega
    · intro z; omega
theorem si_inj (hw : cf_wf c) {s s' : St} (h : wS c s) (h' : wS c s') (e : si s = si s') : s = s' := by
  obtain ⟨d1, d2, d3, d4, d5⟩ := si_d hw h
  obtain ⟨e1, e2, e3, e4, e5⟩ := si_d hw h'
  have l1 := lst6 hw h.2.1
  have l2 := lst6 hw h'.2.1
  obtain ⟨r, last, o⟩ := s
  obtain ⟨r', last', o'⟩ := s'
  dsimp only at *
  rw [e] at d1 d2 d3
  have a1 : r = r' := by omega
  have a2 : last = last' := by
    have : la last = la last' := by omega
    unfold la at this
    split at this <;> split at this <;> omega
  have a3 : o = o' := by
    rw [e3] at d3
    cases o <;> cases o' <;> simp at d3 ⊢
  rw [a1, a2, a3]
theorem m_isState (d : Nat) (hM : pm_ok M) (hw : cf_wf c) (hc : MC c M) {i : Nat} (hi : i < 182) : pm_call (d + 2) 231 [.ref 132, .int (nI i)] M (some (.int (if i % 14 / 2 ≤ cf_n c ∧ (0 < i % 14 / 2 ∨ i = 0) then 1 else 0))) M := by
  have hn := hw.1
  have last : pm_call (d + 1) 230 [.int (nI i)] M (some (.int (nI (i % 14 / 2) - 1))) M := by
    refine en_230 (Nat.le_of_ble_eq_true rfl) ?_
    refine st_ild rfl rfl ?_
    refine st_k rfl ?_
    refine st_idv rfl ((by decide)) ?_
    -- at 4: stop
    refine wp_e (pk_rem (a := i) (d := 14) (by omega) (by decide) (by decide)) ?_
    refine st_k rfl ?_
    refine st_idv rfl ((by decide)) ?_
    -- at 6: stop
    refine wp_e (pk_div (a := i % 14) (d := 2) (by omega) (by decide) (by decide)) ?_
    refine st_k rfl ?_
    refine st_ib rfl ?_
    -- at 8: op_iret
    exact st_iret rfl ⟨rfl, rfl⟩
  refine en_231 (Nat.le_of_ble_eq_true rfl) ?_
  refine st_ild rfl rfl ?_
  refine st_call (As := [_]) rfl rfl rfl (Nat.le_of_ble_eq_true rfl) (last) ?_
  refine st_ald rfl rfl ?_
  refine st_gI rfl (by first | exact tT hM rfl | assumption | exact rw_T hM (by assumption) | exact rw_A hM (by assumption)) ?_
  -- at 8: stop
  refine wp_e hc.1.2.2.1 ?_
  by_cases g1 : i % 14 / 2 ≤ cf_n c
  · have hlt : ¬ nI (cf_n c) ≤ nI (i % 14 / 2) - 1 := by
      rcases Nat.eq_zero_or_pos (i % 14 / 2) with z | z
      · rw [z]
        exact fun w => absurd (Int32.le_trans (nI_pos' (n := cf_n c) (by omega)) w) (by decide)
      · rw [nI_p1 z]; exact nI_ge (by omega) (by omega)
    by_cases g2 : 0 < i % 14 / 2
    · refine st_b2 rfl (fun zq => absurd zq (hlt)) (fun _ => ?_)
      refine st_ild rfl rfl ?_
      refine st_call (As := [_]) rfl rfl rfl (Nat.le_of_ble_eq_true rfl) (last) ?_
      refine st_b1 rfl (fun _ => ?_) (fun zq => absurd ((by rw [nI_p1 g2]; exact nI_pos' (by omega))) zq)
      refine st_k rfl ?_
      refine st_go rfl ?_
      -- at 27: op_zret
      exact st_zret rfl (by decide) ⟨by rw [if_pos ⟨g1, Or.inl g2⟩], rfl⟩
    · have g3 : i % 14 / 2 = 0 := by omega
      by_cases g4 : i = 0
      · refine st_b2 rfl (fun zq => absurd zq (hlt)) (fun _ => ?_)
        refine st_ild rfl rfl ?_
        refine st_call (As := [_]) rfl rfl rfl (Nat.le_of_ble_eq_true rfl) (last) ?_
        refine st_b1 rfl (fun zq => absurd zq ((by rw [g3]; decide))) (fun _ => ?_)
        refine st_ild rfl rfl ?_
        refine st_b1 rfl (fun zq => absurd zq ((fun z => z (by rw [g4]; rfl)))) (fun _ => ?_)
        refine st_k rfl ?_
        refine st_go rfl ?_
        -- at 27: op_zret
        exact st_zret rfl (by decide) ⟨by rw [if_pos ⟨g1, Or.inr g4⟩], rfl⟩
      · refine st_b2 rfl (fun zq => absurd zq (hlt)) (fun _ => ?_)
        refine st_ild rfl rfl ?_
        refine st_call (As := [_]) rfl rfl rfl (Nat.le_of_ble_eq_true rfl) (last) ?_
        refine st_b1 rfl (fun zq => absurd zq ((by rw [g3]; decide))) (fun _ => ?_)
        refine st_ild rfl rfl ?_
        refine st_b1 rfl (fun _ => ?_) (fun zq => absurd (nI_ne0 (by omega) (by omega)) zq)
        refine st_k rfl ?_
        -- at 27: op_zret
        exact st_zret rfl (by decide) ⟨by rw [if_neg (fun z => z.2.elim g2 g4)], rfl⟩
  · refine st_b2 rfl (fun _ => ?_) (fun zq => absurd ((by rw [nI_p1 (by omega)]; exact nI_le (by omega) (by omega))) zq)
    refine st_k rfl ?_
    -- at 27: op_zret
    exact st_zret rfl (by decide) ⟨by rw [if_neg (fun z => g1 z.1)], rfl⟩
theorem m_layLeast (d : Nat) (hM : pm_ok M) (hw : cf_wf c) (hc : MC c M) (hm : MM m M) : ∃ M', pm_call (d + 3) 232 [.ref 132] M none M' ∧ pm_S (fun k => k = 156) M M' ∧ ∀ f, f ≤ 20 → LT c m f M' := by
  have hn := hw.1
  have hl := hm.2.1
  obtain ⟨r, M', hcc, hr, h5, h6⟩ := eq_232 (d := d + 2) (A := [.ref 132]) (M := M) (Q := fun r M' => r = none ∧ pm_S (fun k => k = 156) M M' ∧ ∀ f, f ≤ 20 → LT c m f M') (Nat.le_of_ble_eq_true rfl) (by
    refine st_k rfl ?_
    refine st_ist rfl ?_
    -- at 3: stop
    refine wp_for 21 (fun i L M1 => ∃ x y2 y3 y4 y5, x = nI (21 - i) - 1 ∧ L = [some (.ref 132), some (.int x), y2, y3, y4, y5] ∧ pm_S (fun k => k = 156) M M1 ∧ ∀ f, f < i → LT c m f M1) ?_ ?_ 0 _ _ (Nat.zero_le _) ⟨_, _, _, _, _, by decide, rfl, pm_S.rf, fun f hf => by omega⟩
    · rintro i L M1 hi ⟨x, y2, y3, y4, y5, rfl, rfl, hs, hT⟩ ih
      obtain ⟨td, htd⟩ : ∃ td, 21 - i = td + 1 := ⟨20 - i, by omega⟩
      rw [htd, nI_pred]
      refine st_ild rfl rfl ?_
      refine st_b1 rfl (fun zq => absurd zq (nI_pos (by omega))) (fun _ => ?_)
      refine st_k rfl ?_
      refine st_ist rfl ?_
      -- at 9: stop
      refine wp_for 182 (fun q L M2 => ∃ x y3 y4 y5, x = nI q ∧ L = [some (.ref 132), some (.int (nI td)), some (.int x), y3, y4, y5] ∧ pm_S (fun k => k = 156) M M2 ∧ (∀ f, f < i → LT c m f M2) ∧ ∀ s, wS c s → si s < q → gI M2 156 (182 * (20 - i) + si s) = nI (nr (LF c m i s))) ?_ ?_ 0 _ _ (Nat.zero_le _) ⟨_, _, _, _, rfl, rfl, hs, hT, fun s _ z => by omega⟩
      · rintro q L M2 hq ⟨x, y3, y4, y5, rfl, rfl, hs2, hT2, hQ⟩ ih2
        have hM2 := hs2.ok hM
        have hc2 : MC c M2 := hc.moved (fun i _ => hs2.i (by decide) i) (fun k hk i => hs2.i (by show ¬ k = 156; omega) i)
        have hm2 := hm.S hs2 (by decide) (by decide)
        have e2 : 182 * nI td + nI q = nI (182 * td + q) := by show nI 182 * nI td + nI q = _; rw [pk_mul, nI_add]
        have hin : vp_in (182 * nI td + nI q) 3822 := by rw [e2]; exact vp_in_nI (by omega) (by decide)
        have e3 : (182 * nI td + nI q).toNatClampNeg = 182 * (20 - i) + q := by rw [e2, nI_clamp (by omega), show td = 20 - i by omega]
        have fin : ∀ v y4 y5, (∀ s, wS c s → si s = q → v = nI (nr (LF c m i s))) → pm_WP (pm_call (d + 2)) tb_232 (fun r M' => r = none ∧ pm_S (fun k => k = 156) M M' ∧ ∀ f, f ≤ 20 → LT c m f M') 126 [some (.ref 132), some (.int (nI td)), some (.int (nI q)), some (.int v), y4, y5] [] M2 := by
          intro v y4 y5 hv
          refine st_ald rfl rfl ?_
          refine st_gR' rfl (by first | exact tT hM2 rfl | assumption | exact rw_T hM2 (by assumption) | exact rw_A hM2 (by assumption)) (by first | exact rR hM2 rfl rfl | assumption | exact rw_R hM2 (by assumption)) ?_
          refine st_k rfl ?_
          refine st_ild rfl rfl ?_
          refine st_ib rfl ?_
          refine st_ild rfl rfl ?_
          refine st_ib rfl ?_
          refine st_ild rfl rfl ?_
          refine st_iast rfl (tT hM2 rfl) (hin) ?_
          refine st_inc rfl rfl ?_
          refine st_go rfl ?_
          -- at 9: stop
          rw [e3]
          refine ih2 _ _ ⟨_, _, _, _, nI_1 q, rfl, hs2.sI rfl _ _, fun f hf s hs => ?_, fun s hs hs' => ?_⟩
          · have := (si_d hw hs).2.2.2.1
            rw [gI_ne (Or.inr (by omega))]
            exact hT2 f hf s hs
          · by_cases z : si s = q
            · rw [z, gI_same]
              exact hv s hs z
            · rw [gI_ne (Or.inr (by omega))]
              exact hQ s hs (by omega)
        by_cases gv : q % 14 / 2 ≤ cf_n c ∧ (0 < q % 14 / 2 ∨ q = 0)
        case neg =>
          refine st_ild rfl rfl ?_
          refine st_k rfl ?_
          refine st_b2 rfl (fun zq => absurd zq (nI_ge (a := q) (b := 182) (by omega) (by decide))) (fun _ => ?_)
          refine st_k rfl ?_
          refine st_ist rfl ?_
          refine st_ald rfl rfl ?_
          refine st_ild rfl rfl ?_
          refine st_cav (As := [_]) rfl rfl rfl (by first | exact tT hM2 rfl | assumption | exact rw_T hM2 (by assumption) | exact rw_A hM2 (by assumption)) (Nat.le_of_ble_eq_true rfl) (m_isState d hM2 hw hc2 hq) ?_
          refine st_b1 rfl (fun _ => ?_) (fun zq => absurd (b01_f gv) zq)
          -- at 126: stop
          refine fin _ _ _ (fun s hs z => absurd ?_ gv)
          obtain ⟨d1, d2, d3, d4, d5⟩ := si_d hw hs
          rw [z] at d2 d3
          have hls := hs.2.1
          have hlo := hs.2.2.1
          have h60 := hs.2.2.2
          rw [d2]
          rcases hls with w | w
          · unfold la
            rw [if_pos (by omega)]
            exact ⟨by omega, Or.inl (by omega)⟩
          · have hl0 : la s.2.1 = 0 := by unfold la; rw [if_neg (by omega)]
            rw [hl0]
            refine ⟨by omega, Or.inr ?_⟩
            have h0 := h60 w
            have hof : s.2.2 = false := by
              cases hb : s.2.2
              · rfl
              · have := hlo hb; omega
            rw [hof, if_neg (by decide)] at d3
            omega
        have hsi := st0_si q hq gv.2
        have hws := st0_w hw hq rfl gv.1 gv.2
        generalize st0 q = s at hsi hws
        have eL := m_lastOf (M := M2) (d + 1) hw hws
        have eS := m_isSaid (d + 1) hM2 hw hc2 hm2 hws
        rw [hsi] at eL eS
        have loop : ∀ v0 y4 y5, v0 = nI (nr (sde c m s)) → pm_WP (pm_call (d + 2)) tb_232 (fun r M' => r = none ∧ pm_S (fun k => k = 156) M M' ∧ ∀ f, f ≤ 20 → LT c m f M') 51 [some (.ref 132), some (.int (nI td)), some (.int (nI q)), some (.int v0), y4, y5] [] M2 := by
          intro v0 y4 y5 hv0
          subst hv0
          cases i with
          | zero =>
            have htd20 : td = 20 := by omega
            refine st_k rfl ?_
            refine st_ist rfl ?_
            -- at 54: stop
            refine st_ild rfl rfl ?_
            refine st_ald rfl rfl ?_
            refine st_gI rfl (by first | exact tT hM2 rfl | assumption | exact rw_T hM2 (by assumption) | exact rw_A hM2 (by assumption)) ?_
            -- at 60: stop
            refine wp_e hc2.1.2.2.1 ?_
            have done : ∀ s', wS c s' → si s' = q → nI (nr (sde c m s)) = nI (nr (LF c m 0 s')) := fun s' hs' z => by rw [si_inj hw hs' hws (by rw [z, hsi])]; rfl
            by_cases gn : cf_n c = 0
            · refine st_b2 rfl (fun _ => ?_) (fun zq => absurd (nI_le (a := cf_n c) (b := 0) (by omega) (by decide)) zq)
              -- at 126: stop
              exact fin _ _ _ done
            · refine st_b2 rfl (fun zq => absurd zq (nI_ge (a := 0) (b := cf_n c) (by omega) (by omega))) (fun _ => ?_)
              refine st_ild rfl rfl ?_
              refine st_k rfl ?_
              refine st_b2 rfl (fun _ => ?_) (fun zq => absurd (nI_le (a := 20) (b := td) (by omega) (by omega)) zq)
              -- at 126: stop
              exact fin _ _ _ done
          | succ f =>
            refine st_k rfl ?_
            refine st_ist rfl ?_
            -- at 54: stop
            refine wp_for (cf_n c) (fun k L M3 => ∃ x y5, x = nI k ∧ L = [some (.ref 132), some (.int (nI td)), some (.int (nI q)), some (.int (nI (nr (lb (sde c m s) (gk (LF c m f) c m s) k)))), some (.int x), y5] ∧ M3 = M2) ?_ ?_ 0 _ _ (Nat.zero_le _) ⟨_, _, rfl, rfl, rfl⟩
            · rintro k L M3 hk ⟨x, y5, rfl, rfl, rfl⟩ ih3
              have hsb := m_stateBehind d hM2 hw hc2 hm2 hws hk
              rw [hsi] at hsb
              have hbl := lb_lt hw (m := m) (f := f) (s := s) (by omega) k (by omega)
              refine st_ild rfl rfl ?_
              refine st_ald rfl rfl ?_
              refine st_gI rfl (by first | exact tT hM2 rfl | assumption | exact rw_T hM2 (by assumption) | exact rw_A hM2 (by assumption)) ?_
              -- at 60: stop
              refine wp_e hc2.1.2.2.1 ?_
              refine st_b2 rfl (fun zq => absurd zq (nI_ge (by omega) (by omega))) (fun _ => ?_)
              refine st_ild rfl rfl ?_
              refine st_k rfl ?_
              refine st_b2 rfl (fun zq => absurd zq (nI_ge (a := td) (b := 20) (by omega) (by decide))) (fun _ => ?_)
              refine st_ald rfl rfl ?_
              refine st_ild rfl rfl ?_
              refine st_ild rfl rfl ?_
              refine st_cav (As := [_, _]) rfl rfl rfl (by first | exact tT hM2 rfl | assumption | exact rw_T hM2 (by assumption) | exact rw_A hM2 (by assumption)) (Nat.le_of_ble_eq_true rfl) (hsb) ?_
              refine st_ist rfl ?_
              -- at 78: stop
              cases hx : nx c m s k with
              | none =>
                refine st_ild rfl rfl ?_
                refine st_k rfl ?_
                refine st_b2 rfl (fun zq => absurd zq ((fun z => z rfl))) (fun _ => ?_)
                refine st_ild rfl rfl ?_
                refine st_go rfl ?_
                refine st_ist rfl ?_
                refine st_inc rfl rfl ?_
                refine st_go rfl ?_
                -- at 54: stop
                exact ih3 _ _ ⟨_, _, nI_1 k, by rw [lb_s, gk_n0 hx, om_n]; rfl, rfl⟩
              | some s' =>
                obtain ⟨hw', hw2⟩ := nx_wS hw hl hk hws hx
                obtain ⟨d1, d2, d3, d4, d5⟩ := si_d hw hw'
                have htk := tk_le hw (last := s.2.1) hk
                have e5 : 182 * (nI td + 1) + nI (si s') = nI (182 * (20 - f) + si s') := by show nI 182 * (nI td + nI 1) + nI _ = _; rw [nI_add, pk_mul, nI_add, show td + 1 = 20 - f by omega]
                have hin2 : vp_in (nI (182 * (20 - f) + si s')) 3822 := vp_in_nI (by omega) (by decide)
                have hle := m_lesser (M := M3) (d + 1) (nI (nr (lb (sde c m s) (gk (LF c m f) c m s) k))) (nI (tk c s.2.1 k + nr (LF c m f s')))
                have hne : ¬ n9 (some s') = -9 := fun z => absurd (show nI (si s') < 0 by rw [show nI (si s') = -9 from z]; decide) (nI_pos (by omega))
                have hnr := nr_lt (x := LF c m f s') (fun v hv => by have := LF_lt hw (m := m) (s := s') (f := f) (by omega) v hv; omega)
                have hnr2 := nr_lt (x := lb (sde c m s) (gk (LF c m f) c m s) k) (fun v hv => by have := hbl v hv; omega)
                refine st_ild rfl rfl ?_
                refine st_k rfl ?_
                refine st_b2 rfl (fun _ => ?_) (fun zq => absurd (hne) zq)
                refine st_ild rfl rfl ?_
                refine st_ald rfl rfl ?_
                refine st_ild rfl rfl ?_
                refine st_call (As := [_]) rfl rfl rfl (Nat.le_of_ble_eq_true rfl) (eL) ?_
                refine st_ild rfl rfl ?_
                refine st_cav (As := [_, _]) rfl rfl rfl (by first | exact tT hM2 rfl | assumption | exact rw_T hM2 (by assumption) | exact rw_A hM2 (by assumption)) (Nat.le_of_ble_eq_true rfl) (m_takeOf d hM2 hw hc2 hws.2.1 hk) ?_
                refine st_ald rfl rfl ?_
                refine st_gR' rfl (by first | exact tT hM2 rfl | assumption | exact rw_T hM2 (by assumption) | exact rw_A hM2 (by assumption)) (by first | exact rR hM2 rfl rfl | assumption | exact rw_R hM2 (by assumption)) ?_
                refine st_k rfl ?_
                refine st_ild rfl rfl ?_
                refine st_k rfl ?_
                refine st_ib rfl ?_
                refine st_ib rfl ?_
                refine st_ild rfl rfl ?_
                refine st_ib rfl ?_
                -- at 114: stop
                refine wp_e e5 ?_
                refine st_iald rfl (tT hM2 rfl) (hin2) ?_
                -- at 115: stop
                refine wp_e (y := nI (nr (LF c m f s'))) (by rw [nI_clamp (by omega)]; exact hT2 f (by omega) s' hw') ?_
                refine st_ib rfl ?_
                -- at 116: stop
                refine wp_e (nI_add _ _) ?_
                have e6 : (if nI (nr (lb (sde c m s) (gk (LF c m f) c m s) k)) < nI (tk c s.2.1 k + nr (LF c m f s')) then nI (nr (lb (sde c m s) (gk (LF c m f) c m s) k)) else nI (tk c s.2.1 k + nr (LF c m f s'))) = nI (nr (lb (sde c m s) (gk (LF c m f) c m s) (k + 1))) := by
                  rw [lb_s, gk_x hx]
                  rw [← nr_oa (a := lb (sde c m s) (gk (LF c m f) c m s) k) (b := LF c m f s') (fun v hv => by have := hbl v hv; omega) (fun v hv => by have := LF_lt hw (m := m) (s := s') (f := f) (by omega) v hv; omega) htk]
                  by_cases g : nr (lb (sde c m s) (gk (LF c m f) c m s) k) < tk c s.2.1 k + nr (LF c m f s')
                  · rw [if_pos (nI_lt g (by omega)), if_pos g]
                  · rw [if_neg (nI_nlt (by omega) (by omega)), if_neg g]
                refine st_call (As := [_, _]) rfl rfl rfl (Nat.le_of_ble_eq_true rfl) (hle) ?_
                -- at 119: stop
                refine wp_e e6 ?_
                refine st_ist rfl ?_
                refine st_inc rfl rfl ?_
                refine st_go rfl ?_
                -- at 54: stop
                exact ih3 _ _ ⟨_, _, nI_1 k, rfl, rfl⟩
            · rintro L M3 ⟨x, y5, rfl, rfl, rfl⟩
              refine st_ild rfl rfl ?_
              refine st_ald rfl rfl ?_
              refine st_gI rfl (by first | exact tT hM2 rfl | assumption | exact rw_T hM2 (by assumption) | exact rw_A hM2 (by assumption)) ?_
              -- at 60: stop
              refine wp_e hc2.1.2.2.1 ?_
              refine st_b2 rfl (fun _ => ?_) (fun zq => absurd (nI_le (by omega) (by omega)) zq)
              -- at 126: stop
              exact fin _ _ _ (fun s' hs' z => by rw [si_inj hw hs' hws (by rw [z, hsi])]; rfl)
        by_cases gs : sdn c m s = true
        · refine st_ild rfl rfl ?_
          refine st_k rfl ?_
          refine st_b2 rfl (fun zq => absurd zq (nI_ge (a := q) (b := 182) (by omega) (by decide))) (fun _ => ?_)
          refine st_k rfl ?_
          refine st_ist rfl ?_
          refine st_ald rfl rfl ?_
          refine st_ild rfl rfl ?_
          refine st_cav (As := [_]) rfl rfl rfl (by first | exact tT hM2 rfl | assumption | exact rw_T hM2 (by assumption) | exact rw_A hM2 (by assumption)) (Nat.le_of_ble_eq_true rfl) (m_isState d hM2 hw hc2 hq) ?_
          refine st_b1 rfl (fun zq => absurd zq (b01_t gv)) (fun _ => ?_)
          refine st_ald rfl rfl ?_
          refine st_ild rfl rfl ?_
          refine st_cav (As := [_]) rfl rfl rfl (by first | exact tT hM2 rfl | assumption | exact rw_T hM2 (by assumption) | exact rw_A hM2 (by assumption)) (Nat.le_of_ble_eq_true rfl) (eS) ?_
          refine st_b1 rfl (fun zq => absurd zq (b01_t gs)) (fun _ => ?_)
          refine st_ald rfl rfl ?_
          refine st_ild rfl rfl ?_
          refine st_call (As := [_]) rfl rfl rfl (Nat.le_of_ble_eq_true rfl) (eL) ?_
          refine st_cav (As := [_]) rfl rfl rfl (by first | exact tT hM2 rfl | assumption | exact rw_T hM2 (by assumption) | exact rw_A hM2 (by assumption)) (Nat.le_of_ble_eq_true rfl) (m_endOf (d + 1) hM2 hw hc2 hws.2.1) ?_
          refine st_go rfl ?_
          refine st_ist rfl ?_
          -- at 51: stop
          exact loop _ _ _ (by unfold sde; rw [if_pos gs]; rfl)
        · refine st_ild rfl rfl ?_
          refine st_k rfl ?_
          refine st_b2 rfl (fun zq => absurd zq (nI_ge (a := q) (b := 182) (by omega) (by decide))) (fun _ => ?_)
          refine st_k rfl ?_
          refine st_ist rfl ?_
          refine st_ald rfl rfl ?_
          refine st_ild rfl rfl ?_
          refine st_cav (As := [_]) rfl rfl rfl (by first | exact tT hM2 rfl | assumption | exact rw_T hM2 (by assumption) | exact rw_A hM2 (by assumption)) (Nat.le_of_ble_eq_true rfl) (m_isState d hM2 hw hc2 hq) ?_
          refine st_b1 rfl (fun zq => absurd zq (b01_t gv)) (fun _ => ?_)
          refine st_ald rfl rfl ?_
          refine st_ild rfl rfl ?_
          refine st_cav (As := [_]) rfl rfl rfl (by first | exact tT hM2 rfl | assumption | exact rw_T hM2 (by assumption) | exact rw_A hM2 (by assumption)) (Nat.le_of_ble_eq_true rfl) (eS) ?_
          refine st_b1 rfl (fun _ => ?_) (fun zq => absurd (b01_f gs) zq)
          refine st_k rfl ?_
          refine st_ist rfl ?_
          -- at 51: stop
          exact loop _ _ _ (by unfold sde; rw [if_neg gs]; rfl)
      · rintro L M2 ⟨x, y3, y4, y5, rfl, rfl, hs2, hT2, hQ⟩
        refine st_ild rfl rfl ?_
        refine st_k rfl ?_
        refine st_b2 rfl (fun _ => ?_) (fun zq => absurd (nI_le (a := 182) (b := 182) (by decide) (by decide)) zq)
        refine st_inc rfl rfl ?_
        refine st_go rfl ?_
        -- at 3: stop
        refine ih _ _ ⟨_, _, _, _, _, ?_, rfl, hs2, fun f hf s hs => ?_⟩
        · rw [show 21 - (i + 1) = td by omega]
          exact (Int32.sub_eq_add_neg ..).symm
        · rcases Nat.lt_or_ge f i with z | z
          · exact hT2 f z s hs
          · rw [show f = i by omega]
            exact hQ s hs (si_d hw hs).2.2.2.1
    · rintro L M1 ⟨x, y2, y3, y4, y5, rfl, rfl, hs, hT⟩
      refine st_ild rfl rfl ?_
      refine st_b1 rfl (fun _ => ?_) (fun zq => absurd ((by decide)) zq)
      -- at 151: op_vret
      exact st_vret rfl ⟨rfl, hs, fun f hf => hT f (by omega)⟩)
  subst hr
  exact ⟨M', hcc, h5, h6⟩
end RML

/-! SIGNS CHANGED AMONG KNOTS: the reference -/
def MC0 (c : Cf) (M : pm_M) : Prop :=
  (gI M 132 9 = nI (cf_len c) ∧ gI M 132 10 = nI (cf_gir c) ∧ gI M 132 11 = nI (cf_n c) ∧ gI M 132 15 = nI (cf_nl c) ∧ gI M 132 17 = nI (cf_np c)) ∧
  (∀ k, k < cf_n c → gI M 139 k = nI (cf_kd c k) ∧ gI M 140 k = nI (cf_sz c k) ∧ gI M 142 k = nI (cf_br c k)) ∧
  (∀ i, i < cf_np c → gI M 143 (3 * i) = nI (cf_p1 c i) ∧ gI M 143 (3 * i + 1) = nI (cf_p2 c i) ∧ gI M 143 (3 * i + 2) = nI (cf_ps c i))
def RB (c : Cf) (b : Bs) (M : pm_M) : Prop := (b.1 ≤ cf_rm c ∧ gI M 132 48 = nI b.1 ∧ b.2.length = cf_n c ∧ ∀ i, i < cf_n c → gI M 161 i = nI (b.2.getD i 0)) ∨ (b.1 = cf_rm c + 1 ∧ gI M 132 48 = -1)
def RW (c : Cf) (m : List Nat) (w : List Nat) (b : Bs) (M : pm_M) : Prop := MC0 c M ∧ MM m M ∧ (∀ i, i < cf_n c → gI M 159 i = nI (cf_sg c i)) ∧ (∀ i, i < w.length → gI M 160 i = nI (w.getD i 0) ∧ gI M 141 i = nI (cf_sg c (w.getD i 0))) ∧ RB c b M
def RF (c : Cf) (M M' : pm_M) : Prop := M'.1 = M.1 ∧ (∀ k i, gR M' k i = gR M k i) ∧ (∀ k i, ¬ (k = 141 ∧ i < cf_n c) → k ≠ 156 → k ≠ 160 → k ≠ 161 → ¬ (k = 132 ∧ i = 48) → gI M' k i = gI M k i) ∧ ∀ k i, k ≠ 156 → gL M' k i = gL M k i
section RWS
variable {M M1 M2 : pm_M} {c : Cf} {m : List Nat}
theorem RF.rf (c : Cf) (M : pm_M) : RF c M M := ⟨rfl, fun _ _ => rfl, fun _ _ _ _ _ _ _ => rfl, fun _ _ _ => rfl⟩
theorem RF.tr (h : RF c M M1) (g : RF c M1 M2) : RF c M M2 := ⟨g.1.trans h.1, fun k i => (g.2.1 k i).trans (h.2.1 k i), fun k i z1 z2 z3 z4 z5 => (g.2.2.1 k i z1 z2 z3 z4 z5).trans (h.2.2.1 k i z1 z2 z3 z4 z5), fun k i z => (g.2.2.2 k i z).trans (h.2.2.2 k i z)⟩
theorem RF.ok (h : RF c M M1) (ho : pm_ok M) : pm_ok M1 := ⟨h.1.trans ho.1, fun k f hf => (h.2.1 k f).trans (ho.2 k f hf)⟩
theorem RF.s {k i : Nat} {v : Int32} (h : RF c M M1) (hk : (k = 141 ∧ i < cf_n c) ∨ k = 156 ∨ k = 160 ∨ k = 161 ∨ (k = 132 ∧ i = 48)) : RF c M (sI M1 k i v) := by
  refine ⟨h.1, h.2.1, fun q j z1 z2 z3 z4 z5 => ?_, h.2.2.2⟩
  rw [gI_nn (by rintro ⟨y1, y2⟩; subst y1; subst y2; omega)]
  exact h.2.2.1 q j z1 z2 z3 z4 z5
theorem RF.S (h : pm_S (fun k => k = 156) M M1) : RF c M M1 := ⟨h.1, h.2.1, fun k i _ z2 _ _ _ => h.i z2 i, fun k i z => h.l z i⟩
theorem RF.i (h : RF c M M1) (k i : Nat) (hk : ¬ ((k = 141 ∧ i < cf_n c) ∨ k = 156 ∨ k = 160 ∨ k = 161 ∨ (k = 132 ∧ i = 48))) : gI M1 k i = gI M k i := h.2.2.1 k i (by omega) (by omega) (by omega) (by omega) (by omega)
theorem RF.mc0 (h : RF c M M1) (hc : MC0 c M) : MC0 c M1 := by
  refine ⟨?_, fun k hk => ?_, fun i hi => ?_⟩
  · rw [h.i 132 9 (by omega), h.i 132 10 (by omega), h.i 132 11 (by omega), h.i 132 15 (by omega), h.i 132 17 (by omega)]; exact hc.1
  · rw [h.i 139 k (by omega), h.i 140 k (by omega), h.i 142 k (by omega)]; exact hc.2.1 k hk
  · rw [h.i 143 _ (by omega), h.i 143 _ (by omega), h.i 143 _ (by omega)]; exact hc.2.2 i hi
theorem RF.mm (h : RF c M M1) (hm : MM m M) : MM m M1 := ⟨by rw [h.i 132 40 (by omega)]; exact hm.1, hm.2.1, fun i hi => by rw [h.i 155 i (by omega)]; exact hm.2.2.1 i hi, hm.2.2.2⟩
theorem mc_cs {w : List Nat} (hl : w.length = cf_n c) (h : MC0 c M) (hs : ∀ i, i < w.length → gI M 141 i = nI (cf_sg c (w.getD i 0))) : MC (cs c w) M := ⟨h.1, fun k hk => ⟨(h.2.1 k hk).1, (h.2.1 k hk).2.1, hs k (by rw [hl]; exact hk), (h.2.1 k hk).2.2⟩, h.2.2⟩
theorem m_laySigns (hw : cf_wf c) (d : Nat) : ∀ f w g b M, pm_ok M → f + w.length = cf_n c → okw (cf_n c) w → gbt w g → RW c m w b M → ∃ M', pm_call (d + 5 + f) 240 [.ref 132, .int (nI w.length), .int (nI g)] M none M' ∧ RW c m w (AS (fun _ _ => false) (vl c m) (cf_n c) f w b) M' ∧ RF c M M' := by
  have hn := hw.1
  have hrm := rm99 hw
  intro f
  induction f with
  | zero =>
    intro w g b M hM hl hok hg h
    have hwn : w.length = cf_n c := by omega
    have hwc := cs_wf hw hok.1 hwn
    have hmc := mc_cs hwn h.1 (fun i hi => (h.2.2.2.1 i hi).2)
    obtain ⟨M1, hc1, s1, t1⟩ := m_shortestNow d (m := m) (c := cs c w) hM hwc hmc h.2.1
    have hM1 := s1.ok hM
    have f1 : RF c M M1 := RF.S s1
    have h1 : RW c m w b M1 := ⟨f1.mc0 h.1, f1.mm h.2.1, fun i hi => by rw [s1.i (by decide)]; exact h.2.2.1 i hi, fun i hi => by rw [s1.i (by decide), s1.i (by decide)]; exact h.2.2.2.1 i hi, by
      unfold RB
      simp only [s1.i (show ¬ 132 = 156 by decide), s1.i (show ¬ 161 = 156 by decide)]
      exact h.2.2.2.2⟩
    have stay : ∀ L, AS (fun _ _ => false) (vl c m) (cf_n c) 0 w b = b → pm_WP (pm_call (d + 4)) tb_240 (fun r M' => r = none ∧ RW c m w (AS (fun _ _ => false) (vl c m) (cf_n c) 0 w b) M' ∧ RF c M M') 71 L [] M1 := fun L e => st_vret rfl ⟨rfl, by rw [e]; exact h1, f1⟩
    have hAS : AS (fun _ _ => false) (vl c m) (cf_n c) 0 w b = if vl c m w < b.1 then (vl c m w, w) else b := rfl
    have hb1 : b.1 ≤ cf_rm c + 1 := by rcases h.2.2.2.2 with z | z <;> omega
    obtain ⟨r, M', hcc, hr, h5, h6⟩ := eq_240 (d := d + 4) (A := [.ref 132, .int (nI w.length), .int (nI g)]) (M := M) (Q := fun r M' => r = none ∧ RW c m w (AS (fun _ _ => false) (vl c m) (cf_n c) 0 w b) M' ∧ RF c M M') (Nat.le_of_ble_eq_true rfl) (by
      refine st_ild rfl rfl ?_
      refine st_ald rfl rfl ?_
      refine st_gI rfl (by first | exact tT hM rfl | assumption | exact rw_T hM (by assumption) | exact rw_A hM (by assumption)) ?_
      -- at 5: stop
      refine wp_e h.1.1.2.2.1 ?_
      refine st_b2 rfl (fun zq => absurd zq ((fun z => z (by rw [hwn])))) (fun _ => ?_)
      refine st_ald rfl rfl ?_
      refine st_cav (As := []) rfl rfl rfl (by first | exact tT hM rfl | assumption | exact rw_T hM (by assumption) | exact rw_A hM (by assumption)) (Nat.le_of_ble_eq_true rfl) (hc1) ?_
      -- at 12: stop
      rcases shr_nv (m := m) hwc with ⟨q1, q2, q3⟩ | ⟨v, q1, q2, q3⟩
      · rw [show shn (cs c w) m = -9 by unfold shn; rw [if_neg q3]]
        refine st_ist rfl ?_
        refine st_ild rfl rfl ?_
        refine st_k rfl ?_
        refine st_b2 rfl (fun _ => ?_) (fun zq => absurd (rfl) zq)
        -- at 71: stop
        refine stay _ ?_
        rw [hAS, if_neg (show ¬ vl c m w < b.1 by have q2' : ¬ vl c m w ≤ cf_rm c := q2; omega)]
      · have q3' : v ≤ cf_rm c := q3
        have evl : vl c m w = v := by unfold vl; rw [q2]; rfl
        rw [show shn (cs c w) m = nI v by unfold shn; rw [q2]; exact if_pos q3]
        have hne : ¬ nI v = -9 := fun z => absurd (show nI v < 0 by rw [z]; decide) (nI_pos (by omega))
        have upd : v < b.1 → ∀ y4, pm_WP (pm_call (d + 4)) tb_240 (fun r M' => r = none ∧ RW c m w (AS (fun _ _ => false) (vl c m) (cf_n c) 0 w b) M' ∧ RF c M M') 34 [some (.ref 132), some (.int (nI w.length)), some (.int (nI g)), some (.int (nI v)), y4] [] M1 := by
          intro gv y4
          rw [hAS, evl, if_pos gv]
          have f2 : RF c M (sI M1 132 48 (nI v)) := f1.s (by omega)
          have hM2 := f2.ok hM
          refine st_ald rfl rfl ?_
          refine st_ild rfl rfl ?_
          refine st_pI rfl (by first | exact tT hM1 rfl | assumption | exact rw_T hM1 (by assumption) | exact rw_A hM1 (by assumption)) ?_
          refine st_k rfl ?_
          refine st_ist rfl ?_
          -- at 42: stop
          refine wp_for (cf_n c) (fun i L M3 => ∃ x, x = nI i ∧ L = [some (.ref 132), some (.int (nI w.length)), some (.int (nI g)), some (.int (nI v)), some (.int x)] ∧ RF c M M3 ∧ (∀ k i, k ≠ 161 → gI M3 k i = gI (sI M1 132 48 (nI v)) k i) ∧ ∀ q, q < i → gI M3 161 q = nI (w.getD q 0)) ?_ ?_ 0 _ _ (Nat.zero_le _) ⟨_, rfl, rfl, f2, fun _ _ _ => rfl, fun q hq => by omega⟩
          · rintro i L M3 hi ⟨x, rfl, rfl, f3, e3, q4⟩ ih
            have hM3 := f3.ok hM
            have hin6 : vp_in (nI i) 6 := vp_in_nI (by omega) (by decide)
            refine st_ild rfl rfl ?_
            refine st_ald rfl rfl ?_
            refine st_gI rfl (by first | exact tT hM3 rfl | assumption | exact rw_T hM3 (by assumption) | exact rw_A hM3 (by assumption)) ?_
            -- at 48: stop
            refine wp_e (y := nI (cf_n c)) (by rw [f3.i 132 11 (by omega)]; exact h.1.1.2.2.1) ?_
            refine st_b2 rfl (fun zq => absurd zq (nI_ge hi (by omega))) (fun _ => ?_)
            refine st_ald rfl rfl ?_
            refine st_gR' rfl (by first | exact tT hM3 rfl | assumption | exact rw_T hM3 (by assumption) | exact rw_A hM3 (by assumption)) (by first | exact rR hM3 rfl rfl | assumption | exact rw_R hM3 (by assumption)) ?_
            refine st_ild rfl rfl ?_
            refine st_ald rfl rfl ?_
            refine st_gR' rfl (by first | exact tT hM3 rfl | assumption | exact rw_T hM3 (by assumption) | exact rw_A hM3 (by assumption)) (by first | exact rR hM3 rfl rfl | assumption | exact rw_R hM3 (by assumption)) ?_
            refine st_ild rfl rfl ?_
            refine st_iald rfl (by first | exact tT hM3 rfl | assumption | exact rw_T hM3 (by assumption) | exact rw_A hM3 (by assumption)) (by first | decide | assumption | exact vp_in_nI (by omega) (by decide)) ?_
            -- at 64: stop
            refine wp_e (y := nI (w.getD i 0)) (by rw [nI_clamp (by omega), e3 160 i (by decide), gI_ne (Or.inl (by decide))]; exact (h1.2.2.2.1 i (by omega)).1) ?_
            refine st_iast rfl (by first | exact tT hM3 rfl | assumption | exact rw_T hM3 (by assumption) | exact rw_A hM3 (by assumption)) (by first | decide | assumption | exact vp_in_nI (by omega) (by decide)) ?_
            refine st_inc rfl rfl ?_
            refine st_go rfl ?_
            -- at 42: stop
            rw [nI_clamp (by omega)]
            refine ih _ _ ⟨_, nI_1 i, rfl, f3.s (by omega), fun k i z => by rw [gI_ne (Or.inl z)]; exact e3 k i z, fun q hq => ?_⟩
            by_cases z : q = i
            · subst z; exact gI_same _ _ _ _
            · rw [gI_ne (Or.inr z)]; exact q4 q (by omega)
          · rintro L M3 ⟨x, rfl, rfl, f3, e3, q4⟩
            have hM3 := f3.ok hM
            refine st_ild rfl rfl ?_
            refine st_ald rfl rfl ?_
            refine st_gI rfl (by first | exact tT hM3 rfl | assumption | exact rw_T hM3 (by assumption) | exact rw_A hM3 (by assumption)) ?_
            -- at 48: stop
            refine wp_e (y := nI (cf_n c)) (by rw [f3.i 132 11 (by omega)]; exact h.1.1.2.2.1) ?_
            refine st_b2 rfl (fun _ => ?_) (fun zq => absurd (nI_le (Nat.le_refl _) (by omega)) zq)
            -- at 71: op_vret
            refine st_vret rfl ⟨rfl, ⟨f3.mc0 h.1, f3.mm h.2.1, fun i hi => by rw [f3.i 159 i (by omega)]; exact h.2.2.1 i hi, fun i hi => ?_, Or.inl ⟨q3', ?_, hwn, q4⟩⟩, f3⟩
            · rw [e3 160 i (by decide), gI_ne (Or.inl (by decide)), e3 141 i (by decide), gI_ne (Or.inl (by decide))]; exact h1.2.2.2.1 i hi
            · rw [e3 132 48 (by decide), gI_same]
        refine st_ist rfl ?_
        refine st_ild rfl rfl ?_
        refine st_k rfl ?_
        refine st_b2 rfl (fun zq => absurd zq (hne)) (fun _ => ?_)
        refine st_ald rfl rfl ?_
        refine st_gI rfl (by first | exact tT hM1 rfl | assumption | exact rw_T hM1 (by assumption) | exact rw_A hM1 (by assumption)) ?_
        -- at 23: stop
        rcases h1.2.2.2.2 with ⟨z1, z2, z3, z4⟩ | ⟨z1, z2⟩
        · refine wp_e z2 ?_
          refine st_b1 rfl (fun zq => absurd zq (nI_pos (by omega))) (fun _ => ?_)
          refine st_ild rfl rfl ?_
          refine st_ald rfl rfl ?_
          refine st_gI rfl (by first | exact tT hM1 rfl | assumption | exact rw_T hM1 (by assumption) | exact rw_A hM1 (by assumption)) ?_
          -- at 31: stop
          refine wp_e z2 ?_
          by_cases gv : v < b.1
          · refine st_b2 rfl (fun zq => absurd zq (nI_ge gv (by omega))) (fun _ => ?_)
            -- at 34: stop
            exact upd gv _
          · refine st_b2 rfl (fun _ => ?_) (fun zq => absurd (nI_le (by omega) (by omega)) zq)
            -- at 71: stop
            exact stay _ (by rw [hAS, evl, if_neg gv])
        · refine wp_e z2 ?_
          refine st_b1 rfl (fun _ => ?_) (fun zq => absurd ((by decide)) zq)
          -- at 34: stop
          exact upd (by omega) _)
    subst hr
    exact ⟨M', hcc, h5, h6⟩
  | succ f ih =>
    intro w g b M hM hl hok hg h
    have hwl : w.length < cf_n c := by omega
    obtain ⟨r, M', hcc, hr, h5, h6⟩ := eq_240 (d := d + 5 + f) (A := [.ref 132, .int (nI w.length), .int (nI g)]) (M := M) (Q := fun r M' => r = none ∧ RW c m w (AS (fun _ _ => false) (vl c m) (cf_n c) (f + 1) w b) M' ∧ RF c M M') (Nat.le_of_ble_eq_true rfl) (by
      refine st_ild rfl rfl ?_
      refine st_ald rfl rfl ?_
      refine st_gI rfl (by first | exact tT hM rfl | assumption | exact rw_T hM (by assumption) | exact rw_A hM (by assumption)) ?_
      -- at 5: stop
      refine wp_e h.1.1.2.2.1 ?_
      refine st_b2 rfl (fun _ => ?_) (fun zq => absurd ((fun z => by have := (nI_eq (by omega) (by omega)).mp z; omega)) zq)
      refine st_k rfl ?_
      refine st_ist rfl ?_
      -- at 74: stop
      refine wp_for (cf_n c) (fun k L M1 => ∃ x y4, x = nI k ∧ L = [some (.ref 132), some (.int (nI w.length)), some (.int (nI g)), some (.int x), y4] ∧ RF c M M1 ∧ RW c m w (lpb (fun o b => if o ∈ w then b else if (fun (_ : List Nat) (_ : Nat) => false) w o = true then b else AS (fun _ _ => false) (vl c m) (cf_n c) f (w ++ [o]) b) k b) M1) ?_ ?_ 0 _ _ (Nat.zero_le _) ⟨_, _, rfl, rfl, RF.rf c M, h⟩
      · rintro k L M1 hk ⟨x, y4, rfl, rfl, f1, h1⟩ ih2
        have hM1 := f1.ok hM
        have hh := m_has (M := M1) (d + 4 + f) (nI g) (nI k)
        rw [show d + 4 + f + 1 = d + 5 + f by omega] at hh
        generalize hB : lpb (fun o b => if o ∈ w then b else if (fun (_ : List Nat) (_ : Nat) => false) w o = true then b else AS (fun _ _ => false) (vl c m) (cf_n c) f (w ++ [o]) b) k b = B at h1
        have hnext : lpb (fun o b => if o ∈ w then b else if (fun (_ : List Nat) (_ : Nat) => false) w o = true then b else AS (fun _ _ => false) (vl c m) (cf_n c) f (w ++ [o]) b) (k + 1) b = if k ∈ w then B else AS (fun _ _ => false) (vl c m) (cf_n c) f (w ++ [k]) B := by
          rw [lpb_s, hB]
          dsimp only
          rw [if_neg (show ¬ false = true by decide)]
        refine st_ild rfl rfl ?_
        refine st_ald rfl rfl ?_
        refine st_gI rfl (by first | exact tT hM1 rfl | assumption | exact rw_T hM1 (by assumption) | exact rw_A hM1 (by assumption)) ?_
        -- at 79: stop
        refine wp_e h1.1.1.2.2.1 ?_
        refine st_b2 rfl (fun zq => absurd zq (nI_ge hk (by omega))) (fun _ => ?_)
        refine st_ild rfl rfl ?_
        refine st_ild rfl rfl ?_
        refine st_call (As := [_, _]) rfl rfl rfl (Nat.le_of_ble_eq_true rfl) (hh) ?_
        -- at 87: stop
        by_cases g1 : g.testBit k = true
        · have g1' := (bit1 hg.1 (show k < 6 by omega)).mpr g1
          refine st_b1 rfl (fun _ => ?_) (fun zq => absurd (b01_t g1') zq)
          refine st_inc rfl rfl ?_
          refine st_go rfl ?_
          -- at 74: stop
          exact ih2 _ _ ⟨_, _, nI_1 k, rfl, f1, by rw [hnext, if_pos ((hg.2 k).mp g1)]; exact h1⟩
        · have g1' := fun z => g1 ((bit1 hg.1 (show k < 6 by omega)).mp z)
          have hkw : ¬ k ∈ w := fun z => g1 ((hg.2 k).mpr z)
          obtain ⟨o1, o2⟩ := gbt_s hg (show k < 6 by omega)
          have hin6 : vp_in (nI k) 6 := vp_in_nI (by omega) (by decide)
          have hinw : vp_in (nI w.length) 6 := vp_in_nI (by omega) (by decide)
          have ew : (nI w.length).toNatClampNeg = w.length := nI_clamp (by omega)
          have f2 : RF c M1 (sI (sI M1 160 w.length (nI k)) 141 w.length (nI (cf_sg c k))) := ((RF.rf c M1).s (by omega)).s (by omega)
          have hM2 : pm_ok (sI M1 160 w.length (nI k)) := hM1
          have hM3 := f2.ok hM1
          have h3 : RW c m (w ++ [k]) B (sI (sI M1 160 w.length (nI k)) 141 w.length (nI (cf_sg c k))) := by
            refine ⟨f2.mc0 h1.1, f2.mm h1.2.1, fun i hi => by rw [gI_ne (Or.inl (by decide)), gI_ne (Or.inl (by decide))]; exact h1.2.2.1 i hi, fun i hi => ?_, ?_⟩
            · rw [List.length_append, List.length_singleton] at hi
              by_cases z : i = w.length
              · subst z
                rw [gI_same, gI_ne (Or.inl (by decide)), gI_same]
                simp
              · have hi' : i < w.length := by omega
                rw [gI_ne (Or.inl (by decide)), gI_ne (Or.inr z), gI_ne (Or.inr z), gI_ne (Or.inl (by decide))]
                have e : (w ++ [k]).getD i 0 = w.getD i 0 := by simp [List.getD_eq_getElem?_getD, List.getElem?_append_left hi']
                rw [e]
                exact h1.2.2.2.1 i hi'
            · have hb := h1.2.2.2.2
              unfold RB at hb ⊢
              simp only [fun i => gI_ne (M := sI M1 160 w.length (nI k)) (k := 141) (i := w.length) (k' := 132) (i' := i) (v := nI (cf_sg c k)) (Or.inl (by decide)), fun i => gI_ne (M := M1) (k := 160) (i := w.length) (k' := 132) (i' := i) (v := nI k) (Or.inl (by decide)), fun i => gI_ne (M := sI M1 160 w.length (nI k)) (k := 141) (i := w.length) (k' := 161) (i' := i) (v := nI (cf_sg c k)) (Or.inl (by decide)), fun i => gI_ne (M := M1) (k := 160) (i := w.length) (k' := 161) (i' := i) (v := nI k) (Or.inl (by decide))]
              exact hb
          obtain ⟨M4, hc4, h4, f4⟩ := ih (w ++ [k]) (g ||| 2 ^ k) B _ hM3 (by simp; omega) (okw_s hok hk hkw) o2 h3
          rw [show (w ++ [k]).length = w.length + 1 by simp] at hc4
          have h5 : RW c m w (AS (fun _ _ => false) (vl c m) (cf_n c) f (w ++ [k]) B) M4 := by
            refine ⟨h4.1, h4.2.1, h4.2.2.1, fun i hi => ?_, h4.2.2.2.2⟩
            have := h4.2.2.2.1 i (by simp; omega)
            rw [show (w ++ [k]).getD i 0 = w.getD i 0 by simp [List.getD_eq_getElem?_getD, List.getElem?_append_left hi]] at this
            exact this
          refine st_b1 rfl (fun zq => absurd zq ((fun z => z (b01_f g1')))) (fun _ => ?_)
          refine st_ald rfl rfl ?_
          refine st_gR' rfl (by first | exact tT hM1 rfl | assumption | exact rw_T hM1 (by assumption) | exact rw_A hM1 (by assumption)) (by first | exact rR hM1 rfl rfl | assumption | exact rw_R hM1 (by assumption)) ?_
          refine st_ild rfl rfl ?_
          refine st_ild rfl rfl ?_
          refine st_iast rfl (tT hM1 rfl) (hinw) ?_
          -- at 97: stop
          rw [ew]
          refine st_ald rfl rfl ?_
          refine st_gR' rfl (by first | exact tT hM2 rfl | assumption | exact rw_T hM2 (by assumption) | exact rw_A hM2 (by assumption)) (by first | exact rR hM2 rfl rfl | assumption | exact rw_R hM2 (by assumption)) ?_
          refine st_ild rfl rfl ?_
          refine st_ald rfl rfl ?_
          refine st_gR' rfl (by first | exact tT hM2 rfl | assumption | exact rw_T hM2 (by assumption) | exact rw_A hM2 (by assumption)) (by first | exact rR hM2 rfl rfl | assumption | exact rw_R hM2 (by assumption)) ?_
          refine st_ild rfl rfl ?_
          refine st_iald rfl (by first | exact tT hM2 rfl | assumption | exact rw_T hM2 (by assumption) | exact rw_A hM2 (by assumption)) (by first | decide | assumption | exact vp_in_nI (by omega) (by decide)) ?_
          -- at 108: stop
          refine wp_e (y := nI (cf_sg c k)) (by rw [nI_clamp (by omega), gI_ne (Or.inl (by decide))]; exact h1.2.2.1 k hk) ?_
          refine st_iast rfl (tT hM2 rfl) (hinw) ?_
          -- at 109: stop
          rw [ew]
          refine st_ald rfl rfl ?_
          refine st_ild rfl rfl ?_
          refine st_k rfl ?_
          refine st_ib rfl ?_
          -- at 113: stop
          rw [nI_1]
          refine st_ild rfl rfl ?_
          refine st_k rfl ?_
          refine st_ild rfl rfl ?_
          refine st_ib rfl ?_
          refine st_ib rfl ?_
          -- at 118: stop
          rw [o1]
          refine st_cav (As := [_, _]) rfl rfl rfl (by first | exact tT hM3 rfl | assumption | exact rw_T hM3 (by assumption) | exact rw_A hM3 (by assumption)) (Nat.le_of_ble_eq_true rfl) (hc4) ?_
          refine st_inc rfl rfl ?_
          refine st_go rfl ?_
          -- at 74: stop
          exact ih2 _ _ ⟨_, _, nI_1 k, rfl, f1.tr (f2.tr f4), by rw [hnext, if_neg hkw]; exact h5⟩
      · rintro L M1 ⟨x, y4, rfl, rfl, f1, h1⟩
        have hM1 := f1.ok hM
        refine st_ild rfl rfl ?_
        refine st_ald rfl rfl ?_
        refine st_gI rfl (by first | exact tT hM1 rfl | assumption | exact rw_T hM1 (by assumption) | exact rw_A hM1 (by assumption)) ?_
        -- at 79: stop
        refine wp_e h1.1.1.2.2.1 ?_
        refine st_b2 rfl (fun _ => ?_) (fun zq => absurd (nI_le (Nat.le_refl _) (by omega)) zq)
        -- at 127: op_vret
        exact st_vret rfl ⟨rfl, h1, f1⟩)
    subst hr
    exact ⟨M', hcc, h5, h6⟩
end RWS

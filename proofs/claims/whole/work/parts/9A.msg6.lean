/-! MESSAGES: the class's walk by cells -/
section CSY
variable {c0 c : Cf} {m : List Nat} {M : pm_M} {pc : Nat}
theorem c_isShut (d : Nat) {x : Ce} (h1 : x.1 ≤ 12) (h2 : x.2.1 < 10) (h3 : x.2.2.2 ≤ 6) : pm_call (d + 1) 69 [.int (nI (ci x))] M (some (.int (if x.2.2.1 = false then 1 else 0))) M := by
  obtain ⟨d1, d2, d3, d4, d5⟩ := ci_d h1 h2 h3
  refine en_69 (Nat.le_of_ble_eq_true rfl) ?_
  refine st_ild rfl rfl ?_
  refine st_k rfl ?_
  refine st_idv rfl ((by decide)) ?_
  -- at 4: stop
  refine wp_e (pk_rem (a := ci x) (d := 14) (by omega) (by decide) (by decide)) ?_
  by_cases g : ci x % 14 < 7
  · have e := d3.mp g
    refine st_k rfl ?_
    refine st_b2 rfl (fun _ => ?_) (fun zq => absurd (nI_lt (a := ci x % 14) (b := 7) g (by decide)) zq)
    refine st_k rfl ?_
    -- at 14: op_zret
    exact st_zret rfl (by decide) ⟨by rw [if_neg (by rw [e]; decide)], rfl⟩
  · have e : x.2.2.1 = false := by
      cases hb : x.2.2.1
      · rfl
      · exact absurd (d3.mpr hb) g
    refine st_k rfl ?_
    refine st_b2 rfl (fun zq => absurd zq (nI_nlt (a := ci x % 14) (b := 7) (by omega) (by omega))) (fun _ => ?_)
    refine st_k rfl ?_
    refine st_go rfl ?_
    -- at 14: op_zret
    exact st_zret rfl (by decide) ⟨by rw [if_pos e], rfl⟩
theorem c_ending (d : Nat) (hM : pm_ok M) (h : SY c0 c m M) (hp : pcok c m pc) {x : Ce} (hx : vx c m pc x) : pm_call (d + 2) 63 [.ref 27, .int (nI (ci x))] M (some (.int (nI (nv (sde c m (stc x)))))) M := by
  have hw := h.2.2.2.1
  have hn := hw.1
  have hl := h.2.2.2.2.2.1
  obtain ⟨b1, b2, b3, b4, b5⟩ := vx_b hw hp hx
  obtain ⟨d1, d2, d3, d4, d5⟩ := ci_d b1 b3 b5
  have hsh := c_isShut (M := M) d b1 b3 b5
  have hin7 : vp_in (nI x.2.2.2) 7 := vp_in_nI (by omega) (by decide)
  have eE : gI M 15 (nI x.2.2.2).toNatClampNeg = nI (em c x.2.2.2) := by rw [nI_clamp (by omega)]; exact sy_em h b4
  refine en_63 (Nat.le_of_ble_eq_true rfl) ?_
  refine st_ild rfl rfl ?_
  refine st_k rfl ?_
  refine st_idv rfl ((by decide)) ?_
  -- at 5: stop
  refine wp_e (pk_div (a := ci x) (d := 140) (by omega) (by decide) (by decide)) ?_
  rw [d1]
  refine st_ist rfl ?_
  refine st_ild rfl rfl ?_
  refine st_k rfl ?_
  refine st_idv rfl ((by decide)) ?_
  -- at 10: stop
  refine wp_e (pk_rem (a := ci x) (d := 7) (by omega) (by decide) (by decide)) ?_
  rw [d2]
  refine st_ist rfl ?_
  refine st_ild rfl rfl ?_
  refine st_call (As := [_]) rfl rfl rfl (Nat.le_of_ble_eq_true rfl) (hsh) ?_
  -- at 15: stop
  by_cases go : x.2.2.1 = false
  · refine st_b1 rfl (fun zq => absurd zq (b01_t go)) (fun _ => ?_)
    refine st_ild rfl rfl ?_
    refine st_ald rfl rfl ?_
    refine st_gR' rfl (by first | exact tT hM rfl | assumption | exact rw_T hM (by assumption) | exact rw_A hM (by assumption)) (by first | exact rR hM rfl rfl | assumption | exact rw_R hM (by assumption)) ?_
    refine st_gI rfl (by first | exact tT hM rfl | assumption | exact rw_T hM (by assumption) | exact rw_A hM (by assumption)) ?_
    -- at 26: stop
    refine wp_e (sy_l h) ?_
    have es : sde c m (stc x) = if x.1 = m.length then some (em c x.2.2.2) else none := by
      unfold sde sdn stc
      dsimp only
      rw [go]
      simp
    rw [es]
    by_cases g : x.1 = m.length
    · refine st_b2 rfl (fun zq => absurd zq ((fun z => z (by rw [g])))) (fun _ => ?_)
      refine st_ald rfl rfl ?_
      refine st_gR' rfl (by first | exact tT hM rfl | assumption | exact rw_T hM (by assumption) | exact rw_A hM (by assumption)) (by first | exact rR hM rfl rfl | assumption | exact rw_R hM (by assumption)) ?_
      refine st_gR' rfl (by first | exact tT hM rfl | assumption | exact rw_T hM (by assumption) | exact rw_A hM (by assumption)) (by first | exact rR hM rfl rfl | assumption | exact rw_R hM (by assumption)) ?_
      refine st_ild rfl rfl ?_
      refine st_iald rfl (by first | exact tT hM rfl | assumption | exact rw_T hM (by assumption) | exact rw_A hM (by assumption)) (by first | decide | assumption | exact vp_in_nI (by omega) (by decide)) ?_
      -- at 38: stop
      refine wp_e eE ?_
      refine st_go rfl ?_
      -- at 44: op_iret
      exact st_iret rfl ⟨by rw [if_pos g]; rfl, rfl⟩
    · refine st_b2 rfl (fun _ => ?_) (fun zq => absurd ((fun z => g ((nI_eq (by omega) (by omega)).mp z))) zq)
      refine st_k rfl ?_
      -- at 44: op_iret
      exact st_iret rfl ⟨by rw [if_neg g]; rfl, rfl⟩
  · have gt : x.2.2.1 = true := by
      cases hb : x.2.2.1
      · exact absurd hb go
      · rfl
    have hlast : x.2.2.2 < cf_n c := vx_ok hx gt
    have hxl : x.1 < m.length := by
      rcases hx.2 with w | w
      · rw [w] at gt; cases gt
      · exact w.2.1 gt
    have hin6 : vp_in (nI x.2.2.2) 6 := vp_in_nI (by omega) (by decide)
    have hin40 : vp_in (nI x.1) 40 := vp_in_nI (by omega) (by decide)
    have hsg := (hw.2.2.2.2.2.1 _ hlast).2.2.2.1
    obtain ⟨m1, m2⟩ := sy_m h hxl
    have es : sde c m (stc x) = if x.1 + 1 = m.length ∧ cf_sg c x.2.2.2 = m.getD x.1 0 then some (em c x.2.2.2) else none := by
      unfold sde sdn stc
      dsimp only
      rw [gt]
      simp
    rw [es]
    have no : ∀ y4, ¬ (x.1 + 1 = m.length ∧ cf_sg c x.2.2.2 = m.getD x.1 0) → pm_WP (pm_call (d + 1)) tb_63 (fun r0 M1 => r0 = some (.int (nI (nv (if x.1 + 1 = m.length ∧ cf_sg c x.2.2.2 = m.getD x.1 0 then some (em c x.2.2.2) else none)))) ∧ M1 = M) 80 [some (.ref 27), some (.int (nI (ci x))), some (.int (nI x.1)), some (.int (nI x.2.2.2)), y4] [] M := by
      intro y4 z
      refine st_k rfl ?_
      refine st_ist rfl ?_
      refine st_ild rfl rfl ?_
      refine st_b1 rfl (fun _ => ?_) (fun zq => absurd (rfl) zq)
      refine st_k rfl ?_
      -- at 103: op_iret
      exact st_iret rfl ⟨by rw [if_neg z]; rfl, rfl⟩
    refine st_b1 rfl (fun _ => ?_) (fun zq => absurd (b01_f go) zq)
    refine st_ild rfl rfl ?_
    refine st_k rfl ?_
    refine st_ib rfl ?_
    -- at 48: stop
    rw [nI_1]
    refine st_ald rfl rfl ?_
    refine st_gR' rfl (by first | exact tT hM rfl | assumption | exact rw_T hM (by assumption) | exact rw_A hM (by assumption)) (by first | exact rR hM rfl rfl | assumption | exact rw_R hM (by assumption)) ?_
    refine st_gI rfl (by first | exact tT hM rfl | assumption | exact rw_T hM (by assumption) | exact rw_A hM (by assumption)) ?_
    -- at 55: stop
    refine wp_e (sy_l h) ?_
    by_cases g : x.1 + 1 = m.length
    · refine st_b2 rfl (fun zq => absurd zq ((fun z => z (by rw [g])))) (fun _ => ?_)
      refine st_ald rfl rfl ?_
      refine st_gR' rfl (by first | exact tT hM rfl | assumption | exact rw_T hM (by assumption) | exact rw_A hM (by assumption)) (by first | exact rR hM rfl rfl | assumption | exact rw_R hM (by assumption)) ?_
      refine st_ild rfl rfl ?_
      refine st_iald rfl (by first | exact tT hM rfl | assumption | exact rw_T hM (by assumption) | exact rw_A hM (by assumption)) (by first | decide | assumption | exact vp_in_nI (by omega) (by decide)) ?_
      -- at 64: stop
      refine wp_e (y := nI (cf_sg c x.2.2.2)) (by rw [nI_clamp (by omega)]; exact h.2.2.2.2.2.2.2 _ hlast) ?_
      refine st_ald rfl rfl ?_
      refine st_gR' rfl (by first | exact tT hM rfl | assumption | exact rw_T hM (by assumption) | exact rw_A hM (by assumption)) (by first | exact rR hM rfl rfl | assumption | exact rw_R hM (by assumption)) ?_
      refine st_gR' rfl (by first | exact tT hM rfl | assumption | exact rw_T hM (by assumption) | exact rw_A hM (by assumption)) (by first | exact rR hM rfl rfl | assumption | exact rw_R hM (by assumption)) ?_
      refine st_ild rfl rfl ?_
      refine st_iald rfl (by first | exact tT hM rfl | assumption | exact rw_T hM (by assumption) | exact rw_A hM (by assumption)) (by first | decide | assumption | exact vp_in_nI (by omega) (by decide)) ?_
      -- at 73: stop
      refine wp_e (y := nI (m.getD x.1 0)) (by rw [nI_clamp (by omega)]; exact m1) ?_
      by_cases g2 : cf_sg c x.2.2.2 = m.getD x.1 0
      · refine st_b2 rfl (fun zq => absurd zq ((fun z => z (by rw [g2])))) (fun _ => ?_)
        refine st_k rfl ?_
        refine st_go rfl ?_
        refine st_ist rfl ?_
        refine st_ild rfl rfl ?_
        refine st_b1 rfl (fun zq => absurd zq ((by decide))) (fun _ => ?_)
        refine st_ald rfl rfl ?_
        refine st_gR' rfl (by first | exact tT hM rfl | assumption | exact rw_T hM (by assumption) | exact rw_A hM (by assumption)) (by first | exact rR hM rfl rfl | assumption | exact rw_R hM (by assumption)) ?_
        refine st_gR' rfl (by first | exact tT hM rfl | assumption | exact rw_T hM (by assumption) | exact rw_A hM (by assumption)) (by first | exact rR hM rfl rfl | assumption | exact rw_R hM (by assumption)) ?_
        refine st_ild rfl rfl ?_
        refine st_iald rfl (by first | exact tT hM rfl | assumption | exact rw_T hM (by assumption) | exact rw_A hM (by assumption)) (by first | decide | assumption | exact vp_in_nI (by omega) (by decide)) ?_
        -- at 97: stop
        refine wp_e eE ?_
        refine st_go rfl ?_
        -- at 103: op_iret
        exact st_iret rfl ⟨by rw [if_pos ⟨g, g2⟩]; rfl, rfl⟩
      · refine st_b2 rfl (fun _ => ?_) (fun zq => absurd ((fun z => g2 ((nI_eq (by omega) (by omega)).mp z))) zq)
        -- at 80: stop
        exact no _ (fun z => g2 z.2)
    · refine st_b2 rfl (fun _ => ?_) (fun zq => absurd ((fun z => g ((nI_eq (by omega) (by omega)).mp z))) zq)
      -- at 80: stop
      exact no _ (fun z => g z.1)
theorem c_onward (d : Nat) (hM : pm_ok M) (h : SP c0 c m pc M) {x : Ce} (hx : vx c m pc x) {k : Nat} (hk : k < cf_n c) : pm_call (d + 2) 64 [.ref 27, .int (nI (ci x)), .int (nI k)] M (some (.int (o32 (on c m pc x k)))) M := by
  obtain ⟨hy, hpc, hp⟩ := h
  have hw := hy.2.2.2.1
  have hn := hw.1
  have hl := hy.2.2.2.2.2.1
  obtain ⟨b1, b2, b3, b4, b5⟩ := vx_b hw hp hx
  obtain ⟨d1, d2, d3, d4, d5⟩ := ci_d b1 b3 b5
  have hsh := c_isShut (M := M) d b1 b3 b5
  have hok := vx_ok hx
  have hpx := hx.1
  have hpc10 : pc ≤ 10 := by rcases hp.2 with z | z <;> omega
  refine en_64 (Nat.le_of_ble_eq_true rfl) ?_
  refine st_ild rfl rfl ?_
  refine st_k rfl ?_
  refine st_idv rfl ((by decide)) ?_
  -- at 5: stop
  refine wp_e (pk_div (a := ci x) (d := 140) (by omega) (by decide) (by decide)) ?_
  rw [d1]
  refine st_ist rfl ?_
  refine st_ild rfl rfl ?_
  refine st_k rfl ?_
  refine st_idv rfl ((by decide)) ?_
  -- at 10: stop
  refine wp_e (pk_rem (a := ci x) (d := 7) (by omega) (by decide) (by decide)) ?_
  rw [d2]
  refine st_ist rfl ?_
  refine st_ild rfl rfl ?_
  refine st_ald rfl rfl ?_
  refine st_gR' rfl (by first | exact tT hM rfl | assumption | exact rw_T hM (by assumption) | exact rw_A hM (by assumption)) (by first | exact rR hM rfl rfl | assumption | exact rw_R hM (by assumption)) ?_
  refine st_gI rfl (by first | exact tT hM rfl | assumption | exact rw_T hM (by assumption) | exact rw_A hM (by assumption)) ?_
  -- at 20: stop
  refine wp_e (sy_l hy) ?_
  by_cases gr : m.length ≤ x.1
  · refine st_b2 rfl (fun _ => ?_) (fun zq => absurd (nI_le gr (by omega)) zq)
    refine st_k rfl ?_
    -- at 37: op_iret
    exact st_iret rfl ⟨by unfold on; rw [if_pos (Or.inl gr)]; rfl, rfl⟩
  by_cases gb : bar c x.2.2.2 k = true
  · refine st_b2 rfl (fun zq => absurd zq (nI_ge (by omega) (by omega))) (fun _ => ?_)
    refine st_ald rfl rfl ?_
    refine st_gR' rfl (by first | exact tT hM rfl | assumption | exact rw_T hM (by assumption) | exact rw_A hM (by assumption)) (by first | exact rR hM rfl rfl | assumption | exact rw_R hM (by assumption)) ?_
    refine st_ild rfl rfl ?_
    refine st_ild rfl rfl ?_
    refine st_cav (As := [_, _]) rfl rfl rfl (by first | exact tT hM rfl | assumption | exact rw_T hM (by assumption) | exact rw_A hM (by assumption)) (Nat.le_of_ble_eq_true rfl) (sy_bar d hM hy b4 hk) ?_
    refine st_b1 rfl (fun zq => absurd zq (b01_t gb)) (fun _ => ?_)
    refine st_k rfl ?_
    -- at 37: op_iret
    exact st_iret rfl ⟨by unfold on; rw [if_pos (Or.inr gb)]; rfl, rfl⟩
  refine st_b2 rfl (fun zq => absurd zq (nI_ge (by omega) (by omega))) (fun _ => ?_)
  refine st_ald rfl rfl ?_
  refine st_gR' rfl (by first | exact tT hM rfl | assumption | exact rw_T hM (by assumption) | exact rw_A hM (by assumption)) (by first | exact rR hM rfl rfl | assumption | exact rw_R hM (by assumption)) ?_
  refine st_ild rfl rfl ?_
  refine st_ild rfl rfl ?_
  refine st_cav (As := [_, _]) rfl rfl rfl (by first | exact tT hM rfl | assumption | exact rw_T hM (by assumption) | exact rw_A hM (by assumption)) (Nat.le_of_ble_eq_true rfl) (sy_bar d hM hy b4 hk) ?_
  refine st_b1 rfl (fun _ => ?_) (fun zq => absurd (b01_f gb) zq)
  -- at 38: stop
  obtain ⟨r, p, o, last⟩ := x
  dsimp only at *
  have on1 : on c m pc (r, p, o, last) k = if o = false then some (r, p, true, k) else match pr c last k with
      | none => if r + 1 < m.length ∧ cf_sg c last = m.getD r 0 then some (r + 1, p, true, k) else none
      | some t => if t = m.getD r 0 ∧ p + mp pc < pc then some (r + 1, p + mp pc, false, k) else none := by
    unfold on
    exact if_neg (fun z => z.elim gr gb)
  rw [on1]
  cases o with
  | false =>
    have ec : ci (r, p, false, last) = r * 140 + p * 14 + 7 + last := rfl
    refine st_ild rfl rfl ?_
    refine st_call (As := [_]) rfl rfl rfl (Nat.le_of_ble_eq_true rfl) (hsh) ?_
    refine st_b1 rfl (fun zq => absurd zq (b01_t rfl)) (fun _ => ?_)
    refine st_ild rfl rfl ?_
    refine st_k rfl ?_
    refine st_ib rfl ?_
    -- at 49: stop
    refine wp_e (pk_sub (a := ci (r, p, false, last)) (b := 7) (by omega)) ?_
    refine st_ild rfl rfl ?_
    refine st_ib rfl ?_
    -- at 52: stop
    refine wp_e (pk_sub (by omega)) ?_
    refine st_ild rfl rfl ?_
    refine st_ib rfl ?_
    -- at 54: stop
    refine wp_e (nI_add _ _) ?_
    refine st_iret rfl ⟨?_, rfl⟩
    rw [if_pos rfl]
    show _ = some (Value.int (nI (r * 140 + p * 14 + 0 + k)))
    congr 3
    omega
  | true =>
    have ec : ci (r, p, true, last) = r * 140 + p * 14 + 0 + last := rfl
    have hlast : last < cf_n c := hok rfl
    have hin6 : vp_in (nI last) 6 := vp_in_nI (by omega) (by decide)
    have hin40 : vp_in (nI r) 40 := vp_in_nI (by omega) (by decide)
    have hsg := (hw.2.2.2.2.2.1 _ hlast).2.2.2.1
    obtain ⟨m1, m2⟩ := sy_m hy (show r < m.length by omega)
    rw [if_neg (by decide)]
    refine st_ild rfl rfl ?_
    refine st_call (As := [_]) rfl rfl rfl (Nat.le_of_ble_eq_true rfl) (hsh) ?_
    refine st_b1 rfl (fun _ => ?_) (fun zq => absurd (rfl) zq)
    refine st_ald rfl rfl ?_
    refine st_gR' rfl (by first | exact tT hM rfl | assumption | exact rw_T hM (by assumption) | exact rw_A hM (by assumption)) (by first | exact rR hM rfl rfl | assumption | exact rw_R hM (by assumption)) ?_
    refine st_ild rfl rfl ?_
    refine st_ild rfl rfl ?_
    refine st_cav (As := [_, _]) rfl rfl rfl (by first | exact tT hM rfl | assumption | exact rw_T hM (by assumption) | exact rw_A hM (by assumption)) (Nat.le_of_ble_eq_true rfl) (sy_pr d hM hy hlast hk) ?_
    refine st_ist rfl ?_
    -- at 67: stop
    cases hq : pr c last k with
    | none =>
      dsimp only
      have no : ∀ y6, ¬ (r + 1 < m.length ∧ cf_sg c last = m.getD r 0) → pm_WP (pm_call (d + 1)) tb_64 (fun r0 M1 => r0 = some (.int (o32 (if r + 1 < m.length ∧ cf_sg c last = m.getD r 0 then some (r + 1, p, true, k) else none))) ∧ M1 = M) 109 [some (.ref 27), some (.int (nI (ci (r, p, true, last)))), some (.int (nI k)), some (.int (nI r)), some (.int (nI last)), some (.int (p32 none)), y6, none] [] M := by
        intro y6 z
        refine st_k rfl ?_
        refine st_ist rfl ?_
        refine st_ild rfl rfl ?_
        refine st_b1 rfl (fun _ => ?_) (fun zq => absurd (rfl) zq)
        refine st_k rfl ?_
        -- at 131: op_iret
        exact st_iret rfl ⟨by rw [if_neg z]; rfl, rfl⟩
      refine st_ild rfl rfl ?_
      refine st_k rfl ?_
      refine st_b2 rfl (fun zq => absurd zq ((fun z => z rfl))) (fun _ => ?_)
      refine st_ild rfl rfl ?_
      refine st_k rfl ?_
      refine st_ib rfl ?_
      -- at 76: stop
      rw [nI_1]
      refine st_ald rfl rfl ?_
      refine st_gR' rfl (by first | exact tT hM rfl | assumption | exact rw_T hM (by assumption) | exact rw_A hM (by assumption)) (by first | exact rR hM rfl rfl | assumption | exact rw_R hM (by assumption)) ?_
      refine st_gI rfl (by first | exact tT hM rfl | assumption | exact rw_T hM (by assumption) | exact rw_A hM (by assumption)) ?_
      -- at 83: stop
      refine wp_e (sy_l hy) ?_
      by_cases g : r + 1 < m.length
      · refine st_b2 rfl (fun zq => absurd zq (nI_ge g (by omega))) (fun _ => ?_)
        refine st_ald rfl rfl ?_
        refine st_gR' rfl (by first | exact tT hM rfl | assumption | exact rw_T hM (by assumption) | exact rw_A hM (by assumption)) (by first | exact rR hM rfl rfl | assumption | exact rw_R hM (by assumption)) ?_
        refine st_ild rfl rfl ?_
        refine st_iald rfl (by first | exact tT hM rfl | assumption | exact rw_T hM (by assumption) | exact rw_A hM (by assumption)) (by first | decide | assumption | exact vp_in_nI (by omega) (by decide)) ?_
        -- at 93: stop
        refine wp_e (y := nI (cf_sg c last)) (by rw [nI_clamp (by omega)]; exact hy.2.2.2.2.2.2.2 _ hlast) ?_
        refine st_ald rfl rfl ?_
        refine st_gR' rfl (by first | exact tT hM rfl | assumption | exact rw_T hM (by assumption) | exact rw_A hM (by assumption)) (by first | exact rR hM rfl rfl | assumption | exact rw_R hM (by assumption)) ?_
        refine st_gR' rfl (by first | exact tT hM rfl | assumption | exact rw_T hM (by assumption) | exact rw_A hM (by assumption)) (by first | exact rR hM rfl rfl | assumption | exact rw_R hM (by assumption)) ?_
        refine st_ild rfl rfl ?_
        refine st_iald rfl (by first | exact tT hM rfl | assumption | exact rw_T hM (by assumption) | exact rw_A hM (by assumption)) (by first | decide | assumption | exact vp_in_nI (by omega) (by decide)) ?_
        -- at 102: stop
        refine wp_e (y := nI (m.getD r 0)) (by rw [nI_clamp (by omega)]; exact m1) ?_
        by_cases g2 : cf_sg c last = m.getD r 0
        · refine st_b2 rfl (fun zq => absurd zq ((fun z => z (by rw [g2])))) (fun _ => ?_)
          refine st_k rfl ?_
          refine st_go rfl ?_
          refine st_ist rfl ?_
          refine st_ild rfl rfl ?_
          refine st_b1 rfl (fun zq => absurd zq ((by decide))) (fun _ => ?_)
          refine st_ild rfl rfl ?_
          refine st_k rfl ?_
          refine st_ib rfl ?_
          -- at 122: stop
          refine wp_e (nI_add _ 140) ?_
          refine st_ild rfl rfl ?_
          refine st_ib rfl ?_
          -- at 125: stop
          refine wp_e (pk_sub (by omega)) ?_
          refine st_ild rfl rfl ?_
          refine st_ib rfl ?_
          -- at 127: stop
          refine wp_e (nI_add _ _) ?_
          refine st_go rfl ?_
          -- at 131: op_iret
          refine st_iret rfl ⟨?_, rfl⟩
          rw [if_pos ⟨g, g2⟩]
          show _ = some (Value.int (nI ((r + 1) * 140 + p * 14 + 0 + k)))
          congr 3
          omega
        · refine st_b2 rfl (fun _ => ?_) (fun zq => absurd ((fun z => g2 ((nI_eq (by omega) (by omega)).mp z))) zq)
          -- at 109: stop
          exact no _ (fun z => g2 z.2)
      · refine st_b2 rfl (fun _ => ?_) (fun zq => absurd (nI_le (by omega) (by omega)) zq)
        -- at 109: stop
        exact no _ (fun z => g z.1)
    | some t =>
      dsimp only
      have ht := pr_ps hw hq
      have hne : ¬ p32 (some t) = -1 := fun z => by
        have := (p32_none hw (a := last) (b := k)).mp (by rw [hq]; exact z)
        rw [hq] at this
        cases this
      have fin : ∀ mo : Nat, mo = mp pc → pm_WP (pm_call (d + 1)) tb_64 (fun r0 M1 => r0 = some (.int (o32 (if t = m.getD r 0 ∧ p + mp pc < pc then some (r + 1, p + mp pc, false, k) else none))) ∧ M1 = M) 147 [some (.ref 27), some (.int (nI (ci (r, p, true, last)))), some (.int (nI k)), some (.int (nI r)), some (.int (nI last)), some (.int (p32 (some t))), some (.int (nI mo)), none] [] M := by
        intro mo hmo
        have hmo1 : mp pc ≤ 1 := by unfold mp; split <;> omega
        have no : ∀ y7, ¬ (t = m.getD r 0 ∧ p + mp pc < pc) → pm_WP (pm_call (d + 1)) tb_64 (fun r0 M1 => r0 = some (.int (o32 (if t = m.getD r 0 ∧ p + mp pc < pc then some (r + 1, p + mp pc, false, k) else none))) ∧ M1 = M) 182 [some (.ref 27), some (.int (nI (ci (r, p, true, last)))), some (.int (nI k)), some (.int (nI r)), some (.int (nI last)), some (.int (p32 (some t))), some (.int (nI mo)), y7] [] M := by
          intro y7 z
          refine st_k rfl ?_
          -- at 183: op_iret
          exact st_iret rfl ⟨by rw [if_neg z]; rfl, rfl⟩
        refine st_ild rfl rfl ?_
        refine st_k rfl ?_
        refine st_idv rfl ((by decide)) ?_
        -- at 151: stop
        refine wp_e (pk_div (a := ci (r, p, true, last)) (d := 14) (by omega) (by decide) (by decide)) ?_
        refine st_k rfl ?_
        refine st_idv rfl ((by decide)) ?_
        -- at 154: stop
        refine wp_e (pk_rem (a := ci (r, p, true, last) / 14) (d := 10) (by omega) (by decide) (by decide)) ?_
        rw [d4]
        refine st_ild rfl rfl ?_
        refine st_ib rfl ?_
        -- at 157: stop
        refine wp_e (nI_add _ _) ?_
        refine st_ist rfl ?_
        refine st_ild rfl rfl ?_
        refine st_ald rfl rfl ?_
        refine st_gR' rfl (by first | exact tT hM rfl | assumption | exact rw_T hM (by assumption) | exact rw_A hM (by assumption)) (by first | exact rR hM rfl rfl | assumption | exact rw_R hM (by assumption)) ?_
        refine st_gR' rfl (by first | exact tT hM rfl | assumption | exact rw_T hM (by assumption) | exact rw_A hM (by assumption)) (by first | exact rR hM rfl rfl | assumption | exact rw_R hM (by assumption)) ?_
        refine st_ild rfl rfl ?_
        refine st_iald rfl (by first | exact tT hM rfl | assumption | exact rw_T hM (by assumption) | exact rw_A hM (by assumption)) (by first | decide | assumption | exact vp_in_nI (by omega) (by decide)) ?_
        -- at 170: stop
        refine wp_e (y := nI (m.getD r 0)) (by rw [nI_clamp (by omega)]; exact m1) ?_
        by_cases g2 : t = m.getD r 0
        · refine st_b2 rfl (fun zq => absurd zq ((fun z => z (by rw [g2]; rfl)))) (fun _ => ?_)
          refine st_ild rfl rfl ?_
          refine st_ald rfl rfl ?_
          refine st_gI rfl (by first | exact tT hM rfl | assumption | exact rw_T hM (by assumption) | exact rw_A hM (by assumption)) ?_
          -- at 179: stop
          refine wp_e hpc ?_
          by_cases g3 : p + mp pc < pc
          · refine st_b2 rfl (fun _ => ?_) (fun zq => absurd (nI_lt (by omega) (by omega)) zq)
            refine st_ild rfl rfl ?_
            refine st_k rfl ?_
            refine st_ib rfl ?_
            -- at 189: stop
            refine wp_e (nI_add _ 140) ?_
            refine st_ild rfl rfl ?_
            refine st_k rfl ?_
            refine st_ib rfl ?_
            -- at 194: stop
            refine wp_e (pk_mul mo 14) ?_
            refine st_ib rfl ?_
            -- at 195: stop
            refine wp_e (nI_add _ _) ?_
            refine st_k rfl ?_
            refine st_ib rfl ?_
            -- at 198: stop
            refine wp_e (nI_add _ 7) ?_
            refine st_ild rfl rfl ?_
            refine st_ib rfl ?_
            -- at 201: stop
            refine wp_e (pk_sub (by omega)) ?_
            refine st_ild rfl rfl ?_
            refine st_ib rfl ?_
            -- at 203: stop
            refine wp_e (nI_add _ _) ?_
            refine st_iret rfl ⟨?_, rfl⟩
            rw [if_pos ⟨g2, g3⟩]
            show _ = some (Value.int (nI ((r + 1) * 140 + (p + mp pc) * 14 + 7 + k)))
            rw [hmo]
            congr 3
            omega
          · refine st_b2 rfl (fun zq => absurd zq (nI_nlt (by omega) (by omega))) (fun _ => ?_)
            -- at 182: stop
            exact no _ (fun z => g3 z.2)
        · refine st_b2 rfl (fun _ => ?_) (fun zq => absurd ((fun z => g2 ((nI_eq (a := t) (by omega) (by omega)).mp z))) zq)
          -- at 182: stop
          exact no _ (fun z => g2 z.1)
      refine st_ild rfl rfl ?_
      refine st_k rfl ?_
      refine st_b2 rfl (fun _ => ?_) (fun zq => absurd (hne) zq)
      refine st_ald rfl rfl ?_
      refine st_gI rfl (by first | exact tT hM rfl | assumption | exact rw_T hM (by assumption) | exact rw_A hM (by assumption)) ?_
      -- at 136: stop
      refine wp_e hpc ?_
      by_cases g1 : pc = 1
      · refine st_k rfl ?_
        refine st_b2 rfl (fun zq => absurd zq ((fun z => z (by rw [g1]; rfl)))) (fun _ => ?_)
        refine st_k rfl ?_
        refine st_go rfl ?_
        refine st_ist rfl ?_
        -- at 147: stop
        exact fin 0 (by unfold mp; rw [if_pos g1])
      · refine st_k rfl ?_
        refine st_b2 rfl (fun _ => ?_) (fun zq => absurd ((fun z => g1 ((nI_eq (a := pc) (b := 1) (by omega) (by decide)).mp z))) zq)
        refine st_k rfl ?_
        refine st_ist rfl ?_
        -- at 147: stop
        exact fin 1 (by unfold mp; rw [if_neg g1])
end CSY

/-! MESSAGES: the class's least -/
theorem nv_om {a b : Option Nat} (ha : ∀ v, a = some v → v < 1000) (hb : ∀ v, b = some v → v < 1000) : (if nv b < nv a then nv b else nv a) = nv (om a b) := by
  cases a with
  | none =>
    cases b with
    | none =>
      show (if 1000 < 1000 then 1000 else 1000) = 1000
      rfl
    | some w =>
      have := hb w rfl
      show (if w < 1000 then w else 1000) = w
      rw [if_pos this]
  | some v =>
    have := ha v rfl
    cases b with
    | none =>
      show (if 1000 < v then 1000 else v) = v
      rw [if_neg (by omega)]
    | some w =>
      show (if w < v then w else v) = min v w
      split
      · rw [Nat.min_eq_right (by omega)]
      · rw [Nat.min_eq_left (by omega)]
theorem nv_lt {x : Option Nat} (h : ∀ v, x = some v → v < 1000) : nv x ≤ 1000 := by
  cases x with
  | none => exact Nat.le_refl _
  | some v => have := h v rfl; show v ≤ 1000; omega
/-- the table of the least holds at a cell -/
def TbC (c : Cf) (m : List Nat) (pc : Nat) (M : pm_M) (y : Ce) : Prop := ∀ f, f ≤ 20 → Fu c m pc y f → gI M 31 (ci y) = nI (nv (LF c m f (stc y)))
theorem gz_lt {c : Cf} (hw : cf_wf c) {m : List Nat} {f : Nat} {s : St} {k : Nat} (hk : k < cf_n c) (hf : f ≤ 20) : ∀ v, gz c m f s k = some v → v < 1000 := by
  intro v h
  cases f with
  | zero => cases h
  | succ f =>
    obtain ⟨s', w, h1, h2, h3⟩ := gk_some h
    have := LF_bd hw f s' w h2
    have := tk_le hw (last := s.2.1) hk
    omega
theorem lbz_lt {c : Cf} (hw : cf_wf c) {m : List Nat} {f : Nat} {s : St} (hf : f ≤ 20) : ∀ k, k ≤ cf_n c → ∀ v, lb (sde c m s) (gz c m f s) k = some v → v < 1000 := by
  intro k hk v h
  rcases lb_some k h with z | ⟨j, hj, z⟩
  · exact LF_lt hw (f := 0) (by omega) v z
  · exact gz_lt hw (by omega) hf v z
section CSL
variable {c0 c : Cf} {m : List Nat} {M : pm_M} {pc : Nat}
theorem c_leastWith (d : Nat) (hM : pm_ok M) (h : SP c0 c m pc M) {x : Ce} (hx : vx c m pc x) {k f : Nat} (hk : k < cf_n c) (hf : Fu c m pc x f) (hf20 : f ≤ 20) (hT : ∀ y, on c m pc x k = some y → TbC c m pc M y) : pm_call (d + 3) 73 [.ref 27, .int (nI (ci x)), .int (nI k)] M (some (.int (nI (nv (gz c m f (stc x) k))))) M := by
  have hw := h.1.2.2.2.1
  have hp := h.2.2
  obtain ⟨b1, b2, b3, b4, b5⟩ := vx_b hw hp hx
  obtain ⟨d1, d2, d3, d4, d5⟩ := ci_d b1 b3 b5
  have htk := tk_le hw (last := x.2.2.2) hk
  refine en_73 (Nat.le_of_ble_eq_true rfl) ?_
  refine st_ald rfl rfl ?_
  refine st_ild rfl rfl ?_
  refine st_ild rfl rfl ?_
  refine st_cav (As := [_, _]) rfl rfl rfl (by first | exact tT hM rfl | assumption | exact rw_T hM (by assumption) | exact rw_A hM (by assumption)) (Nat.le_of_ble_eq_true rfl) (c_onward d hM h hx hk) ?_
  refine st_ist rfl ?_
  -- at 7: stop
  rcases gz_on hp hx hf hk with ⟨e1, e2⟩ | ⟨y, f', e1, e2, e3, e4, e5⟩
  · rw [e1, e2]
    refine st_ild rfl rfl ?_
    refine st_k rfl ?_
    refine st_b2 rfl (fun _ => ?_) (fun zq => absurd (rfl) zq)
    refine st_k rfl ?_
    -- at 27: op_iret
    exact st_iret rfl ⟨rfl, rfl⟩
  · rw [e1, e5]
    obtain ⟨y1, y2, y3, y4, y5⟩ := vx_b hw hp e3
    obtain ⟨z1, z2, z3, z4, z5⟩ := ci_d y1 y3 y5
    have hin : vp_in (nI (ci y)) 1820 := vp_in_nI z5 (by decide)
    have et := hT y e1 f' (by omega) e4
    have hne : ¬ o32 (some y) = -1 := fun z => absurd (show nI (ci y) < 0 by rw [show nI (ci y) = -1 from z]; decide) (nI_pos (by omega))
    have hlt := LF_lt hw (m := m) (s := stc y) (f := f') (by omega)
    refine st_ild rfl rfl ?_
    refine st_k rfl ?_
    refine st_b2 rfl (fun zq => absurd zq (hne)) (fun _ => ?_)
    refine st_ald rfl rfl ?_
    refine st_gR' rfl (by first | exact tT hM rfl | assumption | exact rw_T hM (by assumption) | exact rw_A hM (by assumption)) (by first | exact rR hM rfl rfl | assumption | exact rw_R hM (by assumption)) ?_
    refine st_ild rfl rfl ?_
    refine st_iald rfl (tT hM rfl) (hin) ?_
    -- at 18: stop
    refine wp_e (y := nI (nv (LF c m f' (stc y)))) (by rw [show (o32 (some y)).toNatClampNeg = ci y from nI_clamp (by omega)]; exact et) ?_
    cases hL : LF c m f' (stc y) with
    | none =>
      refine st_k rfl ?_
      refine st_b2 rfl (fun zq => absurd zq ((by decide))) (fun _ => ?_)
      refine st_k rfl ?_
      -- at 27: op_iret
      exact st_iret rfl ⟨rfl, rfl⟩
    | some w =>
      have hw1 := hlt w hL
      have htk2 : tk c x.2.2.2 k + w < 1000 := by
        have h20 := gz_lt hw (m := m) (s := stc x) (f := f) hk hf20 (tk c x.2.2.2 k + w) (by rw [e5, hL]; rfl)
        exact h20
      refine st_k rfl ?_
      refine st_b2 rfl (fun _ => ?_) (fun zq => absurd (nI_lt (a := w) (b := 1000) hw1 (by decide)) zq)
      refine st_ald rfl rfl ?_
      refine st_gR' rfl (by first | exact tT hM rfl | assumption | exact rw_T hM (by assumption) | exact rw_A hM (by assumption)) (by first | exact rR hM rfl rfl | assumption | exact rw_R hM (by assumption)) ?_
      refine st_ild rfl rfl ?_
      refine st_k rfl ?_
      refine st_idv rfl ((by decide)) ?_
      -- at 36: stop
      refine wp_e (pk_rem (a := ci x) (d := 7) (by omega) (by decide) (by decide)) ?_
      rw [d2]
      refine st_ild rfl rfl ?_
      refine st_cav (As := [_, _]) rfl rfl rfl (by first | exact tT hM rfl | assumption | exact rw_T hM (by assumption) | exact rw_A hM (by assumption)) (Nat.le_of_ble_eq_true rfl) (sy_tk (d + 1) hM h.1 b4 hk) ?_
      refine st_ald rfl rfl ?_
      refine st_gR' rfl (by first | exact tT hM rfl | assumption | exact rw_T hM (by assumption) | exact rw_A hM (by assumption)) (by first | exact rR hM rfl rfl | assumption | exact rw_R hM (by assumption)) ?_
      refine st_ild rfl rfl ?_
      refine st_iald rfl (tT hM rfl) (hin) ?_
      -- at 46: stop
      refine wp_e (y := nI w) (by rw [show (o32 (some y)).toNatClampNeg = ci y from nI_clamp (by omega), et, hL]; rfl) ?_
      refine st_ib rfl ?_
      -- at 47: op_iret
      exact st_iret rfl ⟨congrArg (fun z => some (Value.int z)) (nI_add _ _), rfl⟩
theorem c_leastBy (d : Nat) (hM : pm_ok M) (h : SP c0 c m pc M) {x : Ce} (hx : vx c m pc x) {f : Nat} (hf : Fu c m pc x f) (hf20 : f ≤ 20) (hT : ∀ k y, k < cf_n c → on c m pc x k = some y → TbC c m pc M y) : pm_call (d + 4) 72 [.ref 27, .int (nI (ci x))] M (some (.int (nI (nv (LF c m f (stc x)))))) M := by
  have hw := h.1.2.2.2.1
  have hn := hw.1
  have hp := h.2.2
  refine en_72 (Nat.le_of_ble_eq_true rfl) ?_
  rw [LF_gz]
  refine st_ald rfl rfl ?_
  refine st_ild rfl rfl ?_
  refine st_cav (As := [_]) rfl rfl rfl (by first | exact tT hM rfl | assumption | exact rw_T hM (by assumption) | exact rw_A hM (by assumption)) (Nat.le_of_ble_eq_true rfl) (c_ending (d + 1) hM h.1 hp hx) ?_
  refine st_ist rfl ?_
  refine st_k rfl ?_
  refine st_ist rfl ?_
  -- at 8: stop
  refine wp_for (cf_n c) (fun k L M1 => ∃ z, z = nI k ∧ L = [some (.ref 27), some (.int (nI (ci x))), some (.int (nI (nv (lb (sde c m (stc x)) (gz c m f (stc x)) k)))), some (.int z)] ∧ M1 = M) ?_ ?_ 0 _ _ (Nat.zero_le _) ⟨_, rfl, rfl, rfl⟩
  · rintro k L M1 hk ⟨z, rfl, rfl, rfl⟩ ih
    have hlw := c_leastWith d hM h hx hk hf hf20 (fun y hy => hT k y hk hy)
    have hb := lbz_lt hw (m := m) (s := stc x) hf20 k (by omega)
    have hg := gz_lt hw (m := m) (s := stc x) (f := f) hk hf20
    have n1 := nv_lt hb
    have n2 := nv_lt hg
    have e6 : (if nI (nv (gz c m f (stc x) k)) < nI (nv (lb (sde c m (stc x)) (gz c m f (stc x)) k)) then nI (nv (gz c m f (stc x) k)) else nI (nv (lb (sde c m (stc x)) (gz c m f (stc x)) k))) = nI (nv (lb (sde c m (stc x)) (gz c m f (stc x)) (k + 1))) := by
      rw [lb_s, ← nv_om hb hg]
      by_cases g : nv (gz c m f (stc x) k) < nv (lb (sde c m (stc x)) (gz c m f (stc x)) k)
      · rw [if_pos (nI_lt g (by omega)), if_pos g]
      · rw [if_neg (nI_nlt (by omega) (by omega)), if_neg g]
    refine st_ild rfl rfl ?_
    refine st_ald rfl rfl ?_
    refine st_gR' rfl (by first | exact tT hM rfl | assumption | exact rw_T hM (by assumption) | exact rw_A hM (by assumption)) (by first | exact rR hM rfl rfl | assumption | exact rw_R hM (by assumption)) ?_
    refine st_gI rfl (by first | exact tT hM rfl | assumption | exact rw_T hM (by assumption) | exact rw_A hM (by assumption)) ?_
    -- at 16: stop
    refine wp_e (sy_n h.1) ?_
    refine st_b2 rfl (fun zq => absurd zq (nI_ge (by omega) (by omega))) (fun _ => ?_)
    refine st_ild rfl rfl ?_
    refine st_ald rfl rfl ?_
    refine st_ild rfl rfl ?_
    refine st_ild rfl rfl ?_
    refine st_cav (As := [_, _]) rfl rfl rfl (by first | exact tT hM rfl | assumption | exact rw_T hM (by assumption) | exact rw_A hM (by assumption)) (Nat.le_of_ble_eq_true rfl) (hlw) ?_
    refine st_mx rfl (Nat.le_of_ble_eq_true rfl) ?_
    -- at 29: stop
    refine wp_e e6 ?_
    refine st_ist rfl ?_
    refine st_inc rfl rfl ?_
    refine st_go rfl ?_
    -- at 8: stop
    exact ih _ _ ⟨_, nI_1 k, rfl, rfl⟩
  · rintro L M1 ⟨z, rfl, rfl, rfl⟩
    refine st_ild rfl rfl ?_
    refine st_ald rfl rfl ?_
    refine st_gR' rfl (by first | exact tT hM rfl | assumption | exact rw_T hM (by assumption) | exact rw_A hM (by assumption)) (by first | exact rR hM rfl rfl | assumption | exact rw_R hM (by assumption)) ?_
    refine st_gI rfl (by first | exact tT hM rfl | assumption | exact rw_T hM (by assumption) | exact rw_A hM (by assumption)) ?_
    -- at 16: stop
    refine wp_e (sy_n h.1) ?_
    refine st_b2 rfl (fun _ => ?_) (fun zq => absurd (nI_le (by omega) (by omega)) zq)
    refine st_ild rfl rfl ?_
    -- at 37: op_iret
    exact st_iret rfl ⟨rfl, rfl⟩
/-- a cell that can be -/
def cbx (c : Cf) (m : List Nat) (x : Ce) : Prop := x = c00 ∨ (x.2.2.2 < cf_n c ∧ ((x.2.2.1 = false ∧ 0 < x.1 ∧ ∃ q, q < cf_n c ∧ pr c q x.2.2.2 = some (m.getD (x.1 - 1) 0)) ∨ (x.2.2.1 = true ∧ x.1 < m.length ∧ (cf_sg c x.2.2.2 = m.getD x.1 0 ∨ ∃ q, q < cf_n c ∧ pr c x.2.2.2 q = some (m.getD x.1 0)))))
theorem c_canBe (d : Nat) (hM : pm_ok M) (h : SY c0 c m M) {x : Ce} (h1 : x.1 ≤ m.length) (h2 : x.2.1 < 10) (h3 : x.2.2.2 ≤ 6) : (cbx c m x ∧ pm_call (d + 2) 71 [.ref 27, .int (nI (ci x))] M (some (.int 1)) M) ∨ (¬ cbx c m x ∧ pm_call (d + 2) 71 [.ref 27, .int (nI (ci x))] M (some (.int 0)) M) := by
  have hw := h.2.2.2.1
  have hn := hw.1
  have hl := h.2.2.2.2.2.1
  obtain ⟨d1, d2, d3, d4, d5⟩ := ci_d (show x.1 ≤ 12 by omega) h2 h3
  have hsh := c_isShut (M := M) d (show x.1 ≤ 12 by omega) h2 h3
  have e13 : ci x = 13 ↔ x = c00 := by
    obtain ⟨r, p, o, last⟩ := x
    dsimp only at *
    constructor
    · intro z
      rw [z] at d1 d2 d3 d4
      have o1 : o = false := by
        cases o
        · rfl
        · exact absurd (d3.mpr rfl) (by decide)
      rw [o1, show r = 0 by omega, show p = 0 by omega, show last = 6 by omega]
    · intro z; rw [z]; rfl
  have pre : ∀ Q : Option Value → pm_M → Prop, pm_WP (pm_call (d + 1)) tb_71 Q 11 [some (.ref 27), some (.int (nI (ci x))), some (.int (nI x.1)), some (.int (nI x.2.2.2)), none] [] M → pm_WP (pm_call (d + 1)) tb_71 Q 0 (pm_init 5 [.ref 27, .int (nI (ci x))]) [] M := by
    intro Q hQ
    refine st_ild rfl rfl ?_
    refine st_k rfl ?_
    refine st_idv rfl ((by decide)) ?_
    -- at 5: stop
    refine wp_e (pk_div (a := ci x) (d := 140) (by omega) (by decide) (by decide)) ?_
    rw [d1]
    refine st_ist rfl ?_
    refine st_ild rfl rfl ?_
    refine st_k rfl ?_
    refine st_idv rfl ((by decide)) ?_
    -- at 10: stop
    refine wp_e (pk_rem (a := ci x) (d := 7) (by omega) (by decide) (by decide)) ?_
    rw [d2]
    refine st_ist rfl ?_
    -- at 11: stop
    exact hQ
  by_cases g0 : x = c00
  · refine Or.inl ⟨Or.inl g0, en_71 (Nat.le_of_ble_eq_true rfl) (pre _ ?_)⟩
    refine st_ild rfl rfl ?_
    refine st_k rfl ?_
    refine st_b2 rfl (fun zq => absurd zq ((fun z => z (by rw [e13.mpr g0]; rfl)))) (fun _ => ?_)
    refine st_k rfl ?_
    -- at 18: op_zret
    exact st_zret rfl (by decide) ⟨rfl, rfl⟩
  have n13 : ¬ nI (ci x) = 13 := fun z => g0 (e13.mp ((nI_eq (a := ci x) (b := 13) (by omega) (by decide)).mp z))
  by_cases g1 : x.2.2.2 < cf_n c
  case neg =>
    refine Or.inr ⟨fun z => z.elim g0 (fun w => g1 w.1), en_71 (Nat.le_of_ble_eq_true rfl) (pre _ ?_)⟩
    refine st_ild rfl rfl ?_
    refine st_k rfl ?_
    refine st_b2 rfl (fun _ => ?_) (fun zq => absurd (n13) zq)
    refine st_ild rfl rfl ?_
    refine st_ald rfl rfl ?_
    refine st_gR' rfl (by first | exact tT hM rfl | assumption | exact rw_T hM (by assumption) | exact rw_A hM (by assumption)) (by first | exact rR hM rfl rfl | assumption | exact rw_R hM (by assumption)) ?_
    refine st_gI rfl (by first | exact tT hM rfl | assumption | exact rw_T hM (by assumption) | exact rw_A hM (by assumption)) ?_
    -- at 27: stop
    refine wp_e (sy_n h) ?_
    refine st_b2 rfl (fun zq => absurd zq (nI_nlt (by omega) (by omega))) (fun _ => ?_)
    refine st_k rfl ?_
    -- at 31: op_zret
    exact st_zret rfl (by decide) ⟨rfl, rfl⟩
  have hin6 : vp_in (nI x.2.2.2) 6 := vp_in_nI (by omega) (by decide)
  have e4 : (nI x.2.2.2).toNatClampNeg = x.2.2.2 := nI_clamp (by omega)
  by_cases go : x.2.2.1 = false
  · have pre2 : ∀ Q : Option Value → pm_M → Prop, pm_WP (pm_call (d + 1)) tb_71 Q 39 [some (.ref 27), some (.int (nI (ci x))), some (.int (nI x.1)), some (.int (nI x.2.2.2)), none] [] M → pm_WP (pm_call (d + 1)) tb_71 Q 11 [some (.ref 27), some (.int (nI (ci x))), some (.int (nI x.1)), some (.int (nI x.2.2.2)), none] [] M := by
      intro Q hQ
      refine st_ild rfl rfl ?_
      refine st_k rfl ?_
      refine st_b2 rfl (fun _ => ?_) (fun zq => absurd (n13) zq)
      refine st_ild rfl rfl ?_
      refine st_ald rfl rfl ?_
      refine st_gR' rfl (by first | exact tT hM rfl | assumption | exact rw_T hM (by assumption) | exact rw_A hM (by assumption)) (by first | exact rR hM rfl rfl | assumption | exact rw_R hM (by assumption)) ?_
      refine st_gI rfl (by first | exact tT hM rfl | assumption | exact rw_T hM (by assumption) | exact rw_A hM (by assumption)) ?_
      -- at 27: stop
      refine wp_e (sy_n h) ?_
      refine st_b2 rfl (fun _ => ?_) (fun zq => absurd (nI_lt g1 (by omega)) zq)
      refine st_ild rfl rfl ?_
      refine st_call (As := [_]) rfl rfl rfl (Nat.le_of_ble_eq_true rfl) (hsh) ?_
      refine st_b1 rfl (fun zq => absurd zq (b01_t go)) (fun _ => ?_)
      -- at 39: stop
      exact hQ
    by_cases g2 : 0 < x.1
    · have hin40 : vp_in (nI (x.1 - 1)) 40 := vp_in_nI (by omega) (by decide)
      obtain ⟨m1, m2⟩ := sy_m h (show x.1 - 1 < m.length by omega)
      obtain ⟨w, w1, w2, w3⟩ := sy_pe h g1
      have eb := bit10 w w2 (m.getD (x.1 - 1) 0) m2
      by_cases g3 : w.testBit (m.getD (x.1 - 1) 0) = true
      · refine Or.inl ⟨Or.inr ⟨g1, Or.inl ⟨go, g2, (w3 _).mp g3⟩⟩, en_71 (Nat.le_of_ble_eq_true rfl) (pre _ (pre2 _ ?_))⟩
        rw [if_pos g3] at eb
        refine st_ild rfl rfl ?_
        refine st_b1 rfl (fun zq => absurd zq (nI_nle g2 (by omega))) (fun _ => ?_)
        refine st_ald rfl rfl ?_
        refine st_gR' rfl (by first | exact tT hM rfl | assumption | exact rw_T hM (by assumption) | exact rw_A hM (by assumption)) (by first | exact rR hM rfl rfl | assumption | exact rw_R hM (by assumption)) ?_
        refine st_gR' rfl (by first | exact tT hM rfl | assumption | exact rw_T hM (by assumption) | exact rw_A hM (by assumption)) (by first | exact rR hM rfl rfl | assumption | exact rw_R hM (by assumption)) ?_
        refine st_ild rfl rfl ?_
        refine st_iald rfl (by first | exact tT hM rfl | assumption | exact rw_T hM (by assumption) | exact rw_A hM (by assumption)) (by first | decide | assumption | exact vp_in_nI (by omega) (by decide)) ?_
        -- at 52: stop
        refine wp_e (y := nI w) (by rw [e4]; exact w1) ?_
        refine st_ald rfl rfl ?_
        refine st_gR' rfl (by first | exact tT hM rfl | assumption | exact rw_T hM (by assumption) | exact rw_A hM (by assumption)) (by first | exact rR hM rfl rfl | assumption | exact rw_R hM (by assumption)) ?_
        refine st_gR' rfl (by first | exact tT hM rfl | assumption | exact rw_T hM (by assumption) | exact rw_A hM (by assumption)) (by first | exact rR hM rfl rfl | assumption | exact rw_R hM (by assumption)) ?_
        refine st_ild rfl rfl ?_
        refine st_k rfl ?_
        refine st_ib rfl ?_
        -- at 62: stop
        refine wp_e (nI_p1 g2) ?_
        refine st_iald rfl (by first | exact tT hM rfl | assumption | exact rw_T hM (by assumption) | exact rw_A hM (by assumption)) (by first | decide | assumption | exact vp_in_nI (by omega) (by decide)) ?_
        -- at 63: stop
        refine wp_e (y := nI (m.getD (x.1 - 1) 0)) (by rw [nI_clamp (by omega)]; exact m1) ?_
        refine st_ib rfl ?_
        refine st_k rfl ?_
        refine st_ib rfl ?_
        -- at 66: stop
        refine wp_e eb ?_
        refine st_b1 rfl (fun zq => absurd zq ((by decide))) (fun _ => ?_)
        refine st_k rfl ?_
        refine st_go rfl ?_
        -- at 74: op_zret
        exact st_zret rfl (by decide) ⟨rfl, rfl⟩
      · refine Or.inr ⟨fun z => z.elim g0 (fun q => q.2.elim (fun v => g3 ((w3 _).mpr v.2.2)) (fun v => by rw [go] at v; exact absurd v.1 (by decide))), en_71 (Nat.le_of_ble_eq_true rfl) (pre _ (pre2 _ ?_))⟩
        rw [if_neg g3] at eb
        refine st_ild rfl rfl ?_
        refine st_b1 rfl (fun zq => absurd zq (nI_nle g2 (by omega))) (fun _ => ?_)
        refine st_ald rfl rfl ?_
        refine st_gR' rfl (by first | exact tT hM rfl | assumption | exact rw_T hM (by assumption) | exact rw_A hM (by assumption)) (by first | exact rR hM rfl rfl | assumption | exact rw_R hM (by assumption)) ?_
        refine st_gR' rfl (by first | exact tT hM rfl | assumption | exact rw_T hM (by assumption) | exact rw_A hM (by assumption)) (by first | exact rR hM rfl rfl | assumption | exact rw_R hM (by assumption)) ?_
        refine st_ild rfl rfl ?_
        refine st_iald rfl (by first | exact tT hM rfl | assumption | exact rw_T hM (by assumption) | exact rw_A hM (by assumption)) (by first | decide | assumption | exact vp_in_nI (by omega) (by decide)) ?_
        -- at 52: stop
        refine wp_e (y := nI w) (by rw [e4]; exact w1) ?_
        refine st_ald rfl rfl ?_
        refine st_gR' rfl (by first | exact tT hM rfl | assumption | exact rw_T hM (by assumption) | exact rw_A hM (by assumption)) (by first | exact rR hM rfl rfl | assumption | exact rw_R hM (by assumption)) ?_
        refine st_gR' rfl (by first | exact tT hM rfl | assumption | exact rw_T hM (by assumption) | exact rw_A hM (by assumption)) (by first | exact rR hM rfl rfl | assumption | exact rw_R hM (by assumption)) ?_
        refine st_ild rfl rfl ?_
        refine st_k rfl ?_
        refine st_ib rfl ?_
        -- at 62: stop
        refine wp_e (nI_p1 g2) ?_
        refine st_iald rfl (by first | exact tT hM rfl | assumption | exact rw_T hM (by assumption) | exact rw_A hM (by assumption)) (by first | decide | assumption | exact vp_in_nI (by omega) (by decide)) ?_
        -- at 63: stop
        refine wp_e (y := nI (m.getD (x.1 - 1) 0)) (by rw [nI_clamp (by omega)]; exact m1) ?_
        refine st_ib rfl ?_
        refine st_k rfl ?_
        refine st_ib rfl ?_
        -- at 66: stop
        refine wp_e eb ?_
        refine st_b1 rfl (fun _ => ?_) (fun zq => absurd (rfl) zq)
        refine st_k rfl ?_
        -- at 74: op_zret
        exact st_zret rfl (by decide) ⟨rfl, rfl⟩
    · refine Or.inr ⟨fun z => z.elim g0 (fun q => q.2.elim (fun v => g2 v.2.1) (fun v => by rw [go] at v; exact absurd v.1 (by decide))), en_71 (Nat.le_of_ble_eq_true rfl) (pre _ (pre2 _ ?_))⟩
      refine st_ild rfl rfl ?_
      refine st_b1 rfl (fun _ => ?_) (fun zq => absurd (nI_le (a := x.1) (b := 0) (by omega) (by decide)) zq)
      refine st_k rfl ?_
      -- at 74: op_zret
      exact st_zret rfl (by decide) ⟨rfl, rfl⟩
  · have gt : x.2.2.1 = true := by
      cases hb : x.2.2.1
      · exact absurd hb go
      · rfl
    have pre2 : ∀ Q : Option Value → pm_M → Prop, pm_WP (pm_call (d + 1)) tb_71 Q 75 [some (.ref 27), some (.int (nI (ci x))), some (.int (nI x.1)), some (.int (nI x.2.2.2)), none] [] M → pm_WP (pm_call (d + 1)) tb_71 Q 11 [some (.ref 27), some (.int (nI (ci x))), some (.int (nI x.1)), some (.int (nI x.2.2.2)), none] [] M := by
      intro Q hQ
      refine st_ild rfl rfl ?_
      refine st_k rfl ?_
      refine st_b2 rfl (fun _ => ?_) (fun zq => absurd (n13) zq)
      refine st_ild rfl rfl ?_
      refine st_ald rfl rfl ?_
      refine st_gR' rfl (by first | exact tT hM rfl | assumption | exact rw_T hM (by assumption) | exact rw_A hM (by assumption)) (by first | exact rR hM rfl rfl | assumption | exact rw_R hM (by assumption)) ?_
      refine st_gI rfl (by first | exact tT hM rfl | assumption | exact rw_T hM (by assumption) | exact rw_A hM (by assumption)) ?_
      -- at 27: stop
      refine wp_e (sy_n h) ?_
      refine st_b2 rfl (fun _ => ?_) (fun zq => absurd (nI_lt g1 (by omega)) zq)
      refine st_ild rfl rfl ?_
      refine st_call (As := [_]) rfl rfl rfl (Nat.le_of_ble_eq_true rfl) (hsh) ?_
      refine st_b1 rfl (fun _ => ?_) (fun zq => absurd (b01_f go) zq)
      -- at 75: stop
      exact hQ
    have notF : ∀ (P : Prop), (x.2.2.1 = false ∧ P) → False := fun P v => by rw [gt] at v; exact absurd v.1 (by decide)
    by_cases g2 : x.1 < m.length
    · have hin40 : vp_in (nI x.1) 40 := vp_in_nI (by omega) (by decide)
      obtain ⟨m1, m2⟩ := sy_m h g2
      have hsg := (hw.2.2.2.2.2.1 _ g1).2.2.2.1
      obtain ⟨w, w1, w2, w3⟩ := sy_pb h g1
      have eb := bit10 w w2 (m.getD x.1 0) m2
      have pre3 : ∀ Q : Option Value → pm_M → Prop, pm_WP (pm_call (d + 1)) tb_71 Q 107 [some (.ref 27), some (.int (nI (ci x))), some (.int (nI x.1)), some (.int (nI x.2.2.2)), some (.int (nI (m.getD x.1 0)))] [.int (nI (m.getD x.1 0)), .int (nI (cf_sg c x.2.2.2))] M → pm_WP (pm_call (d + 1)) tb_71 Q 75 [some (.ref 27), some (.int (nI (ci x))), some (.int (nI x.1)), some (.int (nI x.2.2.2)), none] [] M := by
        intro Q hQ
        refine st_ild rfl rfl ?_
        refine st_ald rfl rfl ?_
        refine st_gR' rfl (by first | exact tT hM rfl | assumption | exact rw_T hM (by assumption) | exact rw_A hM (by assumption)) (by first | exact rR hM rfl rfl | assumption | exact rw_R hM (by assumption)) ?_
        refine st_gI rfl (by first | exact tT hM rfl | assumption | exact rw_T hM (by assumption) | exact rw_A hM (by assumption)) ?_
        -- at 83: stop
        refine wp_e (sy_l h) ?_
        refine st_b2 rfl (fun _ => ?_) (fun zq => absurd (nI_lt g2 (by omega)) zq)
        refine st_ald rfl rfl ?_
        refine st_gR' rfl (by first | exact tT hM rfl | assumption | exact rw_T hM (by assumption) | exact rw_A hM (by assumption)) (by first | exact rR hM rfl rfl | assumption | exact rw_R hM (by assumption)) ?_
        refine st_gR' rfl (by first | exact tT hM rfl | assumption | exact rw_T hM (by assumption) | exact rw_A hM (by assumption)) (by first | exact rR hM rfl rfl | assumption | exact rw_R hM (by assumption)) ?_
        refine st_ild rfl rfl ?_
        refine st_iald rfl (by first | exact tT hM rfl | assumption | exact rw_T hM (by assumption) | exact rw_A hM (by assumption)) (by first | decide | assumption | exact vp_in_nI (by omega) (by decide)) ?_
        -- at 97: stop
        refine wp_e (y := nI (m.getD x.1 0)) (by rw [nI_clamp (by omega)]; exact m1) ?_
        refine st_ist rfl ?_
        refine st_ald rfl rfl ?_
        refine st_gR' rfl (by first | exact tT hM rfl | assumption | exact rw_T hM (by assumption) | exact rw_A hM (by assumption)) (by first | exact rR hM rfl rfl | assumption | exact rw_R hM (by assumption)) ?_
        refine st_ild rfl rfl ?_
        refine st_iald rfl (by first | exact tT hM rfl | assumption | exact rw_T hM (by assumption) | exact rw_A hM (by assumption)) (by first | decide | assumption | exact vp_in_nI (by omega) (by decide)) ?_
        -- at 105: stop
        refine wp_e (y := nI (cf_sg c x.2.2.2)) (by rw [e4]; exact h.2.2.2.2.2.2.2 _ g1) ?_
        refine st_ild rfl rfl ?_
        -- at 107: stop
        exact hQ
      by_cases g3 : cf_sg c x.2.2.2 = m.getD x.1 0
      · refine Or.inl ⟨Or.inr ⟨g1, Or.inr ⟨gt, g2, Or.inl g3⟩⟩, en_71 (Nat.le_of_ble_eq_true rfl) (pre _ (pre2 _ (pre3 _ ?_)))⟩
        refine st_b2 rfl (fun _ => ?_) (fun zq => absurd ((by rw [g3])) zq)
        refine st_k rfl ?_
        refine st_go rfl ?_
        -- at 132: op_zret
        exact st_zret rfl (by decide) ⟨rfl, rfl⟩
      · have n3 : ¬ nI (cf_sg c x.2.2.2) = nI (m.getD x.1 0) := fun z => g3 ((nI_eq (by omega) (by omega)).mp z)
        by_cases g4 : w.testBit (m.getD x.1 0) = true
        · refine Or.inl ⟨Or.inr ⟨g1, Or.inr ⟨gt, g2, Or.inr ((w3 _).mp g4)⟩⟩, en_71 (Nat.le_of_ble_eq_true rfl) (pre _ (pre2 _ (pre3 _ ?_)))⟩
          rw [if_pos g4] at eb
          refine st_b2 rfl (fun zq => absurd zq (n3)) (fun _ => ?_)
          refine st_ald rfl rfl ?_
          refine st_gR' rfl (by first | exact tT hM rfl | assumption | exact rw_T hM (by assumption) | exact rw_A hM (by assumption)) (by first | exact rR hM rfl rfl | assumption | exact rw_R hM (by assumption)) ?_
          refine st_gR' rfl (by first | exact tT hM rfl | assumption | exact rw_T hM (by assumption) | exact rw_A hM (by assumption)) (by first | exact rR hM rfl rfl | assumption | exact rw_R hM (by assumption)) ?_
          refine st_ild rfl rfl ?_
          refine st_iald rfl (by first | exact tT hM rfl | assumption | exact rw_T hM (by assumption) | exact rw_A hM (by assumption)) (by first | decide | assumption | exact vp_in_nI (by omega) (by decide)) ?_
          -- at 119: stop
          refine wp_e (y := nI w) (by rw [e4]; exact w1) ?_
          refine st_ild rfl rfl ?_
          refine st_ib rfl ?_
          refine st_k rfl ?_
          refine st_ib rfl ?_
          -- at 124: stop
          refine wp_e eb ?_
          refine st_b1 rfl (fun zq => absurd zq ((by decide))) (fun _ => ?_)
          refine st_k rfl ?_
          refine st_go rfl ?_
          -- at 132: op_zret
          exact st_zret rfl (by decide) ⟨rfl, rfl⟩
        · refine Or.inr ⟨fun z => z.elim g0 (fun q => q.2.elim (notF _) (fun v => v.2.2.elim g3 (fun u => g4 ((w3 _).mpr u)))), en_71 (Nat.le_of_ble_eq_true rfl) (pre _ (pre2 _ (pre3 _ ?_)))⟩
          rw [if_neg g4] at eb
          refine st_b2 rfl (fun zq => absurd zq (n3)) (fun _ => ?_)
          refine st_ald rfl rfl ?_
          refine st_gR' rfl (by first | exact tT hM rfl | assumption | exact rw_T hM (by assumption) | exact rw_A hM (by assumption)) (by first | exact rR hM rfl rfl | assumption | exact rw_R hM (by assumption)) ?_
          refine st_gR' rfl (by first | exact tT hM rfl | assumption | exact rw_T hM (by assumption) | exact rw_A hM (by assumption)) (by first | exact rR hM rfl rfl | assumption | exact rw_R hM (by assumption)) ?_
          refine st_ild rfl rfl ?_
          refine st_iald rfl (by first | exact tT hM rfl | assumption | exact rw_T hM (by assumption) | exact rw_A hM (by assumption)) (by first | decide | assumption | exact vp_in_nI (by omega) (by decide)) ?_
          -- at 119: stop
          refine wp_e (y := nI w) (by rw [e4]; exact w1) ?_
          refine st_ild rfl rfl ?_
          refine st_ib rfl ?_
          refine st_k rfl ?_
          refine st_ib rfl ?_
          -- at 124: stop
          refine wp_e eb ?_
          refine st_b1 rfl (fun _ => ?_) (fun zq => absurd (rfl) zq)
          refine st_k rfl ?_
          -- at 132: op_zret
          exact st_zret rfl (by decide) ⟨rfl, rfl⟩
    · refine Or.inr ⟨fun z => z.elim g0 (fun q => q.2.elim (notF _) (fun v => g2 v.2.1)), en_71 (Nat.le_of_ble_eq_true rfl) (pre _ (pre2 _ ?_))⟩
      refine st_ild rfl rfl ?_
      refine st_ald rfl rfl ?_
      refine st_gR' rfl (by first | exact tT hM rfl | assumption | exact rw_T hM (by assumption) | exact rw_A hM (by assumption)) (by first | exact rR hM rfl rfl | assumption | exact rw_R hM (by assumption)) ?_
      refine st_gI rfl (by first | exact tT hM rfl | assumption | exact rw_T hM (by assumption) | exact rw_A hM (by assumption)) ?_
      -- at 83: stop
      refine wp_e (sy_l h) ?_
      refine st_b2 rfl (fun zq => absurd zq (nI_nlt (by omega) (by omega))) (fun _ => ?_)
      refine st_k rfl ?_
      -- at 87: op_zret
      exact st_zret rfl (by decide) ⟨rfl, rfl⟩
end CSL

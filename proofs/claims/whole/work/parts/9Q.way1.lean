/-! IN HOW MANY WAYS: the count, the class -/
def sw0 (c : Cf) (m : List Nat) (s : St) (room : Nat) : Nat := if sdn c m s = true ∧ em c s.2.1 ≤ room then 1 else 0
def wk (W : St → Nat → Nat) (c : Cf) (m : List Nat) (s : St) (room k : Nat) : Nat := match nx c m s k with
  | none => 0
  | some s' => if tk c s.2.1 k ≤ room then W s' (room - tk c s.2.1 k) else 0
/-- in how many ways it is said, by so many KNOTS more at most, within a room -/
def WY (c : Cf) (m : List Nat) : Nat → St → Nat → Nat
  | 0, s, room => sw0 c m s room
  | f + 1, s, room => sw0 c m s room + sk (wk (WY c m f) c m s room) (cf_n c)
section WAY
variable {c : Cf} {m : List Nat} {pc : Nat}
theorem WY_s (f : Nat) (s : St) (room : Nat) : WY c m (f + 1) s room = sw0 c m s room + sk (wk (WY c m f) c m s room) (cf_n c) := rfl
theorem sk_pos {f : Nat → Nat} : ∀ n, sk f n ≠ 0 → ∃ k, k < n ∧ f k ≠ 0
  | 0, h => absurd rfl h
  | n + 1, h => by
    by_cases g : f n = 0
    · rw [sk_s, g, Nat.add_zero] at h
      obtain ⟨k, h1, h2⟩ := sk_pos n h
      exact ⟨k, by omega, h2⟩
    · exact ⟨n, by omega, g⟩
theorem sw0_ole {s : St} {room : Nat} (h : sw0 c m s room ≠ 0) : ole (sde c m s) room := by
  unfold sw0 at h
  split at h
  · rename_i z
    exact ⟨em c s.2.1, by unfold sde; rw [if_pos z.1], z.2⟩
  · exact absurd rfl h
theorem WY_ole : ∀ f s room, WY c m f s room ≠ 0 → ole (LF c m f s) room
  | 0, s, room, h => sw0_ole h
  | f + 1, s, room, h => by
    rw [WY_s] at h
    rw [LF_s]
    by_cases g : sw0 c m s room = 0
    · obtain ⟨k, hk, h2⟩ := sk_pos (f := wk (WY c m f) c m s room) (cf_n c) (by omega)
      unfold wk at h2
      cases hx : nx c m s k with
      | none => rw [hx] at h2; exact absurd rfl h2
      | some s' =>
        rw [hx] at h2
        dsimp only at h2
        split at h2
        · obtain ⟨v, v1, v2⟩ := WY_ole f s' _ h2
          exact lb_k ⟨_, gk_eq hx v1, by omega⟩ _ hk
        · exact absurd rfl h2
    · exact lb_0 (sw0_ole g) _
theorem WY_none {f : Nat} {s : St} (h : LF c m f s = none) (room : Nat) : WY c m f s room = 0 := by
  by_cases g : WY c m f s room = 0
  · exact g
  · obtain ⟨v, v1, _⟩ := WY_ole f s room g
    rw [h] at v1
    cases v1
theorem WY_le (hn : cf_n c ≤ 6) : ∀ f s room, WY c m f s room ≤ 7 ^ f
  | 0, s, room => by
    show sw0 c m s room ≤ 1
    unfold sw0
    split <;> omega
  | f + 1, s, room => by
    have h0 : sw0 c m s room ≤ 1 := by unfold sw0; split <;> omega
    have h1 := sk_le (f := wk (WY c m f) c m s room) (b := 7 ^ f) (cf_n c) (fun k _ => by
      unfold wk
      split
      · exact Nat.zero_le _
      · split
        · exact WY_le hn f _ _
        · exact Nat.zero_le _)
    have h2 : cf_n c * 7 ^ f ≤ 6 * 7 ^ f := Nat.mul_le_mul_right _ hn
    have h3 : 0 < 7 ^ f := Nat.pow_pos (by decide)
    rw [WY_s, Nat.pow_succ, Nat.mul_comm]
    omega
theorem WY_mu : ∀ f f' s room, okS c s → mu c m s ≤ f → mu c m s ≤ f' → WY c m f s room = WY c m f' s room := by
  have one : ∀ f s room, okS c s → mu c m s = 0 → WY c m f s room = sw0 c m s room := by
    intro f s room ho h0
    cases f with
    | zero => rfl
    | succ f =>
      rw [WY_s, sk_0, Nat.add_zero]
      intro k hk
      unfold wk
      cases hx : nx c m s k with
      | none => rfl
      | some s' =>
        dsimp only
        rcases nx_mu hk ho hx with z | z
        · split
          · exact WY_none (LF_dead z.1 z.2 f) _
          · rfl
        · omega
  intro f
  induction f with
  | zero =>
    intro f' s room ho h1 h2
    rw [one f' s room ho (by omega)]
    rfl
  | succ f ih =>
    intro f' s room ho h1 h2
    cases f' with
    | zero =>
      rw [one (f + 1) s room ho (by omega)]
      rfl
    | succ f' =>
      rw [WY_s, WY_s]
      congr 1
      refine sk_cg _ (fun k hk => ?_)
      unfold wk
      cases hx : nx c m s k with
      | none => rfl
      | some s' =>
        dsimp only
        rcases nx_mu hk ho hx with z | z
        · rw [WY_none (LF_dead z.1 z.2 f), WY_none (LF_dead z.1 z.2 f')]
        · rw [ih f' s' _ (nx_ok hk hx).2 (by omega) (by omega)]
theorem Fu_eqW {x : Ce} (hx : vx c m pc x) {f f' : Nat} (h : Fu c m pc x f) (h' : Fu c m pc x f') (hp : pcok c m pc) (room : Nat) : WY c m f (stc x) room = WY c m f' (stc x) room := by
  have := hp.1
  rcases h with ⟨q1, q2⟩ | ⟨q1, q2, q3⟩
  · rcases h' with ⟨p1, p2⟩ | ⟨p1, p2, p3⟩
    · exact WY_mu f f' _ _ (vx_ok hx) q2 p2
    · omega
  · rcases h' with ⟨p1, p2⟩ | ⟨p1, p2, p3⟩
    · omega
    · rw [show f = f' by omega]
def wz (c : Cf) (m : List Nat) (f : Nat) (s : St) (room k : Nat) : Nat := match f with
  | 0 => 0
  | f + 1 => wk (WY c m f) c m s room k
theorem WY_wz (f : Nat) (s : St) (room : Nat) : WY c m f s room = sw0 c m s room + sk (wz c m f s room) (cf_n c) := by
  cases f with
  | zero =>
    rw [show sk (wz c m 0 s room) (cf_n c) = 0 from sk_0 _ (fun k _ => rfl), Nat.add_zero]
    rfl
  | succ f => rfl
theorem wz_on (hp : pcok c m pc) {x : Ce} {f k : Nat} (hx : vx c m pc x) (hf : Fu c m pc x f) (hk : k < cf_n c) : (on c m pc x k = none ∧ ∀ room, wz c m f (stc x) room k = 0) ∨ ∃ y f', on c m pc x k = some y ∧ f = f' + 1 ∧ vx c m pc y ∧ Fu c m pc y f' ∧ ∀ room, wz c m f (stc x) room k = if tk c x.2.2.2 k ≤ room then WY c m f' (stc y) (room - tk c x.2.2.2 k) else 0 := by
  cases h : on c m pc x k with
  | none =>
    left
    refine ⟨rfl, fun room => ?_⟩
    cases f with
    | zero => rfl
    | succ f =>
      have hg := on_none hp hx hf h
      show wk (WY c m f) c m (stc x) room k = 0
      unfold wk
      cases hn : nx c m (stc x) k with
      | none => rfl
      | some s' =>
        dsimp only
        split
        · refine WY_none ?_ _
          cases hL : LF c m f s' with
          | none => rfl
          | some v => rw [gk_eq hn hL] at hg; cases hg
        · rfl
  | some y =>
    right
    obtain ⟨h1, h2, f', h3, h4⟩ := on_some hp hx hf hk h
    subst h3
    refine ⟨y, f', rfl, rfl, h1, h4, fun room => ?_⟩
    show wk (WY c m f') c m (stc x) room k = _
    unfold wk
    rw [h2]
    rfl
end WAY
section WCL
variable {c : Cf} {m : List Nat} {pc : Nat} {M : pm_M}
/-- where a cell's ways lie -/
def spw (x : Ce) : Nat := ci x % 280 * 100
/-- the ways of a cell are worked out -/
def TwC (c : Cf) (m : List Nat) (pc : Nat) (M : pm_M) (y : Ce) : Prop := ∀ f, f ≤ 20 → Fu c m pc y f → LF c m f (stc y) ≠ none → ∀ r, r < 100 → gL M 32 (spw y + r) = lN (WY c m f (stc y) r)
theorem c_spot6 (d : Nat) {x : Ce} (h1 : x.1 ≤ 12) (h2 : x.2.1 < 10) (h3 : x.2.2.2 ≤ 6) : pm_call (d + 1) 70 [.int (nI (ci x))] M (some (.int (nI (spw x)))) M := by
  obtain ⟨_, _, _, _, d5⟩ := ci_d h1 h2 h3
  refine en_70 (Nat.le_of_ble_eq_true rfl) ?_
  refine st_ild rfl rfl ?_
  refine st_k rfl ?_
  refine st_idv rfl ((by decide)) ?_
  -- at 5: stop
  refine wp_e (pk_rem (a := ci x) (d := 280) (by omega) (by decide) (by decide)) ?_
  refine st_k rfl ?_
  refine st_ib rfl ?_
  -- at 8: op_iret
  exact st_iret rfl ⟨congrArg (fun z => some (Value.int z)) (pk_mul (ci x % 280) 100), rfl⟩
theorem spw_ne {x y : Ce} (h : ci x ≠ ci y) (h1 : ci x < ci y + 280) (h2 : ci y < ci x + 280) : spw x + 100 ≤ spw y ∨ spw y + 100 ≤ spw x := by
  unfold spw
  omega
theorem on_ci (hp : pcok c m pc) (hw : cf_wf c) {x y : Ce} {k f : Nat} (hx : vx c m pc x) (hf : Fu c m pc x f) (hk : k < cf_n c) (h : on c m pc x k = some y) : ci x ≠ ci y ∧ ci x < ci y + 280 ∧ ci y < ci x + 280 ∧ (x.1 < y.1 ∨ (y.1 = x.1 ∧ ci y < ci x)) ∧ y.1 ≤ x.1 + 1 := by
  have hn := hw.1
  obtain ⟨h1, h2, _⟩ := on_some hp hx hf hk h
  obtain ⟨b1, b2, b3, b4, b5⟩ := vx_b hw hp hx
  obtain ⟨a1, a2, a3, a4, a5⟩ := vx_b hw hp h1
  have ex : ci x = x.1 * 140 + x.2.1 * 14 + (if x.2.2.1 = true then 0 else 7) + x.2.2.2 := rfl
  have ey : ci y = y.1 * 140 + y.2.1 * 14 + (if y.2.2.1 = true then 0 else 7) + y.2.2.2 := rfl
  have bx : (if x.2.2.1 = true then 0 else 7) ≤ 7 := by split <;> omega
  have by' : (if y.2.2.1 = true then 0 else 7) ≤ 7 := by split <;> omega
  unfold on at h
  split at h
  · cases h
  · split at h
    · rename_i ho
      injection h with h
      subst h
      rw [ho, if_neg (by decide)] at ex
      rw [if_pos rfl] at ey
      dsimp only at *
      omega
    · split at h
      · split at h
        · injection h with h
          subst h
          dsimp only at *
          omega
        · cases h
      · split at h
        · injection h with h
          subst h
          dsimp only at *
          omega
        · cases h
theorem c_countWays (d : Nat) (hM : pm_ok M) (h : SP c c m pc M) (hT : TbA c m pc M) {x : Ce} (hx : vx c m pc x) {f : Nat} (hf : Fu c m pc x f) (hf20 : f ≤ 20) (hW : ∀ k y, k < cf_n c → on c m pc x k = some y → TwC c m pc M y) : pm_call (d + 3) 68 [.ref 27, .int (nI (ci x))] M none (wL M 32 (spw x) 100 (fun r => lN (WY c m f (stc x) r))) := by
  have hw := h.1.2.2.2.1
  have hn := hw.1
  have hp := h.2.2
  obtain ⟨b1, b2, b3, b4, b5⟩ := vx_b hw hp hx
  obtain ⟨d1, d2, d3, d4, d5⟩ := ci_d b1 b3 b5
  have t32 : M.1[32]? = some (101, 28000) := tT hM rfl
  have hsx : spw x + 100 ≤ 28000 := by unfold spw; omega
  have hsl := nv_lt (x := sde c m (stc x)) (fun v hv => LF_lt hw (m := m) (s := stc x) (f := 0) (by omega) v hv)
  refine en_68 (Nat.le_of_ble_eq_true rfl) ?_
  refine st_ild rfl rfl ?_
  refine st_call (As := [_]) rfl rfl rfl (Nat.le_of_ble_eq_true rfl) (c_spot6 (d + 1) b1 b3 b5) ?_
  refine st_ist rfl ?_
  refine st_ald rfl rfl ?_
  refine st_gR' rfl (by first | exact tT hM rfl | assumption | exact rw_T hM (by assumption) | exact rw_A hM (by assumption)) (by first | exact rR hM rfl rfl | assumption | exact rw_R hM (by assumption)) ?_
  refine st_ild rfl rfl ?_
  refine st_ald rfl rfl ?_
  refine st_ild rfl rfl ?_
  refine st_cav (As := [_]) rfl rfl rfl (by first | exact tT hM rfl | assumption | exact rw_T hM (by assumption) | exact rw_A hM (by assumption)) (Nat.le_of_ble_eq_true rfl) (c_ending d hM h.1 hp hx) ?_
  refine st_call (As := [_, _, _]) rfl rfl rfl (Nat.le_of_ble_eq_true rfl) (c_setWays (d + 1) t32 (by decide) hsx (by omega)) ?_
  -- at 18: stop
  refine st_k rfl ?_
  refine st_ist rfl ?_
  -- at 20: stop
  refine wp_for (cf_n c) (fun j L M1 => ∃ z y4, z = nI j ∧ L = [some (.ref 27), some (.int (nI (ci x))), some (.int (nI (spw x))), some (.int z), y4] ∧ M1 = wL M 32 (spw x) 100 (fun r => lN (sw0 c m (stc x) r + sk (wz c m f (stc x) r) j))) ?_ ?_ 0 _ _ (Nat.zero_le _) ⟨_, _, rfl, rfl, wL_cg (fun r hr => ?_)⟩
  · rintro j L M1 hj ⟨z, y4, rfl, rfl, rfl⟩ ih
    have hM1 : pm_ok (wL M 32 (spw x) 100 (fun r => lN (sw0 c m (stc x) r + sk (wz c m f (stc x) r) j))) := hM
    have h1 : SP c c m pc (wL M 32 (spw x) 100 (fun r => lN (sw0 c m (stc x) r + sk (wz c m f (stc x) r) j))) := h
    have htk := tk_le hw (last := x.2.2.2) hj
    have skip : (∀ r, wz c m f (stc x) r j = 0) → ∀ y4, pm_WP (pm_call (d + 2)) tb_68 (fun r0 M' => r0 = none ∧ M' = wL M 32 (spw x) 100 (fun r => lN (WY c m f (stc x) r))) 83 [some (.ref 27), some (.int (nI (ci x))), some (.int (nI (spw x))), some (.int (nI j)), y4] [] (wL M 32 (spw x) 100 (fun r => lN (sw0 c m (stc x) r + sk (wz c m f (stc x) r) j))) := by
      intro z y4
      refine st_inc rfl rfl ?_
      refine st_go rfl ?_
      -- at 20: stop
      exact ih _ _ ⟨_, _, nI_1 j, rfl, wL_cg (fun r hr => by rw [sk_s, z r, Nat.add_zero])⟩
    refine st_ild rfl rfl ?_
    refine st_ald rfl rfl ?_
    refine st_gR' rfl (by first | exact tT hM1 rfl | assumption | exact rw_T hM1 (by assumption) | exact rw_A hM1 (by assumption)) (by first | exact rR hM1 rfl rfl | assumption | exact rw_R hM1 (by assumption)) ?_
    refine st_gI rfl (by first | exact tT hM1 rfl | assumption | exact rw_T hM1 (by assumption) | exact rw_A hM1 (by assumption)) ?_
    -- at 28: stop
    refine wp_e (sy_n h.1) ?_
    refine st_b2 rfl (fun zq => absurd zq (nI_ge hj (by omega))) (fun _ => ?_)
    refine st_ald rfl rfl ?_
    refine st_ild rfl rfl ?_
    refine st_ild rfl rfl ?_
    refine st_cav (As := [_, _]) rfl rfl rfl (by first | exact tT hM1 rfl | assumption | exact rw_T hM1 (by assumption) | exact rw_A hM1 (by assumption)) (Nat.le_of_ble_eq_true rfl) (c_onward d hM1 h1 hx hj) ?_
    refine st_ist rfl ?_
    -- at 39: stop
    rcases wz_on hp hx hf hj with ⟨e1, e2⟩ | ⟨y, f', e1, e2, e3, e4, e5⟩
    · rw [e1]
      refine st_ild rfl rfl ?_
      refine st_k rfl ?_
      refine st_b2 rfl (fun _ => ?_) (fun zq => absurd (rfl) zq)
      -- at 83: stop
      exact skip e2 _
    · rw [e1]
      obtain ⟨y1, y2, y3, y4', y5⟩ := vx_b hw hp e3
      obtain ⟨_, _, _, _, z5⟩ := ci_d y1 y3 y5
      obtain ⟨n1, n2, n3, n4, n5⟩ := on_ci hp hw hx hf hj e1
      have hin : vp_in (nI (ci y)) 1820 := vp_in_nI z5 (by decide)
      have hsy : spw y + 100 ≤ 28000 := by unfold spw; omega
      have hdis := spw_ne n1 n2 n3
      have et := hT y e3 f' (by omega) e4
      have hne : ¬ o32 (some y) = -1 := fun z => absurd (show nI (ci y) < 0 by rw [show nI (ci y) = -1 from z]; decide) (nI_pos (by omega))
      refine st_ild rfl rfl ?_
      refine st_k rfl ?_
      refine st_b2 rfl (fun zq => absurd zq (hne)) (fun _ => ?_)
      refine st_ald rfl rfl ?_
      refine st_gR' rfl (by first | exact tT hM1 rfl | assumption | exact rw_T hM1 (by assumption) | exact rw_A hM1 (by assumption)) (by first | exact rR hM1 rfl rfl | assumption | exact rw_R hM1 (by assumption)) ?_
      refine st_ild rfl rfl ?_
      refine st_iald rfl (tT hM1 rfl) (hin) ?_
      -- at 52: stop
      refine wp_e (y := nI (nv (LF c m f' (stc y)))) (by rw [show (o32 (some y)).toNatClampNeg = ci y from nI_clamp (by omega)]; exact et) ?_
      cases hL : LF c m f' (stc y) with
      | none =>
        refine st_k rfl ?_
        refine st_b2 rfl (fun _ => ?_) (fun zq => absurd ((by decide)) zq)
        -- at 83: stop
        refine skip (fun r => ?_) _
        rw [e5 r]
        split
        · exact WY_none hL _
        · rfl
      | some v =>
        have hv1 := LF_lt hw (m := m) (s := stc y) (f := f') (by omega) v hL
        have htw := hW j y hj e1 f' (by omega) e4 (by rw [hL]; simp)
        refine st_k rfl ?_
        refine st_b2 rfl (fun zq => absurd zq (nI_ge (a := v) (b := 1000) hv1 (by decide))) (fun _ => ?_)
        refine st_ald rfl rfl ?_
        refine st_gR' rfl (by first | exact tT hM1 rfl | assumption | exact rw_T hM1 (by assumption) | exact rw_A hM1 (by assumption)) (by first | exact rR hM1 rfl rfl | assumption | exact rw_R hM1 (by assumption)) ?_
        refine st_ild rfl rfl ?_
        refine st_ild rfl rfl ?_
        refine st_call (As := [_]) rfl rfl rfl (Nat.le_of_ble_eq_true rfl) (c_spot6 (d + 1) y1 y3 y5) ?_
        refine st_ald rfl rfl ?_
        refine st_gR' rfl (by first | exact tT hM1 rfl | assumption | exact rw_T hM1 (by assumption) | exact rw_A hM1 (by assumption)) (by first | exact rR hM1 rfl rfl | assumption | exact rw_R hM1 (by assumption)) ?_
        refine st_ild rfl rfl ?_
        refine st_k rfl ?_
        refine st_idv rfl ((by decide)) ?_
        -- at 76: stop
        refine wp_e (pk_rem (a := ci x) (d := 7) (by omega) (by decide) (by decide)) ?_
        rw [d2]
        refine st_ild rfl rfl ?_
        refine st_cav (As := [_, _]) rfl rfl rfl (by first | exact tT hM1 rfl | assumption | exact rw_T hM1 (by assumption) | exact rw_A hM1 (by assumption)) (Nat.le_of_ble_eq_true rfl) (sy_tk (d + 1) hM1 h1.1 b4 hj) ?_
        refine st_call (As := [_, _, _, _]) rfl rfl rfl (Nat.le_of_ble_eq_true rfl) (c_addWays (d + 1) (tT hM1 rfl) (by decide) hsx hsy (by omega) (by omega)) ?_
        refine st_inc rfl rfl ?_
        refine st_go rfl ?_
        -- at 20: stop
        refine ih _ _ ⟨_, _, nI_1 j, rfl, ?_⟩
        rw [wL_wL]
        refine wL_cg (fun r hr => ?_)
        have hA : gL (wL M 32 (spw x) 100 (fun r => lN (sw0 c m (stc x) r + sk (wz c m f (stc x) r) j))) 32 (spw x + r) = lN (sw0 c m (stc x) r + sk (wz c m f (stc x) r) j) := by rw [gL_wL, if_pos ⟨rfl, by omega, by omega⟩, Nat.add_sub_cancel_left]
        rw [sk_s, e5 r]
        by_cases g2 : tk c x.2.2.2 j ≤ r
        · rw [if_pos g2, if_pos g2, hA, gL_wL, if_neg (by omega), htw (r - tk c x.2.2.2 j) (by omega), lN_add, Nat.add_assoc]
        · rw [if_neg g2, if_neg g2, hA, Nat.add_zero]
  · rintro L M1 ⟨z, y4, rfl, rfl, rfl⟩
    have hM1 : pm_ok (wL M 32 (spw x) 100 (fun r => lN (sw0 c m (stc x) r + sk (wz c m f (stc x) r) (cf_n c)))) := hM
    refine st_ild rfl rfl ?_
    refine st_ald rfl rfl ?_
    refine st_gR' rfl (by first | exact tT hM1 rfl | assumption | exact rw_T hM1 (by assumption) | exact rw_A hM1 (by assumption)) (by first | exact rR hM1 rfl rfl | assumption | exact rw_R hM1 (by assumption)) ?_
    refine st_gI rfl (by first | exact tT hM1 rfl | assumption | exact rw_T hM1 (by assumption) | exact rw_A hM1 (by assumption)) ?_
    -- at 28: stop
    refine wp_e (sy_n h.1) ?_
    refine st_b2 rfl (fun _ => ?_) (fun zq => absurd (nI_le (Nat.le_refl _) (by omega)) zq)
    -- at 89: op_vret
    exact st_vret rfl ⟨rfl, wL_cg (fun r hr => by rw [WY_wz])⟩
  · show lN (if nv (sde c m (stc x)) ≤ r then 1 else 0) = lN (sw0 c m (stc x) r + 0)
    rw [Nat.add_zero]
    congr 1
    by_cases g : sdn c m (stc x) = true
    · have e1 : nv (sde c m (stc x)) = em c (stc x).2.1 := by
        unfold sde
        rw [if_pos g]
        rfl
      rw [e1]
      unfold sw0
      by_cases g2 : em c (stc x).2.1 ≤ r
      · exact (if_pos g2).trans (if_pos ⟨g, g2⟩).symm
      · exact (if_neg g2).trans (if_neg (fun z => g2 z.2)).symm
    · have e1 : nv (sde c m (stc x)) = 1000 := by
        unfold sde
        rw [if_neg g]
        rfl
      rw [e1]
      unfold sw0
      exact (if_neg (by omega)).trans (if_neg (fun z => g z.1)).symm
end WCL

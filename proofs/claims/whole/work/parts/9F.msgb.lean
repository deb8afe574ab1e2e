/-! MESSAGES: a rope goes on; change -/
def rcl (c : Cf) (m : List Nat) (pc : Nat) (x : Ce) : List Nat → Option Ce
  | [] => some x
  | k :: ws => match on c m pc x k with
    | none => none
    | some y => rcl c m pc y ws
def rsl (c : Cf) (m : List Nat) (s : St) : List Nat → Option St
  | [] => some s
  | k :: ws => match nx c m s k with
    | none => none
    | some s' => rsl c m s' ws
section RUN
variable {c : Cf} {m : List Nat} {pc : Nat}
theorem LF_run : ∀ (ws : List Nat) (s s' : St) (f v : Nat), kn c ws → rsl c m s ws = some s' → LF c m f s' = some v → ∃ w, LF c m (f + ws.length) s = some w
  | [], s, s', f, v, _, h, hv => by
    have h' : some s = some s' := h
    injection h' with h'
    subst h'
    exact ⟨v, hv⟩
  | k :: ws, s, s', f, v, hk, h, hv => by
    have h' : (match nx c m s k with
      | none => none
      | some s' => rsl c m s' ws) = some s' := h
    cases hx : nx c m s k with
    | none => rw [hx] at h'; cases h'
    | some s1 =>
      rw [hx] at h'
      obtain ⟨w, hw⟩ := LF_run ws s1 s' f v (fun q hq => hk q (List.mem_cons_of_mem _ hq)) h' hv
      have hg := gk_eq hx hw
      obtain ⟨b, hb, _⟩ := lb_k (x := sde c m s) (F := gk (LF c m (f + ws.length)) c m s) (v := tk c s.2.1 k + w) (k := k) ⟨_, hg, Nat.le_refl _⟩ (cf_n c) (hk k List.mem_cons_self)
      exact ⟨b, by rw [List.length_cons, ← Nat.add_assoc, LF_s]; exact hb⟩
theorem run_some (hp : pcok c m pc) : ∀ (ws : List Nat) (x y : Ce) (f : Nat), vx c m pc x → Fu c m pc x f → kn c ws → rcl c m pc x ws = some y → vx c m pc y ∧ rsl c m (stc x) ws = some (stc y) ∧ ∃ f', f = f' + ws.length ∧ Fu c m pc y f'
  | [], x, y, f, hx, hf, _, h => by
    have h' : some x = some y := h
    injection h' with h'
    subst h'
    exact ⟨hx, rfl, f, rfl, hf⟩
  | k :: ws, x, y, f, hx, hf, hk, h => by
    have h' : (match on c m pc x k with
      | none => none
      | some y => rcl c m pc y ws) = some y := h
    cases ho : on c m pc x k with
    | none => rw [ho] at h'; cases h'
    | some x1 =>
      rw [ho] at h'
      obtain ⟨h1, h2, f1, h3, h4⟩ := on_some hp hx hf (hk k List.mem_cons_self) ho
      obtain ⟨g1, g2, f', g3, g4⟩ := run_some hp ws x1 y f1 h1 h4 (fun q hq => hk q (List.mem_cons_of_mem _ hq)) h'
      refine ⟨g1, ?_, f', by rw [List.length_cons]; omega, g4⟩
      show (match nx c m (stc x) k with
        | none => none
        | some s' => rsl c m s' ws) = some (stc y)
      rw [h2]
      exact g2
theorem run_none (hp : pcok c m pc) : ∀ (ws : List Nat) (x : Ce) (f : Nat), vx c m pc x → Fu c m pc x f → kn c ws → ws.length ≤ f → rcl c m pc x ws = none → ∀ s', rsl c m (stc x) ws = some s' → LF c m (f - ws.length) s' = none
  | [], x, f, _, _, _, _, h => by cases h
  | k :: ws, x, f, hx, hf, hk, hl, h => by
    intro s' hs
    rw [List.length_cons] at hl ⊢
    obtain ⟨f0, rfl⟩ : ∃ f0, f = f0 + 1 := ⟨f - 1, by omega⟩
    have hkk := hk k List.mem_cons_self
    have hks : kn c ws := fun q hq => hk q (List.mem_cons_of_mem _ hq)
    have h' : (match on c m pc x k with
      | none => none
      | some y => rcl c m pc y ws) = none := h
    have hs' : (match nx c m (stc x) k with
      | none => none
      | some s' => rsl c m s' ws) = some s' := hs
    cases ho : on c m pc x k with
    | none =>
      have hg := on_none hp hx hf ho
      cases hn : nx c m (stc x) k with
      | none => rw [hn] at hs'; cases hs'
      | some s1 =>
        rw [hn] at hs'
        cases hL : LF c m (f0 + 1 - (ws.length + 1)) s' with
        | none => rfl
        | some v =>
          obtain ⟨w, hw⟩ := LF_run ws s1 s' _ v hks hs' hL
          rw [show f0 + 1 - (ws.length + 1) + ws.length = f0 by omega] at hw
          rw [gk_eq hn hw] at hg
          cases hg
    | some x1 =>
      rw [ho] at h'
      obtain ⟨h1, h2, f1, h3, h4⟩ := on_some hp hx hf hkk ho
      rw [h2] at hs'
      have := run_none hp ws x1 f1 h1 h4 hks (by omega) h' s' hs'
      rw [show f0 + 1 - (ws.length + 1) = f1 - ws.length by omega]
      exact this
theorem rcl_s (k : Nat) : ∀ (ws : List Nat) (x : Ce), rcl c m pc x (ws ++ [k]) = match rcl c m pc x ws with
    | none => none
    | some y => on c m pc y k
  | [], x => by
    show (match on c m pc x k with
      | none => none
      | some y => some y) = on c m pc x k
    cases on c m pc x k <;> rfl
  | q :: ws, x => by
    show (match on c m pc x q with
      | none => none
      | some y => rcl c m pc y (ws ++ [k])) = match (match on c m pc x q with
      | none => none
      | some y => rcl c m pc y ws) with
      | none => none
      | some y => on c m pc y k
    cases on c m pc x q with
    | none => rfl
    | some y => exact rcl_s k ws y
theorem rsl_s (k : Nat) : ∀ (ws : List Nat) (s : St), rsl c m s (ws ++ [k]) = match rsl c m s ws with
    | none => none
    | some s' => nx c m s' k
  | [], s => by
    show (match nx c m s k with
      | none => none
      | some y => some y) = nx c m s k
    cases nx c m s k <;> rfl
  | q :: ws, s => by
    show (match nx c m s q with
      | none => none
      | some y => rsl c m y (ws ++ [k])) = match (match nx c m s q with
      | none => none
      | some y => rsl c m y ws) with
      | none => none
      | some y => nx c m y k
    cases nx c m s q with
    | none => rfl
    | some y => exact rsl_s k ws y
theorem rcl_none {k : Nat} {x : Ce} : ∀ (u v : List Nat), rcl c m pc x u = none → rcl c m pc x (u ++ v) = none
  | u, [], h => by rw [List.append_nil]; exact h
  | u, q :: v, h => by
    rw [show u ++ q :: v = (u ++ [q]) ++ v by simp]
    refine rcl_none (k := k) (u ++ [q]) v ?_
    rw [rcl_s, h]
/-- what a ROPE with such a beginning becomes -/
def gof (c : Cf) (m : List Nat) (ws : List Nat) : Option (List Nat) := match rsl c m s00 ws with
  | none => none
  | some s => match LF c m (20 - ws.length) s with
    | none => none
    | some v => if mt c 6 ws + v ≤ cf_rm c then some (ws ++ sp c m (20 - ws.length) s) else none
theorem rsl_last : ∀ (ws : List Nat) (s s' : St), kn c ws → rsl c m s ws = some s' → s'.2.1 = lsD s.2.1 ws
  | [], s, s', _, h => by
    have h' : some s = some s' := h
    injection h' with h'
    subst h'
    rfl
  | k :: ws, s, s', hk, h => by
    have h' : (match nx c m s k with
      | none => none
      | some s' => rsl c m s' ws) = some s' := h
    cases hx : nx c m s k with
    | none => rw [hx] at h'; cases h'
    | some s1 =>
      rw [hx] at h'
      have := rsl_last ws s1 s' (fun q hq => hk q (List.mem_cons_of_mem _ hq)) h'
      rw [this, (nx_ok (hk k List.mem_cons_self) hx).1]
      rfl
end RUN
section CHC
variable {a : As} {M : pm_M} {c : Cf} {m : List Nat} {pc : Nat}
theorem c_goOnFrom (d : Nat) (hM : pm_ok M) (h : SP c c m pc M) (hT : TbA c m pc M) {ws : List Nat} (hk : kn c ws) (hl : ws.length ≤ 20) (hr : pm_Ro M 99 (ws.map nI)) :
    (gof c m ws = none → pm_call (d + 6) 66 [.ref 27, .ref 99] M (some (.int 0)) M) ∧ ∀ l, gof c m ws = some l → ∃ M', pm_call (d + 6) 66 [.ref 27, .ref 99] M (some (.int 1)) M' ∧ pm_Ro M' 99 (l.map nI) ∧ pm_S (pm_oo 99) M M' := by
  have hw := h.1.2.2.2.1
  have hp := h.2.2
  have hlen := hr.1
  rw [map_len] at hlen
  have hmt := mt_le hw ws 6 hk
  have hrm := rm99 hw
  have hwl : (ws.map nI).length = ws.length := map_len ws
  -- the walk
  have walk : ∀ Q : Option Value → pm_M → Prop, (rcl c m pc c00 ws = none → Q (some (.int 0)) M) → (∀ y l5 l6, rcl c m pc c00 ws = some y → pm_WP (pm_call (d + 5)) tb_66 Q 69 [some (.ref 27), some (.ref 99), some (.int (nI (ci y))), some (.int (nI (lsD 6 ws))), some (.int (nI (mt c 6 ws))), l5, l6] [] M) → pm_WP (pm_call (d + 5)) tb_66 Q 0 (pm_init 7 [.ref 27, .ref 99]) [] M := by
    intro Q hQ1 hQ2
    refine st_k rfl ?_
    refine st_ist rfl ?_
    refine st_k rfl ?_
    refine st_ist rfl ?_
    refine st_k rfl ?_
    refine st_ist rfl ?_
    refine st_k rfl ?_
    refine st_ist rfl ?_
    -- at 12: stop
    refine wp_for ws.length (fun i L M1 => ∃ z y y6, z = nI i ∧ L = [some (.ref 27), some (.ref 99), some (.int (nI (ci y))), some (.int (nI (lsD 6 (ws.take i)))), some (.int (nI (mt c 6 (ws.take i)))), some (.int z), y6] ∧ M1 = M ∧ rcl c m pc c00 (ws.take i) = some y) ?_ ?_ 0 _ _ (Nat.zero_le _) ⟨_, c00, _, rfl, rfl, rfl, rfl⟩
    · rintro i L M1 hi ⟨z, y, y6, rfl, rfl, rfl, hy⟩ ih
      have hkt := kn_take hk i
      obtain ⟨v1, v2, f', v3, v4⟩ := run_some hp (ws.take i) c00 y 20 (vx00 hp) (Fu00 hp) hkt hy
      have hki := kn_getD hk hi
      have hll : lst c (lsD 6 (ws.take i)) := lsD_lst _ _ hkt (Or.inr rfl)
      have hin : vp_in (nI i) 40 := vp_in_nI (by omega) (by decide)
      have hon := c_onward (d + 3) hM h v1 hki
      have htl : (ws.take i).length = i := by rw [List.length_take]; omega
      refine st_ild rfl rfl ?_
      refine st_ald rfl rfl ?_
      refine st_gI rfl (rw_T hM ro99) ?_
      -- at 18: stop
      refine wp_e hlen ?_
      refine st_b2 rfl (fun zq => absurd zq (nI_ge (by omega) (by omega))) (fun _ => ?_)
      refine st_ald rfl rfl ?_
      refine st_gR' rfl (rw_T hM ro99) (rw_R hM ro99) ?_
      refine st_ild rfl rfl ?_
      refine st_iald rfl (rw_A hM ro99) (hin) ?_
      -- at 28: stop
      refine wp_e (y := nI (ws.getD i 0)) ((ro_at hr (by rw [hwl]; exact hi)).trans (map_getD hi)) ?_
      refine st_ist rfl ?_
      refine st_ild rfl rfl ?_
      refine st_ald rfl rfl ?_
      refine st_gR' rfl (by first | exact tT hM rfl | assumption | exact rw_T hM (by assumption) | exact rw_A hM (by assumption)) (by first | exact rR hM rfl rfl | assumption | exact rw_R hM (by assumption)) ?_
      refine st_ild rfl rfl ?_
      refine st_ild rfl rfl ?_
      refine st_cav (As := [_, _]) rfl rfl rfl (by first | exact tT hM rfl | assumption | exact rw_T hM (by assumption) | exact rw_A hM (by assumption)) (Nat.le_of_ble_eq_true rfl) (sy_tk (d + 4) hM h.1 hll hki) ?_
      refine st_ib rfl ?_
      -- at 43: stop
      refine wp_e (y := nI (mt c 6 (ws.take (i + 1)))) (by rw [nI_add, takeN_s hi, mt_app]) ?_
      refine st_ist rfl ?_
      refine st_ald rfl rfl ?_
      refine st_ild rfl rfl ?_
      refine st_ild rfl rfl ?_
      refine st_cav (As := [_, _]) rfl rfl rfl (by first | exact tT hM rfl | assumption | exact rw_T hM (by assumption) | exact rw_A hM (by assumption)) (Nat.le_of_ble_eq_true rfl) (hon) ?_
      refine st_ist rfl ?_
      -- at 53: stop
      have hst := rcl_s (c := c) (m := m) (pc := pc) (ws.getD i 0) (ws.take i) c00
      rw [← takeN_s hi, hy] at hst
      dsimp only at hst
      cases ho : on c m pc y (ws.getD i 0) with
      | none =>
        rw [ho] at hst
        refine st_ild rfl rfl ?_
        refine st_k rfl ?_
        refine st_b2 rfl (fun zq => absurd zq ((fun z => z rfl))) (fun _ => ?_)
        refine st_k rfl ?_
        -- at 59: op_zret
        refine st_zret rfl (by decide) (hQ1 ?_)
        have := rcl_none (k := 0) (ws.take (i + 1)) (ws.drop (i + 1)) hst
        rw [List.take_append_drop] at this
        exact this
      | some y' =>
        rw [ho] at hst
        have hne : ¬ o32 (some y') = -1 := fun z => by
          obtain ⟨w1, _⟩ := on_some hp v1 v4 hki ho
          obtain ⟨b1, b2, b3, b4, b5⟩ := vx_b hw hp w1
          obtain ⟨_, _, _, _, d5⟩ := ci_d b1 b3 b5
          exact absurd (show nI (ci y') < 0 by rw [show nI (ci y') = -1 from z]; decide) (nI_pos (by omega))
        refine st_ild rfl rfl ?_
        refine st_k rfl ?_
        refine st_b2 rfl (fun _ => ?_) (fun zq => absurd (hne) zq)
        refine st_ild rfl rfl ?_
        refine st_ist rfl ?_
        refine st_inc rfl rfl ?_
        refine st_go rfl ?_
        -- at 12: stop
        exact ih _ _ ⟨_, y', _, nI_1 i, by rw [takeN_s hi, lsD_app]; rfl, rfl, hst⟩
    · rintro L M1 ⟨z, y, y6, rfl, rfl, rfl, hy⟩
      rw [List.take_length] at hy ⊢
      refine st_ild rfl rfl ?_
      refine st_ald rfl rfl ?_
      refine st_gI rfl (rw_T hM ro99) ?_
      -- at 18: stop
      refine wp_e hlen ?_
      refine st_b2 rfl (fun _ => ?_) (fun zq => absurd (nI_le (by omega) (by omega)) zq)
      -- at 69: stop
      exact hQ2 y _ _ hy
  have ends : ∀ y, rcl c m pc c00 ws = some y → vx c m pc y ∧ rsl c m s00 ws = some (stc y) ∧ Fu c m pc y (20 - ws.length) := fun y hy => by
    obtain ⟨v1, v2, f', v3, v4⟩ := run_some hp ws c00 y 20 (vx00 hp) (Fu00 hp) hk hy
    exact ⟨v1, v2, by rw [show 20 - ws.length = f' by omega]; exact v4⟩
  have last : ∀ y l5 l6 (Q : Option Value → pm_M → Prop), rcl c m pc c00 ws = some y → pm_WP (pm_call (d + 5)) tb_66 Q 85 [some (.ref 27), some (.ref 99), some (.int (nI (ci y))), some (.int (nI (lsD 6 ws))), some (.int (nI (mt c 6 ws))), l5, l6] [.int (nI (cf_rm c)), .int (nI (mt c 6 ws + nv (LF c m (20 - ws.length) (stc y))))] M → pm_WP (pm_call (d + 5)) tb_66 Q 69 [some (.ref 27), some (.ref 99), some (.int (nI (ci y))), some (.int (nI (lsD 6 ws))), some (.int (nI (mt c 6 ws))), l5, l6] [] M := by
    intro y l5 l6 Q hy hQ
    obtain ⟨v1, v2, v3⟩ := ends y hy
    obtain ⟨b1, b2, b3, b4, b5⟩ := vx_b hw hp v1
    obtain ⟨_, _, _, _, d5⟩ := ci_d b1 b3 b5
    have hin : vp_in (nI (ci y)) 1820 := vp_in_nI d5 (by decide)
    refine st_ild rfl rfl ?_
    refine st_ald rfl rfl ?_
    refine st_gR' rfl (by first | exact tT hM rfl | assumption | exact rw_T hM (by assumption) | exact rw_A hM (by assumption)) (by first | exact rR hM rfl rfl | assumption | exact rw_R hM (by assumption)) ?_
    refine st_ild rfl rfl ?_
    refine st_iald rfl (by first | exact tT hM rfl | assumption | exact rw_T hM (by assumption) | exact rw_A hM (by assumption)) (by first | decide | assumption | exact vp_in_nI (by omega) (by decide)) ?_
    -- at 77: stop
    refine wp_e (y := nI (nv (LF c m (20 - ws.length) (stc y)))) (by rw [nI_clamp (by omega)]; exact hT y v1 _ (by omega) v3) ?_
    refine st_ib rfl ?_
    -- at 78: stop
    refine wp_e (nI_add _ _) ?_
    refine st_ald rfl rfl ?_
    refine st_gR' rfl (by first | exact tT hM rfl | assumption | exact rw_T hM (by assumption) | exact rw_A hM (by assumption)) (by first | exact rR hM rfl rfl | assumption | exact rw_R hM (by assumption)) ?_
    refine st_cav (As := []) rfl rfl rfl (by first | exact tT hM rfl | assumption | exact rw_T hM (by assumption) | exact rw_A hM (by assumption)) (Nat.le_of_ble_eq_true rfl) (c_room (d + 4) hM hw h.1.1) ?_
    -- at 85: stop
    exact hQ
  constructor
  · intro hg
    refine en_66 (Nat.le_of_ble_eq_true rfl) (walk _ (fun _ => ⟨rfl, rfl⟩) (fun y l5 l6 hy => last y l5 l6 _ hy ?_))
    obtain ⟨v1, v2, v3⟩ := ends y hy
    have hbig : cf_rm c < mt c 6 ws + nv (LF c m (20 - ws.length) (stc y)) := by
      unfold gof at hg
      rw [v2] at hg
      dsimp only at hg
      cases hL : LF c m (20 - ws.length) (stc y) with
      | none => show _ < _ + 1000; omega
      | some v =>
        rw [hL] at hg
        dsimp only at hg
        split at hg
        · cases hg
        · show _ < _ + v; omega
    have hnl := nv_lt (x := LF c m (20 - ws.length) (stc y)) (fun v hv => LF_lt hw (m := m) (s := stc y) (f := 20 - ws.length) (by omega) v hv)
    refine st_b2 rfl (fun zq => absurd zq (nI_ge (by omega) (by omega))) (fun _ => ?_)
    refine st_k rfl ?_
    -- at 89: op_zret
    exact st_zret rfl (by decide) ⟨rfl, rfl⟩
  · intro l hg
    have hsm : ∃ s v, rsl c m s00 ws = some s ∧ LF c m (20 - ws.length) s = some v ∧ mt c 6 ws + v ≤ cf_rm c ∧ l = ws ++ sp c m (20 - ws.length) s := by
      unfold gof at hg
      cases hs : rsl c m s00 ws with
      | none => rw [hs] at hg; cases hg
      | some s =>
        rw [hs] at hg
        dsimp only at hg
        cases hL : LF c m (20 - ws.length) s with
        | none => rw [hL] at hg; cases hg
        | some v =>
          rw [hL] at hg
          dsimp only at hg
          split at hg
          · injection hg with hg
            exact ⟨s, v, rfl, hL, by assumption, hg.symm⟩
          · cases hg
    obtain ⟨s, v, q1, q2, q3, q4⟩ := hsm
    have hsome : ∃ y, rcl c m pc c00 ws = some y := by
      cases hy : rcl c m pc c00 ws with
      | some y => exact ⟨y, rfl⟩
      | none =>
        have := run_none hp ws c00 20 (vx00 hp) (Fu00 hp) hk hl hy s q1
        rw [q2] at this
        cases this
    obtain ⟨y, hy⟩ := hsome
    obtain ⟨v1, v2, v3⟩ := ends y hy
    have hsy : s = stc y := by rw [q1] at v2; injection v2
    subst hsy
    subst q4
    obtain ⟨M', hc', r', s'⟩ := c_spell d hM h hT ro99 (by decide) hr v1 v3 (by omega) q2 (by omega)
    refine ⟨M', en_66 (Nat.le_of_ble_eq_true rfl) (walk _ (fun z => by rw [hy] at z; cases z) (fun y2 l5 l6 hy2 => last y2 l5 l6 _ hy2 ?_)), r', s'⟩
    have hyy : y2 = y := by rw [hy] at hy2; injection hy2 with hy2; exact hy2.symm
    subst hyy
    rw [q2]
    refine st_b2 rfl (fun _ => ?_) (fun zq => absurd (nI_le q3 (by omega)) zq)
    refine st_ald rfl rfl ?_
    refine st_ild rfl rfl ?_
    refine st_ald rfl rfl ?_
    refine st_cav (As := [_, _]) rfl rfl rfl (by first | exact tT hM rfl | assumption | exact rw_T hM (by assumption) | exact rw_A hM (by assumption)) (Nat.le_of_ble_eq_true rfl) (hc') ?_
    -- at 96: stop
    refine st_k rfl ?_
    -- at 97: op_zret
    exact st_zret rfl (by decide) ⟨rfl, rfl⟩
end CHC

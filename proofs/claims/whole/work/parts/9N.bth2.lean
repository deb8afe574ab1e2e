/-! TWO WHO READ ONE ROPE: the class -/
/-- what the class holds as it looks -/
def BW (c : Cf) (m bk : List Nat) (pc o : Nat) (ws : List Nat) (b : Bs) (M : pm_M) : Prop := SP c c m pc M ∧ TbA c m pc M ∧ pm_Ro M 42 (ws.map nI) ∧ gI M 41 6 = nI b.1 ∧ (b.1 ≤ cf_rm c → pm_Ro M 50 (b.2.map nI)) ∧ gR M 41 5 = some o ∧ pm_Ro M o (bk.map nI)
abbrev s41 : Nat → Prop := fun k => 41 ≤ k ∧ k ≤ 51
section BWC
variable {M : pm_M} {c : Cf} {m bk : List Nat} {pc o : Nat}
theorem ro42 : pm_rw 42 = true := by decide +kernel
theorem ro44 : pm_rw 44 = true := by decide +kernel
theorem ro46 : pm_rw 46 = true := by decide +kernel
theorem ro50 : pm_rw 50 = true := by decide +kernel
theorem BW.kept {ws : List Nat} {b : Bs} {M' : pm_M} {S : Nat → Prop} (h : BW c m bk pc o ws b M) (hs : pm_S S M M') (hn : ∀ k, S k → 44 ≤ k ∧ k ≤ 49) (ho : 51 < o) : BW c m bk pc o ws b M' := by
  have q : ∀ k, (49 < k ∨ k < 44) → ¬ S k := fun k hk z => by have := hn k z; omega
  exact ⟨h.1.kept hs (fun k z => by have := hn k z; omega), fun y hy => (h.2.1 y hy).kept hs (q _ (by omega)), h.2.2.1.kept hs (q _ (by omega)) (q _ (by omega)), by rw [hs.i (q _ (by omega))]; exact h.2.2.2.1, fun z => (h.2.2.2.2.1 z).kept hs (q _ (by omega)) (q _ (by omega)), by rw [hs.2.1]; exact h.2.2.2.2.2.1, h.2.2.2.2.2.2.kept hs (q _ (by omega)) (q _ (by omega))⟩
theorem c_readsBackward (d : Nat) (hM : pm_ok M) (hw : cf_wf c) (h9 : ∀ t, t ∈ bk → t < 10) (ho : pm_rw o = true) (ho2 : 51 < o) {ws : List Nat} {b : Bs} (hk : kn c ws) (h : BW c m bk pc o ws b M) : ∃ M', pm_call (d + 3) 3 [.ref 41] M (some (.int (if rd c ws.reverse = bk then 1 else 0))) M' ∧ pm_S (fun k => 44 ≤ k ∧ k ≤ 47) M M' := by
  obtain ⟨M1, hc1, r1, s1⟩ := c_becomeReversed d hM ro44 ro42 (by decide) (by decide) (by decide) h.2.2.1
  rw [show (ws.map nI).reverse = ws.reverse.map nI by simp] at r1
  have hM1 := s1.ok hM
  have hkr : kn c ws.reverse := fun k hk' => hk k (List.mem_reverse.mp hk')
  have hcc := h.1.1.1.kept s1 (fun k _ _ => by show ¬ (_ ∨ _); omega)
  obtain ⟨M2, hc2, r2, s2⟩ := c_read d hM1 hw hcc ro46 ro44 (by decide) (by decide) (by decide) (by decide) hkr r1
  have hM2 := s2.ok hM1
  have ro2 : pm_Ro M2 o (bk.map nI) := (h.2.2.2.2.2.2.kept s1 (by show ¬ (_ ∨ _); omega) (by show ¬ (_ ∨ _); omega)).kept s2 (by show ¬ (_ ∨ _); omega) (by show ¬ (_ ∨ _); omega)
  have gr2 : gR M2 41 5 = some o := by rw [s2.2.1, s1.2.1]; exact h.2.2.2.2.2.1
  have hc3 := c_isLike (d + 1) hM2 ro46 ho r2 ro2
  have hinj := map_inj9 (u := rd c ws.reverse) (v := bk) (rd_kn hw _ hkr) (fun t ht => by have := h9 t ht; omega)
  refine ⟨M2, en_3 (Nat.le_of_ble_eq_true rfl) ?_, (s1.mo (fun k hk => by rcases hk with z | z <;> (show _ ∧ _; omega))).tr (s2.mo (fun k hk => by rcases hk with z | z <;> (show _ ∧ _; omega)))⟩
  refine st_ald rfl rfl ?_
  refine st_gR' rfl (by first | exact tT hM rfl | assumption | exact rw_T hM (by assumption) | exact rw_A hM (by assumption)) (by first | exact rR hM rfl rfl | assumption | exact rw_R hM (by assumption)) ?_
  refine st_ald rfl rfl ?_
  refine st_gR' rfl (by first | exact tT hM rfl | assumption | exact rw_T hM (by assumption) | exact rw_A hM (by assumption)) (by first | exact rR hM rfl rfl | assumption | exact rw_R hM (by assumption)) ?_
  refine st_cav (As := [_]) rfl rfl rfl (by first | exact tT hM rfl | assumption | exact rw_T hM (by assumption) | exact rw_A hM (by assumption)) (Nat.le_of_ble_eq_true rfl) (hc1) ?_
  -- at 11: stop
  refine st_ald rfl rfl ?_
  refine st_gR' rfl (by first | exact tT hM1 rfl | assumption | exact rw_T hM1 (by assumption) | exact rw_A hM1 (by assumption)) (by first | exact rR hM1 rfl rfl | assumption | exact rw_R hM1 (by assumption)) ?_
  refine st_ald rfl rfl ?_
  refine st_gR' rfl (by first | exact tT hM1 rfl | assumption | exact rw_T hM1 (by assumption) | exact rw_A hM1 (by assumption)) (by first | exact rR hM1 rfl rfl | assumption | exact rw_R hM1 (by assumption)) ?_
  refine st_ald rfl rfl ?_
  refine st_gR' rfl (by first | exact tT hM1 rfl | assumption | exact rw_T hM1 (by assumption) | exact rw_A hM1 (by assumption)) (by first | exact rR hM1 rfl rfl | assumption | exact rw_R hM1 (by assumption)) ?_
  refine st_cav (As := [_, _]) rfl rfl rfl (by first | exact tT hM1 rfl | assumption | exact rw_T hM1 (by assumption) | exact rw_A hM1 (by assumption)) (Nat.le_of_ble_eq_true rfl) (hc2) ?_
  -- at 26: stop
  refine st_ald rfl rfl ?_
  refine st_gR' rfl (by first | exact tT hM2 rfl | assumption | exact rw_T hM2 (by assumption) | exact rw_A hM2 (by assumption)) (by first | exact rR hM2 rfl rfl | assumption | exact rw_R hM2 (by assumption)) ?_
  refine st_ald rfl rfl ?_
  refine st_gR' rfl (tT hM2 rfl) (gr2) ?_
  refine st_cav (As := [_]) rfl rfl rfl (rw_T hM2 ro46) (Nat.le_of_ble_eq_true rfl) (hc3) ?_
  -- at 37: stop
  by_cases z : rd c ws.reverse = bk
  · rw [if_pos (hinj.mpr z)]
    exact st_zret rfl (by decide) ⟨by rw [if_pos z], rfl⟩
  · rw [if_neg (fun w => z (hinj.mp w))]
    exact st_zret rfl (by decide) ⟨by rw [if_neg z], rfl⟩
theorem c_leastFrom (d : Nat) (hM : pm_ok M) (hw : cf_wf c) (hp : pcok c m pc) (hT : TbA c m pc M) {y : Ce} (hy : vx c m pc y) {f : Nat} (hf : f ≤ 20) (hfu : Fu c m pc y f) : pm_call (d + 1) 62 [.ref 27, .int (nI (ci y))] M (some (.int (nI (nv (LF c m f (stc y)))))) M := by
  obtain ⟨b1, b2, b3, b4, b5⟩ := vx_b hw hp hy
  obtain ⟨_, _, _, _, d5⟩ := ci_d b1 b3 b5
  have hin : vp_in (nI (ci y)) 1820 := vp_in_nI d5 (by decide)
  refine en_62 (Nat.le_of_ble_eq_true rfl) ?_
  refine st_ald rfl rfl ?_
  refine st_gR' rfl (by first | exact tT hM rfl | assumption | exact rw_T hM (by assumption) | exact rw_A hM (by assumption)) (by first | exact rR hM rfl rfl | assumption | exact rw_R hM (by assumption)) ?_
  refine st_ild rfl rfl ?_
  refine st_iald rfl (by first | exact tT hM rfl | assumption | exact rw_T hM (by assumption) | exact rw_A hM (by assumption)) (by first | decide | assumption | exact vp_in_nI (by omega) (by decide)) ?_
  -- at 6: stop
  refine wp_e (y := nI (nv (LF c m f (stc y)))) (by rw [nI_clamp (by omega)]; exact hT y hy f hf hfu) ?_
  exact st_iret rfl ⟨rfl, rfl⟩
theorem c_goOn (hw : cf_wf c) (h9 : ∀ t, t ∈ bk → t < 10) (ho : pm_rw o = true) (ho2 : 51 < o) (d : Nat) : ∀ f ws x b M, pm_ok M → ws.length + f = 5 → kn c ws → rcl c m pc c00 ws = some x → b.1 ≤ cf_rm c + 1 → BW c m bk pc o ws b M → ∃ M', pm_call (d + 4 + f) 2 [.ref 41, .int (nI (ci x)), .int (nI (lsD 6 ws)), .int (nI (mt c 6 ws))] M none M' ∧ BW c m bk pc o ws (DF (goC c m pc) c m bk f ws b) M' ∧ pm_S s41 M M' ∧ (DF (goC c m pc) c m bk f ws b).1 ≤ cf_rm c + 1 := by
  have hn := hw.1
  have hrm := rm99 hw
  -- the look at one ROPE
  have head : ∀ D ws x b M (Q : Option Value → pm_M → Prop), pm_ok M → kn c ws → ws.length ≤ 5 → rcl c m pc c00 ws = some x → b.1 ≤ cf_rm c + 1 → BW c m bk pc o ws b M → (∀ M1 (l4 : Int32), pm_ok M1 → BW c m bk pc o ws (udb c m bk ws b) M1 → pm_S s41 M M1 → (udb c m bk ws b).1 ≤ cf_rm c + 1 → pm_WP (pm_call (D + 3)) tb_2 Q 45 [some (.ref 41), some (.int (nI (ci x))), some (.int (nI (lsD 6 ws))), some (.int (nI (mt c 6 ws))), some (.int l4), none, none, none] [] M1) → pm_WP (pm_call (D + 3)) tb_2 Q 0 (pm_init 8 [.ref 41, .int (nI (ci x)), .int (nI (lsD 6 ws)), .int (nI (mt c 6 ws))]) [] M := by
    intro D ws x b M Q hM hk hl5 hx hb h hQ
    have hp := h.1.2.2
    obtain ⟨x1, x2, f', x3, x4⟩ := run_some hp ws c00 x 20 (vx00 hp) (Fu00 hp) hk hx
    have hmt := mt_le hw ws 6 hk
    have hlast : (stc x).2.1 = lsD 6 ws := rsl_last _ _ _ hk x2
    have hend := c_ending (D + 1) hM h.1.1 hp x1
    obtain ⟨M1, hc1, s1⟩ := c_readsBackward D hM hw h9 ho ho2 hk h
    have hM1 := s1.ok hM
    have h1 := h.kept s1 (fun k hk => by omega) ho2
    have s1' : pm_S s41 M M1 := s1.mo (fun k hk => by show _ ∧ _; omega)
    have hsl := nv_lt (x := sde c m (stc x)) (fun v hv => LF_lt hw (m := m) (s := stc x) (f := 0) (by omega) v hv)
    -- said
    have hsaid : sdn c m (stc x) = true ↔ (lw c 6 ws = true ∧ rd c ws = m) := by
      rw [← sy_00]
      constructor
      · intro z; exact ⟨_, x2, z⟩
      · rintro ⟨s', z1, z2⟩
        have : s' = stc x := by rw [show s00 = stc c00 from rfl, x2] at z1; injection z1 with z1; exact z1.symm
        rw [← this]; exact z2
    have hms : ms c 6 ws = mt c 6 ws + em c (stc x).2.1 := by rw [ms_mt, hlast]
    refine st_ild rfl rfl ?_
    refine st_ald rfl rfl ?_
    refine st_gR' rfl (by first | exact tT hM rfl | assumption | exact rw_T hM (by assumption) | exact rw_A hM (by assumption)) (by first | exact rR hM rfl rfl | assumption | exact rw_R hM (by assumption)) ?_
    refine st_ild rfl rfl ?_
    refine st_cav (As := [_]) rfl rfl rfl (by first | exact tT hM rfl | assumption | exact rw_T hM (by assumption) | exact rw_A hM (by assumption)) (Nat.le_of_ble_eq_true rfl) (hend) ?_
    refine st_ib rfl ?_
    -- at 10: stop
    refine wp_e (nI_add _ _) ?_
    refine st_ist rfl ?_
    refine st_ild rfl rfl ?_
    refine st_ald rfl rfl ?_
    refine st_gI rfl (by first | exact tT hM rfl | assumption | exact rw_T hM (by assumption) | exact rw_A hM (by assumption)) ?_
    -- at 18: stop
    refine wp_e h.2.2.2.1 ?_
    by_cases g1 : mt c 6 ws + nv (sde c m (stc x)) < b.1
    · have hsd : sdn c m (stc x) = true := by
        cases hs : sdn c m (stc x) with
        | true => rfl
        | false =>
          have : sde c m (stc x) = none := by unfold sde; rw [hs]; rfl
          rw [this] at g1
          have g1' : mt c 6 ws + 1000 < b.1 := g1
          omega
      have hse : sde c m (stc x) = some (em c (stc x).2.1) := by unfold sde; rw [if_pos hsd]
      rw [hse] at g1 ⊢
      have g1' : ms c 6 ws < b.1 := by rw [hms]; exact g1
      by_cases g2 : rd c ws.reverse = bk
      · have hud : udb c m bk ws b = (ms c 6 ws, ws) := by
          unfold udb
          rw [if_pos ⟨⟨(hsaid.mp hsd).1, (hsaid.mp hsd).2, g2⟩, g1'⟩]
        have hM2 : pm_ok (sI M1 41 6 (nI (ms c 6 ws))) := hM1
        have s2 : pm_S (fun k => k = 41) M1 (sI M1 41 6 (nI (ms c 6 ws))) := pm_S.sI (S := fun k => k = 41) pm_S.rf rfl _ _
        have r42 := h1.2.2.1.kept s2 (by decide) (by decide)
        have s3 : pm_S (pm_oo 50) (sI M1 41 6 (nI (ms c 6 ws))) (sI (pm_cp (sI M1 41 6 (nI (ms c 6 ws))) (42 + 1) (50 + 1) 0 0 (ws.map nI).length) 50 1 (nI (ws.map nI).length)) := s_become
        have sAll : pm_S (fun k => k = 41 ∨ k = 50 ∨ k = 51) M1 (sI (pm_cp (sI M1 41 6 (nI (ms c 6 ws))) (42 + 1) (50 + 1) 0 0 (ws.map nI).length) 50 1 (nI (ws.map nI).length)) := (s2.mo (fun k hk => Or.inl hk)).tr (s3.mo (fun k hk => by rcases hk with z | z <;> (show _ ∨ _; omega)))
        have h3 : BW c m bk pc o ws (ms c 6 ws, ws) (sI (pm_cp (sI M1 41 6 (nI (ms c 6 ws))) (42 + 1) (50 + 1) 0 0 (ws.map nI).length) 50 1 (nI (ws.map nI).length)) := ⟨h1.1.kept sAll (fun k z => by rcases z with z | z | z <;> omega), fun y hy => (h1.2.1 y hy).kept sAll (by show ¬ (_ ∨ _); omega), h1.2.2.1.kept sAll (by show ¬ (_ ∨ _); omega) (by show ¬ (_ ∨ _); omega), by rw [gI_ne (Or.inl (by decide)), gI_cp, if_neg (by omega), gI_same], fun _ => ro_become r42, by rw [sAll.2.1]; exact h1.2.2.2.2.2.1, h1.2.2.2.2.2.2.kept sAll (by show ¬ (_ ∨ _); omega) (by show ¬ (_ ∨ _); omega)⟩
        have ev : nI (mt c 6 ws + nv (some (em c (stc x).2.1))) = nI (ms c 6 ws) := by rw [hms]; rfl
        rw [ev]
        refine st_b2 rfl (fun zq => absurd zq (nI_ge g1' (by omega))) (fun _ => ?_)
        refine st_ald rfl rfl ?_
        refine st_cav (As := []) rfl rfl rfl (by first | exact tT hM rfl | assumption | exact rw_T hM (by assumption) | exact rw_A hM (by assumption)) (Nat.le_of_ble_eq_true rfl) (hc1) ?_
        -- at 25: stop
        refine st_b1 rfl (fun zq => absurd zq (b01_t g2)) (fun _ => ?_)
        refine st_ald rfl rfl ?_
        refine st_ild rfl rfl ?_
        refine st_pI rfl (by first | exact tT hM1 rfl | assumption | exact rw_T hM1 (by assumption) | exact rw_A hM1 (by assumption)) ?_
        -- at 34: stop
        refine st_ald rfl rfl ?_
        refine st_gR' rfl (by first | exact tT hM2 rfl | assumption | exact rw_T hM2 (by assumption) | exact rw_A hM2 (by assumption)) (by first | exact rR hM2 rfl rfl | assumption | exact rw_R hM2 (by assumption)) ?_
        refine st_ald rfl rfl ?_
        refine st_gR' rfl (by first | exact tT hM2 rfl | assumption | exact rw_T hM2 (by assumption) | exact rw_A hM2 (by assumption)) (by first | exact rR hM2 rfl rfl | assumption | exact rw_R hM2 (by assumption)) ?_
        refine st_cav (As := [_]) rfl rfl rfl (by first | exact tT hM2 rfl | assumption | exact rw_T hM2 (by assumption) | exact rw_A hM2 (by assumption)) (Nat.le_of_ble_eq_true rfl) (c_become (D + 2) hM2 ro50 ro42 (by decide) r42) ?_
        -- at 45: stop
        refine hQ _ _ (sAll.ok hM1) (by rw [hud]; exact h3) (s1'.tr (sAll.mo (fun k hk => by rcases hk with z | z | z <;> (show _ ∧ _; omega)))) ?_
        rw [hud]
        show ms c 6 ws ≤ _
        omega
      · have hud : udb c m bk ws b = b := by
          unfold udb
          rw [if_neg (fun z => g2 z.1.2.2)]
        refine st_b2 rfl (fun zq => absurd zq (nI_ge g1 (by omega))) (fun _ => ?_)
        refine st_ald rfl rfl ?_
        refine st_cav (As := []) rfl rfl rfl (by first | exact tT hM rfl | assumption | exact rw_T hM (by assumption) | exact rw_A hM (by assumption)) (Nat.le_of_ble_eq_true rfl) (hc1) ?_
        -- at 25: stop
        refine st_b1 rfl (fun _ => ?_) (fun zq => absurd (b01_f g2) zq)
        -- at 45: stop
        exact hQ _ _ hM1 (by rw [hud]; exact h1) s1' (by rw [hud]; exact hb)
    · have hud : udb c m bk ws b = b := by
        unfold udb
        rw [if_neg]
        rintro ⟨⟨z1, z2, z3⟩, z4⟩
        have hsd := hsaid.mpr ⟨z1, z2⟩
        have hse : sde c m (stc x) = some (em c (stc x).2.1) := by unfold sde; rw [if_pos hsd]
        rw [hse] at g1
        exact g1 (by rw [hms] at z4; exact z4)
      refine st_b2 rfl (fun _ => ?_) (fun zq => absurd (nI_le (by omega) (by omega)) zq)
      -- at 45: stop
      exact hQ _ _ hM (by rw [hud]; exact h) pm_S.rf (by rw [hud]; exact hb)
  intro f
  induction f with
  | zero =>
    intro ws x b M hM hl hk hx hb h
    obtain ⟨r, M', hcc, hr, h5, h6, h7⟩ := eq_2 (d := d + 3) (A := [.ref 41, .int (nI (ci x)), .int (nI (lsD 6 ws)), .int (nI (mt c 6 ws))]) (M := M) (Q := fun r M' => r = none ∧ BW c m bk pc o ws (DF (goC c m pc) c m bk 0 ws b) M' ∧ pm_S s41 M M' ∧ (DF (goC c m pc) c m bk 0 ws b).1 ≤ cf_rm c + 1) (Nat.le_of_ble_eq_true rfl) (by
      refine head d ws x b M _ hM hk (by omega) hx hb h (fun M1 l4 hM1 h1 s1 b1 => ?_)
      have e := h1.2.2.1.1
      rw [map_len] at e
      refine st_ald rfl rfl ?_
      refine st_gR' rfl (by first | exact tT hM1 rfl | assumption | exact rw_T hM1 (by assumption) | exact rw_A hM1 (by assumption)) (by first | exact rR hM1 rfl rfl | assumption | exact rw_R hM1 (by assumption)) ?_
      refine st_gI rfl (rw_T hM1 ro42) ?_
      -- at 52: stop
      refine wp_e e ?_
      refine st_k rfl ?_
      refine st_b2 rfl (fun zq => absurd zq (nI_nlt (a := ws.length) (b := 5) (by omega) (by omega))) (fun _ => ?_)
      -- at 56: op_vret
      exact st_vret rfl ⟨rfl, h1, s1, b1⟩)
    subst hr
    exact ⟨M', hcc, h5, h6, h7⟩
  | succ f ih =>
    intro ws x b M hM hl hk hx hb h
    obtain ⟨r, M', hcc, hr, h5, h6, h7⟩ := eq_2 (d := d + 4 + f) (A := [.ref 41, .int (nI (ci x)), .int (nI (lsD 6 ws)), .int (nI (mt c 6 ws))]) (M := M) (Q := fun r M' => r = none ∧ BW c m bk pc o ws (DF (goC c m pc) c m bk (f + 1) ws b) M' ∧ pm_S s41 M M' ∧ (DF (goC c m pc) c m bk (f + 1) ws b).1 ≤ cf_rm c + 1) (Nat.le_of_ble_eq_true rfl) (by
      have hh := head (d + 1 + f) ws x b M (fun r M' => r = none ∧ BW c m bk pc o ws (DF (goC c m pc) c m bk (f + 1) ws b) M' ∧ pm_S s41 M M' ∧ (DF (goC c m pc) c m bk (f + 1) ws b).1 ≤ cf_rm c + 1) hM hk (by omega) hx hb h
      rw [show d + 1 + f + 3 = d + 4 + f by omega] at hh
      refine hh (fun M1 l4 hM1 h1 s1 b1 => ?_)
      have e := h1.2.2.1.1
      rw [map_len] at e
      have hp := h.1.2.2
      obtain ⟨x1, x2, f', x3, x4⟩ := run_some hp ws c00 x 20 (vx00 hp) (Fu00 hp) hk hx
      have hmt := mt_le hw ws 6 hk
      have hll : lst c (lsD 6 ws) := lsD_lst _ _ hk (Or.inr rfl)
      refine st_ald rfl rfl ?_
      refine st_gR' rfl (by first | exact tT hM1 rfl | assumption | exact rw_T hM1 (by assumption) | exact rw_A hM1 (by assumption)) (by first | exact rR hM1 rfl rfl | assumption | exact rw_R hM1 (by assumption)) ?_
      refine st_gI rfl (rw_T hM1 ro42) ?_
      -- at 52: stop
      refine wp_e e ?_
      refine st_k rfl ?_
      refine st_b2 rfl (fun _ => ?_) (fun zq => absurd (nI_lt (a := ws.length) (b := 5) (by omega) (by decide)) zq)
      refine st_k rfl ?_
      refine st_ist rfl ?_
      -- at 60: stop
      refine wp_for (cf_n c) (fun k L M2 => ∃ z l6 l7, z = nI k ∧ L = [some (.ref 41), some (.int (nI (ci x))), some (.int (nI (lsD 6 ws))), some (.int (nI (mt c 6 ws))), some (.int l4), some (.int z), l6, l7] ∧ pm_S s41 M M2 ∧ BW c m bk pc o ws (lpb (fun k b => if goC c m pc ws k b = true then DF (goC c m pc) c m bk f (ws ++ [k]) b else b) k (udb c m bk ws b)) M2 ∧ (lpb (fun k b => if goC c m pc ws k b = true then DF (goC c m pc) c m bk f (ws ++ [k]) b else b) k (udb c m bk ws b)).1 ≤ cf_rm c + 1) ?_ ?_ 0 _ _ (Nat.zero_le _) ⟨_, _, _, rfl, rfl, s1, h1, b1⟩
      · rintro k L M2 hkn ⟨z, l6, l7, rfl, rfl, s2, h2, b2⟩ ih2
        have hM2 := s2.ok hM
        have hk2 : kn c (ws ++ [k]) := fun q hq => (List.mem_append.mp hq).elim (hk q) (fun z => by rw [List.mem_singleton.mp z]; exact hkn)
        have hl2 : (ws ++ [k]).length = ws.length + 1 := by simp
        have hmt2 := mt_le hw (ws ++ [k]) 6 hk2
        rw [hl2] at hmt2
        have hon := c_onward (d + 2 + f) hM2 h2.1 x1 hkn
        rw [show d + 2 + f + 2 = d + 4 + f by omega] at hon
        have htk := sy_tk (d + 3 + f) hM2 h2.1.1 hll hkn
        rw [show d + 3 + f + 1 = d + 4 + f by omega] at htk
        generalize hB : lpb (fun k b => if goC c m pc ws k b = true then DF (goC c m pc) c m bk f (ws ++ [k]) b else b) k (udb c m bk ws b) = B at h2 b2
        have hnext : lpb (fun k b => if goC c m pc ws k b = true then DF (goC c m pc) c m bk f (ws ++ [k]) b else b) (k + 1) (udb c m bk ws b) = if goC c m pc ws k B = true then DF (goC c m pc) c m bk f (ws ++ [k]) B else B := by rw [lpb_s, hB]
        have hrc := rcl_s (c := c) (m := m) (pc := pc) k ws c00
        rw [hx] at hrc
        dsimp only at hrc
        have skip : goC c m pc ws k B = false → ∀ l6 l7, pm_WP (pm_call (d + 4 + f)) tb_2 (fun r M' => r = none ∧ BW c m bk pc o ws (DF (goC c m pc) c m bk (f + 1) ws b) M' ∧ pm_S s41 M M' ∧ (DF (goC c m pc) c m bk (f + 1) ws b).1 ≤ cf_rm c + 1) 155 [some (.ref 41), some (.int (nI (ci x))), some (.int (nI (lsD 6 ws))), some (.int (nI (mt c 6 ws))), some (.int l4), some (.int (nI k)), l6, l7] [] M2 := by
          intro g l6 l7
          refine st_inc rfl rfl ?_
          refine st_go rfl ?_
          -- at 60: stop
          exact ih2 _ _ ⟨_, _, _, nI_1 k, rfl, s2, by rw [hnext, g]; exact h2, by rw [hnext, g]; exact b2⟩
        refine st_ild rfl rfl ?_
        refine st_ald rfl rfl ?_
        refine st_gR' rfl (by first | exact tT hM2 rfl | assumption | exact rw_T hM2 (by assumption) | exact rw_A hM2 (by assumption)) (by first | exact rR hM2 rfl rfl | assumption | exact rw_R hM2 (by assumption)) ?_
        refine st_gI rfl (by first | exact tT hM2 rfl | assumption | exact rw_T hM2 (by assumption) | exact rw_A hM2 (by assumption)) ?_
        -- at 69: stop
        refine wp_e (sy_n h2.1.1) ?_
        refine st_b2 rfl (fun zq => absurd zq (nI_ge hkn (by omega))) (fun _ => ?_)
        refine st_ald rfl rfl ?_
        refine st_gR' rfl (by first | exact tT hM2 rfl | assumption | exact rw_T hM2 (by assumption) | exact rw_A hM2 (by assumption)) (by first | exact rR hM2 rfl rfl | assumption | exact rw_R hM2 (by assumption)) ?_
        refine st_ild rfl rfl ?_
        refine st_ild rfl rfl ?_
        refine st_cav (As := [_, _]) rfl rfl rfl (by first | exact tT hM2 rfl | assumption | exact rw_T hM2 (by assumption) | exact rw_A hM2 (by assumption)) (Nat.le_of_ble_eq_true rfl) (hon) ?_
        refine st_ist rfl ?_
        refine st_ild rfl rfl ?_
        refine st_ald rfl rfl ?_
        refine st_gR' rfl (by first | exact tT hM2 rfl | assumption | exact rw_T hM2 (by assumption) | exact rw_A hM2 (by assumption)) (by first | exact rR hM2 rfl rfl | assumption | exact rw_R hM2 (by assumption)) ?_
        refine st_ild rfl rfl ?_
        refine st_ild rfl rfl ?_
        refine st_cav (As := [_, _]) rfl rfl rfl (by first | exact tT hM2 rfl | assumption | exact rw_T hM2 (by assumption) | exact rw_A hM2 (by assumption)) (Nat.le_of_ble_eq_true rfl) (htk) ?_
        refine st_ib rfl ?_
        -- at 96: stop
        refine wp_e (y := nI (mt c 6 (ws ++ [k]))) (by rw [nI_add, mt_app]) ?_
        cases ho' : on c m pc x k with
        | none =>
          rw [ho'] at hrc
          refine st_ist rfl ?_
          refine st_ild rfl rfl ?_
          refine st_k rfl ?_
          refine st_b2 rfl (fun _ => ?_) (fun zq => absurd (rfl) zq)
          -- at 155: stop
          exact skip (by unfold goC; rw [hrc]) _ _
        | some y =>
          rw [ho'] at hrc
          obtain ⟨y1, y2, f2, y3, y4⟩ := run_some hp (ws ++ [k]) c00 y 20 (vx00 hp) (Fu00 hp) hk2 hrc
          rw [hl2] at y3
          have ef2 : f2 = 20 - (ws.length + 1) := by omega
          subst ef2
          obtain ⟨q1, q2, q3, q4, q5⟩ := vx_b hw hp y1
          obtain ⟨_, _, _, _, d5⟩ := ci_d q1 q3 q5
          have hne : ¬ o32 (some y) = -1 := fun z => absurd (show nI (ci y) < 0 by rw [show nI (ci y) = -1 from z]; decide) (nI_pos (by omega))
          have hlf := c_leastFrom (d + 3 + f) hM2 hw hp h2.2.1 y1 (f := 20 - (ws.length + 1)) (by omega) y4
          rw [show d + 3 + f + 1 = d + 4 + f by omega] at hlf
          have hnl := nv_lt (x := LF c m (20 - (ws.length + 1)) (stc y)) (fun v hv => LF_lt hw (m := m) (s := stc y) (f := 20 - (ws.length + 1)) (by omega) v hv)
          have hgo : goC c m pc ws k B = decide (mt c 6 (ws ++ [k]) + nv (LF c m (20 - (ws.length + 1)) (stc y)) < B.1) := by unfold goC; rw [hrc]
          refine st_ist rfl ?_
          refine st_ild rfl rfl ?_
          refine st_k rfl ?_
          refine st_b2 rfl (fun zq => absurd zq (hne)) (fun _ => ?_)
          refine st_ild rfl rfl ?_
          refine st_ald rfl rfl ?_
          refine st_gR' rfl (by first | exact tT hM2 rfl | assumption | exact rw_T hM2 (by assumption) | exact rw_A hM2 (by assumption)) (by first | exact rR hM2 rfl rfl | assumption | exact rw_R hM2 (by assumption)) ?_
          refine st_ild rfl rfl ?_
          refine st_cav (As := [_]) rfl rfl rfl (by first | exact tT hM2 rfl | assumption | exact rw_T hM2 (by assumption) | exact rw_A hM2 (by assumption)) (Nat.le_of_ble_eq_true rfl) (hlf) ?_
          refine st_ib rfl ?_
          -- at 116: stop
          refine wp_e (nI_add _ _) ?_
          refine st_ald rfl rfl ?_
          refine st_gI rfl (by first | exact tT hM2 rfl | assumption | exact rw_T hM2 (by assumption) | exact rw_A hM2 (by assumption)) ?_
          -- at 120: stop
          refine wp_e h2.2.2.2.1 ?_
          by_cases g : mt c 6 (ws ++ [k]) + nv (LF c m (20 - (ws.length + 1)) (stc y)) < B.1
          · have hgt : goC c m pc ws k B = true := by rw [hgo]; exact decide_eq_true g
            have hw40 : (ws.map nI).length < 40 := by rw [map_len]; omega
            have cad := c_add (d + 3 + f) hM2 ro42 h2.2.2.1 hw40 (nI k)
            rw [show d + 3 + f + 1 = d + 4 + f by omega] at cad
            have r42 := ro_add h2.2.2.1 hw40 (nI k)
            rw [show ws.map nI ++ [nI k] = (ws ++ [k]).map nI by simp] at r42
            have s3 : pm_S (pm_oo 42) M2 (sI (sI M2 (42 + 1) (ws.map nI).length (nI k)) 42 1 (nI ((ws.map nI).length + 1))) := s_add
            generalize sI (sI M2 (42 + 1) (ws.map nI).length (nI k)) 42 1 (nI ((ws.map nI).length + 1)) = M3 at cad r42 s3
            have hM3 := s3.ok hM2
            have h3 : BW c m bk pc o (ws ++ [k]) B M3 := ⟨h2.1.kept s3 (fun k z => by rcases z with z | z <;> omega), fun y hy => (h2.2.1 y hy).kept s3 (by show ¬ (_ ∨ _); omega), r42, by rw [s3.i (by show ¬ (_ ∨ _); omega)]; exact h2.2.2.2.1, fun z => (h2.2.2.2.2.1 z).kept s3 (by show ¬ (_ ∨ _); omega) (by show ¬ (_ ∨ _); omega), by rw [s3.2.1]; exact h2.2.2.2.2.2.1, h2.2.2.2.2.2.2.kept s3 (by show ¬ (_ ∨ _); omega) (by show ¬ (_ ∨ _); omega)⟩
            obtain ⟨M4, hc4, h4, s4, b4⟩ := ih (ws ++ [k]) y B M3 hM3 (by rw [hl2]; omega) hk2 hrc b2 h3
            rw [lsD_app] at hc4
            have hM4 := s4.ok hM3
            have e42 : gI M4 42 1 = nI (ws.length + 1) := by rw [h4.2.2.1.1, map_len, hl2]
            have s5 : pm_S (fun k => k = 42) M4 (sI M4 42 1 (nI ws.length)) := pm_S.sI (S := fun k => k = 42) pm_S.rf rfl _ _
            have h5 : BW c m bk pc o ws (DF (goC c m pc) c m bk f (ws ++ [k]) B) (sI M4 42 1 (nI ws.length)) := by
              refine ⟨h4.1.kept s5 (fun k z => by rw [show k = 42 from z]; decide), fun y hy => (h4.2.1 y hy).kept s5 (by decide), ⟨by rw [gI_same, map_len], by rw [map_len]; omega, fun i hi => ?_⟩, by rw [s5.i (by decide)]; exact h4.2.2.2.1, fun z => (h4.2.2.2.2.1 z).kept s5 (by decide) (by decide), by rw [s5.2.1]; exact h4.2.2.2.2.2.1, h4.2.2.2.2.2.2.kept s5 (by show ¬ o = 42; omega) (by show ¬ o + 1 = 42; omega)⟩
              rw [map_len] at hi
              rw [gI_ne (Or.inl (by decide)), h4.2.2.1.2.2 i (by rw [map_len, hl2]; omega), map_getD hi, map_getD (by rw [hl2]; omega)]
              congr 1
              simp [List.getD_eq_getElem?_getD, List.getElem?_append_left hi]
            refine st_b2 rfl (fun zq => absurd zq (nI_ge g (by omega))) (fun _ => ?_)
            refine st_ald rfl rfl ?_
            refine st_gR' rfl (by first | exact tT hM2 rfl | assumption | exact rw_T hM2 (by assumption) | exact rw_A hM2 (by assumption)) (by first | exact rR hM2 rfl rfl | assumption | exact rw_R hM2 (by assumption)) ?_
            refine st_ild rfl rfl ?_
            refine st_cav (As := [_]) rfl rfl rfl (by first | exact tT hM2 rfl | assumption | exact rw_T hM2 (by assumption) | exact rw_A hM2 (by assumption)) (Nat.le_of_ble_eq_true rfl) (cad) ?_
            -- at 132: stop
            refine st_ald rfl rfl ?_
            refine st_ild rfl rfl ?_
            refine st_ild rfl rfl ?_
            refine st_ild rfl rfl ?_
            refine st_cav (As := [_, _, _]) rfl rfl rfl (by first | exact tT hM3 rfl | assumption | exact rw_T hM3 (by assumption) | exact rw_A hM3 (by assumption)) (Nat.le_of_ble_eq_true rfl) (hc4) ?_
            -- at 142: stop
            refine st_ald rfl rfl ?_
            refine st_gR' rfl (by first | exact tT hM4 rfl | assumption | exact rw_T hM4 (by assumption) | exact rw_A hM4 (by assumption)) (by first | exact rR hM4 rfl rfl | assumption | exact rw_R hM4 (by assumption)) ?_
            refine st_dup rfl rfl ?_
            refine st_gI rfl (rw_T hM4 ro42) ?_
            -- at 150: stop
            refine wp_e e42 ?_
            refine st_k rfl ?_
            refine st_ib rfl ?_
            -- at 152: stop
            rw [nI_pred]
            refine st_pI rfl (rw_T hM4 ro42) ?_
            refine st_inc rfl rfl ?_
            refine st_go rfl ?_
            -- at 60: stop
            exact ih2 _ _ ⟨_, _, _, nI_1 k, rfl, s2.tr ((s3.mo (fun k hk => by rcases hk with z | z <;> (show _ ∧ _; omega))).tr (s4.tr (s5.mo (fun k hk => by rw [show k = 42 from hk]; decide)))), by rw [hnext, if_pos hgt]; exact h5, by rw [hnext, if_pos hgt]; exact b4⟩
          · refine st_b2 rfl (fun _ => ?_) (fun zq => absurd (nI_le (by omega) (by omega)) zq)
            -- at 155: stop
            exact skip (by rw [hgo]; exact decide_eq_false g) _ _
      · rintro L M2 ⟨z, l6, l7, rfl, rfl, s2, h2, b2⟩
        have hM2 := s2.ok hM
        refine st_ild rfl rfl ?_
        refine st_ald rfl rfl ?_
        refine st_gR' rfl (by first | exact tT hM2 rfl | assumption | exact rw_T hM2 (by assumption) | exact rw_A hM2 (by assumption)) (by first | exact rR hM2 rfl rfl | assumption | exact rw_R hM2 (by assumption)) ?_
        refine st_gI rfl (by first | exact tT hM2 rfl | assumption | exact rw_T hM2 (by assumption) | exact rw_A hM2 (by assumption)) ?_
        -- at 69: stop
        refine wp_e (sy_n h2.1.1) ?_
        refine st_b2 rfl (fun _ => ?_) (fun zq => absurd (nI_le (Nat.le_refl _) (by omega)) zq)
        -- at 161: op_vret
        exact st_vret rfl ⟨rfl, h2, s2, b2⟩)
    subst hr
    exact ⟨M', hcc, h5, h6, h7⟩
end BWC

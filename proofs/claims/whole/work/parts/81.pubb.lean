/-! what a ROPE TAKES, knot by knot; BOTH ANSWER ALIKE: judge, moths, cuts -/
def mt (c : Cf) (last : Nat) : List Nat → Nat
  | [] => 0
  | k :: t => tk c last k + mt c k t
def lsD (last : Nat) : List Nat → Nat
  | [] => last
  | k :: t => lsD k t
theorem ms_mt (c : Cf) : ∀ (u : List Nat) (last : Nat), ms c last u = mt c last u + em c (lsD last u)
  | [], last => by simp [ms, mt, lsD]
  | k :: t, last => by simp only [ms, mt, lsD, ms_mt c t k]; omega
theorem mt_app (c : Cf) (k : Nat) : ∀ (u : List Nat) (last : Nat), mt c last (u ++ [k]) = mt c last u + tk c (lsD last u) k
  | [], last => by simp [mt, lsD]
  | q :: t, last => by simp only [List.cons_append, mt, lsD, mt_app c k t q]; omega
theorem lsD_app (k : Nat) : ∀ (u : List Nat) (last : Nat), lsD last (u ++ [k]) = k
  | [], _ => rfl
  | q :: t, _ => lsD_app k t q
theorem lw_app (c : Cf) (k : Nat) : ∀ (u : List Nat) (last : Nat), lw c last (u ++ [k]) = (lw c last u && !bar c (lsD last u) k)
  | [], last => by simp [lw, lsD]
  | q :: t, last => by simp only [List.cons_append, lw, lsD, lw_app c k t q, Bool.and_assoc]
theorem lsD_lst {c : Cf} : ∀ (u : List Nat) (last : Nat), kn c u → lst c last → lst c (lsD last u)
  | [], _, _, h => h
  | q :: t, _, hk, _ => lsD_lst t q (fun k z => hk k (List.mem_cons_of_mem _ z)) (Or.inl (hk q List.mem_cons_self))
theorem takeN_s {ws : List Nat} {i : Nat} (h : i < ws.length) : ws.take (i + 1) = ws.take i ++ [ws.getD i 0] := by
  rw [List.take_succ, List.getD_eq_getElem?_getD, List.getElem?_eq_getElem h]
  rfl
theorem kn_take {c : Cf} {ws : List Nat} (h : kn c ws) (i : Nat) : kn c (ws.take i) := fun k hk => h k (List.mem_of_mem_take hk)
theorem bar6 (c : Cf) (k : Nat) : bar c 6 k = false := by simp [bar]
theorem mt_le {c : Cf} (hw : cf_wf c) : ∀ (u : List Nat) (last : Nat), kn c u → mt c last u ≤ 18 * u.length
  | [], _, _ => by simp [mt]
  | q :: t, last, hk => by
    have h1 := mt_le hw t q (fun k z => hk k (List.mem_cons_of_mem _ z))
    have h2 := tk_le hw (last := last) (hk q List.mem_cons_self)
    simp [mt]; omega
theorem lsD_take {ws : List Nat} {i : Nat} (h0 : 0 < i) (h : i ≤ ws.length) (last : Nat) : lsD last (ws.take i) = ws.getD (i - 1) 0 := by
  obtain ⟨t, rfl⟩ : ∃ t, i = t + 1 := ⟨i - 1, by omega⟩
  rw [takeN_s (by omega), lsD_app]
  rfl
/-- why a ROPE isn't right at a place: 1 a LAW, 2 it TAKES too much, 0 it is -/
def why (c : Cf) (ws : List Nat) (i : Nat) : Nat := if bar c (lsD 6 (ws.take i)) (ws.getD i 0) = true then 1 else if cf_rm c < ms c 6 (ws.take (i + 1)) then 2 else 0
def jg (c : Cf) (ws : List Nat) : Nat → Nat → Nat × Nat
  | 0, i => (0, i)
  | m + 1, i => if why c ws i = 0 then jg c ws m (i + 1) else (why c ws i, i)
section PUL
variable {a : As} {M : pm_M}
theorem b_judge (ha : aw a) (r : Int32) : Both a 112 215 [.int r] := by
  rcases r_cs r with ⟨h1, h2⟩ | ⟨j, hj, hr, h1, h2⟩
  · refine bo_k (x := .int (-1)) ha (fun d M h => ?_) (fun d M h => ?_)
    · refine en_112 (Nat.le_of_ble_eq_true rfl) ?_
      have hM := h.1
      refine st_ald rfl rfl ?_
      refine st_ild rfl rfl ?_
      refine st_ild rfl rfl ?_
      refine st_ild rfl rfl ?_
      refine st_k rfl ?_
      refine st_cav (As := [_, _, _, _]) rfl rfl rfl (by first | exact tT hM rfl | assumption | exact rw_T hM (by assumption) | exact rw_A hM (by assumption)) (Nat.le_of_ble_eq_true rfl) (c_knots (d + 16) h _ _ _ _ (c_rowsBad (d + 16) _ _ _ _ _ (fun z => h1 z.1)) ⟨_, rfl⟩) ?_
      refine st_ist rfl ?_
      refine st_ild rfl rfl ?_
      refine st_b1 rfl (fun zq => absurd zq ((by decide))) (fun _ => ?_)
      refine st_ild rfl rfl ?_
      -- at 15: op_iret
      exact st_iret rfl ⟨rfl, rfl⟩
    · refine en_215 (Nat.le_of_ble_eq_true rfl) ?_
      refine st_ild rfl rfl ?_
      refine st_call (As := [_]) rfl rfl rfl (Nat.le_of_ble_eq_true rfl) (m_isRow (d + 17) r) ?_
      refine st_b1 rfl (fun zq => absurd zq ((fun z => z (b01_f h2)))) (fun _ => ?_)
      refine st_k rfl ?_
      -- at 8: op_iret
      exact st_iret rfl ⟨rfl, rfl⟩
  subst hr
  have hin : vp_in (nI j) 6 := vp_in_nI hj (by decide)
  have ho := rw_row j hj
  rcases rope_cs (a := a) j 20 with hx | ⟨l, hx, hlen⟩ | ⟨l, hx, hlen, hno⟩ | ⟨ws, hx, hk, hlen⟩
  · refine bo_f ha (f := 1) (by decide) (fun d M h => ?_) (fun d M h => ?_)
    · refine en_112 (Nat.le_of_ble_eq_true rfl) ?_
      have hM := h.1
      refine st_ald rfl rfl ?_
      refine st_ild rfl rfl ?_
      refine st_ild rfl rfl ?_
      refine st_ild rfl rfl ?_
      refine st_k rfl ?_
      refine st_cav (As := [_, _, _, _]) rfl rfl rfl (by first | exact tT hM rfl | assumption | exact rw_T hM (by assumption) | exact rw_A hM (by assumption)) (Nat.le_of_ble_eq_true rfl) (ckN (d + 16) h hj hj (most := 20) (by decide) hx) ?_
      refine st_ist rfl ?_
      refine st_ild rfl rfl ?_
      refine st_b1 rfl (fun zq => absurd zq ((by decide))) (fun _ => ?_)
      refine st_ild rfl rfl ?_
      -- at 15: op_iret
      exact st_iret rfl ⟨rfl, rfl⟩
    · refine en_215 (Nat.le_of_ble_eq_true rfl) ?_
      have hM := h.1
      refine st_ild rfl rfl ?_
      refine st_call (As := [_]) rfl rfl rfl (Nat.le_of_ble_eq_true rfl) (m_isRow (d + 17) _) ?_
      refine st_b1 rfl (fun _ => ?_) (fun zq => absurd (b01_t h2) zq)
      refine st_ald rfl rfl ?_
      refine st_ild rfl rfl ?_
      refine st_k rfl ?_
      refine st_cav (As := [_, _]) rfl rfl rfl (by first | exact tT hM rfl | assumption | exact rw_T hM (by assumption) | exact rw_A hM (by assumption)) (Nat.le_of_ble_eq_true rfl) (mnN (d + 15) h ha hj (most := 20) (by decide) hx) ?_
      refine st_ist rfl ?_
      refine st_ild rfl rfl ?_
      refine st_b1 rfl (fun zq => absurd zq ((by decide))) (fun _ => ?_)
      refine st_ild rfl rfl ?_
      -- at 22: op_iret
      exact st_iret rfl ⟨rfl, rfl⟩
  · refine bo_f ha (f := 5) (by decide) (fun d M h => ?_) (fun d M h => ?_)
    · refine en_112 (Nat.le_of_ble_eq_true rfl) ?_
      have hM := h.1
      refine st_ald rfl rfl ?_
      refine st_ild rfl rfl ?_
      refine st_ild rfl rfl ?_
      refine st_ild rfl rfl ?_
      refine st_k rfl ?_
      refine st_cav (As := [_, _, _, _]) rfl rfl rfl (by first | exact tT hM rfl | assumption | exact rw_T hM (by assumption) | exact rw_A hM (by assumption)) (Nat.le_of_ble_eq_true rfl) (ckL (d + 16) h hj hj (most := 20) (by decide) hx hlen) ?_
      refine st_ist rfl ?_
      refine st_ild rfl rfl ?_
      refine st_b1 rfl (fun zq => absurd zq ((by decide))) (fun _ => ?_)
      refine st_ild rfl rfl ?_
      -- at 15: op_iret
      exact st_iret rfl ⟨rfl, rfl⟩
    · refine en_215 (Nat.le_of_ble_eq_true rfl) ?_
      have hM := h.1
      refine st_ild rfl rfl ?_
      refine st_call (As := [_]) rfl rfl rfl (Nat.le_of_ble_eq_true rfl) (m_isRow (d + 17) _) ?_
      refine st_b1 rfl (fun _ => ?_) (fun zq => absurd (b01_t h2) zq)
      refine st_ald rfl rfl ?_
      refine st_ild rfl rfl ?_
      refine st_k rfl ?_
      refine st_cav (As := [_, _]) rfl rfl rfl (by first | exact tT hM rfl | assumption | exact rw_T hM (by assumption) | exact rw_A hM (by assumption)) (Nat.le_of_ble_eq_true rfl) (mnL (d + 15) h ha hj (most := 20) (by decide) hx hlen) ?_
      refine st_ist rfl ?_
      refine st_ild rfl rfl ?_
      refine st_b1 rfl (fun zq => absurd zq ((by decide))) (fun _ => ?_)
      refine st_ild rfl rfl ?_
      -- at 22: op_iret
      exact st_iret rfl ⟨rfl, rfl⟩
  · refine bo_f ha (f := 3) (by decide) (fun d M h => ?_) (fun d M h => ?_)
    · refine en_112 (Nat.le_of_ble_eq_true rfl) ?_
      have hM := h.1
      refine st_ald rfl rfl ?_
      refine st_ild rfl rfl ?_
      refine st_ild rfl rfl ?_
      refine st_ild rfl rfl ?_
      refine st_k rfl ?_
      refine st_cav (As := [_, _, _, _]) rfl rfl rfl (by first | exact tT hM rfl | assumption | exact rw_T hM (by assumption) | exact rw_A hM (by assumption)) (Nat.le_of_ble_eq_true rfl) (ckU (d + 16) h hj hj (most := 20) (by decide) ha hx hlen hno) ?_
      refine st_ist rfl ?_
      refine st_ild rfl rfl ?_
      refine st_b1 rfl (fun zq => absurd zq ((by decide))) (fun _ => ?_)
      refine st_ild rfl rfl ?_
      -- at 15: op_iret
      exact st_iret rfl ⟨rfl, rfl⟩
    · refine en_215 (Nat.le_of_ble_eq_true rfl) ?_
      have hM := h.1
      refine st_ild rfl rfl ?_
      refine st_call (As := [_]) rfl rfl rfl (Nat.le_of_ble_eq_true rfl) (m_isRow (d + 17) _) ?_
      refine st_b1 rfl (fun _ => ?_) (fun zq => absurd (b01_t h2) zq)
      refine st_ald rfl rfl ?_
      refine st_ild rfl rfl ?_
      refine st_k rfl ?_
      refine st_cav (As := [_, _]) rfl rfl rfl (by first | exact tT hM rfl | assumption | exact rw_T hM (by assumption) | exact rw_A hM (by assumption)) (Nat.le_of_ble_eq_true rfl) (mnU (d + 15) h ha hj (most := 20) (by decide) hx hlen hno) ?_
      refine st_ist rfl ?_
      refine st_ild rfl rfl ?_
      refine st_b1 rfl (fun zq => absurd zq ((by decide))) (fun _ => ?_)
      refine st_ild rfl rfl ?_
      -- at 22: op_iret
      exact st_iret rfl ⟨rfl, rfl⟩
  have hrm : cf_rm (aC a) ≤ 99 := by unfold cf_rm; have := ha.1.2.2.1; omega
  refine ⟨.int (nI (jg (aC a) ws ws.length 0).2), sA' a (nI (jg (aC a) ws ws.length 0).1), ha.told _, fun d M h => ⟨sI M 0 18 (nI (jg (aC a) ws ws.length 0).1), ?_, h.told, (Cfr.rf M).sI (by decide) _ _⟩, fun d M h => ?_⟩
  · refine en_112 (Nat.le_of_ble_eq_true rfl) ?_
    have hM := h.1
    have hc := h.2.2.2.1
    have hz := h.2.1 j hj
    rw [hx] at hz
    have hzz := crow_some hz
    have loop : ∀ m i x y1 y2, x = nI i → y1 = nI (lsD 6 (ws.take i)) → y2 = nI (mt (aC a) 6 (ws.take i)) → i + m = ws.length → jg (aC a) ws m i = jg (aC a) ws ws.length 0 → pm_WP (pm_call (d + 19)) tb_112 (fun r0 M1 => r0 = some (.int (nI (jg (aC a) ws ws.length 0).2)) ∧ M1 = sI M 0 18 (nI (jg (aC a) ws ws.length 0).1)) 33 [some (.ref 0), some (.int (nI j)), some (.int 0), some (.ref (106 + 2 * j)), some (.int y1), some (.int y2), some (.int x), none, none] [] M := by
      intro m
      induction m with
      | zero =>
        intro i x y1 y2 hx h1 h2 hi hg
        subst hx
        refine st_ild rfl rfl ?_
        refine st_ald rfl rfl ?_
        refine st_gI rfl (by first | exact tT hM rfl | assumption | exact rw_T hM (by assumption) | exact rw_A hM (by assumption)) ?_
        -- at 39: stop
        refine wp_e hzz.1 ?_
        refine st_b2 rfl (fun _ => ?_) (fun zq => absurd (nI_le (by rw [map_len]; omega) (by omega)) zq)
        refine st_ald rfl rfl ?_
        refine st_k rfl ?_
        refine st_pI rfl (by first | exact tT hM rfl | assumption | exact rw_T hM (by assumption) | exact rw_A hM (by assumption)) ?_
        refine st_ald rfl rfl ?_
        refine st_gI rfl (by first | exact tT hM rfl | assumption | exact rw_T hM (by assumption) | exact rw_A hM (by assumption)) ?_
        -- at 144: op_iret
        refine st_iret rfl ⟨?_, ?_⟩
        · rw [gI_ne (Or.inl (by omega)), hzz.1, map_len, ← hg, show i = ws.length by omega]
          rfl
        · rw [← hg]
          rfl
      | succ m ih =>
        intro i x y1 y2 hx h1 h2 hi hg
        subst hx; subst h1; subst h2
        have hil : i < ws.length := by omega
        have hin2 := ro_in hzz (show i < (ws.map nI).length by rw [map_len]; exact hil)
        have hkk := kn_getD hk hil
        have hls := lsD_lst (ws.take i) 6 (kn_take hk i) (Or.inr rfl)
        have h6 : ws.getD i 0 < 6 := by have := ha.1.1; omega
        have hin7 : vp_in (nI (ws.getD i 0)) 7 := vp_in_nI (by omega) (by decide)
        have ecl := cl6 ha.1 hkk
        have hmt := mt_le ha.1 (ws.take (i + 1)) 6 (kn_take hk _)
        have hlt : (ws.take (i + 1)).length ≤ 20 := by simp; omega
        have e1 : mt (aC a) 6 (ws.take i) + tk (aC a) (lsD 6 (ws.take i)) (ws.getD i 0) = mt (aC a) 6 (ws.take (i + 1)) := by rw [takeN_s hil, mt_app]
        have e2 : ms (aC a) 6 (ws.take (i + 1)) = mt (aC a) 6 (ws.take (i + 1)) + em (aC a) (ws.getD i 0) := by rw [ms_mt, takeN_s hil, lsD_app]
        have hem := em_le (aC a) (ws.getD i 0)
        have jge : jg (aC a) ws (m + 1) i = if why (aC a) ws i = 0 then jg (aC a) ws m (i + 1) else (why (aC a) ws i, i) := rfl
        refine st_ild rfl rfl ?_
        refine st_ald rfl rfl ?_
        refine st_gI rfl (by first | exact tT hM rfl | assumption | exact rw_T hM (by assumption) | exact rw_A hM (by assumption)) ?_
        -- at 39: stop
        refine wp_e hzz.1 ?_
        refine st_b2 rfl (fun zq => absurd zq (nI_ge (by rw [map_len]; omega) (by rw [map_len]; omega))) (fun _ => ?_)
        refine st_ald rfl rfl ?_
        refine st_gR' rfl (by first | exact tT hM rfl | assumption | exact rw_T hM (by assumption) | exact rw_A hM (by assumption)) (by first | exact rR hM rfl rfl | assumption | exact rw_R hM (by assumption)) ?_
        refine st_ild rfl rfl ?_
        refine st_iald rfl (by first | exact tT hM rfl | assumption | exact rw_T hM (by assumption) | exact rw_A hM (by assumption)) (by first | decide | assumption | exact vp_in_nI (by omega) (by decide)) ?_
        -- at 49: stop
        refine wp_e (y := nI (ws.getD i 0)) ((ro_at hzz (by rw [map_len]; exact hil)).trans (map_getD hil)) ?_
        refine st_ist rfl ?_
        refine st_ild rfl rfl ?_
        refine st_ald rfl rfl ?_
        refine st_gR' rfl (by first | exact tT hM rfl | assumption | exact rw_T hM (by assumption) | exact rw_A hM (by assumption)) (by first | exact rR hM rfl rfl | assumption | exact rw_R hM (by assumption)) ?_
        refine st_ild rfl rfl ?_
        refine st_ild rfl rfl ?_
        refine st_cav (As := [_, _]) rfl rfl rfl (by first | exact tT hM rfl | assumption | exact rw_T hM (by assumption) | exact rw_A hM (by assumption)) (Nat.le_of_ble_eq_true rfl) (c_takesBehind (d + 18) hM ha.1 hc hls hkk) ?_
        refine st_ib rfl ?_
        -- at 65: stop
        rw [nI_add, e1]
        refine st_ist rfl ?_
        refine st_ald rfl rfl ?_
        refine st_gR' rfl (by first | exact tT hM rfl | assumption | exact rw_T hM (by assumption) | exact rw_A hM (by assumption)) (by first | exact rR hM rfl rfl | assumption | exact rw_R hM (by assumption)) ?_
        refine st_ild rfl rfl ?_
        refine st_ild rfl rfl ?_
        refine st_cav (As := [_, _]) rfl rfl rfl (by first | exact tT hM rfl | assumption | exact rw_T hM (by assumption) | exact rw_A hM (by assumption)) (Nat.le_of_ble_eq_true rfl) (c_isBarred (d + 18) hM ha.1 hc hls hkk) ?_
        refine st_ist rfl ?_
        refine st_ild rfl rfl ?_
        refine st_b1 rfl (fun g => ?_) (fun g => ?_)
        -- at 82: split 108 85
        · have g := Decidable.not_not.mp (fun z => g (b01_f z))
          have hy : why (aC a) ws i = 1 := by unfold why; rw [if_pos g]
          refine st_ald rfl rfl ?_
          refine st_ild rfl rfl ?_
          refine st_b1 rfl (fun zq => absurd zq (b01_t g)) (fun _ => ?_)
          refine st_k rfl ?_
          refine st_go rfl ?_
          refine st_pI rfl (by first | exact tT hM rfl | assumption | exact rw_T hM (by assumption) | exact rw_A hM (by assumption)) ?_
          refine st_ild rfl rfl ?_
          -- at 124: op_iret
          refine st_iret rfl ⟨?_, ?_⟩
          · rw [← hg, jge, if_neg (by omega)]
          · rw [← hg, jge, if_neg (by omega), hy]
            rfl
        · have g : ¬ bar (aC a) (lsD 6 (ws.take i)) (ws.getD i 0) = true := fun z => g (b01_t z)
          refine st_ild rfl rfl ?_
          refine st_ald rfl rfl ?_
          refine st_gR' rfl (by first | exact tT hM rfl | assumption | exact rw_T hM (by assumption) | exact rw_A hM (by assumption)) (by first | exact rR hM rfl rfl | assumption | exact rw_R hM (by assumption)) ?_
          refine st_gR' rfl (by first | exact tT hM rfl | assumption | exact rw_T hM (by assumption) | exact rw_A hM (by assumption)) (by first | exact rR hM rfl rfl | assumption | exact rw_R hM (by assumption)) ?_
          refine st_ild rfl rfl ?_
          refine st_iald rfl (by first | exact tT hM rfl | assumption | exact rw_T hM (by assumption) | exact rw_A hM (by assumption)) (hin7) ?_
          -- at 97: stop
          refine wp_e (y := nI (em (aC a) (ws.getD i 0))) (by rw [ecl]; exact (hc.2.2.2.1 _ (Or.inl hkk)).2.1) ?_
          refine st_ib rfl ?_
          -- at 98: stop
          rw [nI_add, ← e2]
          refine st_ald rfl rfl ?_
          refine st_gR' rfl (by first | exact tT hM rfl | assumption | exact rw_T hM (by assumption) | exact rw_A hM (by assumption)) (by first | exact rR hM rfl rfl | assumption | exact rw_R hM (by assumption)) ?_
          refine st_cav (As := []) rfl rfl rfl (by first | exact tT hM rfl | assumption | exact rw_T hM (by assumption) | exact rw_A hM (by assumption)) (Nat.le_of_ble_eq_true rfl) (c_room (d + 18) hM ha.1 hc) ?_
          refine st_b2 rfl (fun g2 => ?_) (fun g2 => ?_)
          -- at 105: split 125 108
          · have g2 : ms (aC a) 6 (ws.take (i + 1)) ≤ cf_rm (aC a) := (nI_leI (by omega) (by omega)).mp g2
            have hy : why (aC a) ws i = 0 := by unfold why; rw [if_neg g, if_neg (by omega)]
            refine st_ild rfl rfl ?_
            refine st_ist rfl ?_
            refine st_inc rfl rfl ?_
            refine st_go rfl ?_
            -- at 33: stop
            refine wp_le ms_112 (lc (lc (lc (lc (lc (lc (lc (ln (ln l0))))))))) (ih (i + 1) _ _ _ (nI_1 i) (by rw [takeN_s hil, lsD_app]) rfl (by omega) ?_)
            rw [← hg, jge, if_pos hy]
          · have g2 : ¬ ms (aC a) 6 (ws.take (i + 1)) ≤ cf_rm (aC a) := fun z => g2 ((nI_leI (by omega) (by omega)).mpr z)
            have hy : why (aC a) ws i = 2 := by unfold why; rw [if_neg g, if_pos (by omega)]
            refine st_ald rfl rfl ?_
            refine st_ild rfl rfl ?_
            refine st_b1 rfl (fun _ => ?_) (fun zq => absurd (b01_f g) zq)
            refine st_k rfl ?_
            refine st_pI rfl (by first | exact tT hM rfl | assumption | exact rw_T hM (by assumption) | exact rw_A hM (by assumption)) ?_
            refine st_ild rfl rfl ?_
            -- at 124: op_iret
            refine st_iret rfl ⟨?_, ?_⟩
            · rw [← hg, jge, if_neg (by omega)]
            · rw [← hg, jge, if_neg (by omega), hy]
              rfl
    refine st_ald rfl rfl ?_
    refine st_ild rfl rfl ?_
    refine st_ild rfl rfl ?_
    refine st_ild rfl rfl ?_
    refine st_k rfl ?_
    refine st_cav (As := [_, _, _, _]) rfl rfl rfl (by first | exact tT hM rfl | assumption | exact rw_T hM (by assumption) | exact rw_A hM (by assumption)) (Nat.le_of_ble_eq_true rfl) (ckO (d + 16) h hj hj (most := 20) (by decide) ha hx hk hlen) ?_
    refine st_ist rfl ?_
    refine st_ild rfl rfl ?_
    refine st_b1 rfl (fun _ => ?_) (fun zq => absurd (rfl) zq)
    refine st_ald rfl rfl ?_
    refine st_gR' rfl (by first | exact tT hM rfl | assumption | exact rw_T hM (by assumption) | exact rw_A hM (by assumption)) (by first | exact rR hM rfl rfl | assumption | exact rw_R hM (by assumption)) ?_
    refine st_ild rfl rfl ?_
    refine st_aald' rfl (by first | exact tT hM rfl | assumption | exact rw_T hM (by assumption) | exact rw_A hM (by assumption)) (by first | decide | assumption | exact vp_in_nI (by omega) (by decide)) (by first | assumption | exact rRow' hM (by assumption) | exact rTxt' hM (by assumption) | exact rKep' hM (by assumption) | exact rRdg' hM (by assumption)) ?_
    refine st_ast rfl ?_
    refine st_k rfl ?_
    refine st_ist rfl ?_
    refine st_k rfl ?_
    refine st_ist rfl ?_
    refine st_k rfl ?_
    refine st_ist rfl ?_
    -- at 33: stop
    exact loop ws.length 0 0 _ _ rfl rfl rfl (by omega) rfl
  · have hM := h.1
    obtain ⟨M0, hc0, h3, h4⟩ := mnO (d + 15) h ha hj (most := 20) (by decide) hx hk hlen
    have hM0 := h4.ok hM
    have loop : ∀ m i x M1, x = nI i → i + m = ws.length → Msc M M1 → (∀ t, t < ws.length → gI M1 147 t = nI (ws.getD t 0)) → jg (aC a) ws m i = jg (aC a) ws ws.length 0 → pm_WP (pm_call (d + 19)) tb_215 (fun r0 M' => r0 = some (.int (nI (jg (aC a) ws ws.length 0).2)) ∧ IM (sA' a (nI (jg (aC a) ws ws.length 0).1)) M' ∧ Mfr M M') 31 [some (.ref 132), some (.int (nI j)), some (.int 0), some (.int (nI ws.length)), some (.int x), none] [] M1 := by
      intro m
      induction m with
      | zero =>
        intro i x M1 hx hi hs hrow hg
        subst hx
        have hM1 := hs.ok hM
        refine st_ild rfl rfl ?_
        refine st_ild rfl rfl ?_
        refine st_b2 rfl (fun _ => ?_) (fun zq => absurd (nI_le (by omega) (by omega)) zq)
        refine st_ald rfl rfl ?_
        refine st_k rfl ?_
        refine st_ild rfl rfl ?_
        refine st_cav (As := [_, _]) rfl rfl rfl (by first | exact tT hM1 rfl | assumption | exact rw_T hM1 (by assumption) | exact rw_A hM1 (by assumption)) (Nat.le_of_ble_eq_true rfl) (m_tells (d + 18) hM1 _ _) ?_
        -- at 125: op_iret
        refine st_iret rfl ⟨?_, ?_, hs.fr.sI (by decide) _ _⟩
        · rw [← hg, show i = ws.length by omega]
          rfl
        · rw [← hg]
          exact (h.sc hs).told
      | succ m ih =>
        intro i x M1 hx hi hs hrow hg
        subst hx
        have hM1 := hs.ok hM
        have hil : i < ws.length := by omega
        have hc1 := h.2.2.2.1.sc hs
        have hkk := kn_getD hk hil
        have jge : jg (aC a) ws (m + 1) i = if why (aC a) ws i = 0 then jg (aC a) ws m (i + 1) else (why (aC a) ws i, i) := rfl
        have hms := ms_le ha.1 (ws.take (i + 1)) 6 (kn_take hk _)
        have hlt : (ws.take (i + 1)).length = i + 1 := by simp; omega
        have hs2 : Msc M (sI M1 132 29 (nI (i + 1))) := hs.sI _ (by omega)
        have hM2 := hs2.ok hM
        have hc2 := h.2.2.2.1.sc hs2
        have hL2 : Lk (sI M1 132 29 (nI (i + 1))) (ws.take (i + 1)) := ⟨by rw [gI_same, hlt], by omega, fun t ht => by
          rw [hlt] at ht
          rw [gI_ne (Or.inl (by decide)), hrow t (by omega)]
          congr 1
          rw [List.getD_eq_getElem?_getD, List.getD_eq_getElem?_getD, List.getElem?_take, if_pos (by omega)]⟩
        have hin2 : vp_in (nI i) 24 := vp_in_nI (by omega) (by decide)
        -- behind the LAWS
        have fin : ∀ w : Nat, w ≤ 2 → w = why (aC a) ws i → pm_WP (pm_call (d + 19)) tb_215 (fun r0 M' => r0 = some (.int (nI (jg (aC a) ws ws.length 0).2)) ∧ IM (sA' a (nI (jg (aC a) ws ws.length 0).1)) M' ∧ Mfr M M') 97 [some (.ref 132), some (.int (nI j)), some (.int 0), some (.int (nI ws.length)), some (.int (nI i)), none] [.int (nI w)] (sI M1 132 29 (nI (i + 1))) := by
          intro w hw2 hww
          rcases Nat.eq_zero_or_pos w with z | z
          · subst z
            refine st_ist rfl ?_
            refine st_ild rfl rfl ?_
            refine st_b1 rfl (fun _ => ?_) (fun zq => absurd ((by decide)) zq)
            refine st_inc rfl rfl ?_
            refine st_go rfl ?_
            -- at 31: stop
            refine wp_le ms_215 (lc (lc (lc (lc (lc (ln l0)))))) (ih (i + 1) _ _ (nI_1 i) (by omega) hs2 (fun t ht => by rw [gI_ne (Or.inl (by decide))]; exact hrow t ht) ?_)
            rw [← hg, jge, if_pos hww.symm]
          · refine st_ist rfl ?_
            refine st_ild rfl rfl ?_
            refine st_b1 rfl (fun zq => absurd zq ((fun q => nI_nle z (by omega) q))) (fun _ => ?_)
            refine st_ald rfl rfl ?_
            refine st_ild rfl rfl ?_
            refine st_ild rfl rfl ?_
            refine st_cav (As := [_, _]) rfl rfl rfl (by first | exact tT hM2 rfl | assumption | exact rw_T hM2 (by assumption) | exact rw_A hM2 (by assumption)) (Nat.le_of_ble_eq_true rfl) (m_tells (d + 18) hM2 _ _) ?_
            -- at 112: op_iret
            refine st_iret rfl ⟨?_, ?_, hs2.fr.sI (by decide) _ _⟩
            · rw [← hg, jge, if_neg (by omega)]
            · rw [← hg, jge, if_neg (by omega), ← hww]
              exact (h.sc hs2).told
        have fin2 : ¬ bar (aC a) (lsD 6 (ws.take i)) (ws.getD i 0) = true → pm_WP (pm_call (d + 19)) tb_215 (fun r0 M' => r0 = some (.int (nI (jg (aC a) ws ws.length 0).2)) ∧ IM (sA' a (nI (jg (aC a) ws ws.length 0).1)) M' ∧ Mfr M M') 81 [some (.ref 132), some (.int (nI j)), some (.int 0), some (.int (nI ws.length)), some (.int (nI i)), none] [] (sI M1 132 29 (nI (i + 1))) := by
          intro g
          refine st_ald rfl rfl ?_
          refine st_cav (As := []) rfl rfl rfl (by first | exact tT hM2 rfl | assumption | exact rw_T hM2 (by assumption) | exact rw_A hM2 (by assumption)) (Nat.le_of_ble_eq_true rfl) (m_lookTakes (d + 16) hM2 ha.1 hc2 (kn_take hk _) hL2) ?_
          refine st_ald rfl rfl ?_
          refine st_cav (As := []) rfl rfl rfl (by first | exact tT hM2 rfl | assumption | exact rw_T hM2 (by assumption) | exact rw_A hM2 (by assumption)) (Nat.le_of_ble_eq_true rfl) (m_roomNow (d + 18) hM2 ha.1 hc2) ?_
          refine st_b2 rfl (fun g2 => ?_) (fun g2 => ?_)
          -- at 89: split 96 92
          · have g2 : ms (aC a) 6 (ws.take (i + 1)) ≤ cf_rm (aC a) := (nI_leI (by omega) (by omega)).mp g2
            refine st_k rfl ?_
            -- at 97: stop
            exact fin 0 (by decide) (by unfold why; rw [if_neg g, if_neg (by omega)])
          · have g2 : ¬ ms (aC a) 6 (ws.take (i + 1)) ≤ cf_rm (aC a) := fun z => g2 ((nI_leI (by omega) (by omega)).mpr z)
            refine st_k rfl ?_
            refine st_go rfl ?_
            -- at 97: stop
            exact fin 2 (by decide) (by unfold why; rw [if_neg g, if_pos (by omega)])
        refine st_ild rfl rfl ?_
        refine st_ild rfl rfl ?_
        refine st_b2 rfl (fun zq => absurd zq (nI_ge (by omega) (by omega))) (fun _ => ?_)
        refine st_ald rfl rfl ?_
        refine st_ild rfl rfl ?_
        refine st_k rfl ?_
        refine st_ib rfl ?_
        -- at 42: stop
        rw [nI_1]
        refine st_pI rfl (by first | exact tT hM1 rfl | assumption | exact rw_T hM1 (by assumption) | exact rw_A hM1 (by assumption)) ?_
        refine st_ild rfl rfl ?_
        refine st_b1 rfl (fun g0 => ?_) (fun g0 => ?_)
        -- at 47: split 81 50
        · have hi0 : i = 0 := by
            have : nI i ≤ nI 0 := g0
            have := (nI_leI (by omega) (by decide)).mp this
            omega
          refine fin2 ?_
          subst hi0
          show ¬ bar (aC a) 6 _ = true
          rw [bar6]
          decide
        · have hi0 : 0 < i := by
            rcases Nat.eq_zero_or_pos i with z | z
            · subst z; exact absurd (show nI 0 ≤ 0 by decide) g0
            · exact z
          have hka := kn_getD hk (show i - 1 < ws.length by omega)
          have ep : nI i - 1 = nI (i - 1) := nI_p1 hi0
          have hin3 : vp_in (nI i - 1) 24 := by rw [ep]; exact vp_in_nI (by omega) (by decide)
          have hina := in6 ha.1 hka
          obtain ⟨b1, b2⟩ := m_barred (d + 18) hM2 ha.1 hc2 hka hkk
          refine st_ald rfl rfl ?_
          refine st_gR' rfl (by first | exact tT hM2 rfl | assumption | exact rw_T hM2 (by assumption) | exact rw_A hM2 (by assumption)) (by first | exact rR hM2 rfl rfl | assumption | exact rw_R hM2 (by assumption)) ?_
          refine st_ald rfl rfl ?_
          refine st_gR' rfl (by first | exact tT hM2 rfl | assumption | exact rw_T hM2 (by assumption) | exact rw_A hM2 (by assumption)) (by first | exact rR hM2 rfl rfl | assumption | exact rw_R hM2 (by assumption)) ?_
          refine st_ild rfl rfl ?_
          refine st_k rfl ?_
          refine st_ib rfl ?_
          refine st_iald rfl (by first | exact tT hM2 rfl | assumption | exact rw_T hM2 (by assumption) | exact rw_A hM2 (by assumption)) (hin3) ?_
          -- at 63: stop
          refine wp_e (y := nI (ws.getD (i - 1) 0)) (by rw [ep, nI_clamp (by omega), gI_ne (Or.inl (by decide))]; exact hrow _ (by omega)) ?_
          refine st_iald rfl (by first | exact tT hM2 rfl | assumption | exact rw_T hM2 (by assumption) | exact rw_A hM2 (by assumption)) (by first | decide | assumption | exact vp_in_nI (by omega) (by decide)) ?_
          -- at 64: stop
          refine wp_e (y := nI (cf_br (aC a) (ws.getD (i - 1) 0))) (by rw [cl6 ha.1 hka]; exact b1) ?_
          refine st_ald rfl rfl ?_
          refine st_gR' rfl (by first | exact tT hM2 rfl | assumption | exact rw_T hM2 (by assumption) | exact rw_A hM2 (by assumption)) (by first | exact rR hM2 rfl rfl | assumption | exact rw_R hM2 (by assumption)) ?_
          refine st_ild rfl rfl ?_
          refine st_iald rfl (by first | exact tT hM2 rfl | assumption | exact rw_T hM2 (by assumption) | exact rw_A hM2 (by assumption)) (hin2) ?_
          -- at 71: stop
          refine wp_e (y := nI (ws.getD i 0)) (by rw [nI_clamp (by omega), gI_ne (Or.inl (by decide))]; exact hrow _ (by omega)) ?_
          refine st_call (As := [_, _]) rfl rfl rfl (Nat.le_of_ble_eq_true rfl) (b2) ?_
          refine st_b1 rfl (fun g => ?_) (fun g => ?_)
          -- at 74: split 81 77
          · exact fin2 (by rw [lsD_take hi0 (by omega)]; exact fun z => b01_t z g)
          · have g := Decidable.not_not.mp (fun z => g (b01_f z))
            refine st_k rfl ?_
            refine st_go rfl ?_
            -- at 97: stop
            exact fin 1 (by decide) (by unfold why; rw [lsD_take hi0 (by omega), if_pos g])
    obtain ⟨r, M', hc, hr', h5, h6⟩ := eq_215 (d := d + 19) (A := [.ref 132, .int (nI j)]) (M := M) (Q := fun r0 M' => r0 = some (.int (nI (jg (aC a) ws ws.length 0).2)) ∧ IM (sA' a (nI (jg (aC a) ws ws.length 0).1)) M' ∧ Mfr M M') (Nat.le_of_ble_eq_true rfl) (by
      refine st_ild rfl rfl ?_
      refine st_call (As := [_]) rfl rfl rfl (Nat.le_of_ble_eq_true rfl) (m_isRow (d + 17) _) ?_
      refine st_b1 rfl (fun _ => ?_) (fun zq => absurd (b01_t h2) zq)
      refine st_ald rfl rfl ?_
      refine st_ild rfl rfl ?_
      refine st_k rfl ?_
      refine st_cav (As := [_, _]) rfl rfl rfl (by first | exact tT hM rfl | assumption | exact rw_T hM (by assumption) | exact rw_A hM (by assumption)) (Nat.le_of_ble_eq_true rfl) (hc0) ?_
      -- at 16: stop
      refine st_ist rfl ?_
      refine st_ild rfl rfl ?_
      refine st_b1 rfl (fun _ => ?_) (fun zq => absurd ((by decide)) zq)
      refine st_ald rfl rfl ?_
      refine st_gI rfl (by first | exact tT hM0 rfl | assumption | exact rw_T hM0 (by assumption) | exact rw_A hM0 (by assumption)) ?_
      -- at 27: stop
      refine wp_e h3.1 ?_
      refine st_ist rfl ?_
      refine st_k rfl ?_
      refine st_ist rfl ?_
      -- at 31: stop
      exact loop ws.length 0 0 _ rfl (by omega) h4 h3.2.2 rfl)
    subst hr'
    exact ⟨M', hc, h5, h6⟩
/-! moths, cuts -/
theorem rot_len {ws : List Nat} {i : Nat} (h : i ≤ ws.length) : (ws.drop i ++ ws.take i).length = ws.length := by simp; omega
theorem rot_kn {c : Cf} {ws : List Nat} (h : kn c ws) (i : Nat) : kn c (ws.drop i ++ ws.take i) := fun k hk => (List.mem_append.mp hk).elim (fun z => h k (List.mem_of_mem_drop z)) (fun z => h k (List.mem_of_mem_take z))
theorem rot_at {ws : List Nat} {i t : Nat} (h : i ≤ ws.length) (ht : t < ws.length) : (ws.drop i ++ ws.take i).getD t 0 = ws.getD ((t + i) % ws.length) 0 := by
  rw [List.getD_eq_getElem?_getD, List.getD_eq_getElem?_getD, List.getElem?_append]
  simp only [List.length_drop]
  split
  · rw [List.getElem?_drop, Nat.mod_eq_of_lt (by omega), Nat.add_comm]
  · rw [List.getElem?_take, if_pos (by omega)]
    congr 2
    rw [show t + i = (t - (ws.length - i)) + ws.length by omega, Nat.add_mod_right, Nat.mod_eq_of_lt (by omega)]
theorem m_lookCut (d : Nat) (hM : pm_ok M) {r i : Nat} (hr : r < 6) {ws : List Nat} (hl : ws.length ≤ 24) (hi : i ≤ ws.length) (h : MRow M r (some (ws.map nI))) : ∃ M', pm_call (d + 2) 256 [.ref 132, .int (nI r), .int (nI i)] M none M' ∧ Lk M' (ws.drop i ++ ws.take i) ∧ Msc M M' := by
  have hin : vp_in (nI r) 6 := vp_in_nI hr (by decide)
  have e1 : (nI r).toNatClampNeg = r := nI_clamp (by omega)
  have loop : ∀ n t x M1, x = nI t → t + n = ws.length → Msc M M1 → gI M1 132 29 = nI ws.length → (∀ s, s < t → gI M1 147 s = nI ((ws.drop i ++ ws.take i).getD s 0)) → pm_WP (pm_call (d + 1)) tb_256 (fun r M' => r = none ∧ Lk M' (ws.drop i ++ ws.take i) ∧ Msc M M') 12 [some (.ref 132), some (.int (nI r)), some (.int (nI i)), some (.int x)] [] M1 := by
    intro n
    induction n with
    | zero =>
      intro t x M1 hx ht hs h29 ha
      subst hx
      have hM1 := hs.ok hM
      have q : gI M1 132 29 ≤ nI t := by rw [h29]; exact nI_le (by omega) (by omega)
      refine st_ild rfl rfl ?_
      refine st_ald rfl rfl ?_
      refine st_gI rfl (by first | exact tT hM1 rfl | assumption | exact rw_T hM1 (by assumption) | exact rw_A hM1 (by assumption)) ?_
      refine st_b2 rfl (fun _ => ?_) (fun zq => absurd (q) zq)
      -- at 45: op_vret
      exact st_vret rfl ⟨rfl, ⟨by rw [rot_len hi]; exact h29, by rw [rot_len hi]; exact hl, fun s hs => ha s (by rw [rot_len hi] at hs; omega)⟩, hs⟩
    | succ n ih =>
      intro t x M1 hx ht hs h29 ha
      subst hx
      have hM1 := hs.ok hM
      have hr1 := h.sc hs
      have q : ¬ gI M1 132 29 ≤ nI t := by rw [h29]; exact nI_ge (by omega) (by omega)
      have hin2 : vp_in (nI t) 24 := vp_in_nI (by omega) (by decide)
      have hmod : (t + i) % ws.length < ws.length := Nat.mod_lt _ (by omega)
      have em2 : nI t + nI i - (nI t + nI i) / nI ws.length * nI ws.length = nI ((t + i) % ws.length) := by rw [nI_add]; exact pk_rem (by omega) (by omega) (by omega)
      have hv : gI M1 135 (40 * r + (t + i) % ws.length) = nI ((ws.drop i ++ ws.take i).getD t 0) := by rw [rot_at hi (by omega), hr1.2.2 _ (by rw [map_len]; exact hmod), map_getD hmod]
      refine st_ild rfl rfl ?_
      refine st_ald rfl rfl ?_
      refine st_gI rfl (by first | exact tT hM1 rfl | assumption | exact rw_T hM1 (by assumption) | exact rw_A hM1 (by assumption)) ?_
      refine st_b2 rfl (fun zq => absurd zq (q)) (fun _ => ?_)
      refine st_ald rfl rfl ?_
      refine st_gR' rfl (by first | exact tT hM1 rfl | assumption | exact rw_T hM1 (by assumption) | exact rw_A hM1 (by assumption)) (by first | exact rR hM1 rfl rfl | assumption | exact rw_R hM1 (by assumption)) ?_
      refine st_ild rfl rfl ?_
      refine st_ald rfl rfl ?_
      refine st_ild rfl rfl ?_
      refine st_ild rfl rfl ?_
      refine st_ild rfl rfl ?_
      refine st_ib rfl ?_
      refine st_ald rfl rfl ?_
      refine st_gI rfl (by first | exact tT hM1 rfl | assumption | exact rw_T hM1 (by assumption) | exact rw_A hM1 (by assumption)) ?_
      -- at 34: stop
      refine wp_e h29 ?_
      refine st_idv rfl (nI_ne0 (by omega) (by omega)) ?_
      -- at 35: stop
      rw [em2]
      refine st_cav (As := [_, _]) rfl rfl rfl (by first | exact tT hM1 rfl | assumption | exact rw_T hM1 (by assumption) | exact rw_A hM1 (by assumption)) (Nat.le_of_ble_eq_true rfl) (m_rowAt d hM1 hr (show (t + i) % ws.length < 40 by omega)) ?_
      -- at 38: stop
      refine wp_e hv ?_
      refine st_iast rfl (by first | exact tT hM1 rfl | assumption | exact rw_T hM1 (by assumption) | exact rw_A hM1 (by assumption)) (by first | decide | assumption | exact vp_in_nI (by omega) (by decide)) ?_
      refine st_inc rfl rfl ?_
      refine st_go rfl ?_
      -- at 12: stop
      rw [nI_clamp (show t < 2 ^ 31 by omega)]
      refine ih (t + 1) _ _ (nI_1 t) (by omega) (hs.sI _ (by omega)) (by rw [gI_ne (Or.inl (by decide))]; exact h29) (fun s hs => ?_)
      by_cases z : s = t
      · subst z; exact gI_same _ _ _ _
      · rw [gI_ne (Or.inr z)]; exact ha s (by omega)
  obtain ⟨rr, M', hc, hr', h5, h6⟩ := eq_256 (d := d + 1) (A := [.ref 132, .int (nI r), .int (nI i)]) (M := M) (Q := fun r M' => r = none ∧ Lk M' (ws.drop i ++ ws.take i) ∧ Msc M M') (Nat.le_of_ble_eq_true rfl) (by
    refine st_ald rfl rfl ?_
    refine st_ald rfl rfl ?_
    refine st_gR' rfl (by first | exact tT hM rfl | assumption | exact rw_T hM (by assumption) | exact rw_A hM (by assumption)) (by first | exact rR hM rfl rfl | assumption | exact rw_R hM (by assumption)) ?_
    refine st_ild rfl rfl ?_
    refine st_iald rfl (by first | exact tT hM rfl | assumption | exact rw_T hM (by assumption) | exact rw_A hM (by assumption)) (by first | decide | assumption | exact vp_in_nI (by omega) (by decide)) ?_
    -- at 7: stop
    refine wp_e (y := nI ws.length) (by rw [e1, h.1, map_len]) ?_
    refine st_pI rfl (by first | exact tT hM rfl | assumption | exact rw_T hM (by assumption) | exact rw_A hM (by assumption)) ?_
    refine st_k rfl ?_
    refine st_ist rfl ?_
    -- at 12: stop
    exact loop ws.length 0 0 _ rfl (by omega) ((Msc.rf M).sI _ (by omega)) (gI_same _ _ _ _) (fun t ht => by omega))
  subst hr'
  exact ⟨M', hc, h5, h6⟩
theorem map_rot (ws : List Nat) (i : Nat) : (ws.map nI).drop i ++ (ws.map nI).take i = (ws.drop i ++ ws.take i).map nI := by simp
/-- how many of the first i cuts are RIGHT, the first of them -/
def cu (c : Cf) (ws : List Nat) : Nat → Nat × Int32
  | 0 => (0, -9)
  | i + 1 => if rt c (ws.drop (i + 1) ++ ws.take (i + 1)) then ((cu c ws i).1 + 1, if (cu c ws i).1 = 0 then nI (i + 1) else (cu c ws i).2) else cu c ws i
theorem cu_le (c : Cf) (ws : List Nat) : ∀ i, (cu c ws i).1 ≤ i
  | 0 => Nat.le_refl _
  | i + 1 => by
    have := cu_le c ws i
    unfold cu
    split
    · show _ + 1 ≤ _; omega
    · omega
theorem b_cuts (ha : aw a) (r : Int32) : Both a 126 258 [.int r] := by
  rcases r_cs r with ⟨h1, h2⟩ | ⟨j, hj, hr, h1, h2⟩
  · refine bo_k (x := .int (-1)) ha (fun d M h => ?_) (fun d M h => ?_)
    · refine en_126 (Nat.le_of_ble_eq_true rfl) ?_
      have hM := h.1
      refine st_ald rfl rfl ?_
      refine st_ild rfl rfl ?_
      refine st_ild rfl rfl ?_
      refine st_ild rfl rfl ?_
      refine st_k rfl ?_
      refine st_cav (As := [_, _, _, _]) rfl rfl rfl (by first | exact tT hM rfl | assumption | exact rw_T hM (by assumption) | exact rw_A hM (by assumption)) (Nat.le_of_ble_eq_true rfl) (c_knots (d + 16) h _ _ _ _ (c_rowsBad (d + 16) _ _ _ _ _ (fun z => h1 z.1)) ⟨_, rfl⟩) ?_
      refine st_ist rfl ?_
      refine st_ild rfl rfl ?_
      refine st_b1 rfl (fun zq => absurd zq ((by decide))) (fun _ => ?_)
      refine st_ild rfl rfl ?_
      -- at 15: op_iret
      exact st_iret rfl ⟨rfl, rfl⟩
    · refine en_258 (Nat.le_of_ble_eq_true rfl) ?_
      refine st_ild rfl rfl ?_
      refine st_call (As := [_]) rfl rfl rfl (Nat.le_of_ble_eq_true rfl) (m_isRow (d + 17) r) ?_
      refine st_b1 rfl (fun zq => absurd zq ((fun z => z (b01_f h2)))) (fun _ => ?_)
      refine st_k rfl ?_
      -- at 8: op_iret
      exact st_iret rfl ⟨rfl, rfl⟩
  subst hr
  have hin : vp_in (nI j) 6 := vp_in_nI hj (by decide)
  have ho := rw_row j hj
  rcases rope_cs (a := a) j 20 with hx | ⟨l, hx, hlen⟩ | ⟨l, hx, hlen, hno⟩ | ⟨ws, hx, hk, hlen⟩
  · refine bo_f ha (f := 1) (by decide) (fun d M h => ?_) (fun d M h => ?_)
    · refine en_126 (Nat.le_of_ble_eq_true rfl) ?_
      have hM := h.1
      refine st_ald rfl rfl ?_
      refine st_ild rfl rfl ?_
      refine st_ild rfl rfl ?_
      refine st_ild rfl rfl ?_
      refine st_k rfl ?_
      refine st_cav (As := [_, _, _, _]) rfl rfl rfl (by first | exact tT hM rfl | assumption | exact rw_T hM (by assumption) | exact rw_A hM (by assumption)) (Nat.le_of_ble_eq_true rfl) (ckN (d + 16) h hj hj (most := 20) (by decide) hx) ?_
      refine st_ist rfl ?_
      refine st_ild rfl rfl ?_
      refine st_b1 rfl (fun zq => absurd zq ((by decide))) (fun _ => ?_)
      refine st_ild rfl rfl ?_
      -- at 15: op_iret
      exact st_iret rfl ⟨rfl, rfl⟩
    · refine en_258 (Nat.le_of_ble_eq_true rfl) ?_
      have hM := h.1
      refine st_ild rfl rfl ?_
      refine st_call (As := [_]) rfl rfl rfl (Nat.le_of_ble_eq_true rfl) (m_isRow (d + 17) _) ?_
      refine st_b1 rfl (fun _ => ?_) (fun zq => absurd (b01_t h2) zq)
      refine st_ald rfl rfl ?_
      refine st_ild rfl rfl ?_
      refine st_k rfl ?_
      refine st_cav (As := [_, _]) rfl rfl rfl (by first | exact tT hM rfl | assumption | exact rw_T hM (by assumption) | exact rw_A hM (by assumption)) (Nat.le_of_ble_eq_true rfl) (mnN (d + 15) h ha hj (most := 20) (by decide) hx) ?_
      refine st_ist rfl ?_
      refine st_ild rfl rfl ?_
      refine st_b1 rfl (fun zq => absurd zq ((by decide))) (fun _ => ?_)
      refine st_ild rfl rfl ?_
      -- at 22: op_iret
      exact st_iret rfl ⟨rfl, rfl⟩
  · refine bo_f ha (f := 5) (by decide) (fun d M h => ?_) (fun d M h => ?_)
    · refine en_126 (Nat.le_of_ble_eq_true rfl) ?_
      have hM := h.1
      refine st_ald rfl rfl ?_
      refine st_ild rfl rfl ?_
      refine st_ild rfl rfl ?_
      refine st_ild rfl rfl ?_
      refine st_k rfl ?_
      refine st_cav (As := [_, _, _, _]) rfl rfl rfl (by first | exact tT hM rfl | assumption | exact rw_T hM (by assumption) | exact rw_A hM (by assumption)) (Nat.le_of_ble_eq_true rfl) (ckL (d + 16) h hj hj (most := 20) (by decide) hx hlen) ?_
      refine st_ist rfl ?_
      refine st_ild rfl rfl ?_
      refine st_b1 rfl (fun zq => absurd zq ((by decide))) (fun _ => ?_)
      refine st_ild rfl rfl ?_
      -- at 15: op_iret
      exact st_iret rfl ⟨rfl, rfl⟩
    · refine en_258 (Nat.le_of_ble_eq_true rfl) ?_
      have hM := h.1
      refine st_ild rfl rfl ?_
      refine st_call (As := [_]) rfl rfl rfl (Nat.le_of_ble_eq_true rfl) (m_isRow (d + 17) _) ?_
      refine st_b1 rfl (fun _ => ?_) (fun zq => absurd (b01_t h2) zq)
      refine st_ald rfl rfl ?_
      refine st_ild rfl rfl ?_
      refine st_k rfl ?_
      refine st_cav (As := [_, _]) rfl rfl rfl (by first | exact tT hM rfl | assumption | exact rw_T hM (by assumption) | exact rw_A hM (by assumption)) (Nat.le_of_ble_eq_true rfl) (mnL (d + 15) h ha hj (most := 20) (by decide) hx hlen) ?_
      refine st_ist rfl ?_
      refine st_ild rfl rfl ?_
      refine st_b1 rfl (fun zq => absurd zq ((by decide))) (fun _ => ?_)
      refine st_ild rfl rfl ?_
      -- at 22: op_iret
      exact st_iret rfl ⟨rfl, rfl⟩
  · refine bo_f ha (f := 3) (by decide) (fun d M h => ?_) (fun d M h => ?_)
    · refine en_126 (Nat.le_of_ble_eq_true rfl) ?_
      have hM := h.1
      refine st_ald rfl rfl ?_
      refine st_ild rfl rfl ?_
      refine st_ild rfl rfl ?_
      refine st_ild rfl rfl ?_
      refine st_k rfl ?_
      refine st_cav (As := [_, _, _, _]) rfl rfl rfl (by first | exact tT hM rfl | assumption | exact rw_T hM (by assumption) | exact rw_A hM (by assumption)) (Nat.le_of_ble_eq_true rfl) (ckU (d + 16) h hj hj (most := 20) (by decide) ha hx hlen hno) ?_
      refine st_ist rfl ?_
      refine st_ild rfl rfl ?_
      refine st_b1 rfl (fun zq => absurd zq ((by decide))) (fun _ => ?_)
      refine st_ild rfl rfl ?_
      -- at 15: op_iret
      exact st_iret rfl ⟨rfl, rfl⟩
    · refine en_258 (Nat.le_of_ble_eq_true rfl) ?_
      have hM := h.1
      refine st_ild rfl rfl ?_
      refine st_call (As := [_]) rfl rfl rfl (Nat.le_of_ble_eq_true rfl) (m_isRow (d + 17) _) ?_
      refine st_b1 rfl (fun _ => ?_) (fun zq => absurd (b01_t h2) zq)
      refine st_ald rfl rfl ?_
      refine st_ild rfl rfl ?_
      refine st_k rfl ?_
      refine st_cav (As := [_, _]) rfl rfl rfl (by first | exact tT hM rfl | assumption | exact rw_T hM (by assumption) | exact rw_A hM (by assumption)) (Nat.le_of_ble_eq_true rfl) (mnU (d + 15) h ha hj (most := 20) (by decide) hx hlen hno) ?_
      refine st_ist rfl ?_
      refine st_ild rfl rfl ?_
      refine st_b1 rfl (fun zq => absurd zq ((by decide))) (fun _ => ?_)
      refine st_ild rfl rfl ?_
      -- at 22: op_iret
      exact st_iret rfl ⟨rfl, rfl⟩
  refine ⟨.int (nI (cu (aC a) ws (ws.length - 1)).1), sA' a (cu (aC a) ws (ws.length - 1)).2, ha.told _, fun d M h => ?_, fun d M h => ?_⟩
  · have hM := h.1
    have loop : ∀ m i x y1 y2 M1, x = nI (i + 1) → y1 = nI (cu (aC a) ws i).1 → y2 = (cu (aC a) ws i).2 → i + m = ws.length - 1 → pm_S (pm_oo 99) M M1 → pm_WP (pm_call (d + 19)) tb_126 (fun r0 M' => r0 = some (.int (nI (cu (aC a) ws (ws.length - 1)).1)) ∧ IC (sA' a (cu (aC a) ws (ws.length - 1)).2) M' ∧ Cfr M M') 25 [some (.ref 0), some (.int (nI j)), some (.int 0), some (.int y1), some (.int y2), some (.int x)] [] M1 := by
      intro m
      induction m with
      | zero =>
        intro i x y1 y2 M1 hx h1 h2 hi hs
        subst hx; subst h1; subst h2
        have hI := h.S hs (fun k hk => by rcases hk with z | z <;> omega)
        have hM1 := hI.1
        have hz := hI.2.1 j hj
        rw [show aR a j = _ from by assumption] at hz
        have hzz := crow_some hz
        refine st_ild rfl rfl ?_
        refine st_ald rfl rfl ?_
        refine st_gR' rfl (by first | exact tT hM1 rfl | assumption | exact rw_T hM1 (by assumption) | exact rw_A hM1 (by assumption)) (by first | exact rR hM1 rfl rfl | assumption | exact rw_R hM1 (by assumption)) ?_
        refine st_ild rfl rfl ?_
        refine st_aald' rfl (by first | exact tT hM1 rfl | assumption | exact rw_T hM1 (by assumption) | exact rw_A hM1 (by assumption)) (by first | decide | assumption | exact vp_in_nI (by omega) (by decide)) (by first | assumption | exact rRow' hM1 (by assumption) | exact rTxt' hM1 (by assumption) | exact rKep' hM1 (by assumption) | exact rRdg' hM1 (by assumption)) ?_
        refine st_gI rfl (by first | exact tT hM1 rfl | assumption | exact rw_T hM1 (by assumption) | exact rw_A hM1 (by assumption)) ?_
        -- at 36: stop
        refine wp_e hzz.1 ?_
        refine st_b2 rfl (fun _ => ?_) (fun zq => absurd (nI_le (by rw [map_len]; omega) (by omega)) zq)
        refine st_ald rfl rfl ?_
        refine st_ild rfl rfl ?_
        refine st_pI rfl (by first | exact tT hM1 rfl | assumption | exact rw_T hM1 (by assumption) | exact rw_A hM1 (by assumption)) ?_
        refine st_ild rfl rfl ?_
        -- at 97: op_iret
        rw [show i = ws.length - 1 by omega]
        exact st_iret rfl ⟨rfl, hI.told, (Cfr.S hs (fun k hk => by rcases hk with z | z <;> omega)).sI (by decide) _ _⟩
      | succ m ih =>
        intro i x y1 y2 M1 hx h1 h2 hi hs
        subst hx; subst h1; subst h2
        have hI := h.S hs (fun k hk => by rcases hk with z | z <;> omega)
        have hM1 := hI.1
        have hz := hI.2.1 j hj
        rw [show aR a j = _ from by assumption] at hz
        have hzz := crow_some hz
        have hcl := cu_le (aC a) ws i
        obtain ⟨M2, hc2, h5, h6⟩ := c_becomeTurned (d + 17) hM1 ro99 ho (q := i + 1) (by omega) (by omega) (by omega) (by rw [map_len]; omega) hzz
        rw [map_rot] at h5
        have hs2 := hs.tr h6
        have hI2 := h.S hs2 (fun k hk => by rcases hk with z | z <;> omega)
        have hM2 := hI2.1
        have cus : cu (aC a) ws (i + 1) = if rt (aC a) (ws.drop (i + 1) ++ ws.take (i + 1)) then ((cu (aC a) ws i).1 + 1, if (cu (aC a) ws i).1 = 0 then nI (i + 1) else (cu (aC a) ws i).2) else cu (aC a) ws i := rfl
        refine st_ild rfl rfl ?_
        refine st_ald rfl rfl ?_
        refine st_gR' rfl (by first | exact tT hM1 rfl | assumption | exact rw_T hM1 (by assumption) | exact rw_A hM1 (by assumption)) (by first | exact rR hM1 rfl rfl | assumption | exact rw_R hM1 (by assumption)) ?_
        refine st_ild rfl rfl ?_
        refine st_aald' rfl (by first | exact tT hM1 rfl | assumption | exact rw_T hM1 (by assumption) | exact rw_A hM1 (by assumption)) (by first | decide | assumption | exact vp_in_nI (by omega) (by decide)) (by first | assumption | exact rRow' hM1 (by assumption) | exact rTxt' hM1 (by assumption) | exact rKep' hM1 (by assumption) | exact rRdg' hM1 (by assumption)) ?_
        refine st_gI rfl (by first | exact tT hM1 rfl | assumption | exact rw_T hM1 (by assumption) | exact rw_A hM1 (by assumption)) ?_
        -- at 36: stop
        refine wp_e hzz.1 ?_
        refine st_b2 rfl (fun zq => absurd zq (nI_ge (by rw [map_len]; omega) (by rw [map_len]; omega))) (fun _ => ?_)
        refine st_ald rfl rfl ?_
        refine st_gR' rfl (by first | exact tT hM1 rfl | assumption | exact rw_T hM1 (by assumption) | exact rw_A hM1 (by assumption)) (by first | exact rR hM1 rfl rfl | assumption | exact rw_R hM1 (by assumption)) ?_
        refine st_ald rfl rfl ?_
        refine st_gR' rfl (by first | exact tT hM1 rfl | assumption | exact rw_T hM1 (by assumption) | exact rw_A hM1 (by assumption)) (by first | exact rR hM1 rfl rfl | assumption | exact rw_R hM1 (by assumption)) ?_
        refine st_ild rfl rfl ?_
        refine st_aald' rfl (by first | exact tT hM1 rfl | assumption | exact rw_T hM1 (by assumption) | exact rw_A hM1 (by assumption)) (by first | decide | assumption | exact vp_in_nI (by omega) (by decide)) (by first | assumption | exact rRow' hM1 (by assumption) | exact rTxt' hM1 (by assumption) | exact rKep' hM1 (by assumption) | exact rRdg' hM1 (by assumption)) ?_
        refine st_ild rfl rfl ?_
        refine st_cav (As := [_, _]) rfl rfl rfl (rw_T hM1 ro99) (Nat.le_of_ble_eq_true rfl) (hc2) ?_
        -- at 54: stop
        refine st_ald rfl rfl ?_
        refine st_gR' rfl (by first | exact tT hM2 rfl | assumption | exact rw_T hM2 (by assumption) | exact rw_A hM2 (by assumption)) (by first | exact rR hM2 rfl rfl | assumption | exact rw_R hM2 (by assumption)) ?_
        refine st_ald rfl rfl ?_
        refine st_gR' rfl (by first | exact tT hM2 rfl | assumption | exact rw_T hM2 (by assumption) | exact rw_A hM2 (by assumption)) (by first | exact rR hM2 rfl rfl | assumption | exact rw_R hM2 (by assumption)) ?_
        refine st_cav (As := [_]) rfl rfl rfl (by first | exact tT hM2 rfl | assumption | exact rw_T hM2 (by assumption) | exact rw_A hM2 (by assumption)) (Nat.le_of_ble_eq_true rfl) (c_isRight (d + 16) hM2 ha.1 hI2.2.2.2.1 ro99 (rot_kn hk _) h5) ?_
        refine st_b1 rfl (fun g => ?_) (fun g => ?_)
        -- at 65: split 84 68
        · have g : ¬ rt (aC a) (ws.drop (i + 1) ++ ws.take (i + 1)) := fun z => b01_t z g
          refine st_inc rfl rfl ?_
          refine st_go rfl ?_
          -- at 25: stop
          exact ih (i + 1) _ _ _ _ (nI_1 _) (by rw [cus, if_neg g]) (by rw [cus, if_neg g]) (by omega) hs2
        · have g := Decidable.not_not.mp (fun z => g (b01_f z))
          refine st_ild rfl rfl ?_
          refine st_b1 rfl (fun g3 => ?_) (fun g3 => ?_)
          -- at 69: split 77 72
          · have g3 : ¬ (cu (aC a) ws i).1 = 0 := fun z => g3 (by rw [z]; rfl)
            refine st_ild rfl rfl ?_
            refine st_ist rfl ?_
            refine st_inc rfl rfl ?_
            refine st_inc rfl rfl ?_
            refine st_go rfl ?_
            -- at 25: stop
            exact ih (i + 1) _ _ _ _ (nI_1 _) (by rw [cus, if_pos g]; exact nI_1 _) (by rw [cus, if_pos g]; show _ = (if _ then _ else _); rw [if_neg g3]) (by omega) hs2
          · have g3 : (cu (aC a) ws i).1 = 0 := (nI_eq (a := (cu (aC a) ws i).1) (b := 0) (by omega) (by decide)).mp (Decidable.not_not.mp g3)
            refine st_ild rfl rfl ?_
            refine st_go rfl ?_
            refine st_ist rfl ?_
            refine st_inc rfl rfl ?_
            refine st_inc rfl rfl ?_
            refine st_go rfl ?_
            -- at 25: stop
            exact ih (i + 1) _ _ _ _ (nI_1 _) (by rw [cus, if_pos g]; exact nI_1 _) (by rw [cus, if_pos g]; show _ = (if _ then _ else _); rw [if_pos g3]) (by omega) hs2
    obtain ⟨r, M', hc, hr', h5, h6⟩ := eq_126 (d := d + 19) (A := [.ref 0, .int (nI j)]) (M := M) (Q := fun r0 M' => r0 = some (.int (nI (cu (aC a) ws (ws.length - 1)).1)) ∧ IC (sA' a (cu (aC a) ws (ws.length - 1)).2) M' ∧ Cfr M M') (Nat.le_of_ble_eq_true rfl) (by
      refine st_ald rfl rfl ?_
      refine st_ild rfl rfl ?_
      refine st_ild rfl rfl ?_
      refine st_ild rfl rfl ?_
      refine st_k rfl ?_
      refine st_cav (As := [_, _, _, _]) rfl rfl rfl (by first | exact tT hM rfl | assumption | exact rw_T hM (by assumption) | exact rw_A hM (by assumption)) (Nat.le_of_ble_eq_true rfl) (ckO (d + 16) h hj hj (most := 20) (by decide) ha hx hk hlen) ?_
      refine st_ist rfl ?_
      refine st_ild rfl rfl ?_
      refine st_b1 rfl (fun _ => ?_) (fun zq => absurd (rfl) zq)
      refine st_k rfl ?_
      refine st_ist rfl ?_
      refine st_k rfl ?_
      refine st_ist rfl ?_
      refine st_k rfl ?_
      refine st_ist rfl ?_
      -- at 25: stop
      exact loop (ws.length - 1) 0 _ _ _ M rfl rfl rfl (by omega) pm_S.rf)
    subst hr'
    exact ⟨M', hc, h5, h6⟩
  · have hM := h.1
    obtain ⟨M0, hc0, h3, h4⟩ := mnO (d + 15) h ha hj (most := 20) (by decide) hx hk hlen
    have e1 : (nI j).toNatClampNeg = j := nI_clamp (by omega)
    have loop : ∀ m i x y1 y2 M1, x = nI (i + 1) → y1 = nI (cu (aC a) ws i).1 → y2 = (cu (aC a) ws i).2 → i + m = ws.length - 1 → Msc M M1 → pm_WP (pm_call (d + 19)) tb_258 (fun r0 M' => r0 = some (.int (nI (cu (aC a) ws (ws.length - 1)).1)) ∧ IM (sA' a (cu (aC a) ws (ws.length - 1)).2) M' ∧ Mfr M M') 32 [some (.ref 132), some (.int (nI j)), some (.int 0), some (.int y1), some (.int y2), some (.int x)] [] M1 := by
      intro m
      induction m with
      | zero =>
        intro i x y1 y2 M1 hx h1 h2 hi hs
        subst hx; subst h1; subst h2
        have hI := h.sc hs
        have hM1 := hI.1
        have hz := hI.2.1 j hj
        rw [show aR a j = _ from by assumption] at hz
        refine st_ild rfl rfl ?_
        refine st_ald rfl rfl ?_
        refine st_gR' rfl (by first | exact tT hM1 rfl | assumption | exact rw_T hM1 (by assumption) | exact rw_A hM1 (by assumption)) (by first | exact rR hM1 rfl rfl | assumption | exact rw_R hM1 (by assumption)) ?_
        refine st_ild rfl rfl ?_
        refine st_iald rfl (by first | exact tT hM1 rfl | assumption | exact rw_T hM1 (by assumption) | exact rw_A hM1 (by assumption)) (by first | decide | assumption | exact vp_in_nI (by omega) (by decide)) ?_
        -- at 40: stop
        refine wp_e (y := nI ws.length) (by rw [e1, hz.1, map_len]) ?_
        refine st_b2 rfl (fun _ => ?_) (fun zq => absurd (nI_le (by omega) (by omega)) zq)
        refine st_ald rfl rfl ?_
        refine st_ild rfl rfl ?_
        refine st_ild rfl rfl ?_
        refine st_cav (As := [_, _]) rfl rfl rfl (by first | exact tT hM1 rfl | assumption | exact rw_T hM1 (by assumption) | exact rw_A hM1 (by assumption)) (Nat.le_of_ble_eq_true rfl) (m_tells (d + 18) hM1 _ _) ?_
        -- at 86: op_iret
        rw [show i = ws.length - 1 by omega]
        exact st_iret rfl ⟨rfl, hI.told, hs.fr.sI (by decide) _ _⟩
      | succ m ih =>
        intro i x y1 y2 M1 hx h1 h2 hi hs
        subst hx; subst h1; subst h2
        have hI := h.sc hs
        have hM1 := hI.1
        have hz := hI.2.1 j hj
        rw [show aR a j = _ from by assumption] at hz
        have hcl := cu_le (aC a) ws i
        obtain ⟨M2, hc2, h5, h6⟩ := m_lookCut (d + 17) hM1 hj (i := i + 1) (by omega) (by omega) hz
        have hs2 := hs.tr h6
        have hI2 := h.sc hs2
        have hM2 := hI2.1
        have cus : cu (aC a) ws (i + 1) = if rt (aC a) (ws.drop (i + 1) ++ ws.take (i + 1)) then ((cu (aC a) ws i).1 + 1, if (cu (aC a) ws i).1 = 0 then nI (i + 1) else (cu (aC a) ws i).2) else cu (aC a) ws i := rfl
        refine st_ild rfl rfl ?_
        refine st_ald rfl rfl ?_
        refine st_gR' rfl (by first | exact tT hM1 rfl | assumption | exact rw_T hM1 (by assumption) | exact rw_A hM1 (by assumption)) (by first | exact rR hM1 rfl rfl | assumption | exact rw_R hM1 (by assumption)) ?_
        refine st_ild rfl rfl ?_
        refine st_iald rfl (by first | exact tT hM1 rfl | assumption | exact rw_T hM1 (by assumption) | exact rw_A hM1 (by assumption)) (by first | decide | assumption | exact vp_in_nI (by omega) (by decide)) ?_
        -- at 40: stop
        refine wp_e (y := nI ws.length) (by rw [e1, hz.1, map_len]) ?_
        refine st_b2 rfl (fun zq => absurd zq (nI_ge (by omega) (by omega))) (fun _ => ?_)
        refine st_ald rfl rfl ?_
        refine st_ild rfl rfl ?_
        refine st_ild rfl rfl ?_
        refine st_cav (As := [_, _]) rfl rfl rfl (by first | exact tT hM1 rfl | assumption | exact rw_T hM1 (by assumption) | exact rw_A hM1 (by assumption)) (Nat.le_of_ble_eq_true rfl) (hc2) ?_
        -- at 50: stop
        refine st_ald rfl rfl ?_
        refine st_cav (As := []) rfl rfl rfl (by first | exact tT hM2 rfl | assumption | exact rw_T hM2 (by assumption) | exact rw_A hM2 (by assumption)) (Nat.le_of_ble_eq_true rfl) (m_lookRight (d + 15) hM2 ha.1 hI2.2.2.2.1 (rot_kn hk _) h5) ?_
        refine st_b1 rfl (fun g => ?_) (fun g => ?_)
        -- at 54: split 73 57
        · have g : ¬ rt (aC a) (ws.drop (i + 1) ++ ws.take (i + 1)) := fun z => b01_t z g
          refine st_inc rfl rfl ?_
          refine st_go rfl ?_
          -- at 32: stop
          exact ih (i + 1) _ _ _ _ (nI_1 _) (by rw [cus, if_neg g]) (by rw [cus, if_neg g]) (by omega) hs2
        · have g := Decidable.not_not.mp (fun z => g (b01_f z))
          refine st_ild rfl rfl ?_
          refine st_b1 rfl (fun g3 => ?_) (fun g3 => ?_)
          -- at 58: split 66 61
          · have g3 : ¬ (cu (aC a) ws i).1 = 0 := fun z => g3 (by rw [z]; rfl)
            refine st_ild rfl rfl ?_
            refine st_ist rfl ?_
            refine st_inc rfl rfl ?_
            refine st_inc rfl rfl ?_
            refine st_go rfl ?_
            -- at 32: stop
            exact ih (i + 1) _ _ _ _ (nI_1 _) (by rw [cus, if_pos g]; exact nI_1 _) (by rw [cus, if_pos g]; show _ = (if _ then _ else _); rw [if_neg g3]) (by omega) hs2
          · have g3 : (cu (aC a) ws i).1 = 0 := (nI_eq (a := (cu (aC a) ws i).1) (b := 0) (by omega) (by decide)).mp (Decidable.not_not.mp g3)
            refine st_ild rfl rfl ?_
            refine st_go rfl ?_
            refine st_ist rfl ?_
            refine st_inc rfl rfl ?_
            refine st_inc rfl rfl ?_
            refine st_go rfl ?_
            -- at 32: stop
            exact ih (i + 1) _ _ _ _ (nI_1 _) (by rw [cus, if_pos g]; exact nI_1 _) (by rw [cus, if_pos g]; show _ = (if _ then _ else _); rw [if_pos g3]) (by omega) hs2
    obtain ⟨r, M', hc, hr', h5, h6⟩ := eq_258 (d := d + 19) (A := [.ref 132, .int (nI j)]) (M := M) (Q := fun r0 M' => r0 = some (.int (nI (cu (aC a) ws (ws.length - 1)).1)) ∧ IM (sA' a (cu (aC a) ws (ws.length - 1)).2) M' ∧ Mfr M M') (Nat.le_of_ble_eq_true rfl) (by
      refine st_ild rfl rfl ?_
      refine st_call (As := [_]) rfl rfl rfl (Nat.le_of_ble_eq_true rfl) (m_isRow (d + 17) _) ?_
      refine st_b1 rfl (fun _ => ?_) (fun zq => absurd (b01_t h2) zq)
      refine st_ald rfl rfl ?_
      refine st_ild rfl rfl ?_
      refine st_k rfl ?_
      refine st_cav (As := [_, _]) rfl rfl rfl (by first | exact tT hM rfl | assumption | exact rw_T hM (by assumption) | exact rw_A hM (by assumption)) (Nat.le_of_ble_eq_true rfl) (hc0) ?_
      refine st_ist rfl ?_
      refine st_ild rfl rfl ?_
      refine st_b1 rfl (fun _ => ?_) (fun zq => absurd ((by decide)) zq)
      refine st_k rfl ?_
      refine st_ist rfl ?_
      refine st_k rfl ?_
      refine st_ist rfl ?_
      refine st_k rfl ?_
      refine st_ist rfl ?_
      -- at 32: stop
      exact loop (ws.length - 1) 0 _ _ _ _ rfl rfl rfl (by omega) h4)
    subst hr'
    exact ⟨M', hc, h5, h6⟩
end PUL

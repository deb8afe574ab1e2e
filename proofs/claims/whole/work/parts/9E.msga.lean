/-! BOTH ANSWER ALIKE: shortest -/
section SHB
variable {a : As} {M : pm_M} {c : Cf} {m : List Nat}
/-- the shortest ROPE that SAYS it, if there is one -/
def shr (c : Cf) (m : List Nat) : Option Nat := match LF c m 20 s00 with
  | none => none
  | some v => if v ≤ cf_rm c then some v else none
theorem shr_nv (hw : cf_wf c) : (shr c m = none ∧ ¬ nv (LF c m 20 s00) ≤ cf_rm c ∧ ¬ nr (LF c m 20 s00) ≤ cf_rm c) ∨ ∃ v, shr c m = some v ∧ LF c m 20 s00 = some v ∧ v ≤ cf_rm c := by
  have hrm := rm99 hw
  unfold shr
  cases h : LF c m 20 s00 with
  | none =>
    left
    exact ⟨rfl, by show ¬ 1000 ≤ _; omega, by show ¬ 100000 ≤ _; omega⟩
  | some v =>
    by_cases g : v ≤ cf_rm c
    · right
      exact ⟨v, if_pos g, rfl, g⟩
    · left
      exact ⟨if_neg g, g, g⟩
theorem IC.say {M' : pm_M} (h : IC a M) (hs : pm_S (fun k => 27 ≤ k ∧ k ≤ 31) M M') : IC a M' := h.S hs (fun k hk => Or.inl (by omega))
theorem Msc.l156 {M M' : pm_M} (h : pm_S (fun k => k = 156) M M') : Msc M M' := Msc.S h (fun k i z => by rw [show k = 156 from z]; omega)
theorem b_shortest (ha : aw a) (r t : Int32) : Both a 117 236 [.int r, .int t] := by
  have hw := ha.1
  have hrm := rm99 hw
  rcases r_cs r with ⟨h1, h2⟩ | ⟨j, hj, hr, h1, h2⟩
  · refine bo_k (x := .int (-1)) ha (fun d M h => ?_) (fun d M h => ?_)
    · refine en_117 (Nat.le_of_ble_eq_true rfl) ?_
      have hM := h.1
      refine st_ald rfl rfl ?_
      refine st_ild rfl rfl ?_
      refine st_ild rfl rfl ?_
      refine st_ild rfl rfl ?_
      refine st_cav (As := [_, _, _]) rfl rfl rfl (by first | exact tT hM rfl | assumption | exact rw_T hM (by assumption) | exact rw_A hM (by assumption)) (Nat.le_of_ble_eq_true rfl) (c_mess (d + 16) h _ _ _ (c_rowsBad (d + 16) _ _ _ _ _ (fun z => h1 z.1)) ⟨_, rfl⟩) ?_
      refine st_ist rfl ?_
      refine st_ild rfl rfl ?_
      refine st_b1 rfl (fun zq => absurd zq ((by decide))) (fun _ => ?_)
      refine st_ild rfl rfl ?_
      -- at 13: op_iret
      exact st_iret rfl ⟨rfl, rfl⟩
    · refine en_236 (Nat.le_of_ble_eq_true rfl) ?_
      refine st_ild rfl rfl ?_
      refine st_call (As := [_]) rfl rfl rfl (Nat.le_of_ble_eq_true rfl) (m_isRow (d + 17) r) ?_
      refine st_b1 rfl (fun _ => ?_) (fun zq => absurd (b01_f h2) zq)
      refine st_k rfl ?_
      -- at 15: op_iret
      exact st_iret rfl ⟨rfl, rfl⟩
  rcases r_cs t with ⟨k1, k2⟩ | ⟨u, hu, ht, k1, k2⟩
  · refine bo_k (x := .int (-1)) ha (fun d M h => ?_) (fun d M h => ?_)
    · refine en_117 (Nat.le_of_ble_eq_true rfl) ?_
      have hM := h.1
      refine st_ald rfl rfl ?_
      refine st_ild rfl rfl ?_
      refine st_ild rfl rfl ?_
      refine st_ild rfl rfl ?_
      refine st_cav (As := [_, _, _]) rfl rfl rfl (by first | exact tT hM rfl | assumption | exact rw_T hM (by assumption) | exact rw_A hM (by assumption)) (Nat.le_of_ble_eq_true rfl) (c_mess (d + 16) h _ _ _ (c_rowsBad (d + 16) _ _ _ _ _ (fun z => k1 z.2.2)) ⟨_, rfl⟩) ?_
      refine st_ist rfl ?_
      refine st_ild rfl rfl ?_
      refine st_b1 rfl (fun zq => absurd zq ((by decide))) (fun _ => ?_)
      refine st_ild rfl rfl ?_
      -- at 13: op_iret
      exact st_iret rfl ⟨rfl, rfl⟩
    · refine en_236 (Nat.le_of_ble_eq_true rfl) ?_
      refine st_ild rfl rfl ?_
      refine st_call (As := [_]) rfl rfl rfl (Nat.le_of_ble_eq_true rfl) (m_isRow (d + 17) _) ?_
      refine st_b1 rfl (fun zq => absurd zq (b01_t h2)) (fun _ => ?_)
      refine st_ild rfl rfl ?_
      refine st_call (As := [_]) rfl rfl rfl (Nat.le_of_ble_eq_true rfl) (m_isRow (d + 17) t) ?_
      refine st_b1 rfl (fun zq => absurd zq ((fun z => z (b01_f k2)))) (fun _ => ?_)
      refine st_k rfl ?_
      -- at 15: op_iret
      exact st_iret rfl ⟨rfl, rfl⟩
  subst ht
  subst hr
  have hin : vp_in (nI j) 6 := vp_in_nI hj (by decide)
  have hinu : vp_in (nI u) 6 := vp_in_nI hu (by decide)
  rcases row_cs (a := a) j 12 10 (by decide) with hx | ⟨l, hx, hlen⟩ | ⟨l, hx, hlen, hno⟩ | ⟨m, hx, hk, hlen⟩
  · refine bo_f ha (f := 1) (by decide) (fun d M h => ?_) (fun d M h => ?_)
    · refine en_117 (Nat.le_of_ble_eq_true rfl) ?_
      have hM := h.1
      refine st_ald rfl rfl ?_
      refine st_ild rfl rfl ?_
      refine st_ild rfl rfl ?_
      refine st_ild rfl rfl ?_
      refine st_cav (As := [_, _, _]) rfl rfl rfl (by first | exact tT hM rfl | assumption | exact rw_T hM (by assumption) | exact rw_A hM (by assumption)) (Nat.le_of_ble_eq_true rfl) (cmN (d + 16) h hj hu hx) ?_
      refine st_ist rfl ?_
      refine st_ild rfl rfl ?_
      refine st_b1 rfl (fun zq => absurd zq ((by decide))) (fun _ => ?_)
      refine st_ild rfl rfl ?_
      -- at 13: op_iret
      exact st_iret rfl ⟨rfl, rfl⟩
    · refine en_236 (Nat.le_of_ble_eq_true rfl) ?_
      have hM := h.1
      refine st_ild rfl rfl ?_
      refine st_call (As := [_]) rfl rfl rfl (Nat.le_of_ble_eq_true rfl) (m_isRow (d + 17) _) ?_
      refine st_b1 rfl (fun zq => absurd zq (b01_t h2)) (fun _ => ?_)
      refine st_ild rfl rfl ?_
      refine st_call (As := [_]) rfl rfl rfl (Nat.le_of_ble_eq_true rfl) (m_isRow (d + 17) _) ?_
      refine st_b1 rfl (fun _ => ?_) (fun zq => absurd (b01_t k2) zq)
      refine st_ald rfl rfl ?_
      refine st_ild rfl rfl ?_
      refine st_cav (As := [_]) rfl rfl rfl (by first | exact tT hM rfl | assumption | exact rw_T hM (by assumption) | exact rw_A hM (by assumption)) (Nat.le_of_ble_eq_true rfl) (mqN (d + 16) h hj hx) ?_
      refine st_ist rfl ?_
      refine st_ild rfl rfl ?_
      refine st_b1 rfl (fun zq => absurd zq ((by decide))) (fun _ => ?_)
      refine st_ild rfl rfl ?_
      -- at 27: op_iret
      exact st_iret rfl ⟨rfl, rfl⟩
  · refine bo_f ha (f := 5) (by decide) (fun d M h => ?_) (fun d M h => ?_)
    · refine en_117 (Nat.le_of_ble_eq_true rfl) ?_
      have hM := h.1
      refine st_ald rfl rfl ?_
      refine st_ild rfl rfl ?_
      refine st_ild rfl rfl ?_
      refine st_ild rfl rfl ?_
      refine st_cav (As := [_, _, _]) rfl rfl rfl (by first | exact tT hM rfl | assumption | exact rw_T hM (by assumption) | exact rw_A hM (by assumption)) (Nat.le_of_ble_eq_true rfl) (cmL (d + 16) h hj hu hx hlen) ?_
      refine st_ist rfl ?_
      refine st_ild rfl rfl ?_
      refine st_b1 rfl (fun zq => absurd zq ((by decide))) (fun _ => ?_)
      refine st_ild rfl rfl ?_
      -- at 13: op_iret
      exact st_iret rfl ⟨rfl, rfl⟩
    · refine en_236 (Nat.le_of_ble_eq_true rfl) ?_
      have hM := h.1
      refine st_ild rfl rfl ?_
      refine st_call (As := [_]) rfl rfl rfl (Nat.le_of_ble_eq_true rfl) (m_isRow (d + 17) _) ?_
      refine st_b1 rfl (fun zq => absurd zq (b01_t h2)) (fun _ => ?_)
      refine st_ild rfl rfl ?_
      refine st_call (As := [_]) rfl rfl rfl (Nat.le_of_ble_eq_true rfl) (m_isRow (d + 17) _) ?_
      refine st_b1 rfl (fun _ => ?_) (fun zq => absurd (b01_t k2) zq)
      refine st_ald rfl rfl ?_
      refine st_ild rfl rfl ?_
      refine st_cav (As := [_]) rfl rfl rfl (by first | exact tT hM rfl | assumption | exact rw_T hM (by assumption) | exact rw_A hM (by assumption)) (Nat.le_of_ble_eq_true rfl) (mqL (d + 16) h hj hx hlen) ?_
      refine st_ist rfl ?_
      refine st_ild rfl rfl ?_
      refine st_b1 rfl (fun zq => absurd zq ((by decide))) (fun _ => ?_)
      refine st_ild rfl rfl ?_
      -- at 27: op_iret
      exact st_iret rfl ⟨rfl, rfl⟩
  · refine bo_f ha (f := 3) (by decide) (fun d M h => ?_) (fun d M h => ?_)
    · refine en_117 (Nat.le_of_ble_eq_true rfl) ?_
      have hM := h.1
      refine st_ald rfl rfl ?_
      refine st_ild rfl rfl ?_
      refine st_ild rfl rfl ?_
      refine st_ild rfl rfl ?_
      refine st_cav (As := [_, _, _]) rfl rfl rfl (by first | exact tT hM rfl | assumption | exact rw_T hM (by assumption) | exact rw_A hM (by assumption)) (Nat.le_of_ble_eq_true rfl) (cmU (d + 16) h hj hu hx hlen hno) ?_
      refine st_ist rfl ?_
      refine st_ild rfl rfl ?_
      refine st_b1 rfl (fun zq => absurd zq ((by decide))) (fun _ => ?_)
      refine st_ild rfl rfl ?_
      -- at 13: op_iret
      exact st_iret rfl ⟨rfl, rfl⟩
    · refine en_236 (Nat.le_of_ble_eq_true rfl) ?_
      have hM := h.1
      refine st_ild rfl rfl ?_
      refine st_call (As := [_]) rfl rfl rfl (Nat.le_of_ble_eq_true rfl) (m_isRow (d + 17) _) ?_
      refine st_b1 rfl (fun zq => absurd zq (b01_t h2)) (fun _ => ?_)
      refine st_ild rfl rfl ?_
      refine st_call (As := [_]) rfl rfl rfl (Nat.le_of_ble_eq_true rfl) (m_isRow (d + 17) _) ?_
      refine st_b1 rfl (fun _ => ?_) (fun zq => absurd (b01_t k2) zq)
      refine st_ald rfl rfl ?_
      refine st_ild rfl rfl ?_
      refine st_cav (As := [_]) rfl rfl rfl (by first | exact tT hM rfl | assumption | exact rw_T hM (by assumption) | exact rw_A hM (by assumption)) (Nat.le_of_ble_eq_true rfl) (mqU (d + 16) h hj hx hlen hno) ?_
      refine st_ist rfl ?_
      refine st_ild rfl rfl ?_
      refine st_b1 rfl (fun zq => absurd zq ((by decide))) (fun _ => ?_)
      refine st_ild rfl rfl ?_
      -- at 27: op_iret
      exact st_iret rfl ⟨rfl, rfl⟩
  have hou := rw_row u hu
  have ho := rw_row j hj
  have cpre : ∀ d M (h : IC a M), ∃ M1, IC a M1 ∧ pm_S (fun k => 27 ≤ k ∧ k ≤ 31) M M1 ∧ SP (aC a) (aC a) m (pcv (aC a) m) M1 ∧ TbA (aC a) m (pcv (aC a) m) M1 ∧ ∀ Q : Option Value → pm_M → Prop, pm_WP (pm_call (d + 19)) tb_117 Q 52 [some (.ref 0), some (.int (nI j)), some (.int (nI u)), some (.int 0), some (.int (nI (nv (LF (aC a) m 20 s00))))] [.int (nI (cf_rm (aC a))), .int (nI (nv (LF (aC a) m 20 s00)))] M1 → pm_WP (pm_call (d + 19)) tb_117 Q 0 (pm_init 5 [.ref 0, .int (nI j), .int (nI u)]) [] M := by
    intro d M h
    have hM := h.1
    have hr0 : pm_Ro M (106 + 2 * j) (m.map nI) := by have := h.2.1 j hj; rw [hx] at this; exact this
    obtain ⟨M1, hc1, p1, t1, s1⟩ := c_begin (d + 14) hM h.2.2.2.1 (al_rf _) hw hw ho (by omega) (Or.inl rfl) hr0 hlen hk (fun k hk => (h.2.2.2.1.2.1 k hk).2.2)
    have hI := h.say s1
    have hM1 := hI.1
    refine ⟨M1, hI, s1, p1, t1, fun Q hQ => ?_⟩
    refine st_ald rfl rfl ?_
    refine st_ild rfl rfl ?_
    refine st_ild rfl rfl ?_
    refine st_ild rfl rfl ?_
    refine st_cav (As := [_, _, _]) rfl rfl rfl (by first | exact tT hM rfl | assumption | exact rw_T hM (by assumption) | exact rw_A hM (by assumption)) (Nat.le_of_ble_eq_true rfl) (cmO (d + 16) h hj hu hx hk hlen) ?_
    refine st_ist rfl ?_
    refine st_ild rfl rfl ?_
    refine st_b1 rfl (fun _ => ?_) (fun zq => absurd (rfl) zq)
    refine st_ald rfl rfl ?_
    refine st_gR' rfl (by first | exact tT hM rfl | assumption | exact rw_T hM (by assumption) | exact rw_A hM (by assumption)) (by first | exact rR hM rfl rfl | assumption | exact rw_R hM (by assumption)) ?_
    refine st_ald rfl rfl ?_
    refine st_gR' rfl (by first | exact tT hM rfl | assumption | exact rw_T hM (by assumption) | exact rw_A hM (by assumption)) (by first | exact rR hM rfl rfl | assumption | exact rw_R hM (by assumption)) ?_
    refine st_ild rfl rfl ?_
    refine st_aald' rfl (by first | exact tT hM rfl | assumption | exact rw_T hM (by assumption) | exact rw_A hM (by assumption)) (by first | decide | assumption | exact vp_in_nI (by omega) (by decide)) (by first | assumption | exact rRow' hM (by assumption) | exact rTxt' hM (by assumption) | exact rKep' hM (by assumption) | exact rRdg' hM (by assumption)) ?_
    refine st_ald rfl rfl ?_
    refine st_gR' rfl (by first | exact tT hM rfl | assumption | exact rw_T hM (by assumption) | exact rw_A hM (by assumption)) (by first | exact rR hM rfl rfl | assumption | exact rw_R hM (by assumption)) ?_
    refine st_gR' rfl (by first | exact tT hM rfl | assumption | exact rw_T hM (by assumption) | exact rw_A hM (by assumption)) (by first | exact rR hM rfl rfl | assumption | exact rw_R hM (by assumption)) ?_
    refine st_cav (As := [_, _]) rfl rfl rfl (by first | exact tT hM rfl | assumption | exact rw_T hM (by assumption) | exact rw_A hM (by assumption)) (Nat.le_of_ble_eq_true rfl) (hc1) ?_
    -- at 34: stop
    refine st_ald rfl rfl ?_
    refine st_gR' rfl (by first | exact tT hM1 rfl | assumption | exact rw_T hM1 (by assumption) | exact rw_A hM1 (by assumption)) (by first | exact rR hM1 rfl rfl | assumption | exact rw_R hM1 (by assumption)) ?_
    refine st_cav (As := []) rfl rfl rfl (by first | exact tT hM1 rfl | assumption | exact rw_T hM1 (by assumption) | exact rw_A hM1 (by assumption)) (Nat.le_of_ble_eq_true rfl) (c_leastOfAll (d + 18) hM1 p1 t1) ?_
    refine st_ist rfl ?_
    refine st_ild rfl rfl ?_
    refine st_ald rfl rfl ?_
    refine st_gR' rfl (by first | exact tT hM1 rfl | assumption | exact rw_T hM1 (by assumption) | exact rw_A hM1 (by assumption)) (by first | exact rR hM1 rfl rfl | assumption | exact rw_R hM1 (by assumption)) ?_
    refine st_cav (As := []) rfl rfl rfl (by first | exact tT hM1 rfl | assumption | exact rw_T hM1 (by assumption) | exact rw_A hM1 (by assumption)) (Nat.le_of_ble_eq_true rfl) (c_room (d + 18) hM1 hw hI.2.2.2.1) ?_
    -- at 52: stop
    exact hQ
  have mpre : ∀ d M (h : IM a M), ∃ M1, IM a M1 ∧ Msc M M1 ∧ MM m M1 ∧ (∀ f, f ≤ 20 → LT (aC a) m f M1) ∧ ∀ Q : Option Value → pm_M → Prop, pm_WP (pm_call (d + 19)) tb_236 Q 32 [some (.ref 132), some (.int (nI j)), some (.int (nI u)), some (.int 0), none] [.int (shn (aC a) m)] M1 → pm_WP (pm_call (d + 19)) tb_236 Q 0 (pm_init 5 [.ref 132, .int (nI j), .int (nI u)]) [] M := by
    intro d M h
    have hM := h.1
    obtain ⟨M1, hc1, p1, s1⟩ := mqO (d + 16) h hj hx hk hlen
    have hI := h.sc s1
    have hM1 := hI.1
    obtain ⟨M2, hc2, s2, t2⟩ := m_shortestNow (d + 15) hM1 hw hI.2.2.2.1 p1
    have hI2 := hI.sc (Msc.l156 s2)
    refine ⟨M2, hI2, s1.tr (Msc.l156 s2), p1.S s2 (by decide) (by decide), t2, fun Q hQ => ?_⟩
    refine st_ild rfl rfl ?_
    refine st_call (As := [_]) rfl rfl rfl (Nat.le_of_ble_eq_true rfl) (m_isRow (d + 17) _) ?_
    refine st_b1 rfl (fun zq => absurd zq (b01_t h2)) (fun _ => ?_)
    refine st_ild rfl rfl ?_
    refine st_call (As := [_]) rfl rfl rfl (Nat.le_of_ble_eq_true rfl) (m_isRow (d + 17) _) ?_
    refine st_b1 rfl (fun _ => ?_) (fun zq => absurd (b01_t k2) zq)
    refine st_ald rfl rfl ?_
    refine st_ild rfl rfl ?_
    refine st_cav (As := [_]) rfl rfl rfl (by first | exact tT hM rfl | assumption | exact rw_T hM (by assumption) | exact rw_A hM (by assumption)) (Nat.le_of_ble_eq_true rfl) (hc1) ?_
    -- at 21: stop
    refine st_ist rfl ?_
    refine st_ild rfl rfl ?_
    refine st_b1 rfl (fun _ => ?_) (fun zq => absurd ((by decide)) zq)
    refine st_ald rfl rfl ?_
    refine st_cav (As := []) rfl rfl rfl (by first | exact tT hM1 rfl | assumption | exact rw_T hM1 (by assumption) | exact rw_A hM1 (by assumption)) (Nat.le_of_ble_eq_true rfl) (hc2) ?_
    -- at 32: stop
    exact hQ
  rcases shr_nv (m := m) hw with ⟨g1, g2, g3⟩ | ⟨v, g1, g2, g3⟩
  · have nvl := nv_lt (x := LF (aC a) m 20 s00) (fun v hv => LF_lt hw (m := m) (s := s00) (f := 20) (by omega) v hv)
    refine ⟨.int (-9), a, ha, fun d M h => ?_, fun d M h => ?_⟩
    · obtain ⟨M1, hI, s1, p1, t1, pre⟩ := cpre d M h
      refine ⟨M1, en_117 (Nat.le_of_ble_eq_true rfl) (pre _ ?_), hI, Cfr.S s1 (fun k hk => by omega)⟩
      refine st_b2 rfl (fun zq => absurd zq (nI_ge (by omega) (by omega))) (fun _ => ?_)
      refine st_k rfl ?_
      -- at 57: op_iret
      exact st_iret rfl ⟨rfl, rfl⟩
    · obtain ⟨M1, hI, s1, p1, t1, pre⟩ := mpre d M h
      refine ⟨M1, en_236 (Nat.le_of_ble_eq_true rfl) (pre _ ?_), hI, s1.fr⟩
      rw [show shn (aC a) m = -9 by unfold shn; rw [if_neg g3]]
      refine st_ist rfl ?_
      refine st_ild rfl rfl ?_
      refine st_k rfl ?_
      refine st_b2 rfl (fun zq => absurd zq ((fun z => z rfl))) (fun _ => ?_)
      refine st_k rfl ?_
      -- at 43: op_iret
      exact st_iret rfl ⟨rfl, rfl⟩
  · have hsl := sp_len (c := aC a) (m := m) 20 s00
    refine ⟨.int (nI v), sR' a u (some ((sp (aC a) m 20 s00).map nI)), ha.row _ _, fun d M h => ?_, fun d M h => ?_⟩
    · obtain ⟨M1, hI, s1, p1, t1, pre⟩ := cpre d M h
      have hM1 := hI.1
      have s2 : pm_S (pm_oo (106 + 2 * u)) M1 (sI M1 (106 + 2 * u) 1 0) := s_clear
      have hM2 := s2.ok hM1
      have p2 := p1.kept s2 (fun k z => by rcases z with w | w <;> omega)
      have t2 : TbA (aC a) m (pcv (aC a) m) (sI M1 (106 + 2 * u) 1 0) := fun y hy => (t1 y hy).kept s2 (by show ¬ (_ ∨ _); omega)
      obtain ⟨M3, hc3, r3, s3⟩ := c_spell (d + 14) hM2 p2 t2 hou (by omega) (ws0 := []) (ro_clear M1 _) (vx00 p1.2.2) (Fu00 p1.2.2) (by decide) (v0 := v) g2 (by simp)
      have s4 : pm_S (fun k => (27 ≤ k ∧ k ≤ 31) ∨ pm_oo (106 + 2 * u) k) M M3 := (s1.mo (fun k hk => Or.inl hk)).tr ((s2.tr s3).mo (fun k hk => Or.inr hk))
      have hI3 := h.row (x := some ((sp (aC a) m 20 s00).map nI)) hu s4 (fun k hk => by rcases hk with z | (z | z) <;> omega) r3
      refine ⟨M3, en_117 (Nat.le_of_ble_eq_true rfl) (pre _ ?_), hI3, Cfr.S s4 (fun k hk => by rcases hk with z | (z | z) <;> omega)⟩
      rw [show nv (LF (aC a) m 20 s00) = v by rw [g2]; rfl]
      refine st_b2 rfl (fun _ => ?_) (fun zq => absurd (nI_le g3 (by omega)) zq)
      refine st_ald rfl rfl ?_
      refine st_gR' rfl (by first | exact tT hM1 rfl | assumption | exact rw_T hM1 (by assumption) | exact rw_A hM1 (by assumption)) (by first | exact rR hM1 rfl rfl | assumption | exact rw_R hM1 (by assumption)) ?_
      refine st_ild rfl rfl ?_
      refine st_aald' rfl (by first | exact tT hM1 rfl | assumption | exact rw_T hM1 (by assumption) | exact rw_A hM1 (by assumption)) (by first | decide | assumption | exact vp_in_nI (by omega) (by decide)) (by first | assumption | exact rRow' hM1 (by assumption) | exact rTxt' hM1 (by assumption) | exact rKep' hM1 (by assumption) | exact rRdg' hM1 (by assumption)) ?_
      refine st_cav (As := []) rfl rfl rfl (rw_T hM1 hou) (Nat.le_of_ble_eq_true rfl) (c_clear (d + 18) hM1 hou) ?_
      -- at 67: stop
      refine st_ald rfl rfl ?_
      refine st_gR' rfl (by first | exact tT hM2 rfl | assumption | exact rw_T hM2 (by assumption) | exact rw_A hM2 (by assumption)) (by first | exact rR hM2 rfl rfl | assumption | exact rw_R hM2 (by assumption)) ?_
      refine st_k rfl ?_
      refine st_ald rfl rfl ?_
      refine st_gR' rfl (by first | exact tT hM2 rfl | assumption | exact rw_T hM2 (by assumption) | exact rw_A hM2 (by assumption)) (by first | exact rR hM2 rfl rfl | assumption | exact rw_R hM2 (by assumption)) ?_
      refine st_ild rfl rfl ?_
      refine st_aald' rfl (by first | exact tT hM2 rfl | assumption | exact rw_T hM2 (by assumption) | exact rw_A hM2 (by assumption)) (by first | decide | assumption | exact vp_in_nI (by omega) (by decide)) (by first | assumption | exact rRow' hM2 (by assumption) | exact rTxt' hM2 (by assumption) | exact rKep' hM2 (by assumption) | exact rRdg' hM2 (by assumption)) ?_
      refine st_cav (As := [_, _]) rfl rfl rfl (by first | exact tT hM2 rfl | assumption | exact rw_T hM2 (by assumption) | exact rw_A hM2 (by assumption)) (Nat.le_of_ble_eq_true rfl) (hc3) ?_
      -- at 82: stop
      refine st_ild rfl rfl ?_
      -- at 84: op_iret
      exact st_iret rfl ⟨rfl, rfl⟩
    · obtain ⟨M1, hI, s1, p1, t1, pre⟩ := mpre d M h
      have hM1 := hI.1
      have hlk : Lk (sI M1 132 29 0) [] := ⟨gI_same _ _ _ _, by simp, fun i hi => by simp at hi⟩
      have l1 : Lfr M1 (sI M1 132 29 0) := ⟨rfl, fun _ _ => rfl, fun k i z1 z2 => gI_nn z1, fun _ _ => rfl⟩
      have hM2 := l1.ok hM1
      obtain ⟨M3, hc3, k3, l3⟩ := m_goOnLeast (d + 15) hM2 hw (hI.2.2.2.1.sc l1.sc) (l1.mm p1) hlk (f0 := 20) (v0 := v) (s0 := s00) (by simp) (fun f hf => l1.lt (t1 f hf)) (wS00 _) g2
      have hI3 := (hI.sc l1.sc).sc l3.sc
      have hM3 := hI3.1
      have k3' : Lk M3 (sp (aC a) m 20 s00) := k3
      obtain ⟨M4, hc4, h7, h8⟩ := m_layRow (d + 18) hM3 hu (k := 147) (n := 24) (l := (sp (aC a) m 20 s00).map nI) (tT hM3 rfl) (by decide) (by rw [map_len]; omega) (by rw [map_len]; omega) (fun i hi => by rw [map_len] at hi; rw [k3'.2.2 i hi, map_getD hi])
      rw [map_len] at hc4
      have hI4 := hI3.lay h8 h7
      refine ⟨M4, en_236 (Nat.le_of_ble_eq_true rfl) (pre _ ?_), hI4, s1.fr.tr (l1.sc.fr.tr (l3.sc.fr.tr h8.fr))⟩
      rw [show shn (aC a) m = nI v by unfold shn; rw [g2]; exact if_pos g3]
      have hne : ¬ nI v = -9 := fun z => absurd (show nI v < 0 by rw [z]; decide) (nI_pos (by omega))
      refine st_ist rfl ?_
      refine st_ild rfl rfl ?_
      refine st_k rfl ?_
      refine st_b2 rfl (fun _ => ?_) (fun zq => absurd (hne) zq)
      refine st_ald rfl rfl ?_
      refine st_k rfl ?_
      refine st_pI rfl (by first | exact tT hM1 rfl | assumption | exact rw_T hM1 (by assumption) | exact rw_A hM1 (by assumption)) ?_
      -- at 49: stop
      refine st_ald rfl rfl ?_
      refine st_k rfl ?_
      refine st_cav (As := [_]) rfl rfl rfl (by first | exact tT hM2 rfl | assumption | exact rw_T hM2 (by assumption) | exact rw_A hM2 (by assumption)) (Nat.le_of_ble_eq_true rfl) (hc3) ?_
      -- at 54: stop
      refine st_ald rfl rfl ?_
      refine st_ild rfl rfl ?_
      refine st_ald rfl rfl ?_
      refine st_gR' rfl (by first | exact tT hM3 rfl | assumption | exact rw_T hM3 (by assumption) | exact rw_A hM3 (by assumption)) (by first | exact rR hM3 rfl rfl | assumption | exact rw_R hM3 (by assumption)) ?_
      refine st_ald rfl rfl ?_
      refine st_gI rfl (by first | exact tT hM3 rfl | assumption | exact rw_T hM3 (by assumption) | exact rw_A hM3 (by assumption)) ?_
      -- at 64: stop
      refine wp_e k3'.1 ?_
      refine st_cav (As := [_, _, _]) rfl rfl rfl (by first | exact tT hM3 rfl | assumption | exact rw_T hM3 (by assumption) | exact rw_A hM3 (by assumption)) (Nat.le_of_ble_eq_true rfl) (hc4) ?_
      -- at 67: stop
      refine st_ild rfl rfl ?_
      -- at 69: op_iret
      exact st_iret rfl ⟨rfl, rfl⟩
end SHB

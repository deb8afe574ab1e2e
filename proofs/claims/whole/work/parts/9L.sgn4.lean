/-! BOTH ANSWER ALIKE: signs -/
/-- a beginning of ints written -/
def wI (M : pm_M) (k n : Nat) (g : Nat → Int32) : pm_M := (M.1, fun a b => if a = k ∧ b < n then g b else M.2.1 a b, M.2.2.1, M.2.2.2)
theorem gI_wI (M : pm_M) (k n : Nat) (g : Nat → Int32) (k' i : Nat) : gI (wI M k n g) k' i = if k' = k ∧ i < n then g i else gI M k' i := rfl
theorem gI_wn {M : pm_M} {k n : Nat} {g : Nat → Int32} {k' : Nat} (i : Nat) (h : k' ≠ k) : gI (wI M k n g) k' i = gI M k' i := by rw [gI_wI, if_neg (fun z => h z.1)]
theorem gI_w1 {M : pm_M} {k n : Nat} {g : Nat → Int32} {i : Nat} (h : i < n) : gI (wI M k n g) k i = g i := by rw [gI_wI, if_pos ⟨rfl, h⟩]
theorem wI_s (M : pm_M) (k n : Nat) (g : Nat → Int32) : sI (wI M k n g) k n (g n) = wI M k (n + 1) g := by
  unfold sI wI
  congr 2
  funext a b
  by_cases h : a = k
  · subst h
    by_cases h1 : b = n
    · subst h1; simp
    · by_cases h2 : b < n
      · simp [h1, h2, show b < n + 1 by omega]
      · simp [h1, h2, show ¬ b < n + 1 by omega]
  · simp [h]
theorem wI_0 (M : pm_M) (k : Nat) (g : Nat → Int32) : wI M k 0 g = M := by
  unfold wI
  simp
section SGB
variable {a : As} {M : pm_M} {c : Cf} {m : List Nat}
theorem ok_sR {o : Nat} {x : Nat} (hM : pm_ok M) (hx : (o = 33 ∧ x = 4) ∨ (o = 41 ∧ x = 5)) (v : Option Nat) : pm_ok (sR M o x v) := by
  refine ⟨hM.1, fun k f hf => ?_⟩
  rw [gR_sR, if_neg]
  · exact hM.2 k f hf
  · rintro ⟨y1, y2⟩
    rw [y1, y2] at hf
    rcases hx with ⟨z1, z2⟩ | ⟨z1, z2⟩ <;> (rw [z1, z2] at hf; exact absurd hf (by decide))
theorem IC.ref {o x : Nat} (h : IC a M) (hx : (o = 33 ∧ x = 4) ∨ (o = 41 ∧ x = 5)) (v : Option Nat) : IC a (sR M o x v) := h.kept (ok_sR h.1 hx v) (fun _ _ _ => ⟨rfl, rfl⟩)
theorem gbt0 : gbt [] 0 := ⟨by decide, fun i => by simp⟩
theorem c_search7 (d : Nat) (hM : pm_ok M) (hw : cf_wf c) (hc : CC c M) (h10 : ∀ t, t ∈ m → t < 10) (hl12 : m.length ≤ 12) {o : Nat} (ho : pm_rw o = true) (ho2 : 40 < o) (hr : pm_Ro M o (m.map nI)) :
    ∃ M', pm_call (d + 14) 76 [.ref 33, .ref o] M (some (.int (nI (AS (fun _ _ => false) (vl c m) (cf_n c) (cf_n c) [] (cf_rm c + 1, [])).1))) M' ∧ pm_S s33 (sR M 33 4 (some o)) M' ∧ ((AS (fun _ _ => false) (vl c m) (cf_n c) (cf_n c) [] (cf_rm c + 1, [])).1 ≤ cf_rm c → pm_Ro M' 39 ((AS (fun _ _ => false) (vl c m) (cf_n c) (cf_n c) [] (cf_rm c + 1, [])).2.map nI)) := by
  have hn := hw.1
  have hrm := rm99 hw
  have hM0 := ok_sR hM (o := 33) (x := 4) (Or.inl ⟨rfl, rfl⟩) (some o)
  have hM1 : pm_ok (sI (sR M 33 4 (some o)) 33 5 (bi (m.map nI) (m.map nI).length)) := hM0
  have hM2 : pm_ok (sI (sI (sR M 33 4 (some o)) 33 5 (bi (m.map nI) (m.map nI).length)) 33 6 (nI (cf_rm c + 1))) := hM0
  have hM3 : pm_ok (sI (sI (sI (sR M 33 4 (some o)) 33 5 (bi (m.map nI) (m.map nI).length)) 33 6 (nI (cf_rm c + 1))) 35 1 0) := hM0
  have sAll : pm_S (fun k => k = 33 ∨ k = 35) (sR M 33 4 (some o)) (sI (sI (sI (sR M 33 4 (some o)) 33 5 (bi (m.map nI) (m.map nI).length)) 33 6 (nI (cf_rm c + 1))) 35 1 0) := ((pm_S.rf.sI (Or.inl rfl) _ _).sI (Or.inl rfl) _ _).sI (Or.inr rfl) _ _
  have hc0 : CC c (sR M 33 4 (some o)) := hc
  have hr0 : pm_Ro (sR M 33 4 (some o)) o (m.map nI) := hr
  have h0 : SW c m o [] (cf_rm c + 1, []) (sI (sI (sI (sR M 33 4 (some o)) 33 5 (bi (m.map nI) (m.map nI).length)) 33 6 (nI (cf_rm c + 1))) 35 1 0) := by
    refine ⟨hc0.kept sAll (fun k _ _ => by show ¬ (_ ∨ _); omega), ro_clear _ _, fun i hi => by simp at hi, ?_, ?_, fun z => by dsimp only at z; omega, ?_, hr0.kept sAll (by show ¬ (_ ∨ _); omega) (by show ¬ (_ ∨ _); omega)⟩
    · rw [gI_ne (Or.inl (by decide)), gI_ne (Or.inr (by decide)), gI_same, map_len]
    · rw [gI_ne (Or.inl (by decide)), gI_same]
    · rw [gR_sI, gR_sI, gR_sI, gR_sR, if_pos ⟨rfl, rfl⟩]
  obtain ⟨M4, hc4, h4, s4⟩ := c_assign hw h10 hl12 ho ho2 (d + 13 - 6 - cf_n c) (cf_n c) [] 0 (cf_rm c + 1, []) _ hM3 (by simp) ⟨fun x hx => absurd hx List.not_mem_nil, List.nodup_nil⟩ gbt0 (by show cf_rm c + 1 ≤ 1000; omega) h0
  rw [show d + 13 - 6 - cf_n c + 6 + cf_n c = d + 13 by omega] at hc4
  rw [AS_sgn] at h4
  have hM4 := s4.ok hM3
  refine ⟨M4, en_76 (Nat.le_of_ble_eq_true rfl) ?_, (sAll.mo (fun k hk => by rcases hk with z | z <;> (show _ ∧ _; omega))).tr s4, h4.2.2.2.2.2.1⟩
  have hcr : CC c (sI (sR M 33 4 (some o)) 33 5 (bi (m.map nI) (m.map nI).length)) := hc0.kept (S := fun k => k = 33) (pm_S.sI (S := fun k => k = 33) pm_S.rf rfl _ _) (fun k _ _ => by show ¬ k = 33; omega)
  refine st_ald rfl rfl ?_
  refine st_ald rfl rfl ?_
  refine st_pR rfl (by first | exact tT hM rfl | assumption | exact rw_T hM (by assumption) | exact rw_A hM (by assumption)) ?_
  -- at 5: stop
  refine st_ald rfl rfl ?_
  refine st_ald rfl rfl ?_
  refine st_cav (As := []) rfl rfl rfl (rw_T hM0 ho) (Nat.le_of_ble_eq_true rfl) (c_bits (d + 12) hM0 ho hr0) ?_
  -- at 10: stop
  refine st_pI rfl (by first | exact tT hM0 rfl | assumption | exact rw_T hM0 (by assumption) | exact rw_A hM0 (by assumption)) ?_
  -- at 13: stop
  refine st_ald rfl rfl ?_
  refine st_ald rfl rfl ?_
  refine st_gR' rfl (by first | exact tT hM1 rfl | assumption | exact rw_T hM1 (by assumption) | exact rw_A hM1 (by assumption)) (by first | exact rR hM1 rfl rfl | assumption | exact rw_R hM1 (by assumption)) ?_
  refine st_cav (As := []) rfl rfl rfl (by first | exact tT hM1 rfl | assumption | exact rw_T hM1 (by assumption) | exact rw_A hM1 (by assumption)) (Nat.le_of_ble_eq_true rfl) (c_room (d + 12) hM1 hw hcr) ?_
  refine st_k rfl ?_
  refine st_ib rfl ?_
  -- at 23: stop
  rw [nI_1]
  refine st_pI rfl (by first | exact tT hM1 rfl | assumption | exact rw_T hM1 (by assumption) | exact rw_A hM1 (by assumption)) ?_
  -- at 26: stop
  refine st_ald rfl rfl ?_
  refine st_gR' rfl (by first | exact tT hM2 rfl | assumption | exact rw_T hM2 (by assumption) | exact rw_A hM2 (by assumption)) (by first | exact rR hM2 rfl rfl | assumption | exact rw_R hM2 (by assumption)) ?_
  refine st_cav (As := []) rfl rfl rfl (by first | exact tT hM2 rfl | assumption | exact rw_T hM2 (by assumption) | exact rw_A hM2 (by assumption)) (Nat.le_of_ble_eq_true rfl) (c_clear (d + 12) hM2 ro35) ?_
  -- at 33: stop
  refine st_ald rfl rfl ?_
  refine st_k rfl ?_
  refine st_k rfl ?_
  refine st_cav (As := [_, _]) rfl rfl rfl (by first | exact tT hM3 rfl | assumption | exact rw_T hM3 (by assumption) | exact rw_A hM3 (by assumption)) (Nat.le_of_ble_eq_true rfl) (hc4) ?_
  -- at 39: stop
  refine st_ald rfl rfl ?_
  refine st_gI rfl (by first | exact tT hM4 rfl | assumption | exact rw_T hM4 (by assumption) | exact rw_A hM4 (by assumption)) ?_
  -- at 43: stop
  refine wp_e h4.2.2.2.2.1 ?_
  exact st_iret rfl ⟨rfl, rfl⟩
theorem MC.mc0 (h : MC c M) : MC0 c M := ⟨h.1, fun k hk => ⟨(h.2.1 k hk).1, (h.2.1 k hk).2.1, (h.2.1 k hk).2.2.2⟩, h.2.2⟩
theorem b_signs (ha : aw a) (r t : Int32) : Both a 119 241 [.int r, .int t] := by
  have hw := ha.1
  have hn := hw.1
  have hrm := rm99 hw
  rcases r_cs r with ⟨h1, h2⟩ | ⟨j, hj, hr, h1, h2⟩
  · refine bo_k (x := .int (-1)) ha (fun d M h => ?_) (fun d M h => ?_)
    · refine en_119 (Nat.le_of_ble_eq_true rfl) ?_
      have hM := h.1
      refine st_ald rfl rfl ?_
      refine st_ild rfl rfl ?_
      refine st_ild rfl rfl ?_
      refine st_ild rfl rfl ?_
      refine st_cav (As := [_, _, _]) rfl rfl rfl (by first | exact tT hM rfl | assumption | exact rw_T hM (by assumption) | exact rw_A hM (by assumption)) (Nat.le_of_ble_eq_true rfl) (c_mess (d + 16) h _ _ _ (c_rowsBad (d + 16) _ _ _ _ _ (fun z => h1 z.1)) ⟨_, rfl⟩) ?_
      refine st_ist rfl ?_
      refine st_ild rfl rfl ?_
      refine st_b1 rfl (fun zq => absurd zq ((by decide))) (fun _ => ?_)
      refine st_ild rfl rfl ?_
      -- at 13: op_iret
      exact st_iret rfl ⟨rfl, rfl⟩
    · refine en_241 (Nat.le_of_ble_eq_true rfl) ?_
      refine st_ild rfl rfl ?_
      refine st_call (As := [_]) rfl rfl rfl (Nat.le_of_ble_eq_true rfl) (m_isRow (d + 17) r) ?_
      refine st_b1 rfl (fun _ => ?_) (fun zq => absurd (b01_f h2) zq)
      refine st_k rfl ?_
      -- at 15: op_iret
      exact st_iret rfl ⟨rfl, rfl⟩
  rcases r_cs t with ⟨k1, k2⟩ | ⟨u, hu, ht, k1, k2⟩
  · refine bo_k (x := .int (-1)) ha (fun d M h => ?_) (fun d M h => ?_)
    · refine en_119 (Nat.le_of_ble_eq_true rfl) ?_
      have hM := h.1
      refine st_ald rfl rfl ?_
      refine st_ild rfl rfl ?_
      refine st_ild rfl rfl ?_
      refine st_ild rfl rfl ?_
      refine st_cav (As := [_, _, _]) rfl rfl rfl (by first | exact tT hM rfl | assumption | exact rw_T hM (by assumption) | exact rw_A hM (by assumption)) (Nat.le_of_ble_eq_true rfl) (c_mess (d + 16) h _ _ _ (c_rowsBad (d + 16) _ _ _ _ _ (fun z => k1 z.2.2)) ⟨_, rfl⟩) ?_
      refine st_ist rfl ?_
      refine st_ild rfl rfl ?_
      refine st_b1 rfl (fun zq => absurd zq ((by decide))) (fun _ => ?_)
      refine st_ild rfl rfl ?_
      -- at 13: op_iret
      exact st_iret rfl ⟨rfl, rfl⟩
    · refine en_241 (Nat.le_of_ble_eq_true rfl) ?_
      refine st_ild rfl rfl ?_
      refine st_call (As := [_]) rfl rfl rfl (Nat.le_of_ble_eq_true rfl) (m_isRow (d + 17) _) ?_
      refine st_b1 rfl (fun zq => absurd zq (b01_t h2)) (fun _ => ?_)
      refine st_ild rfl rfl ?_
      refine st_call (As := [_]) rfl rfl rfl (Nat.le_of_ble_eq_true rfl) (m_isRow (d + 17) t) ?_
      refine st_b1 rfl (fun zq => absurd zq ((fun z => z (b01_f k2)))) (fun _ => ?_)
      refine st_k rfl ?_
      -- at 15: op_iret
      exact st_iret rfl ⟨rfl, rfl⟩
  subst ht
  subst hr
  have hin : vp_in (nI j) 6 := vp_in_nI hj (by decide)
  have hinu : vp_in (nI u) 6 := vp_in_nI hu (by decide)
  rcases row_cs (a := a) j 12 10 (by decide) with hx | ⟨l, hx, hlen⟩ | ⟨l, hx, hlen, hno⟩ | ⟨m, hx, hk, hlen⟩
  · refine bo_f ha (f := 1) (by decide) (fun d M h => ?_) (fun d M h => ?_)
    · refine en_119 (Nat.le_of_ble_eq_true rfl) ?_
      have hM := h.1
      refine st_ald rfl rfl ?_
      refine st_ild rfl rfl ?_
      refine st_ild rfl rfl ?_
      refine st_ild rfl rfl ?_
      refine st_cav (As := [_, _, _]) rfl rfl rfl (by first | exact tT hM rfl | assumption | exact rw_T hM (by assumption) | exact rw_A hM (by assumption)) (Nat.le_of_ble_eq_true rfl) (cmN (d + 16) h hj hu hx) ?_
      refine st_ist rfl ?_
      refine st_ild rfl rfl ?_
      refine st_b1 rfl (fun zq => absurd zq ((by decide))) (fun _ => ?_)
      refine st_ild rfl rfl ?_
      -- at 13: op_iret
      exact st_iret rfl ⟨rfl, rfl⟩
    · refine en_241 (Nat.le_of_ble_eq_true rfl) ?_
      have hM := h.1
      refine st_ild rfl rfl ?_
      refine st_call (As := [_]) rfl rfl rfl (Nat.le_of_ble_eq_true rfl) (m_isRow (d + 17) _) ?_
      refine st_b1 rfl (fun zq => absurd zq (b01_t h2)) (fun _ => ?_)
      refine st_ild rfl rfl ?_
      refine st_call (As := [_]) rfl rfl rfl (Nat.le_of_ble_eq_true rfl) (m_isRow (d + 17) _) ?_
      refine st_b1 rfl (fun _ => ?_) (fun zq => absurd (b01_t k2) zq)
      refine st_ald rfl rfl ?_
      refine st_ild rfl rfl ?_
      refine st_cav (As := [_]) rfl rfl rfl (by first | exact tT hM rfl | assumption | exact rw_T hM (by assumption) | exact rw_A hM (by assumption)) (Nat.le_of_ble_eq_true rfl) (mqN (d + 16) h hj hx) ?_
      refine st_ist rfl ?_
      refine st_ild rfl rfl ?_
      refine st_b1 rfl (fun zq => absurd zq ((by decide))) (fun _ => ?_)
      refine st_ild rfl rfl ?_
      -- at 27: op_iret
      exact st_iret rfl ⟨rfl, rfl⟩
  · refine bo_f ha (f := 5) (by decide) (fun d M h => ?_) (fun d M h => ?_)
    · refine en_119 (Nat.le_of_ble_eq_true rfl) ?_
      have hM := h.1
      refine st_ald rfl rfl ?_
      refine st_ild rfl rfl ?_
      refine st_ild rfl rfl ?_
      refine st_ild rfl rfl ?_
      refine st_cav (As := [_, _, _]) rfl rfl rfl (by first | exact tT hM rfl | assumption | exact rw_T hM (by assumption) | exact rw_A hM (by assumption)) (Nat.le_of_ble_eq_true rfl) (cmL (d + 16) h hj hu hx hlen) ?_
      refine st_ist rfl ?_
      refine st_ild rfl rfl ?_
      refine st_b1 rfl (fun zq => absurd zq ((by decide))) (fun _ => ?_)
      refine st_ild rfl rfl ?_
      -- at 13: op_iret
      exact st_iret rfl ⟨rfl, rfl⟩
    · refine en_241 (Nat.le_of_ble_eq_true rfl) ?_
      have hM := h.1
      refine st_ild rfl rfl ?_
      refine st_call (As := [_]) rfl rfl rfl (Nat.le_of_ble_eq_true rfl) (m_isRow (d + 17) _) ?_
      refine st_b1 rfl (fun zq => absurd zq (b01_t h2)) (fun _ => ?_)
      refine st_ild rfl rfl ?_
      refine st_call (As := [_]) rfl rfl rfl (Nat.le_of_ble_eq_true rfl) (m_isRow (d + 17) _) ?_
      refine st_b1 rfl (fun _ => ?_) (fun zq => absurd (b01_t k2) zq)
      refine st_ald rfl rfl ?_
      refine st_ild rfl rfl ?_
      refine st_cav (As := [_]) rfl rfl rfl (by first | exact tT hM rfl | assumption | exact rw_T hM (by assumption) | exact rw_A hM (by assumption)) (Nat.le_of_ble_eq_true rfl) (mqL (d + 16) h hj hx hlen) ?_
      refine st_ist rfl ?_
      refine st_ild rfl rfl ?_
      refine st_b1 rfl (fun zq => absurd zq ((by decide))) (fun _ => ?_)
      refine st_ild rfl rfl ?_
      -- at 27: op_iret
      exact st_iret rfl ⟨rfl, rfl⟩
  · refine bo_f ha (f := 3) (by decide) (fun d M h => ?_) (fun d M h => ?_)
    · refine en_119 (Nat.le_of_ble_eq_true rfl) ?_
      have hM := h.1
      refine st_ald rfl rfl ?_
      refine st_ild rfl rfl ?_
      refine st_ild rfl rfl ?_
      refine st_ild rfl rfl ?_
      refine st_cav (As := [_, _, _]) rfl rfl rfl (by first | exact tT hM rfl | assumption | exact rw_T hM (by assumption) | exact rw_A hM (by assumption)) (Nat.le_of_ble_eq_true rfl) (cmU (d + 16) h hj hu hx hlen hno) ?_
      refine st_ist rfl ?_
      refine st_ild rfl rfl ?_
      refine st_b1 rfl (fun zq => absurd zq ((by decide))) (fun _ => ?_)
      refine st_ild rfl rfl ?_
      -- at 13: op_iret
      exact st_iret rfl ⟨rfl, rfl⟩
    · refine en_241 (Nat.le_of_ble_eq_true rfl) ?_
      have hM := h.1
      refine st_ild rfl rfl ?_
      refine st_call (As := [_]) rfl rfl rfl (Nat.le_of_ble_eq_true rfl) (m_isRow (d + 17) _) ?_
      refine st_b1 rfl (fun zq => absurd zq (b01_t h2)) (fun _ => ?_)
      refine st_ild rfl rfl ?_
      refine st_call (As := [_]) rfl rfl rfl (Nat.le_of_ble_eq_true rfl) (m_isRow (d + 17) _) ?_
      refine st_b1 rfl (fun _ => ?_) (fun zq => absurd (b01_t k2) zq)
      refine st_ald rfl rfl ?_
      refine st_ild rfl rfl ?_
      refine st_cav (As := [_]) rfl rfl rfl (by first | exact tT hM rfl | assumption | exact rw_T hM (by assumption) | exact rw_A hM (by assumption)) (Nat.le_of_ble_eq_true rfl) (mqU (d + 16) h hj hx hlen hno) ?_
      refine st_ist rfl ?_
      refine st_ild rfl rfl ?_
      refine st_b1 rfl (fun zq => absurd zq ((by decide))) (fun _ => ?_)
      refine st_ild rfl rfl ?_
      -- at 27: op_iret
      exact st_iret rfl ⟨rfl, rfl⟩
  have hou := rw_row u hu
  have ho := rw_row j hj
  generalize hB : AS (fun _ _ => false) (vl (aC a) m) (cf_n (aC a)) (cf_n (aC a)) [] (cf_rm (aC a) + 1, []) = B
  have hB1 : B.1 ≤ cf_rm (aC a) + 1 := by rw [← hB]; exact AS_mono _ _ _
  have cpre : ∀ d M (h : IC a M), ∃ M1, IC a M1 ∧ Cfr M M1 ∧ (B.1 ≤ cf_rm (aC a) → pm_Ro M1 39 (B.2.map nI)) ∧ ∀ Q : Option Value → pm_M → Prop, pm_WP (pm_call (d + 19)) tb_119 Q 38 [some (.ref 0), some (.int (nI j)), some (.int (nI u)), some (.int 0), some (.int (nI B.1))] [.int (nI (cf_rm (aC a))), .int (nI B.1)] M1 → pm_WP (pm_call (d + 19)) tb_119 Q 0 (pm_init 5 [.ref 0, .int (nI j), .int (nI u)]) [] M := by
    intro d M h
    have hM := h.1
    have hr0 : pm_Ro M (106 + 2 * j) (m.map nI) := by have := h.2.1 j hj; rw [hx] at this; exact this
    obtain ⟨M1, hc1, s1, r1⟩ := c_search7 (d + 5) hM hw h.2.2.2.1 hk hlen ho (by omega) hr0
    rw [hB] at hc1 r1
    have hI := (h.ref (o := 33) (x := 4) (Or.inl ⟨rfl, rfl⟩) (some (106 + 2 * j))).S s1 (fun k hk => Or.inl (by omega))
    have hM1 := hI.1
    have hcf : Cfr M M1 := fun k hk i => s1.2.2 k (by show ¬ (_ ∧ _); omega) i
    refine ⟨M1, hI, hcf, r1, fun Q hQ => ?_⟩
    refine st_ald rfl rfl ?_
    refine st_ild rfl rfl ?_
    refine st_ild rfl rfl ?_
    refine st_ild rfl rfl ?_
    refine st_cav (As := [_, _, _]) rfl rfl rfl (by first | exact tT hM rfl | assumption | exact rw_T hM (by assumption) | exact rw_A hM (by assumption)) (Nat.le_of_ble_eq_true rfl) (cmO (d + 16) h hj hu hx hk hlen) ?_
    refine st_ist rfl ?_
    refine st_ild rfl rfl ?_
    refine st_b1 rfl (fun _ => ?_) (fun zq => absurd (rfl) zq)
    refine st_ald rfl rfl ?_
    refine st_gR' rfl (by first | exact tT hM rfl | assumption | exact rw_T hM (by assumption) | exact rw_A hM (by assumption)) (by first | exact rR hM rfl rfl | assumption | exact rw_R hM (by assumption)) ?_
    refine st_ald rfl rfl ?_
    refine st_gR' rfl (by first | exact tT hM rfl | assumption | exact rw_T hM (by assumption) | exact rw_A hM (by assumption)) (by first | exact rR hM rfl rfl | assumption | exact rw_R hM (by assumption)) ?_
    refine st_ild rfl rfl ?_
    refine st_aald' rfl (by first | exact tT hM rfl | assumption | exact rw_T hM (by assumption) | exact rw_A hM (by assumption)) (by first | decide | assumption | exact vp_in_nI (by omega) (by decide)) (by first | assumption | exact rRow' hM (by assumption) | exact rTxt' hM (by assumption) | exact rKep' hM (by assumption) | exact rRdg' hM (by assumption)) ?_
    refine st_cav (As := [_]) rfl rfl rfl (by first | exact tT hM rfl | assumption | exact rw_T hM (by assumption) | exact rw_A hM (by assumption)) (Nat.le_of_ble_eq_true rfl) (hc1) ?_
    -- at 27: stop
    refine st_ist rfl ?_
    refine st_ild rfl rfl ?_
    refine st_ald rfl rfl ?_
    refine st_gR' rfl (by first | exact tT hM1 rfl | assumption | exact rw_T hM1 (by assumption) | exact rw_A hM1 (by assumption)) (by first | exact rR hM1 rfl rfl | assumption | exact rw_R hM1 (by assumption)) ?_
    refine st_cav (As := []) rfl rfl rfl (by first | exact tT hM1 rfl | assumption | exact rw_T hM1 (by assumption) | exact rw_A hM1 (by assumption)) (Nat.le_of_ble_eq_true rfl) (c_room (d + 18) hM1 hw hI.2.2.2.1) ?_
    -- at 38: stop
    exact hQ
  have mpre : ∀ d M (h : IM a M), ∃ M1, IM a M1 ∧ Mfr M M1 ∧ RB (aC a) B M1 ∧ ∀ Q : Option Value → pm_M → Prop, (∀ l4, pm_WP (pm_call (d + 19)) tb_241 Q 103 [some (.ref 132), some (.int (nI j)), some (.int (nI u)), some (.int 0), l4] [] M1) → pm_WP (pm_call (d + 19)) tb_241 Q 0 (pm_init 5 [.ref 132, .int (nI j), .int (nI u)]) [] M := by
    intro d M h
    have hM := h.1
    obtain ⟨M1, hc1, p1, s1⟩ := mqO (d + 16) h hj hx hk hlen
    have hI := h.sc s1
    have hM1 := hI.1
    have hmc := hI.2.2.2.1
    -- own signs
    have main : ∃ M5, IM a M5 ∧ Mfr M1 M5 ∧ RB (aC a) B M5 ∧ ∀ Q : Option Value → pm_M → Prop, (∀ l4, pm_WP (pm_call (d + 19)) tb_241 Q 103 [some (.ref 132), some (.int (nI j)), some (.int (nI u)), some (.int 0), l4] [] M5) → pm_WP (pm_call (d + 19)) tb_241 Q 28 [some (.ref 132), some (.int (nI j)), some (.int (nI u)), some (.int 0), none] [] M1 := by
      have w1 : ∃ M2, Msc M1 M2 ∧ MM m M2 ∧ (∀ i, i < cf_n (aC a) → gI M2 159 i = nI (cf_sg (aC a) i)) ∧ ∀ Q : Option Value → pm_M → Prop, (∀ l4, pm_WP (pm_call (d + 19)) tb_241 Q 60 [some (.ref 132), some (.int (nI j)), some (.int (nI u)), some (.int 0), l4] [] M2) → pm_WP (pm_call (d + 19)) tb_241 Q 28 [some (.ref 132), some (.int (nI j)), some (.int (nI u)), some (.int 0), none] [] M1 := by
        refine ⟨(wI M1 159 (cf_n (aC a)) (fun q => nI (cf_sg (aC a) q))), ⟨rfl, fun _ _ => rfl, fun k i hk => ⟨gI_wn i (by omega), rfl⟩⟩, ⟨(gI_wn _ (by decide)).trans p1.1, p1.2.1, fun i hi => (gI_wn _ (by decide)).trans (p1.2.2.1 i hi), p1.2.2.2⟩, fun i hi => gI_w1 hi, fun Q hQ => ?_⟩
        refine st_k rfl ?_
        refine st_ist rfl ?_
        -- at 31: stop
        refine wp_for (cf_n (aC a)) (fun i L M2 => ∃ x, x = nI i ∧ L = [some (.ref 132), some (.int (nI j)), some (.int (nI u)), some (.int 0), some (.int x)] ∧ M2 = (wI M1 159 i (fun q => nI (cf_sg (aC a) q)))) ?_ ?_ 0 _ _ (Nat.zero_le _) ⟨_, rfl, rfl, ?_⟩
        · rintro i L M2 hi ⟨x, rfl, rfl, rfl⟩ ih
          have hM2 : pm_ok (wI M1 159 i (fun q => nI (cf_sg (aC a) q))) := hM1
          have hin6 : vp_in (nI i) 6 := vp_in_nI (by omega) (by decide)
          refine st_ild rfl rfl ?_
          refine st_ald rfl rfl ?_
          refine st_gI rfl (by first | exact tT hM2 rfl | assumption | exact rw_T hM2 (by assumption) | exact rw_A hM2 (by assumption)) ?_
          -- at 37: stop
          refine wp_e (y := nI (cf_n (aC a))) ((gI_wn _ (by decide)).trans hmc.1.2.2.1) ?_
          refine st_b2 rfl (fun zq => absurd zq (nI_ge hi (by omega))) (fun _ => ?_)
          refine st_ald rfl rfl ?_
          refine st_gR' rfl (by first | exact tT hM2 rfl | assumption | exact rw_T hM2 (by assumption) | exact rw_A hM2 (by assumption)) (by first | exact rR hM2 rfl rfl | assumption | exact rw_R hM2 (by assumption)) ?_
          refine st_ild rfl rfl ?_
          refine st_ald rfl rfl ?_
          refine st_gR' rfl (by first | exact tT hM2 rfl | assumption | exact rw_T hM2 (by assumption) | exact rw_A hM2 (by assumption)) (by first | exact rR hM2 rfl rfl | assumption | exact rw_R hM2 (by assumption)) ?_
          refine st_ild rfl rfl ?_
          refine st_iald rfl (by first | exact tT hM2 rfl | assumption | exact rw_T hM2 (by assumption) | exact rw_A hM2 (by assumption)) (by first | decide | assumption | exact vp_in_nI (by omega) (by decide)) ?_
          -- at 53: stop
          refine wp_e (y := nI (cf_sg (aC a) i)) (by rw [nI_clamp (by omega)]; exact (gI_wn _ (by decide)).trans (hmc.2.1 i hi).2.2.1) ?_
          refine st_iast rfl (by first | exact tT hM2 rfl | assumption | exact rw_T hM2 (by assumption) | exact rw_A hM2 (by assumption)) (by first | decide | assumption | exact vp_in_nI (by omega) (by decide)) ?_
          refine st_inc rfl rfl ?_
          refine st_go rfl ?_
          -- at 31: stop
          rw [nI_clamp (by omega)]
          exact ih _ _ ⟨_, nI_1 i, rfl, wI_s _ _ _ _⟩
        · rintro L M2 ⟨x, rfl, rfl, rfl⟩
          have hM2 : pm_ok (wI M1 159 (cf_n (aC a)) (fun q => nI (cf_sg (aC a) q))) := hM1
          refine st_ild rfl rfl ?_
          refine st_ald rfl rfl ?_
          refine st_gI rfl (by first | exact tT hM2 rfl | assumption | exact rw_T hM2 (by assumption) | exact rw_A hM2 (by assumption)) ?_
          -- at 37: stop
          refine wp_e (y := nI (cf_n (aC a))) ((gI_wn _ (by decide)).trans hmc.1.2.2.1) ?_
          refine st_b2 rfl (fun _ => ?_) (fun zq => absurd (nI_le (Nat.le_refl _) (by omega)) zq)
          -- at 60: stop
          exact hQ _
        · exact (wI_0 _ _ _).symm
      obtain ⟨M2, s2, p2, g2, pre2⟩ := w1
      have hI2 := hI.sc s2
      have hM2 := hI2.1
      have s3 : Msc M2 (sI M2 132 48 (-1)) := (Msc.rf M2).sI _ (by omega)
      have hI3 := hI2.sc s3
      have hM3 := hI3.1
      have h3 : RW (aC a) m [] (cf_rm (aC a) + 1, []) (sI M2 132 48 (-1)) := ⟨hI3.2.2.2.1.mc0, ⟨by rw [gI_ne (Or.inr (by decide))]; exact p2.1, p2.2.1, fun i hi => by rw [gI_ne (Or.inl (by decide))]; exact p2.2.2.1 i hi, p2.2.2.2⟩, fun i hi => by rw [gI_ne (Or.inl (by decide))]; exact g2 i hi, fun i hi => by simp at hi, Or.inr ⟨rfl, gI_same _ _ _ _⟩⟩
      obtain ⟨M4, hc4, h4, f4⟩ := m_laySigns hw (d + 14 - cf_n (aC a)) (cf_n (aC a)) [] 0 (cf_rm (aC a) + 1, []) _ hM3 (by simp) ⟨fun x hx => absurd hx List.not_mem_nil, List.nodup_nil⟩ gbt0 h3
      rw [show d + 14 - cf_n (aC a) + 5 + cf_n (aC a) = d + 19 by omega] at hc4
      rw [hB] at h4
      have hM4 := f4.ok hM3
      have f5 : ∀ i, i ≤ cf_n (aC a) → pm_ok (wI M4 141 i (fun q => nI (cf_sg (aC a) q))) := fun i _ => hM4
      refine ⟨(wI M4 141 (cf_n (aC a)) (fun q => nI (cf_sg (aC a) q))), ?_, ?_, ?_, fun Q hQ => pre2 Q (fun l4 => ?_)⟩
      · refine hI3.sc ⟨f4.1, f4.2.1, fun k i hk => ⟨?_, ?_⟩⟩
        · show (if k = 141 ∧ i < cf_n (aC a) then nI (cf_sg (aC a) i) else gI M4 k i) = _
          by_cases z : k = 141 ∧ i < cf_n (aC a)
          · rw [if_pos z, z.1]
            exact ((hI3.2.2.2.1.2.1 i z.2).2.2.1).symm
          · rw [if_neg z, f4.i k i (by omega)]
        · exact f4.2.2.2 k i (by omega)
      · have e1 : Mfr M1 (sI M2 132 48 (-1)) := (s2.tr s3).fr
        refine e1.tr (fun k hk i => ⟨?_, f4.2.2.2 k i (by omega)⟩)
        show (if k = 141 ∧ i < cf_n (aC a) then nI (cf_sg (aC a) i) else gI M4 k i) = _
        rw [if_neg (fun z => by omega), f4.i k i (by omega)]
      · have hb := h4.2.2.2.2
        unfold RB at hb ⊢
        have q1 : gI (wI M4 141 (cf_n (aC a)) (fun q => nI (cf_sg (aC a) q))) 132 48 = gI M4 132 48 := gI_wn _ (by decide)
        have q2 : ∀ i, gI (wI M4 141 (cf_n (aC a)) (fun q => nI (cf_sg (aC a) q))) 161 i = gI M4 161 i := fun i => gI_wn _ (by decide)
        rw [q1]
        simp only [q2]
        exact hb
      · refine st_ald rfl rfl ?_
        refine st_k rfl ?_
        refine st_pI rfl (by first | exact tT hM2 rfl | assumption | exact rw_T hM2 (by assumption) | exact rw_A hM2 (by assumption)) ?_
        -- at 65: stop
        refine st_ald rfl rfl ?_
        refine st_k rfl ?_
        refine st_k rfl ?_
        refine st_cav (As := [_, _]) rfl rfl rfl (by first | exact tT hM3 rfl | assumption | exact rw_T hM3 (by assumption) | exact rw_A hM3 (by assumption)) (Nat.le_of_ble_eq_true rfl) (hc4) ?_
        -- at 71: stop
        refine st_k rfl ?_
        refine st_ist rfl ?_
        -- at 74: stop
        refine wp_for (cf_n (aC a)) (fun i L M5 => ∃ x, x = nI i ∧ L = [some (.ref 132), some (.int (nI j)), some (.int (nI u)), some (.int 0), some (.int x)] ∧ M5 = (wI M4 141 i (fun q => nI (cf_sg (aC a) q)))) ?_ ?_ 0 _ _ (Nat.zero_le _) ⟨_, rfl, rfl, ?_⟩
        · rintro i L M5 hi ⟨x, rfl, rfl, rfl⟩ ih
          have hM5 := f5 i (by omega)
          have hin6 : vp_in (nI i) 6 := vp_in_nI (by omega) (by decide)
          refine st_ild rfl rfl ?_
          refine st_ald rfl rfl ?_
          refine st_gI rfl (by first | exact tT hM5 rfl | assumption | exact rw_T hM5 (by assumption) | exact rw_A hM5 (by assumption)) ?_
          -- at 80: stop
          refine wp_e (y := nI (cf_n (aC a))) ((gI_wn _ (by decide)).trans h4.1.1.2.2.1) ?_
          refine st_b2 rfl (fun zq => absurd zq (nI_ge hi (by omega))) (fun _ => ?_)
          refine st_ald rfl rfl ?_
          refine st_gR' rfl (by first | exact tT hM5 rfl | assumption | exact rw_T hM5 (by assumption) | exact rw_A hM5 (by assumption)) (by first | exact rR hM5 rfl rfl | assumption | exact rw_R hM5 (by assumption)) ?_
          refine st_ild rfl rfl ?_
          refine st_ald rfl rfl ?_
          refine st_gR' rfl (by first | exact tT hM5 rfl | assumption | exact rw_T hM5 (by assumption) | exact rw_A hM5 (by assumption)) (by first | exact rR hM5 rfl rfl | assumption | exact rw_R hM5 (by assumption)) ?_
          refine st_ild rfl rfl ?_
          refine st_iald rfl (by first | exact tT hM5 rfl | assumption | exact rw_T hM5 (by assumption) | exact rw_A hM5 (by assumption)) (by first | decide | assumption | exact vp_in_nI (by omega) (by decide)) ?_
          -- at 96: stop
          refine wp_e (y := nI (cf_sg (aC a) i)) (by rw [nI_clamp (by omega)]; exact (gI_wn _ (by decide)).trans (h4.2.2.1 i hi)) ?_
          refine st_iast rfl (by first | exact tT hM5 rfl | assumption | exact rw_T hM5 (by assumption) | exact rw_A hM5 (by assumption)) (by first | decide | assumption | exact vp_in_nI (by omega) (by decide)) ?_
          refine st_inc rfl rfl ?_
          refine st_go rfl ?_
          -- at 74: stop
          rw [nI_clamp (by omega)]
          exact ih _ _ ⟨_, nI_1 i, rfl, wI_s _ _ _ _⟩
        · rintro L M5 ⟨x, rfl, rfl, rfl⟩
          have hM5 := f5 _ (Nat.le_refl _)
          refine st_ild rfl rfl ?_
          refine st_ald rfl rfl ?_
          refine st_gI rfl (by first | exact tT hM5 rfl | assumption | exact rw_T hM5 (by assumption) | exact rw_A hM5 (by assumption)) ?_
          -- at 80: stop
          refine wp_e (y := nI (cf_n (aC a))) ((gI_wn _ (by decide)).trans h4.1.1.2.2.1) ?_
          refine st_b2 rfl (fun _ => ?_) (fun zq => absurd (nI_le (Nat.le_refl _) (by omega)) zq)
          -- at 103: stop
          exact hQ _
        · exact (wI_0 _ _ _).symm
    obtain ⟨M5, q1, q2, q3, q4⟩ := main
    refine ⟨M5, q1, s1.fr.tr q2, q3, fun Q hQ => ?_⟩
    refine st_ild rfl rfl ?_
    refine st_call (As := [_]) rfl rfl rfl (Nat.le_of_ble_eq_true rfl) (m_isRow (d + 17) _) ?_
    refine st_b1 rfl (fun zq => absurd zq (b01_t h2)) (fun _ => ?_)
    refine st_ild rfl rfl ?_
    refine st_call (As := [_]) rfl rfl rfl (Nat.le_of_ble_eq_true rfl) (m_isRow (d + 17) _) ?_
    refine st_b1 rfl (fun _ => ?_) (fun zq => absurd (b01_t k2) zq)
    refine st_ald rfl rfl ?_
    refine st_ild rfl rfl ?_
    refine st_cav (As := [_]) rfl rfl rfl (by first | exact tT hM rfl | assumption | exact rw_T hM (by assumption) | exact rw_A hM (by assumption)) (Nat.le_of_ble_eq_true rfl) (hc1) ?_
    -- at 21: stop
    refine st_ist rfl ?_
    refine st_ild rfl rfl ?_
    refine st_b1 rfl (fun _ => ?_) (fun zq => absurd ((by decide)) zq)
    -- at 28: stop
    exact q4 Q hQ
  by_cases g : B.1 ≤ cf_rm (aC a)
  · have hlenB : B.2.length = cf_n (aC a) ∨ True := Or.inr trivial
    refine ⟨.int (nI B.1), sR' a u (some (B.2.map nI)), ha.row _ _, fun d M h => ?_, fun d M h => ?_⟩
    · obtain ⟨M1, hI, hcf, r1, pre⟩ := cpre d M h
      have hM1 := hI.1
      have r39 := r1 g
      have s2 : pm_S (pm_oo (106 + 2 * u)) M1 (sI (pm_cp M1 (39 + 1) (106 + 2 * u + 1) 0 0 (B.2.map nI).length) (106 + 2 * u) 1 (nI (B.2.map nI).length)) := s_become
      have hI2 := hI.row (x := some (B.2.map nI)) hu s2 (fun k hk => by rcases hk with z | z <;> omega) (ro_become r39)
      refine ⟨_, en_119 (Nat.le_of_ble_eq_true rfl) (pre _ ?_), hI2, hcf.tr (Cfr.S s2 (fun k hk => by rcases hk with z | z <;> omega))⟩
      refine st_b2 rfl (fun _ => ?_) (fun zq => absurd (nI_le g (by omega)) zq)
      refine st_ald rfl rfl ?_
      refine st_gR' rfl (by first | exact tT hM1 rfl | assumption | exact rw_T hM1 (by assumption) | exact rw_A hM1 (by assumption)) (by first | exact rR hM1 rfl rfl | assumption | exact rw_R hM1 (by assumption)) ?_
      refine st_ild rfl rfl ?_
      refine st_aald' rfl (by first | exact tT hM1 rfl | assumption | exact rw_T hM1 (by assumption) | exact rw_A hM1 (by assumption)) (by first | decide | assumption | exact vp_in_nI (by omega) (by decide)) (by first | assumption | exact rRow' hM1 (by assumption) | exact rTxt' hM1 (by assumption) | exact rKep' hM1 (by assumption) | exact rRdg' hM1 (by assumption)) ?_
      refine st_ald rfl rfl ?_
      refine st_gR' rfl (by first | exact tT hM1 rfl | assumption | exact rw_T hM1 (by assumption) | exact rw_A hM1 (by assumption)) (by first | exact rR hM1 rfl rfl | assumption | exact rw_R hM1 (by assumption)) ?_
      refine st_gR' rfl (by first | exact tT hM1 rfl | assumption | exact rw_T hM1 (by assumption) | exact rw_A hM1 (by assumption)) (by first | exact rR hM1 rfl rfl | assumption | exact rw_R hM1 (by assumption)) ?_
      refine st_cav (As := [_]) rfl rfl rfl (rw_T hM1 hou) (Nat.le_of_ble_eq_true rfl) (c_become (d + 18) hM1 hou ro39 (by omega) r39) ?_
      -- at 60: stop
      refine st_ild rfl rfl ?_
      -- at 62: op_iret
      exact st_iret rfl ⟨rfl, rfl⟩
    · obtain ⟨M1, hI, hcf, rb, pre⟩ := mpre d M h
      have hM1 := hI.1
      rcases rb with ⟨z1, z2, z3, z4⟩ | ⟨z1, z2⟩
      · obtain ⟨M4, hc4, h7, h8⟩ := m_layRow (d + 18) hM1 hu (k := 161) (n := 6) (l := B.2.map nI) (tT hM1 rfl) (by decide) (by rw [map_len]; omega) (by rw [map_len]; omega) (fun i hi => by rw [map_len] at hi; rw [z4 i (by omega), map_getD hi])
        rw [map_len, z3] at hc4
        have hI4 := hI.lay h8 h7
        have hM4 := hI4.1
        refine ⟨M4, en_241 (Nat.le_of_ble_eq_true rfl) (pre _ (fun l4 => ?_)), hI4, hcf.tr h8.fr⟩
        refine st_ald rfl rfl ?_
        refine st_gI rfl (by first | exact tT hM1 rfl | assumption | exact rw_T hM1 (by assumption) | exact rw_A hM1 (by assumption)) ?_
        -- at 107: stop
        refine wp_e z2 ?_
        refine st_b1 rfl (fun _ => ?_) (fun zq => absurd (nI_pos' (by omega)) zq)
        refine st_ald rfl rfl ?_
        refine st_ild rfl rfl ?_
        refine st_ald rfl rfl ?_
        refine st_gR' rfl (by first | exact tT hM1 rfl | assumption | exact rw_T hM1 (by assumption) | exact rw_A hM1 (by assumption)) (by first | exact rR hM1 rfl rfl | assumption | exact rw_R hM1 (by assumption)) ?_
        refine st_ald rfl rfl ?_
        refine st_gI rfl (by first | exact tT hM1 rfl | assumption | exact rw_T hM1 (by assumption) | exact rw_A hM1 (by assumption)) ?_
        -- at 123: stop
        refine wp_e hI.2.2.2.1.1.2.2.1 ?_
        refine st_cav (As := [_, _, _]) rfl rfl rfl (by first | exact tT hM1 rfl | assumption | exact rw_T hM1 (by assumption) | exact rw_A hM1 (by assumption)) (Nat.le_of_ble_eq_true rfl) (hc4) ?_
        -- at 126: stop
        refine st_ald rfl rfl ?_
        refine st_gI rfl (by first | exact tT hM4 rfl | assumption | exact rw_T hM4 (by assumption) | exact rw_A hM4 (by assumption)) ?_
        -- at 130: stop
        refine wp_e (y := nI B.1) (by rw [h8.2.2.1 132 48 (by omega) (by omega)]; exact z2) ?_
        exact st_iret rfl ⟨rfl, rfl⟩
      · omega
  · refine ⟨.int (-9), a, ha, fun d M h => ?_, fun d M h => ?_⟩
    · obtain ⟨M1, hI, hcf, r1, pre⟩ := cpre d M h
      refine ⟨M1, en_119 (Nat.le_of_ble_eq_true rfl) (pre _ ?_), hI, hcf⟩
      refine st_b2 rfl (fun zq => absurd zq (nI_ge (by omega) (by omega))) (fun _ => ?_)
      refine st_k rfl ?_
      -- at 43: op_iret
      exact st_iret rfl ⟨rfl, rfl⟩
    · obtain ⟨M1, hI, hcf, rb, pre⟩ := mpre d M h
      have hM1 := hI.1
      rcases rb with ⟨z1, z2, z3, z4⟩ | ⟨z1, z2⟩
      · exact absurd z1 g
      · refine ⟨M1, en_241 (Nat.le_of_ble_eq_true rfl) (pre _ (fun l4 => ?_)), hI, hcf⟩
        refine st_ald rfl rfl ?_
        refine st_gI rfl (by first | exact tT hM1 rfl | assumption | exact rw_T hM1 (by assumption) | exact rw_A hM1 (by assumption)) ?_
        -- at 107: stop
        refine wp_e z2 ?_
        refine st_b1 rfl (fun zq => absurd zq ((by decide))) (fun _ => ?_)
        refine st_k rfl ?_
        -- at 112: op_iret
        exact st_iret rfl ⟨rfl, rfl⟩
end SGB

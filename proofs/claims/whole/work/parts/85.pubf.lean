/-! BOTH ANSWER ALIKE: lent -/
/-- counts and common bits, side by side -/
abbrev Pb : Type := Nat × Int32
def pj (p q : Pb) : Pb := (p.1 + q.1, p.2 &&& q.2)
def pe : Pb := (0, -1)
theorem pj_a (p q r : Pb) : pj (pj p q) r = pj p (pj q r) := by simp only [pj, Nat.add_assoc, Int32.and_assoc]
theorem pj_c (p q : Pb) : pj p q = pj q p := by unfold pj; rw [Nat.add_comm, Int32.and_comm]
theorem pj_e (p : Pb) : pj p pe = p := by
  obtain ⟨n, x⟩ := p
  simp [pj, pe]
theorem pj_e' (p : Pb) : pj pe p = p := by rw [pj_c, pj_e]
def pb (f : Nat → Pb) : Nat → Pb
  | 0 => pe
  | n + 1 => pj (pb f n) (f n)
theorem pb_s (f : Nat → Pb) (n : Nat) : pb f (n + 1) = pj (pb f n) (f n) := rfl
theorem pb_ext {f g : Nat → Pb} : ∀ n, (∀ i, i < n → f i = g i) → pb f n = pb g n
  | 0, _ => rfl
  | n + 1, h => by rw [pb_s, pb_s, pb_ext n (fun i hi => h i (by omega)), h n (by omega)]
theorem pb_add (f g : Nat → Pb) : ∀ n, pb (fun i => pj (f i) (g i)) n = pj (pb f n) (pb g n)
  | 0 => by simp [pb, pj_e]
  | n + 1 => by
    rw [pb_s, pb_s, pb_s, pb_add f g n, pj_a, pj_a]
    congr 1
    rw [← pj_a, pj_c (pb g n) (f n), pj_a]
theorem pb_e : ∀ n, pb (fun _ => pe) n = pe
  | 0 => rfl
  | n + 1 => by rw [pb_s, pb_e n, pj_e]
theorem pb_swap (f : Nat → Nat → Pb) (m : Nat) : ∀ n, pb (fun i => pb (fun k => f i k) m) n = pb (fun k => pb (fun i => f i k) n) m
  | 0 => by rw [show (fun k => pb (fun i => f i k) 0) = fun _ => pe from rfl, pb_e]; rfl
  | n + 1 => by
    rw [pb_s, pb_swap f m n, ← pb_add]
    rfl
/-- a ROPE with a KNOT more at a place -/
def insn (ws : List Nat) (i k : Nat) : List Nat := ws.take i ++ k :: ws.drop i
theorem insn_len {ws : List Nat} {i : Nat} (h : i ≤ ws.length) (k : Nat) : (insn ws i k).length = ws.length + 1 := by simp [insn]; omega
theorem insn_kn {c : Cf} {ws : List Nat} (h : kn c ws) (i : Nat) {k : Nat} (hk : k < cf_n c) : kn c (insn ws i k) := fun q hq => by
  rcases List.mem_append.mp hq with z | z
  · exact h q (List.mem_of_mem_take z)
  · rcases List.mem_cons.mp z with w | w
    · rw [w]; exact hk
    · exact h q (List.mem_of_mem_drop w)
theorem insn_like {ws : List Nat} {i k : Nat} (hi : i < ws.length) (h : ws.getD i 0 = k) : insn ws i k = insn ws (i + 1) k := by
  unfold insn
  rw [takeN_s hi, drop_getD hi, h]
  simp
theorem map_insn (ws : List Nat) (i k : Nat) : (ws.map nI).take i ++ nI k :: (ws.map nI).drop i = (insn ws i k).map nI := by simp [insn]
/-- one such ROPE: if it is RIGHT, it counts, with the bits of what is READ -/
def lf (c : Cf) (ws : List Nat) (i k : Nat) : Pb := if rt c (insn ws i k) then (1, bi ((rd c (insn ws i k)).map nI) (rd c (insn ws i k)).length) else pe
def lfc (c : Cf) (ws : List Nat) (i k : Nat) : Pb := if (i < ws.length ∧ ws.getD i 0 = k) ∨ cf_kd c k = 5 then pe else lf c ws i k
def lfm (c : Cf) (ws : List Nat) (i k : Nat) : Pb := if (0 < i ∧ ws.getD (i - 1) 0 = k) ∨ cf_kd c k = 5 then pe else lf c ws i k
theorem lf_one {c : Cf} {ws : List Nat} {k : Nat} (h5 : ¬ cf_kd c k = 5) : ∀ m, m ≤ ws.length → pb (fun i => lfm c ws i k) (m + 1) = pj (pb (fun i => lfc c ws i k) m) (lf c ws m k)
  | 0, _ => by
    rw [pb_s]
    show pj pe (lfm c ws 0 k) = pj pe _
    unfold lfm
    rw [if_neg (fun z => z.elim (fun z => by have := z.1; omega) h5)]
  | m + 1, hm => by
    rw [pb_s, lf_one h5 m (by omega), pb_s]
    by_cases g : ws.getD m 0 = k
    · rw [show lfc c ws m k = pe by unfold lfc; rw [if_pos (Or.inl ⟨by omega, g⟩)], show lfm c ws (m + 1) k = pe by unfold lfm; rw [if_pos (Or.inl ⟨by omega, by rw [Nat.add_sub_cancel]; exact g⟩)], pj_e, pj_e]
      congr 1
      unfold lf
      rw [insn_like (by omega) g]
    · rw [show lfc c ws m k = lf c ws m k by unfold lfc; rw [if_neg (fun z => z.elim (fun z => g z.2) h5)], show lfm c ws (m + 1) k = lf c ws (m + 1) k by unfold lfm; rw [if_neg (fun z => z.elim (fun z => g (by have := z.2; rw [Nat.add_sub_cancel] at this; exact this)) h5)]]
theorem lf_all (c : Cf) (ws : List Nat) (k : Nat) : pb (fun i => lfm c ws i k) (ws.length + 1) = pb (fun i => lfc c ws i k) (ws.length + 1) := by
  by_cases h5 : cf_kd c k = 5
  · exact pb_ext _ (fun i _ => by unfold lfm lfc; rw [if_pos (Or.inr h5), if_pos (Or.inr h5)])
  · rw [lf_one h5 _ (Nat.le_refl _), pb_s]
    congr 1
    unfold lfc
    rw [if_neg (fun z => z.elim (fun z => by have := z.1; omega) h5)]
/-- all of them, place by place -/
def lA (c : Cf) (ws : List Nat) (i : Nat) : Pb := pb (fun i => pb (fun k => lfc c ws i k) (cf_n c)) i
def lB (c : Cf) (ws : List Nat) (i : Nat) : Pb := pb (fun i => pb (fun k => lfm c ws i k) (cf_n c)) i
theorem lAB (c : Cf) (ws : List Nat) : lB c ws (ws.length + 1) = lA c ws (ws.length + 1) := by
  unfold lA lB
  rw [pb_swap (fun i k => lfm c ws i k) (cf_n c) (ws.length + 1), pb_swap (fun i k => lfc c ws i k) (cf_n c) (ws.length + 1)]
  exact pb_ext _ (fun k _ => lf_all c ws k)
theorem lf_le (c : Cf) (ws : List Nat) (i k : Nat) : (lf c ws i k).1 ≤ 1 := by unfold lf; split <;> simp [pe]
theorem pb_le {f : Nat → Pb} {b : Nat} : ∀ n, (∀ i, i < n → (f i).1 ≤ b) → (pb f n).1 ≤ n * b
  | 0, _ => by simp [pb, pe]
  | n + 1, h => by
    have h1 := pb_le n (fun i hi => h i (by omega))
    have h2 := h n (by omega)
    have : (pb f (n + 1)).1 = (pb f n).1 + (f n).1 := rfl
    rw [this, Nat.add_mul, Nat.one_mul]
    omega
section LNT
variable {a : As} {M : pm_M}
theorem lk_ins (d : Nat) (hM : pm_ok M) {r i k : Nat} (hr : r < 6) {ws : List Nat} (hl : ws.length < 24) (hi : i ≤ ws.length) (h : MRow M r (some (ws.map nI))) : ∃ M', pm_call (d + 3) 253 [.ref 132, .int (nI r), .int (nI i), .int (nI k)] M none M' ∧ Lk M' (insn ws i k) ∧ Msc M M' := by
  obtain ⟨M0, hc0, h3, h4⟩ := m_lookAtRow d hM hr (by omega) h
  have hM0 := h4.ok hM
  have atI : ∀ t, t < ws.length + 1 → (insn ws i k).getD t 0 = if t < i then ws.getD t 0 else if t = i then k else ws.getD (t - 1) 0 := by
    intro t ht
    unfold insn
    rw [List.getD_eq_getElem?_getD, List.getElem?_append, List.length_take, Nat.min_eq_left hi]
    by_cases g : t < i
    · rw [if_pos g, if_pos g, List.getElem?_take, if_pos g, List.getD_eq_getElem?_getD]
    · rw [if_neg g, if_neg g]
      by_cases g2 : t = i
      · rw [if_pos g2, g2, Nat.sub_self]; rfl
      · rw [if_neg g2, show t - i = (t - i - 1) + 1 by omega, List.getElem?_cons_succ, List.getElem?_drop, List.getD_eq_getElem?_getD, show i + (t - i - 1) = t - 1 by omega]
  have loop : ∀ m t x M1, x = nI t → t = i + m → t ≤ ws.length → Msc M M1 → gI M1 132 29 = nI ws.length → (∀ s, s < t → gI M1 147 s = nI (ws.getD s 0)) → (∀ s, t < s → s < ws.length + 1 → gI M1 147 s = nI (ws.getD (s - 1) 0)) → pm_WP (pm_call (d + 2)) tb_253 (fun r M' => r = none ∧ Lk M' (insn ws i k) ∧ Msc M M') 11 [some (.ref 132), some (.int (nI r)), some (.int (nI i)), some (.int (nI k)), some (.int x)] [] M1 := by
    intro m
    induction m with
    | zero =>
      intro t x M1 hx ht htl hs h29 ha hb
      subst hx
      have hM1 := hs.ok hM
      have hin : vp_in (nI i) 24 := vp_in_nI (by omega) (by decide)
      refine st_ild rfl rfl ?_
      refine st_ild rfl rfl ?_
      refine st_b2 rfl (fun _ => ?_) (fun zq => absurd (nI_le (by omega) (by omega)) zq)
      refine st_ald rfl rfl ?_
      refine st_gR' rfl (by first | exact tT hM1 rfl | assumption | exact rw_T hM1 (by assumption) | exact rw_A hM1 (by assumption)) (by first | exact rR hM1 rfl rfl | assumption | exact rw_R hM1 (by assumption)) ?_
      refine st_ild rfl rfl ?_
      refine st_ild rfl rfl ?_
      refine st_iast rfl (tT hM1 rfl) (hin) ?_
      refine st_ald rfl rfl ?_
      refine st_dup rfl rfl ?_
      refine st_gI rfl (by first | exact tT hM1 rfl | assumption | exact rw_T hM1 (by assumption) | exact rw_A hM1 (by assumption)) ?_
      -- at 51: stop
      rw [nI_clamp (show i < 2 ^ 31 by omega)]
      refine wp_e (y := nI ws.length) (by rw [gI_ne (Or.inl (by decide))]; exact h29) ?_
      refine st_k rfl ?_
      refine st_ib rfl ?_
      -- at 53: stop
      rw [nI_1]
      refine st_pI rfl (by first | exact tT hM1 rfl | assumption | exact rw_T hM1 (by assumption) | exact rw_A hM1 (by assumption)) ?_
      -- at 56: op_vret
      refine st_vret rfl ⟨rfl, ⟨by rw [gI_same, insn_len hi], by rw [insn_len hi]; omega, fun s hs2 => ?_⟩, (hs.sI _ (by omega)).sI _ (by omega)⟩
      rw [insn_len hi] at hs2
      rw [atI s hs2, gI_ne (Or.inl (by decide)), gI_sI]
      by_cases g : s < i
      · rw [if_pos g, if_neg (fun z => by omega)]; exact ha s (by omega)
      · rw [if_neg g]
        by_cases g2 : s = i
        · rw [if_pos g2, if_pos ⟨rfl, g2⟩]
        · rw [if_neg g2, if_neg (fun z => g2 z.2)]; exact hb s (by omega) hs2
    | succ m ih =>
      intro t x M1 hx ht htl hs h29 ha hb
      subst hx
      have hM1 := hs.ok hM
      have ep : nI t - 1 = nI (t - 1) := nI_p1 (by omega)
      have em1 : nI t + (-1) = nI (t - 1) := by obtain ⟨q, rfl⟩ : ∃ q, t = q + 1 := ⟨t - 1, by omega⟩; exact pk_m1 q
      have hin : vp_in (nI t) 24 := vp_in_nI (by omega) (by decide)
      have hin2 : vp_in (nI t - 1) 24 := by rw [ep]; exact vp_in_nI (by omega) (by decide)
      refine st_ild rfl rfl ?_
      refine st_ild rfl rfl ?_
      refine st_b2 rfl (fun zq => absurd zq (nI_ge (by omega) (by omega))) (fun _ => ?_)
      refine st_ald rfl rfl ?_
      refine st_gR' rfl (by first | exact tT hM1 rfl | assumption | exact rw_T hM1 (by assumption) | exact rw_A hM1 (by assumption)) (by first | exact rR hM1 rfl rfl | assumption | exact rw_R hM1 (by assumption)) ?_
      refine st_ild rfl rfl ?_
      refine st_ald rfl rfl ?_
      refine st_gR' rfl (by first | exact tT hM1 rfl | assumption | exact rw_T hM1 (by assumption) | exact rw_A hM1 (by assumption)) (by first | exact rR hM1 rfl rfl | assumption | exact rw_R hM1 (by assumption)) ?_
      refine st_ild rfl rfl ?_
      refine st_k rfl ?_
      refine st_ib rfl ?_
      refine st_iald rfl (tT hM1 rfl) (hin2) ?_
      -- at 32: stop
      refine wp_e (y := nI (ws.getD (t - 1) 0)) (by rw [ep, nI_clamp (by omega)]; exact ha _ (by omega)) ?_
      refine st_iast rfl (tT hM1 rfl) (hin) ?_
      refine st_inc rfl rfl ?_
      refine st_go rfl ?_
      -- at 11: stop
      rw [nI_clamp (show t < 2 ^ 31 by omega)]
      refine ih (t - 1) _ _ em1 (by omega) (by omega) (hs.sI _ (by omega)) (by rw [gI_ne (Or.inl (by decide))]; exact h29) (fun s hs2 => by rw [gI_ne (Or.inr (by omega))]; exact ha s (by omega)) (fun s z1 z2 => ?_)
      by_cases g : s = t
      · subst g; exact gI_same _ _ _ _
      · rw [gI_ne (Or.inr g)]; exact hb s (by omega) z2
  obtain ⟨rr, M', hcc, hr', h5, h6⟩ := eq_253 (d := d + 2) (A := [.ref 132, .int (nI r), .int (nI i), .int (nI k)]) (M := M) (Q := fun r M' => r = none ∧ Lk M' (insn ws i k) ∧ Msc M M') (Nat.le_of_ble_eq_true rfl) (by
    refine st_ald rfl rfl ?_
    refine st_ild rfl rfl ?_
    refine st_cav (As := [_]) rfl rfl rfl (by first | exact tT hM rfl | assumption | exact rw_T hM (by assumption) | exact rw_A hM (by assumption)) (Nat.le_of_ble_eq_true rfl) (hc0) ?_
    -- at 5: stop
    refine st_ald rfl rfl ?_
    refine st_gI rfl (by first | exact tT hM0 rfl | assumption | exact rw_T hM0 (by assumption) | exact rw_A hM0 (by assumption)) ?_
    -- at 9: stop
    refine wp_e h3.1 ?_
    refine st_ist rfl ?_
    -- at 11: stop
    exact loop (ws.length - i) ws.length _ M0 rfl (by omega) (Nat.le_refl _) h4 h3.1 (fun s hs => h3.2.2 s hs) (fun s z1 z2 => by omega))
  subst hr'
  exact ⟨M', hcc, h5, h6⟩
theorem m_signsOfLook (d : Nat) (hM : pm_ok M) {c : Cf} (hw : cf_wf c) (hc : MC c M) {ws : List Nat} (hk : kn c ws) (h : Lk M ws) : ∃ M', pm_call (d + 3) 254 [.ref 132] M (some (.int (bi ((rd c ws).map nI) (rd c ws).length))) M' ∧ Msc M M' := by
  obtain ⟨M0, hc0, h3, h4, -⟩ := m_readLook d hM hw hc hk h
  have hM0 := h4.ok hM
  have hl := h3.2.1
  refine ⟨M0, en_254 (Nat.le_of_ble_eq_true rfl) ?_, h4⟩
  have loop : ∀ m i x, x = nI i → i + m = (rd c ws).length → pm_WP (pm_call (d + 2)) tb_254 (fun r0 M1 => r0 = some (.int (bi ((rd c ws).map nI) (rd c ws).length)) ∧ M1 = M0) 8 [some (.ref 132), some (.int (bi ((rd c ws).map nI) i)), some (.int x)] [] M0 := by
    intro m
    induction m with
    | zero =>
      intro i x hx hi
      subst hx
      refine st_ild rfl rfl ?_
      refine st_ald rfl rfl ?_
      refine st_gI rfl (by first | exact tT hM0 rfl | assumption | exact rw_T hM0 (by assumption) | exact rw_A hM0 (by assumption)) ?_
      -- at 13: stop
      refine wp_e h3.1 ?_
      refine st_b2 rfl (fun _ => ?_) (fun zq => absurd (nI_le (by omega) (by omega)) zq)
      refine st_ild rfl rfl ?_
      -- at 34: op_iret
      exact st_iret rfl ⟨by rw [show i = (rd c ws).length by omega], rfl⟩
    | succ m ih =>
      intro i x hx hi
      subst hx
      have hin : vp_in (nI i) 24 := vp_in_nI (by omega) (by decide)
      refine st_ild rfl rfl ?_
      refine st_ald rfl rfl ?_
      refine st_gI rfl (by first | exact tT hM0 rfl | assumption | exact rw_T hM0 (by assumption) | exact rw_A hM0 (by assumption)) ?_
      -- at 13: stop
      refine wp_e h3.1 ?_
      refine st_b2 rfl (fun zq => absurd zq (nI_ge (by omega) (by omega))) (fun _ => ?_)
      refine st_ild rfl rfl ?_
      refine st_k rfl ?_
      refine st_ald rfl rfl ?_
      refine st_gR' rfl (by first | exact tT hM0 rfl | assumption | exact rw_T hM0 (by assumption) | exact rw_A hM0 (by assumption)) (by first | exact rR hM0 rfl rfl | assumption | exact rw_R hM0 (by assumption)) ?_
      refine st_ild rfl rfl ?_
      refine st_iald rfl (by first | exact tT hM0 rfl | assumption | exact rw_T hM0 (by assumption) | exact rw_A hM0 (by assumption)) (by first | decide | assumption | exact vp_in_nI (by omega) (by decide)) ?_
      -- at 24: stop
      refine wp_e (y := ((rd c ws).map nI).getD i 0) (by rw [nI_clamp (by omega), h3.2.2 i (by omega), map_getD (by omega)]) ?_
      refine st_ib rfl ?_
      refine st_ib rfl ?_
      refine st_ist rfl ?_
      refine st_inc rfl rfl ?_
      refine st_go rfl ?_
      -- at 8: stop
      exact ih (i + 1) _ (nI_1 i) (by omega)
  refine st_ald rfl rfl ?_
  refine st_cav (As := []) rfl rfl rfl (by first | exact tT hM rfl | assumption | exact rw_T hM (by assumption) | exact rw_A hM (by assumption)) (Nat.le_of_ble_eq_true rfl) (hc0) ?_
  -- at 4: stop
  refine st_k rfl ?_
  refine st_ist rfl ?_
  refine st_k rfl ?_
  refine st_ist rfl ?_
  -- at 8: stop
  exact loop (rd c ws).length 0 _ rfl (by omega)
theorem b_lent (ha : aw a) (r : Int32) : Both a 124 255 [.int r] := by
  rcases r_cs r with ⟨h1, h2⟩ | ⟨j, hj, hr, h1, h2⟩
  · refine bo_k (x := .int (-1)) ha (fun d M h => ?_) (fun d M h => ?_)
    · refine en_124 (Nat.le_of_ble_eq_true rfl) ?_
      have hM := h.1
      refine st_ald rfl rfl ?_
      refine st_ild rfl rfl ?_
      refine st_ild rfl rfl ?_
      refine st_ild rfl rfl ?_
      refine st_k rfl ?_
      refine st_cav (As := [_, _, _, _]) rfl rfl rfl (by first | exact tT hM rfl | assumption | exact rw_T hM (by assumption) | exact rw_A hM (by assumption)) (Nat.le_of_ble_eq_true rfl) (c_knots (d + 16) h _ _ _ _ (c_rowsBad (d + 16) _ _ _ _ _ (fun z => h1 z.1)) ⟨_, rfl⟩) ?_
      refine st_ist rfl ?_
      refine st_ild rfl rfl ?_
      refine st_b1 rfl (fun zq => absurd zq ((by decide))) (fun _ => ?_)
      refine st_ild rfl rfl ?_
      -- at 15: op_iret
      exact st_iret rfl ⟨rfl, rfl⟩
    · refine en_255 (Nat.le_of_ble_eq_true rfl) ?_
      refine st_ild rfl rfl ?_
      refine st_call (As := [_]) rfl rfl rfl (Nat.le_of_ble_eq_true rfl) (m_isRow (d + 17) r) ?_
      refine st_b1 rfl (fun zq => absurd zq ((fun z => z (b01_f h2)))) (fun _ => ?_)
      refine st_k rfl ?_
      -- at 8: op_iret
      exact st_iret rfl ⟨rfl, rfl⟩
  subst hr
  have hin : vp_in (nI j) 6 := vp_in_nI hj (by decide)
  have ho := rw_row j hj
  rcases rope_cs (a := a) j 19 with hx | ⟨l, hx, hlen⟩ | ⟨l, hx, hlen, hno⟩ | ⟨ws, hx, hk, hlen⟩
  · refine bo_f ha (f := 1) (by decide) (fun d M h => ?_) (fun d M h => ?_)
    · refine en_124 (Nat.le_of_ble_eq_true rfl) ?_
      have hM := h.1
      refine st_ald rfl rfl ?_
      refine st_ild rfl rfl ?_
      refine st_ild rfl rfl ?_
      refine st_ild rfl rfl ?_
      refine st_k rfl ?_
      refine st_cav (As := [_, _, _, _]) rfl rfl rfl (by first | exact tT hM rfl | assumption | exact rw_T hM (by assumption) | exact rw_A hM (by assumption)) (Nat.le_of_ble_eq_true rfl) (ckN (d + 16) h hj hj (most := 19) (by decide) hx) ?_
      refine st_ist rfl ?_
      refine st_ild rfl rfl ?_
      refine st_b1 rfl (fun zq => absurd zq ((by decide))) (fun _ => ?_)
      refine st_ild rfl rfl ?_
      -- at 15: op_iret
      exact st_iret rfl ⟨rfl, rfl⟩
    · refine en_255 (Nat.le_of_ble_eq_true rfl) ?_
      have hM := h.1
      refine st_ild rfl rfl ?_
      refine st_call (As := [_]) rfl rfl rfl (Nat.le_of_ble_eq_true rfl) (m_isRow (d + 17) _) ?_
      refine st_b1 rfl (fun _ => ?_) (fun zq => absurd (b01_t h2) zq)
      refine st_ald rfl rfl ?_
      refine st_ild rfl rfl ?_
      refine st_k rfl ?_
      refine st_cav (As := [_, _]) rfl rfl rfl (by first | exact tT hM rfl | assumption | exact rw_T hM (by assumption) | exact rw_A hM (by assumption)) (Nat.le_of_ble_eq_true rfl) (mnN (d + 15) h ha hj (most := 19) (by decide) hx) ?_
      refine st_ist rfl ?_
      refine st_ild rfl rfl ?_
      refine st_b1 rfl (fun zq => absurd zq ((by decide))) (fun _ => ?_)
      refine st_ild rfl rfl ?_
      -- at 22: op_iret
      exact st_iret rfl ⟨rfl, rfl⟩
  · refine bo_f ha (f := 5) (by decide) (fun d M h => ?_) (fun d M h => ?_)
    · refine en_124 (Nat.le_of_ble_eq_true rfl) ?_
      have hM := h.1
      refine st_ald rfl rfl ?_
      refine st_ild rfl rfl ?_
      refine st_ild rfl rfl ?_
      refine st_ild rfl rfl ?_
      refine st_k rfl ?_
      refine st_cav (As := [_, _, _, _]) rfl rfl rfl (by first | exact tT hM rfl | assumption | exact rw_T hM (by assumption) | exact rw_A hM (by assumption)) (Nat.le_of_ble_eq_true rfl) (ckL (d + 16) h hj hj (most := 19) (by decide) hx hlen) ?_
      refine st_ist rfl ?_
      refine st_ild rfl rfl ?_
      refine st_b1 rfl (fun zq => absurd zq ((by decide))) (fun _ => ?_)
      refine st_ild rfl rfl ?_
      -- at 15: op_iret
      exact st_iret rfl ⟨rfl, rfl⟩
    · refine en_255 (Nat.le_of_ble_eq_true rfl) ?_
      have hM := h.1
      refine st_ild rfl rfl ?_
      refine st_call (As := [_]) rfl rfl rfl (Nat.le_of_ble_eq_true rfl) (m_isRow (d + 17) _) ?_
      refine st_b1 rfl (fun _ => ?_) (fun zq => absurd (b01_t h2) zq)
      refine st_ald rfl rfl ?_
      refine st_ild rfl rfl ?_
      refine st_k rfl ?_
      refine st_cav (As := [_, _]) rfl rfl rfl (by first | exact tT hM rfl | assumption | exact rw_T hM (by assumption) | exact rw_A hM (by assumption)) (Nat.le_of_ble_eq_true rfl) (mnL (d + 15) h ha hj (most := 19) (by decide) hx hlen) ?_
      refine st_ist rfl ?_
      refine st_ild rfl rfl ?_
      refine st_b1 rfl (fun zq => absurd zq ((by decide))) (fun _ => ?_)
      refine st_ild rfl rfl ?_
      -- at 22: op_iret
      exact st_iret rfl ⟨rfl, rfl⟩
  · refine bo_f ha (f := 3) (by decide) (fun d M h => ?_) (fun d M h => ?_)
    · refine en_124 (Nat.le_of_ble_eq_true rfl) ?_
      have hM := h.1
      refine st_ald rfl rfl ?_
      refine st_ild rfl rfl ?_
      refine st_ild rfl rfl ?_
      refine st_ild rfl rfl ?_
      refine st_k rfl ?_
      refine st_cav (As := [_, _, _, _]) rfl rfl rfl (by first | exact tT hM rfl | assumption | exact rw_T hM (by assumption) | exact rw_A hM (by assumption)) (Nat.le_of_ble_eq_true rfl) (ckU (d + 16) h hj hj (most := 19) (by decide) ha hx hlen hno) ?_
      refine st_ist rfl ?_
      refine st_ild rfl rfl ?_
      refine st_b1 rfl (fun zq => absurd zq ((by decide))) (fun _ => ?_)
      refine st_ild rfl rfl ?_
      -- at 15: op_iret
      exact st_iret rfl ⟨rfl, rfl⟩
    · refine en_255 (Nat.le_of_ble_eq_true rfl) ?_
      have hM := h.1
      refine st_ild rfl rfl ?_
      refine st_call (As := [_]) rfl rfl rfl (Nat.le_of_ble_eq_true rfl) (m_isRow (d + 17) _) ?_
      refine st_b1 rfl (fun _ => ?_) (fun zq => absurd (b01_t h2) zq)
      refine st_ald rfl rfl ?_
      refine st_ild rfl rfl ?_
      refine st_k rfl ?_
      refine st_cav (As := [_, _]) rfl rfl rfl (by first | exact tT hM rfl | assumption | exact rw_T hM (by assumption) | exact rw_A hM (by assumption)) (Nat.le_of_ble_eq_true rfl) (mnU (d + 15) h ha hj (most := 19) (by decide) hx hlen hno) ?_
      refine st_ist rfl ?_
      refine st_ild rfl rfl ?_
      refine st_b1 rfl (fun zq => absurd zq ((by decide))) (fun _ => ?_)
      refine st_ild rfl rfl ?_
      -- at 22: op_iret
      exact st_iret rfl ⟨rfl, rfl⟩
  have hn := ha.1.1
  have fle : ∀ i k, (lfc (aC a) ws i k).1 ≤ 1 := by
    intro i k
    unfold lfc
    split
    · simp [pe]
    · exact lf_le _ _ _ _
  have fle2 : ∀ i k, (lfm (aC a) ws i k).1 ≤ 1 := by
    intro i k
    unfold lfm
    split
    · simp [pe]
    · exact lf_le _ _ _ _
  have Ale : ∀ i, i ≤ 21 → (lA (aC a) ws i).1 ≤ 21 * 6 := fun i hi => Nat.le_trans (pb_le (b := 6) i (fun t _ => Nat.le_trans (pb_le (b := 1) _ (fun k _ => fle t k)) (by omega))) (Nat.mul_le_mul_right 6 hi)
  have Ble : ∀ i, i ≤ 21 → (lB (aC a) ws i).1 ≤ 21 * 6 := fun i hi => Nat.le_trans (pb_le (b := 6) i (fun t _ => Nat.le_trans (pb_le (b := 1) _ (fun k _ => fle2 t k)) (by omega))) (Nat.mul_le_mul_right 6 hi)
  refine ⟨.int (nI (lA (aC a) ws (ws.length + 1)).1), sA' a (if (lA (aC a) ws (ws.length + 1)).1 = 0 then 0 else (lA (aC a) ws (ws.length + 1)).2), ha.told _, fun d M h => ?_, fun d M h => ?_⟩
  · have hM := h.1
    have S99 : ∀ k, (99 ≤ k ∧ k ≤ 102) → (27 ≤ k ∧ k ≤ 104 ∧ k ≠ 54) ∨ (20 ≤ k ∧ k ≤ 24) := fun k hk => by omega
    have loop1 : ∀ m i x y1 y2 M1, x = nI i → y1 = nI (lA (aC a) ws i).1 → y2 = (lA (aC a) ws i).2 → i + m = ws.length + 1 → pm_S (fun k => 99 ≤ k ∧ k ≤ 102) M M1 → pm_WP (pm_call (d + 19)) tb_124 (fun r0 M' => r0 = some (.int (nI (lA (aC a) ws (ws.length + 1)).1)) ∧ IC (sA' a (if (lA (aC a) ws (ws.length + 1)).1 = 0 then 0 else (lA (aC a) ws (ws.length + 1)).2)) M' ∧ Cfr M M') 32 [some (.ref 0), some (.int (nI j)), some (.int 0), some (.ref (106 + 2 * j)), some (.int y1), some (.int y2), some (.int x), none, none] [] M1 := by
      intro m
      induction m with
      | zero =>
        intro i x y1 y2 M1 hx h1 h2 hi hs
        subst hx; subst h1; subst h2
        have hI := h.S hs S99
        have hM1 := hI.1
        have hz := hI.2.1 j hj
        rw [show aR a j = _ from by assumption] at hz
        have := Ale i (by omega)
        have cf : Cfr M M1 := Cfr.S hs (fun k hk => by have : 99 ≤ k ∧ k ≤ 102 := hk; omega)
        refine st_ild rfl rfl ?_
        refine st_ald rfl rfl ?_
        refine st_gI rfl (rw_T hM1 ho) ?_
        -- at 38: stop
        refine wp_e (crow_some hz).1 ?_
        refine st_b2 rfl (fun _ => ?_) (fun zq => absurd (nI_lt (by rw [map_len]; omega) (by omega)) zq)
        refine st_ald rfl rfl ?_
        refine st_ild rfl rfl ?_
        -- at 175: stop
        rw [show i = ws.length + 1 by omega] at this ⊢
        refine st_b1 rfl (fun g => ?_) (fun g => ?_)
        · have g : ¬ (lA (aC a) ws (ws.length + 1)).1 = 0 := fun z => g (by rw [z]; rfl)
          refine st_ild rfl rfl ?_
          refine st_pI rfl (by first | exact tT hM1 rfl | assumption | exact rw_T hM1 (by assumption) | exact rw_A hM1 (by assumption)) ?_
          refine st_ild rfl rfl ?_
          -- at 189: op_iret
          refine st_iret rfl ⟨rfl, ?_, cf.sI (by decide) _ _⟩
          rw [if_neg g]
          exact hI.told
        · have g : (lA (aC a) ws (ws.length + 1)).1 = 0 := (nI_eq (a := (lA (aC a) ws (ws.length + 1)).1) (b := 0) (by omega) (by decide)).mp (Decidable.not_not.mp g)
          refine st_k rfl ?_
          refine st_go rfl ?_
          refine st_pI rfl (by first | exact tT hM1 rfl | assumption | exact rw_T hM1 (by assumption) | exact rw_A hM1 (by assumption)) ?_
          refine st_ild rfl rfl ?_
          -- at 189: op_iret
          refine st_iret rfl ⟨rfl, ?_, cf.sI (by decide) _ _⟩
          rw [if_pos g]
          exact hI.told
      | succ m ih =>
        intro i x y1 y2 M1 hx h1 h2 hi hs
        subst hx; subst h1; subst h2
        have hI := h.S hs S99
        have hM1 := hI.1
        have hz := hI.2.1 j hj
        rw [show aR a j = _ from by assumption] at hz
        have loop2 : ∀ n k y z1 z2 M1, y = nI k → z1 = nI (pj (lA (aC a) ws i) (pb (fun k => lfc (aC a) ws i k) k)).1 → z2 = (pj (lA (aC a) ws i) (pb (fun k => lfc (aC a) ws i k) k)).2 → k + n = cf_n (aC a) → pm_S (fun k => 99 ≤ k ∧ k ≤ 102) M M1 → pm_WP (pm_call (d + 19)) tb_124 (fun r0 M' => r0 = some (.int (nI (lA (aC a) ws (ws.length + 1)).1)) ∧ IC (sA' a (if (lA (aC a) ws (ws.length + 1)).1 = 0 then 0 else (lA (aC a) ws (ws.length + 1)).2)) M' ∧ Cfr M M') 44 [some (.ref 0), some (.int (nI j)), some (.int 0), some (.ref (106 + 2 * j)), some (.int z1), some (.int z2), some (.int (nI i)), some (.int y), none] [] M1 := by
          intro n
          induction n with
          | zero =>
            intro k y z1 z2 M1 hy h1 h2 hk' hs
            subst hy; subst h1; subst h2
            have hI := h.S hs S99
            have hM1 := hI.1
            refine st_ild rfl rfl ?_
            refine st_ald rfl rfl ?_
            refine st_gR' rfl (by first | exact tT hM1 rfl | assumption | exact rw_T hM1 (by assumption) | exact rw_A hM1 (by assumption)) (by first | exact rR hM1 rfl rfl | assumption | exact rw_R hM1 (by assumption)) ?_
            refine st_gI rfl (by first | exact tT hM1 rfl | assumption | exact rw_T hM1 (by assumption) | exact rw_A hM1 (by assumption)) ?_
            -- at 53: stop
            refine wp_e hI.2.2.2.1.1.2.2.1 ?_
            refine st_b2 rfl (fun _ => ?_) (fun zq => absurd (nI_le (by omega) (by omega)) zq)
            refine st_inc rfl rfl ?_
            refine st_go rfl ?_
            -- at 32: stop
            rw [show k = cf_n (aC a) by omega]
            exact wp_le ms_124 (lc (lc (lc (lc (lc (lc (lc (ln (ln l0))))))))) (ih (i + 1) _ _ _ M1 (nI_1 i) rfl rfl (by omega) hs)
          | succ n ihn =>
            intro k y z1 z2 M1 hy h1 h2 hk' hs
            subst hy; subst h1; subst h2
            have hI := h.S hs S99
            have hM1 := hI.1
            have hz := hI.2.1 j hj
            rw [show aR a j = _ from by assumption] at hz
            have hzz := crow_some hz
            have hc := hI.2.2.2.1
            have hkn : k < cf_n (aC a) := by omega
            have nxt : ∀ w1 w2 (M2 : pm_M) x8, pm_S (fun k => 99 ≤ k ∧ k ≤ 102) M M2 → w1 = nI ((pj (lA (aC a) ws i) (pb (fun k => lfc (aC a) ws i k) k)).1 + (lfc (aC a) ws i k).1) → w2 = (pj (lA (aC a) ws i) (pb (fun k => lfc (aC a) ws i k) k)).2 &&& (lfc (aC a) ws i k).2 → pm_WP (pm_call (d + 19)) tb_124 (fun r0 M' => r0 = some (.int (nI (lA (aC a) ws (ws.length + 1)).1)) ∧ IC (sA' a (if (lA (aC a) ws (ws.length + 1)).1 = 0 then 0 else (lA (aC a) ws (ws.length + 1)).2)) M' ∧ Cfr M M') 160 [some (.ref 0), some (.int (nI j)), some (.int 0), some (.ref (106 + 2 * j)), some (.int w1), some (.int w2), some (.int (nI i)), some (.int (nI k)), some (.int x8)] [] M2 := by
              intro w1 w2 M2 x8 hs2 e1 e2
              refine st_inc rfl rfl ?_
              refine st_go rfl ?_
              -- at 44: stop
              have e0 : pj (lA (aC a) ws i) (pb (fun k => lfc (aC a) ws i k) (k + 1)) = pj (pj (lA (aC a) ws i) (pb (fun k => lfc (aC a) ws i k) k)) (lfc (aC a) ws i k) := by rw [pb_s, pj_a]
              exact wp_le ms_124 (lc (lc (lc (lc (lc (lc (lc (lc (ln l0))))))))) (ihn (k + 1) _ _ _ M2 (nI_1 k) (by rw [e0]; exact e1) (by rw [e0]; exact e2) (by omega) hs2)
            have skip : ∀ x8, ((i < ws.length ∧ ws.getD i 0 = k) ∨ cf_kd (aC a) k = 5) → pm_WP (pm_call (d + 19)) tb_124 (fun r0 M' => r0 = some (.int (nI (lA (aC a) ws (ws.length + 1)).1)) ∧ IC (sA' a (if (lA (aC a) ws (ws.length + 1)).1 = 0 then 0 else (lA (aC a) ws (ws.length + 1)).2)) M' ∧ Cfr M M') 160 [some (.ref 0), some (.int (nI j)), some (.int 0), some (.ref (106 + 2 * j)), some (.int (nI (pj (lA (aC a) ws i) (pb (fun k => lfc (aC a) ws i k) k)).1)), some (.int (pj (lA (aC a) ws i) (pb (fun k => lfc (aC a) ws i k) k)).2), some (.int (nI i)), some (.int (nI k)), some (.int x8)] [] M1 := by
              intro x8 g
              have e : lfc (aC a) ws i k = pe := by unfold lfc; rw [if_pos g]
              exact nxt _ _ M1 x8 hs (by rw [e]; rfl) (by rw [e]; show _ = _ &&& (-1 : Int32); rw [Int32.and_neg_one])
            have go84 : ¬ (i < ws.length ∧ ws.getD i 0 = k) → pm_WP (pm_call (d + 19)) tb_124 (fun r0 M' => r0 = some (.int (nI (lA (aC a) ws (ws.length + 1)).1)) ∧ IC (sA' a (if (lA (aC a) ws (ws.length + 1)).1 = 0 then 0 else (lA (aC a) ws (ws.length + 1)).2)) M' ∧ Cfr M M') 81 [some (.ref 0), some (.int (nI j)), some (.int 0), some (.ref (106 + 2 * j)), some (.int (nI (pj (lA (aC a) ws i) (pb (fun k => lfc (aC a) ws i k) k)).1)), some (.int (pj (lA (aC a) ws i) (pb (fun k => lfc (aC a) ws i k) k)).2), some (.int (nI i)), some (.int (nI k)), none] [] M1 := by
              intro g
              refine st_k rfl ?_
              refine st_ist rfl ?_
              refine st_ild rfl rfl ?_
              refine st_b1 rfl (fun zq => absurd zq ((fun z => z rfl))) (fun _ => ?_)
              refine st_ald rfl rfl ?_
              refine st_gR' rfl (by first | exact tT hM1 rfl | assumption | exact rw_T hM1 (by assumption) | exact rw_A hM1 (by assumption)) (by first | exact rR hM1 rfl rfl | assumption | exact rw_R hM1 (by assumption)) ?_
              refine st_ild rfl rfl ?_
              refine st_cav (As := [_]) rfl rfl rfl (by first | exact tT hM1 rfl | assumption | exact rw_T hM1 (by assumption) | exact rw_A hM1 (by assumption)) (Nat.le_of_ble_eq_true rfl) (c_isWill (d + 18) hM1 ha.1 hc hkn) ?_
              refine st_b1 rfl (fun g5 => ?_) (fun g5 => ?_)
              -- at 98: split 104 101
              · have g5 : ¬ cf_kd (aC a) k = 5 := fun z => b01_t z g5
                obtain ⟨M2, hc2, h5, h6⟩ := c_becomeWith (d + 17) hM1 ro99 ho (q := i) (v := nI k) (by omega) (by omega) (by omega) (by rw [map_len]; omega) (by rw [map_len]; omega) hzz
                rw [map_insn] at h5
                have hs2 : pm_S (fun k => 99 ≤ k ∧ k ≤ 102) M M2 := hs.tr (h6.mo (fun k hk => by rcases hk with z | z <;> (show _ ∧ _; omega)))
                have hI2 := h.S hs2 S99
                have hM2 := hI2.1
                have hki := insn_kn hk i hkn
                have e : lfc (aC a) ws i k = lf (aC a) ws i k := by unfold lfc; rw [if_neg (fun z => z.elim g g5)]
                refine st_ald rfl rfl ?_
                refine st_gR' rfl (by first | exact tT hM1 rfl | assumption | exact rw_T hM1 (by assumption) | exact rw_A hM1 (by assumption)) (by first | exact rR hM1 rfl rfl | assumption | exact rw_R hM1 (by assumption)) ?_
                refine st_ald rfl rfl ?_
                refine st_ild rfl rfl ?_
                refine st_ild rfl rfl ?_
                refine st_cav (As := [_, _, _]) rfl rfl rfl (rw_T hM1 ro99) (Nat.le_of_ble_eq_true rfl) (hc2) ?_
                -- at 116: stop
                refine st_ald rfl rfl ?_
                refine st_gR' rfl (by first | exact tT hM2 rfl | assumption | exact rw_T hM2 (by assumption) | exact rw_A hM2 (by assumption)) (by first | exact rR hM2 rfl rfl | assumption | exact rw_R hM2 (by assumption)) ?_
                refine st_ald rfl rfl ?_
                refine st_gR' rfl (by first | exact tT hM2 rfl | assumption | exact rw_T hM2 (by assumption) | exact rw_A hM2 (by assumption)) (by first | exact rR hM2 rfl rfl | assumption | exact rw_R hM2 (by assumption)) ?_
                refine st_cav (As := [_]) rfl rfl rfl (by first | exact tT hM2 rfl | assumption | exact rw_T hM2 (by assumption) | exact rw_A hM2 (by assumption)) (Nat.le_of_ble_eq_true rfl) (c_isRight (d + 16) hM2 ha.1 hI2.2.2.2.1 ro99 hki h5) ?_
                refine st_b1 rfl (fun g6 => ?_) (fun g6 => ?_)
                -- at 127: split 160 130
                · have g6 : ¬ rt (aC a) (insn ws i k) := fun z => b01_t z g6
                  have e2 : lf (aC a) ws i k = pe := by unfold lf; rw [if_neg g6]
                  exact nxt _ _ M2 _ hs2 (by rw [e, e2]; rfl) (by rw [e, e2]; show _ = _ &&& (-1 : Int32); rw [Int32.and_neg_one])
                · have g6 := Decidable.not_not.mp (fun z => g6 (b01_f z))
                  have e2 : lf (aC a) ws i k = (1, bi ((rd (aC a) (insn ws i k)).map nI) (rd (aC a) (insn ws i k)).length) := by unfold lf; rw [if_pos g6]
                  obtain ⟨M3, hc3, h7, h8⟩ := c_read (d + 17) hM2 ha.1 hI2.2.2.2.1 ro101 ro99 (by decide) (by decide) (by decide) (by decide) hki h5
                  have hM3 := h8.ok hM2
                  have hs3 : pm_S (fun k => 99 ≤ k ∧ k ≤ 102) M M3 := hs2.tr (h8.mo (fun k hk => by rcases hk with z | z <;> (show _ ∧ _; omega)))
                  have hb := c_bits (d + 18) hM3 ro101 h7
                  rw [map_len] at hb
                  refine st_inc rfl rfl ?_
                  refine st_ald rfl rfl ?_
                  refine st_gR' rfl (by first | exact tT hM2 rfl | assumption | exact rw_T hM2 (by assumption) | exact rw_A hM2 (by assumption)) (by first | exact rR hM2 rfl rfl | assumption | exact rw_R hM2 (by assumption)) ?_
                  refine st_ald rfl rfl ?_
                  refine st_gR' rfl (by first | exact tT hM2 rfl | assumption | exact rw_T hM2 (by assumption) | exact rw_A hM2 (by assumption)) (by first | exact rR hM2 rfl rfl | assumption | exact rw_R hM2 (by assumption)) ?_
                  refine st_ald rfl rfl ?_
                  refine st_gR' rfl (by first | exact tT hM2 rfl | assumption | exact rw_T hM2 (by assumption) | exact rw_A hM2 (by assumption)) (by first | exact rR hM2 rfl rfl | assumption | exact rw_R hM2 (by assumption)) ?_
                  refine st_cav (As := [_, _]) rfl rfl rfl (by first | exact tT hM2 rfl | assumption | exact rw_T hM2 (by assumption) | exact rw_A hM2 (by assumption)) (Nat.le_of_ble_eq_true rfl) (hc3) ?_
                  -- at 148: stop
                  refine st_ild rfl rfl ?_
                  refine st_ald rfl rfl ?_
                  refine st_gR' rfl (by first | exact tT hM3 rfl | assumption | exact rw_T hM3 (by assumption) | exact rw_A hM3 (by assumption)) (by first | exact rR hM3 rfl rfl | assumption | exact rw_R hM3 (by assumption)) ?_
                  refine st_cav (As := []) rfl rfl rfl (rw_T hM3 ro101) (Nat.le_of_ble_eq_true rfl) (hb) ?_
                  refine st_ib rfl ?_
                  refine st_ist rfl ?_
                  -- at 160: stop
                  exact nxt _ _ M3 _ hs3 (by rw [e, e2, nI_1]) (by rw [e, e2])
              · have g5 := Decidable.not_not.mp (fun z => g5 (b01_f z))
                refine st_go rfl ?_
                -- at 160: stop
                exact skip _ (Or.inr g5)
            refine st_ild rfl rfl ?_
            refine st_ald rfl rfl ?_
            refine st_gR' rfl (by first | exact tT hM1 rfl | assumption | exact rw_T hM1 (by assumption) | exact rw_A hM1 (by assumption)) (by first | exact rR hM1 rfl rfl | assumption | exact rw_R hM1 (by assumption)) ?_
            refine st_gI rfl (by first | exact tT hM1 rfl | assumption | exact rw_T hM1 (by assumption) | exact rw_A hM1 (by assumption)) ?_
            -- at 53: stop
            refine wp_e hc.1.2.2.1 ?_
            refine st_b2 rfl (fun zq => absurd zq (nI_ge (by omega) (by omega))) (fun _ => ?_)
            refine st_ild rfl rfl ?_
            refine st_ald rfl rfl ?_
            refine st_gI rfl (rw_T hM1 ho) ?_
            -- at 62: stop
            refine wp_e (y := nI ws.length) (by rw [hzz.1, map_len]) ?_
            refine st_b2 rfl (fun g1 => ?_) (fun g1 => ?_)
            -- at 62: split 81 65
            · have g1 : ¬ i < ws.length := fun z => nI_ge z (by omega) g1
              exact go84 (fun z => g1 z.1)
            · have g1 : i < ws.length := Nat.not_le.mp (fun z => g1 (nI_le z (by omega)))
              have hin2 := ro_in hzz (show i < (ws.map nI).length by rw [map_len]; exact g1)
              have hkk := kn_getD hk g1
              refine st_ald rfl rfl ?_
              refine st_gR' rfl (rw_T hM1 ho) (rw_R hM1 ho) ?_
              refine st_ild rfl rfl ?_
              refine st_iald rfl (rw_A hM1 ho) (hin2) ?_
              -- at 72: stop
              refine wp_e (y := nI (ws.getD i 0)) ((ro_at hzz (by rw [map_len]; exact g1)).trans (map_getD g1)) ?_
              refine st_ild rfl rfl ?_
              refine st_b2 rfl (fun g2 => ?_) (fun g2 => ?_)
              -- at 74: split 81 77
              · exact go84 (fun z => g2 (by rw [z.2]))
              · have g2 := (nI_eq (by omega) (by omega)).mp (Decidable.not_not.mp g2)
                refine st_k rfl ?_
                refine st_go rfl ?_
                refine st_ist rfl ?_
                refine st_ild rfl rfl ?_
                refine st_b1 rfl (fun _ => ?_) (fun zq => absurd ((by decide)) zq)
                -- at 160: stop
                exact skip _ (Or.inl ⟨g1, g2⟩)
        refine st_ild rfl rfl ?_
        refine st_ald rfl rfl ?_
        refine st_gI rfl (rw_T hM1 ho) ?_
        -- at 38: stop
        refine wp_e (crow_some hz).1 ?_
        refine st_b2 rfl (fun zq => absurd zq (nI_nlt (by rw [map_len]; omega) (by rw [map_len]; omega))) (fun _ => ?_)
        refine st_k rfl ?_
        refine st_ist rfl ?_
        -- at 44: stop
        exact loop2 (cf_n (aC a)) 0 _ _ _ M1 rfl (by rw [show pb (fun k => lfc (aC a) ws i k) 0 = pe from rfl, pj_e]) (by rw [show pb (fun k => lfc (aC a) ws i k) 0 = pe from rfl, pj_e]) (by omega) hs
    obtain ⟨r, M', hc, hr', h9, h10⟩ := eq_124 (d := d + 19) (A := [.ref 0, .int (nI j)]) (M := M) (Q := fun r0 M' => r0 = some (.int (nI (lA (aC a) ws (ws.length + 1)).1)) ∧ IC (sA' a (if (lA (aC a) ws (ws.length + 1)).1 = 0 then 0 else (lA (aC a) ws (ws.length + 1)).2)) M' ∧ Cfr M M') (Nat.le_of_ble_eq_true rfl) (by
      refine st_ald rfl rfl ?_
      refine st_ild rfl rfl ?_
      refine st_ild rfl rfl ?_
      refine st_ild rfl rfl ?_
      refine st_k rfl ?_
      refine st_cav (As := [_, _, _, _]) rfl rfl rfl (by first | exact tT hM rfl | assumption | exact rw_T hM (by assumption) | exact rw_A hM (by assumption)) (Nat.le_of_ble_eq_true rfl) (ckO (d + 16) h hj hj (most := 19) (by decide) ha hx hk hlen) ?_
      refine st_ist rfl ?_
      refine st_ild rfl rfl ?_
      refine st_b1 rfl (fun _ => ?_) (fun zq => absurd (rfl) zq)
      refine st_ald rfl rfl ?_
      refine st_gR' rfl (by first | exact tT hM rfl | assumption | exact rw_T hM (by assumption) | exact rw_A hM (by assumption)) (by first | exact rR hM rfl rfl | assumption | exact rw_R hM (by assumption)) ?_
      refine st_ild rfl rfl ?_
      refine st_aald' rfl (by first | exact tT hM rfl | assumption | exact rw_T hM (by assumption) | exact rw_A hM (by assumption)) (by first | decide | assumption | exact vp_in_nI (by omega) (by decide)) (by first | assumption | exact rRow' hM (by assumption) | exact rTxt' hM (by assumption) | exact rKep' hM (by assumption) | exact rRdg' hM (by assumption)) ?_
      refine st_ast rfl ?_
      refine st_k rfl ?_
      refine st_ist rfl ?_
      refine st_k rfl ?_
      refine st_ist rfl ?_
      refine st_k rfl ?_
      refine st_ist rfl ?_
      -- at 32: stop
      exact loop1 (ws.length + 1) 0 _ _ _ M rfl rfl rfl (by omega) pm_S.rf)
    subst hr'
    exact ⟨M', hc, h9, h10⟩
  · have hM := h.1
    obtain ⟨M0, hc0, h3, h4⟩ := mnO (d + 15) h ha hj (most := 19) (by decide) hx hk hlen
    have e1 : (nI j).toNatClampNeg = j := nI_clamp (by omega)
    rw [← lAB]
    have al : Pb → Int32 := fun p => if p.1 = 0 then 0 else p.2
    have loop1 : ∀ m i x y1 y2 M1, x = nI i → y1 = nI (lB (aC a) ws i).1 → y2 = (if (lB (aC a) ws i).1 = 0 then 0 else (lB (aC a) ws i).2) → i + m = ws.length + 1 → Msc M M1 → pm_WP (pm_call (d + 19)) tb_255 (fun r0 M' => r0 = some (.int (nI (lB (aC a) ws (ws.length + 1)).1)) ∧ IM (sA' a (if (lB (aC a) ws (ws.length + 1)).1 = 0 then 0 else (lB (aC a) ws (ws.length + 1)).2)) M' ∧ Mfr M M') 31 [some (.ref 132), some (.int (nI j)), some (.int 0), some (.int y1), some (.int y2), some (.int x), none, none] [] M1 := by
      intro m
      induction m with
      | zero =>
        intro i x y1 y2 M1 hx h1 h2 hi hs
        subst hx; subst h1; subst h2
        have hI := h.sc hs
        have hM1 := hI.1
        have hz := hI.2.1 j hj
        rw [show aR a j = _ from by assumption] at hz
        refine st_ild rfl rfl ?_
        refine st_ald rfl rfl ?_
        refine st_gR' rfl (by first | exact tT hM1 rfl | assumption | exact rw_T hM1 (by assumption) | exact rw_A hM1 (by assumption)) (by first | exact rR hM1 rfl rfl | assumption | exact rw_R hM1 (by assumption)) ?_
        refine st_ild rfl rfl ?_
        refine st_iald rfl (by first | exact tT hM1 rfl | assumption | exact rw_T hM1 (by assumption) | exact rw_A hM1 (by assumption)) (by first | decide | assumption | exact vp_in_nI (by omega) (by decide)) ?_
        -- at 39: stop
        refine wp_e (y := nI ws.length) (by rw [e1, hz.1, map_len]) ?_
        refine st_b2 rfl (fun _ => ?_) (fun zq => absurd (nI_lt (by omega) (by omega)) zq)
        refine st_ald rfl rfl ?_
        refine st_ild rfl rfl ?_
        refine st_ild rfl rfl ?_
        refine st_cav (As := [_, _]) rfl rfl rfl (by first | exact tT hM1 rfl | assumption | exact rw_T hM1 (by assumption) | exact rw_A hM1 (by assumption)) (Nat.le_of_ble_eq_true rfl) (m_tells (d + 18) hM1 _ _) ?_
        -- at 154: op_iret
        rw [show i = ws.length + 1 by omega]
        exact st_iret rfl ⟨rfl, hI.told, hs.fr.sI (by decide) _ _⟩
      | succ m ih =>
        intro i x y1 y2 M1 hx h1 h2 hi hs
        subst hx; subst h1; subst h2
        have hI := h.sc hs
        have hM1 := hI.1
        have hz := hI.2.1 j hj
        rw [show aR a j = _ from by assumption] at hz
        have loop2 : ∀ n k y z1 z2 M1, y = nI k → z1 = nI (pj (lB (aC a) ws i) (pb (fun k => lfm (aC a) ws i k) k)).1 → z2 = (if (pj (lB (aC a) ws i) (pb (fun k => lfm (aC a) ws i k) k)).1 = 0 then 0 else (pj (lB (aC a) ws i) (pb (fun k => lfm (aC a) ws i k) k)).2) → k + n = cf_n (aC a) → Msc M M1 → pm_WP (pm_call (d + 19)) tb_255 (fun r0 M' => r0 = some (.int (nI (lB (aC a) ws (ws.length + 1)).1)) ∧ IM (sA' a (if (lB (aC a) ws (ws.length + 1)).1 = 0 then 0 else (lB (aC a) ws (ws.length + 1)).2)) M' ∧ Mfr M M') 45 [some (.ref 132), some (.int (nI j)), some (.int 0), some (.int z1), some (.int z2), some (.int (nI i)), some (.int y), none] [] M1 := by
          intro n
          induction n with
          | zero =>
            intro k y z1 z2 M1 hy h1 h2 hk' hs
            subst hy; subst h1; subst h2
            have hI := h.sc hs
            have hM1 := hI.1
            refine st_ild rfl rfl ?_
            refine st_ald rfl rfl ?_
            refine st_gI rfl (by first | exact tT hM1 rfl | assumption | exact rw_T hM1 (by assumption) | exact rw_A hM1 (by assumption)) ?_
            -- at 51: stop
            refine wp_e hI.2.2.2.1.1.2.2.1 ?_
            refine st_b2 rfl (fun _ => ?_) (fun zq => absurd (nI_le (by omega) (by omega)) zq)
            refine st_inc rfl rfl ?_
            refine st_go rfl ?_
            -- at 31: stop
            rw [show k = cf_n (aC a) by omega]
            exact wp_le ms_255 (lc (lc (lc (lc (lc (lc (ln (ln l0)))))))) (ih (i + 1) _ _ _ M1 (nI_1 i) rfl rfl (by omega) hs)
          | succ n ihn =>
            intro k y z1 z2 M1 hy h1 h2 hk' hs
            subst hy; subst h1; subst h2
            have hI := h.sc hs
            have hM1 := hI.1
            have hz := hI.2.1 j hj
            rw [show aR a j = _ from by assumption] at hz
            have hkn : k < cf_n (aC a) := by omega
            have hink := in6 ha.1 hkn
            have hle : (pj (lB (aC a) ws i) (pb (fun k => lfm (aC a) ws i k) k)).1 ≤ 200 := by
              have z1 := Ble i (by omega)
              have z2 := pb_le (f := fun k => lfm (aC a) ws i k) (b := 1) k (fun t _ => fle2 i t)
              show _ + _ ≤ _
              omega
            obtain ⟨M2, hc2, h5, h6⟩ := lk_ins (d + 16) hM1 hj (i := i) (k := k) (by omega) (by omega) hz
            have hs2 := hs.tr h6
            have hI2 := h.sc hs2
            have hM2 := hI2.1
            have hki := insn_kn hk i hkn
            have nxt : ∀ w1 w2 (M3 : pm_M) x8, Msc M M3 → w1 = nI ((pj (lB (aC a) ws i) (pb (fun k => lfm (aC a) ws i k) k)).1 + (lfm (aC a) ws i k).1) → w2 = (if (pj (lB (aC a) ws i) (pb (fun k => lfm (aC a) ws i k) k)).1 + (lfm (aC a) ws i k).1 = 0 then 0 else (pj (lB (aC a) ws i) (pb (fun k => lfm (aC a) ws i k) k)).2 &&& (lfm (aC a) ws i k).2) → pm_WP (pm_call (d + 19)) tb_255 (fun r0 M' => r0 = some (.int (nI (lB (aC a) ws (ws.length + 1)).1)) ∧ IM (sA' a (if (lB (aC a) ws (ws.length + 1)).1 = 0 then 0 else (lB (aC a) ws (ws.length + 1)).2)) M' ∧ Mfr M M') 135 [some (.ref 132), some (.int (nI j)), some (.int 0), some (.int w1), some (.int w2), some (.int (nI i)), some (.int (nI k)), some (.int x8)] [] M3 := by
              intro w1 w2 M3 x8 hs3 e1 e2
              refine st_inc rfl rfl ?_
              refine st_go rfl ?_
              -- at 45: stop
              have e0 : pj (lB (aC a) ws i) (pb (fun k => lfm (aC a) ws i k) (k + 1)) = pj (pj (lB (aC a) ws i) (pb (fun k => lfm (aC a) ws i k) k)) (lfm (aC a) ws i k) := by rw [pb_s, pj_a]
              exact wp_le ms_255 (lc (lc (lc (lc (lc (lc (lc (ln l0)))))))) (ihn (k + 1) _ _ _ M3 (nI_1 k) (by rw [e0]; exact e1) (by rw [e0]; exact e2) (by omega) hs3)
            have skip : ∀ x8, lfm (aC a) ws i k = pe → pm_WP (pm_call (d + 19)) tb_255 (fun r0 M' => r0 = some (.int (nI (lB (aC a) ws (ws.length + 1)).1)) ∧ IM (sA' a (if (lB (aC a) ws (ws.length + 1)).1 = 0 then 0 else (lB (aC a) ws (ws.length + 1)).2)) M' ∧ Mfr M M') 135 [some (.ref 132), some (.int (nI j)), some (.int 0), some (.int (nI (pj (lB (aC a) ws i) (pb (fun k => lfm (aC a) ws i k) k)).1)), some (.int (if (pj (lB (aC a) ws i) (pb (fun k => lfm (aC a) ws i k) k)).1 = 0 then 0 else (pj (lB (aC a) ws i) (pb (fun k => lfm (aC a) ws i k) k)).2)), some (.int (nI i)), some (.int (nI k)), some (.int x8)] [] M2 := by
              intro x8 e
              refine nxt _ _ M2 x8 hs2 (by rw [e]; rfl) ?_
              rw [e]
              show (if (pj (lB (aC a) ws i) (pb (fun k => lfm (aC a) ws i k) k)).1 = 0 then (0 : Int32) else (pj (lB (aC a) ws i) (pb (fun k => lfm (aC a) ws i k) k)).2) = (if (pj (lB (aC a) ws i) (pb (fun k => lfm (aC a) ws i k) k)).1 = 0 then (0 : Int32) else (pj (lB (aC a) ws i) (pb (fun k => lfm (aC a) ws i k) k)).2 &&& (-1 : Int32))
              rw [Int32.and_neg_one]
            have go80 : ∀ x8 : Int32, ((x8 = 1 ∧ ¬ (0 < i ∧ ws.getD (i - 1) 0 = k)) ∨ (x8 = 0 ∧ (0 < i ∧ ws.getD (i - 1) 0 = k))) → pm_WP (pm_call (d + 19)) tb_255 (fun r0 M' => r0 = some (.int (nI (lB (aC a) ws (ws.length + 1)).1)) ∧ IM (sA' a (if (lB (aC a) ws (ws.length + 1)).1 = 0 then 0 else (lB (aC a) ws (ws.length + 1)).2)) M' ∧ Mfr M M') 80 [some (.ref 132), some (.int (nI j)), some (.int 0), some (.int (nI (pj (lB (aC a) ws i) (pb (fun k => lfm (aC a) ws i k) k)).1)), some (.int (if (pj (lB (aC a) ws i) (pb (fun k => lfm (aC a) ws i k) k)).1 = 0 then 0 else (pj (lB (aC a) ws i) (pb (fun k => lfm (aC a) ws i k) k)).2)), some (.int (nI i)), some (.int (nI k)), some (.int x8)] [] M1 := by
              intro x8 hx8
              rcases hx8 with ⟨x1, g⟩ | ⟨x1, g⟩ <;> subst x1
              · refine st_ald rfl rfl ?_
                refine st_ild rfl rfl ?_
                refine st_ild rfl rfl ?_
                refine st_ild rfl rfl ?_
                refine st_cav (As := [_, _, _]) rfl rfl rfl (by first | exact tT hM1 rfl | assumption | exact rw_T hM1 (by assumption) | exact rw_A hM1 (by assumption)) (Nat.le_of_ble_eq_true rfl) (hc2) ?_
                -- at 89: stop
                refine st_ild rfl rfl ?_
                refine st_b1 rfl (fun zq => absurd zq ((by decide))) (fun _ => ?_)
                refine st_ald rfl rfl ?_
                refine st_gR' rfl (by first | exact tT hM2 rfl | assumption | exact rw_T hM2 (by assumption) | exact rw_A hM2 (by assumption)) (by first | exact rR hM2 rfl rfl | assumption | exact rw_R hM2 (by assumption)) ?_
                refine st_ild rfl rfl ?_
                refine st_iald rfl (tT hM2 rfl) (hink) ?_
                -- at 101: stop
                refine wp_e (y := nI (cf_kd (aC a) k)) (by rw [cl6 ha.1 hkn]; exact (hI2.2.2.2.1.2.1 k hkn).1) ?_
                have hkd := (ha.1.2.2.2.2.2.1 k hkn).1
                have n5 : nI (cf_kd (aC a) k) = 5 ↔ cf_kd (aC a) k = 5 := nI_eq (a := cf_kd (aC a) k) (b := 5) (by omega) (by decide)
                refine st_k rfl ?_
                refine st_b2 rfl (fun g5 => ?_) (fun g5 => ?_)
                -- at 102: split 135 105
                · have g5 := n5.mp g5
                  exact skip _ (by unfold lfm; rw [if_pos (Or.inr g5)])
                · have g5 : ¬ cf_kd (aC a) k = 5 := fun z => g5 (n5.mpr z)
                  have e : lfm (aC a) ws i k = lf (aC a) ws i k := by unfold lfm; rw [if_neg (fun z => z.elim g g5)]
                  refine st_ald rfl rfl ?_
                  refine st_cav (As := []) rfl rfl rfl (by first | exact tT hM2 rfl | assumption | exact rw_T hM2 (by assumption) | exact rw_A hM2 (by assumption)) (Nat.le_of_ble_eq_true rfl) (m_lookRight (d + 15) hM2 ha.1 hI2.2.2.2.1 hki h5) ?_
                  refine st_b1 rfl (fun g6 => ?_) (fun g6 => ?_)
                  -- at 109: split 135 112
                  · have g6 : ¬ rt (aC a) (insn ws i k) := fun z => b01_t z g6
                    exact skip _ (by rw [e]; unfold lf; rw [if_neg g6])
                  · have g6 := Decidable.not_not.mp (fun z => g6 (b01_f z))
                    have e2 : lf (aC a) ws i k = (1, bi ((rd (aC a) (insn ws i k)).map nI) (rd (aC a) (insn ws i k)).length) := by unfold lf; rw [if_pos g6]
                    obtain ⟨M3, hc3, h7⟩ := m_signsOfLook (d + 16) hM2 ha.1 hI2.2.2.2.1 hki h5
                    have hs3 := hs2.tr h7
                    refine st_ild rfl rfl ?_
                    refine st_b1 rfl (fun g7 => ?_) (fun g7 => ?_)
                    -- at 113: split 123 116
                    · have g7 : ¬ (pj (lB (aC a) ws i) (pb (fun k => lfm (aC a) ws i k) k)).1 = 0 := fun z => g7 (by rw [z]; rfl)
                      refine st_ild rfl rfl ?_
                      refine st_ald rfl rfl ?_
                      refine st_cav (As := []) rfl rfl rfl (by first | exact tT hM2 rfl | assumption | exact rw_T hM2 (by assumption) | exact rw_A hM2 (by assumption)) (Nat.le_of_ble_eq_true rfl) (hc3) ?_
                      refine st_ib rfl ?_
                      refine st_ist rfl ?_
                      refine st_inc rfl rfl ?_
                      -- at 135: stop
                      refine nxt _ _ M3 _ hs3 (by rw [e, e2, nI_1]) ?_
                      rw [e, e2, if_neg g7, if_neg (by omega)]
                    · have g7 : (pj (lB (aC a) ws i) (pb (fun k => lfm (aC a) ws i k) k)).1 = 0 := (nI_eq (a := (pj (lB (aC a) ws i) (pb (fun k => lfm (aC a) ws i k) k)).1) (b := 0) (by omega) (by decide)).mp (Decidable.not_not.mp g7)
                      have g8 : (pj (lB (aC a) ws i) (pb (fun k => lfm (aC a) ws i k) k)).2 = -1 := by
                        have key : ∀ (f : Nat → Pb) n, (∀ t, t < n → (f t).1 = 0 → (f t).2 = -1) → (pb f n).1 = 0 → (pb f n).2 = -1 := by
                          intro f n
                          induction n with
                          | zero => intro _ _; rfl
                          | succ n ihk =>
                            intro hf h0
                            have h0 : (pb f n).1 + (f n).1 = 0 := h0
                            show (pb f n).2 &&& (f n).2 = -1
                            rw [ihk (fun t ht => hf t (by omega)) (by omega), hf n (by omega) (by omega)]
                            decide
                        have k1 : ∀ i k, (lfm (aC a) ws i k).1 = 0 → (lfm (aC a) ws i k).2 = -1 := by
                          intro i k
                          unfold lfm
                          split
                          · intro _; rfl
                          · unfold lf
                            split
                            · intro z; exact absurd (show (1 : Nat) = 0 from z) (by decide)
                            · intro _; rfl
                        have h0 : (lB (aC a) ws i).1 + (pb (fun k => lfm (aC a) ws i k) k).1 = 0 := g7
                        have q1 : (lB (aC a) ws i).2 = -1 := key _ i (fun t _ z => key _ (cf_n (aC a)) (fun q _ => k1 t q) z) (show (lB (aC a) ws i).1 = 0 by omega)
                        have q2 : (pb (fun k => lfm (aC a) ws i k) k).2 = -1 := key _ k (fun q _ => k1 i q) (by omega)
                        show (lB (aC a) ws i).2 &&& (pb (fun k => lfm (aC a) ws i k) k).2 = -1
                        rw [q1, q2]
                        decide
                      refine st_ald rfl rfl ?_
                      refine st_cav (As := []) rfl rfl rfl (by first | exact tT hM2 rfl | assumption | exact rw_T hM2 (by assumption) | exact rw_A hM2 (by assumption)) (Nat.le_of_ble_eq_true rfl) (hc3) ?_
                      refine st_go rfl ?_
                      refine st_ist rfl ?_
                      refine st_inc rfl rfl ?_
                      -- at 135: stop
                      refine nxt _ _ M3 _ hs3 (by rw [e, e2, nI_1]) ?_
                      rw [e, e2, if_neg (by omega), g8]
                      show _ = (-1 : Int32) &&& _
                      rw [Int32.neg_one_and]
              · refine st_ald rfl rfl ?_
                refine st_ild rfl rfl ?_
                refine st_ild rfl rfl ?_
                refine st_ild rfl rfl ?_
                refine st_cav (As := [_, _, _]) rfl rfl rfl (by first | exact tT hM1 rfl | assumption | exact rw_T hM1 (by assumption) | exact rw_A hM1 (by assumption)) (Nat.le_of_ble_eq_true rfl) (hc2) ?_
                -- at 89: stop
                refine st_ild rfl rfl ?_
                refine st_b1 rfl (fun _ => ?_) (fun zq => absurd (rfl) zq)
                -- at 135: stop
                exact skip _ (by unfold lfm; rw [if_pos (Or.inl g)])
            refine st_ild rfl rfl ?_
            refine st_ald rfl rfl ?_
            refine st_gI rfl (by first | exact tT hM1 rfl | assumption | exact rw_T hM1 (by assumption) | exact rw_A hM1 (by assumption)) ?_
            -- at 51: stop
            refine wp_e hI.2.2.2.1.1.2.2.1 ?_
            refine st_b2 rfl (fun zq => absurd zq (nI_ge (by omega) (by omega))) (fun _ => ?_)
            refine st_ild rfl rfl ?_
            refine st_b1 rfl (fun g0 => ?_) (fun g0 => ?_)
            -- at 56: split 73 59
            · have g0 : i = 0 := (nI_eq (a := i) (b := 0) (by omega) (by decide)).mp g0
              refine st_k rfl ?_
              refine st_go rfl ?_
              refine st_ist rfl ?_
              -- at 80: stop
              exact go80 1 (Or.inl ⟨rfl, fun z => by omega⟩)
            · have g0 : 0 < i := by
                rcases Nat.eq_zero_or_pos i with z | z
                · subst z; exact absurd rfl g0
                · exact z
              have hkk := kn_getD hk (show i - 1 < ws.length by omega)
              have hv : gI M1 135 (40 * j + (i - 1)) = nI (ws.getD (i - 1) 0) := by rw [hz.2.2 _ (by rw [map_len]; omega), map_getD (by omega)]
              refine st_ald rfl rfl ?_
              refine st_ild rfl rfl ?_
              refine st_ild rfl rfl ?_
              refine st_k rfl ?_
              refine st_ib rfl ?_
              -- at 65: stop
              rw [nI_p1 g0]
              refine st_cav (As := [_, _]) rfl rfl rfl (by first | exact tT hM1 rfl | assumption | exact rw_T hM1 (by assumption) | exact rw_A hM1 (by assumption)) (Nat.le_of_ble_eq_true rfl) (m_rowAt (d + 18) hM1 hj (show i - 1 < 40 by omega)) ?_
              -- at 68: stop
              refine wp_e hv ?_
              refine st_ild rfl rfl ?_
              refine st_b2 rfl (fun g2 => ?_) (fun g2 => ?_)
              -- at 70: split 77 73
              · have g2 := (nI_eq (by omega) (by omega)).mp g2
                refine st_k rfl ?_
                refine st_ist rfl ?_
                -- at 80: stop
                exact go80 0 (Or.inr ⟨rfl, g0, g2⟩)
              · refine st_k rfl ?_
                refine st_go rfl ?_
                refine st_ist rfl ?_
                -- at 80: stop
                exact go80 1 (Or.inl ⟨rfl, fun z => g2 (by rw [z.2])⟩)
        refine st_ild rfl rfl ?_
        refine st_ald rfl rfl ?_
        refine st_gR' rfl (by first | exact tT hM1 rfl | assumption | exact rw_T hM1 (by assumption) | exact rw_A hM1 (by assumption)) (by first | exact rR hM1 rfl rfl | assumption | exact rw_R hM1 (by assumption)) ?_
        refine st_ild rfl rfl ?_
        refine st_iald rfl (by first | exact tT hM1 rfl | assumption | exact rw_T hM1 (by assumption) | exact rw_A hM1 (by assumption)) (by first | decide | assumption | exact vp_in_nI (by omega) (by decide)) ?_
        -- at 39: stop
        refine wp_e (y := nI ws.length) (by rw [e1, hz.1, map_len]) ?_
        refine st_b2 rfl (fun zq => absurd zq (nI_nlt (by omega) (by omega))) (fun _ => ?_)
        refine st_k rfl ?_
        refine st_ist rfl ?_
        -- at 45: stop
        exact loop2 (cf_n (aC a)) 0 _ _ _ M1 rfl (by rw [show pb (fun k => lfm (aC a) ws i k) 0 = pe from rfl, pj_e]) (by rw [show pb (fun k => lfm (aC a) ws i k) 0 = pe from rfl, pj_e]) (by omega) hs
    obtain ⟨r, M', hc, hr', h9, h10⟩ := eq_255 (d := d + 19) (A := [.ref 132, .int (nI j)]) (M := M) (Q := fun r0 M' => r0 = some (.int (nI (lB (aC a) ws (ws.length + 1)).1)) ∧ IM (sA' a (if (lB (aC a) ws (ws.length + 1)).1 = 0 then 0 else (lB (aC a) ws (ws.length + 1)).2)) M' ∧ Mfr M M') (Nat.le_of_ble_eq_true rfl) (by
      refine st_ild rfl rfl ?_
      refine st_call (As := [_]) rfl rfl rfl (Nat.le_of_ble_eq_true rfl) (m_isRow (d + 17) _) ?_
      refine st_b1 rfl (fun _ => ?_) (fun zq => absurd (b01_t h2) zq)
      refine st_ald rfl rfl ?_
      refine st_ild rfl rfl ?_
      refine st_k rfl ?_
      refine st_cav (As := [_, _]) rfl rfl rfl (by first | exact tT hM rfl | assumption | exact rw_T hM (by assumption) | exact rw_A hM (by assumption)) (Nat.le_of_ble_eq_true rfl) (hc0) ?_
      refine st_ist rfl ?_
      refine st_ild rfl rfl ?_
      refine st_b1 rfl (fun _ => ?_) (fun zq => absurd ((by decide)) zq)
      refine st_k rfl ?_
      refine st_ist rfl ?_
      refine st_k rfl ?_
      refine st_ist rfl ?_
      refine st_k rfl ?_
      refine st_ist rfl ?_
      -- at 31: stop
      exact loop1 (ws.length + 1) 0 _ _ _ M0 rfl rfl rfl (by omega) h4)
    subst hr'
    exact ⟨M', hc, h9, h10⟩
end LNT

/-! COUNTING ROPES: the class's tally -/
def fk (c : Cf) (m last room k : Nat) : Nat := if bar c last k = true then 0 else if tk c last k ≤ room then cnt c m k (room - tk c last k) else 0
theorem cnt_fk (c : Cf) (m last room : Nat) : cnt c (m + 1) last room = sk (fk c m last room) (cf_n c) := rfl
theorem sk_s (f : Nat → Nat) (n : Nat) : sk f (n + 1) = sk f n + f n := rfl
theorem sk_mono (f : Nat → Nat) {k : Nat} : ∀ n, k ≤ n → sk f k ≤ sk f n
  | 0, h => by rw [show k = 0 by omega]; exact Nat.le_refl _
  | n + 1, h => by
    rcases Nat.lt_or_ge k (n + 1) with z | z
    · have := sk_mono f n (show k ≤ n by omega)
      rw [sk_s]; omega
    · rw [show k = n + 1 by omega]; exact Nat.le_refl _
def pks (f : Nat → Nat) (t : Nat) : Nat → Nat
  | 0 => 0
  | n + 1 => if sk f n ≤ t then n else pks f t n
theorem pks_ok {f : Nat → Nat} {t : Nat} : ∀ n, t < sk f n → pks f t n < n ∧ sk f (pks f t n) ≤ t ∧ t < sk f (pks f t n) + f (pks f t n)
  | 0, h => by simp [sk] at h
  | n + 1, h => by
    unfold pks
    by_cases g : sk f n ≤ t
    · rw [if_pos g]
      exact ⟨by omega, g, h⟩
    · rw [if_neg g]
      obtain ⟨h1, h2, h3⟩ := pks_ok (f := f) (t := t) n (by omega)
      exact ⟨by omega, h2, h3⟩
def fnd (c : Cf) : Nat → Nat → Nat → Nat → List Nat
  | 0, _, _, _ => []
  | m + 1, last, room, t => pks (fk c m last room) t (cf_n c) :: fnd c m (pks (fk c m last room) t (cf_n c)) (room - tk c last (pks (fk c m last room) t (cf_n c))) (t - sk (fk c m last room) (pks (fk c m last room) t (cf_n c)))
theorem fnd_len (c : Cf) : ∀ m last room t, (fnd c m last room t).length = m
  | 0, _, _, _ => rfl
  | m + 1, last, room, t => by
    unfold fnd
    rw [List.length_cons, fnd_len c m]
/-- the choice of a KNOT is one that can be -/
theorem pick_ok {c : Cf} {m last room t : Nat} (h : t < cnt c (m + 1) last room) : pks (fk c m last room) t (cf_n c) < cf_n c ∧ sk (fk c m last room) (pks (fk c m last room) t (cf_n c)) ≤ t ∧ t - sk (fk c m last room) (pks (fk c m last room) t (cf_n c)) < cnt c m (pks (fk c m last room) t (cf_n c)) (room - tk c last (pks (fk c m last room) t (cf_n c))) ∧ bar c last (pks (fk c m last room) t (cf_n c)) = false ∧ tk c last (pks (fk c m last room) t (cf_n c)) ≤ room := by
  rw [cnt_fk] at h
  obtain ⟨h1, h2, h3⟩ := pks_ok _ h
  generalize pks (fk c m last room) t (cf_n c) = k at h1 h2 h3 ⊢
  have hf : 0 < fk c m last room k := by omega
  have e1 : bar c last k = false := by
    cases hb : bar c last k
    · rfl
    · unfold fk at hf; rw [if_pos hb] at hf; omega
  have e2 : tk c last k ≤ room := by
    unfold fk at hf
    rw [e1, if_neg (by decide)] at hf
    by_cases g : tk c last k ≤ room
    · exact g
    · rw [if_neg g] at hf; omega
  have e3 : fk c m last room k = cnt c m k (room - tk c last k) := by
    unfold fk
    rw [e1, if_neg (by decide), if_pos e2]
  exact ⟨h1, h2, by omega, e1, e2⟩
theorem fnd_kn {c : Cf} : ∀ m last room t, t < cnt c m last room → kn c (fnd c m last room t)
  | 0, _, _, _, _ => fun k hk => absurd hk List.not_mem_nil
  | m + 1, last, room, t, h => by
    obtain ⟨h1, h2, h3, h4, h5⟩ := pick_ok h
    intro k hk
    unfold fnd at hk
    rcases List.mem_cons.mp hk with z | z
    · rw [z]; exact h1
    · exact fnd_kn m _ _ _ h3 k z
/-- a stretch of longs written -/
def wL (M : pm_M) (k s n : Nat) (g : Nat → Int64) : pm_M := (M.1, M.2.1, fun a b => if a = k ∧ s ≤ b ∧ b < s + n then g (b - s) else M.2.2.1 a b, M.2.2.2)
theorem gL_wL (M : pm_M) (k s n : Nat) (g : Nat → Int64) (k' i : Nat) : gL (wL M k s n g) k' i = if k' = k ∧ s ≤ i ∧ i < s + n then g (i - s) else gL M k' i := rfl
theorem wL_ext {M : pm_M} {k s n : Nat} {M' : pm_M} {g : Nat → Int64} (h1 : M'.1 = M.1) (h2 : M'.2.1 = M.2.1) (h3 : M'.2.2.2 = M.2.2.2) (h4 : ∀ a b, gL M' a b = gL (wL M k s n g) a b) : M' = wL M k s n g := by
  obtain ⟨x1, x2, x3, x4⟩ := M'
  obtain ⟨y1, y2, y3, y4⟩ := M
  dsimp only at h1 h2 h3
  subst h1; subst h2; subst h3
  unfold wL
  congr 2
  congr 1
  funext a b
  exact h4 a b
theorem wL_s (M : pm_M) (k s n : Nat) (g : Nat → Int64) : sL (wL M k s n g) k (s + n) (g n) = wL M k s (n + 1) g := by
  refine wL_ext rfl rfl rfl (fun a b => ?_)
  rw [gL_sL, gL_wL, gL_wL]
  by_cases h : a = k
  · subst h
    by_cases h1 : b = s + n
    · subst h1
      rw [if_pos ⟨rfl, rfl⟩, if_pos ⟨rfl, by omega, by omega⟩, Nat.add_sub_cancel_left]
    · rw [if_neg (fun z => h1 z.2)]
      by_cases h2 : s ≤ b ∧ b < s + n
      · rw [if_pos ⟨rfl, h2⟩, if_pos ⟨rfl, by omega, by omega⟩]
      · rw [if_neg (fun z => h2 z.2), if_neg (fun z => h2 (by omega))]
  · rw [if_neg (fun z => h z.1), if_neg (fun z => h z.1), if_neg (fun z => h z.1)]
theorem wL_id {M : pm_M} {k s n : Nat} {g : Nat → Int64} (h : ∀ r, r < n → g r = gL M k (s + r)) : wL M k s n g = M := by
  refine (wL_ext rfl rfl rfl (fun a b => ?_)).symm
  rw [gL_wL]
  split
  case isTrue z =>
    rw [h _ (by omega), z.1]
    congr 1
    omega
  case isFalse z => rfl
theorem wL_cg {M : pm_M} {k s n : Nat} {g g' : Nat → Int64} (h : ∀ r, r < n → g r = g' r) : wL M k s n g = wL M k s n g' := by
  refine wL_ext rfl rfl rfl (fun a b => ?_)
  rw [gL_wL, gL_wL]
  split
  case isTrue z => exact h _ (by omega)
  case isFalse z => rfl
theorem wL_wL (M : pm_M) (k s n : Nat) (g g' : Nat → Int64) : wL (wL M k s n g) k s n g' = wL M k s n g' := by
  refine wL_ext rfl rfl rfl (fun a b => ?_)
  rw [gL_wL, gL_wL, gL_wL]
  split
  case isTrue z => rfl
  case isFalse z => rfl
theorem pm_S.wL {S : Nat → Prop} {M M1 : pm_M} (h : pm_S S M M1) {k : Nat} (hk : S k) (s n : Nat) (g : Nat → Int64) : pm_S S M (wL M1 k s n g) := by
  refine ⟨h.1, h.2.1, fun q hq j => ⟨(h.2.2 q hq j).1, ?_⟩⟩
  have hne : q ≠ k := fun e => hq (by rw [e]; exact hk)
  rw [gL_wL, if_neg (fun z => hne z.1)]
  exact (h.2.2 q hq j).2
section TAL
variable {a : As} {M : pm_M} {c : Cf}
theorem c_setWays (d : Nat) {k N sp en : Nat} (hk : M.1[k]? = some (101, N)) (hN : N < 2 ^ 30) (hs : sp + 100 ≤ N) (he : en < 2 ^ 31) : pm_call (d + 1) 148 [.ref k, .int (nI sp), .int (nI en)] M none (wL M k sp 100 (fun r => lN (if en ≤ r then 1 else 0))) := by
  refine en_148 (Nat.le_of_ble_eq_true rfl) ?_
  refine st_k rfl ?_
  refine st_ist rfl ?_
  -- at 2: stop
  refine wp_for 100 (fun i L M1 => ∃ x, x = nI i ∧ L = [some (.ref k), some (.int (nI sp)), some (.int (nI en)), some (.int x)] ∧ M1 = wL M k sp i (fun r => lN (if en ≤ r then 1 else 0))) ?_ ?_ 0 _ _ (Nat.zero_le _) ⟨_, rfl, rfl, (wL_id (fun r hr => by omega)).symm⟩
  · rintro i L M1 hi ⟨x, rfl, rfl, rfl⟩ ih
    have hin : vp_in (nI (sp + i)) N := vp_in_nI (by omega) (by omega)
    refine st_ild rfl rfl ?_
    refine st_k rfl ?_
    refine st_b2 rfl (fun zq => absurd zq (nI_ge (a := i) (b := 100) (by omega) (by decide))) (fun _ => ?_)
    refine st_ald rfl rfl ?_
    refine st_ild rfl rfl ?_
    refine st_ild rfl rfl ?_
    refine st_ib rfl ?_
    -- at 12: stop
    refine wp_e (nI_add sp i) ?_
    refine st_ild rfl rfl ?_
    refine st_ild rfl rfl ?_
    refine st_b2 rfl (fun g => ?_) (fun g => ?_)
    -- at 14: split 21 17
    · have g : ¬ en ≤ i := Nat.not_le.mpr ((nI_ltI (by omega) he).mp g)
      refine st_k rfl ?_
      refine st_last rfl (hk) (hin) ?_
      refine st_inc rfl rfl ?_
      refine st_go rfl ?_
      -- at 2: stop
      refine ih _ _ ⟨_, nI_1 i, rfl, ?_⟩
      rw [nI_clamp (by omega), ← wL_s, if_neg g]
      rfl
    · have g : en ≤ i := Nat.not_lt.mp (fun z => g (nI_lt z he))
      refine st_k rfl ?_
      refine st_go rfl ?_
      refine st_last rfl (hk) (hin) ?_
      refine st_inc rfl rfl ?_
      refine st_go rfl ?_
      -- at 2: stop
      refine ih _ _ ⟨_, nI_1 i, rfl, ?_⟩
      rw [nI_clamp (by omega), ← wL_s, if_pos g]
      rfl
  · rintro L M1 ⟨x, rfl, rfl, rfl⟩
    refine st_ild rfl rfl ?_
    refine st_k rfl ?_
    refine st_b2 rfl (fun _ => ?_) (fun zq => absurd (nI_le (a := 100) (b := 100) (by decide) (by decide)) zq)
    -- at 29: op_vret
    exact st_vret rfl ⟨rfl, rfl⟩
theorem c_addWays (d : Nat) {k N sp np tn : Nat} (hk : M.1[k]? = some (101, N)) (hN : N < 2 ^ 30) (hs : sp + 100 ≤ N) (hp : np + 100 ≤ N) (hd : sp + 100 ≤ np ∨ np + 100 ≤ sp) (ht : tn ≤ 100) : pm_call (d + 1) 149 [.ref k, .int (nI sp), .int (nI np), .int (nI tn)] M none (wL M k sp 100 (fun r => if tn ≤ r then gL M k (sp + r) + gL M k (np + (r - tn)) else gL M k (sp + r))) := by
  refine en_149 (Nat.le_of_ble_eq_true rfl) ?_
  refine st_ild rfl rfl ?_
  refine st_ist rfl ?_
  -- at 3: stop
  refine wp_for 100 (fun i L M1 => ∃ x, tn ≤ i ∧ x = nI i ∧ L = [some (.ref k), some (.int (nI sp)), some (.int (nI np)), some (.int (nI tn)), some (.int x)] ∧ M1 = wL M k sp i (fun r => if tn ≤ r then gL M k (sp + r) + gL M k (np + (r - tn)) else gL M k (sp + r))) ?_ ?_ tn _ _ ht ⟨_, Nat.le_refl _, rfl, rfl, (wL_id (fun r hr => by rw [if_neg (by omega)])).symm⟩
  · rintro i L M1 hi ⟨x, hti, rfl, rfl, rfl⟩ ih
    have hin : vp_in (nI (sp + i)) N := vp_in_nI (by omega) (by omega)
    have hin2 : vp_in (nI (np + i - tn)) N := vp_in_nI (by omega) (by omega)
    refine st_ild rfl rfl ?_
    refine st_k rfl ?_
    refine st_b2 rfl (fun zq => absurd zq (nI_ge (a := i) (b := 100) (by omega) (by decide))) (fun _ => ?_)
    refine st_ald rfl rfl ?_
    refine st_ild rfl rfl ?_
    refine st_ild rfl rfl ?_
    refine st_ib rfl ?_
    -- at 15: stop
    refine wp_e (nI_add sp i) ?_
    refine st_dup2 rfl rfl rfl ?_
    refine st_lald rfl (hk) (hin) ?_
    refine st_ald rfl rfl ?_
    refine st_ild rfl rfl ?_
    refine st_ild rfl rfl ?_
    refine st_ib rfl ?_
    -- at 22: stop
    refine wp_e (nI_add np i) ?_
    refine st_ild rfl rfl ?_
    refine st_ib rfl ?_
    -- at 24: stop
    refine wp_e (pk_sub (by omega)) ?_
    refine st_lald rfl (hk) (hin2) ?_
    refine st_lb rfl ?_
    refine st_last rfl (hk) (hin) ?_
    refine st_inc rfl rfl ?_
    refine st_go rfl ?_
    -- at 3: stop
    refine ih _ _ ⟨_, by omega, nI_1 i, rfl, ?_⟩
    rw [nI_clamp (by omega), nI_clamp (by omega), ← wL_s, gL_wL, if_neg (by omega), gL_wL, if_neg (by omega)]
    congr 1
    rw [if_pos hti, show np + i - tn = np + (i - tn) by omega]
  · rintro L M1 ⟨x, hti, rfl, rfl, rfl⟩
    refine st_ild rfl rfl ?_
    refine st_k rfl ?_
    refine st_b2 rfl (fun _ => ?_) (fun zq => absurd (nI_le (a := 100) (b := 100) (by decide) (by decide)) zq)
    -- at 33: op_vret
    exact st_vret rfl ⟨rfl, rfl⟩
theorem c_spot8 (d : Nat) (v w : Nat) : pm_call (d + 1) 86 [.int (nI v), .int (nI w)] M (some (.int (nI ((v * 7 + w) * 100)))) M := by
  refine en_86 (Nat.le_of_ble_eq_true rfl) ?_
  refine st_ild rfl rfl ?_
  refine st_k rfl ?_
  refine st_ib rfl ?_
  refine st_ild rfl rfl ?_
  refine st_ib rfl ?_
  refine st_k rfl ?_
  refine st_ib rfl ?_
  -- at 9: op_iret
  refine st_iret rfl ⟨?_, rfl⟩
  show some (Value.int ((nI v * nI 7 + nI w) * nI 100)) = _
  rw [pk_mul, nI_add, pk_mul]
theorem c_workOutSpot (d : Nat) (hM : pm_ok M) (hw : cf_wf c) (hc : CC c M) {level last : Nat} (hv : level ≤ 20) (hl : lst c last) (h : ∀ v, level = v + 1 → ∀ k, k < cf_n c → ∀ r, r < 100 → gL M 26 ((v * 7 + k) * 100 + r) = lN (cnt c v k r)) : pm_call (d + 2) 85 [.ref 25, .int (nI level), .int (nI last)] M none (wL M 26 ((level * 7 + last) * 100) 100 (fun r => lN (cnt c level last r))) := by
  refine en_85 (Nat.le_of_ble_eq_true rfl) ?_
  have hn := hw.1
  have hl6 := lst6 hw hl
  have t26 : M.1[26]? = some (101, 14700) := tT hM rfl
  have hin7 : vp_in (nI last) 7 := vp_in_nI (by omega) (by decide)
  have hem := em_le c last
  refine st_ild rfl rfl ?_
  refine st_ild rfl rfl ?_
  refine st_call (As := [_, _]) rfl rfl rfl (Nat.le_of_ble_eq_true rfl) (c_spot8 d _ _) ?_
  refine st_ist rfl ?_
  refine st_ald rfl rfl ?_
  refine st_gR' rfl (by first | exact tT hM rfl | assumption | exact rw_T hM (by assumption) | exact rw_A hM (by assumption)) (by first | exact rR hM rfl rfl | assumption | exact rw_R hM (by assumption)) ?_
  refine st_ild rfl rfl ?_
  refine st_ild rfl rfl ?_
  -- at 12: stop
  cases level with
  | zero =>
    refine st_b1 rfl (fun zq => absurd zq ((fun z => z rfl))) (fun _ => ?_)
    refine st_ald rfl rfl ?_
    refine st_gR' rfl (by first | exact tT hM rfl | assumption | exact rw_T hM (by assumption) | exact rw_A hM (by assumption)) (by first | exact rR hM rfl rfl | assumption | exact rw_R hM (by assumption)) ?_
    refine st_gR' rfl (by first | exact tT hM rfl | assumption | exact rw_T hM (by assumption) | exact rw_A hM (by assumption)) (by first | exact rR hM rfl rfl | assumption | exact rw_R hM (by assumption)) ?_
    refine st_ild rfl rfl ?_
    refine st_iald rfl (by first | exact tT hM rfl | assumption | exact rw_T hM (by assumption) | exact rw_A hM (by assumption)) (by first | decide | assumption | exact vp_in_nI (by omega) (by decide)) ?_
    -- at 24: stop
    refine wp_e (y := nI (em c last)) (by rw [nI_clamp (by omega)]; exact (hc.2.2.2.1 last hl).2.1) ?_
    refine st_go rfl ?_
    refine st_call (As := [_, _, _]) rfl rfl rfl (Nat.le_of_ble_eq_true rfl) (c_setWays d t26 (by decide) (by omega) (by omega)) ?_
    refine st_k rfl ?_
    refine st_ist rfl ?_
    -- at 36: stop
    have hM1 : pm_ok (wL M 26 ((0 * 7 + last) * 100) 100 (fun r => lN (if em c last ≤ r then 1 else 0))) := hM
    refine st_ild rfl rfl ?_
    refine st_ald rfl rfl ?_
    refine st_gR' rfl (by first | exact tT hM1 rfl | assumption | exact rw_T hM1 (by assumption) | exact rw_A hM1 (by assumption)) (by first | exact rR hM1 rfl rfl | assumption | exact rw_R hM1 (by assumption)) ?_
    refine st_gI rfl (by first | exact tT hM1 rfl | assumption | exact rw_T hM1 (by assumption) | exact rw_A hM1 (by assumption)) ?_
    -- at 45: stop
    refine wp_e hc.1.2.2.1 ?_
    by_cases g : cf_n c = 0
    · refine st_b2 rfl (fun _ => ?_) (fun zq => absurd (nI_le (a := cf_n c) (b := 0) (by omega) (by decide)) zq)
      -- at 97: op_vret
      exact st_vret rfl ⟨rfl, rfl⟩
    · refine st_b2 rfl (fun zq => absurd zq (nI_ge (a := 0) (b := cf_n c) (by omega) (by omega))) (fun _ => ?_)
      refine st_ild rfl rfl ?_
      refine st_b1 rfl (fun _ => ?_) (fun zq => absurd ((by decide)) zq)
      -- at 97: op_vret
      exact st_vret rfl ⟨rfl, rfl⟩
  | succ v =>
    have hv0 : ¬ nI (v + 1) = 0 := nI_ne0 (by omega) (by omega)
    refine st_b1 rfl (fun _ => ?_) (fun zq => absurd (hv0) zq)
    refine st_k rfl ?_
    refine st_call (As := [_, _, _]) rfl rfl rfl (Nat.le_of_ble_eq_true rfl) (c_setWays (en := 1000) d t26 (by decide) (by omega) (by decide)) ?_
    refine st_k rfl ?_
    refine st_ist rfl ?_
    -- at 36: stop
    refine wp_for (cf_n c) (fun j L M1 => ∃ x, x = nI j ∧ L = [some (.ref 25), some (.int (nI (v + 1))), some (.int (nI last)), some (.int (nI (((v + 1) * 7 + last) * 100))), some (.int x)] ∧ M1 = wL M 26 (((v + 1) * 7 + last) * 100) 100 (fun r => lN (sk (fk c v last r) j))) ?_ ?_ 0 _ _ (Nat.zero_le _) ⟨_, rfl, rfl, wL_cg (fun r hr => by rw [if_neg (by omega)]; rfl)⟩
    · rintro j L M1 hj ⟨x, rfl, rfl, rfl⟩ ih
      have hM1 : pm_ok (wL M 26 (((v + 1) * 7 + last) * 100) 100 (fun r => lN (sk (fk c v last r) j))) := hM
      have hc1 : CC c (wL M 26 (((v + 1) * 7 + last) * 100) 100 (fun r => lN (sk (fk c v last r) j))) := hc
      have htk := tk_le hw (last := last) hj
      refine st_ild rfl rfl ?_
      refine st_ald rfl rfl ?_
      refine st_gR' rfl (by first | exact tT hM1 rfl | assumption | exact rw_T hM1 (by assumption) | exact rw_A hM1 (by assumption)) (by first | exact rR hM1 rfl rfl | assumption | exact rw_R hM1 (by assumption)) ?_
      refine st_gI rfl (by first | exact tT hM1 rfl | assumption | exact rw_T hM1 (by assumption) | exact rw_A hM1 (by assumption)) ?_
      -- at 45: stop
      refine wp_e hc.1.2.2.1 ?_
      refine st_b2 rfl (fun zq => absurd zq (nI_ge (by omega) (by omega))) (fun _ => ?_)
      refine st_ild rfl rfl ?_
      refine st_b1 rfl (fun zq => absurd zq (nI_nle (by omega) (by omega))) (fun _ => ?_)
      refine st_ald rfl rfl ?_
      refine st_gR' rfl (by first | exact tT hM1 rfl | assumption | exact rw_T hM1 (by assumption) | exact rw_A hM1 (by assumption)) (by first | exact rR hM1 rfl rfl | assumption | exact rw_R hM1 (by assumption)) ?_
      refine st_ild rfl rfl ?_
      refine st_ild rfl rfl ?_
      refine st_cav (As := [_, _]) rfl rfl rfl (by first | exact tT hM1 rfl | assumption | exact rw_T hM1 (by assumption) | exact rw_A hM1 (by assumption)) (Nat.le_of_ble_eq_true rfl) (c_isBarred d hM1 hw hc1 hl hj) ?_
      refine st_b1 rfl (fun g => ?_) (fun g => ?_)
      -- at 62: split 91 65
      · have g := Decidable.not_not.mp (fun z => g (b01_f z))
        refine st_inc rfl rfl ?_
        refine st_go rfl ?_
        -- at 36: stop
        refine ih _ _ ⟨_, nI_1 j, rfl, wL_cg (fun r hr => ?_)⟩
        rw [sk_s, show fk c v last r j = 0 by unfold fk; rw [if_pos g], Nat.add_zero]
      · have g : ¬ bar c last j = true := fun z => g (b01_t z)
        refine st_ald rfl rfl ?_
        refine st_gR' rfl (by first | exact tT hM1 rfl | assumption | exact rw_T hM1 (by assumption) | exact rw_A hM1 (by assumption)) (by first | exact rR hM1 rfl rfl | assumption | exact rw_R hM1 (by assumption)) ?_
        refine st_ild rfl rfl ?_
        refine st_ild rfl rfl ?_
        refine st_k rfl ?_
        refine st_ib rfl ?_
        -- at 73: stop
        refine wp_e (nI_pred v) ?_
        refine st_ild rfl rfl ?_
        refine st_call (As := [_, _]) rfl rfl rfl (Nat.le_of_ble_eq_true rfl) (c_spot8 d _ _) ?_
        refine st_ald rfl rfl ?_
        refine st_gR' rfl (by first | exact tT hM1 rfl | assumption | exact rw_T hM1 (by assumption) | exact rw_A hM1 (by assumption)) (by first | exact rR hM1 rfl rfl | assumption | exact rw_R hM1 (by assumption)) ?_
        refine st_ild rfl rfl ?_
        refine st_ild rfl rfl ?_
        refine st_cav (As := [_, _]) rfl rfl rfl (by first | exact tT hM1 rfl | assumption | exact rw_T hM1 (by assumption) | exact rw_A hM1 (by assumption)) (Nat.le_of_ble_eq_true rfl) (c_takesBehind d hM1 hw hc1 hl hj) ?_
        refine st_call (As := [_, _, _, _]) rfl rfl rfl (Nat.le_of_ble_eq_true rfl) (c_addWays d (tT hM1 rfl) (by decide) (by omega) (by omega) (by omega) (by omega)) ?_
        refine st_inc rfl rfl ?_
        refine st_go rfl ?_
        -- at 36: stop
        refine ih _ _ ⟨_, nI_1 j, rfl, ?_⟩
        rw [wL_wL]
        refine wL_cg (fun r hr => ?_)
        have hA : gL (wL M 26 (((v + 1) * 7 + last) * 100) 100 (fun r => lN (sk (fk c v last r) j))) 26 (((v + 1) * 7 + last) * 100 + r) = lN (sk (fk c v last r) j) := by rw [gL_wL, if_pos ⟨rfl, by omega, by omega⟩, Nat.add_sub_cancel_left]
        rw [sk_s]
        by_cases g2 : tk c last j ≤ r
        · rw [if_pos g2, hA, gL_wL, if_neg (by omega), h v rfl j hj (r - tk c last j) (by omega), lN_add]
          congr 2
          unfold fk
          rw [if_neg g, if_pos g2]
        · rw [if_neg g2, hA]
          congr 1
          unfold fk
          rw [if_neg g, if_neg g2, Nat.add_zero]
    · rintro L M1 ⟨x, rfl, rfl, rfl⟩
      have hM1 : pm_ok (wL M 26 (((v + 1) * 7 + last) * 100) 100 (fun r => lN (sk (fk c v last r) (cf_n c)))) := hM
      refine st_ild rfl rfl ?_
      refine st_ald rfl rfl ?_
      refine st_gR' rfl (by first | exact tT hM1 rfl | assumption | exact rw_T hM1 (by assumption) | exact rw_A hM1 (by assumption)) (by first | exact rR hM1 rfl rfl | assumption | exact rw_R hM1 (by assumption)) ?_
      refine st_gI rfl (by first | exact tT hM1 rfl | assumption | exact rw_T hM1 (by assumption) | exact rw_A hM1 (by assumption)) ?_
      -- at 45: stop
      refine wp_e hc.1.2.2.1 ?_
      refine st_b2 rfl (fun _ => ?_) (fun zq => absurd (nI_le (by omega) (by omega)) zq)
      -- at 97: op_vret
      exact st_vret rfl ⟨rfl, rfl⟩
abbrev s25 : Nat → Prop := fun k => k = 25 ∨ k = 26
/-- levels below lv are worked out -/
def TY (c : Cf) (lv : Nat) (M : pm_M) : Prop := ∀ level last room, level < lv → lst c last → room < 100 → gL M 26 ((level * 7 + last) * 100 + room) = lN (cnt c level last room)
theorem c_workOut (d : Nat) (hM : pm_ok M) (hw : cf_wf c) (hc : CC c M) (hy : CY c M) {K : Nat} (hK : K ≤ 20) : ∃ M', pm_call (d + 3) 84 [.ref 25, .int (nI K)] M none M' ∧ pm_S s25 M M' ∧ CY c M' ∧ TY c (K + 1) M' := by
  obtain ⟨h54, lv, hlv, hg, ht⟩ := hy
  have hn := hw.1
  have fin : ∀ L M1 i, pm_S s25 M M1 → gI M1 25 2 = nI i → i ≤ 21 → TY c i M1 → K < i → pm_WP (pm_call (d + 2)) tb_84 (fun r M' => r = none ∧ pm_S s25 M M' ∧ CY c M' ∧ TY c (K + 1) M') 60 L [] M1 := by
    intro L M1 i hs hg1 hi ht1 hKi
    exact st_vret rfl ⟨rfl, hs, ⟨by rw [hs.i (by show ¬ (_ ∨ _); omega)]; exact h54, i, hi, hg1, ht1⟩, fun level last room h1 h2 h3 => ht1 level last room (by omega) h2 h3⟩
  obtain ⟨r, M', hcc, hr, h5, h6, h7⟩ := eq_84 (d := d + 2) (A := [.ref 25, .int (nI K)]) (M := M) (Q := fun r M' => r = none ∧ pm_S s25 M M' ∧ CY c M' ∧ TY c (K + 1) M') (Nat.le_of_ble_eq_true rfl) (by
    refine st_ald rfl rfl ?_
    refine st_gI rfl (by first | exact tT hM rfl | assumption | exact rw_T hM (by assumption) | exact rw_A hM (by assumption)) ?_
    -- at 4: stop
    refine wp_e hg ?_
    refine st_ist rfl ?_
    -- at 5: stop
    by_cases g : K < lv
    · refine st_ild rfl rfl ?_
      refine st_ild rfl rfl ?_
      refine st_b2 rfl (fun _ => ?_) (fun zq => absurd (nI_lt g (by omega)) zq)
      -- at 60: stop
      exact fin _ M lv pm_S.rf hg hlv ht g
    · refine wp_for (K + 1) (fun i L M1 => ∃ x y, lv ≤ i ∧ x = nI i ∧ L = [some (.ref 25), some (.int (nI K)), some (.int x), y] ∧ pm_S s25 M M1 ∧ gI M1 25 2 = nI i ∧ TY c i M1) ?_ ?_ lv _ _ (by omega) ⟨_, _, Nat.le_refl _, rfl, rfl, pm_S.rf, hg, ht⟩
      · rintro i L M1 hi ⟨x, y, hli, rfl, rfl, hs, hg1, ht1⟩ ih
        have hM1 := hs.ok hM
        refine st_ild rfl rfl ?_
        refine st_ild rfl rfl ?_
        refine st_b2 rfl (fun zq => absurd zq (nI_nlt (by omega) (by omega))) (fun _ => ?_)
        refine st_k rfl ?_
        refine st_ist rfl ?_
        -- at 12: stop
        refine wp_for 7 (fun q L M2 => ∃ x, x = nI q ∧ L = [some (.ref 25), some (.int (nI K)), some (.int (nI i)), some (.int x)] ∧ pm_S s25 M M2 ∧ gI M2 25 2 = nI i ∧ TY c i M2 ∧ ∀ last room, last < q → lst c last → room < 100 → gL M2 26 ((i * 7 + last) * 100 + room) = lN (cnt c i last room)) ?_ ?_ 0 _ _ (Nat.zero_le _) ⟨_, rfl, rfl, hs, hg1, ht1, fun last room h1 => absurd h1 (by omega)⟩
        · rintro q L M2 hq ⟨x, rfl, rfl, hs2, hg2, ht2, h2⟩ ih2
          have hM2 := hs2.ok hM
          have hc2 := hc.kept hs2 (fun k _ _ => by show ¬ (_ ∨ _); omega)
          have run : lst c q → pm_WP (pm_call (d + 2)) tb_84 (fun r M' => r = none ∧ pm_S s25 M M' ∧ CY c M' ∧ TY c (K + 1) M') 35 [some (.ref 25), some (.int (nI K)), some (.int (nI i)), some (.int (nI q))] [] M2 := by
            intro hq2
            have hwo := c_workOutSpot d hM2 hw hc2 (level := i) (last := q) (by omega) hq2 (fun v hv k hk r hr => ht2 v k r (by omega) (Or.inl hk) hr)
            refine st_ald rfl rfl ?_
            refine st_ild rfl rfl ?_
            refine st_ild rfl rfl ?_
            refine st_cav (As := [_, _]) rfl rfl rfl (by first | exact tT hM2 rfl | assumption | exact rw_T hM2 (by assumption) | exact rw_A hM2 (by assumption)) (Nat.le_of_ble_eq_true rfl) (hwo) ?_
            refine st_inc rfl rfl ?_
            refine st_go rfl ?_
            -- at 12: stop
            refine ih2 _ _ ⟨_, nI_1 q, rfl, hs2.wL (Or.inr rfl) _ _ _, hg2, fun level last room g1 g2 g3 => ?_, fun last room g1 g2 g3 => ?_⟩
            · have l6 := lst6 hw g2
              rw [gL_wL, if_neg (by omega)]
              exact ht2 level last room g1 g2 g3
            · have l6 := lst6 hw g2
              rw [gL_wL]
              by_cases z : last = q
              · subst z
                rw [if_pos ⟨rfl, by omega, by omega⟩, Nat.add_sub_cancel_left]
              · rw [if_neg (by omega)]
                exact h2 last room (by omega) g2 g3
          by_cases g6 : q = 6
          · refine st_ild rfl rfl ?_
            refine st_k rfl ?_
            refine st_b2 rfl (fun zq => absurd zq (nI_ge (a := q) (b := 7) (by omega) (by decide))) (fun _ => ?_)
            refine st_ild rfl rfl ?_
            refine st_k rfl ?_
            refine st_b2 rfl (fun _ => ?_) (fun zq => absurd ((by rw [g6]; rfl)) zq)
            -- at 35: stop
            exact run (Or.inr g6)
          · refine st_ild rfl rfl ?_
            refine st_k rfl ?_
            refine st_b2 rfl (fun zq => absurd zq (nI_ge (a := q) (b := 7) (by omega) (by decide))) (fun _ => ?_)
            refine st_ild rfl rfl ?_
            refine st_k rfl ?_
            refine st_b2 rfl (fun zq => absurd zq ((fun z => g6 ((nI_eq (a := q) (b := 6) (by omega) (by decide)).mp z)))) (fun _ => ?_)
            refine st_ild rfl rfl ?_
            refine st_ald rfl rfl ?_
            refine st_gR' rfl (by first | exact tT hM2 rfl | assumption | exact rw_T hM2 (by assumption) | exact rw_A hM2 (by assumption)) (by first | exact rR hM2 rfl rfl | assumption | exact rw_R hM2 (by assumption)) ?_
            refine st_gI rfl (by first | exact tT hM2 rfl | assumption | exact rw_T hM2 (by assumption) | exact rw_A hM2 (by assumption)) ?_
            -- at 32: stop
            refine wp_e hc2.1.2.2.1 ?_
            by_cases gn : q < cf_n c
            · refine st_b2 rfl (fun zq => absurd zq (nI_ge (by omega) (by omega))) (fun _ => ?_)
              -- at 35: stop
              exact run (Or.inl gn)
            · refine st_b2 rfl (fun _ => ?_) (fun zq => absurd (nI_le (by omega) (by omega)) zq)
              refine st_inc rfl rfl ?_
              refine st_go rfl ?_
              -- at 12: stop
              refine ih2 _ _ ⟨_, nI_1 q, rfl, hs2, hg2, ht2, fun last room g1 g2 g3 => h2 last room ?_ g2 g3⟩
              rcases g2 with z | z <;> omega
        · rintro L M2 ⟨x, rfl, rfl, hs2, hg2, ht2, h2⟩
          have hM2 := hs2.ok hM
          refine st_ild rfl rfl ?_
          refine st_k rfl ?_
          refine st_b2 rfl (fun _ => ?_) (fun zq => absurd (nI_le (a := 7) (b := 7) (by decide) (by decide)) zq)
          refine st_ald rfl rfl ?_
          refine st_ild rfl rfl ?_
          refine st_k rfl ?_
          refine st_ib rfl ?_
          refine st_pI rfl (by first | exact tT hM2 rfl | assumption | exact rw_T hM2 (by assumption) | exact rw_A hM2 (by assumption)) ?_
          refine st_inc rfl rfl ?_
          refine st_go rfl ?_
          -- at 5: stop
          refine ih _ _ ⟨_, _, by omega, nI_1 i, rfl, hs2.sI (Or.inl rfl) _ _, by rw [gI_same]; exact nI_1 i, fun level last room g1 g2 g3 => ?_⟩
          rw [gL_sI]
          by_cases z : level = i
          · subst z
            exact h2 last room (by have := lst6 hw g2; omega) g2 g3
          · exact ht2 level last room (by omega) g2 g3
      · rintro L M1 ⟨x, y, hli, rfl, rfl, hs, hg1, ht1⟩
        refine st_ild rfl rfl ?_
        refine st_ild rfl rfl ?_
        refine st_b2 rfl (fun _ => ?_) (fun zq => absurd (nI_lt (by omega) (by omega)) zq)
        -- at 60: stop
        exact fin _ M1 (K + 1) hs hg1 (by omega) ht1 (by omega))
  subst hr
  exact ⟨M', hcc, h5, h6, h7⟩
theorem rm99 {c : Cf} (hw : cf_wf c) : cf_rm c ≤ 99 := by
  have := hw.2.2.1
  unfold cf_rm
  omega
theorem c_ropesOf (d : Nat) (hM : pm_ok M) (hw : cf_wf c) (hc : CC c M) (hy : CY c M) {K : Nat} (hK : K ≤ 20) : ∃ M', pm_call (d + 4) 82 [.ref 25, .int (nI K)] M (some (.long (lN (cnt c K 6 (cf_rm c))))) M' ∧ pm_S s25 M M' ∧ CY c M' ∧ TY c (K + 1) M' := by
  obtain ⟨M1, hc1, h1, h2, h3⟩ := c_workOut d hM hw hc hy hK
  refine ⟨M1, en_82 (Nat.le_of_ble_eq_true rfl) ?_, h1, h2, h3⟩
  have hM1 := h1.ok hM
  have hcc := hc.kept h1 (fun k _ _ => by show ¬ (_ ∨ _); omega)
  have hrm := rm99 hw
  have hin : vp_in (nI ((K * 7 + 6) * 100 + cf_rm c)) 14700 := vp_in_nI (by omega) (by decide)
  refine st_ald rfl rfl ?_
  refine st_ild rfl rfl ?_
  refine st_cav (As := [_]) rfl rfl rfl (by first | exact tT hM rfl | assumption | exact rw_T hM (by assumption) | exact rw_A hM (by assumption)) (Nat.le_of_ble_eq_true rfl) (hc1) ?_
  -- at 5: stop
  refine st_ald rfl rfl ?_
  refine st_gR' rfl (by first | exact tT hM1 rfl | assumption | exact rw_T hM1 (by assumption) | exact rw_A hM1 (by assumption)) (by first | exact rR hM1 rfl rfl | assumption | exact rw_R hM1 (by assumption)) ?_
  refine st_ild rfl rfl ?_
  refine st_k rfl ?_
  refine st_call (As := [_, _]) rfl rfl rfl (Nat.le_of_ble_eq_true rfl) (c_spot8 (d + 2) _ 6) ?_
  refine st_ald rfl rfl ?_
  refine st_gR' rfl (by first | exact tT hM1 rfl | assumption | exact rw_T hM1 (by assumption) | exact rw_A hM1 (by assumption)) (by first | exact rR hM1 rfl rfl | assumption | exact rw_R hM1 (by assumption)) ?_
  refine st_cav (As := []) rfl rfl rfl (by first | exact tT hM1 rfl | assumption | exact rw_T hM1 (by assumption) | exact rw_A hM1 (by assumption)) (Nat.le_of_ble_eq_true rfl) (c_room (d + 2) hM1 hw hcc) ?_
  refine st_ib rfl ?_
  -- at 23: stop
  refine wp_e (nI_add _ _) ?_
  refine st_lald rfl (by first | exact tT hM1 rfl | assumption | exact rw_T hM1 (by assumption) | exact rw_A hM1 (by assumption)) (by first | decide | assumption | exact vp_in_nI (by omega) (by decide)) ?_
  -- at 24: op_lret
  exact st_lret rfl ⟨by rw [nI_clamp (by omega), h3 K 6 (cf_rm c) (by omega) (Or.inr rfl) (by omega)], rfl⟩
theorem IC.tal {M' : pm_M} (h : IC a M) (hs : pm_S s25 M M') (hy : CY (aC a) M') : IC a M' :=
  h.chg hs (fun j hj => Or.inl ⟨rfl, by show ¬ (_ ∨ _); omega, by show ¬ (_ ∨ _); omega⟩) (fun j hj => Or.inl ⟨rfl, by show ¬ (_ ∨ _); omega, by show ¬ (_ ∨ _); omega⟩) (Or.inl ⟨rfl, fun k _ _ => by show ¬ (_ ∨ _); omega⟩) (Or.inl ⟨rfl, by show ¬ (_ ∨ _); omega, by show ¬ (_ ∨ _); omega⟩)
    (fun k hk => Or.inl ⟨rfl, by show ¬ (_ ∨ _); omega, by show ¬ (_ ∨ _); omega, hs.i (by show ¬ (_ ∨ _); omega) _⟩) (Or.inr hy) (Or.inl ⟨rfl, by show ¬ (_ ∨ _); omega⟩) (Or.inl ⟨rfl, rfl, rfl, by show ¬ (_ ∨ _); omega⟩) (by show ¬ (_ ∨ _); omega)
end TAL

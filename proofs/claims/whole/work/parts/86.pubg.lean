/-! BOTH ANSWER ALIKE: lots -/
def cn (p : Nat → Bool) (n : Nat) : Nat := sk (fun k => if p k = true then 1 else 0) n
theorem cn_s (p : Nat → Bool) (n : Nat) : cn p (n + 1) = cn p n + if p n = true then 1 else 0 := rfl
theorem cn_mono (p : Nat → Bool) {k : Nat} : ∀ n, k ≤ n → cn p k ≤ cn p n
  | 0, h => by rw [show k = 0 by omega]; exact Nat.le_refl _
  | n + 1, h => by
    rcases Nat.lt_or_ge k (n + 1) with z | z
    · have := cn_mono p n (show k ≤ n by omega)
      rw [cn_s]; omega
    · rw [show k = n + 1 by omega]; exact Nat.le_refl _
theorem cn_le (p : Nat → Bool) : ∀ n, cn p n ≤ n
  | 0 => Nat.le_refl _
  | n + 1 => by
    have := cn_le p n
    rw [cn_s]
    split <;> omega
theorem cn_inj {p : Nat → Bool} {k q : Nat} (hk : p k = true) (hq : p q = true) (h : cn p k = cn p q) : k = q := by
  rcases Nat.lt_trichotomy k q with z | z | z
  · have := cn_mono p (k := k + 1) q z
    rw [cn_s, if_pos hk] at this; omega
  · exact z
  · have := cn_mono p (k := q + 1) k z
    rw [cn_s, if_pos hq] at this; omega
theorem cn_ex {p : Nat → Bool} {t : Nat} : ∀ n, t < cn p n → ∃ k, k < n ∧ p k = true ∧ cn p k = t
  | 0, h => by simp [cn, sk] at h
  | n + 1, h => by
    rw [cn_s] at h
    by_cases g : t < cn p n
    · obtain ⟨k, h1, h2, h3⟩ := cn_ex n g
      exact ⟨k, by omega, h2, h3⟩
    · by_cases g2 : p n = true
      · rw [if_pos g2] at h
        exact ⟨n, by omega, g2, by omega⟩
      · rw [if_neg g2] at h; omega
def pkk (p : Nat → Bool) (t : Nat) : Nat → Nat
  | 0 => 0
  | k + 1 => if p k = true ∧ cn p k = t then k else pkk p t k
theorem pkk_eq {p : Nat → Bool} {t k : Nat} (hk : p k = true) (ht : cn p k = t) : ∀ n, k < n → pkk p t n = k
  | 0, h => by omega
  | n + 1, h => by
    unfold pkk
    by_cases g : p n = true ∧ cn p n = t
    · rw [if_pos g]; exact cn_inj g.1 hk (by omega)
    · rw [if_neg g]
      rcases Nat.lt_or_ge k n with z | z
      · exact pkk_eq hk ht n z
      · rw [show k = n by omega] at hk ht
        exact absurd ⟨hk, ht⟩ g
/-- the KNOTS that fit -/
def qf (c : Cf) (ws : List Nat) (k : Nat) : Bool := decide (k < cf_n c) && decide (rt c (ws ++ [k]))
theorem qf_t {c : Cf} {ws : List Nat} {k : Nat} (hk : k < cf_n c) : qf c ws k = true ↔ rt c (ws ++ [k]) := by simp [qf, hk]
theorem qf_n {c : Cf} {ws : List Nat} {k : Nat} (h : qf c ws k = true) : k < cf_n c := by
  unfold qf at h
  simp only [Bool.and_eq_true, decide_eq_true_eq] at h
  exact h.1
theorem cn_6 {c : Cf} (hw : cf_wf c) (ws : List Nat) : ∀ m, cf_n c + m ≤ 6 → cn (qf c ws) (cf_n c + m) = cn (qf c ws) (cf_n c)
  | 0, _ => rfl
  | m + 1, h => by
    show cn (qf c ws) (cf_n c + m + 1) = _
    rw [cn_s, cn_6 hw ws m (by omega), if_neg (fun z => by have := qf_n z; omega), Nat.add_zero]
theorem cn6 {c : Cf} (hw : cf_wf c) (ws : List Nat) : cn (qf c ws) 6 = cn (qf c ws) (cf_n c) := by
  have := cn_6 hw ws (6 - cf_n c) (by have := hw.1; omega)
  rwa [show cf_n c + (6 - cf_n c) = 6 by have := hw.1; omega] at this
def fbt (p : Nat → Bool) : Nat → Nat
  | 0 => 0
  | k + 1 => if p k = true then fbt p k ||| 2 ^ k else fbt p k
theorem fbt_s (p : Nat → Bool) (k : Nat) : fbt p (k + 1) = if p k = true then fbt p k ||| 2 ^ k else fbt p k := rfl
theorem fbt_lt (p : Nat → Bool) : ∀ n, fbt p n < 2 ^ n
  | 0 => by simp [fbt]
  | n + 1 => by
    have h := fbt_lt p n
    have h2 : 2 ^ n < 2 ^ (n + 1) := Nat.pow_lt_pow_right (by decide) (by omega)
    rw [fbt_s]
    split
    · exact Nat.or_lt_two_pow (by omega) h2
    · omega
theorem fbt_bit (p : Nat → Bool) (t : Nat) : ∀ n, (fbt p n).testBit t = (decide (t < n) && p t)
  | 0 => by simp [fbt]
  | n + 1 => by
    have ih := fbt_bit p t n
    rw [fbt_s]
    by_cases g : p n = true
    · rw [if_pos g, Nat.testBit_or, ih, Nat.testBit_two_pow]
      by_cases z : n = t
      · subst z; simp [g]
      · simp [z]
        by_cases y : t < n
        · simp [y, show t < n + 1 by omega]
        · simp [y, show ¬ t < n + 1 by omega]
    · rw [if_neg g, ih]
      by_cases z : n = t
      · subst z; simp [g]
      · by_cases y : t < n
        · simp [y, show t < n + 1 by omega]
        · simp [y, show ¬ t < n + 1 by omega]
theorem or_bit : ∀ w, w < 64 → ∀ k, k < 6 → nI w ||| (1 <<< (nI k &&& 31)) = nI (w ||| 2 ^ k) := by decide +kernel
/-- ROPES by lots -/
def lo (c : Cf) : Nat → List Nat → Nat → List Nat
  | 0, ws, _ => ws
  | m + 1, ws, x => if cn (qf c ws) 6 = 0 then ws else lo c m (ws ++ [pkk (qf c ws) (x * 48271 % 2147483647 % cn (qf c ws) 6) 6]) (x * 48271 % 2147483647)
def bcf (x : Int32) : Int32 :=
  let x1 := x - ((x.toUInt32 >>> ((1 : Int32).toUInt32 &&& Int32.toUInt32 31)).toInt32 &&& 1431655765)
  let x2 := (x1 &&& 858993459) + ((x1.toUInt32 >>> ((2 : Int32).toUInt32 &&& Int32.toUInt32 31)).toInt32 &&& 858993459)
  let x3 := (x2 + (x2.toUInt32 >>> ((4 : Int32).toUInt32 &&& Int32.toUInt32 31)).toInt32) &&& 252645135
  let x4 := x3 + (x3.toUInt32 >>> ((8 : Int32).toUInt32 &&& Int32.toUInt32 31)).toInt32
  let x5 := x4 + (x4.toUInt32 >>> ((16 : Int32).toUInt32 &&& Int32.toUInt32 31)).toInt32
  x5 &&& 63
theorem bcf_6 : ∀ w, w < 64 → bcf (nI w) = nI (cn (fun k => w.testBit k) 6) := by decide +kernel
section LTS
variable {a : As} {M : pm_M} {c : Cf}
theorem c_bitCount (d : Nat) {w : Nat} (hw : w < 64) : pm_call (d + 1) 268 [.int (nI w)] M (some (.int (nI (cn (fun k => w.testBit k) 6)))) M := by
  refine en_268 (Nat.le_of_ble_eq_true rfl) ?_
  refine st_ild rfl rfl ?_
  refine st_ild rfl rfl ?_
  refine st_k rfl ?_
  refine st_ib rfl ?_
  refine st_k rfl ?_
  refine st_ib rfl ?_
  refine st_ib rfl ?_
  refine st_ist rfl ?_
  refine st_ild rfl rfl ?_
  refine st_k rfl ?_
  refine st_ib rfl ?_
  refine st_ild rfl rfl ?_
  refine st_k rfl ?_
  refine st_ib rfl ?_
  refine st_k rfl ?_
  refine st_ib rfl ?_
  refine st_ib rfl ?_
  refine st_ist rfl ?_
  refine st_ild rfl rfl ?_
  refine st_ild rfl rfl ?_
  refine st_k rfl ?_
  refine st_ib rfl ?_
  refine st_ib rfl ?_
  refine st_k rfl ?_
  refine st_ib rfl ?_
  refine st_ist rfl ?_
  refine st_ild rfl rfl ?_
  refine st_ild rfl rfl ?_
  refine st_k rfl ?_
  refine st_ib rfl ?_
  refine st_ib rfl ?_
  refine st_ist rfl ?_
  refine st_ild rfl rfl ?_
  refine st_ild rfl rfl ?_
  refine st_k rfl ?_
  refine st_ib rfl ?_
  refine st_ib rfl ?_
  refine st_ist rfl ?_
  refine st_ild rfl rfl ?_
  refine st_k rfl ?_
  refine st_ib rfl ?_
  -- at 52: op_iret
  exact st_iret rfl ⟨congrArg (fun z => some (Value.int z)) (bcf_6 w hw), rfl⟩
theorem c_knotsThatFit (d : Nat) (hM : pm_ok M) (hw : cf_wf c) (hc : CC c M) {ws : List Nat} (hk : kn c ws) (hl : ws.length < 39) (h : pm_Ro M 99 (ws.map nI)) : ∃ M', pm_call (d + 4) 144 [.ref 0, .ref 99] M (some (.int (nI (fbt (qf c ws) (cf_n c))))) M' ∧ pm_Ro M' 99 (ws.map nI) ∧ pm_S (pm_oo 99) M M' := by
  have hn := hw.1
  have loop : ∀ m k x y M1, x = nI k → y = nI (fbt (qf c ws) k) → k + m = cf_n c → pm_S (pm_oo 99) M M1 → pm_Ro M1 99 (ws.map nI) → pm_WP (pm_call (d + 3)) tb_144 (fun r0 M' => r0 = some (.int (nI (fbt (qf c ws) (cf_n c)))) ∧ pm_Ro M' 99 (ws.map nI) ∧ pm_S (pm_oo 99) M M') 4 [some (.ref 0), some (.ref 99), some (.int y), some (.int x)] [] M1 := by
    intro m
    induction m with
    | zero =>
      intro k x y M1 hx hy hi hs hr
      subst hx; subst hy
      have hM1 := hs.ok hM
      have hc1 := hc.kept hs (fun k _ _ => by show ¬ (_ = _ ∨ _ = _); omega)
      refine st_ild rfl rfl ?_
      refine st_ald rfl rfl ?_
      refine st_gR' rfl (by first | exact tT hM1 rfl | assumption | exact rw_T hM1 (by assumption) | exact rw_A hM1 (by assumption)) (by first | exact rR hM1 rfl rfl | assumption | exact rw_R hM1 (by assumption)) ?_
      refine st_gI rfl (by first | exact tT hM1 rfl | assumption | exact rw_T hM1 (by assumption) | exact rw_A hM1 (by assumption)) ?_
      -- at 12: stop
      refine wp_e hc1.1.2.2.1 ?_
      refine st_b2 rfl (fun _ => ?_) (fun zq => absurd (nI_le (by omega) (by omega)) zq)
      refine st_ild rfl rfl ?_
      -- at 54: op_iret
      exact st_iret rfl ⟨by rw [show k = cf_n c by omega], hr, hs⟩
    | succ m ih =>
      intro k x y M1 hx hy hi hs hr
      subst hx; subst hy
      have hM1 := hs.ok hM
      have hc1 := hc.kept hs (fun k _ _ => by show ¬ (_ = _ ∨ _ = _); omega)
      have hkn : k < cf_n c := by omega
      have hk6 : k < 6 := by omega
      have hl2 : (ws.map nI).length < 40 := by rw [map_len]; omega
      have hr2 := ro_add hr hl2 (nI k)
      rw [show ws.map nI ++ [nI k] = (ws ++ [k]).map nI by simp] at hr2
      have s2 : pm_S (pm_oo 99) M1 _ := s_add (M := M1) (o := 99) (n := (ws.map nI).length) (v := nI k) (w := nI ((ws.map nI).length + 1))
      have hM2 := s2.ok hM1
      have hc2 := hc1.kept s2 (fun k _ _ => by show ¬ (_ = _ ∨ _ = _); omega)
      have hk2 : kn c (ws ++ [k]) := fun q hq => (List.mem_append.mp hq).elim (hk q) (fun z => by rw [List.mem_singleton.mp z]; exact hkn)
      have hb : fbt (qf c ws) k < 64 := Nat.lt_of_lt_of_le (fbt_lt (qf c ws) k) (Nat.pow_le_pow_right (n := 2) (by decide) (show k ≤ 6 by omega))
      have fin : ∀ y2, y2 = nI (fbt (qf c ws) (k + 1)) → pm_WP (pm_call (d + 3)) tb_144 (fun r0 M' => r0 = some (.int (nI (fbt (qf c ws) (cf_n c)))) ∧ pm_Ro M' 99 (ws.map nI) ∧ pm_S (pm_oo 99) M M') 37 [some (.ref 0), some (.ref 99), some (.int y2), some (.int (nI k))] [] (sI (sI M1 (99 + 1) (ws.map nI).length (nI k)) 99 1 (nI ((ws.map nI).length + 1))) := by
        intro y2 hy2
        refine st_ald rfl rfl ?_
        refine st_dup rfl rfl ?_
        refine st_gI rfl (by first | exact tT hM2 rfl | assumption | exact rw_T hM2 (by assumption) | exact rw_A hM2 (by assumption)) ?_
        -- at 42: stop
        refine wp_e (y := nI (ws.length + 1)) (by rw [gI_same, map_len]) ?_
        refine st_k rfl ?_
        refine st_ib rfl ?_
        -- at 44: stop
        rw [nI_pred]
        refine st_pI rfl (by first | exact tT hM2 rfl | assumption | exact rw_T hM2 (by assumption) | exact rw_A hM2 (by assumption)) ?_
        refine st_inc rfl rfl ?_
        refine st_go rfl ?_
        -- at 4: stop
        refine ih (k + 1) _ _ _ (nI_1 k) hy2 (by omega) (((hs.tr s2)).sI (Or.inl rfl) _ _) ⟨by rw [gI_same, map_len], by rw [map_len]; omega, fun i hi => ?_⟩
        rw [map_len] at hi
        rw [gI_ne (Or.inl (by decide)), gI_ne (Or.inl (by decide)), gI_ne (Or.inr (by rw [map_len]; omega))]
        exact hr.2.2 i (by rw [map_len]; omega)
      refine st_ild rfl rfl ?_
      refine st_ald rfl rfl ?_
      refine st_gR' rfl (by first | exact tT hM1 rfl | assumption | exact rw_T hM1 (by assumption) | exact rw_A hM1 (by assumption)) (by first | exact rR hM1 rfl rfl | assumption | exact rw_R hM1 (by assumption)) ?_
      refine st_gI rfl (by first | exact tT hM1 rfl | assumption | exact rw_T hM1 (by assumption) | exact rw_A hM1 (by assumption)) ?_
      -- at 12: stop
      refine wp_e hc1.1.2.2.1 ?_
      refine st_b2 rfl (fun zq => absurd zq (nI_ge (by omega) (by omega))) (fun _ => ?_)
      refine st_ald rfl rfl ?_
      refine st_ild rfl rfl ?_
      refine st_cav (As := [_]) rfl rfl rfl (rw_T hM1 ro99) (Nat.le_of_ble_eq_true rfl) (c_add (d + 2) hM1 ro99 hr hl2 (nI k)) ?_
      -- at 20: stop
      refine st_ald rfl rfl ?_
      refine st_gR' rfl (by first | exact tT hM2 rfl | assumption | exact rw_T hM2 (by assumption) | exact rw_A hM2 (by assumption)) (by first | exact rR hM2 rfl rfl | assumption | exact rw_R hM2 (by assumption)) ?_
      refine st_ald rfl rfl ?_
      refine st_cav (As := [_]) rfl rfl rfl (by first | exact tT hM2 rfl | assumption | exact rw_T hM2 (by assumption) | exact rw_A hM2 (by assumption)) (Nat.le_of_ble_eq_true rfl) (c_isRight d hM2 hw hc2 ro99 hk2 hr2) ?_
      refine st_b1 rfl (fun g => ?_) (fun g => ?_)
      -- at 28: split 37 31
      · have g : ¬ rt c (ws ++ [k]) := fun z => b01_t z g
        exact fin _ (by rw [fbt_s, if_neg (fun z => g ((qf_t hkn).mp z))])
      · have g := Decidable.not_not.mp (fun z => g (b01_f z))
        refine st_ild rfl rfl ?_
        refine st_k rfl ?_
        refine st_ild rfl rfl ?_
        refine st_ib rfl ?_
        refine st_ib rfl ?_
        refine st_ist rfl ?_
        -- at 37: stop
        refine fin _ ?_
        rw [fbt_s, if_pos ((qf_t hkn).mpr g)]
        exact or_bit _ hb k hk6
  obtain ⟨r, M', hcc, hr', h5, h6⟩ := eq_144 (d := d + 3) (A := [.ref 0, .ref 99]) (M := M) (Q := fun r0 M' => r0 = some (.int (nI (fbt (qf c ws) (cf_n c)))) ∧ pm_Ro M' 99 (ws.map nI) ∧ pm_S (pm_oo 99) M M') (Nat.le_of_ble_eq_true rfl) (by
    refine st_k rfl ?_
    refine st_ist rfl ?_
    refine st_k rfl ?_
    refine st_ist rfl ?_
    -- at 4: stop
    exact loop (cf_n c) 0 _ _ M rfl rfl (by omega) pm_S.rf h)
  subst hr'
  exact ⟨M', hcc, h5, h6⟩
theorem c_numberOfBit (d : Nat) {w t k0 : Nat} (hw : w < 64) (hk0 : k0 < 6) (h0 : w.testBit k0 = true) (ht : cn (fun k => w.testBit k) k0 = t) : pm_call (d + 1) 145 [.int (nI w), .int (nI t)] M (some (.int (nI k0))) M := by
  refine en_145 (Nat.le_of_ble_eq_true rfl) ?_
  have hcl := cn_le (fun k => w.testBit k)
  have hc0 := hcl k0
  have loop : ∀ m k x y, x = nI k → y = nI (cn (fun k => w.testBit k) k) → k + m = k0 → pm_WP (pm_call d) tb_145 (fun r0 M1 => r0 = some (.int (nI k0)) ∧ M1 = M) 4 [some (.int (nI w)), some (.int (nI t)), some (.int y), some (.int x)] [] M := by
    intro m
    induction m with
    | zero =>
      intro k x y hx hy hi
      subst hx; subst hy
      have e := bit_eq hw (show k < 6 by omega)
      rw [show k = k0 by omega] at e ⊢
      rw [if_pos h0] at e
      refine st_ild rfl rfl ?_
      refine st_k rfl ?_
      refine st_b2 rfl (fun zq => absurd zq (nI_ge (a := k0) (b := 6) (by omega) (by decide))) (fun _ => ?_)
      refine st_ild rfl rfl ?_
      refine st_ild rfl rfl ?_
      refine st_ib rfl ?_
      refine st_k rfl ?_
      refine st_ib rfl ?_
      -- at 15: stop
      refine wp_e e ?_
      refine st_b1 rfl (fun zq => absurd zq ((by decide))) (fun _ => ?_)
      refine st_ild rfl rfl ?_
      refine st_ild rfl rfl ?_
      refine st_b2 rfl (fun zq => absurd zq ((fun z => z (by rw [ht])))) (fun _ => ?_)
      refine st_ild rfl rfl ?_
      -- at 24: op_iret
      exact st_iret rfl ⟨rfl, rfl⟩
    | succ m ih =>
      intro k x y hx hy hi
      subst hx; subst hy
      have e := bit_eq hw (show k < 6 by omega)
      have hk := hcl k
      refine st_ild rfl rfl ?_
      refine st_k rfl ?_
      refine st_b2 rfl (fun zq => absurd zq (nI_ge (a := k) (b := 6) (by omega) (by decide))) (fun _ => ?_)
      refine st_ild rfl rfl ?_
      refine st_ild rfl rfl ?_
      refine st_ib rfl ?_
      refine st_k rfl ?_
      refine st_ib rfl ?_
      -- at 15: stop
      refine wp_e e ?_
      by_cases g : w.testBit k = true
      · rw [if_pos g]
        have hlt := cn_mono (fun k => w.testBit k) (k := k + 1) k0 (by omega)
        rw [cn_s, if_pos g] at hlt
        refine st_b1 rfl (fun zq => absurd zq ((by decide))) (fun _ => ?_)
        refine st_ild rfl rfl ?_
        refine st_ild rfl rfl ?_
        refine st_b2 rfl (fun _ => ?_) (fun zq => absurd ((fun z => by have := (nI_eq (by omega) (by omega)).mp z; omega)) zq)
        refine st_inc rfl rfl ?_
        refine st_inc rfl rfl ?_
        refine st_go rfl ?_
        -- at 4: stop
        exact ih (k + 1) _ _ (nI_1 k) (by rw [cn_s, if_pos g]; exact nI_1 _) (by omega)
      · rw [if_neg g]
        refine st_b1 rfl (fun _ => ?_) (fun zq => absurd (rfl) zq)
        refine st_inc rfl rfl ?_
        refine st_go rfl ?_
        -- at 4: stop
        exact ih (k + 1) _ _ (nI_1 k) (by rw [cn_s, if_neg g]; rfl) (by omega)
  refine st_k rfl ?_
  refine st_ist rfl ?_
  refine st_k rfl ?_
  refine st_ist rfl ?_
  -- at 4: stop
  exact loop k0 0 _ _ rfl rfl (by omega)
theorem m_canTie (d : Nat) (hM : pm_ok M) (hw : cf_wf c) (hc : MC c M) {ws : List Nat} (hk : kn c ws) (hl : ws.length < 24) (h : Lk M ws) {k : Nat} (hkn : k < cf_n c) : ∃ M', pm_call (d + 5) 261 [.ref 132, .int (nI k)] M (some (.int (if rt c (ws ++ [k]) then 1 else 0))) M' ∧ Lk M' ws ∧ Msc M M' := by
  have hs : Msc M (sI (sI M 147 ws.length (nI k)) 132 29 (nI (ws.length + 1))) := ((Msc.rf M).sI _ (by omega)).sI _ (by omega)
  have hM2 := hs.ok hM
  have hL2 := lk_add (k := k) h hl
  have hk2 : kn c (ws ++ [k]) := fun q hq => (List.mem_append.mp hq).elim (hk q) (fun z => by rw [List.mem_singleton.mp z]; exact hkn)
  have hin : vp_in (nI ws.length) 24 := vp_in_nI hl (by decide)
  refine ⟨sI (sI (sI M 147 ws.length (nI k)) 132 29 (nI (ws.length + 1))) 132 29 (nI ws.length), en_261 (Nat.le_of_ble_eq_true rfl) ?_, ⟨gI_same _ _ _ _, h.2.1, fun i hi => ?_⟩, hs.sI _ (by omega)⟩
  · refine st_ald rfl rfl ?_
    refine st_gR' rfl (by first | exact tT hM rfl | assumption | exact rw_T hM (by assumption) | exact rw_A hM (by assumption)) (by first | exact rR hM rfl rfl | assumption | exact rw_R hM (by assumption)) ?_
    refine st_ald rfl rfl ?_
    refine st_gI rfl (by first | exact tT hM rfl | assumption | exact rw_T hM (by assumption) | exact rw_A hM (by assumption)) ?_
    -- at 8: stop
    refine wp_e h.1 ?_
    refine st_ild rfl rfl ?_
    refine st_iast rfl (tT hM rfl) (hin) ?_
    refine st_ald rfl rfl ?_
    refine st_dup rfl rfl ?_
    refine st_gI rfl (by first | exact tT hM rfl | assumption | exact rw_T hM (by assumption) | exact rw_A hM (by assumption)) ?_
    -- at 15: stop
    rw [nI_clamp (show ws.length < 2 ^ 31 by omega)]
    refine wp_e (y := nI ws.length) (by rw [gI_ne (Or.inl (by decide))]; exact h.1) ?_
    refine st_k rfl ?_
    refine st_ib rfl ?_
    -- at 17: stop
    rw [nI_1]
    refine st_pI rfl (by first | exact tT hM rfl | assumption | exact rw_T hM (by assumption) | exact rw_A hM (by assumption)) ?_
    -- at 20: stop
    refine st_ald rfl rfl ?_
    refine st_cav (As := []) rfl rfl rfl (by first | exact tT hM2 rfl | assumption | exact rw_T hM2 (by assumption) | exact rw_A hM2 (by assumption)) (Nat.le_of_ble_eq_true rfl) (m_lookRight d hM2 hw (hc.sc hs) hk2 hL2) ?_
    refine st_ist rfl ?_
    refine st_ald rfl rfl ?_
    refine st_dup rfl rfl ?_
    refine st_gI rfl (by first | exact tT hM2 rfl | assumption | exact rw_T hM2 (by assumption) | exact rw_A hM2 (by assumption)) ?_
    -- at 30: stop
    refine wp_e (y := nI (ws.length + 1)) (gI_same _ _ _ _) ?_
    refine st_k rfl ?_
    refine st_ib rfl ?_
    -- at 32: stop
    rw [nI_pred]
    refine st_pI rfl (by first | exact tT hM2 rfl | assumption | exact rw_T hM2 (by assumption) | exact rw_A hM2 (by assumption)) ?_
    refine st_ild rfl rfl ?_
    -- at 36: op_zret
    exact st_zret rfl (by split <;> rfl) ⟨rfl, rfl⟩
  · rw [gI_ne (Or.inl (by decide)), gI_ne (Or.inl (by decide)), gI_ne (Or.inr (by omega))]
    exact h.2.2 i hi
theorem sd (s : Int32) : (2147483647 : Int64) ≤ s.toInt64 ↔ (2147483646 : Int32) < s := by
  rw [Int64.le_iff_toInt_le, Int32.lt_iff_toInt_lt, Int32.toInt_toInt64]
  have e1 : (2147483647 : Int64).toInt = 2147483647 := by decide
  have e2 : (2147483646 : Int32).toInt = 2147483646 := by decide
  rw [e1, e2]
  omega
theorem lo_len (c : Cf) : ∀ m ws x, (lo c m ws x).length ≤ ws.length + m
  | 0, ws, x => by simp [lo]
  | m + 1, ws, x => by
    unfold lo
    split
    · omega
    · have := lo_len c m (ws ++ [pkk (qf c ws) (x * 48271 % 2147483647 % cn (qf c ws) 6) 6]) (x * 48271 % 2147483647)
      rw [List.length_append, List.length_singleton] at this
      omega
theorem b_lots (ha : aw a) (n s r : Int32) : Both a 128 262 [.int n, .int s, .int r] := by
  by_cases g1 : ¬ n < 0 ∧ ¬ 20 < n
  case neg =>
    refine bo_k (x := .int (-1)) ha (fun d M h => ?_) (fun d M h => ?_)
    · refine en_128 (Nat.le_of_ble_eq_true rfl) ?_
      refine st_ild rfl rfl ?_
      refine st_b1 rfl (fun z => ?_) (fun z => ?_)
      -- at 1: split 31 4
      · refine st_k rfl ?_
        -- at 32: op_iret
        exact st_iret rfl ⟨rfl, rfl⟩
      · refine st_ild rfl rfl ?_
        refine st_k rfl ?_
        refine st_b2 rfl (fun _ => ?_) (fun zq => absurd (Decidable.not_not.mp (fun w => g1 ⟨z, w⟩)) zq)
        refine st_k rfl ?_
        -- at 32: op_iret
        exact st_iret rfl ⟨rfl, rfl⟩
    · refine en_262 (Nat.le_of_ble_eq_true rfl) ?_
      refine st_ild rfl rfl ?_
      refine st_k rfl ?_
      refine st_k rfl ?_
      refine st_call (As := [_, _, _]) rfl rfl rfl (Nat.le_of_ble_eq_true rfl) (m_in (d + 18) n 0 20) ?_
      refine st_b1 rfl (fun _ => ?_) (fun zq => absurd (b01_f g1) zq)
      refine st_k rfl ?_
      -- at 29: op_iret
      exact st_iret rfl ⟨rfl, rfl⟩
  by_cases g2 : ¬ s < 1 ∧ ¬ 2147483646 < s
  case neg =>
    refine bo_k (x := .int (-1)) ha (fun d M h => ?_) (fun d M h => ?_)
    · refine en_128 (Nat.le_of_ble_eq_true rfl) ?_
      refine st_ild rfl rfl ?_
      refine st_b1 rfl (fun zq => absurd zq (g1.1)) (fun _ => ?_)
      refine st_ild rfl rfl ?_
      refine st_k rfl ?_
      refine st_b2 rfl (fun zq => absurd zq (g1.2)) (fun _ => ?_)
      refine st_ild rfl rfl ?_
      refine st_k rfl ?_
      refine st_b2 rfl (fun z => ?_) (fun z => ?_)
      -- at 12: split 31 15
      · refine st_k rfl ?_
        -- at 32: op_iret
        exact st_iret rfl ⟨rfl, rfl⟩
      · refine st_ild rfl rfl ?_
        refine st_i2l rfl ?_
        refine st_k rfl ?_
        refine st_lcmp rfl ?_
        refine st_b1 rfl (fun _ => ?_) (fun zq => absurd ((lg_cmp_ge _ _).mpr ((sd s).mpr (Decidable.not_not.mp (fun w => g2 ⟨z, w⟩)))) zq)
        refine st_k rfl ?_
        -- at 32: op_iret
        exact st_iret rfl ⟨rfl, rfl⟩
    · refine en_262 (Nat.le_of_ble_eq_true rfl) ?_
      refine st_ild rfl rfl ?_
      refine st_k rfl ?_
      refine st_k rfl ?_
      refine st_call (As := [_, _, _]) rfl rfl rfl (Nat.le_of_ble_eq_true rfl) (m_in (d + 18) n 0 20) ?_
      refine st_b1 rfl (fun zq => absurd zq (b01_t g1)) (fun _ => ?_)
      refine st_ild rfl rfl ?_
      refine st_k rfl ?_
      refine st_k rfl ?_
      refine st_call (As := [_, _, _]) rfl rfl rfl (Nat.le_of_ble_eq_true rfl) (m_in (d + 18) s 1 2147483646) ?_
      refine st_b1 rfl (fun _ => ?_) (fun zq => absurd (b01_f g2) zq)
      refine st_k rfl ?_
      -- at 29: op_iret
      exact st_iret rfl ⟨rfl, rfl⟩
  have g3 : ¬ 0 ≤ lg_cmp s.toInt64 2147483647 := fun z => g2.2 ((sd s).mp ((lg_cmp_ge _ _).mp z))
  rcases r_cs r with ⟨h1, h2⟩ | ⟨j, hj, hr, h1, h2⟩
  · refine bo_k (x := .int (-1)) ha (fun d M h => ?_) (fun d M h => ?_)
    · refine en_128 (Nat.le_of_ble_eq_true rfl) ?_
      refine st_ild rfl rfl ?_
      refine st_b1 rfl (fun zq => absurd zq (g1.1)) (fun _ => ?_)
      refine st_ild rfl rfl ?_
      refine st_k rfl ?_
      refine st_b2 rfl (fun zq => absurd zq (g1.2)) (fun _ => ?_)
      refine st_ild rfl rfl ?_
      refine st_k rfl ?_
      refine st_b2 rfl (fun zq => absurd zq (g2.1)) (fun _ => ?_)
      refine st_ild rfl rfl ?_
      refine st_i2l rfl ?_
      refine st_k rfl ?_
      refine st_lcmp rfl ?_
      refine st_b1 rfl (fun zq => absurd zq (g3)) (fun _ => ?_)
      refine st_ild rfl rfl ?_
      refine st_call (As := [_]) rfl rfl rfl (Nat.le_of_ble_eq_true rfl) (c_isRow (d + 18) r) ?_
      refine st_b1 rfl (fun zq => absurd zq ((fun z => z (b01_f h1)))) (fun _ => ?_)
      refine st_k rfl ?_
      -- at 32: op_iret
      exact st_iret rfl ⟨rfl, rfl⟩
    · refine en_262 (Nat.le_of_ble_eq_true rfl) ?_
      refine st_ild rfl rfl ?_
      refine st_k rfl ?_
      refine st_k rfl ?_
      refine st_call (As := [_, _, _]) rfl rfl rfl (Nat.le_of_ble_eq_true rfl) (m_in (d + 18) n 0 20) ?_
      refine st_b1 rfl (fun zq => absurd zq (b01_t g1)) (fun _ => ?_)
      refine st_ild rfl rfl ?_
      refine st_k rfl ?_
      refine st_k rfl ?_
      refine st_call (As := [_, _, _]) rfl rfl rfl (Nat.le_of_ble_eq_true rfl) (m_in (d + 18) s 1 2147483646) ?_
      refine st_b1 rfl (fun zq => absurd zq (b01_t g2)) (fun _ => ?_)
      refine st_ild rfl rfl ?_
      refine st_call (As := [_]) rfl rfl rfl (Nat.le_of_ble_eq_true rfl) (m_isRow (d + 17) r) ?_
      refine st_b1 rfl (fun zq => absurd zq ((fun z => z (b01_f h2)))) (fun _ => ?_)
      refine st_k rfl ?_
      -- at 29: op_iret
      exact st_iret rfl ⟨rfl, rfl⟩
  subst hr
  obtain ⟨N, hN, hn⟩ := nI_of g1.1
  subst hn
  have hN20 : N ≤ 20 := Nat.not_lt.mp (fun z => g1.2 (nI_lt (a := 20) (b := N) z hN))
  obtain ⟨S, hS, hs⟩ := nI_of (x := s) (fun z => g2.1 (Int32.lt_of_lt_of_le z (by decide)))
  subst hs
  have e64 : (nI S).toInt64 = lN S := nI_l hS
  have hin : vp_in (nI j) 6 := vp_in_nI hj (by decide)
  have e1 : (nI j).toNatClampNeg = j := nI_clamp (by omega)
  have ho := rw_row j hj
  have hnn := ha.1.1
  have hll := lo_len (aC a) N [] S
  have k1 : ∀ x : Nat, x < 2 ^ 31 → lN x * 48271 - lN x * 48271 / 2147483647 * 2147483647 = lN (x * 48271 % 2147483647) := by
    intro x hx
    show lN x * lN 48271 - lN x * lN 48271 / lN 2147483647 * lN 2147483647 = _
    rw [lN_mul]
    exact pk_lRem (by omega) (by decide) (by decide)
  have k2 : ∀ x q : Nat, x < 2 ^ 31 → 0 < q → q ≤ 6 → (lN x - lN x / (nI q).toInt64 * (nI q).toInt64).toInt32 = nI (x % q) ∧ ¬ (nI q).toInt64 = 0 := by
    intro x q hx h0 h6
    refine ⟨?_, nI64 h0 (by omega)⟩
    rw [nI_l (by omega), pk_lRem (by omega) h0 (by omega), lN_i]
  refine ⟨.int (nI (lo (aC a) N [] S).length), sR' a j (some ((lo (aC a) N [] S).map nI)), ha.row _ _, fun d M h => ?_, fun d M h => ?_⟩
  · have hM := h.1
    have S99 : ∀ k, (99 ≤ k ∧ k ≤ 100) → (27 ≤ k ∧ k ≤ 104 ∧ k ≠ 54) ∨ (20 ≤ k ∧ k ≤ 24) := fun k hk => by omega
    have fin : ∀ ws y x l7 l8 M1, lo (aC a) N [] S = ws → pm_S (fun k => 99 ≤ k ∧ k ≤ 100) M M1 → pm_Ro M1 99 (ws.map nI) → pm_WP (pm_call (d + 19)) tb_128 (fun r0 M' => r0 = some (.int (nI (lo (aC a) N [] S).length)) ∧ IC (sR' a j (some ((lo (aC a) N [] S).map nI))) M' ∧ Cfr M M') 115 [some (.ref 0), some (.int (nI N)), some (.int (nI S)), some (.int (nI j)), some (.long y), none, some (.int x), l7, l8] [] M1 := by
      intro ws y x l7 l8 M1 he hs hr
      have hM1 := hs.ok hM
      rw [he]
      have s2 : pm_S (pm_oo (106 + 2 * j)) M1 (sI (pm_cp M1 (99 + 1) (106 + 2 * j + 1) 0 0 (ws.map nI).length) (106 + 2 * j) 1 (nI (ws.map nI).length)) := s_become
      have s3 := (hs.mo (S' := fun k => (99 ≤ k ∧ k ≤ 100) ∨ pm_oo (106 + 2 * j) k) (fun k hk => Or.inl hk)).tr (s2.mo (fun k hk => Or.inr hk))
      have hI := h.row (x := some (ws.map nI)) hj s3 (fun k hk => by rcases hk with z | (z | z) <;> omega) (ro_become hr)
      have hM2 := hI.1
      have h99 := hr.kept s2 (by show ¬ (_ = _ ∨ _ = _); omega) (by show ¬ (_ = _ ∨ _ = _); omega)
      refine wp_le ms_128 (L := [some (.ref 0), some (.int (nI N)), some (.int (nI S)), some (.int (nI j)), some (.long y), none, some (.int x), none, none]) (lc (lc (lc (lc (lc (lc (lc (ln (ln l0))))))))) ?_
      refine st_ald rfl rfl ?_
      refine st_gR' rfl (by first | exact tT hM1 rfl | assumption | exact rw_T hM1 (by assumption) | exact rw_A hM1 (by assumption)) (by first | exact rR hM1 rfl rfl | assumption | exact rw_R hM1 (by assumption)) ?_
      refine st_ild rfl rfl ?_
      refine st_aald' rfl (tT hM1 rfl) (hin) (rRow' hM1 hj) ?_
      refine st_ald rfl rfl ?_
      refine st_gR' rfl (by first | exact tT hM1 rfl | assumption | exact rw_T hM1 (by assumption) | exact rw_A hM1 (by assumption)) (by first | exact rR hM1 rfl rfl | assumption | exact rw_R hM1 (by assumption)) ?_
      refine st_cav (As := [_]) rfl rfl rfl (rw_T hM1 ho) (Nat.le_of_ble_eq_true rfl) (c_become (d + 18) hM1 ho ro99 (by omega) hr) ?_
      -- at 128: stop
      refine st_ald rfl rfl ?_
      refine st_gR' rfl (by first | exact tT hM2 rfl | assumption | exact rw_T hM2 (by assumption) | exact rw_A hM2 (by assumption)) (by first | exact rR hM2 rfl rfl | assumption | exact rw_R hM2 (by assumption)) ?_
      refine st_gI rfl (rw_T hM2 ro99) ?_
      -- at 135: stop
      refine wp_e (y := nI ws.length) (by rw [h99.1, map_len]) ?_
      exact st_iret rfl ⟨rfl, hI, Cfr.S s3 (fun k hk => by rcases hk with z | (z | z) <;> omega)⟩
    have loop : ∀ m i ws x y z M1, y = nI i → z = lN x → x < 2 ^ 31 → ws.length = i → i + m = N → kn (aC a) ws → lo (aC a) N [] S = lo (aC a) m ws x → pm_S (fun k => 99 ≤ k ∧ k ≤ 100) M M1 → pm_Ro M1 99 (ws.map nI) → pm_WP (pm_call (d + 19)) tb_128 (fun r0 M' => r0 = some (.int (nI (lo (aC a) N [] S).length)) ∧ IC (sR' a j (some ((lo (aC a) N [] S).map nI))) M' ∧ Cfr M M') 47 [some (.ref 0), some (.int (nI N)), some (.int (nI S)), some (.int (nI j)), some (.long z), none, some (.int y), none, none] [] M1 := by
      intro m
      induction m with
      | zero =>
        intro i ws x y z M1 hy hz hx hlw hi hk he hs hr
        subst hy; subst hz
        refine st_ild rfl rfl ?_
        refine st_ild rfl rfl ?_
        refine st_b2 rfl (fun _ => ?_) (fun zq => absurd (nI_le (by omega) (by omega)) zq)
        -- at 115: stop
        exact fin ws _ _ _ _ M1 he hs hr
      | succ m ih =>
        intro i ws x y z M1 hy hz hx hlw hi hk he hs hr
        subst hy; subst hz
        have hI := h.S hs S99
        have hM1 := hI.1
        obtain ⟨M2, hc2, h5, h6⟩ := c_knotsThatFit (d + 15) hM1 ha.1 hI.2.2.2.1 hk (by omega) hr
        have hs2 : pm_S (fun k => 99 ≤ k ∧ k ≤ 100) M M2 := hs.tr (h6.mo (fun k hk => by rcases hk with z | z <;> (show _ ∧ _; omega)))
        have hM2 := hs2.ok hM
        have hb : fbt (qf (aC a) ws) (cf_n (aC a)) < 64 := Nat.lt_of_lt_of_le (fbt_lt _ _) (Nat.pow_le_pow_right (n := 2) (by decide) hnn)
        have etb : (fun k => (fbt (qf (aC a) ws) (cf_n (aC a))).testBit k) = qf (aC a) ws := by
          funext k
          rw [fbt_bit]
          unfold qf
          cases decide (k < cf_n (aC a)) <;> simp
        have hbc := c_bitCount (M := M2) (d + 18) hb
        rw [etb] at hbc
        have hcn := cn_le (qf (aC a) ws) 6
        have los : lo (aC a) (m + 1) ws x = if cn (qf (aC a) ws) 6 = 0 then ws else lo (aC a) m (ws ++ [pkk (qf (aC a) ws) (x * 48271 % 2147483647 % cn (qf (aC a) ws) 6) 6]) (x * 48271 % 2147483647) := rfl
        have hx2 : x * 48271 % 2147483647 < 2 ^ 31 := Nat.lt_trans (Nat.mod_lt _ (by decide)) (by decide)
        refine st_ild rfl rfl ?_
        refine st_ild rfl rfl ?_
        refine st_b2 rfl (fun zq => absurd zq (nI_ge (by omega) (by omega))) (fun _ => ?_)
        refine st_ald rfl rfl ?_
        refine st_ald rfl rfl ?_
        refine st_gR' rfl (by first | exact tT hM1 rfl | assumption | exact rw_T hM1 (by assumption) | exact rw_A hM1 (by assumption)) (by first | exact rR hM1 rfl rfl | assumption | exact rw_R hM1 (by assumption)) ?_
        refine st_cav (As := [_]) rfl rfl rfl (by first | exact tT hM1 rfl | assumption | exact rw_T hM1 (by assumption) | exact rw_A hM1 (by assumption)) (Nat.le_of_ble_eq_true rfl) (hc2) ?_
        -- at 61: stop
        refine st_ist rfl ?_
        refine st_ild rfl rfl ?_
        refine st_call (As := [_]) rfl rfl rfl (Nat.le_of_ble_eq_true rfl) (hbc) ?_
        refine st_ist rfl ?_
        refine st_ild rfl rfl ?_
        refine st_b1 rfl (fun g => ?_) (fun g => ?_)
        -- at 72: split 78 75
        · have g : 0 < cn (qf (aC a) ws) 6 := by
            rcases Nat.eq_zero_or_pos (cn (qf (aC a) ws) 6) with z | z
            · rw [z] at g; exact absurd rfl g
            · exact z
          obtain ⟨q1, q2⟩ := k2 (x * 48271 % 2147483647) _ hx2 g hcn
          obtain ⟨k0, w1, w2, w3⟩ := cn_ex (p := qf (aC a) ws) 6 (Nat.mod_lt (x * 48271 % 2147483647) g)
          have hkn := qf_n w2
          have hpk := pkk_eq w2 w3 6 w1
          have hnb := c_numberOfBit (M := M2) (d + 18) (t := x * 48271 % 2147483647 % cn (qf (aC a) ws) 6) hb w1 (by rw [show (fbt (qf (aC a) ws) (cf_n (aC a))).testBit k0 = qf (aC a) ws k0 from congrFun etb k0]; exact w2) (by rw [etb]; exact w3)
          have hl2 : (ws.map nI).length < 40 := by rw [map_len]; omega
          have hr2 := ro_add h5 hl2 (nI k0)
          rw [show ws.map nI ++ [nI k0] = (ws ++ [k0]).map nI by simp] at hr2
          have s3 : pm_S (pm_oo 99) M2 _ := s_add (M := M2) (o := 99) (n := (ws.map nI).length) (v := nI k0) (w := nI ((ws.map nI).length + 1))
          refine st_lld rfl rfl ?_
          refine st_k rfl ?_
          refine st_lb rfl ?_
          refine st_k rfl ?_
          refine st_ldv rfl ((by decide)) ?_
          -- at 88: stop
          refine wp_el (k1 x hx) ?_
          refine st_lst rfl ?_
          refine st_ald rfl rfl ?_
          refine st_gR' rfl (by first | exact tT hM2 rfl | assumption | exact rw_T hM2 (by assumption) | exact rw_A hM2 (by assumption)) (by first | exact rR hM2 rfl rfl | assumption | exact rw_R hM2 (by assumption)) ?_
          refine st_ild rfl rfl ?_
          refine st_lld rfl rfl ?_
          refine st_ild rfl rfl ?_
          refine st_i2l rfl ?_
          refine st_ldv rfl (q2) ?_
          refine st_l2i rfl ?_
          -- at 103: stop
          refine wp_e q1 ?_
          refine st_call (As := [_, _]) rfl rfl rfl (Nat.le_of_ble_eq_true rfl) (hnb) ?_
          refine st_cav (As := [_]) rfl rfl rfl (rw_T hM2 ro99) (Nat.le_of_ble_eq_true rfl) (c_add (d + 18) hM2 ro99 h5 hl2 (nI k0)) ?_
          refine st_inc rfl rfl ?_
          refine st_go rfl ?_
          -- at 47: stop
          refine wp_le ms_128 (lc (lc (lc (lc (lc (lc (lc (ln (ln l0))))))))) (ih (i + 1) (ws ++ [k0]) (x * 48271 % 2147483647) _ _ _ (nI_1 i) rfl hx2 (by simp [hlw]) (by omega) (fun q hq => (List.mem_append.mp hq).elim (hk q) (fun z => by rw [List.mem_singleton.mp z]; exact hkn)) ?_ (hs2.tr (s3.mo (fun k hk => by rcases hk with z | z <;> (show _ ∧ _; omega)))) hr2)
          rw [he, los, if_neg (by omega), hpk]
        · have g : cn (qf (aC a) ws) 6 = 0 := (nI_eq (a := cn (qf (aC a) ws) 6) (b := 0) (by omega) (by decide)).mp (Decidable.not_not.mp g)
          refine st_go rfl ?_
          -- at 115: stop
          exact fin ws _ _ _ _ M2 (by rw [he, los, if_pos g]) hs2 h5
    have s0 : pm_S (fun k => 99 ≤ k ∧ k ≤ 100) M (sI M 99 1 0) := pm_S.rf.sI (by decide) _ _
    obtain ⟨r, M', hc, hr', h9, h10⟩ := eq_128 (d := d + 19) (A := [.ref 0, .int (nI N), .int (nI S), .int (nI j)]) (M := M) (Q := fun r0 M' => r0 = some (.int (nI (lo (aC a) N [] S).length)) ∧ IC (sR' a j (some ((lo (aC a) N [] S).map nI))) M' ∧ Cfr M M') (Nat.le_of_ble_eq_true rfl) (by
      refine st_ild rfl rfl ?_
      refine st_b1 rfl (fun zq => absurd zq (g1.1)) (fun _ => ?_)
      refine st_ild rfl rfl ?_
      refine st_k rfl ?_
      refine st_b2 rfl (fun zq => absurd zq (g1.2)) (fun _ => ?_)
      refine st_ild rfl rfl ?_
      refine st_k rfl ?_
      refine st_b2 rfl (fun zq => absurd zq (g2.1)) (fun _ => ?_)
      refine st_ild rfl rfl ?_
      refine st_i2l rfl ?_
      refine st_k rfl ?_
      refine st_lcmp rfl ?_
      refine st_b1 rfl (fun zq => absurd zq (g3)) (fun _ => ?_)
      refine st_ild rfl rfl ?_
      refine st_call (As := [_]) rfl rfl rfl (Nat.le_of_ble_eq_true rfl) (c_isRow (d + 18) _) ?_
      refine st_b1 rfl (fun _ => ?_) (fun zq => absurd (b01_t h1) zq)
      refine st_ald rfl rfl ?_
      refine st_gR' rfl (by first | exact tT hM rfl | assumption | exact rw_T hM (by assumption) | exact rw_A hM (by assumption)) (by first | exact rR hM rfl rfl | assumption | exact rw_R hM (by assumption)) ?_
      refine st_cav (As := []) rfl rfl rfl (rw_T hM ro99) (Nat.le_of_ble_eq_true rfl) (c_clear (d + 18) hM ro99) ?_
      refine st_ild rfl rfl ?_
      refine st_i2l rfl ?_
      refine st_lst rfl ?_
      refine st_k rfl ?_
      refine st_ist rfl ?_
      -- at 47: stop
      exact loop N 0 [] S _ _ _ rfl e64 hS rfl (by omega) (fun k hk => absurd hk List.not_mem_nil) rfl s0 (ro_clear M 99))
    subst hr'
    exact ⟨M', hc, h9, h10⟩
  · have hM := h.1
    have fin : ∀ ws y l6 l7 l8 M1, lo (aC a) N [] S = ws → ws.length ≤ 20 → Msc M M1 → Lk M1 ws → pm_WP (pm_call (d + 19)) tb_262 (fun r0 M' => r0 = some (.int (nI (lo (aC a) N [] S).length)) ∧ IM (sR' a j (some ((lo (aC a) N [] S).map nI))) M' ∧ Mfr M M') 187 [some (.ref 132), some (.int (nI N)), some (.int (nI S)), some (.int (nI j)), some (.long y), none, l6, l7, l8] [] M1 := by
      intro ws y l6 l7 l8 M1 he hlw hs hL
      have hM1 := hs.ok hM
      rw [he]
      obtain ⟨M3, hc3, h7, h8⟩ := m_layRow (d + 18) hM1 hj (k := 147) (n := 24) (l := ws.map nI) (tT hM1 rfl) (by decide) (by rw [map_len]; omega) (by rw [map_len]; omega) (fun i hi => by rw [map_len] at hi; rw [hL.2.2 i hi, map_getD hi])
      rw [map_len] at hc3
      have hI3 := (h.sc hs).lay h8 h7
      have hM3 := hI3.1
      refine wp_le ms_262 (L := [some (.ref 132), some (.int (nI N)), some (.int (nI S)), some (.int (nI j)), some (.long y), none, none, none, none]) (lc (lc (lc (lc (lc (lc (ln (ln (ln l0))))))))) ?_
      refine st_ald rfl rfl ?_
      refine st_ild rfl rfl ?_
      refine st_ald rfl rfl ?_
      refine st_gR' rfl (by first | exact tT hM1 rfl | assumption | exact rw_T hM1 (by assumption) | exact rw_A hM1 (by assumption)) (by first | exact rR hM1 rfl rfl | assumption | exact rw_R hM1 (by assumption)) ?_
      refine st_ald rfl rfl ?_
      refine st_gI rfl (by first | exact tT hM1 rfl | assumption | exact rw_T hM1 (by assumption) | exact rw_A hM1 (by assumption)) ?_
      -- at 197: stop
      refine wp_e hL.1 ?_
      refine st_cav (As := [_, _, _]) rfl rfl rfl (by first | exact tT hM1 rfl | assumption | exact rw_T hM1 (by assumption) | exact rw_A hM1 (by assumption)) (Nat.le_of_ble_eq_true rfl) (hc3) ?_
      -- at 200: stop
      refine st_ald rfl rfl ?_
      refine st_gI rfl (by first | exact tT hM3 rfl | assumption | exact rw_T hM3 (by assumption) | exact rw_A hM3 (by assumption)) ?_
      -- at 204: stop
      refine wp_e (y := nI ws.length) (by rw [h8.2.2.1 132 29 (by omega) (by omega)]; exact hL.1) ?_
      exact st_iret rfl ⟨rfl, hI3, hs.fr.tr h8.fr⟩
    have loop : ∀ m ws x z cc M1, z = lN x → x < 2 ^ 31 → 0 < cc → cc ≤ 6 → ws.length + m = N → kn (aC a) ws → lo (aC a) N [] S = lo (aC a) m ws x → Msc M M1 → Lk M1 ws → pm_WP (pm_call (d + 19)) tb_262 (fun r0 M' => r0 = some (.int (nI (lo (aC a) N [] S).length)) ∧ IM (sR' a j (some ((lo (aC a) N [] S).map nI))) M' ∧ Mfr M M') 42 [some (.ref 132), some (.int (nI N)), some (.int (nI S)), some (.int (nI j)), some (.long z), none, some (.int (nI cc)), none, none] [] M1 := by
      intro m
      induction m with
      | zero =>
        intro ws x z cc M1 hz hx hc0 hc6 hlw hk he hs hL
        subst hz
        have hM1 := hs.ok hM
        refine st_ild rfl rfl ?_
        refine st_b1 rfl (fun zq => absurd zq (nI_nle hc0 (by omega))) (fun _ => ?_)
        refine st_ald rfl rfl ?_
        refine st_gI rfl (by first | exact tT hM1 rfl | assumption | exact rw_T hM1 (by assumption) | exact rw_A hM1 (by assumption)) ?_
        -- at 51: stop
        refine wp_e hL.1 ?_
        refine st_ild rfl rfl ?_
        refine st_b2 rfl (fun _ => ?_) (fun zq => absurd (nI_le (by omega) (by omega)) zq)
        -- at 187: stop
        exact fin ws _ _ _ _ M1 he (by omega) hs hL
      | succ m ih =>
        intro ws x z cc M1 hz hx hc0 hc6 hlw hk he hs hL
        subst hz
        have hM1 := hs.ok hM
        have hcl := cn_le (qf (aC a) ws)
        have los : lo (aC a) (m + 1) ws x = if cn (qf (aC a) ws) 6 = 0 then ws else lo (aC a) m (ws ++ [pkk (qf (aC a) ws) (x * 48271 % 2147483647 % cn (qf (aC a) ws) 6) 6]) (x * 48271 % 2147483647) := rfl
        have hx2 : x * 48271 % 2147483647 < 2 ^ 31 := Nat.lt_trans (Nat.mod_lt _ (by decide)) (by decide)
        have h6 := cn6 ha.1 ws
        -- the choice
        have pick : ∀ t k0, k0 < cf_n (aC a) → qf (aC a) ws k0 = true → cn (qf (aC a) ws) k0 = t → pkk (qf (aC a) ws) (x * 48271 % 2147483647 % cn (qf (aC a) ws) 6) 6 = k0 → 0 < cn (qf (aC a) ws) 6 → ∀ m2 k y u M2, y = nI k → k + m2 = k0 → u = nI (t - cn (qf (aC a) ws) k) → Msc M M2 → Lk M2 ws → pm_WP (pm_call (d + 19)) tb_262 (fun r0 M' => r0 = some (.int (nI (lo (aC a) N [] S).length)) ∧ IM (sR' a j (some ((lo (aC a) N [] S).map nI))) M' ∧ Mfr M M') 124 [some (.ref 132), some (.int (nI N)), some (.int (nI S)), some (.int (nI j)), some (.long (lN (x * 48271 % 2147483647))), none, some (.int (nI (cn (qf (aC a) ws) 6))), some (.int u), some (.int y)] [] M2 := by
          intro t k0 hk0 w2 w3 hpk hpos m2
          have hct := hcl k0
          induction m2 with
          | zero =>
            intro k y u M2 hy hi hu hs2 hL2
            subst hy; subst hu
            rw [show k = k0 by omega]
            have hM2 := hs2.ok hM
            obtain ⟨M3, hc3, hL3, h3⟩ := m_canTie (d + 14) hM2 ha.1 (h.2.2.2.1.sc hs2) hk (by omega) hL2 hk0
            have hs3 := hs2.tr h3
            have hM3 := hs3.ok hM
            have hrt := (qf_t hk0).mp w2
            have hin3 : vp_in (nI ws.length) 24 := vp_in_nI (by omega) (by decide)
            refine st_ald rfl rfl ?_
            refine st_ild rfl rfl ?_
            refine st_cav (As := [_]) rfl rfl rfl (by first | exact tT hM2 rfl | assumption | exact rw_T hM2 (by assumption) | exact rw_A hM2 (by assumption)) (Nat.le_of_ble_eq_true rfl) (hc3) ?_
            -- at 130: stop
            refine st_b1 rfl (fun zq => absurd zq (b01_t hrt)) (fun _ => ?_)
            refine st_ild rfl rfl ?_
            refine st_b1 rfl (fun _ => ?_) (fun zq => absurd ((by rw [w3, Nat.sub_self]; decide)) zq)
            refine st_ald rfl rfl ?_
            refine st_gR' rfl (by first | exact tT hM3 rfl | assumption | exact rw_T hM3 (by assumption) | exact rw_A hM3 (by assumption)) (by first | exact rR hM3 rfl rfl | assumption | exact rw_R hM3 (by assumption)) ?_
            refine st_ald rfl rfl ?_
            refine st_gI rfl (by first | exact tT hM3 rfl | assumption | exact rw_T hM3 (by assumption) | exact rw_A hM3 (by assumption)) ?_
            -- at 171: stop
            refine wp_e hL3.1 ?_
            refine st_ild rfl rfl ?_
            refine st_iast rfl (tT hM3 rfl) (hin3) ?_
            refine st_ald rfl rfl ?_
            refine st_dup rfl rfl ?_
            refine st_gI rfl (by first | exact tT hM3 rfl | assumption | exact rw_T hM3 (by assumption) | exact rw_A hM3 (by assumption)) ?_
            -- at 179: stop
            rw [nI_clamp (show ws.length < 2 ^ 31 by omega)]
            refine wp_e (y := nI ws.length) (by rw [gI_ne (Or.inl (by decide))]; exact hL3.1) ?_
            refine st_k rfl ?_
            refine st_ib rfl ?_
            -- at 181: stop
            rw [nI_1]
            refine st_pI rfl (by first | exact tT hM3 rfl | assumption | exact rw_T hM3 (by assumption) | exact rw_A hM3 (by assumption)) ?_
            refine st_go rfl ?_
            -- at 42: stop
            refine wp_le ms_262 (lc (lc (lc (lc (lc (lc (lc (ln (ln l0))))))))) (ih (ws ++ [k0]) (x * 48271 % 2147483647) _ (cn (qf (aC a) ws) 6) _ rfl hx2 hpos (hcl 6) (by simp; omega) (fun q hq => (List.mem_append.mp hq).elim (hk q) (fun z => by rw [List.mem_singleton.mp z]; exact hk0)) ?_ ((hs3.sI _ (by omega)).sI _ (by omega)) (lk_add hL3 (by omega)))
            rw [he, los, if_neg (by omega), hpk]
          | succ m2 ih2 =>
            intro k y u M2 hy hi hu hs2 hL2
            subst hy; subst hu
            have hM2 := hs2.ok hM
            have hkn : k < cf_n (aC a) := by omega
            obtain ⟨M3, hc3, hL3, h3⟩ := m_canTie (d + 14) hM2 ha.1 (h.2.2.2.1.sc hs2) hk (by omega) hL2 hkn
            have hs3 := hs2.tr h3
            have hM3 := hs3.ok hM
            obtain ⟨M4, hc4, hL4, h4⟩ := m_canTie (d + 14) hM3 ha.1 (h.2.2.2.1.sc hs3) hk (by omega) hL3 hkn
            have hs4 := hs3.tr h4
            have hM4 := hs4.ok hM
            have hmo := cn_mono (qf (aC a) ws) (k := k + 1) k0 (by omega)
            by_cases g : rt (aC a) (ws ++ [k])
            · have gq := (qf_t hkn).mpr g
              rw [cn_s, if_pos gq] at hmo
              refine st_ald rfl rfl ?_
              refine st_ild rfl rfl ?_
              refine st_cav (As := [_]) rfl rfl rfl (by first | exact tT hM2 rfl | assumption | exact rw_T hM2 (by assumption) | exact rw_A hM2 (by assumption)) (Nat.le_of_ble_eq_true rfl) (hc3) ?_
              -- at 130: stop
              refine st_b1 rfl (fun zq => absurd zq (b01_t g)) (fun _ => ?_)
              refine st_ild rfl rfl ?_
              refine st_b1 rfl (fun zq => absurd zq (nI_nle (by omega) (by omega))) (fun _ => ?_)
              refine st_ild rfl rfl ?_
              refine st_ald rfl rfl ?_
              refine st_ild rfl rfl ?_
              refine st_cav (As := [_]) rfl rfl rfl (by first | exact tT hM3 rfl | assumption | exact rw_T hM3 (by assumption) | exact rw_A hM3 (by assumption)) (Nat.le_of_ble_eq_true rfl) (hc4) ?_
              -- at 146: stop
              refine st_b1 rfl (fun zq => absurd zq (b01_t g)) (fun _ => ?_)
              refine st_k rfl ?_
              refine st_go rfl ?_
              refine st_ib rfl ?_
              refine st_ist rfl ?_
              refine st_inc rfl rfl ?_
              refine st_go rfl ?_
              -- at 124: stop
              refine ih2 (k + 1) _ _ M4 (nI_1 k) (by omega) ?_ hs4 hL4
              rw [cn_s, if_pos gq]
              show nI _ - nI 1 = _
              rw [pk_sub (by omega)]
              congr 1
            · have gq : ¬ qf (aC a) ws k = true := fun z => g ((qf_t hkn).mp z)
              refine st_ald rfl rfl ?_
              refine st_ild rfl rfl ?_
              refine st_cav (As := [_]) rfl rfl rfl (by first | exact tT hM2 rfl | assumption | exact rw_T hM2 (by assumption) | exact rw_A hM2 (by assumption)) (Nat.le_of_ble_eq_true rfl) (hc3) ?_
              -- at 130: stop
              refine st_b1 rfl (fun _ => ?_) (fun zq => absurd (b01_f g) zq)
              refine st_ild rfl rfl ?_
              refine st_ald rfl rfl ?_
              refine st_ild rfl rfl ?_
              refine st_cav (As := [_]) rfl rfl rfl (by first | exact tT hM3 rfl | assumption | exact rw_T hM3 (by assumption) | exact rw_A hM3 (by assumption)) (Nat.le_of_ble_eq_true rfl) (hc4) ?_
              -- at 146: stop
              refine st_b1 rfl (fun _ => ?_) (fun zq => absurd (b01_f g) zq)
              refine st_k rfl ?_
              refine st_ib rfl ?_
              refine st_ist rfl ?_
              refine st_inc rfl rfl ?_
              refine st_go rfl ?_
              -- at 124: stop
              refine ih2 (k + 1) _ _ M4 (nI_1 k) (by omega) ?_ hs4 hL4
              rw [cn_s, if_neg gq]
              show nI _ - nI 0 = _
              rw [pk_sub (by omega)]
              congr 1
        -- the count
        have count : ∀ m2 k y u M2, y = nI k → k + m2 = cf_n (aC a) → u = nI (cn (qf (aC a) ws) k) → Msc M M2 → Lk M2 ws → pm_WP (pm_call (d + 19)) tb_262 (fun r0 M' => r0 = some (.int (nI (lo (aC a) N [] S).length)) ∧ IM (sR' a j (some ((lo (aC a) N [] S).map nI))) M' ∧ Mfr M M') 61 [some (.ref 132), some (.int (nI N)), some (.int (nI S)), some (.int (nI j)), some (.long (lN x)), none, some (.int u), some (.int y), none] [] M2 := by
          intro m2
          induction m2 with
          | zero =>
            intro k y u M2 hy hi hu hs2 hL2
            subst hy; subst hu
            have hM2 := hs2.ok hM
            have hc2 := h.2.2.2.1.sc hs2
            rw [show k = cf_n (aC a) by omega, ← h6]
            refine st_ild rfl rfl ?_
            refine st_ald rfl rfl ?_
            refine st_gI rfl (by first | exact tT hM2 rfl | assumption | exact rw_T hM2 (by assumption) | exact rw_A hM2 (by assumption)) ?_
            -- at 67: stop
            refine wp_e hc2.1.2.2.1 ?_
            refine st_b2 rfl (fun _ => ?_) (fun zq => absurd (nI_le (by omega) (by omega)) zq)
            refine st_ild rfl rfl ?_
            refine st_b1 rfl (fun g => ?_) (fun g => ?_)
            -- at 97: split 42 100
            · have g : cn (qf (aC a) ws) 6 = 0 := by
                have := (nI_leI (a := cn (qf (aC a) ws) 6) (b := 0) (by have := hcl 6; omega) (by decide)).mp g
                omega
              rw [g]
              refine st_ild rfl rfl ?_
              refine st_b1 rfl (fun _ => ?_) (fun zq => absurd ((by decide)) zq)
              -- at 187: stop
              exact fin ws _ _ _ _ M2 (by rw [he, los, if_pos g]) (by omega) hs2 hL2
            · have g : 0 < cn (qf (aC a) ws) 6 := by
                rcases Nat.eq_zero_or_pos (cn (qf (aC a) ws) 6) with z | z
                · rw [z] at g; exact absurd (by decide) g
                · exact z
              obtain ⟨q1, q2⟩ := k2 (x * 48271 % 2147483647) _ hx2 g (hcl 6)
              obtain ⟨k0, w1, w2, w3⟩ := cn_ex (p := qf (aC a) ws) 6 (Nat.mod_lt (x * 48271 % 2147483647) g)
              refine st_k rfl ?_
              refine st_lld rfl rfl ?_
              refine st_lb rfl ?_
              refine st_k rfl ?_
              refine st_ldv rfl ((by decide)) ?_
              -- at 110: stop
              refine wp_el (y := lN (x * 48271 % 2147483647)) (by rw [← k1 x hx, Int64.mul_comm]) ?_
              refine st_lst rfl ?_
              refine st_lld rfl rfl ?_
              refine st_ild rfl rfl ?_
              refine st_i2l rfl ?_
              refine st_ldv rfl (q2) ?_
              refine st_l2i rfl ?_
              -- at 119: stop
              refine wp_e q1 ?_
              refine st_ist rfl ?_
              refine st_k rfl ?_
              refine st_ist rfl ?_
              -- at 124: stop
              exact pick _ k0 (qf_n w2) w2 w3 (pkk_eq w2 w3 6 w1) g k0 0 _ _ M2 rfl (by omega) (by rw [show cn (qf (aC a) ws) 0 = 0 from rfl, Nat.sub_zero]) hs2 hL2
          | succ m2 ih2 =>
            intro k y u M2 hy hi hu hs2 hL2
            subst hy; subst hu
            have hM2 := hs2.ok hM
            have hc2 := h.2.2.2.1.sc hs2
            have hkn : k < cf_n (aC a) := by omega
            obtain ⟨M3, hc3, hL3, h3⟩ := m_canTie (d + 14) hM2 ha.1 hc2 hk (by omega) hL2 hkn
            have hs3 := hs2.tr h3
            have hM3 := hs3.ok hM
            refine st_ild rfl rfl ?_
            refine st_ald rfl rfl ?_
            refine st_gI rfl (by first | exact tT hM2 rfl | assumption | exact rw_T hM2 (by assumption) | exact rw_A hM2 (by assumption)) ?_
            -- at 67: stop
            refine wp_e hc2.1.2.2.1 ?_
            refine st_b2 rfl (fun zq => absurd zq (nI_ge (by omega) (by omega))) (fun _ => ?_)
            refine st_ild rfl rfl ?_
            refine st_ald rfl rfl ?_
            refine st_ild rfl rfl ?_
            refine st_cav (As := [_]) rfl rfl rfl (by first | exact tT hM2 rfl | assumption | exact rw_T hM2 (by assumption) | exact rw_A hM2 (by assumption)) (Nat.le_of_ble_eq_true rfl) (hc3) ?_
            -- at 78: stop
            by_cases g : rt (aC a) (ws ++ [k])
            · refine st_b1 rfl (fun zq => absurd zq (b01_t g)) (fun _ => ?_)
              refine st_k rfl ?_
              refine st_go rfl ?_
              refine st_ib rfl ?_
              refine st_ist rfl ?_
              refine st_inc rfl rfl ?_
              refine st_go rfl ?_
              -- at 61: stop
              exact ih2 (k + 1) _ _ M3 (nI_1 k) (by omega) (by rw [cn_s, if_pos ((qf_t hkn).mpr g)]; exact nI_1 _) hs3 hL3
            · refine st_b1 rfl (fun _ => ?_) (fun zq => absurd (b01_f g) zq)
              refine st_k rfl ?_
              refine st_ib rfl ?_
              refine st_ist rfl ?_
              refine st_inc rfl rfl ?_
              refine st_go rfl ?_
              -- at 61: stop
              exact ih2 (k + 1) _ _ M3 (nI_1 k) (by omega) (by rw [cn_s, if_neg (fun z => g ((qf_t hkn).mp z))]; exact Int32.add_zero _) hs3 hL3
        refine st_ild rfl rfl ?_
        refine st_b1 rfl (fun zq => absurd zq (nI_nle hc0 (by omega))) (fun _ => ?_)
        refine st_ald rfl rfl ?_
        refine st_gI rfl (by first | exact tT hM1 rfl | assumption | exact rw_T hM1 (by assumption) | exact rw_A hM1 (by assumption)) ?_
        -- at 51: stop
        refine wp_e hL.1 ?_
        refine st_ild rfl rfl ?_
        refine st_b2 rfl (fun zq => absurd zq (nI_ge (by omega) (by omega))) (fun _ => ?_)
        refine st_k rfl ?_
        refine st_ist rfl ?_
        refine st_k rfl ?_
        refine st_ist rfl ?_
        -- at 61: stop
        exact count (cf_n (aC a)) 0 _ _ M1 rfl (by omega) rfl hs hL
    obtain ⟨r, M', hc, hr', h9, h10⟩ := eq_262 (d := d + 19) (A := [.ref 132, .int (nI N), .int (nI S), .int (nI j)]) (M := M) (Q := fun r0 M' => r0 = some (.int (nI (lo (aC a) N [] S).length)) ∧ IM (sR' a j (some ((lo (aC a) N [] S).map nI))) M' ∧ Mfr M M') (Nat.le_of_ble_eq_true rfl) (by
      refine st_ild rfl rfl ?_
      refine st_k rfl ?_
      refine st_k rfl ?_
      refine st_call (As := [_, _, _]) rfl rfl rfl (Nat.le_of_ble_eq_true rfl) (m_in (d + 18) _ 0 20) ?_
      refine st_b1 rfl (fun zq => absurd zq (b01_t g1)) (fun _ => ?_)
      refine st_ild rfl rfl ?_
      refine st_k rfl ?_
      refine st_k rfl ?_
      refine st_call (As := [_, _, _]) rfl rfl rfl (Nat.le_of_ble_eq_true rfl) (m_in (d + 18) _ 1 2147483646) ?_
      refine st_b1 rfl (fun zq => absurd zq (b01_t g2)) (fun _ => ?_)
      refine st_ild rfl rfl ?_
      refine st_call (As := [_]) rfl rfl rfl (Nat.le_of_ble_eq_true rfl) (m_isRow (d + 17) _) ?_
      refine st_b1 rfl (fun _ => ?_) (fun zq => absurd (b01_t h2) zq)
      refine st_ild rfl rfl ?_
      refine st_i2l rfl ?_
      refine st_lst rfl ?_
      refine st_ald rfl rfl ?_
      refine st_k rfl ?_
      refine st_pI rfl (by first | exact tT hM rfl | assumption | exact rw_T hM (by assumption) | exact rw_A hM (by assumption)) ?_
      refine st_k rfl ?_
      refine st_ist rfl ?_
      -- at 42: stop
      exact loop N [] S _ 1 _ e64 hS (by decide) (by decide) (by simp) (fun k hk => absurd hk List.not_mem_nil) rfl ((Msc.rf M).sI _ (by omega)) ⟨gI_same _ _ _ _, by simp, fun i hi => by simp at hi⟩)
    subst hr'
    exact ⟨M', hc, h9, h10⟩
end LTS

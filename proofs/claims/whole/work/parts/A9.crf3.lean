/-! craft: both answer alike -/
def dC (k j : Nat) : Prop := (k = 132 ∧ (j = 9 ∨ j = 10 ∨ j = 11 ∨ j = 15 ∨ j = 17 ∨ j = 33)) ∨ (139 ≤ k ∧ k ≤ 143) ∨ k = 150
def FV (L G : Nat) (s : Pn) (M1 N : pm_M) : Prop := Mx dC M1 N ∧ gI N 132 9 = nI L ∧ gI N 132 10 = nI G ∧ gI N 132 11 = nI s.2.1.length ∧ gI N 132 15 = nI s.2.2.1.length ∧ gI N 132 17 = nI s.2.2.2.length
theorem FV.sI {L G : Nat} {s : Pn} {M1 N : pm_M} (h : FV L G s M1 N) {k : Nat} (hk : (139 ≤ k ∧ k ≤ 143) ∨ k = 150) (j : Nat) (v : Int32) : FV L G s M1 (sI N k j v) := by
  obtain ⟨h1, h2, h3, h4, h5, h6⟩ := h
  have hk' : k ≠ 132 := by omega
  exact ⟨h1.sI (Or.inr hk) v, by rw [gI_ne (Or.inl hk'.symm)]; exact h2, by rw [gI_ne (Or.inl hk'.symm)]; exact h3, by rw [gI_ne (Or.inl hk'.symm)]; exact h4, by rw [gI_ne (Or.inl hk'.symm)]; exact h5, by rw [gI_ne (Or.inl hk'.symm)]; exact h6⟩
theorem itn_lt {l : List Int32} {s : Pn} {q : Nat} (h : itn l s = .inl q) : q ≤ s.1 + 3 := by
  unfold itn at h
  split at h
  · split at h
    · cases h; omega
    · unfold laF at h
      split at h
      · cases h; omega
      · split at h
        · cases h; omega
        · cases h
  · split at h
    · split at h
      · cases h; omega
      · unfold paF at h
        split at h
        · cases h; omega
        · split at h
          · cases h; omega
          · split at h
            · cases h; omega
            · cases h
    · split at h
      · cases h; omega
      · split at h
        · cases h; omega
        · unfold knF at h
          split at h
          · cases h; omega
          · split at h
            · cases h; omega
            · cases h
theorem itz_lt {l : List Int32} : ∀ f s q, pwf s → itz l f s = .inl q → q ≤ l.length + 3
  | 0, s, q, _, h => by
    have h : Sum.inr s = (Sum.inl q : Nat ⊕ Pn) := h
    cases h
  | f + 1, s, q, hw, h => by
    unfold itz at h
    split at h
    · cases h
    · split at h
      · exact itz_lt f (s.1 + 1, s.2) q (show pwf (s.1 + 1, s.2) from hw) h
      · cases e : itn l s with
        | inl q' =>
          rw [e] at h
          cases h
          have := itn_lt e
          omega
        | inr s1 =>
          rw [e] at h
          exact itz_lt f s1 q (itn_ok hw e).1 h
theorem twF_lt {l : List Int32} {p q : Nat} (h : twF l p = .inl q) : q ≤ p + 1 := by
  rcases twF_cs l p with ⟨_, e⟩ | ⟨_, _, _, _, e⟩ | ⟨a, b, _, _, _, _, _, e⟩
  · rw [e] at h; cases h; omega
  · rw [e] at h; cases h; omega
  · rw [e] at h; cases h
theorem flt_lt {l : List Int32} {q : Nat} (h : flt l = .inl q) : q ≤ l.length + 4 := by
  have q2 := skb_le (l := l) 80 0 (Nat.zero_le _)
  unfold flt flt1 at h
  generalize skb l 80 0 = p at *
  split at h
  · cases h; omega
  · cases e1 : twF l (p + 1) with
    | inl q' =>
      rw [e1] at h
      cases h
      have := twF_lt e1
      omega
    | inr L =>
      rw [e1] at h
      dsimp only at h
      cases e2 : twF l (p + 3) with
      | inl q' =>
        rw [e2] at h
        cases h
        have := twF_lt e2
        omega
      | inr G =>
        rw [e2] at h
        dsimp only at h
        split at h
        · cases h; omega
        · cases e3 : itT l (p + 5, [], [], []) with
          | inl q' =>
            rw [e3] at h
            cases h
            have := itz_lt _ _ _ (pwf0 _) e3
            omega
          | inr s => rw [e3] at h; cases h
/-- the state behind a craft -/
def sCr (a : As) (c : Cf) : As := (a.1, a.2.1, c, [], (fun _ => none), a.2.2.2.2.2)
section CRE
variable {a : As} {M : pm_M}
theorem aw.crf (ha : aw a) {c : Cf} (hw : cf_wf c) : aw (sCr a c) := ⟨hw, fun k hk => (by cases hk), Nat.zero_le 20, fun k l n _ h => (by cases h), ha.2.2.2.2⟩
theorem m_craftOn (d : Nat) (hM : pm_ok M) {L G : Nat} {s : Pn} {t : Nat} (hw : pwf s) (hc : MP s M) (h21 : gI M 132 21 = nI L) (h22 : gI M 132 22 = nI G) (y2 : Option Value) :
    pm_WP (pm_call d) tb_181 (fun r M' => r = some (.int (nI s.2.1.length)) ∧ Mx dC M M' ∧ MC (cfo L G s) M' ∧ gI M' 132 33 = 0 ∧ ∀ k, k < 3 → gI M' 150 k = -1) 37 [some (.ref 132), some (.int (nI t)), y2] [] M := by
  obtain ⟨w1, w2, w3, w4, w5, w6⟩ := id hw
  obtain ⟨c1, c2, c3, c4, c5, c6, c7⟩ := id hc
  -- the kept ropes
  have l4 : ∀ N y2, FV L G s M N → MC (cfo L G s) N → pm_WP (pm_call d) tb_181 (fun r M' => r = some (.int (nI s.2.1.length)) ∧ Mx dC M M' ∧ MC (cfo L G s) M' ∧ gI M' 132 33 = 0 ∧ ∀ k, k < 3 → gI M' 150 k = -1) 220 [some (.ref 132), some (.int (nI t)), y2] [] N := by
    intro N y2 hf hm
    have hN := hf.1.ok hM
    refine st_ald rfl rfl ?_
    refine st_k rfl ?_
    refine st_pI rfl (by first | exact tT hN rfl | assumption | exact rw_T hN (by assumption) | exact rw_A hN (by assumption)) ?_
    refine st_k rfl ?_
    refine st_ist rfl ?_
    -- at 227: stop
    refine wp_for 3 (fun i L2 N1 => ∃ x, x = nI i ∧ L2 = [some (.ref 132), some (.int (nI t)), some (.int x)] ∧ Mx dC M N1 ∧ MC (cfo L G s) N1 ∧ gI N1 132 33 = 0 ∧ gI N1 132 11 = nI s.2.1.length ∧ ∀ k, k < i → gI N1 150 k = -1) ?_ ?_ 0 _ _ (Nat.zero_le _) ⟨_, rfl, rfl, hf.1.sI (Or.inl ⟨rfl, by omega⟩) _, hm.moved (fun i hi => gI_ne (Or.inr (by omega))) (fun k hk i => gI_ne (Or.inl (by omega))), gI_same _ _ _ _, by rw [gI_ne (Or.inr (by decide))]; exact hf.2.2.2.1, fun k hk => by omega⟩
    · rintro i L2 N1 hi ⟨x, rfl, rfl, x1, m1, r1, n1, v1⟩ ih
      have hN1 := x1.ok hM
      have hin : vp_in (nI i) 3 := vp_in_nI hi (by decide)
      refine st_ild rfl rfl ?_
      refine st_k rfl ?_
      refine st_b2 rfl (fun zq => absurd zq (nI_ge (b := 3) hi (by decide))) (fun _ => ?_)
      refine st_ald rfl rfl ?_
      refine st_gR' rfl (by first | exact tT hN1 rfl | assumption | exact rw_T hN1 (by assumption) | exact rw_A hN1 (by assumption)) (by first | exact rR hN1 rfl rfl | assumption | exact rw_R hN1 (by assumption)) ?_
      refine st_ild rfl rfl ?_
      refine st_k rfl ?_
      refine st_iast rfl (by first | exact tT hN1 rfl | assumption | exact rw_T hN1 (by assumption) | exact rw_A hN1 (by assumption)) (by first | decide | assumption | exact vp_in_nI (by omega) (by decide)) ?_
      refine st_inc rfl rfl ?_
      refine st_go rfl ?_
      -- at 227: stop
      rw [nI_clamp (show i < 2 ^ 31 by omega)]
      refine ih _ _ ⟨_, nI_1 i, rfl, x1.sI (Or.inr (Or.inr rfl)) _, m1.moved (fun i hi => gI_ne (Or.inl (by decide))) (fun k hk i => gI_ne (Or.inl (by omega))), by rw [gI_ne (Or.inl (by decide))]; exact r1, by rw [gI_ne (Or.inl (by decide))]; exact n1, fun k hk => ?_⟩
      by_cases z : k = i
      · subst z; exact gI_same _ _ _ _
      · rw [gI_ne (Or.inr z)]; exact v1 k (by omega)
    · rintro L2 N1 ⟨x, rfl, rfl, x1, m1, r1, n1, v1⟩
      have hN1 := x1.ok hM
      refine st_ild rfl rfl ?_
      refine st_k rfl ?_
      refine st_b2 rfl (fun _ => ?_) (fun zq => absurd ((by decide)) zq)
      refine st_ald rfl rfl ?_
      refine st_gI rfl (by first | exact tT hN1 rfl | assumption | exact rw_T hN1 (by assumption) | exact rw_A hN1 (by assumption)) ?_
      -- at 249: stop
      refine wp_e n1 ?_
      exact st_iret rfl ⟨rfl, x1, m1, r1, v1⟩
  -- the PAIRS
  have l3 : ∀ N y2, FV L G s M N → (∀ k, k < s.2.1.length → gI N 139 k = nI (cf_kd (cfo L G s) k) ∧ gI N 140 k = nI (cf_sz (cfo L G s) k) ∧ gI N 141 k = nI (cf_sg (cfo L G s) k) ∧ gI N 142 k = nI (cf_br (cfo L G s) k)) → pm_WP (pm_call d) tb_181 (fun r M' => r = some (.int (nI s.2.1.length)) ∧ Mx dC M M' ∧ MC (cfo L G s) M' ∧ gI M' 132 33 = 0 ∧ ∀ k, k < 3 → gI M' 150 k = -1) 190 [some (.ref 132), some (.int (nI t)), y2] [] N := by
    intro N y2 hf hk
    have hN := hf.1.ok hM
    refine st_k rfl ?_
    refine st_ist rfl ?_
    -- at 192: stop
    refine wp_for (3 * s.2.2.2.length) (fun i L2 N1 => ∃ x, x = nI i ∧ L2 = [some (.ref 132), some (.int (nI t)), some (.int x)] ∧ FV L G s M N1 ∧ (∀ k, k < s.2.1.length → gI N1 139 k = nI (cf_kd (cfo L G s) k) ∧ gI N1 140 k = nI (cf_sz (cfo L G s) k) ∧ gI N1 141 k = nI (cf_sg (cfo L G s) k) ∧ gI N1 142 k = nI (cf_br (cfo L G s) k)) ∧ ∀ k, k < i → gI N1 143 k = gI M 146 k) ?_ ?_ 0 _ _ (Nat.zero_le _) ⟨_, rfl, rfl, hf, hk, fun k hk => by omega⟩
    · rintro i L2 N1 hi ⟨x, rfl, rfl, f1, k1, v1⟩ ih
      have hN1 := f1.1.ok hM
      have hin : vp_in (nI i) 18 := vp_in_nI (by omega) (by decide)
      have hcl : (nI i).toNatClampNeg = i := nI_clamp (by omega)
      refine st_ild rfl rfl ?_
      refine st_k rfl ?_
      refine st_ald rfl rfl ?_
      refine st_gI rfl (by first | exact tT hN1 rfl | assumption | exact rw_T hN1 (by assumption) | exact rw_A hN1 (by assumption)) ?_
      -- at 198: stop
      refine wp_e f1.2.2.2.2.2 ?_
      refine st_ib rfl ?_
      -- at 199: stop
      refine wp_e (y := nI (3 * s.2.2.2.length)) (by show nI 3 * nI _ = _; rw [pk_mul]) ?_
      refine st_b2 rfl (fun zq => absurd zq (nI_ge hi (by omega))) (fun _ => ?_)
      refine st_ald rfl rfl ?_
      refine st_gR' rfl (by first | exact tT hN1 rfl | assumption | exact rw_T hN1 (by assumption) | exact rw_A hN1 (by assumption)) (by first | exact rR hN1 rfl rfl | assumption | exact rw_R hN1 (by assumption)) ?_
      refine st_ild rfl rfl ?_
      refine st_ald rfl rfl ?_
      refine st_gR' rfl (by first | exact tT hN1 rfl | assumption | exact rw_T hN1 (by assumption) | exact rw_A hN1 (by assumption)) (by first | exact rR hN1 rfl rfl | assumption | exact rw_R hN1 (by assumption)) ?_
      refine st_ild rfl rfl ?_
      refine st_iald rfl (by first | exact tT hN1 rfl | assumption | exact rw_T hN1 (by assumption) | exact rw_A hN1 (by assumption)) (by first | decide | assumption | exact vp_in_nI (by omega) (by decide)) ?_
      -- at 213: stop
      refine wp_e (y := gI M 146 i) (by rw [hcl]; exact f1.1.i (by unfold dC; omega)) ?_
      refine st_iast rfl (by first | exact tT hN1 rfl | assumption | exact rw_T hN1 (by assumption) | exact rw_A hN1 (by assumption)) (by first | decide | assumption | exact vp_in_nI (by omega) (by decide)) ?_
      refine st_inc rfl rfl ?_
      refine st_go rfl ?_
      -- at 192: stop
      rw [hcl]
      refine ih _ _ ⟨_, nI_1 i, rfl, f1.sI (Or.inl ⟨by decide, by decide⟩) _ _, fun k hk => ?_, fun k hk => ?_⟩
      · rw [gI_ne (Or.inl (by decide)), gI_ne (Or.inl (by decide)), gI_ne (Or.inl (by decide)), gI_ne (Or.inl (by decide))]
        exact k1 k hk
      · by_cases z : k = i
        · subst z; exact gI_same _ _ _ _
        · rw [gI_ne (Or.inr z)]; exact v1 k (by omega)
    · rintro L2 N1 ⟨x, rfl, rfl, f1, k1, v1⟩
      have hN1 := f1.1.ok hM
      refine st_ild rfl rfl ?_
      refine st_k rfl ?_
      refine st_ald rfl rfl ?_
      refine st_gI rfl (by first | exact tT hN1 rfl | assumption | exact rw_T hN1 (by assumption) | exact rw_A hN1 (by assumption)) ?_
      -- at 198: stop
      refine wp_e f1.2.2.2.2.2 ?_
      refine st_ib rfl ?_
      -- at 199: stop
      refine wp_e (y := nI (3 * s.2.2.2.length)) (by show nI 3 * nI _ = _; rw [pk_mul]) ?_
      refine st_b2 rfl (fun _ => ?_) (fun zq => absurd (nI_le (Nat.le_refl _) (by omega)) zq)
      -- at 220: stop
      refine l4 N1 _ f1 ⟨⟨f1.2.1, f1.2.2.1, f1.2.2.2.1, f1.2.2.2.2.1, f1.2.2.2.2.2⟩, k1, fun i hi => ?_⟩
      have hi' : i < s.2.2.2.length := hi
      rw [v1 _ (by omega), v1 _ (by omega), v1 _ (by omega)]
      exact c7 i _ (gD_some (0, 0, 0) hi')
  -- the LAWS
  have l2 : ∀ N y2, FV L G s M N → (∀ k, k < s.2.1.length → gI N 139 k = nI (cf_kd (cfo L G s) k) ∧ gI N 140 k = nI (cf_sz (cfo L G s) k) ∧ gI N 141 k = nI (cf_sg (cfo L G s) k) ∧ gI N 142 k = 0) → pm_WP (pm_call d) tb_181 (fun r M' => r = some (.int (nI s.2.1.length)) ∧ Mx dC M M' ∧ MC (cfo L G s) M' ∧ gI M' 132 33 = 0 ∧ ∀ k, k < 3 → gI M' 150 k = -1) 146 [some (.ref 132), some (.int (nI t)), y2] [] N := by
    intro N y2 hf hk
    have hN := hf.1.ok hM
    refine st_k rfl ?_
    refine st_ist rfl ?_
    -- at 148: stop
    refine wp_for s.2.2.1.length (fun i L2 N1 => ∃ x, x = nI i ∧ L2 = [some (.ref 132), some (.int (nI t)), some (.int x)] ∧ FV L G s M N1 ∧ (∀ k, k < s.2.1.length → gI N1 139 k = nI (cf_kd (cfo L G s) k) ∧ gI N1 140 k = nI (cf_sz (cfo L G s) k) ∧ gI N1 141 k = nI (cf_sg (cfo L G s) k) ∧ gI N1 142 k = nI (brl s.2.2.1 i k))) ?_ ?_ 0 _ _ (Nat.zero_le _) ⟨_, rfl, rfl, hf, hk⟩
    · rintro i L2 N1 hi ⟨x, rfl, rfl, f1, k1⟩ ih
      have hN1 := f1.1.ok hM
      have hg := gD_some (0, 0) hi
      generalize hq : s.2.2.1.getD i (0, 0) = q at *
      have hq2 := w5 q (by rw [← hq]; exact gD_mem (0, 0) hi)
      obtain ⟨v1, v2⟩ := c6 i q hg
      have hin : vp_in (nI (2 * i)) 12 := vp_in_nI (by omega) (by decide)
      have hcl : (nI (2 * i)).toNatClampNeg = 2 * i := nI_clamp (by omega)
      have hin1 : vp_in (nI (2 * i + 1)) 12 := vp_in_nI (by omega) (by decide)
      have hcl1 : (nI (2 * i + 1)).toNatClampNeg = 2 * i + 1 := nI_clamp (by omega)
      have hin2 : vp_in (nI q.1) 6 := vp_in_nI (by omega) (by decide)
      have hcl2 : (nI q.1).toNatClampNeg = q.1 := nI_clamp (by omega)
      refine st_ild rfl rfl ?_
      refine st_ald rfl rfl ?_
      refine st_gI rfl (by first | exact tT hN1 rfl | assumption | exact rw_T hN1 (by assumption) | exact rw_A hN1 (by assumption)) ?_
      -- at 153: stop
      refine wp_e f1.2.2.2.2.1 ?_
      refine st_b2 rfl (fun zq => absurd zq (nI_ge hi (by omega))) (fun _ => ?_)
      refine st_ald rfl rfl ?_
      refine st_gR' rfl (by first | exact tT hN1 rfl | assumption | exact rw_T hN1 (by assumption) | exact rw_A hN1 (by assumption)) (by first | exact rR hN1 rfl rfl | assumption | exact rw_R hN1 (by assumption)) ?_
      refine st_ald rfl rfl ?_
      refine st_gR' rfl (by first | exact tT hN1 rfl | assumption | exact rw_T hN1 (by assumption) | exact rw_A hN1 (by assumption)) (by first | exact rR hN1 rfl rfl | assumption | exact rw_R hN1 (by assumption)) ?_
      refine st_k rfl ?_
      refine st_ild rfl rfl ?_
      refine st_ib rfl ?_
      -- at 167: stop
      refine wp_e (y := nI (2 * i)) (by show nI 2 * nI _ = _; rw [pk_mul]) ?_
      refine st_iald rfl (by first | exact tT hN1 rfl | assumption | exact rw_T hN1 (by assumption) | exact rw_A hN1 (by assumption)) (by first | decide | assumption | exact vp_in_nI (by omega) (by decide)) ?_
      -- at 168: stop
      refine wp_e (y := nI q.1) (by rw [hcl, f1.1.i (by unfold dC; omega)]; exact v1) ?_
      refine st_dup2 rfl rfl rfl ?_
      refine st_iald rfl (by first | exact tT hN1 rfl | assumption | exact rw_T hN1 (by assumption) | exact rw_A hN1 (by assumption)) (by first | decide | assumption | exact vp_in_nI (by omega) (by decide)) ?_
      -- at 170: stop
      refine wp_e (y := nI (brl s.2.2.1 i q.1)) (by rw [hcl2]; exact (k1 q.1 hq2.1).2.2.2) ?_
      refine st_k rfl ?_
      refine st_ald rfl rfl ?_
      refine st_gR' rfl (by first | exact tT hN1 rfl | assumption | exact rw_T hN1 (by assumption) | exact rw_A hN1 (by assumption)) (by first | exact rR hN1 rfl rfl | assumption | exact rw_R hN1 (by assumption)) ?_
      refine st_k rfl ?_
      refine st_ild rfl rfl ?_
      refine st_ib rfl ?_
      -- at 178: stop
      refine wp_e (y := nI (2 * i)) (by show nI 2 * nI _ = _; rw [pk_mul]) ?_
      refine st_k rfl ?_
      refine st_ib rfl ?_
      -- at 180: stop
      refine wp_e (y := nI (2 * i + 1)) (by show nI _ + nI 1 = _; rw [nI_add]) ?_
      refine st_iald rfl (by first | exact tT hN1 rfl | assumption | exact rw_T hN1 (by assumption) | exact rw_A hN1 (by assumption)) (by first | decide | assumption | exact vp_in_nI (by omega) (by decide)) ?_
      -- at 181: stop
      refine wp_e (y := nI q.2) (by rw [hcl1, f1.1.i (by unfold dC; omega)]; exact v2) ?_
      refine st_ib rfl ?_
      refine st_ib rfl ?_
      -- at 183: stop
      refine wp_e (y := nI (brl s.2.2.1 i q.1 ||| 2 ^ q.2)) (or_bit _ (brl_lt w1 w5 q.1 i (by omega)) _ (by omega)) ?_
      refine st_iast rfl (by first | exact tT hN1 rfl | assumption | exact rw_T hN1 (by assumption) | exact rw_A hN1 (by assumption)) (by first | decide | assumption | exact vp_in_nI (by omega) (by decide)) ?_
      refine st_inc rfl rfl ?_
      refine st_go rfl ?_
      -- at 148: stop
      rw [hcl2]
      refine ih _ _ ⟨_, nI_1 i, rfl, f1.sI (Or.inl ⟨by decide, by decide⟩) _ _, fun k hk => ?_⟩
      obtain ⟨z1, z2, z3, z4⟩ := k1 k hk
      rw [gI_ne (k' := 139) (Or.inl (by decide)), gI_ne (k' := 140) (Or.inl (by decide)), gI_ne (k' := 141) (Or.inl (by decide))]
      refine ⟨z1, z2, z3, ?_⟩
      by_cases z : k = q.1
      · subst z
        rw [gI_same]
        show _ = nI (if (s.2.2.1.getD i (0, 0)).1 = q.1 then _ else _)
        rw [hq, if_pos rfl]
      · rw [gI_ne (Or.inr z), z4]
        show _ = nI (if (s.2.2.1.getD i (0, 0)).1 = k then _ else _)
        rw [hq, if_neg (fun y => z y.symm)]
    · rintro L2 N1 ⟨x, rfl, rfl, f1, k1⟩
      have hN1 := f1.1.ok hM
      refine st_ild rfl rfl ?_
      refine st_ald rfl rfl ?_
      refine st_gI rfl (by first | exact tT hN1 rfl | assumption | exact rw_T hN1 (by assumption) | exact rw_A hN1 (by assumption)) ?_
      -- at 153: stop
      refine wp_e f1.2.2.2.2.1 ?_
      refine st_b2 rfl (fun _ => ?_) (fun zq => absurd (nI_le (Nat.le_refl _) (by omega)) zq)
      -- at 190: stop
      exact l3 N1 _ f1 k1
  -- the KNOTS
  have l1 : ∀ N y2, FV L G s M N → pm_WP (pm_call d) tb_181 (fun r M' => r = some (.int (nI s.2.1.length)) ∧ Mx dC M M' ∧ MC (cfo L G s) M' ∧ gI M' 132 33 = 0 ∧ ∀ k, k < 3 → gI M' 150 k = -1) 77 [some (.ref 132), some (.int (nI t)), y2] [] N := by
    intro N y2 hf
    have hN := hf.1.ok hM
    refine st_k rfl ?_
    refine st_ist rfl ?_
    -- at 79: stop
    refine wp_for s.2.1.length (fun i L2 N1 => ∃ x, x = nI i ∧ L2 = [some (.ref 132), some (.int (nI t)), some (.int x)] ∧ FV L G s M N1 ∧ (∀ k, k < i → gI N1 139 k = nI (cf_kd (cfo L G s) k) ∧ gI N1 140 k = nI (cf_sz (cfo L G s) k) ∧ gI N1 141 k = nI (cf_sg (cfo L G s) k) ∧ gI N1 142 k = 0)) ?_ ?_ 0 _ _ (Nat.zero_le _) ⟨_, rfl, rfl, hf, fun k hk => by omega⟩
    · rintro i L2 N1 hi ⟨x, rfl, rfl, f1, k1⟩ ih
      have hN1 := f1.1.ok hM
      obtain ⟨v1, v2, v3⟩ := c5 i _ (gD_some (0, 0, 0) hi)
      have hin6 : vp_in (nI i) 6 := vp_in_nI (by omega) (by decide)
      have hcl6 : (nI i).toNatClampNeg = i := nI_clamp (by omega)
      have ha : vp_in (nI (3 * i)) 18 := vp_in_nI (by omega) (by decide)
      have hb : vp_in (nI (3 * i + 1)) 18 := vp_in_nI (by omega) (by decide)
      have hc : vp_in (nI (3 * i + 2)) 18 := vp_in_nI (by omega) (by decide)
      have ca : (nI (3 * i)).toNatClampNeg = 3 * i := nI_clamp (by omega)
      have cb : (nI (3 * i + 1)).toNatClampNeg = 3 * i + 1 := nI_clamp (by omega)
      have cc : (nI (3 * i + 2)).toNatClampNeg = 3 * i + 2 := nI_clamp (by omega)
      refine st_ild rfl rfl ?_
      refine st_ald rfl rfl ?_
      refine st_gI rfl (by first | exact tT hN1 rfl | assumption | exact rw_T hN1 (by assumption) | exact rw_A hN1 (by assumption)) ?_
      -- at 84: stop
      refine wp_e f1.2.2.2.1 ?_
      refine st_b2 rfl (fun zq => absurd zq (nI_ge hi (by omega))) (fun _ => ?_)
      refine st_ald rfl rfl ?_
      refine st_gR' rfl (by first | exact tT hN1 rfl | assumption | exact rw_T hN1 (by assumption) | exact rw_A hN1 (by assumption)) (by first | exact rR hN1 rfl rfl | assumption | exact rw_R hN1 (by assumption)) ?_
      refine st_ild rfl rfl ?_
      refine st_ald rfl rfl ?_
      refine st_gR' rfl (by first | exact tT hN1 rfl | assumption | exact rw_T hN1 (by assumption) | exact rw_A hN1 (by assumption)) (by first | exact rR hN1 rfl rfl | assumption | exact rw_R hN1 (by assumption)) ?_
      refine st_k rfl ?_
      refine st_ild rfl rfl ?_
      refine st_ib rfl ?_
      -- at 99: stop
      refine wp_e (y := nI (3 * i)) (by show nI 3 * nI _ = _; rw [pk_mul]) ?_
      refine st_iald rfl (by first | exact tT hN1 rfl | assumption | exact rw_T hN1 (by assumption) | exact rw_A hN1 (by assumption)) (by first | decide | assumption | exact vp_in_nI (by omega) (by decide)) ?_
      -- at 100: stop
      refine wp_e (y := nI (cf_kd (cfo L G s) i)) (by rw [ca, f1.1.i (by unfold dC; omega)]; exact v1) ?_
      refine st_iast rfl (by first | exact tT hN1 rfl | assumption | exact rw_T hN1 (by assumption) | exact rw_A hN1 (by assumption)) (by first | decide | assumption | exact vp_in_nI (by omega) (by decide)) ?_
      -- at 101: stop
      rw [hcl6]
      obtain ⟨N2, e2⟩ : ∃ N2, N2 = sI N1 139 i (nI (cf_kd (cfo L G s) i)) := ⟨_, rfl⟩
      have f2 : FV L G s M N2 := by rw [e2]; exact f1.sI (Or.inl ⟨by decide, by decide⟩) _ _
      have hN2 := f2.1.ok hM
      rw [← e2]
      refine st_ald rfl rfl ?_
      refine st_gR' rfl (by first | exact tT hN2 rfl | assumption | exact rw_T hN2 (by assumption) | exact rw_A hN2 (by assumption)) (by first | exact rR hN2 rfl rfl | assumption | exact rw_R hN2 (by assumption)) ?_
      refine st_ild rfl rfl ?_
      refine st_ald rfl rfl ?_
      refine st_gR' rfl (by first | exact tT hN2 rfl | assumption | exact rw_T hN2 (by assumption) | exact rw_A hN2 (by assumption)) (by first | exact rR hN2 rfl rfl | assumption | exact rw_R hN2 (by assumption)) ?_
      refine st_k rfl ?_
      refine st_ild rfl rfl ?_
      refine st_ib rfl ?_
      -- at 113: stop
      refine wp_e (y := nI (3 * i)) (by show nI 3 * nI _ = _; rw [pk_mul]) ?_
      refine st_k rfl ?_
      refine st_ib rfl ?_
      -- at 115: stop
      refine wp_e (y := nI (3 * i + 1)) (by show nI _ + nI 1 = _; rw [nI_add]) ?_
      refine st_iald rfl (by first | exact tT hN2 rfl | assumption | exact rw_T hN2 (by assumption) | exact rw_A hN2 (by assumption)) (by first | decide | assumption | exact vp_in_nI (by omega) (by decide)) ?_
      -- at 116: stop
      refine wp_e (y := nI (cf_sz (cfo L G s) i)) (by rw [cb, f2.1.i (by unfold dC; omega)]; exact v2) ?_
      refine st_iast rfl (by first | exact tT hN2 rfl | assumption | exact rw_T hN2 (by assumption) | exact rw_A hN2 (by assumption)) (by first | decide | assumption | exact vp_in_nI (by omega) (by decide)) ?_
      -- at 117: stop
      rw [hcl6]
      obtain ⟨N3, e3⟩ : ∃ N3, N3 = sI N2 140 i (nI (cf_sz (cfo L G s) i)) := ⟨_, rfl⟩
      have f3 : FV L G s M N3 := by rw [e3]; exact f2.sI (Or.inl ⟨by decide, by decide⟩) _ _
      have hN3 := f3.1.ok hM
      rw [← e3]
      refine st_ald rfl rfl ?_
      refine st_gR' rfl (by first | exact tT hN3 rfl | assumption | exact rw_T hN3 (by assumption) | exact rw_A hN3 (by assumption)) (by first | exact rR hN3 rfl rfl | assumption | exact rw_R hN3 (by assumption)) ?_
      refine st_ild rfl rfl ?_
      refine st_ald rfl rfl ?_
      refine st_gR' rfl (by first | exact tT hN3 rfl | assumption | exact rw_T hN3 (by assumption) | exact rw_A hN3 (by assumption)) (by first | exact rR hN3 rfl rfl | assumption | exact rw_R hN3 (by assumption)) ?_
      refine st_k rfl ?_
      refine st_ild rfl rfl ?_
      refine st_ib rfl ?_
      -- at 129: stop
      refine wp_e (y := nI (3 * i)) (by show nI 3 * nI _ = _; rw [pk_mul]) ?_
      refine st_k rfl ?_
      refine st_ib rfl ?_
      -- at 131: stop
      refine wp_e (y := nI (3 * i + 2)) (by show nI _ + nI 2 = _; rw [nI_add]) ?_
      refine st_iald rfl (by first | exact tT hN3 rfl | assumption | exact rw_T hN3 (by assumption) | exact rw_A hN3 (by assumption)) (by first | decide | assumption | exact vp_in_nI (by omega) (by decide)) ?_
      -- at 132: stop
      refine wp_e (y := nI (cf_sg (cfo L G s) i)) (by rw [cc, f3.1.i (by unfold dC; omega)]; exact v3) ?_
      refine st_iast rfl (by first | exact tT hN3 rfl | assumption | exact rw_T hN3 (by assumption) | exact rw_A hN3 (by assumption)) (by first | decide | assumption | exact vp_in_nI (by omega) (by decide)) ?_
      -- at 133: stop
      rw [hcl6]
      obtain ⟨N4, e4⟩ : ∃ N4, N4 = sI N3 141 i (nI (cf_sg (cfo L G s) i)) := ⟨_, rfl⟩
      have f4 : FV L G s M N4 := by rw [e4]; exact f3.sI (Or.inl ⟨by decide, by decide⟩) _ _
      have hN4 := f4.1.ok hM
      rw [← e4]
      refine st_ald rfl rfl ?_
      refine st_gR' rfl (by first | exact tT hN4 rfl | assumption | exact rw_T hN4 (by assumption) | exact rw_A hN4 (by assumption)) (by first | exact rR hN4 rfl rfl | assumption | exact rw_R hN4 (by assumption)) ?_
      refine st_ild rfl rfl ?_
      refine st_k rfl ?_
      refine st_iast rfl (by first | exact tT hN4 rfl | assumption | exact rw_T hN4 (by assumption) | exact rw_A hN4 (by assumption)) (by first | decide | assumption | exact vp_in_nI (by omega) (by decide)) ?_
      refine st_inc rfl rfl ?_
      refine st_go rfl ?_
      -- at 79: stop
      rw [hcl6]
      refine ih _ _ ⟨_, nI_1 i, rfl, f4.sI (Or.inl ⟨by decide, by decide⟩) _ _, fun k hk => ?_⟩
      have o : ∀ q j, q ≠ 139 → q ≠ 140 → q ≠ 141 → q ≠ 142 → gI (sI N4 142 i 0) q j = gI N1 q j := fun q j z1 z2 z3 z4 => by rw [gI_ne (Or.inl z4), e4, gI_ne (Or.inl z3), e3, gI_ne (Or.inl z2), e2, gI_ne (Or.inl z1)]
      have o1 : ∀ j, gI (sI N4 142 i 0) 139 j = gI N2 139 j := fun j => by rw [gI_ne (Or.inl (by decide)), e4, gI_ne (Or.inl (by decide)), e3, gI_ne (Or.inl (by decide))]
      have o2 : ∀ j, gI (sI N4 142 i 0) 140 j = gI N3 140 j := fun j => by rw [gI_ne (Or.inl (by decide)), e4, gI_ne (Or.inl (by decide))]
      have o3 : ∀ j, gI (sI N4 142 i 0) 141 j = gI N4 141 j := fun j => by rw [gI_ne (Or.inl (by decide))]
      by_cases z : k = i
      · subst z
        refine ⟨by rw [o1, e2]; exact gI_same _ _ _ _, by rw [o2, e3]; exact gI_same _ _ _ _, by rw [o3, e4]; exact gI_same _ _ _ _, gI_same _ _ _ _⟩
      · obtain ⟨z1, z2, z3, z4⟩ := k1 k (by omega)
        refine ⟨by rw [o1, e2, gI_ne (Or.inr z)]; exact z1, by rw [o2, e3, gI_ne (Or.inr z), e2, gI_ne (Or.inl (by decide))]; exact z2, by rw [o3, e4, gI_ne (Or.inr z), e3, gI_ne (Or.inl (by decide)), e2, gI_ne (Or.inl (by decide))]; exact z3, by rw [gI_ne (Or.inr z), e4, gI_ne (Or.inl (by decide)), e3, gI_ne (Or.inl (by decide)), e2, gI_ne (Or.inl (by decide))]; exact z4⟩
    · rintro L2 N1 ⟨x, rfl, rfl, f1, k1⟩
      have hN1 := f1.1.ok hM
      refine st_ild rfl rfl ?_
      refine st_ald rfl rfl ?_
      refine st_gI rfl (by first | exact tT hN1 rfl | assumption | exact rw_T hN1 (by assumption) | exact rw_A hN1 (by assumption)) ?_
      -- at 84: stop
      refine wp_e f1.2.2.2.1 ?_
      refine st_b2 rfl (fun _ => ?_) (fun zq => absurd (nI_le (Nat.le_refl _) (by omega)) zq)
      -- at 146: stop
      exact l2 N1 _ f1 k1
  -- the numbers
  refine st_ald rfl rfl ?_
  refine st_ald rfl rfl ?_
  refine st_gI rfl (by first | exact tT hM rfl | assumption | exact rw_T hM (by assumption) | exact rw_A hM (by assumption)) ?_
  -- at 42: stop
  refine wp_e h21 ?_
  refine st_pI rfl (by first | exact tT hM rfl | assumption | exact rw_T hM (by assumption) | exact rw_A hM (by assumption)) ?_
  -- at 45: stop
  have b1 : pm_ok (sI M 132 9 (nI L)) := hM
  refine st_ald rfl rfl ?_
  refine st_ald rfl rfl ?_
  refine st_gI rfl (by first | exact tT b1 rfl | assumption | exact rw_T b1 (by assumption) | exact rw_A b1 (by assumption)) ?_
  -- at 50: stop
  refine wp_e (y := nI G) (by rw [gI_ne (Or.inr (by decide))]; exact h22) ?_
  refine st_pI rfl (by first | exact tT b1 rfl | assumption | exact rw_T b1 (by assumption) | exact rw_A b1 (by assumption)) ?_
  -- at 53: stop
  have b2 : pm_ok (sI (sI M 132 9 (nI L)) 132 10 (nI G)) := hM
  refine st_ald rfl rfl ?_
  refine st_ald rfl rfl ?_
  refine st_gI rfl (by first | exact tT b2 rfl | assumption | exact rw_T b2 (by assumption) | exact rw_A b2 (by assumption)) ?_
  -- at 58: stop
  refine wp_e (y := nI s.2.1.length) (by rw [gI_ne (Or.inr (by decide)), gI_ne (Or.inr (by decide))]; exact c2) ?_
  refine st_pI rfl (by first | exact tT b2 rfl | assumption | exact rw_T b2 (by assumption) | exact rw_A b2 (by assumption)) ?_
  -- at 61: stop
  have b3 : pm_ok (sI (sI (sI M 132 9 (nI L)) 132 10 (nI G)) 132 11 (nI s.2.1.length)) := hM
  refine st_ald rfl rfl ?_
  refine st_ald rfl rfl ?_
  refine st_gI rfl (by first | exact tT b3 rfl | assumption | exact rw_T b3 (by assumption) | exact rw_A b3 (by assumption)) ?_
  -- at 66: stop
  refine wp_e (y := nI s.2.2.1.length) (by rw [gI_ne (Or.inr (by decide)), gI_ne (Or.inr (by decide)), gI_ne (Or.inr (by decide))]; exact c3) ?_
  refine st_pI rfl (by first | exact tT b3 rfl | assumption | exact rw_T b3 (by assumption) | exact rw_A b3 (by assumption)) ?_
  -- at 69: stop
  have b4 : pm_ok (sI (sI (sI (sI M 132 9 (nI L)) 132 10 (nI G)) 132 11 (nI s.2.1.length)) 132 15 (nI s.2.2.1.length)) := hM
  refine st_ald rfl rfl ?_
  refine st_ald rfl rfl ?_
  refine st_gI rfl (by first | exact tT b4 rfl | assumption | exact rw_T b4 (by assumption) | exact rw_A b4 (by assumption)) ?_
  -- at 74: stop
  refine wp_e (y := nI s.2.2.2.length) (by rw [gI_ne (Or.inr (by decide)), gI_ne (Or.inr (by decide)), gI_ne (Or.inr (by decide)), gI_ne (Or.inr (by decide))]; exact c4) ?_
  refine st_pI rfl (by first | exact tT b4 rfl | assumption | exact rw_T b4 (by assumption) | exact rw_A b4 (by assumption)) ?_
  -- at 77: stop
  refine l1 _ _ ⟨?_, ?_, ?_, ?_, ?_, gI_same _ _ _ _⟩
  · exact (((((Mx.rf M).sI (Or.inl ⟨rfl, by omega⟩) _).sI (Or.inl ⟨rfl, by omega⟩) _).sI (Or.inl ⟨rfl, by omega⟩) _).sI (Or.inl ⟨rfl, by omega⟩) _).sI (Or.inl ⟨rfl, by omega⟩) _
  · rw [gI_ne (Or.inr (by decide)), gI_ne (Or.inr (by decide)), gI_ne (Or.inr (by decide)), gI_ne (Or.inr (by decide))]; exact gI_same _ _ _ _
  · rw [gI_ne (Or.inr (by decide)), gI_ne (Or.inr (by decide)), gI_ne (Or.inr (by decide))]; exact gI_same _ _ _ _
  · rw [gI_ne (Or.inr (by decide)), gI_ne (Or.inr (by decide))]; exact gI_same _ _ _ _
  · rw [gI_ne (Or.inr (by decide))]; exact gI_same _ _ _ _
theorem b_craft (ha : aw a) (r : Int32) : Both a 99 181 [.int r] := by
  rcases t4_cs r with ⟨h1, h2⟩ | ⟨j, hj, hr, h1, h2⟩
  · refine bo_k (x := .int (-1)) ha (fun d M h => ?_) (fun d M h => ?_)
    · refine en_99 (Nat.le_of_ble_eq_true rfl) ?_
      refine st_ild rfl rfl ?_
      refine st_call (As := [_]) rfl rfl rfl (Nat.le_of_ble_eq_true rfl) (c_isText (d + 18) r) ?_
      refine st_b1 rfl (fun zq => absurd zq ((fun z => z (b01_f h1)))) (fun _ => ?_)
      refine st_k rfl ?_
      -- at 8: op_iret
      exact st_iret rfl ⟨rfl, rfl⟩
    · refine en_181 (Nat.le_of_ble_eq_true rfl) ?_
      refine st_ild rfl rfl ?_
      refine st_call (As := [_]) rfl rfl rfl (Nat.le_of_ble_eq_true rfl) (m_isText (d + 17) r) ?_
      refine st_b1 rfl (fun zq => absurd zq ((fun z => z (b01_f h2)))) (fun _ => ?_)
      refine st_k rfl ?_
      -- at 8: op_iret
      exact st_iret rfl ⟨rfl, rfl⟩
  have hin : vp_in (nI j) 4 := vp_in_nI hj (by decide)
  have e1 : (nI j).toNatClampNeg = j := nI_clamp (by omega)
  subst hr
  cases hx : aT a j with
  | none =>
    refine bo_f ha (f := 1) (by decide) (fun d M h => ?_) (fun d M h => ?_)
    · refine en_99 (Nat.le_of_ble_eq_true rfl) ?_
      have hM := h.1
      have hz := h.2.2.1 j hj
      rw [hx] at hz
      refine st_ild rfl rfl ?_
      refine st_call (As := [_]) rfl rfl rfl (Nat.le_of_ble_eq_true rfl) (c_isText (d + 18) _) ?_
      refine st_b1 rfl (fun _ => ?_) (fun zq => absurd (b01_t h1) zq)
      refine st_ald rfl rfl ?_
      refine st_gR' rfl (by first | exact tT hM rfl | assumption | exact rw_T hM (by assumption) | exact rw_A hM (by assumption)) (by first | exact rR hM rfl rfl | assumption | exact rw_R hM (by assumption)) ?_
      refine st_ild rfl rfl ?_
      refine st_aald' rfl (by first | exact tT hM rfl | assumption | exact rw_T hM (by assumption) | exact rw_A hM (by assumption)) (by first | decide | assumption | exact vp_in_nI (by omega) (by decide)) (by first | assumption | exact rRow' hM (by assumption) | exact rTxt' hM (by assumption) | exact rKep' hM (by assumption) | exact rRdg' hM (by assumption)) ?_
      refine st_gI rfl (tTxt hM hj) ?_
      -- at 18: stop
      refine wp_e (y := -1) hz ?_
      refine st_b1 rfl (fun zq => absurd zq ((by decide))) (fun _ => ?_)
      refine st_ald rfl rfl ?_
      refine st_k rfl ?_
      refine st_cav (As := [_]) rfl rfl rfl (by first | exact tT hM rfl | assumption | exact rw_T hM (by assumption) | exact rw_A hM (by assumption)) (Nat.le_of_ble_eq_true rfl) (c_refuse (d + 18) h.1 (f := 1) (by decide)) ?_
      -- at 26: op_iret
      exact st_iret rfl ⟨rfl, rfl⟩
    · refine en_181 (Nat.le_of_ble_eq_true rfl) ?_
      have hM := h.1
      have hz := h.2.2.1 j hj
      rw [hx] at hz
      refine st_ild rfl rfl ?_
      refine st_call (As := [_]) rfl rfl rfl (Nat.le_of_ble_eq_true rfl) (m_isText (d + 17) _) ?_
      refine st_b1 rfl (fun _ => ?_) (fun zq => absurd (b01_t h2) zq)
      refine st_ald rfl rfl ?_
      refine st_gR' rfl (by first | exact tT hM rfl | assumption | exact rw_T hM (by assumption) | exact rw_A hM (by assumption)) (by first | exact rR hM rfl rfl | assumption | exact rw_R hM (by assumption)) ?_
      refine st_ild rfl rfl ?_
      refine st_iald rfl (by first | exact tT hM rfl | assumption | exact rw_T hM (by assumption) | exact rw_A hM (by assumption)) (by first | decide | assumption | exact vp_in_nI (by omega) (by decide)) ?_
      -- at 15: stop
      refine wp_e (y := -1) (by rw [e1]; exact hz) ?_
      refine st_b1 rfl (fun zq => absurd zq ((by decide))) (fun _ => ?_)
      refine st_ald rfl rfl ?_
      refine st_k rfl ?_
      refine st_cav (As := [_]) rfl rfl rfl (by first | exact tT hM rfl | assumption | exact rw_T hM (by assumption) | exact rw_A hM (by assumption)) (Nat.le_of_ble_eq_true rfl) (m_meets (d + 18) hM (f := 1) (by decide)) ?_
      -- at 23: op_iret
      exact st_iret rfl ⟨rfl, rfl⟩
  | some l =>
    have hl80 : l.length ≤ 80 := ha.2.2.2.2 j l hj hx
    cases ef : flt l with
    | inl q =>
      refine ⟨.int (-4), a, ha, fun d M h => ?_, fun d M h => ?_⟩
      · have hM := h.1
        have hz := h.2.2.1 j hj
        rw [hx] at hz
        obtain ⟨r, M', hcall, s1, hm⟩ := c_faultOf (d + 14) hM hj hz
        rw [ef] at hm
        have hm : r = some (.int (nI q)) := hm
        subst hm
        have hq : ¬ nI q = -9 := fun z => by
          have h9 := flt_lt ef
          have := (by decide +kernel : ∀ q, q ≤ 90 → ¬ nI q = -9) q (by omega)
          exact this z
        refine ⟨M', en_99 (Nat.le_of_ble_eq_true rfl) ?_, h.S s1 (fun k hk => Or.inr hk), Cfr.S s1 (fun k hk => by omega)⟩
        refine st_ild rfl rfl ?_
        refine st_call (As := [_]) rfl rfl rfl (Nat.le_of_ble_eq_true rfl) (c_isText (d + 18) _) ?_
        refine st_b1 rfl (fun _ => ?_) (fun zq => absurd (b01_t h1) zq)
        refine st_ald rfl rfl ?_
        refine st_gR' rfl (by first | exact tT hM rfl | assumption | exact rw_T hM (by assumption) | exact rw_A hM (by assumption)) (by first | exact rR hM rfl rfl | assumption | exact rw_R hM (by assumption)) ?_
        refine st_ild rfl rfl ?_
        refine st_aald' rfl (by first | exact tT hM rfl | assumption | exact rw_T hM (by assumption) | exact rw_A hM (by assumption)) (by first | decide | assumption | exact vp_in_nI (by omega) (by decide)) (by first | assumption | exact rRow' hM (by assumption) | exact rTxt' hM (by assumption) | exact rKep' hM (by assumption) | exact rRdg' hM (by assumption)) ?_
        refine st_gI rfl (tTxt hM hj) ?_
        -- at 18: stop
        refine wp_e (y := nI l.length) hz.1 ?_
        refine st_b1 rfl (fun _ => ?_) (fun zq => absurd (nI_pos' (by omega)) zq)
        refine st_ald rfl rfl ?_
        refine st_gR' rfl (by first | exact tT hM rfl | assumption | exact rw_T hM (by assumption) | exact rw_A hM (by assumption)) (by first | exact rR hM rfl rfl | assumption | exact rw_R hM (by assumption)) ?_
        refine st_ald rfl rfl ?_
        refine st_gR' rfl (by first | exact tT hM rfl | assumption | exact rw_T hM (by assumption) | exact rw_A hM (by assumption)) (by first | exact rR hM rfl rfl | assumption | exact rw_R hM (by assumption)) ?_
        refine st_ild rfl rfl ?_
        refine st_aald' rfl (by first | exact tT hM rfl | assumption | exact rw_T hM (by assumption) | exact rw_A hM (by assumption)) (by first | decide | assumption | exact vp_in_nI (by omega) (by decide)) (by first | assumption | exact rRow' hM (by assumption) | exact rTxt' hM (by assumption) | exact rKep' hM (by assumption) | exact rRdg' hM (by assumption)) ?_
        refine st_cav (As := [_]) rfl rfl rfl (by first | exact tT hM rfl | assumption | exact rw_T hM (by assumption) | exact rw_A hM (by assumption)) (Nat.le_of_ble_eq_true rfl) (hcall) ?_
        refine st_k rfl ?_
        refine st_b2 rfl (fun zq => absurd zq (hq)) (fun _ => ?_)
        refine st_k rfl ?_
        -- at 47: op_iret
        exact st_iret rfl ⟨rfl, rfl⟩
      · have hM := h.1
        have hz := h.2.2.1 j hj
        rw [hx] at hz
        obtain ⟨r, M', hcall, s1, hm⟩ := m_faultOf (d + 15) hM hj hz
        rw [ef] at hm
        have hm : r = some (.int (nI q)) := hm
        subst hm
        have hq : ¬ nI q = -9 := fun z => by
          have h9 := flt_lt ef
          have := (by decide +kernel : ∀ q, q ≤ 90 → ¬ nI q = -9) q (by omega)
          exact this z
        refine ⟨M', en_181 (Nat.le_of_ble_eq_true rfl) ?_, h.sc s1.sc, s1.sc.fr⟩
        refine st_ild rfl rfl ?_
        refine st_call (As := [_]) rfl rfl rfl (Nat.le_of_ble_eq_true rfl) (m_isText (d + 17) _) ?_
        refine st_b1 rfl (fun _ => ?_) (fun zq => absurd (b01_t h2) zq)
        refine st_ald rfl rfl ?_
        refine st_gR' rfl (by first | exact tT hM rfl | assumption | exact rw_T hM (by assumption) | exact rw_A hM (by assumption)) (by first | exact rR hM rfl rfl | assumption | exact rw_R hM (by assumption)) ?_
        refine st_ild rfl rfl ?_
        refine st_iald rfl (by first | exact tT hM rfl | assumption | exact rw_T hM (by assumption) | exact rw_A hM (by assumption)) (by first | decide | assumption | exact vp_in_nI (by omega) (by decide)) ?_
        -- at 15: stop
        refine wp_e (y := nI l.length) (by rw [e1]; exact hz.1) ?_
        refine st_b1 rfl (fun _ => ?_) (fun zq => absurd (nI_pos' (by omega)) zq)
        refine st_ald rfl rfl ?_
        refine st_ild rfl rfl ?_
        refine st_cav (As := [_]) rfl rfl rfl (by first | exact tT hM rfl | assumption | exact rw_T hM (by assumption) | exact rw_A hM (by assumption)) (Nat.le_of_ble_eq_true rfl) (hcall) ?_
        refine st_k rfl ?_
        refine st_b2 rfl (fun zq => absurd zq (hq)) (fun _ => ?_)
        refine st_k rfl ?_
        -- at 36: op_iret
        exact st_iret rfl ⟨rfl, rfl⟩
    | inr x =>
      obtain ⟨L, G, s⟩ := x
      obtain ⟨hL, hG, hw⟩ := flt_ok ef
      have wf := cfo_wf hL hG hw
      refine ⟨.int (nI s.2.1.length), sCr a (cfo L G s), ha.crf wf, fun d M h => ?_, fun d M h => ?_⟩
      · have hM := h.1
        have hz := h.2.2.1 j hj
        rw [hx] at hz
        obtain ⟨r, M1, hcall, s1, hm⟩ := c_faultOf (d + 14) hM hj hz
        rw [ef] at hm
        obtain ⟨hr, g4, g5, hcp⟩ := hm
        subst hr
        have hM1 := s1.ok hM
        have h156 : gI M1 15 6 = 0 := by
          rw [s1.i (by omega), (h.2.2.2.1.2.2.2.1 6 (Or.inr rfl)).2.1]
          unfold em
          rw [if_neg (fun z => by omega)]
          rfl
        obtain ⟨M2, hbe, s2, hcc⟩ := c_beAs (d + 15) hM1 hL hG hw hcp g4 g5 h156
        have hM2 := s2.ok hM1
        obtain ⟨r, M', hcall2, hr, f1, f2⟩ := eq_99 (d := d + 19) (A := [.ref 0, .int (nI j)]) (M := M) (Q := fun r M' => r = some (.int (nI s.2.1.length)) ∧ IC (sCr a (cfo L G s)) M' ∧ Cfr M M') (Nat.le_of_ble_eq_true rfl) (by
          refine st_ild rfl rfl ?_
          refine st_call (As := [_]) rfl rfl rfl (Nat.le_of_ble_eq_true rfl) (c_isText (d + 18) _) ?_
          refine st_b1 rfl (fun _ => ?_) (fun zq => absurd (b01_t h1) zq)
          refine st_ald rfl rfl ?_
          refine st_gR' rfl (by first | exact tT hM rfl | assumption | exact rw_T hM (by assumption) | exact rw_A hM (by assumption)) (by first | exact rR hM rfl rfl | assumption | exact rw_R hM (by assumption)) ?_
          refine st_ild rfl rfl ?_
          refine st_aald' rfl (by first | exact tT hM rfl | assumption | exact rw_T hM (by assumption) | exact rw_A hM (by assumption)) (by first | decide | assumption | exact vp_in_nI (by omega) (by decide)) (by first | assumption | exact rRow' hM (by assumption) | exact rTxt' hM (by assumption) | exact rKep' hM (by assumption) | exact rRdg' hM (by assumption)) ?_
          refine st_gI rfl (tTxt hM hj) ?_
          -- at 18: stop
          refine wp_e (y := nI l.length) hz.1 ?_
          refine st_b1 rfl (fun _ => ?_) (fun zq => absurd (nI_pos' (by omega)) zq)
          refine st_ald rfl rfl ?_
          refine st_gR' rfl (by first | exact tT hM rfl | assumption | exact rw_T hM (by assumption) | exact rw_A hM (by assumption)) (by first | exact rR hM rfl rfl | assumption | exact rw_R hM (by assumption)) ?_
          refine st_ald rfl rfl ?_
          refine st_gR' rfl (by first | exact tT hM rfl | assumption | exact rw_T hM (by assumption) | exact rw_A hM (by assumption)) (by first | exact rR hM rfl rfl | assumption | exact rw_R hM (by assumption)) ?_
          refine st_ild rfl rfl ?_
          refine st_aald' rfl (by first | exact tT hM rfl | assumption | exact rw_T hM (by assumption) | exact rw_A hM (by assumption)) (by first | decide | assumption | exact vp_in_nI (by omega) (by decide)) (by first | assumption | exact rRow' hM (by assumption) | exact rTxt' hM (by assumption) | exact rKep' hM (by assumption) | exact rRdg' hM (by assumption)) ?_
          refine st_cav (As := [_]) rfl rfl rfl (by first | exact tT hM rfl | assumption | exact rw_T hM (by assumption) | exact rw_A hM (by assumption)) (Nat.le_of_ble_eq_true rfl) (hcall) ?_
          refine st_k rfl ?_
          refine st_b2 rfl (fun _ => ?_) (fun zq => absurd (rfl) zq)
          -- at 48: stop
          have kfor : pm_call (d + 19) 81 [.ref 25] M2 none (sI M2 25 2 0) := by
            refine en_81 (d := d + 18) (Nat.le_of_ble_eq_true rfl) ?_
            refine st_ald rfl rfl ?_
            refine st_k rfl ?_
            refine st_pI rfl (by first | exact tT hM2 rfl | assumption | exact rw_T hM2 (by assumption) | exact rw_A hM2 (by assumption)) ?_
            -- at 5: op_vret
            exact st_vret rfl ⟨rfl, rfl⟩
          refine st_ald rfl rfl ?_
          refine st_gR' rfl (by first | exact tT hM1 rfl | assumption | exact rw_T hM1 (by assumption) | exact rw_A hM1 (by assumption)) (by first | exact rR hM1 rfl rfl | assumption | exact rw_R hM1 (by assumption)) ?_
          refine st_ald rfl rfl ?_
          refine st_gR' rfl (by first | exact tT hM1 rfl | assumption | exact rw_T hM1 (by assumption) | exact rw_A hM1 (by assumption)) (by first | exact rR hM1 rfl rfl | assumption | exact rw_R hM1 (by assumption)) ?_
          refine st_cav (As := [_]) rfl rfl rfl (by first | exact tT hM1 rfl | assumption | exact rw_T hM1 (by assumption) | exact rw_A hM1 (by assumption)) (Nat.le_of_ble_eq_true rfl) (hbe) ?_
          -- at 59: stop
          refine st_ald rfl rfl ?_
          refine st_gR' rfl (by first | exact tT hM2 rfl | assumption | exact rw_T hM2 (by assumption) | exact rw_A hM2 (by assumption)) (by first | exact rR hM2 rfl rfl | assumption | exact rw_R hM2 (by assumption)) ?_
          refine st_cav (As := []) rfl rfl rfl (by first | exact tT hM2 rfl | assumption | exact rw_T hM2 (by assumption) | exact rw_A hM2 (by assumption)) (Nat.le_of_ble_eq_true rfl) (kfor) ?_
          -- at 66: stop
          have hM3 : pm_ok (sI M2 25 2 0) := hM2
          refine st_ald rfl rfl ?_
          refine st_gR' rfl (by first | exact tT hM3 rfl | assumption | exact rw_T hM3 (by assumption) | exact rw_A hM3 (by assumption)) (by first | exact rR hM3 rfl rfl | assumption | exact rw_R hM3 (by assumption)) ?_
          refine st_k rfl ?_
          refine st_pI rfl (by first | exact tT hM3 rfl | assumption | exact rw_T hM3 (by assumption) | exact rw_A hM3 (by assumption)) ?_
          -- at 74: stop
          obtain ⟨M4, e4⟩ : ∃ M4, M4 = sI (sI M2 25 2 0) 3 1 0 := ⟨_, rfl⟩
          have s4 : pm_S (fun k => k = 3 ∨ (7 ≤ k ∧ k ≤ 25)) M M4 := by
            rw [e4]
            have t1 : pm_S (fun k => k = 3 ∨ (7 ≤ k ∧ k ≤ 25)) M M1 := s1.mo (fun k hk => Or.inr (by omega))
            have t2 : pm_S (fun k => k = 3 ∨ (7 ≤ k ∧ k ≤ 25)) M1 M2 := s2.mo (fun k hk => Or.inr (by omega))
            exact ((t1.tr t2).sI (Or.inr (by decide)) _ _).sI (Or.inl rfl) _ _
          have r4 : gI M4 3 1 = 0 := by rw [e4]; exact gI_same _ _ _ _
          have l4 : gI M4 25 2 = 0 := by rw [e4, gI_ne (Or.inl (by decide))]; exact gI_same _ _ _ _
          have c4 : CC (cfo L G s) M4 := by
            rw [e4]
            exact hcc.moved (fun k h1 h2 i => by rw [gI_ne (Or.inl (by omega)), gI_ne (Or.inl (by omega))])
          rw [← e4]
          clear e4
          refine st_k rfl ?_
          refine st_ist rfl ?_
          -- at 76: stop
          refine wp_for 3 (fun i L2 N => ∃ x, x = nI i ∧ L2 = [some (.ref 0), some (.int (nI j)), some (.int x)] ∧ pm_S (fun k => k = 126 ∨ k = 128 ∨ k = 130) M4 N ∧ ∀ k, k < i → gI N (126 + 2 * k) 1 = -1) ?_ ?_ 0 _ _ (Nat.zero_le _) ⟨_, rfl, rfl, pm_S.rf, fun k hk => by omega⟩
          · rintro i L2 N hi ⟨x, rfl, rfl, t1, v1⟩ ih
            have hN := t1.ok (s4.ok hM)
            have hin3 : vp_in (nI i) 3 := vp_in_nI hi (by decide)
            have ho := rw_kep i hi
            refine st_ild rfl rfl ?_
            refine st_k rfl ?_
            refine st_b2 rfl (fun zq => absurd zq (nI_ge (b := 3) hi (by decide))) (fun _ => ?_)
            refine st_ald rfl rfl ?_
            refine st_gR' rfl (by first | exact tT hN rfl | assumption | exact rw_T hN (by assumption) | exact rw_A hN (by assumption)) (by first | exact rR hN rfl rfl | assumption | exact rw_R hN (by assumption)) ?_
            refine st_ild rfl rfl ?_
            refine st_aald' rfl (by first | exact tT hN rfl | assumption | exact rw_T hN (by assumption) | exact rw_A hN (by assumption)) (by first | decide | assumption | exact vp_in_nI (by omega) (by decide)) (by first | assumption | exact rRow' hN (by assumption) | exact rTxt' hN (by assumption) | exact rKep' hN (by assumption) | exact rRdg' hN (by assumption)) ?_
            refine st_k rfl ?_
            refine st_pI rfl (by first | exact tT hN rfl | assumption | exact rw_T hN (by assumption) | exact rw_A hN (by assumption)) ?_
            refine st_inc rfl rfl ?_
            refine st_go rfl ?_
            -- at 76: stop
            refine ih _ _ ⟨_, nI_1 i, rfl, t1.sI (by omega) _ _, fun k hk => ?_⟩
            by_cases z : k = i
            · subst z; exact gI_same _ _ _ _
            · rw [gI_ne (Or.inl (by omega))]; exact v1 k (by omega)
          · rintro L2 N ⟨x, rfl, rfl, t1, v1⟩
            have hN := t1.ok (s4.ok hM)
            refine st_ild rfl rfl ?_
            refine st_k rfl ?_
            refine st_b2 rfl (fun _ => ?_) (fun zq => absurd ((by decide)) zq)
            refine st_ald rfl rfl ?_
            refine st_gR' rfl (by first | exact tT hN rfl | assumption | exact rw_T hN (by assumption) | exact rw_A hN (by assumption)) (by first | exact rR hN rfl rfl | assumption | exact rw_R hN (by assumption)) ?_
            refine st_gI rfl (by first | exact tT hN rfl | assumption | exact rw_T hN (by assumption) | exact rw_A hN (by assumption)) ?_
            -- at 104: stop
            have cN : CC (cfo L G s) N := c4.kept t1 (by intro k _ _; show ¬ (k = 126 ∨ k = 128 ∨ k = 130); omega)
            refine wp_e cN.1.2.2.1 ?_
            have sN : pm_S (fun k => k = 3 ∨ (7 ≤ k ∧ k ≤ 25) ∨ (k = 126 ∨ k = 128 ∨ k = 130)) M N := (s4.mo (fun k hk => by omega)).tr (t1.mo (fun k hk => Or.inr (Or.inr hk)))
            refine st_iret rfl ⟨rfl, h.chg sN (fun q hq => Or.inl ⟨rfl, by omega, by omega⟩) (fun q hq => Or.inl ⟨rfl, by omega, by omega⟩) (Or.inr cN) (Or.inr ⟨?_, Nat.zero_le 40, fun i hi => (by cases hi)⟩) (fun k hk => Or.inr (v1 k hk)) (Or.inr ⟨?_, 0, by decide, ?_, fun _ _ _ z => by omega⟩) (Or.inl ⟨rfl, by omega⟩) (Or.inl ⟨rfl, rfl, rfl, by omega⟩) (by omega), Cfr.S sN (fun k hk => by omega)⟩
            · rw [t1.i (by decide)]; exact r4
            · rw [sN.i (by decide)]; exact h.2.2.2.2.2.2.1.1
            · rw [t1.i (by decide)]; exact l4)
        subst hr
        exact ⟨M', hcall2, f1, f2⟩
      · have hM := h.1
        have hz := h.2.2.1 j hj
        rw [hx] at hz
        obtain ⟨r, M1, hcall, s1, hm⟩ := m_faultOf (d + 15) hM hj hz
        rw [ef] at hm
        obtain ⟨hr, g4, g5, hcp⟩ := hm
        subst hr
        have hM1 := s1.ok hM
        obtain ⟨r, M', hcall2, hr, f1, f2, f3, f4⟩ := eq_181 (d := d + 19) (A := [.ref 132, .int (nI j)]) (M := M) (Q := fun r M' => r = some (.int (nI s.2.1.length)) ∧ Mx dC M1 M' ∧ MC (cfo L G s) M' ∧ gI M' 132 33 = 0 ∧ ∀ k, k < 3 → gI M' 150 k = -1) (Nat.le_of_ble_eq_true rfl) (by
          refine st_ild rfl rfl ?_
          refine st_call (As := [_]) rfl rfl rfl (Nat.le_of_ble_eq_true rfl) (m_isText (d + 17) _) ?_
          refine st_b1 rfl (fun _ => ?_) (fun zq => absurd (b01_t h2) zq)
          refine st_ald rfl rfl ?_
          refine st_gR' rfl (by first | exact tT hM rfl | assumption | exact rw_T hM (by assumption) | exact rw_A hM (by assumption)) (by first | exact rR hM rfl rfl | assumption | exact rw_R hM (by assumption)) ?_
          refine st_ild rfl rfl ?_
          refine st_iald rfl (by first | exact tT hM rfl | assumption | exact rw_T hM (by assumption) | exact rw_A hM (by assumption)) (by first | decide | assumption | exact vp_in_nI (by omega) (by decide)) ?_
          -- at 15: stop
          refine wp_e (y := nI l.length) (by rw [e1]; exact hz.1) ?_
          refine st_b1 rfl (fun _ => ?_) (fun zq => absurd (nI_pos' (by omega)) zq)
          refine st_ald rfl rfl ?_
          refine st_ild rfl rfl ?_
          refine st_cav (As := [_]) rfl rfl rfl (by first | exact tT hM rfl | assumption | exact rw_T hM (by assumption) | exact rw_A hM (by assumption)) (Nat.le_of_ble_eq_true rfl) (hcall) ?_
          refine st_k rfl ?_
          refine st_b2 rfl (fun _ => ?_) (fun zq => absurd (rfl) zq)
          -- at 37: stop
          exact m_craftOn (d + 19) hM1 hw hcp g4 g5 _)
        subst hr
        refine ⟨M', hcall2, h.chg (X := dC) (f1.ok hM1) (fun k i hk z => by rw [f1.i z, s1.i (fun y => by unfold dA at y; omega)]) (fun q hq => Or.inl ⟨rfl, by unfold dC; omega, fun i _ => by unfold dC; omega⟩) (fun q hq => Or.inl ⟨rfl, by unfold dC; omega, fun i _ => by unfold dC; omega⟩) (Or.inr f2) (Or.inr ⟨f3, fun i hi => (by cases hi)⟩) (fun k hk => Or.inr (Or.inr (f4 k hk))) ha.kl (Or.inl ⟨rfl, fun i => by unfold dC; omega⟩) (Or.inl ⟨rfl, by unfold dC; omega⟩) (Or.inl ⟨rfl, by unfold dC; omega⟩) ?_, fun k hk i => ⟨?_, ?_⟩⟩
        · rw [f1.2.2.1, s1.2.2.1]; exact h.2.2.2.2.2.2.2.2.2
        · rw [f1.i (by unfold dC; omega), s1.i (by unfold dA; omega)]
        · rw [f1.2.2.1, s1.2.2.1]
end CRE

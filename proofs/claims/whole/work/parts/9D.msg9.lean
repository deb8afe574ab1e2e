/-! BOTH ANSWER ALIKE: shortest -/
section SHO
variable {a : As} {M : pm_M} {c0 c : Cf} {m : List Nat} {pc : Nat} {j t : Nat}
theorem cmN (d : Nat) (h : IC a M) (hj : j < 6) (ht : t < 6) (hx : aR a j = none) : pm_call (d + 3) 141 [.ref 0, .int (nI j), .int (nI j), .int (nI t)] M (some (.int (-3))) (cF M 1) := c_mess d h _ _ _ ((c_rows d h hj hj ht (most := 12) (by decide) _).1 (Or.inl hx)) ⟨_, rfl⟩
theorem cmL (d : Nat) (h : IC a M) (hj : j < 6) (ht : t < 6) {l : List Int32} (hx : aR a j = some l) (hl : 12 < l.length) : pm_call (d + 3) 141 [.ref 0, .int (nI j), .int (nI j), .int (nI t)] M (some (.int (-3))) (cF M 5) := c_mess d h _ _ _ ((c_rows d h hj hj ht (most := 12) (by decide) _).2.1 l l hx hx (Or.inl hl)) ⟨_, rfl⟩
theorem cmU (d : Nat) (h : IC a M) (hj : j < 6) (ht : t < 6) {l : List Int32} (hx : aR a j = some l) (hl : l.length ≤ 12) (hno : ¬ ib l (nI 10)) : pm_call (d + 3) 141 [.ref 0, .int (nI j), .int (nI j), .int (nI t)] M (some (.int (-3))) (cF M 3) := c_mess d h _ _ _ ((c_rows d h hj hj ht (most := 12) (by decide) _).2.2.1 l l hx hx hl hl (fun z => hno z.1)) ⟨_, rfl⟩
theorem cmO (d : Nat) (h : IC a M) (hj : j < 6) (ht : t < 6) (hx : aR a j = some (m.map nI)) (hk : ∀ k, k ∈ m → k < 10) (hl : m.length ≤ 12) : pm_call (d + 3) 141 [.ref 0, .int (nI j), .int (nI j), .int (nI t)] M (some (.int 0)) M :=
  c_mess d h _ _ _ ((c_rows d h hj hj ht (most := 12) (by decide) (nI 10)).2.2.2 _ _ hx hx (by rw [map_len]; exact hl) (by rw [map_len]; exact hl) ((ib_e (by decide)).mpr ⟨m, rfl, hk⟩) ((ib_e (by decide)).mpr ⟨m, rfl, hk⟩)) ⟨_, rfl⟩
theorem mqN (d : Nat) (h : IM a M) (hj : j < 6) (hx : aR a j = none) : pm_call (d + 3) 227 [.ref 132, .int (nI j)] M (some (.int (-3))) (mF M 1) := by
  refine en_227 (Nat.le_of_ble_eq_true rfl) ?_
  have hM := h.1
  have hin : vp_in (nI j) 6 := vp_in_nI hj (by decide)
  have hr0 := h.2.1 j hj
  rw [hx] at hr0
  refine st_ald rfl rfl ?_
  refine st_gR' rfl (by first | exact tT hM rfl | assumption | exact rw_T hM (by assumption) | exact rw_A hM (by assumption)) (by first | exact rR hM rfl rfl | assumption | exact rw_R hM (by assumption)) ?_
  refine st_ild rfl rfl ?_
  refine st_iald rfl (by first | exact tT hM rfl | assumption | exact rw_T hM (by assumption) | exact rw_A hM (by assumption)) (by first | decide | assumption | exact vp_in_nI (by omega) (by decide)) ?_
  -- at 6: stop
  refine wp_e (y := -1) (by rw [nI_clamp (by omega)]; exact hr0) ?_
  refine st_b1 rfl (fun zq => absurd zq ((by decide))) (fun _ => ?_)
  refine st_ald rfl rfl ?_
  refine st_k rfl ?_
  refine st_cav (As := [_]) rfl rfl rfl (by first | exact tT hM rfl | assumption | exact rw_T hM (by assumption) | exact rw_A hM (by assumption)) (Nat.le_of_ble_eq_true rfl) (m_meets (d + 1) hM (f := 1) (by decide)) ?_
  -- at 14: op_iret
  exact st_iret rfl ⟨rfl, rfl⟩
theorem mqL (d : Nat) (h : IM a M) (hj : j < 6) {l : List Int32} (hx : aR a j = some l) (hl : 12 < l.length) : pm_call (d + 3) 227 [.ref 132, .int (nI j)] M (some (.int (-3))) (mF M 5) := by
  refine en_227 (Nat.le_of_ble_eq_true rfl) ?_
  have hM := h.1
  have hin : vp_in (nI j) 6 := vp_in_nI hj (by decide)
  have hr0 := h.2.1 j hj
  rw [hx] at hr0
  have h40 := hr0.2.1
  refine st_ald rfl rfl ?_
  refine st_gR' rfl (by first | exact tT hM rfl | assumption | exact rw_T hM (by assumption) | exact rw_A hM (by assumption)) (by first | exact rR hM rfl rfl | assumption | exact rw_R hM (by assumption)) ?_
  refine st_ild rfl rfl ?_
  refine st_iald rfl (by first | exact tT hM rfl | assumption | exact rw_T hM (by assumption) | exact rw_A hM (by assumption)) (by first | decide | assumption | exact vp_in_nI (by omega) (by decide)) ?_
  -- at 6: stop
  refine wp_e (y := nI l.length) (by rw [nI_clamp (by omega)]; exact hr0.1) ?_
  refine st_b1 rfl (fun _ => ?_) (fun zq => absurd (nI_pos' (by omega)) zq)
  refine st_ald rfl rfl ?_
  refine st_gR' rfl (by first | exact tT hM rfl | assumption | exact rw_T hM (by assumption) | exact rw_A hM (by assumption)) (by first | exact rR hM rfl rfl | assumption | exact rw_R hM (by assumption)) ?_
  refine st_ild rfl rfl ?_
  refine st_iald rfl (by first | exact tT hM rfl | assumption | exact rw_T hM (by assumption) | exact rw_A hM (by assumption)) (by first | decide | assumption | exact vp_in_nI (by omega) (by decide)) ?_
  -- at 21: stop
  refine wp_e (y := nI l.length) (by rw [nI_clamp (by omega)]; exact hr0.1) ?_
  refine st_k rfl ?_
  refine st_b2 rfl (fun zq => absurd zq (nI_ge (a := 12) (b := l.length) hl (by omega))) (fun _ => ?_)
  refine st_ald rfl rfl ?_
  refine st_k rfl ?_
  refine st_cav (As := [_]) rfl rfl rfl (by first | exact tT hM rfl | assumption | exact rw_T hM (by assumption) | exact rw_A hM (by assumption)) (Nat.le_of_ble_eq_true rfl) (m_meets (d + 1) hM (f := 5) (by decide)) ?_
  -- at 31: op_iret
  exact st_iret rfl ⟨rfl, rfl⟩
theorem mqU (d : Nat) (h : IM a M) (hj : j < 6) {l : List Int32} (hx : aR a j = some l) (hl : l.length ≤ 12) (hno : ¬ ib l (nI 10)) : pm_call (d + 3) 227 [.ref 132, .int (nI j)] M (some (.int (-3))) (mF M 3) := by
  refine en_227 (Nat.le_of_ble_eq_true rfl) ?_
  have hM := h.1
  have hin : vp_in (nI j) 6 := vp_in_nI hj (by decide)
  have hr0 := h.2.1 j hj
  rw [hx] at hr0
  obtain ⟨b, hb1, hb2⟩ := m_areSigns d hM hj hr0
  rcases hb2 with ⟨z1, z2⟩ | ⟨z1, z2⟩
  · exact absurd z2 hno
  · subst z1
    refine st_ald rfl rfl ?_
    refine st_gR' rfl (by first | exact tT hM rfl | assumption | exact rw_T hM (by assumption) | exact rw_A hM (by assumption)) (by first | exact rR hM rfl rfl | assumption | exact rw_R hM (by assumption)) ?_
    refine st_ild rfl rfl ?_
    refine st_iald rfl (by first | exact tT hM rfl | assumption | exact rw_T hM (by assumption) | exact rw_A hM (by assumption)) (by first | decide | assumption | exact vp_in_nI (by omega) (by decide)) ?_
    -- at 6: stop
    refine wp_e (y := nI l.length) (by rw [nI_clamp (by omega)]; exact hr0.1) ?_
    refine st_b1 rfl (fun _ => ?_) (fun zq => absurd (nI_pos' (by omega)) zq)
    refine st_ald rfl rfl ?_
    refine st_gR' rfl (by first | exact tT hM rfl | assumption | exact rw_T hM (by assumption) | exact rw_A hM (by assumption)) (by first | exact rR hM rfl rfl | assumption | exact rw_R hM (by assumption)) ?_
    refine st_ild rfl rfl ?_
    refine st_iald rfl (by first | exact tT hM rfl | assumption | exact rw_T hM (by assumption) | exact rw_A hM (by assumption)) (by first | decide | assumption | exact vp_in_nI (by omega) (by decide)) ?_
    -- at 21: stop
    refine wp_e (y := nI l.length) (by rw [nI_clamp (by omega)]; exact hr0.1) ?_
    refine st_k rfl ?_
    refine st_b2 rfl (fun _ => ?_) (fun zq => absurd (nI_le (a := l.length) (b := 12) hl (by decide)) zq)
    refine st_ald rfl rfl ?_
    refine st_ild rfl rfl ?_
    refine st_cav (As := [_]) rfl rfl rfl (by first | exact tT hM rfl | assumption | exact rw_T hM (by assumption) | exact rw_A hM (by assumption)) (Nat.le_of_ble_eq_true rfl) (hb1) ?_
    refine st_b1 rfl (fun zq => absurd zq ((fun z => z rfl))) (fun _ => ?_)
    refine st_ald rfl rfl ?_
    refine st_k rfl ?_
    refine st_cav (As := [_]) rfl rfl rfl (by first | exact tT hM rfl | assumption | exact rw_T hM (by assumption) | exact rw_A hM (by assumption)) (Nat.le_of_ble_eq_true rfl) (m_meets (d + 1) hM (f := 3) (by decide)) ?_
    -- at 45: op_iret
    exact st_iret rfl ⟨rfl, rfl⟩
theorem mqO (d : Nat) (h : IM a M) (hj : j < 6) (hx : aR a j = some (m.map nI)) (hk : ∀ k, k ∈ m → k < 10) (hl : m.length ≤ 12) : ∃ M', pm_call (d + 3) 227 [.ref 132, .int (nI j)] M (some (.int 0)) M' ∧ MM m M' ∧ Msc M M' := by
  have hM := h.1
  have hin : vp_in (nI j) 6 := vp_in_nI hj (by decide)
  have hr0 := h.2.1 j hj
  rw [hx] at hr0
  have hl2 := hr0.1
  obtain ⟨M1, hc1, h1, h2⟩ := m_layMessage d hM hj hl hk hr0
  refine ⟨M1, en_227 (Nat.le_of_ble_eq_true rfl) ?_, h1, h2⟩
  obtain ⟨b, hb1, hb2⟩ := m_areSigns d hM hj hr0
  rw [map_len] at hl2
  rcases hb2 with ⟨z1, z2⟩ | ⟨z1, z2⟩
  · subst z1
    refine st_ald rfl rfl ?_
    refine st_gR' rfl (by first | exact tT hM rfl | assumption | exact rw_T hM (by assumption) | exact rw_A hM (by assumption)) (by first | exact rR hM rfl rfl | assumption | exact rw_R hM (by assumption)) ?_
    refine st_ild rfl rfl ?_
    refine st_iald rfl (by first | exact tT hM rfl | assumption | exact rw_T hM (by assumption) | exact rw_A hM (by assumption)) (by first | decide | assumption | exact vp_in_nI (by omega) (by decide)) ?_
    -- at 6: stop
    refine wp_e (y := nI m.length) (by rw [nI_clamp (by omega)]; exact hl2) ?_
    refine st_b1 rfl (fun _ => ?_) (fun zq => absurd (nI_pos' (by omega)) zq)
    refine st_ald rfl rfl ?_
    refine st_gR' rfl (by first | exact tT hM rfl | assumption | exact rw_T hM (by assumption) | exact rw_A hM (by assumption)) (by first | exact rR hM rfl rfl | assumption | exact rw_R hM (by assumption)) ?_
    refine st_ild rfl rfl ?_
    refine st_iald rfl (by first | exact tT hM rfl | assumption | exact rw_T hM (by assumption) | exact rw_A hM (by assumption)) (by first | decide | assumption | exact vp_in_nI (by omega) (by decide)) ?_
    -- at 21: stop
    refine wp_e (y := nI m.length) (by rw [nI_clamp (by omega)]; exact hl2) ?_
    refine st_k rfl ?_
    refine st_b2 rfl (fun _ => ?_) (fun zq => absurd (nI_le (a := m.length) (b := 12) hl (by decide)) zq)
    refine st_ald rfl rfl ?_
    refine st_ild rfl rfl ?_
    refine st_cav (As := [_]) rfl rfl rfl (by first | exact tT hM rfl | assumption | exact rw_T hM (by assumption) | exact rw_A hM (by assumption)) (Nat.le_of_ble_eq_true rfl) (hb1) ?_
    refine st_b1 rfl (fun _ => ?_) (fun zq => absurd ((by decide)) zq)
    refine st_ald rfl rfl ?_
    refine st_ild rfl rfl ?_
    refine st_cav (As := [_]) rfl rfl rfl (by first | exact tT hM rfl | assumption | exact rw_T hM (by assumption) | exact rw_A hM (by assumption)) (Nat.le_of_ble_eq_true rfl) (hc1) ?_
    -- at 51: stop
    refine st_k rfl ?_
    -- at 52: op_iret
    exact st_iret rfl ⟨rfl, rfl⟩
  · exact absurd ((ib_e (e := 10) (by decide)).mpr ⟨m, rfl, hk⟩) z2
theorem nv_eq {x : Option Nat} {v : Nat} (hv : v < 1000) : nv x = v ↔ x = some v := by
  cases x with
  | none =>
    constructor
    · intro z
      have z' : 1000 = v := z
      omega
    · intro z; cases z
  | some w =>
    show w = v ↔ some w = some v
    constructor
    · intro z; rw [z]
    · intro z; injection z
theorem c_firstOfLeast (d : Nat) (hM : pm_ok M) (h : SP c0 c m pc M) (hT : TbA c m pc M) {x : Ce} (hx : vx c m pc x) {f v : Nat} (hf : Fu c m pc x (f + 1)) (hf20 : f + 1 ≤ 20) (hv : LF c m (f + 1) (stc x) = some v) (hn : sde c m (stc x) ≠ LF c m (f + 1) (stc x)) : pm_call (d + 4) 74 [.ref 27, .int (nI (ci x))] M (some (.int (nI (kf1 c m f (stc x))))) M := by
  have hw := h.1.2.2.2.1
  have hnn := hw.1
  have hp := h.2.2
  obtain ⟨k1, k2, k3⟩ := kf1_ok hv hn
  obtain ⟨b1, b2, b3, b4, b5⟩ := vx_b hw hp hx
  obtain ⟨d1, d2, d3, d4, d5⟩ := ci_d b1 b3 b5
  have hin : vp_in (nI (ci x)) 1820 := vp_in_nI d5 (by decide)
  have hvlt := LF_lt hw (m := m) (s := stc x) (f := f + 1) hf20 v hv
  have eT : gI M 31 (nI (ci x)).toNatClampNeg = nI v := by rw [nI_clamp (by omega), hT x hx (f + 1) hf20 hf, hv]; rfl
  refine en_74 (Nat.le_of_ble_eq_true rfl) ?_
  refine st_k rfl ?_
  refine st_ist rfl ?_
  -- at 2: stop
  refine wp_for (kf1 c m f (stc x)) (fun k L M1 => ∃ z, z = nI k ∧ L = [some (.ref 27), some (.int (nI (ci x))), some (.int z)] ∧ M1 = M) ?_ ?_ 0 _ _ (Nat.zero_le _) ⟨_, rfl, rfl, rfl⟩
  · rintro k L M1 hk ⟨z, rfl, rfl, rfl⟩ ih
    have hlw := c_leastWith d hM h hx (k := k) (by omega) hf hf20 (fun y hy => hT y (on_some hp hx hf (by omega) hy).1)
    have hg := gz_lt hw (m := m) (s := stc x) (f := f + 1) (k := k) (by omega) hf20
    have n2 := nv_lt hg
    have hne : ¬ nI (nv (gz c m (f + 1) (stc x) k)) = nI v := fun z => k3 k hk (show gz c m (f + 1) (stc x) k = some v from (nv_eq hvlt).mp ((nI_eq (a := nv (gz c m (f + 1) (stc x) k)) (b := v) (by omega) (by omega)).mp z))
    refine st_ild rfl rfl ?_
    refine st_ald rfl rfl ?_
    refine st_gR' rfl (by first | exact tT hM rfl | assumption | exact rw_T hM (by assumption) | exact rw_A hM (by assumption)) (by first | exact rR hM rfl rfl | assumption | exact rw_R hM (by assumption)) ?_
    refine st_gI rfl (by first | exact tT hM rfl | assumption | exact rw_T hM (by assumption) | exact rw_A hM (by assumption)) ?_
    -- at 10: stop
    refine wp_e (sy_n h.1) ?_
    refine st_b2 rfl (fun zq => absurd zq (nI_ge (by omega) (by omega))) (fun _ => ?_)
    refine st_ald rfl rfl ?_
    refine st_ild rfl rfl ?_
    refine st_ild rfl rfl ?_
    refine st_cav (As := [_, _]) rfl rfl rfl (by first | exact tT hM rfl | assumption | exact rw_T hM (by assumption) | exact rw_A hM (by assumption)) (Nat.le_of_ble_eq_true rfl) (hlw) ?_
    refine st_ald rfl rfl ?_
    refine st_gR' rfl (by first | exact tT hM rfl | assumption | exact rw_T hM (by assumption) | exact rw_A hM (by assumption)) (by first | exact rR hM rfl rfl | assumption | exact rw_R hM (by assumption)) ?_
    refine st_ild rfl rfl ?_
    refine st_iald rfl (by first | exact tT hM rfl | assumption | exact rw_T hM (by assumption) | exact rw_A hM (by assumption)) (by first | decide | assumption | exact vp_in_nI (by omega) (by decide)) ?_
    -- at 25: stop
    refine wp_e eT ?_
    refine st_b2 rfl (fun _ => ?_) (fun zq => absurd (hne) zq)
    refine st_inc rfl rfl ?_
    refine st_go rfl ?_
    -- at 2: stop
    exact ih _ _ ⟨_, nI_1 k, rfl, rfl⟩
  · rintro L M1 ⟨z, rfl, rfl, rfl⟩
    have hlw := c_leastWith d hM h hx k1 hf hf20 (fun y hy => hT y (on_some hp hx hf k1 hy).1)
    have heq : nI (nv (gz c m (f + 1) (stc x) (kf1 c m f (stc x)))) = nI v := congrArg nI ((nv_eq hvlt).mpr k2)
    refine st_ild rfl rfl ?_
    refine st_ald rfl rfl ?_
    refine st_gR' rfl (by first | exact tT hM rfl | assumption | exact rw_T hM (by assumption) | exact rw_A hM (by assumption)) (by first | exact rR hM rfl rfl | assumption | exact rw_R hM (by assumption)) ?_
    refine st_gI rfl (by first | exact tT hM rfl | assumption | exact rw_T hM (by assumption) | exact rw_A hM (by assumption)) ?_
    -- at 10: stop
    refine wp_e (sy_n h.1) ?_
    refine st_b2 rfl (fun zq => absurd zq (nI_ge (by omega) (by omega))) (fun _ => ?_)
    refine st_ald rfl rfl ?_
    refine st_ild rfl rfl ?_
    refine st_ild rfl rfl ?_
    refine st_cav (As := [_, _]) rfl rfl rfl (by first | exact tT hM rfl | assumption | exact rw_T hM (by assumption) | exact rw_A hM (by assumption)) (Nat.le_of_ble_eq_true rfl) (hlw) ?_
    refine st_ald rfl rfl ?_
    refine st_gR' rfl (by first | exact tT hM rfl | assumption | exact rw_T hM (by assumption) | exact rw_A hM (by assumption)) (by first | exact rR hM rfl rfl | assumption | exact rw_R hM (by assumption)) ?_
    refine st_ild rfl rfl ?_
    refine st_iald rfl (by first | exact tT hM rfl | assumption | exact rw_T hM (by assumption) | exact rw_A hM (by assumption)) (by first | decide | assumption | exact vp_in_nI (by omega) (by decide)) ?_
    -- at 25: stop
    refine wp_e eT ?_
    refine st_b2 rfl (fun zq => absurd zq ((fun z => z heq))) (fun _ => ?_)
    refine st_ild rfl rfl ?_
    -- at 29: op_iret
    exact st_iret rfl ⟨rfl, rfl⟩
theorem c_spell (d : Nat) (hM : pm_ok M) (h : SP c0 c m pc M) (hT : TbA c m pc M) {o : Nat} (ho : pm_rw o = true) (ho2 : 31 < o) {ws0 : List Nat} (hr0 : pm_Ro M o (ws0.map nI)) {x0 : Ce} (hx0 : vx c m pc x0) {f0 v0 : Nat} (hf0 : Fu c m pc x0 f0) (hf20 : f0 ≤ 20) (hv0 : LF c m f0 (stc x0) = some v0) (hl0 : ws0.length + f0 ≤ 40) :
    ∃ M', pm_call (d + 5) 65 [.ref 27, .int (nI (ci x0)), .ref o] M none M' ∧ pm_Ro M' o ((ws0 ++ sp c m f0 (stc x0)).map nI) ∧ pm_S (pm_oo o) M M' := by
  have hw := h.1.2.2.2.1
  have hp := h.2.2
  have loop : ∀ f x ws v i z y5 M1, vx c m pc x → Fu c m pc x f → i + f ≤ 20 → z = nI i → LF c m f (stc x) = some v → ws.length + f ≤ 40 → ws0 ++ sp c m f0 (stc x0) = ws ++ sp c m f (stc x) → pm_Ro M1 o (ws.map nI) → pm_S (pm_oo o) M M1 → pm_WP (pm_call (d + 4)) tb_65 (fun r M' => r = none ∧ pm_Ro M' o ((ws0 ++ sp c m f0 (stc x0)).map nI) ∧ pm_S (pm_oo o) M M') 5 [some (.ref 27), some (.int (nI (ci x0))), some (.ref o), some (.int (nI (ci x))), some (.int z), y5] [] M1 := by
    intro f
    induction f with
    | zero =>
      intro x ws v i z y5 M1 hx hf hi hz hv hl he hr hs
      subst hz
      have hM1 := hs.ok hM
      have h1 := h.kept hs (fun k z => by rcases z with w | w <;> omega)
      have hT1 : TbA c m pc M1 := fun y hy => (hT y hy).kept hs (by show ¬ (_ ∨ _); omega)
      obtain ⟨b1, b2, b3, b4, b5⟩ := vx_b hw hp hx
      obtain ⟨d1, d2, d3, d4, d5⟩ := ci_d b1 b3 b5
      have hin : vp_in (nI (ci x)) 1820 := vp_in_nI d5 (by decide)
      have eT : gI M1 31 (nI (ci x)).toNatClampNeg = nI (nv (sde c m (stc x))) := by rw [nI_clamp (by omega)]; exact hT1 x hx 0 (by omega) hf
      have fin : ∀ L, pm_WP (pm_call (d + 4)) tb_65 (fun r M' => r = none ∧ pm_Ro M' o ((ws0 ++ sp c m f0 (stc x0)).map nI) ∧ pm_S (pm_oo o) M M') 60 L [] M1 := fun L => st_vret rfl ⟨rfl, by rw [he]; show pm_Ro M1 o ((ws ++ []).map nI); rw [List.append_nil]; exact hr, hs⟩
      by_cases g : i < 20
      · refine st_ild rfl rfl ?_
        refine st_k rfl ?_
        refine st_b2 rfl (fun zq => absurd zq (nI_ge (a := i) (b := 20) g (by decide))) (fun _ => ?_)
        refine st_ald rfl rfl ?_
        refine st_ild rfl rfl ?_
        refine st_cav (As := [_]) rfl rfl rfl (by first | exact tT hM1 rfl | assumption | exact rw_T hM1 (by assumption) | exact rw_A hM1 (by assumption)) (Nat.le_of_ble_eq_true rfl) (c_ending (d + 2) hM1 h1.1 hp hx) ?_
        refine st_ald rfl rfl ?_
        refine st_gR' rfl (by first | exact tT hM1 rfl | assumption | exact rw_T hM1 (by assumption) | exact rw_A hM1 (by assumption)) (by first | exact rR hM1 rfl rfl | assumption | exact rw_R hM1 (by assumption)) ?_
        refine st_ild rfl rfl ?_
        refine st_iald rfl (by first | exact tT hM1 rfl | assumption | exact rw_T hM1 (by assumption) | exact rw_A hM1 (by assumption)) (by first | decide | assumption | exact vp_in_nI (by omega) (by decide)) ?_
        -- at 23: stop
        refine wp_e eT ?_
        refine st_b2 rfl (fun _ => ?_) (fun zq => absurd (rfl) zq)
        -- at 60: stop
        exact fin _
      · refine st_ild rfl rfl ?_
        refine st_k rfl ?_
        refine st_b2 rfl (fun _ => ?_) (fun zq => absurd (nI_le (a := 20) (b := i) (by omega) (by omega)) zq)
        -- at 60: stop
        exact fin _
    | succ f ih =>
      intro x ws v i z y5 M1 hx hf hi hz hv hl he hr hs
      subst hz
      have hM1 := hs.ok hM
      have h1 := h.kept hs (fun k z => by rcases z with w | w <;> omega)
      have hT1 : TbA c m pc M1 := fun y hy => (hT y hy).kept hs (by show ¬ (_ ∨ _); omega)
      obtain ⟨b1, b2, b3, b4, b5⟩ := vx_b hw hp hx
      obtain ⟨d1, d2, d3, d4, d5⟩ := ci_d b1 b3 b5
      have hin : vp_in (nI (ci x)) 1820 := vp_in_nI d5 (by decide)
      have hvlt := LF_lt hw (m := m) (s := stc x) (f := f + 1) (by omega) v hv
      have eT : gI M1 31 (nI (ci x)).toNatClampNeg = nI v := by rw [nI_clamp (by omega), hT1 x hx (f + 1) (by omega) hf, hv]; rfl
      have hsl := nv_lt (x := sde c m (stc x)) (fun v hv => LF_lt hw (m := m) (s := stc x) (f := 0) (by omega) v hv)
      by_cases g : sde c m (stc x) = LF c m (f + 1) (stc x)
      · refine st_ild rfl rfl ?_
        refine st_k rfl ?_
        refine st_b2 rfl (fun zq => absurd zq (nI_ge (a := i) (b := 20) (by omega) (by decide))) (fun _ => ?_)
        refine st_ald rfl rfl ?_
        refine st_ild rfl rfl ?_
        refine st_cav (As := [_]) rfl rfl rfl (by first | exact tT hM1 rfl | assumption | exact rw_T hM1 (by assumption) | exact rw_A hM1 (by assumption)) (Nat.le_of_ble_eq_true rfl) (c_ending (d + 2) hM1 h1.1 hp hx) ?_
        refine st_ald rfl rfl ?_
        refine st_gR' rfl (by first | exact tT hM1 rfl | assumption | exact rw_T hM1 (by assumption) | exact rw_A hM1 (by assumption)) (by first | exact rR hM1 rfl rfl | assumption | exact rw_R hM1 (by assumption)) ?_
        refine st_ild rfl rfl ?_
        refine st_iald rfl (by first | exact tT hM1 rfl | assumption | exact rw_T hM1 (by assumption) | exact rw_A hM1 (by assumption)) (by first | decide | assumption | exact vp_in_nI (by omega) (by decide)) ?_
        -- at 23: stop
        refine wp_e eT ?_
        refine st_b2 rfl (fun _ => ?_) (fun zq => absurd ((by rw [g, hv]; rfl)) zq)
        -- at 60: op_vret
        exact st_vret rfl ⟨rfl, by rw [he, sp_0 g, List.append_nil]; exact hr, hs⟩
      · obtain ⟨k1, k2, k3⟩ := kf1_ok hv g
        obtain ⟨s', w, e1, e2, e3, e4⟩ := sp_s hv g
        have hne : ¬ nI (nv (sde c m (stc x))) = nI v := fun z => g (by rw [hv]; exact (nv_eq hvlt).mp ((nI_eq (by omega) (by omega)).mp z))
        have hk2 : gz c m (f + 1) (stc x) (kf1 c m f (stc x)) = some v := k2
        rcases gz_on hp hx hf k1 with ⟨q1, q2⟩ | ⟨y, f', q1, q2, q3, q4, q5⟩
        · rw [q2] at hk2; cases hk2
        have q2' : f' = f := by omega
        subst q2'
        have hnx := (on_some hp hx hf k1 q1).2.1
        rw [e1] at hnx
        have hsy : s' = stc y := by injection hnx
        subst hsy
        have hwl : (ws.map nI).length < 40 := by rw [map_len]; omega
        have hr2 := ro_add hr hwl (nI (kf1 c m f' (stc x)))
        rw [show ws.map nI ++ [nI (kf1 c m f' (stc x))] = (ws ++ [kf1 c m f' (stc x)]).map nI by simp] at hr2
        have s2 : pm_S (pm_oo o) M1 _ := s_add (M := M1) (o := o) (n := (ws.map nI).length) (v := nI (kf1 c m f' (stc x))) (w := nI ((ws.map nI).length + 1))
        have hM2 := s2.ok hM1
        have h2 := h1.kept s2 (fun k z => by rcases z with w | w <;> omega)
        have hk1 : ¬ nI (kf1 c m f' (stc x)) = -1 := fun z => absurd (show nI (kf1 c m f' (stc x)) < 0 by rw [z]; decide) (nI_pos (by have := hw.1; omega))
        have honw := c_onward (d + 2) hM2 h2 hx k1
        rw [q1] at honw
        refine st_ild rfl rfl ?_
        refine st_k rfl ?_
        refine st_b2 rfl (fun zq => absurd zq (nI_ge (a := i) (b := 20) (by omega) (by decide))) (fun _ => ?_)
        refine st_ald rfl rfl ?_
        refine st_ild rfl rfl ?_
        refine st_cav (As := [_]) rfl rfl rfl (by first | exact tT hM1 rfl | assumption | exact rw_T hM1 (by assumption) | exact rw_A hM1 (by assumption)) (Nat.le_of_ble_eq_true rfl) (c_ending (d + 2) hM1 h1.1 hp hx) ?_
        refine st_ald rfl rfl ?_
        refine st_gR' rfl (by first | exact tT hM1 rfl | assumption | exact rw_T hM1 (by assumption) | exact rw_A hM1 (by assumption)) (by first | exact rR hM1 rfl rfl | assumption | exact rw_R hM1 (by assumption)) ?_
        refine st_ild rfl rfl ?_
        refine st_iald rfl (by first | exact tT hM1 rfl | assumption | exact rw_T hM1 (by assumption) | exact rw_A hM1 (by assumption)) (by first | decide | assumption | exact vp_in_nI (by omega) (by decide)) ?_
        -- at 23: stop
        refine wp_e eT ?_
        refine st_b2 rfl (fun zq => absurd zq (hne)) (fun _ => ?_)
        refine st_ald rfl rfl ?_
        refine st_ild rfl rfl ?_
        refine st_cav (As := [_]) rfl rfl rfl (by first | exact tT hM1 rfl | assumption | exact rw_T hM1 (by assumption) | exact rw_A hM1 (by assumption)) (Nat.le_of_ble_eq_true rfl) (c_firstOfLeast d hM1 h1 hT1 hx hf (by omega) hv g) ?_
        refine st_ist rfl ?_
        refine st_ild rfl rfl ?_
        refine st_k rfl ?_
        refine st_b2 rfl (fun _ => ?_) (fun zq => absurd (hk1) zq)
        refine st_ald rfl rfl ?_
        refine st_ild rfl rfl ?_
        refine st_cav (As := [_]) rfl rfl rfl (rw_T hM1 ho) (Nat.le_of_ble_eq_true rfl) (c_add (d + 3) hM1 ho hr hwl _) ?_
        -- at 46: stop
        refine st_ald rfl rfl ?_
        refine st_ild rfl rfl ?_
        refine st_ild rfl rfl ?_
        refine st_cav (As := [_, _]) rfl rfl rfl (by first | exact tT hM2 rfl | assumption | exact rw_T hM2 (by assumption) | exact rw_A hM2 (by assumption)) (Nat.le_of_ble_eq_true rfl) (honw) ?_
        refine st_ist rfl ?_
        refine st_inc rfl rfl ?_
        refine st_go rfl ?_
        -- at 5: stop
        exact ih y (ws ++ [kf1 c m f' (stc x)]) w (i + 1) _ _ _ q3 q4 (by omega) (nI_1 i) e2 (by simp; omega) (by rw [he, e4]; simp) hr2 (hs.tr s2)
  obtain ⟨r, M', hcc, hr, h5, h6⟩ := eq_65 (d := d + 4) (A := [.ref 27, .int (nI (ci x0)), .ref o]) (M := M) (Q := fun r M' => r = none ∧ pm_Ro M' o ((ws0 ++ sp c m f0 (stc x0)).map nI) ∧ pm_S (pm_oo o) M M') (Nat.le_of_ble_eq_true rfl) (by
    refine st_ild rfl rfl ?_
    refine st_ist rfl ?_
    refine st_k rfl ?_
    refine st_ist rfl ?_
    -- at 5: stop
    exact loop f0 x0 ws0 v0 0 _ _ M hx0 hf0 (by omega) rfl hv0 hl0 rfl hr0 pm_S.rf)
  subst hr
  exact ⟨M', hcc, h5, h6⟩
theorem vx00 (hp : pcok c m pc) : vx c m pc c00 := ⟨by have := hp.1; show 0 < pc; rcases hp.2 with z | z <;> omega, Or.inl rfl⟩
theorem Fu00 (hp : pcok c m pc) : Fu c m pc c00 20 := by
  rcases hp.2 with ⟨z1, z2⟩ | ⟨z1, z2⟩
  · refine Or.inl ⟨z1, ?_⟩
    show m.length - 0 + cp c (m.drop 0) - (if false = true then 1 else 0) ≤ 20
    rw [List.drop_zero, if_neg (by decide)]
    omega
  · exact Or.inr ⟨z1, z2, rfl⟩
theorem al_rf (c : Cf) : alike c c := ⟨rfl, rfl, rfl, rfl, rfl, rfl, rfl, rfl, rfl⟩
theorem c_leastOfAll (d : Nat) (hM : pm_ok M) (h : SP c0 c m pc M) (hT : TbA c m pc M) : pm_call (d + 1) 61 [.ref 27] M (some (.int (nI (nv (LF c m 20 s00))))) M := by
  refine en_61 (Nat.le_of_ble_eq_true rfl) ?_
  have hin : vp_in (13 : Int32) 1820 := vp_in_nI (n := 13) (by decide) (by decide)
  have e : gI M 31 13 = nI (nv (LF c m 20 s00)) := hT c00 (vx00 h.2.2) 20 (by decide) (Fu00 h.2.2)
  refine st_ald rfl rfl ?_
  refine st_gR' rfl (by first | exact tT hM rfl | assumption | exact rw_T hM (by assumption) | exact rw_A hM (by assumption)) (by first | exact rR hM rfl rfl | assumption | exact rw_R hM (by assumption)) ?_
  refine st_k rfl ?_
  refine st_iald rfl (by first | exact tT hM rfl | assumption | exact rw_T hM (by assumption) | exact rw_A hM (by assumption)) (by first | decide | assumption | exact vp_in_nI (by omega) (by decide)) ?_
  -- at 7: stop
  refine wp_e e ?_
  exact st_iret rfl ⟨rfl, rfl⟩
end SHO

/-! A LOOP by its counter; BOTH ANSWER ALIKE: digest -/
theorem wp_for {call : pm_Cr} {cd : List (Nat × pm_Sem)} {Q : Option Value → pm_M → Prop} {pc : Nat} (n : Nat) (I : Nat → pm_L → pm_M → Prop)
    (hs : ∀ i L M, i < n → I i L M → (∀ L' M', I (i + 1) L' M' → pm_WP call cd Q pc L' [] M') → pm_WP call cd Q pc L [] M)
    (he : ∀ L M, I n L M → pm_WP call cd Q pc L [] M) : ∀ i L M, i ≤ n → I i L M → pm_WP call cd Q pc L [] M := by
  have key : ∀ m i L M, i + m = n → I i L M → pm_WP call cd Q pc L [] M := by
    intro m
    induction m with
    | zero =>
      intro i L M hi h
      rw [show i = n by omega] at h
      exact he L M h
    | succ m ih =>
      intro i L M hi h
      exact hs i L M (by omega) h (fun L' M' h' => ih (i + 1) L' M' (by omega) h')
  intro i L M hi h
  exact key (n - i) i L M (by omega) h
def df (f : Nat → Int64) (h : Int64) : Nat → Int64
  | 0 => h
  | i + 1 => 31 * df f h i + f i
def dgo (x : Option (List Int32)) (z : Int64) : Int64 := match x with
  | none => z
  | some l => dg l z l.length
def szo (x : Option (List Int32)) : Int32 := match x with
  | none => -1
  | some l => nI l.length
def dr (f : Nat → Option (List Int32)) (h : Int64) : Nat → Int64
  | 0 => h
  | r + 1 => dgo (f r) (31 * dr f h r + (szo (f r)).toInt64)
theorem dr_s (f : Nat → Option (List Int32)) (h : Int64) (r : Nat) : dr f h (r + 1) = dgo (f r) (31 * dr f h r + (szo (f r)).toInt64) := rfl
def dkn (c : Cf) (h : Int64) : Nat → Int64
  | 0 => h
  | k + 1 => df (fun w => (nI (kf c k (nI w))).toInt64) (dkn c h k) 5
def dpr (c : Cf) (h : Int64) : Nat → Int64
  | 0 => h
  | i + 1 => 31 * (31 * (31 * dpr c h i + (nI (cf_p1 c i)).toInt64) + (nI (cf_p2 c i)).toInt64) + (nI (cf_ps c i)).toInt64
def dcr (c : Cf) (h : Int64) : Int64 := dpr c (dkn c (31 * (31 * h + (nI (cf_len c)).toInt64) + (nI (cf_gir c)).toInt64) (cf_n c)) (cf_np c)
def kvo (x : Option (List Nat × Nat)) : Int32 := match x with
  | none => -1
  | some q => nI q.1.length
def dgs (a : As) : Int64 := dr (aT a) (dr (aR a) (df (fun k => (kvo (aK a k)).toInt64) (dg ((aP a).map nI) (dcr (aC a) (df (fun w => (nI (cv a w)).toInt64) 17 9)) (aP a).length) 3) 6) 4
section DIG
variable {a : As} {M : pm_M} {c : Cf}
theorem c_digRowO (d : Nat) {o : Nat} {x : Option (List Int32)} (hM : pm_ok M) (ho : pm_rw o = true) (h : CRow M o x) (z : Int64) : pm_call (d + 1) 57 [.ref o, .long z] M (some (.long (dgo x z))) M := by
  cases x with
  | some l => exact c_digRow d hM ho h z
  | none =>
    refine en_57 (Nat.le_of_ble_eq_true rfl) ?_
    have e : gI M o 1 = -1 := h
    refine st_k rfl ?_
    refine st_ist rfl ?_
    -- at 2: stop
    refine st_ild rfl rfl ?_
    refine st_ald rfl rfl ?_
    refine st_gI rfl (by first | exact tT hM rfl | assumption | exact rw_T hM (by assumption) | exact rw_A hM (by assumption)) ?_
    refine st_b2 rfl (fun _ => ?_) (fun zq => absurd ((by rw [e]; decide)) zq)
    refine st_lld rfl rfl ?_
    -- at 31: op_lret
    exact st_lret rfl ⟨rfl, rfl⟩
theorem c_digTxt (d : Nat) {j : Nat} {x : Option (List Int32)} (hM : pm_ok M) (hj : j < 4) (h : CTxt M (118 + 2 * j) x) (z : Int64) : pm_call (d + 1) 88 [.ref (118 + 2 * j), .long z] M (some (.long (dgo x z))) M := by
  have t1 := tTxt hM hj
  have t2 := tTxtA hM hj
  have t3 := rTxtA hM hj
  refine en_88 (Nat.le_of_ble_eq_true rfl) ?_
  cases x with
  | none =>
    have e : gI M (118 + 2 * j) 1 = -1 := h
    refine st_k rfl ?_
    refine st_ist rfl ?_
    -- at 2: stop
    refine st_ild rfl rfl ?_
    refine st_ald rfl rfl ?_
    refine st_gI rfl (by first | exact tT hM rfl | assumption | exact rw_T hM (by assumption) | exact rw_A hM (by assumption)) ?_
    refine st_b2 rfl (fun _ => ?_) (fun zq => absurd ((by rw [e]; decide)) zq)
    refine st_lld rfl rfl ?_
    -- at 31: op_lret
    exact st_lret rfl ⟨rfl, rfl⟩
  | some l =>
    obtain ⟨h1, h2, h3⟩ := h
    refine st_k rfl ?_
    refine st_ist rfl ?_
    -- at 2: stop
    refine wp_for l.length (fun i L M1 => ∃ x, x = nI i ∧ L = [some (.ref (118 + 2 * j)), some (.long (dg l z i)), none, some (.int x)] ∧ M1 = M) ?_ ?_ 0 _ _ (Nat.zero_le _) ⟨_, rfl, rfl, rfl⟩
    · rintro i L M1 hi ⟨x, rfl, rfl, rfl⟩ ih
      have q : ¬ gI M1 (118 + 2 * j) 1 ≤ nI i := by rw [h1]; exact nI_ge (by omega) (by omega)
      have hin : vp_in (nI i) 80 := vp_in_nI (by omega) (by decide)
      refine st_ild rfl rfl ?_
      refine st_ald rfl rfl ?_
      refine st_gI rfl (by first | exact tT hM rfl | assumption | exact rw_T hM (by assumption) | exact rw_A hM (by assumption)) ?_
      refine st_b2 rfl (fun zq => absurd zq (q)) (fun _ => ?_)
      refine st_k rfl ?_
      refine st_lld rfl rfl ?_
      refine st_lb rfl ?_
      refine st_ald rfl rfl ?_
      refine st_gR' rfl (by first | exact tT hM rfl | assumption | exact rw_T hM (by assumption) | exact rw_A hM (by assumption)) (by first | exact rR hM rfl rfl | assumption | exact rw_R hM (by assumption)) ?_
      refine st_ild rfl rfl ?_
      refine st_bald rfl (by first | exact tT hM rfl | assumption | exact rw_T hM (by assumption) | exact rw_A hM (by assumption)) (by first | decide | assumption | exact vp_in_nI (by omega) (by decide)) ?_
      -- at 21: stop
      refine wp_e (y := l.getD i 0) (by rw [nI_clamp (by omega)]; exact h3 i hi) ?_
      refine st_i2l rfl ?_
      refine st_lb rfl ?_
      refine st_lst rfl ?_
      refine st_inc rfl rfl ?_
      refine st_go rfl ?_
      -- at 2: stop
      exact ih _ _ ⟨_, nI_1 i, rfl, rfl⟩
    · rintro L M1 ⟨x, rfl, rfl, rfl⟩
      have q : gI M1 (118 + 2 * j) 1 ≤ nI l.length := by rw [h1]; exact nI_le (by omega) (by omega)
      refine st_ild rfl rfl ?_
      refine st_ald rfl rfl ?_
      refine st_gI rfl (by first | exact tT hM rfl | assumption | exact rw_T hM (by assumption) | exact rw_A hM (by assumption)) ?_
      refine st_b2 rfl (fun _ => ?_) (fun zq => absurd (q) zq)
      refine st_lld rfl rfl ?_
      -- at 31: op_lret
      exact st_lret rfl ⟨rfl, rfl⟩
theorem c_digCraft (d : Nat) (hM : pm_ok M) (hw : cf_wf c) (hc : CC c M) (z : Int64) : pm_call (d + 4) 24 [.ref 7, .long z] M (some (.long (dcr c z))) M := by
  refine en_24 (Nat.le_of_ble_eq_true rfl) ?_
  have hn := hw.1
  have hnp := hw.2.2.2.2.1
  refine st_k rfl ?_
  refine st_lld rfl rfl ?_
  refine st_lb rfl ?_
  refine st_ald rfl rfl ?_
  refine st_gI rfl (by first | exact tT hM rfl | assumption | exact rw_T hM (by assumption) | exact rw_A hM (by assumption)) ?_
  -- at 9: stop
  refine wp_e hc.1.1 ?_
  refine st_i2l rfl ?_
  refine st_lb rfl ?_
  refine st_lst rfl ?_
  refine st_k rfl ?_
  refine st_lld rfl rfl ?_
  refine st_lb rfl ?_
  refine st_ald rfl rfl ?_
  refine st_gI rfl (by first | exact tT hM rfl | assumption | exact rw_T hM (by assumption) | exact rw_A hM (by assumption)) ?_
  -- at 21: stop
  refine wp_e hc.1.2.1 ?_
  refine st_i2l rfl ?_
  refine st_lb rfl ?_
  refine st_lst rfl ?_
  refine st_k rfl ?_
  refine st_ist rfl ?_
  -- at 26: stop
  refine wp_for (cf_n c) (fun k L M1 => ∃ x y, x = nI k ∧ L = [some (.ref 7), some (.long (dkn c (31 * (31 * z + (nI (cf_len c)).toInt64) + (nI (cf_gir c)).toInt64) k)), none, some (.int x), y] ∧ M1 = M) ?_ ?_ 0 _ _ (Nat.zero_le _) ⟨_, _, rfl, rfl, rfl⟩
  · rintro k L M1 hk ⟨x, y, rfl, rfl, rfl⟩ ih
    refine st_ild rfl rfl ?_
    refine st_ald rfl rfl ?_
    refine st_gI rfl (by first | exact tT hM rfl | assumption | exact rw_T hM (by assumption) | exact rw_A hM (by assumption)) ?_
    -- at 31: stop
    refine wp_e hc.1.2.2.1 ?_
    refine st_b2 rfl (fun zq => absurd zq (nI_ge (by omega) (by omega))) (fun _ => ?_)
    refine st_k rfl ?_
    refine st_ist rfl ?_
    -- at 37: stop
    refine wp_for 5 (fun w L M2 => ∃ y, y = nI w ∧ L = [some (.ref 7), some (.long (df (fun w => (nI (kf c k (nI w))).toInt64) (dkn c (31 * (31 * z + (nI (cf_len c)).toInt64) + (nI (cf_gir c)).toInt64) k) w)), none, some (.int (nI k)), some (.int y)] ∧ M2 = M1) ?_ ?_ 0 _ _ (Nat.zero_le _) ⟨_, rfl, rfl, rfl⟩
    · rintro w L M2 hw5 ⟨y, rfl, rfl, rfl⟩ ih2
      refine st_ild rfl rfl ?_
      refine st_k rfl ?_
      refine st_b2 rfl (fun zq => absurd zq (nI_ge (a := w) (b := 5) (by omega) (by decide))) (fun _ => ?_)
      refine st_k rfl ?_
      refine st_lld rfl rfl ?_
      refine st_lb rfl ?_
      refine st_ald rfl rfl ?_
      refine st_ild rfl rfl ?_
      refine st_ild rfl rfl ?_
      refine st_cav (As := [_, _]) rfl rfl rfl (by first | exact tT hM rfl | assumption | exact rw_T hM (by assumption) | exact rw_A hM (by assumption)) (Nat.le_of_ble_eq_true rfl) (c_knotFact d hM hw hc hk (nI w)) ?_
      refine st_i2l rfl ?_
      refine st_lb rfl ?_
      refine st_lst rfl ?_
      refine st_inc rfl rfl ?_
      refine st_go rfl ?_
      -- at 37: stop
      exact ih2 _ _ ⟨_, nI_1 w, rfl, rfl⟩
    · rintro L M2 ⟨y, rfl, rfl, rfl⟩
      refine st_ild rfl rfl ?_
      refine st_k rfl ?_
      refine st_b2 rfl (fun _ => ?_) (fun zq => absurd (nI_le (a := 5) (b := 5) (by decide) (by decide)) zq)
      refine st_inc rfl rfl ?_
      refine st_go rfl ?_
      -- at 26: stop
      exact ih _ _ ⟨_, _, nI_1 k, rfl, rfl⟩
  · rintro L M1 ⟨x, y, rfl, rfl, rfl⟩
    refine st_ild rfl rfl ?_
    refine st_ald rfl rfl ?_
    refine st_gI rfl (by first | exact tT hM rfl | assumption | exact rw_T hM (by assumption) | exact rw_A hM (by assumption)) ?_
    -- at 31: stop
    refine wp_e hc.1.2.2.1 ?_
    refine st_b2 rfl (fun _ => ?_) (fun zq => absurd (nI_le (by omega) (by omega)) zq)
    refine st_k rfl ?_
    refine st_ist rfl ?_
    -- at 72: stop
    refine wp_for (cf_np c) (fun i L M2 => ∃ x y, x = nI i ∧ L = [some (.ref 7), some (.long (dpr c (dkn c (31 * (31 * z + (nI (cf_len c)).toInt64) + (nI (cf_gir c)).toInt64) (cf_n c)) i)), none, some (.int x), y] ∧ M2 = M1) ?_ ?_ 0 _ _ (Nat.zero_le _) ⟨_, _, rfl, rfl, rfl⟩
    · rintro i L M2 hi ⟨x, y, rfl, rfl, rfl⟩ ih
      have hin : vp_in (nI i) 6 := vp_in_nI (by omega) (by decide)
      have e4 : (nI i).toNatClampNeg = i := nI_clamp (by omega)
      obtain ⟨e1, e2, e3⟩ := hc.2.2.1 i hi
      refine st_ild rfl rfl ?_
      refine st_ald rfl rfl ?_
      refine st_gI rfl (by first | exact tT hM rfl | assumption | exact rw_T hM (by assumption) | exact rw_A hM (by assumption)) ?_
      -- at 77: stop
      refine wp_e hc.1.2.2.2.2 ?_
      refine st_b2 rfl (fun zq => absurd zq (nI_ge (by omega) (by omega))) (fun _ => ?_)
      refine st_k rfl ?_
      refine st_lld rfl rfl ?_
      refine st_lb rfl ?_
      refine st_ald rfl rfl ?_
      refine st_gR' rfl (by first | exact tT hM rfl | assumption | exact rw_T hM (by assumption) | exact rw_A hM (by assumption)) (by first | exact rR hM rfl rfl | assumption | exact rw_R hM (by assumption)) ?_
      refine st_ild rfl rfl ?_
      refine st_iald rfl (by first | exact tT hM rfl | assumption | exact rw_T hM (by assumption) | exact rw_A hM (by assumption)) (by first | decide | assumption | exact vp_in_nI (by omega) (by decide)) ?_
      -- at 91: stop
      refine wp_e (y := nI (cf_p1 c i)) (by rw [e4]; exact e1) ?_
      refine st_i2l rfl ?_
      refine st_lb rfl ?_
      refine st_lst rfl ?_
      refine st_k rfl ?_
      refine st_lld rfl rfl ?_
      refine st_lb rfl ?_
      refine st_ald rfl rfl ?_
      refine st_gR' rfl (by first | exact tT hM rfl | assumption | exact rw_T hM (by assumption) | exact rw_A hM (by assumption)) (by first | exact rR hM rfl rfl | assumption | exact rw_R hM (by assumption)) ?_
      refine st_ild rfl rfl ?_
      refine st_iald rfl (by first | exact tT hM rfl | assumption | exact rw_T hM (by assumption) | exact rw_A hM (by assumption)) (by first | decide | assumption | exact vp_in_nI (by omega) (by decide)) ?_
      -- at 105: stop
      refine wp_e (y := nI (cf_p2 c i)) (by rw [e4]; exact e2) ?_
      refine st_i2l rfl ?_
      refine st_lb rfl ?_
      refine st_lst rfl ?_
      refine st_k rfl ?_
      refine st_lld rfl rfl ?_
      refine st_lb rfl ?_
      refine st_ald rfl rfl ?_
      refine st_gR' rfl (by first | exact tT hM rfl | assumption | exact rw_T hM (by assumption) | exact rw_A hM (by assumption)) (by first | exact rR hM rfl rfl | assumption | exact rw_R hM (by assumption)) ?_
      refine st_ild rfl rfl ?_
      refine st_iald rfl (by first | exact tT hM rfl | assumption | exact rw_T hM (by assumption) | exact rw_A hM (by assumption)) (by first | decide | assumption | exact vp_in_nI (by omega) (by decide)) ?_
      -- at 119: stop
      refine wp_e (y := nI (cf_ps c i)) (by rw [e4]; exact e3) ?_
      refine st_i2l rfl ?_
      refine st_lb rfl ?_
      refine st_lst rfl ?_
      refine st_inc rfl rfl ?_
      refine st_go rfl ?_
      -- at 72: stop
      exact ih _ _ ⟨_, _, nI_1 i, rfl, rfl⟩
    · rintro L M2 ⟨x, y, rfl, rfl, rfl⟩
      refine st_ild rfl rfl ?_
      refine st_ald rfl rfl ?_
      refine st_gI rfl (by first | exact tT hM rfl | assumption | exact rw_T hM (by assumption) | exact rw_A hM (by assumption)) ?_
      -- at 77: stop
      refine wp_e hc.1.2.2.2.2 ?_
      refine st_b2 rfl (fun _ => ?_) (fun zq => absurd (nI_le (by omega) (by omega)) zq)
      refine st_lld rfl rfl ?_
      -- at 129: op_lret
      exact st_lret rfl ⟨rfl, rfl⟩
theorem c_digest (d : Nat) (ha : aw a) (h : IC a M) : pm_call (d + 5) 135 [.ref 0] M (some (.long (dgs a))) M := by
  refine en_135 (Nat.le_of_ble_eq_true rfl) ?_
  have hM := h.1
  refine st_k rfl ?_
  refine st_lst rfl ?_
  refine st_k rfl ?_
  refine st_ist rfl ?_
  -- at 6: stop
  refine wp_for 9 (fun i L M1 => ∃ x, x = nI i ∧ L = [some (.ref 0), some (.long (df (fun w => (nI (cv a w)).toInt64) 17 i)), none, some (.int x)] ∧ M1 = M) ?_ ?_ 0 _ _ (Nat.zero_le _) ⟨_, rfl, rfl, rfl⟩
  · rintro i L M1 hi ⟨x, rfl, rfl, rfl⟩ ih
    refine st_ild rfl rfl ?_
    refine st_k rfl ?_
    refine st_b2 rfl (fun zq => absurd zq (nI_ge (a := i) (b := 9) (by omega) (by decide))) (fun _ => ?_)
    refine st_k rfl ?_
    refine st_lld rfl rfl ?_
    refine st_lb rfl ?_
    refine st_ald rfl rfl ?_
    refine st_ild rfl rfl ?_
    refine st_cav (As := [_]) rfl rfl rfl (by first | exact tT hM rfl | assumption | exact rw_T hM (by assumption) | exact rw_A hM (by assumption)) (Nat.le_of_ble_eq_true rfl) (c_count (d + 1) ha h (w := i) (by omega)) ?_
    refine st_i2l rfl ?_
    refine st_lb rfl ?_
    refine st_lst rfl ?_
    refine st_inc rfl rfl ?_
    refine st_go rfl ?_
    -- at 6: stop
    exact ih _ _ ⟨_, nI_1 i, rfl, rfl⟩
  rintro L M1 ⟨x, rfl, rfl, rfl⟩
  have hdr := c_digRow (d + 3) hM ro3 h.2.2.2.2.1 (dcr (aC a) (df (fun w => (nI (cv a w)).toInt64) 17 9))
  rw [map_len] at hdr
  refine st_ild rfl rfl ?_
  refine st_k rfl ?_
  refine st_b2 rfl (fun _ => ?_) (fun zq => absurd (nI_le (a := 9) (b := 9) (by decide) (by decide)) zq)
  refine st_ald rfl rfl ?_
  refine st_gR' rfl (by first | exact tT hM rfl | assumption | exact rw_T hM (by assumption) | exact rw_A hM (by assumption)) (by first | exact rR hM rfl rfl | assumption | exact rw_R hM (by assumption)) ?_
  refine st_lld rfl rfl ?_
  refine st_cav (As := [_]) rfl rfl rfl (by first | exact tT hM rfl | assumption | exact rw_T hM (by assumption) | exact rw_A hM (by assumption)) (Nat.le_of_ble_eq_true rfl) (c_digCraft d hM ha.1 h.2.2.2.1 _) ?_
  refine st_lst rfl ?_
  refine st_ald rfl rfl ?_
  refine st_gR' rfl (by first | exact tT hM rfl | assumption | exact rw_T hM (by assumption) | exact rw_A hM (by assumption)) (by first | exact rR hM rfl rfl | assumption | exact rw_R hM (by assumption)) ?_
  refine st_lld rfl rfl ?_
  refine st_cav (As := [_]) rfl rfl rfl (by first | exact tT hM rfl | assumption | exact rw_T hM (by assumption) | exact rw_A hM (by assumption)) (Nat.le_of_ble_eq_true rfl) (hdr) ?_
  refine st_lst rfl ?_
  refine st_k rfl ?_
  refine st_ist rfl ?_
  -- at 51: stop
  refine wp_for 3 (fun i L M2 => ∃ x, x = nI i ∧ L = [some (.ref 0), some (.long (df (fun k => (kvo (aK a k)).toInt64) (dg ((aP a).map nI) (dcr (aC a) (df (fun w => (nI (cv a w)).toInt64) 17 9)) (aP a).length) i)), none, some (.int x)] ∧ M2 = M1) ?_ ?_ 0 _ _ (Nat.zero_le _) ⟨_, rfl, rfl, rfl⟩
  · rintro i L M2 hi ⟨x, rfl, rfl, rfl⟩ ih
    have hin : vp_in (nI i) 3 := vp_in_nI hi (by decide)
    have hk := h.2.2.2.2.2.1 i hi
    have e : gI M2 (126 + 2 * i) 1 = kvo (aK a i) := by
      unfold CKep at hk
      cases hx : aK a i with
      | none => rw [hx] at hk; exact hk
      | some q => rw [hx] at hk; rw [hk.1.1, map_len]; rfl
    refine st_ild rfl rfl ?_
    refine st_k rfl ?_
    refine st_b2 rfl (fun zq => absurd zq (nI_ge (a := i) (b := 3) (by omega) (by decide))) (fun _ => ?_)
    refine st_k rfl ?_
    refine st_lld rfl rfl ?_
    refine st_lb rfl ?_
    refine st_ald rfl rfl ?_
    refine st_gR' rfl (by first | exact tT hM rfl | assumption | exact rw_T hM (by assumption) | exact rw_A hM (by assumption)) (by first | exact rR hM rfl rfl | assumption | exact rw_R hM (by assumption)) ?_
    refine st_ild rfl rfl ?_
    refine st_aald' rfl (by first | exact tT hM rfl | assumption | exact rw_T hM (by assumption) | exact rw_A hM (by assumption)) (by first | decide | assumption | exact vp_in_nI (by omega) (by decide)) (by first | assumption | exact rRow' hM (by assumption) | exact rTxt' hM (by assumption) | exact rKep' hM (by assumption) | exact rRdg' hM (by assumption)) ?_
    refine st_gI rfl (tKep hM hi) ?_
    -- at 70: stop
    refine wp_e e ?_
    refine st_i2l rfl ?_
    refine st_lb rfl ?_
    refine st_lst rfl ?_
    refine st_inc rfl rfl ?_
    refine st_go rfl ?_
    -- at 51: stop
    exact ih _ _ ⟨_, nI_1 i, rfl, rfl⟩
  rintro L M2 ⟨x, rfl, rfl, rfl⟩
  refine st_ild rfl rfl ?_
  refine st_k rfl ?_
  refine st_b2 rfl (fun _ => ?_) (fun zq => absurd (nI_le (a := 3) (b := 3) (by decide) (by decide)) zq)
  refine st_k rfl ?_
  refine st_ist rfl ?_
  -- at 81: stop
  refine wp_for 6 (fun i L M1 => ∃ x, x = nI i ∧ L = [some (.ref 0), some (.long (dr (aR a) (df (fun k => (kvo (aK a k)).toInt64) (dg ((aP a).map nI) (dcr (aC a) (df (fun w => (nI (cv a w)).toInt64) 17 9)) (aP a).length) 3) i)), none, some (.int x)] ∧ M1 = M2) ?_ ?_ 0 _ _ (Nat.zero_le _) ⟨_, rfl, rfl, rfl⟩
  · rintro i L M1 hi ⟨x, rfl, rfl, rfl⟩ ih
    have hin : vp_in (nI i) 6 := vp_in_nI hi (by decide)
    have hk := h.2.1 i hi
    have ho := rw_row i hi
    have e : gI M1 (106 + 2 * i) 1 = szo (aR a i) := by
      cases hx : aR a i with
      | none => rw [hx] at hk; exact crow_none hk
      | some q => rw [hx] at hk; exact (crow_some hk).1
    refine st_ild rfl rfl ?_
    refine st_k rfl ?_
    refine st_b2 rfl (fun zq => absurd zq (nI_ge (a := i) (b := 6) (by omega) (by decide))) (fun _ => ?_)
    refine st_ald rfl rfl ?_
    refine st_gR' rfl (by first | exact tT hM rfl | assumption | exact rw_T hM (by assumption) | exact rw_A hM (by assumption)) (by first | exact rR hM rfl rfl | assumption | exact rw_R hM (by assumption)) ?_
    refine st_ild rfl rfl ?_
    refine st_aald' rfl (by first | exact tT hM rfl | assumption | exact rw_T hM (by assumption) | exact rw_A hM (by assumption)) (by first | decide | assumption | exact vp_in_nI (by omega) (by decide)) (by first | assumption | exact rRow' hM (by assumption) | exact rTxt' hM (by assumption) | exact rKep' hM (by assumption) | exact rRdg' hM (by assumption)) ?_
    refine st_k rfl ?_
    refine st_lld rfl rfl ?_
    refine st_lb rfl ?_
    refine st_ald rfl rfl ?_
    refine st_gR' rfl (by first | exact tT hM rfl | assumption | exact rw_T hM (by assumption) | exact rw_A hM (by assumption)) (by first | exact rR hM rfl rfl | assumption | exact rw_R hM (by assumption)) ?_
    refine st_ild rfl rfl ?_
    refine st_aald' rfl (by first | exact tT hM rfl | assumption | exact rw_T hM (by assumption) | exact rw_A hM (by assumption)) (by first | decide | assumption | exact vp_in_nI (by omega) (by decide)) (by first | assumption | exact rRow' hM (by assumption) | exact rTxt' hM (by assumption) | exact rKep' hM (by assumption) | exact rRdg' hM (by assumption)) ?_
    refine st_gI rfl (by first | exact tT hM rfl | assumption | exact rw_T hM (by assumption) | exact rw_A hM (by assumption)) ?_
    -- at 107: stop
    refine wp_e e ?_
    refine st_i2l rfl ?_
    refine st_lb rfl ?_
    refine st_cav (As := [_]) rfl rfl rfl (by first | exact tT hM rfl | assumption | exact rw_T hM (by assumption) | exact rw_A hM (by assumption)) (Nat.le_of_ble_eq_true rfl) (c_digRowO (d + 3) hM ho hk _) ?_
    refine st_lst rfl ?_
    refine st_inc rfl rfl ?_
    refine st_go rfl ?_
    -- at 81: stop
    exact ih _ _ ⟨_, nI_1 i, rfl, rfl⟩
  rintro L M1 ⟨x, rfl, rfl, rfl⟩
  refine st_ild rfl rfl ?_
  refine st_k rfl ?_
  refine st_b2 rfl (fun _ => ?_) (fun zq => absurd (nI_le (a := 6) (b := 6) (by decide) (by decide)) zq)
  refine st_k rfl ?_
  refine st_ist rfl ?_
  -- at 121: stop
  refine wp_for 4 (fun i L M2 => ∃ x, x = nI i ∧ L = [some (.ref 0), some (.long (dr (aT a) (dr (aR a) (df (fun k => (kvo (aK a k)).toInt64) (dg ((aP a).map nI) (dcr (aC a) (df (fun w => (nI (cv a w)).toInt64) 17 9)) (aP a).length) 3) 6) i)), none, some (.int x)] ∧ M2 = M1) ?_ ?_ 0 _ _ (Nat.zero_le _) ⟨_, rfl, rfl, rfl⟩
  · rintro i L M2 hi ⟨x, rfl, rfl, rfl⟩ ih
    have hin : vp_in (nI i) 4 := vp_in_nI hi (by decide)
    have hk := h.2.2.1 i hi
    have e : gI M2 (118 + 2 * i) 1 = szo (aT a i) := by
      unfold CTxt at hk
      cases hx : aT a i with
      | none => rw [hx] at hk; exact hk
      | some q => rw [hx] at hk; exact hk.1
    refine st_ild rfl rfl ?_
    refine st_k rfl ?_
    refine st_b2 rfl (fun zq => absurd zq (nI_ge (a := i) (b := 4) (by omega) (by decide))) (fun _ => ?_)
    refine st_ald rfl rfl ?_
    refine st_gR' rfl (by first | exact tT hM rfl | assumption | exact rw_T hM (by assumption) | exact rw_A hM (by assumption)) (by first | exact rR hM rfl rfl | assumption | exact rw_R hM (by assumption)) ?_
    refine st_ild rfl rfl ?_
    refine st_aald' rfl (by first | exact tT hM rfl | assumption | exact rw_T hM (by assumption) | exact rw_A hM (by assumption)) (by first | decide | assumption | exact vp_in_nI (by omega) (by decide)) (by first | assumption | exact rRow' hM (by assumption) | exact rTxt' hM (by assumption) | exact rKep' hM (by assumption) | exact rRdg' hM (by assumption)) ?_
    refine st_k rfl ?_
    refine st_lld rfl rfl ?_
    refine st_lb rfl ?_
    refine st_ald rfl rfl ?_
    refine st_gR' rfl (by first | exact tT hM rfl | assumption | exact rw_T hM (by assumption) | exact rw_A hM (by assumption)) (by first | exact rR hM rfl rfl | assumption | exact rw_R hM (by assumption)) ?_
    refine st_ild rfl rfl ?_
    refine st_aald' rfl (by first | exact tT hM rfl | assumption | exact rw_T hM (by assumption) | exact rw_A hM (by assumption)) (by first | decide | assumption | exact vp_in_nI (by omega) (by decide)) (by first | assumption | exact rRow' hM (by assumption) | exact rTxt' hM (by assumption) | exact rKep' hM (by assumption) | exact rRdg' hM (by assumption)) ?_
    refine st_gI rfl (tTxt hM hi) ?_
    -- at 146: stop
    refine wp_e e ?_
    refine st_i2l rfl ?_
    refine st_lb rfl ?_
    refine st_cav (As := [_]) rfl rfl rfl (tTxt hM hi) (Nat.le_of_ble_eq_true rfl) (c_digTxt (d + 3) hM hi hk _) ?_
    refine st_lst rfl ?_
    refine st_inc rfl rfl ?_
    refine st_go rfl ?_
    -- at 121: stop
    exact ih _ _ ⟨_, nI_1 i, rfl, rfl⟩
  rintro L M2 ⟨x, rfl, rfl, rfl⟩
  refine st_ild rfl rfl ?_
  refine st_k rfl ?_
  refine st_b2 rfl (fun _ => ?_) (fun zq => absurd (nI_le (a := 4) (b := 4) (by decide) (by decide)) zq)
  refine st_lld rfl rfl ?_
  -- at 159: op_lret
  exact st_lret rfl ⟨rfl, rfl⟩
/-! the reference -/
theorem sL_sL (M : pm_M) (k i : Nat) (v w : Int64) : sL (sL M k i v) k i w = sL M k i w := by
  unfold sL
  congr 2
  congr 1
  funext x y
  dsimp only
  split
  · rfl
  · rfl
theorem m_mix (d : Nat) (hM : pm_ok M) (z v : Int64) : pm_call (d + 1) 265 [.ref 132, .long v] (sL M 132 56 z) none (sL M 132 56 (31 * z + v)) := by
  refine en_265 (Nat.le_of_ble_eq_true rfl) ?_
  have hM' : pm_ok (sL M 132 56 z) := hM
  refine st_ald rfl rfl ?_
  refine st_k rfl ?_
  refine st_ald rfl rfl ?_
  refine st_gL rfl (by first | exact tT hM' rfl | assumption | exact rw_T hM' (by assumption) | exact rw_A hM' (by assumption)) ?_
  -- at 8: stop
  refine wp_el (y := z) (by rw [gL_sL, if_pos ⟨rfl, rfl⟩]) ?_
  refine st_lb rfl ?_
  refine st_lld rfl rfl ?_
  refine st_lb rfl ?_
  refine st_pL rfl (by first | exact tT hM' rfl | assumption | exact rw_T hM' (by assumption) | exact rw_A hM' (by assumption)) ?_
  -- at 14: op_vret
  exact st_vret rfl ⟨rfl, sL_sL _ _ _ _ _⟩
theorem m_byteAt (d : Nat) (hM : pm_ok M) {t i : Nat} (ht : t < 4) {l : List Int32} (h : MTxt M t (some l)) (hi : i < 2 ^ 31) : pm_call (d + 1) 171 [.ref 132, .int (nI t), .int (nI i)] M (some (.int (l.getD i 0))) M := by
  refine en_171 (Nat.le_of_ble_eq_true rfl) ?_
  obtain ⟨h1, h2, h3⟩ := h
  have hin : vp_in (nI t) 4 := vp_in_nI ht (by decide)
  refine st_ild rfl rfl ?_
  refine st_ald rfl rfl ?_
  refine st_gR' rfl (by first | exact tT hM rfl | assumption | exact rw_T hM (by assumption) | exact rw_A hM (by assumption)) (by first | exact rR hM rfl rfl | assumption | exact rw_R hM (by assumption)) ?_
  refine st_ild rfl rfl ?_
  refine st_iald rfl (by first | exact tT hM rfl | assumption | exact rw_T hM (by assumption) | exact rw_A hM (by assumption)) (by first | decide | assumption | exact vp_in_nI (by omega) (by decide)) ?_
  -- at 7: stop
  refine wp_e (y := nI l.length) (by rw [nI_clamp (by omega)]; exact h1) ?_
  refine st_b2 rfl (fun g => ?_) (fun g => ?_)
  -- at 7: split 24 10
  · have g := (nI_leI (by omega) (by omega)).mp g
    refine st_k rfl ?_
    -- at 25: op_iret
    exact st_iret rfl ⟨by rw [List.getD_eq_getElem?_getD, List.getElem?_eq_none g]; rfl, rfl⟩
  · have g : i < l.length := Nat.lt_of_not_le (fun z => g (nI_le z (by omega)))
    have e : 80 * nI t + nI i = nI (80 * t + i) := by show nI 80 * nI t + nI i = _; rw [pk_mul, nI_add]
    have hin2 : vp_in (80 * nI t + nI i) 320 := by rw [e]; exact vp_in_nI (by omega) (by decide)
    refine st_ald rfl rfl ?_
    refine st_gR' rfl (by first | exact tT hM rfl | assumption | exact rw_T hM (by assumption) | exact rw_A hM (by assumption)) (by first | exact rR hM rfl rfl | assumption | exact rw_R hM (by assumption)) ?_
    refine st_k rfl ?_
    refine st_ild rfl rfl ?_
    refine st_ib rfl ?_
    refine st_ild rfl rfl ?_
    refine st_ib rfl ?_
    refine st_bald rfl (by first | exact tT hM rfl | assumption | exact rw_T hM (by assumption) | exact rw_A hM (by assumption)) (by first | decide | assumption | exact vp_in_nI (by omega) (by decide)) ?_
    refine st_go rfl ?_
    -- at 25: op_iret
    exact st_iret rfl ⟨by rw [e, nI_clamp (by omega), h3 i g], rfl⟩
theorem dpr3 (c : Cf) (h : MC c M) (z : Int64) : ∀ i, i ≤ cf_np c → df (fun i => (gI M 143 i).toInt64) z (3 * i) = dpr c z i
  | 0, _ => rfl
  | i + 1, hi => by
    obtain ⟨e1, e2, e3⟩ := h.2.2 i (by omega)
    show df (fun i => (gI M 143 i).toInt64) z (3 * i + 1 + 1 + 1) = _
    rw [df, df, df, dpr3 c h z i (by omega), show 3 * i + 1 + 1 = 3 * i + 2 from rfl, e1, e2, e3]
    rfl
theorem m_mixCraft (d : Nat) (ha : aw a) (h : IM a M) (z : Int64) : pm_call (d + 4) 266 [.ref 132] (sL M 132 56 z) none (sL M 132 56 (df (fun k => (kvo (aK a k)).toInt64) (dg ((aP a).map nI) (dcr (aC a) z) (aP a).length) 3)) := by
  refine en_266 (Nat.le_of_ble_eq_true rfl) ?_
  have hM := h.1
  have hw := ha.1
  have hc := h.2.2.2.1
  have hn := hw.1
  have hnp := hw.2.2.2.2.1
  have hx : ∀ y, pm_ok (sL M 132 56 y) := fun y => hM
  have hcx : ∀ y, MC (aC a) (sL M 132 56 y) := fun y => hc
  refine st_ald rfl rfl ?_
  refine st_ald rfl rfl ?_
  refine st_gI rfl (by first | exact tT (hx _) rfl | assumption | exact rw_T (hx _) (by assumption) | exact rw_A (hx _) (by assumption)) ?_
  -- at 5: stop
  refine wp_e hc.1.1 ?_
  refine st_i2l rfl ?_
  refine st_cav (As := [_]) rfl rfl rfl (by first | exact tT (hx _) rfl | assumption | exact rw_T (hx _) (by assumption) | exact rw_A (hx _) (by assumption)) (Nat.le_of_ble_eq_true rfl) (m_mix (d + 2) hM _ _) ?_
  refine st_ald rfl rfl ?_
  refine st_ald rfl rfl ?_
  refine st_gI rfl (by first | exact tT (hx _) rfl | assumption | exact rw_T (hx _) (by assumption) | exact rw_A (hx _) (by assumption)) ?_
  -- at 14: stop
  refine wp_e hc.1.2.1 ?_
  refine st_i2l rfl ?_
  refine st_cav (As := [_]) rfl rfl rfl (by first | exact tT (hx _) rfl | assumption | exact rw_T (hx _) (by assumption) | exact rw_A (hx _) (by assumption)) (Nat.le_of_ble_eq_true rfl) (m_mix (d + 2) hM _ _) ?_
  refine st_k rfl ?_
  refine st_ist rfl ?_
  -- at 20: stop
  refine wp_for (cf_n (aC a)) (fun k L M1 => ∃ x y, x = nI k ∧ L = [some (.ref 132), some (.int x), y] ∧ M1 = sL M 132 56 (dkn (aC a) (31 * (31 * z + (nI (cf_len (aC a))).toInt64) + (nI (cf_gir (aC a))).toInt64) k)) ?_ ?_ 0 _ _ (Nat.zero_le _) ⟨_, _, rfl, rfl, rfl⟩
  · rintro k L M1 hk ⟨x, y, rfl, rfl, rfl⟩ ih
    refine st_ild rfl rfl ?_
    refine st_ald rfl rfl ?_
    refine st_gI rfl (by first | exact tT (hx _) rfl | assumption | exact rw_T (hx _) (by assumption) | exact rw_A (hx _) (by assumption)) ?_
    -- at 25: stop
    refine wp_e hc.1.2.2.1 ?_
    refine st_b2 rfl (fun zq => absurd zq (nI_ge (by omega) (by omega))) (fun _ => ?_)
    refine st_k rfl ?_
    refine st_ist rfl ?_
    -- at 30: stop
    refine wp_for 5 (fun w L M2 => ∃ y, y = nI w ∧ L = [some (.ref 132), some (.int (nI k)), some (.int y)] ∧ M2 = sL M 132 56 (df (fun w => (nI (kf (aC a) k (nI w))).toInt64) (dkn (aC a) (31 * (31 * z + (nI (cf_len (aC a))).toInt64) + (nI (cf_gir (aC a))).toInt64) k) w)) ?_ ?_ 0 _ _ (Nat.zero_le _) ⟨_, rfl, rfl, rfl⟩
    · rintro w L M2 hw5 ⟨y, rfl, rfl, rfl⟩ ih2
      refine st_ild rfl rfl ?_
      refine st_k rfl ?_
      refine st_b2 rfl (fun zq => absurd zq (nI_ge (a := w) (b := 5) (by omega) (by decide))) (fun _ => ?_)
      refine st_ald rfl rfl ?_
      refine st_ald rfl rfl ?_
      refine st_ild rfl rfl ?_
      refine st_ild rfl rfl ?_
      refine st_cav (As := [_, _]) rfl rfl rfl (by first | exact tT (hx _) rfl | assumption | exact rw_T (hx _) (by assumption) | exact rw_A (hx _) (by assumption)) (Nat.le_of_ble_eq_true rfl) (m_knotTells d (hx _) hw (hcx _) hk (nI w)) ?_
      refine st_i2l rfl ?_
      refine st_cav (As := [_]) rfl rfl rfl (by first | exact tT (hx _) rfl | assumption | exact rw_T (hx _) (by assumption) | exact rw_A (hx _) (by assumption)) (Nat.le_of_ble_eq_true rfl) (m_mix (d + 2) hM _ _) ?_
      refine st_inc rfl rfl ?_
      refine st_go rfl ?_
      -- at 30: stop
      exact ih2 _ _ ⟨_, nI_1 w, rfl, rfl⟩
    · rintro L M2 ⟨y, rfl, rfl, rfl⟩
      refine st_ild rfl rfl ?_
      refine st_k rfl ?_
      refine st_b2 rfl (fun _ => ?_) (fun zq => absurd (nI_le (a := 5) (b := 5) (by decide) (by decide)) zq)
      refine st_inc rfl rfl ?_
      refine st_go rfl ?_
      -- at 20: stop
      exact ih _ _ ⟨_, _, nI_1 k, rfl, rfl⟩
  rintro L M1 ⟨x, y, rfl, rfl, rfl⟩
  refine st_ild rfl rfl ?_
  refine st_ald rfl rfl ?_
  refine st_gI rfl (by first | exact tT (hx _) rfl | assumption | exact rw_T (hx _) (by assumption) | exact rw_A (hx _) (by assumption)) ?_
  -- at 25: stop
  refine wp_e hc.1.2.2.1 ?_
  refine st_b2 rfl (fun _ => ?_) (fun zq => absurd (nI_le (by omega) (by omega)) zq)
  refine st_k rfl ?_
  refine st_ist rfl ?_
  -- at 60: stop
  have e3 : 3 * nI (cf_np (aC a)) = nI (3 * cf_np (aC a)) := pk_mul 3 _
  refine wp_for (3 * cf_np (aC a)) (fun i L M1 => ∃ x y, x = nI i ∧ L = [some (.ref 132), some (.int x), y] ∧ M1 = sL M 132 56 (df (fun i => (gI M 143 i).toInt64) (dkn (aC a) (31 * (31 * z + (nI (cf_len (aC a))).toInt64) + (nI (cf_gir (aC a))).toInt64) (cf_n (aC a))) i)) ?_ ?_ 0 _ _ (Nat.zero_le _) ⟨_, _, rfl, rfl, rfl⟩
  · rintro i L M1 hi ⟨x, y, rfl, rfl, rfl⟩ ih
    have hin : vp_in (nI i) 18 := vp_in_nI (by omega) (by decide)
    refine st_ild rfl rfl ?_
    refine st_k rfl ?_
    refine st_ald rfl rfl ?_
    refine st_gI rfl (by first | exact tT (hx _) rfl | assumption | exact rw_T (hx _) (by assumption) | exact rw_A (hx _) (by assumption)) ?_
    -- at 66: stop
    refine wp_e hc.1.2.2.2.2 ?_
    refine st_ib rfl ?_
    -- at 67: stop
    refine wp_e e3 ?_
    refine st_b2 rfl (fun zq => absurd zq (nI_ge (by omega) (by omega))) (fun _ => ?_)
    refine st_ald rfl rfl ?_
    refine st_ald rfl rfl ?_
    refine st_gR' rfl (by first | exact tT (hx _) rfl | assumption | exact rw_T (hx _) (by assumption) | exact rw_A (hx _) (by assumption)) (by first | exact rR (hx _) rfl rfl | assumption | exact rw_R (hx _) (by assumption)) ?_
    refine st_ild rfl rfl ?_
    refine st_iald rfl (by first | exact tT (hx _) rfl | assumption | exact rw_T (hx _) (by assumption) | exact rw_A (hx _) (by assumption)) (by first | decide | assumption | exact vp_in_nI (by omega) (by decide)) ?_
    -- at 77: stop
    refine wp_e (y := gI M 143 i) (by rw [nI_clamp (by omega)]; rfl) ?_
    refine st_i2l rfl ?_
    refine st_cav (As := [_]) rfl rfl rfl (by first | exact tT (hx _) rfl | assumption | exact rw_T (hx _) (by assumption) | exact rw_A (hx _) (by assumption)) (Nat.le_of_ble_eq_true rfl) (m_mix (d + 2) hM _ _) ?_
    refine st_inc rfl rfl ?_
    refine st_go rfl ?_
    -- at 60: stop
    exact ih _ _ ⟨_, _, nI_1 i, rfl, rfl⟩
  rintro L M1 ⟨x, y, rfl, rfl, rfl⟩
  refine st_ild rfl rfl ?_
  refine st_k rfl ?_
  refine st_ald rfl rfl ?_
  refine st_gI rfl (by first | exact tT (hx _) rfl | assumption | exact rw_T (hx _) (by assumption) | exact rw_A (hx _) (by assumption)) ?_
  -- at 66: stop
  refine wp_e hc.1.2.2.2.2 ?_
  refine st_ib rfl ?_
  -- at 67: stop
  refine wp_e e3 ?_
  refine st_b2 rfl (fun _ => ?_) (fun zq => absurd (nI_le (by omega) (by omega)) zq)
  refine st_k rfl ?_
  refine st_ist rfl ?_
  -- at 89: stop
  rw [dpr3 (aC a) hc _ _ (Nat.le_refl _), show dpr (aC a) (dkn (aC a) (31 * (31 * z + (nI (cf_len (aC a))).toInt64) + (nI (cf_gir (aC a))).toInt64) (cf_n (aC a))) (cf_np (aC a)) = dcr (aC a) z from rfl]
  have hp := h.2.2.2.2.1
  have hpl := ha.2.2.1
  refine wp_for (aP a).length (fun i L M1 => ∃ x y, x = nI i ∧ L = [some (.ref 132), some (.int x), y] ∧ M1 = sL M 132 56 (dg ((aP a).map nI) (dcr (aC a) z) i)) ?_ ?_ 0 _ _ (Nat.zero_le _) ⟨_, _, rfl, rfl, rfl⟩
  · rintro i L M1 hi ⟨x, y, rfl, rfl, rfl⟩ ih
    have hin : vp_in (nI i) 20 := vp_in_nI (by omega) (by decide)
    refine st_ild rfl rfl ?_
    refine st_ald rfl rfl ?_
    refine st_gI rfl (by first | exact tT (hx _) rfl | assumption | exact rw_T (hx _) (by assumption) | exact rw_A (hx _) (by assumption)) ?_
    -- at 94: stop
    refine wp_e hp.1 ?_
    refine st_b2 rfl (fun zq => absurd zq (nI_ge (by omega) (by omega))) (fun _ => ?_)
    refine st_ald rfl rfl ?_
    refine st_ald rfl rfl ?_
    refine st_gR' rfl (by first | exact tT (hx _) rfl | assumption | exact rw_T (hx _) (by assumption) | exact rw_A (hx _) (by assumption)) (by first | exact rR (hx _) rfl rfl | assumption | exact rw_R (hx _) (by assumption)) ?_
    refine st_ild rfl rfl ?_
    refine st_iald rfl (by first | exact tT (hx _) rfl | assumption | exact rw_T (hx _) (by assumption) | exact rw_A (hx _) (by assumption)) (by first | decide | assumption | exact vp_in_nI (by omega) (by decide)) ?_
    -- at 104: stop
    refine wp_e (y := ((aP a).map nI).getD i 0) (by rw [nI_clamp (by omega), map_getD hi]; exact hp.2 i hi) ?_
    refine st_i2l rfl ?_
    refine st_cav (As := [_]) rfl rfl rfl (by first | exact tT (hx _) rfl | assumption | exact rw_T (hx _) (by assumption) | exact rw_A (hx _) (by assumption)) (Nat.le_of_ble_eq_true rfl) (m_mix (d + 2) hM _ _) ?_
    refine st_inc rfl rfl ?_
    refine st_go rfl ?_
    -- at 89: stop
    exact ih _ _ ⟨_, _, nI_1 i, rfl, rfl⟩
  rintro L M1 ⟨x, y, rfl, rfl, rfl⟩
  refine st_ild rfl rfl ?_
  refine st_ald rfl rfl ?_
  refine st_gI rfl (by first | exact tT (hx _) rfl | assumption | exact rw_T (hx _) (by assumption) | exact rw_A (hx _) (by assumption)) ?_
  -- at 94: stop
  refine wp_e hp.1 ?_
  refine st_b2 rfl (fun _ => ?_) (fun zq => absurd (nI_le (by omega) (by omega)) zq)
  refine st_k rfl ?_
  refine st_ist rfl ?_
  -- at 116: stop
  refine wp_for 3 (fun i L M1 => ∃ x y, x = nI i ∧ L = [some (.ref 132), some (.int x), y] ∧ M1 = sL M 132 56 (df (fun k => (kvo (aK a k)).toInt64) (dg ((aP a).map nI) (dcr (aC a) z) (aP a).length) i)) ?_ ?_ 0 _ _ (Nat.zero_le _) ⟨_, _, rfl, rfl, rfl⟩
  · rintro i L M1 hi ⟨x, y, rfl, rfl, rfl⟩ ih
    have hin : vp_in (nI i) 3 := vp_in_nI hi (by decide)
    have hk : ∀ y, MKep (sL M 132 56 y) i (aK a i) := fun y => h.2.2.2.2.2.1 i hi
    have hk0 := h.2.2.2.2.2.1 i hi
    have hth := fun y => m_isThere (M := sL M 132 56 y) (d + 2) (hx y) hi (hk y) (fun l n hx => ha.kl i l n hi hx)
    cases hx' : aK a i with
    | none =>
      have hth2 := fun y => (hth y)
      rw [hx'] at hth2
      have ek : (kvo (aK a i)).toInt64 = -1 := by rw [hx']; rfl
      refine st_ild rfl rfl ?_
      refine st_k rfl ?_
      refine st_b2 rfl (fun zq => absurd zq (nI_ge (a := i) (b := 3) (by omega) (by decide))) (fun _ => ?_)
      refine st_ald rfl rfl ?_
      refine st_ald rfl rfl ?_
      refine st_ild rfl rfl ?_
      refine st_cav (As := [_]) rfl rfl rfl (by first | exact tT (hx _) rfl | assumption | exact rw_T (hx _) (by assumption) | exact rw_A (hx _) (by assumption)) (Nat.le_of_ble_eq_true rfl) (hth2 _) ?_
      refine st_b1 rfl (fun _ => ?_) (fun zq => absurd (rfl) zq)
      refine st_k rfl ?_
      -- at 143: stop
      refine st_cav (As := [_]) rfl rfl rfl (by first | exact tT (hx _) rfl | assumption | exact rw_T (hx _) (by assumption) | exact rw_A (hx _) (by assumption)) (Nat.le_of_ble_eq_true rfl) (m_mix (d + 2) hM _ _) ?_
      refine st_inc rfl rfl ?_
      refine st_go rfl ?_
      -- at 116: stop
      exact ih _ _ ⟨_, _, nI_1 i, rfl, by rw [df, ek]⟩
    | some q =>
      have hth2 := fun y => (hth y)
      rw [hx'] at hth2
      rw [hx'] at hk0
      have ek : kvo (aK a i) = nI q.1.length := by rw [hx']; rfl
      refine st_ild rfl rfl ?_
      refine st_k rfl ?_
      refine st_b2 rfl (fun zq => absurd zq (nI_ge (a := i) (b := 3) (by omega) (by decide))) (fun _ => ?_)
      refine st_ald rfl rfl ?_
      refine st_ald rfl rfl ?_
      refine st_ild rfl rfl ?_
      refine st_cav (As := [_]) rfl rfl rfl (by first | exact tT (hx _) rfl | assumption | exact rw_T (hx _) (by assumption) | exact rw_A (hx _) (by assumption)) (Nat.le_of_ble_eq_true rfl) (hth2 _) ?_
      refine st_b1 rfl (fun zq => absurd zq (b01_t rfl)) (fun _ => ?_)
      refine st_ald rfl rfl ?_
      refine st_gR' rfl (by first | exact tT (hx _) rfl | assumption | exact rw_T (hx _) (by assumption) | exact rw_A (hx _) (by assumption)) (by first | exact rR (hx _) rfl rfl | assumption | exact rw_R (hx _) (by assumption)) ?_
      refine st_ild rfl rfl ?_
      refine st_iald rfl (by first | exact tT (hx _) rfl | assumption | exact rw_T (hx _) (by assumption) | exact rw_A (hx _) (by assumption)) (by first | decide | assumption | exact vp_in_nI (by omega) (by decide)) ?_
      -- at 136: stop
      refine wp_e (y := nI q.1.length) (by rw [nI_clamp (by omega)]; exact hk0.2.1) ?_
      refine st_i2l rfl ?_
      refine st_go rfl ?_
      refine st_cav (As := [_]) rfl rfl rfl (by first | exact tT (hx _) rfl | assumption | exact rw_T (hx _) (by assumption) | exact rw_A (hx _) (by assumption)) (Nat.le_of_ble_eq_true rfl) (m_mix (d + 2) hM _ _) ?_
      refine st_inc rfl rfl ?_
      refine st_go rfl ?_
      -- at 116: stop
      exact ih _ _ ⟨_, _, nI_1 i, rfl, by rw [df, ek]⟩
  rintro L M1 ⟨x, y, rfl, rfl, rfl⟩
  refine st_ild rfl rfl ?_
  refine st_k rfl ?_
  refine st_b2 rfl (fun _ => ?_) (fun zq => absurd (nI_le (a := 3) (b := 3) (by decide) (by decide)) zq)
  -- at 152: op_vret
  exact st_vret rfl ⟨rfl, rfl⟩
theorem m_digest (d : Nat) (ha : aw a) (h : IM a M) : pm_call (d + 5) 267 [.ref 132] M (some (.long (dgs a))) (sL M 132 56 (dgs a)) := by
  refine en_267 (Nat.le_of_ble_eq_true rfl) ?_
  have hM := h.1
  have hx : ∀ y, pm_ok (sL M 132 56 y) := fun y => hM
  have hsc : ∀ y, Msc M (sL M 132 56 y) := fun y => (Msc.rf M).sL y (by omega)
  refine st_ald rfl rfl ?_
  refine st_k rfl ?_
  refine st_pL rfl (by first | exact tT hM rfl | assumption | exact rw_T hM (by assumption) | exact rw_A hM (by assumption)) ?_
  refine st_k rfl ?_
  refine st_ist rfl ?_
  -- at 9: stop
  refine wp_for 9 (fun i L M1 => ∃ x y, x = nI i ∧ L = [some (.ref 132), some (.int x), y] ∧ M1 = sL M 132 56 (df (fun w => (nI (cv a w)).toInt64) 17 i)) ?_ ?_ 0 _ _ (Nat.zero_le _) ⟨_, _, rfl, rfl, rfl⟩
  · rintro i L M1 hi ⟨x, y, rfl, rfl, rfl⟩ ih
    refine st_ild rfl rfl ?_
    refine st_k rfl ?_
    refine st_b2 rfl (fun zq => absurd zq (nI_ge (a := i) (b := 9) (by omega) (by decide))) (fun _ => ?_)
    refine st_ald rfl rfl ?_
    refine st_ald rfl rfl ?_
    refine st_ild rfl rfl ?_
    refine st_cav (As := [_]) rfl rfl rfl (by first | exact tT (hx _) rfl | assumption | exact rw_T (hx _) (by assumption) | exact rw_A (hx _) (by assumption)) (Nat.le_of_ble_eq_true rfl) (m_counted (d + 2) ha (h.sc (hsc _)) (w := i) (by omega)) ?_
    refine st_i2l rfl ?_
    refine st_cav (As := [_]) rfl rfl rfl (by first | exact tT (hx _) rfl | assumption | exact rw_T (hx _) (by assumption) | exact rw_A (hx _) (by assumption)) (Nat.le_of_ble_eq_true rfl) (m_mix (d + 3) hM _ _) ?_
    refine st_inc rfl rfl ?_
    refine st_go rfl ?_
    -- at 9: stop
    exact ih _ _ ⟨_, _, nI_1 i, rfl, rfl⟩
  rintro L M1 ⟨x, y, rfl, rfl, rfl⟩
  refine st_ild rfl rfl ?_
  refine st_k rfl ?_
  refine st_b2 rfl (fun _ => ?_) (fun zq => absurd (nI_le (a := 9) (b := 9) (by decide) (by decide)) zq)
  refine st_ald rfl rfl ?_
  refine st_cav (As := []) rfl rfl rfl (by first | exact tT (hx _) rfl | assumption | exact rw_T (hx _) (by assumption) | exact rw_A (hx _) (by assumption)) (Nat.le_of_ble_eq_true rfl) (m_mixCraft d ha h _) ?_
  refine st_k rfl ?_
  refine st_ist rfl ?_
  -- at 37: stop
  refine wp_for 6 (fun i L M1 => ∃ x y, x = nI i ∧ L = [some (.ref 132), some (.int x), y] ∧ M1 = sL M 132 56 (dr (aR a) (df (fun k => (kvo (aK a k)).toInt64) (dg ((aP a).map nI) (dcr (aC a) (df (fun w => (nI (cv a w)).toInt64) 17 9)) (aP a).length) 3) i)) ?_ ?_ 0 _ _ (Nat.zero_le _) ⟨_, _, rfl, rfl, rfl⟩
  · rintro i L M1 hi ⟨x, y, rfl, rfl, rfl⟩ ih
    have hin : vp_in (nI i) 6 := vp_in_nI hi (by decide)
    have e4 : (nI i).toNatClampNeg = i := nI_clamp (by omega)
    have hr := h.2.1 i hi
    refine st_ild rfl rfl ?_
    refine st_k rfl ?_
    refine st_b2 rfl (fun zq => absurd zq (nI_ge (a := i) (b := 6) (by omega) (by decide))) (fun _ => ?_)
    refine st_ald rfl rfl ?_
    refine st_ald rfl rfl ?_
    refine st_gR' rfl (by first | exact tT (hx _) rfl | assumption | exact rw_T (hx _) (by assumption) | exact rw_A (hx _) (by assumption)) (by first | exact rR (hx _) rfl rfl | assumption | exact rw_R (hx _) (by assumption)) ?_
    refine st_ild rfl rfl ?_
    refine st_iald rfl (by first | exact tT (hx _) rfl | assumption | exact rw_T (hx _) (by assumption) | exact rw_A (hx _) (by assumption)) (by first | decide | assumption | exact vp_in_nI (by omega) (by decide)) ?_
    -- at 50: stop
    cases hx' : aR a i with
    | none =>
      rw [hx'] at hr
      have e1 : gI M 134 i = -1 := hr
      refine wp_e (y := -1) (by rw [e4]; exact e1) ?_
      refine st_i2l rfl ?_
      refine st_cav (As := [_]) rfl rfl rfl (by first | exact tT (hx _) rfl | assumption | exact rw_T (hx _) (by assumption) | exact rw_A (hx _) (by assumption)) (Nat.le_of_ble_eq_true rfl) (m_mix (d + 3) hM _ _) ?_
      refine st_k rfl ?_
      refine st_ist rfl ?_
      -- at 56: stop
      refine st_ild rfl rfl ?_
      refine st_ald rfl rfl ?_
      refine st_gR' rfl (by first | exact tT (hx _) rfl | assumption | exact rw_T (hx _) (by assumption) | exact rw_A (hx _) (by assumption)) (by first | exact rR (hx _) rfl rfl | assumption | exact rw_R (hx _) (by assumption)) ?_
      refine st_ild rfl rfl ?_
      refine st_iald rfl (by first | exact tT (hx _) rfl | assumption | exact rw_T (hx _) (by assumption) | exact rw_A (hx _) (by assumption)) (by first | decide | assumption | exact vp_in_nI (by omega) (by decide)) ?_
      -- at 63: stop
      refine wp_e (y := -1) (by rw [e4]; exact e1) ?_
      refine st_b2 rfl (fun _ => ?_) (fun zq => absurd ((by decide)) zq)
      refine st_inc rfl rfl ?_
      refine st_go rfl ?_
      -- at 37: stop
      exact ih _ _ ⟨_, _, nI_1 i, rfl, by rw [dr, hx']; rfl⟩
    | some l =>
      rw [hx'] at hr
      obtain ⟨e1, e2, e3⟩ := hr
      refine wp_e (y := nI l.length) (by rw [e4]; exact e1) ?_
      refine st_i2l rfl ?_
      refine st_cav (As := [_]) rfl rfl rfl (by first | exact tT (hx _) rfl | assumption | exact rw_T (hx _) (by assumption) | exact rw_A (hx _) (by assumption)) (Nat.le_of_ble_eq_true rfl) (m_mix (d + 3) hM _ _) ?_
      refine st_k rfl ?_
      refine st_ist rfl ?_
      -- at 56: stop
      refine wp_for l.length (fun t L M1 => ∃ x, x = nI t ∧ L = [some (.ref 132), some (.int (nI i)), some (.int x)] ∧ M1 = sL M 132 56 (dg l (31 * dr (aR a) (df (fun k => (kvo (aK a k)).toInt64) (dg ((aP a).map nI) (dcr (aC a) (df (fun w => (nI (cv a w)).toInt64) 17 9)) (aP a).length) 3) i + (nI l.length).toInt64) t)) ?_ ?_ 0 _ _ (Nat.zero_le _) ⟨_, rfl, rfl, rfl⟩
      · rintro t L M1 ht ⟨x, rfl, rfl, rfl⟩ ih2
        have hra := fun y => m_rowAt (M := sL M 132 56 y) (d + 3) (hx y) hi (i := t) (by omega)
        refine st_ild rfl rfl ?_
        refine st_ald rfl rfl ?_
        refine st_gR' rfl (by first | exact tT (hx _) rfl | assumption | exact rw_T (hx _) (by assumption) | exact rw_A (hx _) (by assumption)) (by first | exact rR (hx _) rfl rfl | assumption | exact rw_R (hx _) (by assumption)) ?_
        refine st_ild rfl rfl ?_
        refine st_iald rfl (by first | exact tT (hx _) rfl | assumption | exact rw_T (hx _) (by assumption) | exact rw_A (hx _) (by assumption)) (by first | decide | assumption | exact vp_in_nI (by omega) (by decide)) ?_
        -- at 63: stop
        refine wp_e (y := nI l.length) (by rw [e4]; exact e1) ?_
        refine st_b2 rfl (fun zq => absurd zq (nI_ge (by omega) (by omega))) (fun _ => ?_)
        refine st_ald rfl rfl ?_
        refine st_ald rfl rfl ?_
        refine st_ild rfl rfl ?_
        refine st_ild rfl rfl ?_
        refine st_cav (As := [_, _]) rfl rfl rfl (by first | exact tT (hx _) rfl | assumption | exact rw_T (hx _) (by assumption) | exact rw_A (hx _) (by assumption)) (Nat.le_of_ble_eq_true rfl) (hra _) ?_
        -- at 73: stop
        refine wp_e (y := l.getD t 0) (e3 t ht) ?_
        refine st_i2l rfl ?_
        refine st_cav (As := [_]) rfl rfl rfl (by first | exact tT (hx _) rfl | assumption | exact rw_T (hx _) (by assumption) | exact rw_A (hx _) (by assumption)) (Nat.le_of_ble_eq_true rfl) (m_mix (d + 3) hM _ _) ?_
        refine st_inc rfl rfl ?_
        refine st_go rfl ?_
        -- at 56: stop
        exact ih2 _ _ ⟨_, nI_1 t, rfl, rfl⟩
      · rintro L M1 ⟨x, rfl, rfl, rfl⟩
        refine st_ild rfl rfl ?_
        refine st_ald rfl rfl ?_
        refine st_gR' rfl (by first | exact tT (hx _) rfl | assumption | exact rw_T (hx _) (by assumption) | exact rw_A (hx _) (by assumption)) (by first | exact rR (hx _) rfl rfl | assumption | exact rw_R (hx _) (by assumption)) ?_
        refine st_ild rfl rfl ?_
        refine st_iald rfl (by first | exact tT (hx _) rfl | assumption | exact rw_T (hx _) (by assumption) | exact rw_A (hx _) (by assumption)) (by first | decide | assumption | exact vp_in_nI (by omega) (by decide)) ?_
        -- at 63: stop
        refine wp_e (y := nI l.length) (by rw [e4]; exact e1) ?_
        refine st_b2 rfl (fun _ => ?_) (fun zq => absurd (nI_le (by omega) (by omega)) zq)
        refine st_inc rfl rfl ?_
        refine st_go rfl ?_
        -- at 37: stop
        exact ih _ _ ⟨_, _, nI_1 i, rfl, by rw [dr, hx']; rfl⟩
  rintro L M1 ⟨x, y, rfl, rfl, rfl⟩
  refine st_ild rfl rfl ?_
  refine st_k rfl ?_
  refine st_b2 rfl (fun _ => ?_) (fun zq => absurd (nI_le (a := 6) (b := 6) (by decide) (by decide)) zq)
  refine st_k rfl ?_
  refine st_ist rfl ?_
  -- at 91: stop
  refine wp_for 4 (fun i L M1 => ∃ x y, x = nI i ∧ L = [some (.ref 132), some (.int x), y] ∧ M1 = sL M 132 56 (dr (aT a) (dr (aR a) (df (fun k => (kvo (aK a k)).toInt64) (dg ((aP a).map nI) (dcr (aC a) (df (fun w => (nI (cv a w)).toInt64) 17 9)) (aP a).length) 3) 6) i)) ?_ ?_ 0 _ _ (Nat.zero_le _) ⟨_, _, rfl, rfl, rfl⟩
  · rintro i L M1 hi ⟨x, y, rfl, rfl, rfl⟩ ih
    have hin : vp_in (nI i) 4 := vp_in_nI hi (by decide)
    have e4 : (nI i).toNatClampNeg = i := nI_clamp (by omega)
    have hr := h.2.2.1 i hi
    refine st_ild rfl rfl ?_
    refine st_k rfl ?_
    refine st_b2 rfl (fun zq => absurd zq (nI_ge (a := i) (b := 4) (by omega) (by decide))) (fun _ => ?_)
    refine st_ald rfl rfl ?_
    refine st_ald rfl rfl ?_
    refine st_gR' rfl (by first | exact tT (hx _) rfl | assumption | exact rw_T (hx _) (by assumption) | exact rw_A (hx _) (by assumption)) (by first | exact rR (hx _) rfl rfl | assumption | exact rw_R (hx _) (by assumption)) ?_
    refine st_ild rfl rfl ?_
    refine st_iald rfl (by first | exact tT (hx _) rfl | assumption | exact rw_T (hx _) (by assumption) | exact rw_A (hx _) (by assumption)) (by first | decide | assumption | exact vp_in_nI (by omega) (by decide)) ?_
    -- at 103: stop
    cases hx' : aT a i with
    | none =>
      rw [hx'] at hr
      have e1 : gI M 137 i = -1 := hr
      refine wp_e (y := -1) (by rw [e4]; exact e1) ?_
      refine st_i2l rfl ?_
      refine st_cav (As := [_]) rfl rfl rfl (by first | exact tT (hx _) rfl | assumption | exact rw_T (hx _) (by assumption) | exact rw_A (hx _) (by assumption)) (Nat.le_of_ble_eq_true rfl) (m_mix (d + 3) hM _ _) ?_
      refine st_k rfl ?_
      refine st_ist rfl ?_
      -- at 109: stop
      refine st_ild rfl rfl ?_
      refine st_ald rfl rfl ?_
      refine st_gR' rfl (by first | exact tT (hx _) rfl | assumption | exact rw_T (hx _) (by assumption) | exact rw_A (hx _) (by assumption)) (by first | exact rR (hx _) rfl rfl | assumption | exact rw_R (hx _) (by assumption)) ?_
      refine st_ild rfl rfl ?_
      refine st_iald rfl (by first | exact tT (hx _) rfl | assumption | exact rw_T (hx _) (by assumption) | exact rw_A (hx _) (by assumption)) (by first | decide | assumption | exact vp_in_nI (by omega) (by decide)) ?_
      -- at 116: stop
      refine wp_e (y := -1) (by rw [e4]; exact e1) ?_
      refine st_b2 rfl (fun _ => ?_) (fun zq => absurd ((by decide)) zq)
      refine st_inc rfl rfl ?_
      refine st_go rfl ?_
      -- at 91: stop
      exact ih _ _ ⟨_, _, nI_1 i, rfl, by rw [dr_s (aT a), hx']; rfl⟩
    | some l =>
      rw [hx'] at hr
      have hr0 := hr
      obtain ⟨e1, e2, e3⟩ := hr
      refine wp_e (y := nI l.length) (by rw [e4]; exact e1) ?_
      refine st_i2l rfl ?_
      refine st_cav (As := [_]) rfl rfl rfl (by first | exact tT (hx _) rfl | assumption | exact rw_T (hx _) (by assumption) | exact rw_A (hx _) (by assumption)) (Nat.le_of_ble_eq_true rfl) (m_mix (d + 3) hM _ _) ?_
      refine st_k rfl ?_
      refine st_ist rfl ?_
      -- at 109: stop
      refine wp_for l.length (fun t L M1 => ∃ x, x = nI t ∧ L = [some (.ref 132), some (.int (nI i)), some (.int x)] ∧ M1 = sL M 132 56 (dg l (31 * dr (aT a) (dr (aR a) (df (fun k => (kvo (aK a k)).toInt64) (dg ((aP a).map nI) (dcr (aC a) (df (fun w => (nI (cv a w)).toInt64) 17 9)) (aP a).length) 3) 6) i + (nI l.length).toInt64) t)) ?_ ?_ 0 _ _ (Nat.zero_le _) ⟨_, rfl, rfl, rfl⟩
      · rintro t L M1 ht ⟨x, rfl, rfl, rfl⟩ ih2
        have hra := fun y => m_byteAt (M := sL M 132 56 y) (d + 3) (hx y) hi (l := l) hr0 (i := t) (by omega)
        refine st_ild rfl rfl ?_
        refine st_ald rfl rfl ?_
        refine st_gR' rfl (by first | exact tT (hx _) rfl | assumption | exact rw_T (hx _) (by assumption) | exact rw_A (hx _) (by assumption)) (by first | exact rR (hx _) rfl rfl | assumption | exact rw_R (hx _) (by assumption)) ?_
        refine st_ild rfl rfl ?_
        refine st_iald rfl (by first | exact tT (hx _) rfl | assumption | exact rw_T (hx _) (by assumption) | exact rw_A (hx _) (by assumption)) (by first | decide | assumption | exact vp_in_nI (by omega) (by decide)) ?_
        -- at 116: stop
        refine wp_e (y := nI l.length) (by rw [e4]; exact e1) ?_
        refine st_b2 rfl (fun zq => absurd zq (nI_ge (by omega) (by omega))) (fun _ => ?_)
        refine st_ald rfl rfl ?_
        refine st_ald rfl rfl ?_
        refine st_ild rfl rfl ?_
        refine st_ild rfl rfl ?_
        refine st_cav (As := [_, _]) rfl rfl rfl (by first | exact tT (hx _) rfl | assumption | exact rw_T (hx _) (by assumption) | exact rw_A (hx _) (by assumption)) (Nat.le_of_ble_eq_true rfl) (hra _) ?_
        refine st_i2l rfl ?_
        refine st_cav (As := [_]) rfl rfl rfl (by first | exact tT (hx _) rfl | assumption | exact rw_T (hx _) (by assumption) | exact rw_A (hx _) (by assumption)) (Nat.le_of_ble_eq_true rfl) (m_mix (d + 3) hM _ _) ?_
        refine st_inc rfl rfl ?_
        refine st_go rfl ?_
        -- at 109: stop
        exact ih2 _ _ ⟨_, nI_1 t, rfl, rfl⟩
      · rintro L M1 ⟨x, rfl, rfl, rfl⟩
        refine st_ild rfl rfl ?_
        refine st_ald rfl rfl ?_
        refine st_gR' rfl (by first | exact tT (hx _) rfl | assumption | exact rw_T (hx _) (by assumption) | exact rw_A (hx _) (by assumption)) (by first | exact rR (hx _) rfl rfl | assumption | exact rw_R (hx _) (by assumption)) ?_
        refine st_ild rfl rfl ?_
        refine st_iald rfl (by first | exact tT (hx _) rfl | assumption | exact rw_T (hx _) (by assumption) | exact rw_A (hx _) (by assumption)) (by first | decide | assumption | exact vp_in_nI (by omega) (by decide)) ?_
        -- at 116: stop
        refine wp_e (y := nI l.length) (by rw [e4]; exact e1) ?_
        refine st_b2 rfl (fun _ => ?_) (fun zq => absurd (nI_le (by omega) (by omega)) zq)
        refine st_inc rfl rfl ?_
        refine st_go rfl ?_
        -- at 91: stop
        exact ih _ _ ⟨_, _, nI_1 i, rfl, by rw [dr_s (aT a), hx']; rfl⟩
  rintro L M1 ⟨x, y, rfl, rfl, rfl⟩
  refine st_ild rfl rfl ?_
  refine st_k rfl ?_
  refine st_b2 rfl (fun _ => ?_) (fun zq => absurd (nI_le (a := 4) (b := 4) (by decide) (by decide)) zq)
  refine st_ald rfl rfl ?_
  refine st_gL rfl (by first | exact tT (hx _) rfl | assumption | exact rw_T (hx _) (by assumption) | exact rw_A (hx _) (by assumption)) ?_
  -- at 146: stop
  refine wp_el (y := dgs a) (by rw [gL_sL, if_pos ⟨rfl, rfl⟩]; rfl) ?_
  exact st_lret rfl ⟨rfl, rfl⟩
theorem b_digest (ha : aw a) : Both a 135 267 [] := ⟨.long (dgs a), a, ha, fun d M h => ⟨M, c_digest (d + 15) ha h, h, Cfr.rf M⟩, fun d M h => ⟨_, m_digest (d + 15) ha h, h.sc ((Msc.rf M).sL _ (by omega)), (Mfr.rf M).sL (by decide) _ _⟩⟩
end DIG

/-! THE CLASS Row: what is asked of one -/
theorem c_hasStretch (d : Nat) {M : pm_M} {o : Nat} {l : List Int32} (hM : pm_ok M) (ho : pm_rw o = true) (h : pm_Ro M o l) (i n : Int32) :
    pm_call (d + 1) 52 [.ref o, .int i, .int n] M (some (.int (if ¬ i < 0 ∧ ¬ nI l.length < i ∧ ¬ nI l.length - i < n then 1 else 0))) M := by
  refine en_52 (Nat.le_of_ble_eq_true rfl) ?_
  have e := h.1
  have no : ∀ P : Prop, ¬ P → ∀ (_ : Decidable P), pm_WP (pm_call d) tb_52 (fun r0 M1 => r0 = some (.int (if P then 1 else 0)) ∧ M1 = M) 26 (pm_init 3 [.ref o, .int i, .int n]) [] M := by
    intro P hP _
    refine st_k rfl ?_
    -- at 27: op_zret
    exact st_zret rfl (by decide) ⟨by rw [if_neg hP], rfl⟩
  refine st_ild rfl rfl ?_
  refine st_b1 rfl (fun h1 => ?_) (fun h1 => ?_)
  -- at 1: split 26 4
  · exact no _ (fun q => q.1 h1) _
  · refine st_ild rfl rfl ?_
    refine st_ald rfl rfl ?_
    refine st_gI rfl (by first | exact tT hM rfl | assumption | exact rw_T hM (by assumption) | exact rw_A hM (by assumption)) ?_
    -- at 9: op_b2 (fun x y => y < x) 26 12
    refine wp_e e ?_
    refine st_b2 rfl (fun h2 => ?_) (fun h2 => ?_)
    · exact no _ (fun q => q.2.1 h2) _
    · refine st_ild rfl rfl ?_
      refine st_ald rfl rfl ?_
      refine st_gI rfl (by first | exact tT hM rfl | assumption | exact rw_T hM (by assumption) | exact rw_A hM (by assumption)) ?_
      -- at 17: stop
      refine wp_e e ?_
      refine st_ild rfl rfl ?_
      refine st_ib rfl ?_
      refine st_b2 rfl (fun h3 => ?_) (fun h3 => ?_)
      -- at 19: split 26 22
      · exact no _ (fun q => q.2.2 h3) _
      · refine st_k rfl ?_
        refine st_go rfl ?_
        -- at 27: op_zret
        exact st_zret rfl (by decide) ⟨by rw [if_pos ⟨h1, h2, h3⟩], rfl⟩
/-- all places from 0 up to an end (not itself) -/
def ib (l : List Int32) (e : Int32) : Prop := ∀ i, i < l.length → ¬ l.getD i 0 < 0 ∧ l.getD i 0 < e
theorem c_isBelow (d : Nat) {M : pm_M} {o : Nat} {l : List Int32} {e : Int32} (hM : pm_ok M) (ho : pm_rw o = true) (h : pm_Ro M o l) :
    ∃ b : Int32, pm_call (d + 1) 53 [.ref o, .int e] M (some (.int b)) M ∧ ((b = 1 ∧ ib l e) ∨ (b = 0 ∧ ¬ ib l e)) := by
  have hl := h.2.1
  have loop : ∀ n i x, x = nI i → i + n = l.length → (∀ t, t < i → ¬ l.getD t 0 < 0 ∧ l.getD t 0 < e) → pm_WP (pm_call d) tb_53 (fun r M' => M' = M ∧ ∃ b : Int32, r = some (.int b) ∧ ((b = 1 ∧ ib l e) ∨ (b = 0 ∧ ¬ ib l e))) 2 [some (.ref o), some (.int e), some (.int x)] [] M := by
    intro n
    induction n with
    | zero =>
      intro i x hx hi ha
      subst hx
      have q : gI M o 1 ≤ nI i := by rw [h.1]; exact nI_le (by omega) (by omega)
      refine st_ild rfl rfl ?_
      refine st_ald rfl rfl ?_
      refine st_gI rfl (by first | exact tT hM rfl | assumption | exact rw_T hM (by assumption) | exact rw_A hM (by assumption)) ?_
      refine st_b2 rfl (fun _ => ?_) (fun zq => absurd (q) zq)
      refine st_k rfl ?_
      -- at 38: op_zret
      exact st_zret rfl (by decide) ⟨rfl, 1, rfl, Or.inl ⟨rfl, fun t ht => ha t (by omega)⟩⟩
    | succ n ih =>
      intro i x hx hi ha
      subst hx
      have q : ¬ gI M o 1 ≤ nI i := by rw [h.1]; exact nI_ge (by omega) (by omega)
      have hin : vp_in (nI i) 40 := ro_in h (by omega)
      have hat := ro_at h (show i < l.length by omega)
      refine st_ild rfl rfl ?_
      refine st_ald rfl rfl ?_
      refine st_gI rfl (by first | exact tT hM rfl | assumption | exact rw_T hM (by assumption) | exact rw_A hM (by assumption)) ?_
      refine st_b2 rfl (fun zq => absurd zq (q)) (fun _ => ?_)
      refine st_ald rfl rfl ?_
      refine st_gR' rfl (by first | exact tT hM rfl | assumption | exact rw_T hM (by assumption) | exact rw_A hM (by assumption)) (by first | exact rR hM rfl rfl | assumption | exact rw_R hM (by assumption)) ?_
      refine st_ild rfl rfl ?_
      refine st_iald rfl (by first | exact tT hM rfl | assumption | exact rw_T hM (by assumption) | exact rw_A hM (by assumption)) (by first | decide | assumption | exact vp_in_nI (by omega) (by decide)) ?_
      -- at 16: op_b1 (fun x => x < 0) 29 19
      refine wp_e hat ?_
      refine st_b1 rfl (fun h1 => ?_) (fun h1 => ?_)
      · refine st_k rfl ?_
        -- at 30: op_zret
        exact st_zret rfl (by decide) ⟨rfl, 0, rfl, Or.inr ⟨rfl, fun z => (z i (by omega)).1 h1⟩⟩
      · refine st_ald rfl rfl ?_
        refine st_gR' rfl (by first | exact tT hM rfl | assumption | exact rw_T hM (by assumption) | exact rw_A hM (by assumption)) (by first | exact rR hM rfl rfl | assumption | exact rw_R hM (by assumption)) ?_
        refine st_ild rfl rfl ?_
        refine st_iald rfl (by first | exact tT hM rfl | assumption | exact rw_T hM (by assumption) | exact rw_A hM (by assumption)) (by first | decide | assumption | exact vp_in_nI (by omega) (by decide)) ?_
        -- at 25: stop
        refine wp_e hat ?_
        refine st_ild rfl rfl ?_
        refine st_b2 rfl (fun h2 => ?_) (fun h2 => ?_)
        -- at 26: split 31 29
        · refine st_inc rfl rfl ?_
          refine st_go rfl ?_
          -- at 2: stop
          exact ih (i + 1) _ (nI_1 i) (by omega) (fun t ht => by
            by_cases z : t = i
            · subst z; exact ⟨h1, h2⟩
            · exact ha t (by omega))
        · refine st_k rfl ?_
          -- at 30: op_zret
          exact st_zret rfl (by decide) ⟨rfl, 0, rfl, Or.inr ⟨rfl, fun z => h2 (z i (by omega)).2⟩⟩
  obtain ⟨r, M', hc, hM', b, hr, hb⟩ := eq_53 (d := d) (A := [.ref o, .int e]) (M := M) (Q := fun r M' => M' = M ∧ ∃ b : Int32, r = some (.int b) ∧ ((b = 1 ∧ ib l e) ∨ (b = 0 ∧ ¬ ib l e))) (Nat.le_of_ble_eq_true rfl) (by
    refine st_k rfl ?_
    refine st_ist rfl ?_
    -- at 2: stop
    exact loop l.length 0 0 rfl (by omega) (fun t ht => by omega))
  subst hM'; subst hr
  exact ⟨b, hc, hb⟩
theorem list_ext {l k : List Int32} (hn : l.length = k.length) (h : ∀ i, i < l.length → l.getD i 0 = k.getD i 0) : l = k := by
  apply List.ext_getElem hn
  intro i h1 h2
  have := h i h1
  simpa [List.getD_eq_getElem?_getD, List.getElem?_eq_getElem h1, List.getElem?_eq_getElem h2] using this
theorem c_isLike (d : Nat) {M : pm_M} {o p : Nat} {l k : List Int32} (hM : pm_ok M) (ho : pm_rw o = true) (hp : pm_rw p = true) (h : pm_Ro M o l) (g : pm_Ro M p k) :
    pm_call (d + 1) 54 [.ref o, .ref p] M (some (.int (if l = k then 1 else 0))) M := by
  have hl := h.2.1
  have hk := g.2.1
  refine en_54 (Nat.le_of_ble_eq_true rfl) ?_
  have loop : ∀ n i x, x = nI i → i + n = l.length → l.length = k.length → (∀ t, t < i → l.getD t 0 = k.getD t 0) → pm_WP (pm_call d) tb_54 (fun r0 M1 => r0 = some (.int (if l = k then 1 else 0)) ∧ M1 = M) 15 [some (.ref o), some (.ref p), some (.int x)] [] M := by
    intro n
    induction n with
    | zero =>
      intro i x hx hi hn ha
      subst hx
      have q : gI M o 1 ≤ nI i := by rw [h.1]; exact nI_le (by omega) (by omega)
      refine st_ild rfl rfl ?_
      refine st_ald rfl rfl ?_
      refine st_gI rfl (rw_T hM ho) ?_
      refine st_b2 rfl (fun _ => ?_) (fun zq => absurd (q) zq)
      refine st_k rfl ?_
      -- at 47: op_zret
      exact st_zret rfl (by decide) ⟨by rw [if_pos (list_ext hn (fun t ht => ha t (by omega)))], rfl⟩
    | succ n ih =>
      intro i x hx hi hn ha
      subst hx
      have q : ¬ gI M o 1 ≤ nI i := by rw [h.1]; exact nI_ge (by omega) (by omega)
      have hin : vp_in (nI i) 40 := ro_in h (by omega)
      refine st_ild rfl rfl ?_
      refine st_ald rfl rfl ?_
      refine st_gI rfl (rw_T hM ho) ?_
      refine st_b2 rfl (fun zq => absurd zq (q)) (fun _ => ?_)
      refine st_ald rfl rfl ?_
      refine st_gR' rfl (rw_T hM ho) (rw_R hM ho) ?_
      refine st_ild rfl rfl ?_
      refine st_iald rfl (rw_A hM ho) (hin) ?_
      -- at 29: stop
      refine wp_e (ro_at h (show i < l.length by omega)) ?_
      refine st_ald rfl rfl ?_
      refine st_gR' rfl (rw_T hM hp) (rw_R hM hp) ?_
      refine st_ild rfl rfl ?_
      refine st_iald rfl (rw_A hM hp) (hin) ?_
      -- at 35: op_b2 (fun x y => x = y) 40 38
      refine wp_e (ro_at g (show i < k.length by omega)) ?_
      refine st_b2 rfl (fun h1 => ?_) (fun h1 => ?_)
      · refine st_inc rfl rfl ?_
        refine st_go rfl ?_
        -- at 15: stop
        exact ih (i + 1) _ (nI_1 i) (by omega) hn (fun t ht => by
          by_cases z : t = i
          · subst z; exact h1
          · exact ha t (by omega))
      · refine st_k rfl ?_
        -- at 39: op_zret
        exact st_zret rfl (by decide) ⟨by rw [if_neg (fun z => h1 (by rw [z]))], rfl⟩
  refine st_ald rfl rfl ?_
  refine st_gI rfl (rw_T hM ho) ?_
  refine st_ald rfl rfl ?_
  refine st_gI rfl (rw_T hM hp) ?_
  refine st_b2 rfl (fun h1 => ?_) (fun h1 => ?_)
  -- at 8: split 13 11
  · rw [h.1, g.1] at h1
    have hn : l.length = k.length := (nI_eq (by omega) (by omega)).mp h1
    refine st_k rfl ?_
    refine st_ist rfl ?_
    -- at 15: stop
    exact loop l.length 0 0 rfl (by omega) hn (fun t ht => by omega)
  · rw [h.1, g.1] at h1
    refine st_k rfl ?_
    -- at 12: op_zret
    exact st_zret rfl (by decide) ⟨by rw [if_neg (fun z => h1 (by rw [z]))], rfl⟩
/-- how many places hold v, of the first i -/
def hm (l : List Int32) (v : Int32) : Nat → Nat
  | 0 => 0
  | i + 1 => hm l v i + if l.getD i 0 = v then 1 else 0
theorem hm_s (l : List Int32) (v : Int32) (i : Nat) : hm l v (i + 1) = hm l v i + if l.getD i 0 = v then 1 else 0 := rfl
theorem hm_le (l : List Int32) (v : Int32) : ∀ i, hm l v i ≤ i
  | 0 => Nat.le_refl _
  | i + 1 => by
    have := hm_le l v i
    unfold hm
    split <;> omega
theorem c_howMany (d : Nat) {M : pm_M} {o : Nat} {l : List Int32} (hM : pm_ok M) (ho : pm_rw o = true) (h : pm_Ro M o l) (v : Int32) :
    pm_call (d + 1) 55 [.ref o, .int v] M (some (.int (nI (hm l v l.length)))) M := by
  have hl := h.2.1
  refine en_55 (Nat.le_of_ble_eq_true rfl) ?_
  have loop : ∀ n i x y, x = nI i → y = nI (hm l v i) → i + n = l.length → pm_WP (pm_call d) tb_55 (fun r0 M1 => r0 = some (.int (nI (hm l v l.length))) ∧ M1 = M) 4 [some (.ref o), some (.int v), some (.int y), some (.int x)] [] M := by
    intro n
    induction n with
    | zero =>
      intro i x y hx hy hi
      subst hx; subst hy
      have q : gI M o 1 ≤ nI i := by rw [h.1]; exact nI_le (by omega) (by omega)
      refine st_ild rfl rfl ?_
      refine st_ald rfl rfl ?_
      refine st_gI rfl (by first | exact tT hM rfl | assumption | exact rw_T hM (by assumption) | exact rw_A hM (by assumption)) ?_
      refine st_b2 rfl (fun _ => ?_) (fun zq => absurd (q) zq)
      refine st_ild rfl rfl ?_
      -- at 37: op_iret
      exact st_iret rfl ⟨by rw [show i = l.length by omega], rfl⟩
    | succ n ih =>
      intro i x y hx hy hi
      subst hx; subst hy
      have q : ¬ gI M o 1 ≤ nI i := by rw [h.1]; exact nI_ge (by omega) (by omega)
      have hin : vp_in (nI i) 40 := ro_in h (by omega)
      refine st_ild rfl rfl ?_
      refine st_ald rfl rfl ?_
      refine st_gI rfl (by first | exact tT hM rfl | assumption | exact rw_T hM (by assumption) | exact rw_A hM (by assumption)) ?_
      refine st_b2 rfl (fun zq => absurd zq (q)) (fun _ => ?_)
      refine st_ild rfl rfl ?_
      refine st_ald rfl rfl ?_
      refine st_gR' rfl (by first | exact tT hM rfl | assumption | exact rw_T hM (by assumption) | exact rw_A hM (by assumption)) (by first | exact rR hM rfl rfl | assumption | exact rw_R hM (by assumption)) ?_
      refine st_ild rfl rfl ?_
      refine st_iald rfl (by first | exact tT hM rfl | assumption | exact rw_T hM (by assumption) | exact rw_A hM (by assumption)) (by first | decide | assumption | exact vp_in_nI (by omega) (by decide)) ?_
      -- at 19: stop
      refine wp_e (ro_at h (show i < l.length by omega)) ?_
      refine st_ild rfl rfl ?_
      refine st_b2 rfl (fun h1 => ?_) (fun h1 => ?_)
      -- at 20: split 27 23
      · refine st_k rfl ?_
        refine st_ib rfl ?_
        refine st_ist rfl ?_
        refine st_inc rfl rfl ?_
        refine st_go rfl ?_
        -- at 4: stop
        exact ih (i + 1) _ _ (nI_1 i) (by rw [hm_s, if_neg h1, ← nI_add]; rfl) (by omega)
      · have h1 : l.getD i 0 = v := Decidable.not_not.mp h1
        refine st_k rfl ?_
        refine st_go rfl ?_
        refine st_ib rfl ?_
        refine st_ist rfl ?_
        refine st_inc rfl rfl ?_
        refine st_go rfl ?_
        -- at 4: stop
        exact ih (i + 1) _ _ (nI_1 i) (by rw [hm_s, if_pos h1, ← nI_add]; rfl) (by omega)
  refine st_k rfl ?_
  refine st_ist rfl ?_
  refine st_k rfl ?_
  refine st_ist rfl ?_
  -- at 4: stop
  exact loop l.length 0 0 0 rfl rfl (by omega)
/-- bits of the first i places -/
def bi (l : List Int32) : Nat → Int32
  | 0 => 0
  | i + 1 => bi l i ||| (1 <<< (l.getD i 0 &&& 31))
theorem c_bits (d : Nat) {M : pm_M} {o : Nat} {l : List Int32} (hM : pm_ok M) (ho : pm_rw o = true) (h : pm_Ro M o l) :
    pm_call (d + 1) 56 [.ref o] M (some (.int (bi l l.length))) M := by
  have hl := h.2.1
  refine en_56 (Nat.le_of_ble_eq_true rfl) ?_
  have loop : ∀ n i x, x = nI i → i + n = l.length → pm_WP (pm_call d) tb_56 (fun r0 M1 => r0 = some (.int (bi l l.length)) ∧ M1 = M) 4 [some (.ref o), some (.int (bi l i)), some (.int x)] [] M := by
    intro n
    induction n with
    | zero =>
      intro i x hx hi
      subst hx
      have q : gI M o 1 ≤ nI i := by rw [h.1]; exact nI_le (by omega) (by omega)
      refine st_ild rfl rfl ?_
      refine st_ald rfl rfl ?_
      refine st_gI rfl (by first | exact tT hM rfl | assumption | exact rw_T hM (by assumption) | exact rw_A hM (by assumption)) ?_
      refine st_b2 rfl (fun _ => ?_) (fun zq => absurd (q) zq)
      refine st_ild rfl rfl ?_
      -- at 30: op_iret
      exact st_iret rfl ⟨by rw [show i = l.length by omega], rfl⟩
    | succ n ih =>
      intro i x hx hi
      subst hx
      have q : ¬ gI M o 1 ≤ nI i := by rw [h.1]; exact nI_ge (by omega) (by omega)
      have hin : vp_in (nI i) 40 := ro_in h (by omega)
      refine st_ild rfl rfl ?_
      refine st_ald rfl rfl ?_
      refine st_gI rfl (by first | exact tT hM rfl | assumption | exact rw_T hM (by assumption) | exact rw_A hM (by assumption)) ?_
      refine st_b2 rfl (fun zq => absurd zq (q)) (fun _ => ?_)
      refine st_ild rfl rfl ?_
      refine st_k rfl ?_
      refine st_ald rfl rfl ?_
      refine st_gR' rfl (by first | exact tT hM rfl | assumption | exact rw_T hM (by assumption) | exact rw_A hM (by assumption)) (by first | exact rR hM rfl rfl | assumption | exact rw_R hM (by assumption)) ?_
      refine st_ild rfl rfl ?_
      refine st_iald rfl (by first | exact tT hM rfl | assumption | exact rw_T hM (by assumption) | exact rw_A hM (by assumption)) (by first | decide | assumption | exact vp_in_nI (by omega) (by decide)) ?_
      -- at 20: stop
      refine wp_e (ro_at h (show i < l.length by omega)) ?_
      refine st_ib rfl ?_
      refine st_ib rfl ?_
      refine st_ist rfl ?_
      refine st_inc rfl rfl ?_
      refine st_go rfl ?_
      -- at 4: stop
      exact ih (i + 1) _ (nI_1 i) (by omega)
  refine st_k rfl ?_
  refine st_ist rfl ?_
  refine st_k rfl ?_
  refine st_ist rfl ?_
  -- at 4: stop
  exact loop l.length 0 0 rfl (by omega)
/-- h = 31 h + v for the first i places -/
def dg (l : List Int32) (h : Int64) : Nat → Int64
  | 0 => h
  | i + 1 => 31 * dg l h i + (l.getD i 0).toInt64
theorem c_digRow (d : Nat) {M : pm_M} {o : Nat} {l : List Int32} (hM : pm_ok M) (ho : pm_rw o = true) (h : pm_Ro M o l) (z : Int64) :
    pm_call (d + 1) 57 [.ref o, .long z] M (some (.long (dg l z l.length))) M := by
  have hl := h.2.1
  refine en_57 (Nat.le_of_ble_eq_true rfl) ?_
  have loop : ∀ n i x, x = nI i → i + n = l.length → pm_WP (pm_call d) tb_57 (fun r0 M1 => r0 = some (.long (dg l z l.length)) ∧ M1 = M) 2 [some (.ref o), some (.long (dg l z i)), none, some (.int x)] [] M := by
    intro n
    induction n with
    | zero =>
      intro i x hx hi
      subst hx
      have q : gI M o 1 ≤ nI i := by rw [h.1]; exact nI_le (by omega) (by omega)
      refine st_ild rfl rfl ?_
      refine st_ald rfl rfl ?_
      refine st_gI rfl (by first | exact tT hM rfl | assumption | exact rw_T hM (by assumption) | exact rw_A hM (by assumption)) ?_
      refine st_b2 rfl (fun _ => ?_) (fun zq => absurd (q) zq)
      refine st_lld rfl rfl ?_
      -- at 31: op_lret
      exact st_lret rfl ⟨by rw [show i = l.length by omega], rfl⟩
    | succ n ih =>
      intro i x hx hi
      subst hx
      have q : ¬ gI M o 1 ≤ nI i := by rw [h.1]; exact nI_ge (by omega) (by omega)
      have hin : vp_in (nI i) 40 := ro_in h (by omega)
      refine st_ild rfl rfl ?_
      refine st_ald rfl rfl ?_
      refine st_gI rfl (by first | exact tT hM rfl | assumption | exact rw_T hM (by assumption) | exact rw_A hM (by assumption)) ?_
      refine st_b2 rfl (fun zq => absurd zq (q)) (fun _ => ?_)
      refine st_k rfl ?_
      refine st_lld rfl rfl ?_
      refine st_lb rfl ?_
      refine st_ald rfl rfl ?_
      refine st_gR' rfl (by first | exact tT hM rfl | assumption | exact rw_T hM (by assumption) | exact rw_A hM (by assumption)) (by first | exact rR hM rfl rfl | assumption | exact rw_R hM (by assumption)) ?_
      refine st_ild rfl rfl ?_
      refine st_iald rfl (by first | exact tT hM rfl | assumption | exact rw_T hM (by assumption) | exact rw_A hM (by assumption)) (by first | decide | assumption | exact vp_in_nI (by omega) (by decide)) ?_
      -- at 21: stop
      refine wp_e (ro_at h (show i < l.length by omega)) ?_
      refine st_i2l rfl ?_
      refine st_lb rfl ?_
      refine st_lst rfl ?_
      refine st_inc rfl rfl ?_
      refine st_go rfl ?_
      -- at 2: stop
      exact ih (i + 1) _ (nI_1 i) (by omega)
  refine st_k rfl ?_
  refine st_ist rfl ?_
  -- at 2: stop
  exact loop l.length 0 0 rfl (by omega)

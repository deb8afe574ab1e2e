/-! WHAT THE PURE MACHINE SAYS OF THE HEAP: its cells lie one behind another from an address on -/
def pm_gw : List Cond := lw_tbl.filter goodWord
theorem pm_gw_of {w : Cond} {i : Nat} (h : lw_tbl[i]? = some w) (hg : goodWord w = true) : w ∈ pm_gw := List.mem_filter.mpr ⟨List.mem_of_getElem? h, hg⟩
theorem pm_gw_good : GoodIn pm_gw pm_gw := fun _ h => ⟨h, good_of_word (List.mem_filter.mp h).2⟩
theorem pm_gw_code {w : Cond} (h : w ∈ pm_gw) : GoodIn pm_gw (w :: pm_gw) := fun v hv => (List.mem_cons.mp hv).elim (fun e => e ▸ pm_gw_good w h) (pm_gw_good v)
abbrev pm_cl : List vw_C := [(RX0, TX0, 8), (RX1, TX1, 17), (RX2, TX2, 8), (RX3, TX3, 4), (RX4, TX4, 2), (RX5, TX5, 2), (RX6, TX6, 6), (RX7, TX7, 8), (RX8, TX8, 3), (RX9, TX9, 2), (RX10, TX10, 20), (RX11, TX11, 57)]
def pm_fty (c f : Nat) : FieldType := match c with
  | 0 => tyX0 f
  | 1 => tyX1 f
  | 2 => tyX2 f
  | 3 => tyX3 f
  | 4 => tyX4 f
  | 5 => tyX5 f
  | 6 => tyX6 f
  | 7 => tyX7 f
  | 8 => tyX8 f
  | 9 => tyX9 f
  | 10 => tyX10 f
  | 11 => tyX11 f
  | 100 => .int
  | 101 => .long
  | 102 => .byte
  | 103 => .boolean
  | 104 => .object RX5
  | _ => .object RX9
def pm_kT (t : FieldType) : Nat := match t with
  | .long => 1
  | .object _ => 2
  | .array _ => 2
  | _ => 0
def pm_kd (c f : Nat) : Nat := pm_kT (pm_fty c f)
def pm_rf (base : Nat) (r : Option Nat) : Value := match r with
  | none => .null
  | some a => .ref (base + a)
def pm_en (base : Nat) (v : Value) : Value := match v with
  | .ref a => .ref (base + a)
  | v => v
theorem pm_en_v (base : Nat) (r : Option Nat) : pm_en base (pm_v r) = pm_rf base r := by cases r <;> rfl
theorem pm_en_cat (base : Nat) (v : Value) : (pm_en base v).category = v.category := by cases v <;> rfl
theorem pm_en_sum (base : Nat) (l : List Value) : ((l.map (pm_en base)).map fun v => v.category).sum = (l.map fun v => v.category).sum := by
  rw [List.map_map]
  congr 1
  apply List.map_congr_left
  intro v _
  exact pm_en_cat base v
/-- what slot f of cell k, of type c, holds -/
def pm_sv (base : Nat) (M : pm_M) (c k f : Nat) : Value := match pm_kd c f with
  | 0 => .int (gI M k f)
  | 1 => .long (gL M k f)
  | _ => pm_rf base (gR M k f)
abbrev pm_tys (dA : Nat → ClassId) : List (ClassId × FieldType) := [(dA 100, .int), (dA 101, .long), (dA 102, .byte), (dA 103, .boolean), (dA 104, .object RX5), (dA 105, .object RX9)]
def pm_at (D : va_G) (dA : Nat → ClassId) (base : Nat) (M : pm_M) (k c N : Nat) (H : Heap) : Prop :=
  (c < 100 → t_OB (base + k) (D.1 c) N (D.2 c) H (pm_sv base M c k)) ∧ (100 ≤ c → H[base + k]? = some (arrV (dA c) N (pm_sv base M c k)))
def pm_H (D : va_G) (dA : Nat → ClassId) (base : Nat) (Hb : Heap) (M : pm_M) (H : Heap) : Prop :=
  H.size = base + M.1.length ∧ (∀ q, q < base → H[q]? = Hb[q]?) ∧ ∀ k c N, M.1[k]? = some (c, N) → pm_at D dA base M k c N H
theorem pm_at.moved {D : va_G} {dA : Nat → ClassId} {base k c N : Nat} {M M1 : pm_M} {H H1 : Heap} (h : pm_at D dA base M k c N H) (hq : H1[base + k]? = H[base + k]?) (hv : ∀ f, pm_sv base M1 c k f = pm_sv base M c k f) : pm_at D dA base M1 k c N H1 := by
  have e : pm_sv base M1 c k = pm_sv base M c k := funext hv
  refine ⟨fun hc => ?_, fun hc => ?_⟩
  · rw [e]
    exact (h.1 hc).kept hq
  · rw [e, hq]
    exact h.2 hc
theorem pm_H.set {D : va_G} {dA : Nat → ClassId} {base k c N : Nat} {Hb : Heap} {M M1 : pm_M} {H H1 : Heap} (h : pm_H D dA base Hb M H) (ht : M1.1 = M.1) (hk : M.1[k]? = some (c, N)) (hz : H1.size = H.size) (ho : ∀ q, q ≠ base + k → H1[q]? = H[q]?)
    (hv : ∀ c' k' f, k' ≠ k → pm_sv base M1 c' k' f = pm_sv base M c' k' f) (ha : pm_at D dA base M1 k c N H1) : pm_H D dA base Hb M1 H1 := by
  refine ⟨by rw [hz, ht]; exact h.1, fun q hq => ?_, fun k' c' N' hk' => ?_⟩
  · rw [ho q (by omega)]
    exact h.2.1 q hq
  · rw [ht] at hk'
    by_cases e : k' = k
    · subst e
      rw [hk] at hk'
      cases hk'
      exact ha
    · exact (h.2.2 k' c' N' hk').moved (ho _ (by omega)) (fun f => hv c' k' f e)
theorem pm_sv_sI {base k c f : Nat} {M : pm_M} {v : Int32} (hk : pm_kd c f = 0) : pm_sv base (sI M k f v) c k = updV (pm_sv base M c k) f (.int v) := by
  funext j
  by_cases e : j = f
  · subst e
    simp [pm_sv, hk, gI, sI, updV]
  · simp [pm_sv, gI, gL, gR, sI, updV, e]
theorem pm_sv_sL {base k c f : Nat} {M : pm_M} {v : Int64} (hk : pm_kd c f = 1) : pm_sv base (sL M k f v) c k = updV (pm_sv base M c k) f (.long v) := by
  funext j
  by_cases e : j = f
  · subst e
    simp [pm_sv, hk, gL, sL, updV]
  · simp [pm_sv, gI, gL, gR, sL, updV, e]
theorem pm_sv_sR {base k c f : Nat} {M : pm_M} {v : Nat} (hk : pm_kd c f = 2) : pm_sv base (sR M k f (some v)) c k = updV (pm_sv base M c k) f (.ref (base + v)) := by
  funext j
  by_cases e : j = f
  · subst e
    simp [pm_sv, hk, gR, sR, updV, pm_rf]
  · simp [pm_sv, gI, gL, gR, sR, updV, e]
theorem pm_sv_oI {base k c k' f j : Nat} {M : pm_M} {v : Int32} (h : k' ≠ k) : pm_sv base (sI M k f v) c k' j = pm_sv base M c k' j := by
  simp [pm_sv, gI, gL, gR, sI, h]
theorem pm_sv_oL {base k c k' f j : Nat} {M : pm_M} {v : Int64} (h : k' ≠ k) : pm_sv base (sL M k f v) c k' j = pm_sv base M c k' j := by
  simp [pm_sv, gI, gL, gR, sL, h]
theorem pm_sv_oR {base k c k' f j : Nat} {M : pm_M} {v : Option Nat} (h : k' ≠ k) : pm_sv base (sR M k f v) c k' j = pm_sv base M c k' j := by
  simp [pm_sv, gI, gL, gR, sR, h]
/-! locals -/
def pm_lv (base : Nat) (L : pm_L) : List (Nat × Value) := (List.range L.length).filterMap (fun i => (L.getD i none).map (fun v => (i, pm_en base v)))
theorem pm_lv_mem {base : Nat} {L : pm_L} {q : Nat × Value} : q ∈ pm_lv base L ↔ ∃ v, L[q.1]? = some (some v) ∧ q.2 = pm_en base v := by
  unfold pm_lv
  rw [List.mem_filterMap]
  constructor
  · rintro ⟨i, hi, h⟩
    have hi := List.mem_range.mp hi
    rw [List.getD_eq_getElem?_getD, List.getElem?_eq_getElem hi, Option.getD_some] at h
    cases hv : L[i] with
    | none => rw [hv] at h; cases h
    | some v =>
      rw [hv] at h
      cases h
      exact ⟨v, by show L[i]? = _; rw [List.getElem?_eq_getElem hi, hv], rfl⟩
  · rintro ⟨v, h1, h2⟩
    have hi : q.1 < L.length := (List.getElem?_eq_some_iff.mp h1).1
    refine ⟨q.1, List.mem_range.mpr hi, ?_⟩
    rw [List.getD_eq_getElem?_getD, h1]
    show some (q.1, pm_en base v) = some q
    rw [← h2]
theorem pm_has_sub {ls : Array Slot} {n : Nat} {l l' : List (Nat × Value)} (h : lv_has ls n l) (hs : ∀ q ∈ l', q ∈ l) : lv_has ls n l' := ⟨h.1, h.2.1, fun q hq => h.2.2 q (hs q hq)⟩
theorem pm_lv_at {base : Nat} {L : pm_L} {ls : Array Slot} {n i : Nat} {v : Value} (h : lv_has ls n (pm_lv base L)) (hi : L[i]? = some (some v)) : ls[i]? = some (.val (pm_en base v)) := h.2.2 (i, pm_en base v) (pm_lv_mem.mpr ⟨v, hi, rfl⟩)
theorem pm_wide_cat {v : Value} : pm_wide (some v) = true ↔ v.category = 2 := by cases v <;> simp [pm_wide, Value.category]
theorem pm_set_self {α : Type} {l : List α} {i : Nat} {x y : α} (h : (l.set i x)[i]? = some y) : y = x := by
  have hi : i < (l.set i x).length := (List.getElem?_eq_some_iff.mp h).1
  rw [List.length_set] at hi
  rw [List.getElem?_set_self hi] at h
  exact (Option.some.inj h).symm
theorem pm_st1_get {L : pm_L} {i j : Nat} {v w : Value} (h : (pm_st1 L i v)[j]? = some (some w)) : (j = i ∧ w = v) ∨ (j ≠ i ∧ L[j]? = some (some w) ∧ ¬ (j + 1 = i ∧ w.category = 2)) := by
  by_cases e : j = i
  · subst e
    left
    refine ⟨rfl, ?_⟩
    cases j with
    | zero => exact Option.some.inj (pm_set_self h)
    | succ j => exact Option.some.inj (pm_set_self h)
  · right
    refine ⟨e, ?_⟩
    cases i with
    | zero =>
      simp only [pm_st1] at h
      rw [List.getElem?_set_ne (Ne.symm e)] at h
      exact ⟨h, fun q => by omega⟩
    | succ i =>
      simp only [pm_st1] at h
      rw [List.getElem?_set_ne (Ne.symm e)] at h
      by_cases hw : pm_wide (L.getD i none) = true
      · rw [if_pos hw] at h
        by_cases e2 : j = i
        · subst e2
          rw [List.getElem?_set] at h
          simp only [if_true] at h
          split at h <;> cases h
        · rw [List.getElem?_set_ne (Ne.symm e2)] at h
          exact ⟨h, fun q => e2 (by omega)⟩
      · rw [if_neg hw] at h
        refine ⟨h, fun q => ?_⟩
        have : j = i := by omega
        subst this
        rw [List.getD_eq_getElem?_getD, h] at hw
        exact hw (pm_wide_cat.mpr q.2)
theorem pm_has_st1 {base : Nat} {L : pm_L} {ls : Array Slot} {n i : Nat} {v : Value} (h : lv_has ls n ((i, pm_en base v) :: (pm_lv base L).filter (fun q => !(q.1 == i) && !(q.1 + 1 == i && q.2.category == 2)))) : lv_has ls n (pm_lv base (pm_st1 L i v)) := by
  refine pm_has_sub h fun q hq => ?_
  obtain ⟨w, h1, h2⟩ := pm_lv_mem.mp hq
  rcases pm_st1_get h1 with ⟨e1, e2⟩ | ⟨e1, e2, e3⟩
  · obtain ⟨a, b⟩ := q
    simp only at e1 h2
    rw [e1, h2, e2]
    exact List.mem_cons_self
  · refine List.mem_cons_of_mem _ (List.mem_filter.mpr ⟨pm_lv_mem.mpr ⟨w, e2, h2⟩, ?_⟩)
    rw [h2, pm_en_cat]
    simp only [Bool.and_eq_true, Bool.not_eq_true', beq_eq_false_iff_ne, ne_eq, Bool.and_eq_false_imp, beq_iff_eq]
    exact ⟨e1, fun a b => e3 ⟨a, b⟩⟩
theorem pm_has_st2 {base : Nat} {L : pm_L} {ls : Array Slot} {n i : Nat} {v : Value} (h : lv_has ls n ((i, pm_en base v) :: (pm_lv base L).filter (fun q => !(q.1 == i) && (!(q.1 == i + 1) && !(q.1 + 1 == i && q.2.category == 2))))) : lv_has ls n (pm_lv base (pm_st2 L i v)) := by
  refine pm_has_sub h fun q hq => ?_
  obtain ⟨w, h1, h2⟩ := pm_lv_mem.mp hq
  unfold pm_st2 at h1
  by_cases e0 : q.1 = i + 1
  · rw [e0, List.getElem?_set] at h1
    simp only [if_true] at h1
    split at h1 <;> cases h1
  · rw [List.getElem?_set_ne (Ne.symm e0)] at h1
    rcases pm_st1_get h1 with ⟨e1, e2⟩ | ⟨e1, e2, e3⟩
    · obtain ⟨a, b⟩ := q
      simp only at e1 h2
      rw [e1, h2, e2]
      exact List.mem_cons_self
    · refine List.mem_cons_of_mem _ (List.mem_filter.mpr ⟨pm_lv_mem.mpr ⟨w, e2, h2⟩, ?_⟩)
      rw [h2, pm_en_cat]
      simp only [Bool.and_eq_true, Bool.not_eq_true', beq_eq_false_iff_ne, ne_eq, Bool.and_eq_false_imp, beq_iff_eq]
      exact ⟨e1, e0, fun a b => e3 ⟨a, b⟩⟩
theorem pm_in0_mem {base : Nat} : ∀ (A : List Value) (i j : Nat) (v : Value), (pm_in0 A)[j]? = some (some v) → (i + j, pm_en base v) ∈ lv_args i (A.map (pm_en base))
  | [], _, j, _, h => by simp [pm_in0] at h
  | a :: A, i, j, v, h => by
    show (i + j, pm_en base v) ∈ (i, pm_en base a) :: lv_args (if (pm_en base a).category = 2 then i + 2 else i + 1) (A.map (pm_en base))
    rw [pm_en_cat]
    unfold pm_in0 at h
    by_cases hw : pm_wide (some a) = true
    · rw [if_pos hw] at h
      rw [if_pos (pm_wide_cat.mp hw)]
      match j, h with
      | 0, h => cases h; exact List.mem_cons_self
      | 1, h => cases h
      | j + 2, h =>
        have := pm_in0_mem (base := base) A (i + 2) j v h
        rw [show i + (j + 2) = i + 2 + j by omega]
        exact List.mem_cons_of_mem _ this
    · rw [if_neg hw] at h
      rw [if_neg (fun q => hw (pm_wide_cat.mpr q))]
      match j, h with
      | 0, h => cases h; exact List.mem_cons_self
      | j + 1, h =>
        have := pm_in0_mem (base := base) A (i + 1) j v h
        rw [show i + (j + 1) = i + 1 + j by omega]
        exact List.mem_cons_of_mem _ this
theorem pm_init_has {base n : Nat} {A : List Value} {ls : Array Slot} (h : lv_has ls n (lv_args 0 (A.map (pm_en base)))) : lv_has ls n (pm_lv base (pm_init n A)) := by
  refine pm_has_sub h fun q hq => ?_
  obtain ⟨v, h1, h2⟩ := pm_lv_mem.mp hq
  unfold pm_init at h1
  by_cases hl : q.1 < (pm_in0 A).length
  · rw [List.getElem?_append_left hl] at h1
    have := pm_in0_mem (base := base) A 0 q.1 v h1
    rw [Nat.zero_add, ← h2] at this
    exact this
  · rw [List.getElem?_append_right (by omega), List.getElem?_replicate] at h1
    split at h1 <;> cases h1

/-! MESSAGES: the class's cells -/
abbrev Ce : Type := Nat × Nat × Bool × Nat
def ci (x : Ce) : Nat := x.1 * 140 + x.2.1 * 14 + (if x.2.2.1 = true then 0 else 7) + x.2.2.2
def stc (x : Ce) : St := (x.1, x.2.2.2, x.2.2.1)
def mp (pc : Nat) : Nat := if pc = 1 then 0 else 1
/-- the cell that one KNOT more leads to -/
def on (c : Cf) (m : List Nat) (pc : Nat) (x : Ce) (k : Nat) : Option Ce :=
  if m.length ≤ x.1 ∨ bar c x.2.2.2 k = true then none else if x.2.2.1 = false then some (x.1, x.2.1, true, k) else match pr c x.2.2.2 k with
    | none => if x.1 + 1 < m.length ∧ cf_sg c x.2.2.2 = m.getD x.1 0 then some (x.1 + 1, x.2.1, true, k) else none
    | some t => if t = m.getD x.1 0 ∧ x.2.1 + mp pc < pc then some (x.1 + 1, x.2.1 + mp pc, false, k) else none
abbrev c00 : Ce := (0, 0, false, 6)
def vx (c : Cf) (m : List Nat) (pc : Nat) (x : Ce) : Prop := x.2.1 < pc ∧ (x = c00 ∨ (x.2.2.2 < cf_n c ∧ (x.2.2.1 = true → x.1 < m.length) ∧ (x.2.2.1 = false → 0 < x.1 ∧ x.1 ≤ m.length ∧ ∃ q, q < cf_n c ∧ pr c q x.2.2.2 = some (m.getD (x.1 - 1) 0))))
def tied (x : Ce) : Nat := x.1 + x.2.1 + (if x.2.2.1 = true then 1 else 0)
/-- how many KNOTS more are left to a cell -/
def Fu (c : Cf) (m : List Nat) (pc : Nat) (x : Ce) (f : Nat) : Prop := (pc = 1 ∧ mu c m (stc x) ≤ f) ∨ (pc = 21 - m.length ∧ 11 ≤ m.length ∧ f + tied x = 20)
def pcok (c : Cf) (m : List Nat) (pc : Nat) : Prop := m.length ≤ 12 ∧ ((pc = 1 ∧ m.length + cp c m ≤ 20) ∨ (pc = 21 - m.length ∧ 11 ≤ m.length))
section CEL
variable {c : Cf} {m : List Nat} {pc : Nat}
theorem vx_ok {x : Ce} (h : vx c m pc x) : okS c (stc x) := by
  intro z
  rcases h.2 with w | w
  · rw [w] at z; cases z
  · exact w.1
theorem on_some (hp : pcok c m pc) {x y : Ce} {f k : Nat} (hx : vx c m pc x) (hf : Fu c m pc x f) (hk : k < cf_n c) (h : on c m pc x k = some y) : vx c m pc y ∧ nx c m (stc x) k = some (stc y) ∧ ∃ f', f = f' + 1 ∧ Fu c m pc y f' := by
  have main : vx c m pc y ∧ nx c m (stc x) k = some (stc y) ∧ (pc ≠ 1 → tied y = tied x + 1) := by
    have hok := vx_ok hx
    obtain ⟨r, p, o, last⟩ := x
    unfold on at h
    dsimp only at h
    split at h
    · cases h
    · rename_i hnb
      have hr : r < m.length := Nat.lt_of_not_le (fun z => hnb (Or.inl z))
      have hn1 : nx c m (stc (r, p, o, last)) k = if o = false then some (r, k, true) else match pr c last k with
          | some t => if t = m.getD r 0 then some (r + 1, k, false) else none
          | none => if cf_sg c last = m.getD r 0 then some (r + 1, k, true) else none := by
        unfold nx
        exact if_neg hnb
      rw [hn1]
      cases o with
      | false =>
        rw [if_pos rfl] at h ⊢
        injection h with h
        subst h
        exact ⟨⟨hx.1, Or.inr ⟨hk, fun _ => hr, fun z => (by cases z)⟩⟩, rfl, fun _ => rfl⟩
      | true =>
        rw [if_neg (by decide)] at h ⊢
        have hlast : last < cf_n c := hok rfl
        cases hp2 : pr c last k with
        | none =>
          rw [hp2] at h
          dsimp only at h ⊢
          split at h
          · rename_i hc
            injection h with h
            subst h
            rw [if_pos hc.2]
            refine ⟨⟨hx.1, Or.inr ⟨hk, fun _ => hc.1, fun z => (by cases z)⟩⟩, rfl, fun _ => ?_⟩
            simp only [tied, if_true]
            omega
          · cases h
        | some t =>
          rw [hp2] at h
          dsimp only at h ⊢
          split at h
          · rename_i hc
            injection h with h
            subst h
            rw [if_pos hc.1]
            refine ⟨⟨hc.2, Or.inr ⟨hk, fun z => (by cases z), fun _ => ⟨by show 0 < r + 1; omega, by show r + 1 ≤ m.length; omega, last, hlast, ?_⟩⟩⟩, rfl, fun z => ?_⟩
            · show pr c last k = some (m.getD (r + 1 - 1) 0)
              rw [Nat.add_sub_cancel, hp2, hc.1]
            · simp only [tied, if_true, mp, if_neg z]
              simp
              omega
          · cases h
  obtain ⟨h1, h2, h3⟩ := main
  refine ⟨h1, h2, ?_⟩
  rcases hf with ⟨q1, q2⟩ | ⟨q1, q2, q3⟩
  · rcases nx_mu hk (vx_ok hx) h2 with ⟨z1, z2⟩ | z
    · exfalso
      rcases h1.2 with w | w
      · rw [w] at z1; cases z1
      · have := w.2.1 z1
        exact absurd z2 (by show ¬ m.length ≤ y.1; omega)
    · exact ⟨f - 1, by omega, Or.inl ⟨q1, by omega⟩⟩
  · have ht := h3 (by have := hp.1; omega)
    have hb : tied y ≤ 20 := by
      have hy1 := h1.1
      rcases h1.2 with w | w
      · rw [w]; decide
      · unfold tied
        cases ho : y.2.2.1 with
        | true =>
          have := w.2.1 ho
          rw [if_pos rfl]
          omega
        | false =>
          have := (w.2.2 ho).2.1
          rw [if_neg (by decide)]
          omega
    exact ⟨f - 1, by omega, Or.inr ⟨q1, q2, by omega⟩⟩
theorem on_none (hp : pcok c m pc) {x : Ce} {f k : Nat} (hx : vx c m pc x) (hf : Fu c m pc x (f + 1)) (h : on c m pc x k = none) : gk (LF c m f) c m (stc x) k = none := by
  have hok := vx_ok hx
  obtain ⟨r, p, o, last⟩ := x
  unfold on at h
  dsimp only at h
  split at h
  · rename_i hnb
    exact gk_n0 (by unfold nx; exact if_pos hnb)
  · rename_i hnb
    have hr : r < m.length := Nat.lt_of_not_le (fun z => hnb (Or.inl z))
    have hn1 : nx c m (stc (r, p, o, last)) k = if o = false then some (r, k, true) else match pr c last k with
        | some t => if t = m.getD r 0 then some (r + 1, k, false) else none
        | none => if cf_sg c last = m.getD r 0 then some (r + 1, k, true) else none := by
      unfold nx
      exact if_neg hnb
    cases o with
    | false =>
      rw [if_pos rfl] at h
      cases h
    | true =>
      rw [if_neg (by decide)] at h hn1
      cases hp2 : pr c last k with
      | none =>
        rw [hp2] at h hn1
        dsimp only at h hn1
        by_cases g : cf_sg c last = m.getD r 0
        · rw [if_pos g] at hn1
          refine gk_n1 hn1 (LF_dead rfl ?_ f)
          show m.length ≤ r + 1
          refine Nat.not_lt.mp (fun z => ?_)
          rw [if_pos ⟨z, g⟩] at h
          cases h
        · rw [if_neg g] at hn1
          exact gk_n0 hn1
      | some t =>
        rw [hp2] at h hn1
        dsimp only at h hn1
        by_cases g : t = m.getD r 0
        · rw [if_pos g] at hn1
          have hpp : ¬ p + mp pc < pc := fun z => by rw [if_pos ⟨g, z⟩] at h; cases h
          have hpx := hx.1
          dsimp only at hpx
          refine gk_n1 hn1 (LF_need f _ ?_)
          rcases hf with ⟨q1, q2⟩ | ⟨q1, q2, q3⟩
          · rw [q1] at hpp hpx
            exact absurd (show p + 0 < 1 by omega) hpp
          · have hm1 : mp pc = 1 := by unfold mp; rw [if_neg (by have := hp.1; omega)]
            rw [hm1] at hpp
            simp only [tied, if_true] at q3
            show f < m.length - (r + 1) - (if false = true then 1 else 0)
            rw [if_neg (by decide)]
            omega
        · rw [if_neg g] at hn1
          exact gk_n0 hn1
def gz (c : Cf) (m : List Nat) (f : Nat) (s : St) (k : Nat) : Option Nat := match f with
  | 0 => none
  | f + 1 => gk (LF c m f) c m s k
theorem LF_gz (f : Nat) (s : St) : LF c m f s = lb (sde c m s) (gz c m f s) (cf_n c) := by
  cases f with
  | zero => exact (lb_none (F := gz c m 0 s) (cf_n c) (fun k _ => rfl)).symm
  | succ f => rfl
/-- what a KNOT more gives, by the cell that it leads to -/
theorem gz_on (hp : pcok c m pc) {x : Ce} {f k : Nat} (hx : vx c m pc x) (hf : Fu c m pc x f) (hk : k < cf_n c) : (on c m pc x k = none ∧ gz c m f (stc x) k = none) ∨ ∃ y f', on c m pc x k = some y ∧ f = f' + 1 ∧ vx c m pc y ∧ Fu c m pc y f' ∧ gz c m f (stc x) k = oat (tk c x.2.2.2 k) (LF c m f' (stc y)) := by
  cases h : on c m pc x k with
  | none =>
    left
    refine ⟨rfl, ?_⟩
    cases f with
    | zero => rfl
    | succ f => exact on_none hp hx hf h
  | some y =>
    right
    obtain ⟨h1, h2, f', h3, h4⟩ := on_some hp hx hf hk h
    subst h3
    exact ⟨y, f', rfl, rfl, h1, h4, gk_x h2⟩
theorem vx_b (hw : cf_wf c) (hp : pcok c m pc) {x : Ce} (h : vx c m pc x) : x.1 ≤ 12 ∧ x.1 ≤ m.length ∧ x.2.1 < 10 ∧ lst c x.2.2.2 ∧ x.2.2.2 ≤ 6 := by
  have hn := hw.1
  have h1 := h.1
  have h12 := hp.1
  have hpc : pc ≤ 10 := by rcases hp.2 with z | z <;> omega
  rcases h.2 with w | w
  · rw [w] at h1 ⊢
    refine ⟨by decide, by show 0 ≤ _; omega, by decide, Or.inr rfl, by decide⟩
  · refine ⟨?_, ?_, by omega, Or.inl w.1, by omega⟩
    · cases ho : x.2.2.1 with
      | true => have := w.2.1 ho; omega
      | false => have := (w.2.2 ho).2.1; omega
    · cases ho : x.2.2.1 with
      | true => have := w.2.1 ho; omega
      | false => have := (w.2.2 ho).2.1; omega
/-- the parts of a cell's number -/
theorem ci_d {x : Ce} (h1 : x.1 ≤ 12) (h2 : x.2.1 < 10) (h3 : x.2.2.2 ≤ 6) : ci x / 140 = x.1 ∧ ci x % 7 = x.2.2.2 ∧ (ci x % 14 < 7 ↔ x.2.2.1 = true) ∧ ci x / 14 % 10 = x.2.1 ∧ ci x < 1820 := by
  obtain ⟨r, p, o, last⟩ := x
  dsimp only at h1 h2 h3
  cases o with
  | true =>
    have e : ci (r, p, true, last) = r * 140 + p * 14 + 0 + last := rfl
    rw [e]
    dsimp only
    refine ⟨by omega, by omega, ⟨fun _ => rfl, fun _ => (by omega)⟩, by omega, by omega⟩
  | false =>
    have e : ci (r, p, false, last) = r * 140 + p * 14 + 7 + last := rfl
    rw [e]
    dsimp only
    refine ⟨by omega, by omega, ⟨fun z => (by omega), fun z => (by cases z)⟩, by omega, by omega⟩
def nv (x : Option Nat) : Nat := match x with
  | none => 1000
  | some v => v
def o32 (x : Option Ce) : Int32 := match x with
  | none => -1
  | some y => nI (ci y)
end CEL
theorem nI_or {a b : Nat} (ha : a < 2 ^ 31) (hb : b < 2 ^ 31) : nI a ||| nI b = nI (a ||| b) := Int32.toBitVec_inj.mp (BitVec.eq_of_toNat_eq (by rw [Int32.toBitVec_or, BitVec.toNat_or, pk_tn (by omega), pk_tn (by omega), pk_tn (Nat.lt_trans (Nat.or_lt_two_pow ha hb) (by decide))]))
theorem bit10 : ∀ w, w < 1024 → ∀ s, s < 10 → (nI w >>> (nI s &&& 31)) &&& 1 = if w.testBit s = true then 1 else 0 := by decide +kernel
/-- what the class holds of a MESSAGE -/
def SY (c0 c : Cf) (m : List Nat) (M : pm_M) : Prop := CC c0 M ∧ alike c0 c ∧ cf_wf c0 ∧ cf_wf c ∧ pm_Ro M 28 (m.map nI) ∧ m.length ≤ 12 ∧ (∀ t, t ∈ m → t < 10) ∧ ∀ k, k < cf_n c → gI M 30 k = nI (cf_sg c k)
def SP (c0 c : Cf) (m : List Nat) (pc : Nat) (M : pm_M) : Prop := SY c0 c m M ∧ gI M 27 3 = nI pc ∧ pcok c m pc
section SYM
variable {c0 c : Cf} {m : List Nat} {M : pm_M} {pc : Nat}
theorem sy_n (h : SY c0 c m M) : gI M 7 2 = nI (cf_n c) := by rw [h.2.1.1]; exact h.1.1.2.2.1
theorem sy_ls (h : SY c0 c m M) {last : Nat} (hl : lst c last) : lst c0 last := by unfold lst at hl ⊢; rw [← h.2.1.1]; exact hl
theorem sy_em (h : SY c0 c m M) {last : Nat} (hl : lst c last) : gI M 15 last = nI (em c last) := by rw [al_em h.2.1]; exact (h.1.2.2.2.1 last (sy_ls h hl)).2.1
theorem sy_bar (d : Nat) (hM : pm_ok M) (h : SY c0 c m M) {last k : Nat} (hl : lst c last) (hk : k < cf_n c) : pm_call (d + 1) 15 [.ref 7, .int (nI last), .int (nI k)] M (some (.int (if bar c last k = true then 1 else 0))) M := by
  rw [al_bar h.2.1]
  exact c_isBarred d hM h.2.2.1 h.1 (sy_ls h hl) (by rw [← h.2.1.1]; exact hk)
theorem sy_tk (d : Nat) (hM : pm_ok M) (h : SY c0 c m M) {last k : Nat} (hl : lst c last) (hk : k < cf_n c) : pm_call (d + 1) 14 [.ref 7, .int (nI last), .int (nI k)] M (some (.int (nI (tk c last k)))) M := by
  rw [al_tk h.2.1]
  exact c_takesBehind d hM h.2.2.1 h.1 (sy_ls h hl) (by rw [← h.2.1.1]; exact hk)
theorem sy_pr (d : Nat) (hM : pm_ok M) (h : SY c0 c m M) {last k : Nat} (hl : last < cf_n c) (hk : k < cf_n c) : pm_call (d + 1) 16 [.ref 7, .int (nI last), .int (nI k)] M (some (.int (p32 (pr c last k)))) M := by
  rw [al_pr h.2.1]
  exact c_pairedSign d hM h.2.2.1 h.1 (by rw [← h.2.1.1]; exact hl) (by rw [← h.2.1.1]; exact hk)
theorem sy_pb (h : SY c0 c m M) {k : Nat} (hk : k < cf_n c) : ∃ w : Nat, gI M 18 k = nI w ∧ w < 1024 ∧ ∀ s, w.testBit s = true ↔ ∃ b, b < cf_n c ∧ pr c k b = some s := by
  obtain ⟨w, h1, h2, h3⟩ := h.1.2.2.2.2.2.1 k (by rw [← h.2.1.1]; exact hk)
  refine ⟨w, h1, h2, fun s => ?_⟩
  rw [h3 s, h.2.1.1]
  simp only [al_pr h.2.1]
theorem sy_pe (h : SY c0 c m M) {k : Nat} (hk : k < cf_n c) : ∃ w : Nat, gI M 19 k = nI w ∧ w < 1024 ∧ ∀ s, w.testBit s = true ↔ ∃ b, b < cf_n c ∧ pr c b k = some s := by
  obtain ⟨w, h1, h2, h3⟩ := h.1.2.2.2.2.2.2 k (by rw [← h.2.1.1]; exact hk)
  refine ⟨w, h1, h2, fun s => ?_⟩
  rw [h3 s, h.2.1.1]
  simp only [al_pr h.2.1]
theorem sy_m (h : SY c0 c m M) {i : Nat} (hi : i < m.length) : gI M 29 i = nI (m.getD i 0) ∧ m.getD i 0 < 10 := by
  have := h.2.2.2.2.1.2.2 i (by rw [map_len]; exact hi)
  rw [map_getD hi] at this
  exact ⟨this, mem_gd h.2.2.2.2.2.2.1 hi⟩
theorem sy_l (h : SY c0 c m M) : gI M 28 1 = nI m.length := by
  have := h.2.2.2.2.1.1
  rw [map_len] at this
  exact this
end SYM

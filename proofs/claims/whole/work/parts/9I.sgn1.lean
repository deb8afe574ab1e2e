/-! SIGNS CHANGED AMONG KNOTS: all ways, and fewer of them -/
abbrev Bs : Type := Nat × List Nat
def lpb (F : Nat → Bs → Bs) : Nat → Bs → Bs
  | 0, b => b
  | k + 1, b => F k (lpb F k b)
theorem lpb_s (F : Nat → Bs → Bs) (k : Nat) (b : Bs) : lpb F (k + 1) b = F k (lpb F k b) := rfl
/-- all ways from a beginning on, but those that are passed over -/
def AS (p : List Nat → Nat → Bool) (val : List Nat → Nat) (n : Nat) : Nat → List Nat → Bs → Bs
  | 0, w, b => if val w < b.1 then (val w, w) else b
  | f + 1, w, b => lpb (fun o b => if o ∈ w then b else if p w o = true then b else AS p val n f (w ++ [o]) b) n b
def okw (n : Nat) (w : List Nat) : Prop := (∀ x, x ∈ w → x < n) ∧ w.Nodup
theorem okw_s {n : Nat} {w : List Nat} (h : okw n w) {o : Nat} (ho : o < n) (hn : ¬ o ∈ w) : okw n (w ++ [o]) := by
  refine ⟨fun x hx => (List.mem_append.mp hx).elim (h.1 x) (fun z => by rw [List.mem_singleton.mp z]; exact ho), ?_⟩
  rw [List.nodup_append]
  refine ⟨h.2, by simp, fun a ha b hb z => ?_⟩
  rw [List.mem_singleton.mp hb] at z
  rw [z] at ha
  exact hn ha
/-- a whole way that begins so -/
def ext (n : Nat) (w e : List Nat) : Prop := ∃ t, e = w ++ t ∧ e.length = n ∧ okw n e
section ASG
variable {val : List Nat → Nat} {n : Nat} {p : List Nat → Nat → Bool}
theorem lpb_mono {F : Nat → Bs → Bs} (h : ∀ o b, (F o b).1 ≤ b.1) : ∀ k b, (lpb F k b).1 ≤ b.1
  | 0, b => Nat.le_refl _
  | k + 1, b => by rw [lpb_s]; exact Nat.le_trans (h _ _) (lpb_mono h k b)
theorem lpb_mid {F : Nat → Bs → Bs} (h : ∀ o b, (F o b).1 ≤ b.1) {j : Nat} (b : Bs) : ∀ k, j ≤ k → (lpb F k b).1 ≤ (lpb F j b).1
  | 0, hj => by rw [show j = 0 by omega]; exact Nat.le_refl _
  | k + 1, hj => by
    rcases Nat.lt_or_ge j (k + 1) with z | z
    · rw [lpb_s]; exact Nat.le_trans (h _ _) (lpb_mid h b k (by omega))
    · rw [show j = k + 1 by omega]; exact Nat.le_refl _
theorem AS_mono : ∀ f w b, (AS p val n f w b).1 ≤ b.1
  | 0, w, b => by
    unfold AS
    split
    · exact Nat.le_of_lt (by assumption)
    · exact Nat.le_refl _
  | f + 1, w, b => by
    refine lpb_mono (fun o b => ?_) n b
    split
    · exact Nat.le_refl _
    · split
      · exact Nat.le_refl _
      · exact AS_mono f _ b
theorem ext_s {w e : List Nat} {o : Nat} (h : ext n (w ++ [o]) e) : ext n w e := by
  obtain ⟨t, h1, h2, h3⟩ := h
  exact ⟨o :: t, by rw [h1]; simp, h2, h3⟩
theorem ext_c {w e : List Nat} (h : ext n w e) (hl : w.length < n) : ∃ o, o < n ∧ ¬ o ∈ w ∧ ext n (w ++ [o]) e := by
  obtain ⟨t, h1, h2, h3⟩ := h
  cases t with
  | nil => rw [h1, List.append_nil] at h2; omega
  | cons o t =>
    refine ⟨o, h3.1 o (by rw [h1]; simp), fun z => ?_, t, by rw [h1]; simp, h2, h3⟩
    have := h3.2
    rw [h1, List.nodup_append] at this
    exact this.2.2 o z o List.mem_cons_self rfl
/-- the least of all -/
theorem AS_le : ∀ f w b e, f + w.length = n → ext n w e → (AS (fun _ _ => false) val n f w b).1 ≤ val e
  | 0, w, b, e, hl, he => by
    obtain ⟨t, h1, h2, h3⟩ := he
    have ht : t = [] := by
      have := congrArg List.length h1
      rw [List.length_append] at this
      exact List.length_eq_zero_iff.mp (by omega)
    rw [ht, List.append_nil] at h1
    subst h1
    unfold AS
    split
    · exact Nat.le_refl _
    · omega
  | f + 1, w, b, e, hl, he => by
    obtain ⟨o, ho, hn, h1⟩ := ext_c he (by omega)
    have hm : ∀ (o : Nat) (b : Bs), (if o ∈ w then b else if (fun (_ : List Nat) (_ : Nat) => false) w o = true then b else AS (fun _ _ => false) val n f (w ++ [o]) b).1 ≤ b.1 := fun o b => by
      split
      · exact Nat.le_refl _
      · split
        · exact Nat.le_refl _
        · exact AS_mono f _ b
    refine Nat.le_trans (lpb_mid (j := o + 1) hm b n (by omega)) ?_
    rw [lpb_s]
    dsimp only
    rw [if_neg hn, if_neg (by decide)]
    exact AS_le f (w ++ [o]) _ e (by simp; omega) h1
/-- nothing changes where nothing is less -/
theorem AS_id : ∀ f w b, f + w.length = n → okw n w → (∀ e, ext n w e → b.1 ≤ val e) → AS (fun _ _ => false) val n f w b = b
  | 0, w, b, hl, hw, h => by
    have := h w ⟨[], by simp, by omega, hw⟩
    unfold AS
    rw [if_neg (by omega)]
  | f + 1, w, b, hl, hw, h => by
    have : ∀ k, k ≤ n → lpb (fun o b => if o ∈ w then b else if (fun (_ : List Nat) (_ : Nat) => false) w o = true then b else AS (fun _ _ => false) val n f (w ++ [o]) b) k b = b := by
      intro k
      induction k with
      | zero => intro _; rfl
      | succ k ih =>
        intro hk
        rw [lpb_s, ih (by omega)]
        dsimp only
        by_cases g : k ∈ w
        · rw [if_pos g]
        · rw [if_neg g, if_neg (by decide)]
          exact AS_id f (w ++ [k]) b (by simp; omega) (okw_s hw (by omega) g) (fun e he => h e (ext_s he))
    exact this n (Nat.le_refl _)
/-- ways that are passed over don't matter -/
theorem AS_eq (hp : ∀ w o, okw n w → o < n → ¬ o ∈ w → p w o = true → ∃ q, q < o ∧ ¬ q ∈ w ∧ ∀ e, ext n (w ++ [o]) e → ∃ e', ext n (w ++ [q]) e' ∧ val e' = val e) : ∀ f w b, f + w.length = n → okw n w → AS p val n f w b = AS (fun _ _ => false) val n f w b
  | 0, w, b, _, _ => rfl
  | f + 1, w, b, hl, hw => by
    have hm : ∀ (o : Nat) (b : Bs), (if o ∈ w then b else if (fun (_ : List Nat) (_ : Nat) => false) w o = true then b else AS (fun _ _ => false) val n f (w ++ [o]) b).1 ≤ b.1 := fun o b => by
      split
      · exact Nat.le_refl _
      · split
        · exact Nat.le_refl _
        · exact AS_mono f _ b
    have key : ∀ k, k ≤ n → lpb (fun o b => if o ∈ w then b else if p w o = true then b else AS p val n f (w ++ [o]) b) k b = lpb (fun o b => if o ∈ w then b else if (fun (_ : List Nat) (_ : Nat) => false) w o = true then b else AS (fun _ _ => false) val n f (w ++ [o]) b) k b := by
      intro k
      induction k with
      | zero => intro _; rfl
      | succ k ih =>
        intro hk
        rw [lpb_s, lpb_s, ih (by omega)]
        dsimp only
        by_cases g : k ∈ w
        · rw [if_pos g, if_pos g]
        · rw [if_neg g, if_neg g, if_neg (show ¬ false = true by decide)]
          have hl' : f + (w ++ [k]).length = n := by simp; omega
          have hw' := okw_s hw (show k < n by omega) g
          by_cases g2 : p w k = true
          · rw [if_pos g2]
            obtain ⟨q, q1, q2, q3⟩ := hp w k hw (by omega) g g2
            refine (AS_id f (w ++ [k]) _ hl' hw' (fun e he => ?_)).symm
            obtain ⟨e', e1, e2⟩ := q3 e he
            rw [← e2]
            refine Nat.le_trans (lpb_mid (j := q + 1) hm b k (by omega)) ?_
            rw [lpb_s]
            dsimp only
            rw [if_neg q2, if_neg (by decide)]
            exact AS_le f (w ++ [q]) _ e' (by simp; omega) e1
          · rw [if_neg g2]
            exact AS_eq hp f (w ++ [k]) _ hl' hw'
    exact key n (Nat.le_refl _)
end ASG
/-! the SIGNS given -/
def cs (c : Cf) (w : List Nat) : Cf := (c.1, c.2.1, c.2.2.1, (fun i => cf_sg c (w.getD i 0)), c.2.2.2.2)
theorem al_cs (c : Cf) (w : List Nat) : alike c (cs c w) := ⟨rfl, rfl, rfl, rfl, rfl, rfl, rfl, rfl, rfl⟩
theorem cs_wf {c : Cf} (h : cf_wf c) {w : List Nat} (hw : ∀ x, x ∈ w → x < cf_n c) (hl : w.length = cf_n c) : cf_wf (cs c w) := by
  refine ⟨h.1, h.2.1, h.2.2.1, h.2.2.2.1, h.2.2.2.2.1, fun k hk => ?_, h.2.2.2.2.2.2⟩
  have hk' : k < cf_n c := hk
  obtain ⟨a1, a2, a3, a4, a5⟩ := h.2.2.2.2.2.1 k hk'
  exact ⟨a1, a2, a3, (h.2.2.2.2.2.1 _ (mem_gd hw (by omega))).2.2.2.1, a5⟩
def vl (c : Cf) (m : List Nat) (w : List Nat) : Nat := nv (LF (cs c w) m 20 s00)
/-- two SIGNS of which one does as well as the other -/
def lik (c : Cf) (m : List Nat) (o1 o2 : Nat) : Bool := decide (cf_sg c o1 = cf_sg c o2) || (decide (¬ cf_sg c o1 ∈ m) && decide (¬ cf_sg c o2 ∈ m))
def pru (c : Cf) (m : List Nat) (w : List Nat) (o : Nat) : Bool := anyb (fun q => decide (¬ q ∈ w) && lik c m q o) o
section LSG
variable {c1 c2 : Cf} {m : List Nat}
theorem LF_sg (ha : alike c1 c2) (h : ∀ i, i < cf_n c1 → ∀ r, r < m.length → (cf_sg c1 i = m.getD r 0 ↔ cf_sg c2 i = m.getD r 0)) : ∀ f s, okS c1 s → LF c2 m f s = LF c1 m f s := by
  have hsd : ∀ s, okS c1 s → sde c2 m s = sde c1 m s := by
    intro s ho
    obtain ⟨r, last, o⟩ := s
    unfold sde
    rw [al_em ha]
    have : sdn c2 m (r, last, o) = sdn c1 m (r, last, o) := by
      unfold sdn
      dsimp only
      cases o with
      | false => rfl
      | true =>
        rw [if_pos rfl, if_pos rfl]
        by_cases g : r + 1 = m.length
        · have hh := h last (ho rfl) r (by omega)
          by_cases g2 : cf_sg c1 last = m.getD r 0
          · rw [decide_eq_true g2, decide_eq_true (hh.mp g2)]
          · rw [decide_eq_false g2, decide_eq_false (fun z => g2 (hh.mpr z))]
        · rw [decide_eq_false g]; rfl
    rw [this]
  have hnx : ∀ s k, okS c1 s → nx c2 m s k = nx c1 m s k := by
    intro s k ho
    obtain ⟨r, last, o⟩ := s
    unfold nx
    dsimp only
    rw [al_bar ha, al_pr ha]
    by_cases g : m.length ≤ r ∨ bar c1 last k = true
    · rw [if_pos g, if_pos g]
    · rw [if_neg g, if_neg g]
      cases o with
      | false => rfl
      | true =>
        rw [if_neg (show ¬ true = false by decide), if_neg (show ¬ true = false by decide)]
        cases pr c1 last k with
        | some t => rfl
        | none =>
          dsimp only
          have hh := h last (ho rfl) r (Nat.lt_of_not_le (fun z => g (Or.inl z)))
          by_cases g2 : cf_sg c1 last = m.getD r 0
          · rw [if_pos g2, if_pos (hh.mp g2)]
          · rw [if_neg g2, if_neg (fun z => g2 (hh.mpr z))]
  intro f
  induction f with
  | zero => exact hsd
  | succ f ih =>
    intro s ho
    rw [LF_s, LF_s, hsd s ho, ha.1]
    refine lb_cg _ (fun k hk => ?_)
    unfold gk
    rw [hnx s k ho, al_tk ha]
    cases hx : nx c1 m s k with
    | none => rfl
    | some s' =>
      dsimp only
      rw [ih s' (nx_ok hk hx).2]
end LSG
theorem okS00 (c : Cf) : okS c s00 := fun z => by cases z
/-- one SIGN for the other -/
def swp (a b x : Nat) : Nat := if x = a then b else if x = b then a else x
theorem swp_inj (a b : Nat) {x y : Nat} (h : swp a b x = swp a b y) : x = y := by
  unfold swp at h
  split at h <;> split at h <;> (try split at h) <;> (try split at h) <;> omega
theorem nodup_map_inj {f : Nat → Nat} (hf : ∀ x y, f x = f y → x = y) : ∀ l : List Nat, l.Nodup → (l.map f).Nodup
  | [], _ => by simp
  | x :: l, h => by
    rw [List.nodup_cons] at h
    rw [List.map_cons, List.nodup_cons]
    refine ⟨fun z => ?_, nodup_map_inj hf l h.2⟩
    obtain ⟨y, hy, e⟩ := List.mem_map.mp z
    rw [hf y x e] at hy
    exact h.1 hy
theorem pru_ok {c : Cf} {m : List Nat} (w : List Nat) (o : Nat) (hw : okw (cf_n c) w) (ho : o < cf_n c) (hn : ¬ o ∈ w) (h : pru c m w o = true) : ∃ q, q < o ∧ ¬ q ∈ w ∧ ∀ e, ext (cf_n c) (w ++ [o]) e → ∃ e', ext (cf_n c) (w ++ [q]) e' ∧ vl c m e' = vl c m e := by
  obtain ⟨q, q1, q2⟩ := (anyb_iff _).mp h
  rw [Bool.and_eq_true] at q2
  have q3 := of_decide_eq_true q2.1
  refine ⟨q, q1, q3, fun e he => ?_⟩
  obtain ⟨t, h1, h2, h3⟩ := he
  have hsw : w.map (swp o q) = w := by
    have : w.map (swp o q) = w.map id := List.map_congr_left (fun x hx => by
      unfold swp
      rw [if_neg (fun z => hn (by rw [← z]; exact hx)), if_neg (fun z => q3 (by rw [← z]; exact hx))]
      rfl)
    rw [this, List.map_id]
  refine ⟨e.map (swp o q), ⟨t.map (swp o q), ?_, by rw [List.length_map]; exact h2, fun x hx => ?_, nodup_map_inj (fun x y => swp_inj o q) e h3.2⟩, ?_⟩
  · rw [h1]
    simp only [List.map_append, hsw, List.map_cons, List.map_nil]
    rw [show swp o q o = q by unfold swp; rw [if_pos rfl]]
  · obtain ⟨y, hy, rfl⟩ := List.mem_map.mp hx
    have := h3.1 y hy
    unfold swp
    split
    · omega
    · split
      · exact ho
      · exact this
  · unfold vl
    congr 1
    refine LF_sg (c1 := cs c e) (c2 := cs c (e.map (swp o q))) ⟨rfl, rfl, rfl, rfl, rfl, rfl, rfl, rfl, rfl⟩ (fun i hi r hr => ?_) 20 s00 (okS00 _)
    have hi' : i < e.length := by rw [h2]; exact hi
    show cf_sg c (e.getD i 0) = m.getD r 0 ↔ cf_sg c ((e.map (swp o q)).getD i 0) = m.getD r 0
    have em : (e.map (swp o q)).getD i 0 = swp o q (e.getD i 0) := by
      rw [List.getD_eq_getElem?_getD, List.getD_eq_getElem?_getD, List.getElem?_map, List.getElem?_eq_getElem hi']
      rfl
    rw [em]
    have hmr : m.getD r 0 ∈ m := by
      rw [List.getD_eq_getElem?_getD, List.getElem?_eq_getElem hr]
      exact List.getElem_mem hr
    have hl := q2.2
    unfold lik at hl
    rw [Bool.or_eq_true] at hl
    have key : cf_sg c o = m.getD r 0 ↔ cf_sg c q = m.getD r 0 := by
      rcases hl with z | z
      · rw [of_decide_eq_true z]
      · rw [Bool.and_eq_true] at z
        have z1 := of_decide_eq_true z.1
        have z2 := of_decide_eq_true z.2
        exact ⟨fun y => absurd (by rw [y]; exact hmr) z2, fun y => absurd (by rw [y]; exact hmr) z1⟩
    unfold swp
    by_cases g1 : e.getD i 0 = o
    · rw [if_pos g1, g1]; exact key
    · rw [if_neg g1]
      by_cases g2 : e.getD i 0 = q
      · rw [if_pos g2, g2]; exact key.symm
      · rw [if_neg g2]
theorem AS_sgn {c : Cf} {m : List Nat} (b : Bs) : AS (pru c m) (vl c m) (cf_n c) (cf_n c) [] b = AS (fun _ _ => false) (vl c m) (cf_n c) (cf_n c) [] b := AS_eq (fun w o => pru_ok w o) (cf_n c) [] b rfl ⟨fun x hx => absurd hx List.not_mem_nil, List.nodup_nil⟩

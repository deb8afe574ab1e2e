/-! BOTH OBJECTS ARE MADE: what the memory holds while they are made, as lists -/
def lkR : List (Nat × Nat × Nat) → Nat → Nat → Option Nat
  | [], _, _ => none
  | q :: t, k, f => if k = q.1 ∧ f = q.2.1 then some q.2.2 else lkR t k f
def lkI : List (Nat × Nat × Int32) → Nat → Nat → Int32
  | [], _, _ => 0
  | q :: t, k, f => if k = q.1 ∧ f = q.2.1 then q.2.2 else lkI t k f
/-- cells, references, numbers; no other number but 0 -/
def In (T : List (Nat × Nat)) (R : List (Nat × Nat × Nat)) (Z : List (Nat × Nat × Int32)) (M : pm_M) : Prop :=
  M.1 = T ∧ (∀ k f, gR M k f = lkR R k f) ∧ (∀ k f, gI M k f = lkI Z k f) ∧ (∀ k f, gL M k f = 0) ∧ (∀ k f, T.length ≤ k → lkR R k f = none) ∧ (∀ k f, T.length ≤ k → lkI Z k f = 0)
theorem ge_lt' {α : Type} {l : List α} {x : α} {i : Nat} (h : l[i]? = some x) : i < l.length := (List.getElem?_eq_some_iff.mp h).1
section INI
variable {T T' : List (Nat × Nat)} {R R' : List (Nat × Nat × Nat)} {Z Z' : List (Nat × Nat × Int32)} {M : pm_M}
theorem In.to (h : In T R Z M) (h1 : T = T') (h2 : R = R') (h3 : Z = Z') : In T' R' Z' M := by subst h1 h2 h3; exact h
theorem In.nw (h : In T R Z M) (c N : Nat) : In (T ++ [(c, N)]) R Z (pm_nw M c N) := by
  obtain ⟨h1, h2, h3, h4, h5, h6⟩ := h
  have hl : M.1.length = T.length := by rw [h1]
  refine ⟨by show M.1 ++ [(c, N)] = _; rw [h1], fun k f => ?_, fun k f => ?_, fun k f => ?_, fun k f hk => h5 k f ?_, fun k f hk => h6 k f ?_⟩
  · show (if k = M.1.length then none else M.2.2.2 k f) = _
    split
    · exact (h5 k f (by omega)).symm
    · exact h2 k f
  · show (if k = M.1.length then 0 else M.2.1 k f) = _
    split
    · exact (h6 k f (by omega)).symm
    · exact h3 k f
  · show (if k = M.1.length then 0 else M.2.2.1 k f) = _
    split
    · rfl
    · exact h4 k f
  · rw [List.length_append] at hk; omega
  · rw [List.length_append] at hk; omega
theorem In.sR (h : In T R Z M) {k : Nat} {x : Nat × Nat} (hk : T[k]? = some x) (f v : Nat) : In T ((k, f, v) :: R) Z (sR M k f (some v)) := by
  obtain ⟨h1, h2, h3, h4, h5, h6⟩ := h
  have hl := ge_lt' hk
  refine ⟨h1, fun a b => ?_, h3, h4, fun a b ha => ?_, h6⟩
  · rw [gR_sR]
    show _ = if a = k ∧ b = f then some v else lkR R a b
    split
    · rfl
    · exact h2 a b
  · show (if a = k ∧ b = f then some v else lkR R a b) = none
    rw [if_neg (fun z => by omega)]
    exact h5 a b ha
theorem In.sI (h : In T R Z M) {k : Nat} {x : Nat × Nat} (hk : T[k]? = some x) (f : Nat) (v : Int32) : In T R ((k, f, v) :: Z) (sI M k f v) := by
  obtain ⟨h1, h2, h3, h4, h5, h6⟩ := h
  have hl := ge_lt' hk
  refine ⟨h1, h2, fun a b => ?_, h4, h5, fun a b ha => ?_⟩
  · rw [gI_sI]
    show _ = if a = k ∧ b = f then v else lkI Z a b
    split
    · rfl
    · exact h3 a b
  · show (if a = k ∧ b = f then v else lkI Z a b) = 0
    rw [if_neg (fun z => by omega)]
    exact h6 a b ha
theorem In.t (h : In T R Z M) {k : Nat} {x : Nat × Nat} (hk : T[k]? = some x) : M.1[k]? = some x := by rw [h.1]; exact hk
theorem In.r (h : In T R Z M) {k f a : Nat} (hk : lkR R k f = some a) : gR M k f = some a := by rw [h.2.1]; exact hk
variable {call : pm_Cr} {cd : List (Nat × pm_Sem)} {Q : Option Value → pm_M → Prop} {pc : Nat} {L L' : pm_L} {st st' : List Value}
theorem st_newI {c N nx n : Nat} (h : cd.lookup pc = some (op_new c N nx)) (hi : In T R Z M) (hn : T.length = n) (kk : ∀ M1, In (T ++ [(c, N)]) R Z M1 → pm_WP call cd Q nx L (.ref n :: st) M1) : pm_WP call cd Q pc L st M := by
  refine st_new h ?_
  rw [hi.1, hn]
  exact kk _ (hi.nw c N)
theorem st_nwaI {t nx N m : Nat} {n : Int32} (h : cd.lookup pc = some (op_nwa t nx)) (hi : In T R Z M) (g1 : ¬ n < 0) (hN : n.toNatClampNeg = N) (g2 : N ≤ 1000000) (hn : T.length = m) (kk : ∀ M1, In (T ++ [(t, N)]) R Z M1 → pm_WP call cd Q nx L (.ref m :: st') M1) : pm_WP call cd Q pc L (.int n :: st') M := by
  refine st_nwa h g1 (by rw [hN]; exact g2) ?_
  rw [hi.1, hn, hN]
  exact kk _ (hi.nw t N)
theorem st_pRI {c N f nx k v : Nat} (h : cd.lookup pc = some (op_pR c N f nx)) (hi : In T R Z M) (g : T[k]? = some (c, N)) (kk : ∀ M1, In T ((k, f, v) :: R) Z M1 → pm_WP call cd Q nx L st' M1) : pm_WP call cd Q pc L (.ref v :: .ref k :: st') M := st_pR h (hi.t g) (kk _ (hi.sR g f v))
theorem st_pII {c N f nx k : Nat} {v : Int32} (h : cd.lookup pc = some (op_pI c N f nx)) (hi : In T R Z M) (g : T[k]? = some (c, N)) (kk : ∀ M1, In T R ((k, f, v) :: Z) M1 → pm_WP call cd Q nx L st' M1) : pm_WP call cd Q pc L (.int v :: .ref k :: st') M := st_pI h (hi.t g) (kk _ (hi.sI g f v))
theorem st_aastI {t c N nx v k n j : Nat} {i : Int32} (h : cd.lookup pc = some (op_aast t c N nx)) (hi : In T R Z M) (g1 : T[k]? = some (t, n)) (g2 : T[v]? = some (c, N)) (hj : i.toNatClampNeg = j) (g3 : vp_in i n) (kk : ∀ M1, In T ((k, j, v) :: R) Z M1 → pm_WP call cd Q nx L st' M1) : pm_WP call cd Q pc L (.ref v :: .int i :: .ref k :: st') M := st_aast h (hi.t g1) (hi.t g2) g3 (by rw [hj]; exact kk _ (hi.sR g1 j v))
theorem st_iastI {nx k n j : Nat} {i x : Int32} (h : cd.lookup pc = some (op_iast nx)) (hi : In T R Z M) (g1 : T[k]? = some (100, n)) (hj : i.toNatClampNeg = j) (g3 : vp_in i n) (kk : ∀ M1, In T R ((k, j, x) :: Z) M1 → pm_WP call cd Q nx L st' M1) : pm_WP call cd Q pc L (.int x :: .int i :: .ref k :: st') M := st_iast h (hi.t g1) g3 (by rw [hj]; exact kk _ (hi.sI g1 j x))
theorem st_gRI {c N f nx k a : Nat} (h : cd.lookup pc = some (op_gR c N f nx)) (hi : In T R Z M) (g : T[k]? = some (c, N)) (hr : lkR R k f = some a) (kk : pm_WP call cd Q nx L (.ref a :: st') M) : pm_WP call cd Q pc L (.ref k :: st') M := st_gR' h (hi.t g) (hi.r hr) kk
theorem st_aaldI {t nx k n a j : Nat} {i : Int32} (h : cd.lookup pc = some (op_aald t nx)) (hi : In T R Z M) (g : T[k]? = some (t, n)) (hj : i.toNatClampNeg = j) (g3 : vp_in i n) (hr : lkR R k j = some a) (kk : pm_WP call cd Q nx L (.ref a :: st') M) : pm_WP call cd Q pc L (.int i :: .ref k :: st') M := st_aald' h (hi.t g) g3 (by rw [hj]; exact hi.r hr) kk
theorem st_alenI {nx k t n : Nat} {y : Int32} (h : cd.lookup pc = some (op_alen nx)) (hi : In T R Z M) (g : T[k]? = some (t, n)) (g2 : 100 ≤ t) (g3 : t ≤ 105) (hy : Int32.ofNat n = y) (kk : pm_WP call cd Q nx L (.int y :: st') M) : pm_WP call cd Q pc L (.ref k :: st') M := st_alen h (hi.t g) g2 g3 (by rw [hy]; exact kk)
theorem st_cavI {j na c N nx k : Nat} {As rest : List Value} (h : cd.lookup pc = some (op_cav j na c N nx)) (hi : In T R Z M) (hs : st = As.reverse ++ .ref k :: rest) (g1 : As.length = na) (g2 : T[k]? = some (c, N)) (g3 : (rest.map fun v => v.category).sum ≤ 8) (g4 : ∃ M', call j (.ref k :: As) M none M' ∧ In T' R' Z' M') (kk : ∀ M1, In T' R' Z' M1 → pm_WP call cd Q nx L rest M1) : pm_WP call cd Q pc L st M := by
  obtain ⟨M', g4, g5⟩ := g4
  exact st_cav h hs g1 (hi.t g2) g3 g4 (kk M' g5)
theorem st_incI {i nx : Nat} {n x y : Int32} (h : cd.lookup pc = some (op_inc i n nx)) (g0 : L[i]? = some (some (.int x))) (hx : x + n = y) (hL : pm_st1 L i (.int y) = L') (kk : pm_WP call cd Q nx L' st M) : pm_WP call cd Q pc L st M := st_inc h g0 (by rw [hx, hL]; exact kk)
theorem st_istI {i nx : Nat} {x : Int32} (h : cd.lookup pc = some (op_ist i nx)) (hL : pm_st1 L i (.int x) = L') (kk : pm_WP call cd Q nx L' st' M) : pm_WP call cd Q pc L (.int x :: st') M := st_ist h (by rw [hL]; exact kk)
theorem i_row (d : Nat) {o n : Nat} (h : In T R Z M) (ho : T[o]? = some (5, 2)) (hn : T.length = n) : ∃ M', pm_call (d + 1) 44 [.ref o] M none M' ∧ In (T ++ [(100, 40)]) ((o, 0, n) :: R) Z M' := by
  obtain ⟨r, M', hc, hr, h1⟩ := eq_44 (d := d) (A := [.ref o]) (M := M) (Q := fun r M' => r = none ∧ In (T ++ [(100, 40)]) ((o, 0, n) :: R) Z M') (Nat.le_of_ble_eq_true rfl) (by
    refine st_ald rfl rfl ?_
    refine st_oin rfl (Nat.le_of_ble_eq_true rfl) ?_
    refine st_ald rfl rfl ?_
    refine st_k rfl ?_
    refine st_nwaI (N := 40) (m := n) rfl h (by decide) (by decide) (by decide) hn (fun M1 h1 => ?_)
    refine st_pRI rfl h1 (by rw [List.getElem?_append_left (ge_lt' ho)]; exact ho) (fun M2 h2 => ?_)
    exact st_vret rfl ⟨rfl, h2⟩)
  subst hr
  exact ⟨M', hc, h1⟩
theorem i_text (d : Nat) {o n : Nat} (h : In T R Z M) (ho : T[o]? = some (9, 2)) (hn : T.length = n) : ∃ M', pm_call (d + 1) 87 [.ref o] M none M' ∧ In (T ++ [(102, 80)]) ((o, 0, n) :: R) ((o, 1, -1) :: Z) M' := by
  have ho2 : (T ++ [(102, 80)])[o]? = some (9, 2) := by rw [List.getElem?_append_left (ge_lt' ho)]; exact ho
  obtain ⟨r, M', hc, hr, h1⟩ := eq_87 (d := d) (A := [.ref o]) (M := M) (Q := fun r M' => r = none ∧ In (T ++ [(102, 80)]) ((o, 0, n) :: R) ((o, 1, -1) :: Z) M') (Nat.le_of_ble_eq_true rfl) (by
    refine st_ald rfl rfl ?_
    refine st_oin rfl (Nat.le_of_ble_eq_true rfl) ?_
    refine st_ald rfl rfl ?_
    refine st_k rfl ?_
    refine st_nwaI (N := 80) (m := n) rfl h (by decide) (by decide) (by decide) hn (fun M1 h1 => ?_)
    refine st_pRI rfl h1 ho2 (fun M2 h2 => ?_)
    refine st_ald rfl rfl ?_
    refine st_k rfl ?_
    refine st_pII rfl h2 ho2 (fun M3 h3 => ?_)
    exact st_vret rfl ⟨rfl, h3⟩)
  subst hr
  exact ⟨M', hc, h1⟩
end INI

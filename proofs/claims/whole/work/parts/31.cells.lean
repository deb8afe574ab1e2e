/-! THE CELLS once both objects are made: types, references -/
def pm_T0 : List (Nat × Nat) := [(10, 20), (104, 6), (105, 4), (5, 2), (100, 40), (104, 3), (100, 3), (1, 17), (100, 6), (100, 6), (100, 6), (100, 6), (100, 6), (100, 6), (100, 7), (100, 7), (100, 42), (100, 36), (100, 6), (100, 6), (2, 8), (100, 18), (100, 18), (100, 18), (100, 3), (8, 3), (101, 14700), (6, 6), (5, 2), (100, 40), (100, 6), (100, 1820), (101, 28000), (7, 8), (100, 6), (5, 2), (100, 40), (5, 2), (100, 40), (5, 2), (100, 40), (0, 8), (5, 2), (100, 40), (5, 2), (100, 40), (5, 2), (100, 40), (5, 2), (100, 40), (5, 2), (100, 40), (3, 4), (100, 64), (100, 64), (4, 2), (104, 21), (5, 2), (100, 40), (5, 2), (100, 40), (5, 2), (100, 40), (5, 2), (100, 40), (5, 2), (100, 40), (5, 2), (100, 40), (5, 2), (100, 40), (5, 2), (100, 40), (5, 2), (100, 40), (5, 2), (100, 40), (5, 2), (100, 40), (5, 2), (100, 40), (5, 2), (100, 40), (5, 2), (100, 40), (5, 2), (100, 40), (5, 2), (100, 40), (5, 2), (100, 40), (5, 2), (100, 40), (5, 2), (100, 40), (5, 2), (100, 40), (5, 2), (100, 40), (5, 2), (100, 40), (5, 2), (100, 40), (5, 2), (100, 40), (100, 6), (5, 2), (100, 40), (5, 2), (100, 40), (5, 2), (100, 40), (5, 2), (100, 40), (5, 2), (100, 40), (5, 2), (100, 40), (9, 2), (102, 80), (9, 2), (102, 80), (9, 2), (102, 80), (9, 2), (102, 80), (5, 2), (100, 40), (5, 2), (100, 40), (5, 2), (100, 40), (11, 57), (100, 6), (100, 6), (100, 240), (100, 40), (100, 4), (102, 320), (100, 6), (100, 6), (100, 6), (100, 6), (100, 18), (100, 18), (100, 12), (100, 18), (100, 24), (100, 24), (100, 20), (100, 3), (100, 3), (100, 60), (103, 3), (101, 14700), (100, 12), (100, 3822), (101, 18200), (101, 18200), (100, 6), (100, 6), (100, 6), (100, 12), (100, 24), (100, 42), (100, 1008), (100, 64)]
def pm_R0L : List (Nat × List (Nat × Nat)) := [(0, [(0, 1), (1, 2), (2, 3), (3, 5), (4, 6), (5, 7), (6, 20), (7, 25), (8, 27), (9, 33), (10, 41), (11, 52), (12, 55), (13, 99), (14, 101), (15, 103), (16, 105)]), (1, [(0, 106), (1, 108), (2, 110), (3, 112), (4, 114), (5, 116)]), (2, [(0, 118), (1, 120), (2, 122), (3, 124)]), (3, [(0, 4)]), (5, [(0, 126), (1, 128), (2, 130)]), (7, [(5, 8), (6, 9), (7, 10), (8, 11), (9, 12), (10, 13), (11, 14), (12, 15), (13, 16), (14, 17), (15, 18), (16, 19)]), (20, [(0, 21), (1, 22), (2, 23), (3, 24)]), (25, [(0, 7), (1, 26)]), (27, [(0, 7), (1, 28), (2, 30), (4, 31), (5, 32)]), (28, [(0, 29)]), (33, [(0, 7), (1, 27), (2, 34), (3, 35), (4, 37), (7, 39)]), (35, [(0, 36)]), (37, [(0, 38)]), (39, [(0, 40)]), (41, [(0, 7), (1, 27), (2, 42), (3, 44), (4, 46), (5, 48), (7, 50)]), (42, [(0, 43)]), (44, [(0, 45)]), (46, [(0, 47)]), (48, [(0, 49)]), (50, [(0, 51)]), (52, [(0, 53), (1, 54)]), (55, [(0, 56)]), (56, [(0, 57), (1, 59), (2, 61), (3, 63), (4, 65), (5, 67), (6, 69), (7, 71), (8, 73), (9, 75), (10, 77), (11, 79), (12, 81), (13, 83), (14, 85), (15, 87), (16, 89), (17, 91), (18, 93), (19, 95), (20, 97)]), (57, [(0, 58)]), (59, [(0, 60)]), (61, [(0, 62)]), (63, [(0, 64)]), (65, [(0, 66)]), (67, [(0, 68)]), (69, [(0, 70)]), (71, [(0, 72)]), (73, [(0, 74)]), (75, [(0, 76)]), (77, [(0, 78)]), (79, [(0, 80)]), (81, [(0, 82)]), (83, [(0, 84)]), (85, [(0, 86)]), (87, [(0, 88)]), (89, [(0, 90)]), (91, [(0, 92)]), (93, [(0, 94)]), (95, [(0, 96)]), (97, [(0, 98)]), (99, [(0, 100)]), (101, [(0, 102)]), (103, [(0, 104)]), (106, [(0, 107)]), (108, [(0, 109)]), (110, [(0, 111)]), (112, [(0, 113)]), (114, [(0, 115)]), (116, [(0, 117)]), (118, [(0, 119)]), (120, [(0, 121)]), (122, [(0, 123)]), (124, [(0, 125)]), (126, [(0, 127)]), (128, [(0, 129)]), (130, [(0, 131)]), (132, [(1, 133), (4, 134), (5, 135), (6, 136), (7, 137), (8, 138), (12, 139), (13, 140), (14, 141), (16, 142), (18, 143), (26, 144), (27, 145), (28, 146), (30, 147), (32, 148), (34, 149), (35, 150), (36, 151), (37, 152), (38, 153), (39, 154), (41, 155), (42, 156), (43, 157), (44, 158), (45, 159), (46, 160), (47, 161), (50, 162), (51, 163), (53, 164), (54, 165), (55, 166)])]
def pm_R0 (k f : Nat) : Option Nat := match pm_R0L.lookup k with
  | some l => l.lookup f
  | none => none
def pm_fx (k f : Nat) : Bool := !(k == 33 && f == 4) && !(k == 41 && f == 5)
/-- the shape: types and references as made (but for the two references that change) -/
def pm_ok (M : pm_M) : Prop := M.1 = pm_T0 ∧ ∀ k f, pm_fx k f = true → gR M k f = pm_R0 k f
theorem tT {M : pm_M} (h : pm_ok M) {k : Nat} {x : Nat × Nat} (hx : pm_T0[k]? = some x) : M.1[k]? = some x := by rw [h.1]; exact hx
theorem rR {M : pm_M} (h : pm_ok M) {k f a : Nat} (hx : pm_R0 k f = some a) (hf : pm_fx k f = true) : gR M k f = some a := by rw [h.2 k f hf]; exact hx
theorem tRow {M : pm_M} (h : pm_ok M) {j : Nat} (hj : j < 6) : M.1[106 + 2 * j]? = some (5, 2) := tT h ((by decide +kernel : ∀ j, j < 6 → pm_T0[106 + 2 * j]? = some (5, 2)) j hj)
theorem tRowA {M : pm_M} (h : pm_ok M) {j : Nat} (hj : j < 6) : M.1[106 + 2 * j + 1]? = some (100, 40) := tT h ((by decide +kernel : ∀ j, j < 6 → pm_T0[106 + 2 * j + 1]? = some (100, 40)) j hj)
theorem rRow {M : pm_M} (h : pm_ok M) {j : Nat} (hj : j < 6) : gR M 1 j = some (106 + 2 * j) := by rw [h.2 1 j (by simp [pm_fx])]; exact (by decide +kernel : ∀ j, j < 6 → pm_R0 1 j = some (106 + 2 * j)) j hj
theorem rRowA {M : pm_M} (h : pm_ok M) {j : Nat} (hj : j < 6) : gR M (106 + 2 * j) 0 = some (106 + 2 * j + 1) := by rw [h.2 _ _ ((by decide +kernel : ∀ j, j < 6 → pm_fx (106 + 2 * j) 0 = true) j hj)]; exact (by decide +kernel : ∀ j, j < 6 → pm_R0 (106 + 2 * j) 0 = some (106 + 2 * j + 1)) j hj
theorem tTxt {M : pm_M} (h : pm_ok M) {j : Nat} (hj : j < 4) : M.1[118 + 2 * j]? = some (9, 2) := tT h ((by decide +kernel : ∀ j, j < 4 → pm_T0[118 + 2 * j]? = some (9, 2)) j hj)
theorem tTxtA {M : pm_M} (h : pm_ok M) {j : Nat} (hj : j < 4) : M.1[118 + 2 * j + 1]? = some (102, 80) := tT h ((by decide +kernel : ∀ j, j < 4 → pm_T0[118 + 2 * j + 1]? = some (102, 80)) j hj)
theorem rTxt {M : pm_M} (h : pm_ok M) {j : Nat} (hj : j < 4) : gR M 2 j = some (118 + 2 * j) := by rw [h.2 2 j (by simp [pm_fx])]; exact (by decide +kernel : ∀ j, j < 4 → pm_R0 2 j = some (118 + 2 * j)) j hj
theorem rTxtA {M : pm_M} (h : pm_ok M) {j : Nat} (hj : j < 4) : gR M (118 + 2 * j) 0 = some (118 + 2 * j + 1) := by rw [h.2 _ _ ((by decide +kernel : ∀ j, j < 4 → pm_fx (118 + 2 * j) 0 = true) j hj)]; exact (by decide +kernel : ∀ j, j < 4 → pm_R0 (118 + 2 * j) 0 = some (118 + 2 * j + 1)) j hj
theorem tKep {M : pm_M} (h : pm_ok M) {j : Nat} (hj : j < 3) : M.1[126 + 2 * j]? = some (5, 2) := tT h ((by decide +kernel : ∀ j, j < 3 → pm_T0[126 + 2 * j]? = some (5, 2)) j hj)
theorem rKep {M : pm_M} (h : pm_ok M) {j : Nat} (hj : j < 3) : gR M 5 j = some (126 + 2 * j) := by rw [h.2 5 j (by simp [pm_fx])]; exact (by decide +kernel : ∀ j, j < 3 → pm_R0 5 j = some (126 + 2 * j)) j hj
theorem tRdg {M : pm_M} (h : pm_ok M) {j : Nat} (hj : j < 21) : M.1[57 + 2 * j]? = some (5, 2) := tT h ((by decide +kernel : ∀ j, j < 21 → pm_T0[57 + 2 * j]? = some (5, 2)) j hj)
theorem rRdg {M : pm_M} (h : pm_ok M) {j : Nat} (hj : j < 21) : gR M 56 j = some (57 + 2 * j) := by rw [h.2 56 j (by simp [pm_fx])]; exact (by decide +kernel : ∀ j, j < 21 → pm_R0 56 j = some (57 + 2 * j)) j hj
/-- a Row object: its places lie just behind it -/
def pm_rw (o : Nat) : Bool := decide (pm_T0[o]? = some (5, 2)) && decide (pm_T0[o + 1]? = some (100, 40)) && decide (pm_R0 o 0 = some (o + 1)) && pm_fx o 0
theorem rw_T {M : pm_M} (h : pm_ok M) {o : Nat} (ho : pm_rw o = true) : M.1[o]? = some (5, 2) := by
  simp only [pm_rw, Bool.and_eq_true, decide_eq_true_eq] at ho
  exact tT h ho.1.1.1
theorem rw_A {M : pm_M} (h : pm_ok M) {o : Nat} (ho : pm_rw o = true) : M.1[o + 1]? = some (100, 40) := by
  simp only [pm_rw, Bool.and_eq_true, decide_eq_true_eq] at ho
  exact tT h ho.1.1.2
theorem rw_R {M : pm_M} (h : pm_ok M) {o : Nat} (ho : pm_rw o = true) : gR M o 0 = some (o + 1) := by
  simp only [pm_rw, Bool.and_eq_true, decide_eq_true_eq] at ho
  exact rR h ho.1.2 ho.2
theorem rw_row : ∀ j, j < 6 → pm_rw (106 + 2 * j) = true := by decide +kernel
theorem rw_kep : ∀ j, j < 3 → pm_rw (126 + 2 * j) = true := by decide +kernel
theorem rw_rdg : ∀ j, j < 21 → pm_rw (57 + 2 * j) = true := by decide +kernel
section PMX
variable {call : pm_Cr} {cd : List (Nat × pm_Sem)} {Q : Option Value → pm_M → Prop} {pc : Nat} {L : pm_L} {st : List Value} {M : pm_M}
theorem st_gR' {c N f nx : Nat} {k : Nat} {st' : List Value} {a : Nat} (h : cd.lookup pc = some (op_gR c N f nx)) (g1 : M.1[k]? = some (c, N)) (hr : gR M k f = some a) (kk : pm_WP call cd Q nx L (.ref a :: st') M) : pm_WP call cd Q pc L (.ref k :: st') M := st_gR h g1 (by rw [hr]; exact kk)
theorem st_aald' {t nx : Nat} {i : Int32} {k n : Nat} {st' : List Value} {a : Nat} (h : cd.lookup pc = some (op_aald t nx)) (g1 : M.1[k]? = some (t, n)) (g2 : vp_in i n) (hr : gR M k i.toNatClampNeg = some a) (kk : pm_WP call cd Q nx L (.ref a :: st') M) : pm_WP call cd Q pc L (.int i :: .ref k :: st') M := st_aald h g1 g2 (by rw [hr]; exact kk)
/-- an int on the stack gets a name -/
theorem wp_i {x : Int32} {st' : List Value} (k : ∀ y : Int32, y = x → pm_WP call cd Q pc L (.int y :: st') M) : pm_WP call cd Q pc L (.int x :: st') M := k x rfl
theorem wp_l {x : Int64} {st' : List Value} (k : ∀ y : Int64, y = x → pm_WP call cd Q pc L (.long y :: st') M) : pm_WP call cd Q pc L (.long x :: st') M := k x rfl
/-- an int on the stack is another one -/
theorem wp_e {x y : Int32} {st' : List Value} (h : x = y) (k : pm_WP call cd Q pc L (.int y :: st') M) : pm_WP call cd Q pc L (.int x :: st') M := h ▸ k
theorem wp_el {x y : Int64} {st' : List Value} (h : x = y) (k : pm_WP call cd Q pc L (.long y :: st') M) : pm_WP call cd Q pc L (.long x :: st') M := h ▸ k
end PMX
/-! reading behind writing -/
theorem gI_sI (M : pm_M) (k i : Nat) (v : Int32) (k' i' : Nat) : gI (sI M k i v) k' i' = if k' = k ∧ i' = i then v else gI M k' i' := rfl
theorem gI_sL (M : pm_M) (k i : Nat) (v : Int64) (k' i' : Nat) : gI (sL M k i v) k' i' = gI M k' i' := rfl
theorem gI_sR (M : pm_M) (k i : Nat) (v : Option Nat) (k' i' : Nat) : gI (sR M k i v) k' i' = gI M k' i' := rfl
theorem gL_sI (M : pm_M) (k i : Nat) (v : Int32) (k' i' : Nat) : gL (sI M k i v) k' i' = gL M k' i' := rfl
theorem gL_sL (M : pm_M) (k i : Nat) (v : Int64) (k' i' : Nat) : gL (sL M k i v) k' i' = if k' = k ∧ i' = i then v else gL M k' i' := rfl
theorem gL_sR (M : pm_M) (k i : Nat) (v : Option Nat) (k' i' : Nat) : gL (sR M k i v) k' i' = gL M k' i' := rfl
theorem gR_sI (M : pm_M) (k i : Nat) (v : Int32) (k' i' : Nat) : gR (sI M k i v) k' i' = gR M k' i' := rfl
theorem gR_sL (M : pm_M) (k i : Nat) (v : Int64) (k' i' : Nat) : gR (sL M k i v) k' i' = gR M k' i' := rfl
theorem gR_sR (M : pm_M) (k i : Nat) (v : Option Nat) (k' i' : Nat) : gR (sR M k i v) k' i' = if k' = k ∧ i' = i then v else gR M k' i' := rfl
theorem gI_cp (M : pm_M) (s t sp dp n k' i' : Nat) : gI (pm_cp M s t sp dp n) k' i' = if k' = t ∧ dp ≤ i' ∧ i' < dp + n then gI M s (sp + (i' - dp)) else gI M k' i' := rfl
theorem gL_cp (M : pm_M) (s t sp dp n k' i' : Nat) : gL (pm_cp M s t sp dp n) k' i' = gL M k' i' := rfl
theorem gR_cp (M : pm_M) (s t sp dp n k' i' : Nat) : gR (pm_cp M s t sp dp n) k' i' = gR M k' i' := rfl
theorem gI_same (M : pm_M) (k i : Nat) (v : Int32) : gI (sI M k i v) k i = v := by simp [gI_sI]
theorem gI_ne {M : pm_M} {k i k' i' : Nat} {v : Int32} (h : k' ≠ k ∨ i' ≠ i) : gI (sI M k i v) k' i' = gI M k' i' := by
  rw [gI_sI, if_neg]
  rintro ⟨a, b⟩
  rcases h with h | h
  · exact h a
  · exact h b
/-- nothing but the cells of S has changed; no reference, no type -/
def pm_S (S : Nat → Prop) (M M' : pm_M) : Prop := M'.1 = M.1 ∧ (∀ k i, gR M' k i = gR M k i) ∧ ∀ k, ¬ S k → ∀ i, gI M' k i = gI M k i ∧ gL M' k i = gL M k i
theorem pm_S.rf {S : Nat → Prop} {M : pm_M} : pm_S S M M := ⟨rfl, fun _ _ => rfl, fun _ _ _ => ⟨rfl, rfl⟩⟩
theorem pm_S.tr {S : Nat → Prop} {M M1 M2 : pm_M} (h : pm_S S M M1) (g : pm_S S M1 M2) : pm_S S M M2 := ⟨g.1.trans h.1, fun k i => (g.2.1 k i).trans (h.2.1 k i), fun k hk i => ⟨(g.2.2 k hk i).1.trans (h.2.2 k hk i).1, (g.2.2 k hk i).2.trans (h.2.2 k hk i).2⟩⟩
theorem pm_S.mo {S S' : Nat → Prop} {M M1 : pm_M} (h : pm_S S M M1) (hs : ∀ k, S k → S' k) : pm_S S' M M1 := ⟨h.1, h.2.1, fun k hk i => h.2.2 k (fun q => hk (hs k q)) i⟩
theorem pm_S.ok {S : Nat → Prop} {M M1 : pm_M} (h : pm_S S M M1) (ho : pm_ok M) : pm_ok M1 := ⟨h.1.trans ho.1, fun k f hf => (h.2.1 k f).trans (ho.2 k f hf)⟩
theorem pm_S.i {S : Nat → Prop} {M M1 : pm_M} (h : pm_S S M M1) {k : Nat} (hk : ¬ S k) (i : Nat) : gI M1 k i = gI M k i := (h.2.2 k hk i).1
theorem pm_S.l {S : Nat → Prop} {M M1 : pm_M} (h : pm_S S M M1) {k : Nat} (hk : ¬ S k) (i : Nat) : gL M1 k i = gL M k i := (h.2.2 k hk i).2
theorem pm_S.sI {S : Nat → Prop} {M M1 : pm_M} (h : pm_S S M M1) {k : Nat} (hk : S k) (i : Nat) (v : Int32) : pm_S S M (sI M1 k i v) := by
  refine ⟨h.1, h.2.1, fun q hq j => ⟨?_, (h.2.2 q hq j).2⟩⟩
  have hne : q ≠ k := fun e => hq (by rw [e]; exact hk)
  rw [gI_ne (Or.inl hne)]
  exact (h.2.2 q hq j).1
theorem pm_S.sL {S : Nat → Prop} {M M1 : pm_M} (h : pm_S S M M1) {k : Nat} (hk : S k) (i : Nat) (v : Int64) : pm_S S M (sL M1 k i v) := by
  refine ⟨h.1, h.2.1, fun q hq j => ⟨(h.2.2 q hq j).1, ?_⟩⟩
  have hne : q ≠ k := fun e => hq (by rw [e]; exact hk)
  rw [gL_sL, if_neg (fun z => hne z.1)]
  exact (h.2.2 q hq j).2
theorem pm_S.cp {S : Nat → Prop} {M M1 : pm_M} (h : pm_S S M M1) {s t : Nat} (hk : S t) (sp dp n : Nat) : pm_S S M (pm_cp M1 s t sp dp n) := by
  refine ⟨h.1, h.2.1, fun q hq j => ⟨?_, (h.2.2 q hq j).2⟩⟩
  have hne : q ≠ t := fun e => hq (by rw [e]; exact hk)
  rw [gI_cp, if_neg (fun z => hne z.1)]
  exact (h.2.2 q hq j).1

/-! THE PURE MACHINE'S GOAL: what it means for the machine, and one step of it -/
theorem pm_lk {cd : List (Nat × pm_Sem)} {pc : Nat} {sem : pm_Sem} (h : cd.lookup pc = some sem) : (pc, sem) ∈ cd := by
  induction cd with
  | nil => simp at h
  | cons a l ih =>
    obtain ⟨k, v⟩ := a
    by_cases e : pc = k
    · subst e
      simp at h
      subst h
      exact List.mem_cons_self
    · rw [List.lookup_cons, show (pc == k) = false by simpa using e] at h
      exact List.mem_cons_of_mem _ (ih h)
theorem wp_le {call : pm_Cr} {cd : List (Nat × pm_Sem)} {Q : Option Value → pm_M → Prop} {pc : Nat} {L L' : pm_L} {st : List Value} {M : pm_M} (hm : ∀ q ∈ cd, pm_Mo q.2) (hl : pm_le L L') (h : pm_WP call cd Q pc L st M) : pm_WP call cd Q pc L' st M := by
  have := h (fun pc L st M => ∀ L', pm_le L L' → pm_WP call cd Q pc L' st M) (by
    intro pc L st M sem hs hsem L' hl P hP
    exact hP _ _ _ _ _ hs (hm _ (pm_lk hs) call Q _ P (fun pc L L' st M hl hrec => hrec L' hl P hP) L L' st M hl hsem))
  exact this L' hl
theorem wp_post {call : pm_Cr} {cd : List (Nat × pm_Sem)} {Q Q' : Option Value → pm_M → Prop} {pc : Nat} {L : pm_L} {st : List Value} {M : pm_M} (hq : Q = Q') (h : pm_WP call cd Q pc L st M) : pm_WP call cd Q' pc L st M := hq ▸ h
theorem pm_in0_len (base : Nat) : ∀ A : List Value, (lg_sl (A.map (pm_en base))).length = (pm_in0 A).length
  | [] => rfl
  | a :: A => by
    have ih := pm_in0_len base A
    unfold lg_sl at ih
    unfold lg_sl pm_in0
    rw [List.map_cons, List.flatMap_cons, List.length_append, ih, pm_en_cat]
    by_cases hw : pm_wide (some a) = true
    · rw [if_pos hw, if_pos (pm_wide_cat.mp hw)]
      simp
      omega
    · rw [if_neg hw, if_neg (fun q => hw (pm_wide_cat.mpr q))]
      simp
      omega
theorem pm_met {l : Launch} {D : va_G} {dA : Nat → ClassId} {base : Nat} {Hb : Heap} {d : Nat} {call : pm_Cr} (hc : pm_CO l D dA base Hb d call) {y : MethodName} {bytes : ByteArray} {nL : Nat} {ret : Option FieldType} {ini : Bool} {cd : List (Nat × pm_Sem)}
    (hok : ∀ q ∈ cd, pm_Snd y.cls bytes nL ret ini q.1 q.2) (hz : ∀ q ∈ cd, pm_Sz q.2) (hy : plainName y.cls = true) (hi : ini = true → y.name = "<init>") {A : List Value} {M M' : pm_M} {r : Option Value} (ha : (pm_in0 A).length ≤ nL)
    (h : pm_WP call cd (fun r0 M1 => r0 = r ∧ M1 = M') 0 (pm_init nL A) [] M) : (pm_zC M ≤ pm_zC M' ∧ pm_zS M ≤ pm_zS M') ∧ Met l y (Cond.code y bytes nL ret :: pm_gw) (pm_rm (d + 1) (pm_zC M' - pm_zC M) (pm_zS M' - pm_zS M)) (pm_P D dA base Hb A M) (pm_Q D dA base Hb r M') (pm_zC M' - pm_zC M) (pm_zS M' - pm_zS M) (pm_fr base) := by
  refine ⟨h (fun _ _ _ M => pm_zC M ≤ pm_zC M' ∧ pm_zS M ≤ pm_zS M') (fun pc L st M sem hs hsem => hz _ (pm_lk hs) call _ _ _ _ (fun j A M r M1 q => (hc j A M r M1 q).1) (fun r0 M1 q => by rw [q.2]; exact ⟨Nat.le_refl _, Nat.le_refl _⟩) (fun _ _ _ _ q => q) L st M hsem), ?_⟩
  refine Met.ofW (cc := bytes) (maxL := nL) (ret := ret) hy rfl ?_
  intro p e s m args below meth c s₁ B hml hv
  obtain ⟨rfl, hST, hH⟩ := hv
  have C : pm_C p s m (A.map (pm_en base)).toArray meth c D dA y.cls bytes nL ret ini := ⟨B.exec, B.bytes, hml, findClass_of_methodNamed B.named, fun w hw => atoms_spec (ws := Cond.code y bytes nL ret :: pm_gw) B.pre w (List.mem_cons_of_mem _ hw), hST, B.returns, B.notSynchronized, fun hh => (name_of_methodNamed B.named B.method).1.trans (hi hh)⟩
  obtain ⟨z, kk⟩ := h (pm_W p l e s m (A.map (pm_en base)).toArray below meth c D dA base Hb nL d M M' r) (fun pc L st M1 sem hs hsem => hok (pc, sem) (pm_lk hs) p l e s m _ below meth c D dA base Hb d M M' r call _ C hc (fun _ _ _ _ q => q) L st M1 hsem)
  rw [lg_entry_eq]
  have hl := lv_entry (A.map (pm_en base)) (n := nL) (by rw [pm_in0_len]; exact ha)
  have hh := kk _ s.heap [] (pm_init_has hl) hH (fun q hq => by cases hq) (Nat.le_refl _) (Nat.le_refl _)
  rw [Nat.sub_self, Nat.sub_self] at hh
  exact hh
theorem fa_c {α : Type} {P : α → Prop} {a : α} {l : List α} (h : P a) (t : ∀ x ∈ l, P x) : ∀ x ∈ a :: l, P x := List.forall_mem_cons.mpr ⟨h, t⟩
theorem fa_n {α : Type} {P : α → Prop} : ∀ x ∈ ([] : List α), P x := fun _ h => absurd h List.not_mem_nil
theorem fa_a {α : Type} {P : α → Prop} {k l : List α} (h : ∀ x ∈ k, P x) (t : ∀ x ∈ l, P x) : ∀ x ∈ k ++ l, P x := List.forall_mem_append.mpr ⟨h, t⟩
section PMW
variable {call : pm_Cr} {cd : List (Nat × pm_Sem)} {Q : Option Value → pm_M → Prop} {pc : Nat} {L : pm_L} {st : List Value} {M : pm_M}
theorem st_k {v : Value} {nx : Nat}  (h : cd.lookup pc = some (op_k v nx)) (kk : pm_WP call cd Q nx L (v :: st) M) : pm_WP call cd Q pc L st M := fun P hP => hP _ _ _ _ _ h (kk P hP)
theorem st_ild {i nx : Nat} {x : Int32} (h : cd.lookup pc = some (op_ild i nx)) (g0 : L[i]? = some (some (.int x))) (kk : pm_WP call cd Q nx L (.int x :: st) M) : pm_WP call cd Q pc L st M := fun P hP => hP _ _ _ _ _ h ⟨x, g0, kk P hP⟩
theorem st_lld {i nx : Nat} {x : Int64} (h : cd.lookup pc = some (op_lld i nx)) (g0 : L[i]? = some (some (.long x))) (kk : pm_WP call cd Q nx L (.long x :: st) M) : pm_WP call cd Q pc L st M := fun P hP => hP _ _ _ _ _ h ⟨x, g0, kk P hP⟩
theorem st_ald {i nx : Nat} {x : Nat} (h : cd.lookup pc = some (op_ald i nx)) (g0 : L[i]? = some (some (.ref x))) (kk : pm_WP call cd Q nx L (.ref x :: st) M) : pm_WP call cd Q pc L st M := fun P hP => hP _ _ _ _ _ h ⟨x, g0, kk P hP⟩
theorem st_ist {i nx : Nat} {x : Int32} {st' : List Value} (h : cd.lookup pc = some (op_ist i nx)) (kk : pm_WP call cd Q nx (pm_st1 L i (.int x)) st' M) : pm_WP call cd Q pc L (.int x :: st') M := fun P hP => hP _ _ _ _ _ h ⟨x, st', rfl, kk P hP⟩
theorem st_lst {i nx : Nat} {x : Int64} {st' : List Value} (h : cd.lookup pc = some (op_lst i nx)) (kk : pm_WP call cd Q nx (pm_st2 L i (.long x)) st' M) : pm_WP call cd Q pc L (.long x :: st') M := fun P hP => hP _ _ _ _ _ h ⟨x, st', rfl, kk P hP⟩
theorem st_ast {i nx : Nat} {x : Nat} {st' : List Value} (h : cd.lookup pc = some (op_ast i nx)) (kk : pm_WP call cd Q nx (pm_st1 L i (.ref x)) st' M) : pm_WP call cd Q pc L (.ref x :: st') M := fun P hP => hP _ _ _ _ _ h ⟨x, st', rfl, kk P hP⟩
theorem st_inc {i : Nat} {n : Int32} {nx : Nat} {x : Int32} (h : cd.lookup pc = some (op_inc i n nx)) (g0 : L[i]? = some (some (.int x))) (kk : pm_WP call cd Q nx (pm_st1 L i (.int (x + n))) st M) : pm_WP call cd Q pc L st M := fun P hP => hP _ _ _ _ _ h ⟨x, g0, kk P hP⟩
theorem st_ib {f : Int32 → Int32 → Int32} {nx : Nat} {x y : Int32} {st' : List Value} (h : cd.lookup pc = some (op_ib f nx)) (kk : pm_WP call cd Q nx L (.int (f x y) :: st') M) : pm_WP call cd Q pc L (.int y :: .int x :: st') M := fun P hP => hP _ _ _ _ _ h ⟨x, y, st', rfl, kk P hP⟩
theorem st_idv {f : Int32 → Int32 → Int32} {nx : Nat} {x y : Int32} {st' : List Value} (h : cd.lookup pc = some (op_idv f nx)) (g1 : ¬ y = 0) (kk : pm_WP call cd Q nx L (.int (f x y) :: st') M) : pm_WP call cd Q pc L (.int y :: .int x :: st') M := fun P hP => hP _ _ _ _ _ h ⟨x, y, st', rfl, g1, kk P hP⟩
theorem st_lb {f : Int64 → Int64 → Int64} {nx : Nat} {x y : Int64} {st' : List Value} (h : cd.lookup pc = some (op_lb f nx)) (kk : pm_WP call cd Q nx L (.long (f x y) :: st') M) : pm_WP call cd Q pc L (.long y :: .long x :: st') M := fun P hP => hP _ _ _ _ _ h ⟨x, y, st', rfl, kk P hP⟩
theorem st_ldv {f : Int64 → Int64 → Int64} {nx : Nat} {x y : Int64} {st' : List Value} (h : cd.lookup pc = some (op_ldv f nx)) (g1 : ¬ y = 0) (kk : pm_WP call cd Q nx L (.long (f x y) :: st') M) : pm_WP call cd Q pc L (.long y :: .long x :: st') M := fun P hP => hP _ _ _ _ _ h ⟨x, y, st', rfl, g1, kk P hP⟩
theorem st_iu {f : Int32 → Int32} {nx : Nat} {x : Int32} {st' : List Value} (h : cd.lookup pc = some (op_iu f nx)) (kk : pm_WP call cd Q nx L (.int (f x) :: st') M) : pm_WP call cd Q pc L (.int x :: st') M := fun P hP => hP _ _ _ _ _ h ⟨x, st', rfl, kk P hP⟩
theorem st_i2l {nx : Nat} {x : Int32} {st' : List Value} (h : cd.lookup pc = some (op_i2l nx)) (kk : pm_WP call cd Q nx L (.long x.toInt64 :: st') M) : pm_WP call cd Q pc L (.int x :: st') M := fun P hP => hP _ _ _ _ _ h ⟨x, st', rfl, kk P hP⟩
theorem st_l2i {nx : Nat} {x : Int64} {st' : List Value} (h : cd.lookup pc = some (op_l2i nx)) (kk : pm_WP call cd Q nx L (.int x.toInt32 :: st') M) : pm_WP call cd Q pc L (.long x :: st') M := fun P hP => hP _ _ _ _ _ h ⟨x, st', rfl, kk P hP⟩
theorem st_lcmp {nx : Nat} {x y : Int64} {st' : List Value} (h : cd.lookup pc = some (op_lcmp nx)) (kk : pm_WP call cd Q nx L (.int (lg_cmp x y) :: st') M) : pm_WP call cd Q pc L (.long y :: .long x :: st') M := fun P hP => hP _ _ _ _ _ h ⟨x, y, st', rfl, kk P hP⟩
theorem st_b2 {c : Int32 → Int32 → Prop} {tg nx : Nat} {x y : Int32} {st' : List Value} (h : cd.lookup pc = some (op_b2 c tg nx)) (kt : c x y → pm_WP call cd Q tg L st' M) (kf : ¬ c x y → pm_WP call cd Q nx L st' M) : pm_WP call cd Q pc L (.int y :: .int x :: st') M := fun P hP => hP _ _ _ _ _ h ⟨x, y, st', rfl, fun q => kt q P hP, fun q => kf q P hP⟩
theorem st_b1 {c : Int32 → Prop} {tg nx : Nat} {x : Int32} {st' : List Value} (h : cd.lookup pc = some (op_b1 c tg nx)) (kt : c x → pm_WP call cd Q tg L st' M) (kf : ¬ c x → pm_WP call cd Q nx L st' M) : pm_WP call cd Q pc L (.int x :: st') M := fun P hP => hP _ _ _ _ _ h ⟨x, st', rfl, fun q => kt q P hP, fun q => kf q P hP⟩
theorem st_go {tg : Nat}  (h : cd.lookup pc = some (op_go tg)) (kk : pm_WP call cd Q tg L st M) : pm_WP call cd Q pc L st M := fun P hP => hP _ _ _ _ _ h (kk P hP)
theorem st_dup {nx : Nat} {v : Value} {st' : List Value} (h : cd.lookup pc = some (op_dup nx)) (g1 : v.category = 1) (kk : pm_WP call cd Q nx L (v :: v :: st') M) : pm_WP call cd Q pc L (v :: st') M := fun P hP => hP _ _ _ _ _ h ⟨v, st', rfl, g1, kk P hP⟩
theorem st_dup2 {nx : Nat} {v w : Value} {st' : List Value} (h : cd.lookup pc = some (op_dup2 nx)) (g1 : v.category = 1) (g2 : w.category = 1) (kk : pm_WP call cd Q nx L (v :: w :: v :: w :: st') M) : pm_WP call cd Q pc L (v :: w :: st') M := fun P hP => hP _ _ _ _ _ h ⟨v, w, st', rfl, g1, g2, kk P hP⟩
theorem st_sw {f : Int32 → Nat} {x : Int32} {st' : List Value} (h : cd.lookup pc = some (op_sw f)) (kk : pm_WP call cd Q (f x) L st' M) : pm_WP call cd Q pc L (.int x :: st') M := fun P hP => hP _ _ _ _ _ h ⟨x, st', rfl, kk P hP⟩
theorem st_gI {c N f nx : Nat} {k : Nat} {st' : List Value} (h : cd.lookup pc = some (op_gI c N f nx)) (g1 : M.1[k]? = some (c, N)) (kk : pm_WP call cd Q nx L (.int (gI M k f) :: st') M) : pm_WP call cd Q pc L (.ref k :: st') M := fun P hP => hP _ _ _ _ _ h ⟨k, st', rfl, g1, kk P hP⟩
theorem st_gL {c N f nx : Nat} {k : Nat} {st' : List Value} (h : cd.lookup pc = some (op_gL c N f nx)) (g1 : M.1[k]? = some (c, N)) (kk : pm_WP call cd Q nx L (.long (gL M k f) :: st') M) : pm_WP call cd Q pc L (.ref k :: st') M := fun P hP => hP _ _ _ _ _ h ⟨k, st', rfl, g1, kk P hP⟩
theorem st_gR {c N f nx : Nat} {k : Nat} {st' : List Value} (h : cd.lookup pc = some (op_gR c N f nx)) (g1 : M.1[k]? = some (c, N)) (kk : pm_WP call cd Q nx L (pm_v (gR M k f) :: st') M) : pm_WP call cd Q pc L (.ref k :: st') M := fun P hP => hP _ _ _ _ _ h ⟨k, st', rfl, g1, kk P hP⟩
theorem st_pI {c N f nx : Nat} {v : Int32} {k : Nat} {st' : List Value} (h : cd.lookup pc = some (op_pI c N f nx)) (g1 : M.1[k]? = some (c, N)) (kk : pm_WP call cd Q nx L st' (sI M k f v)) : pm_WP call cd Q pc L (.int v :: .ref k :: st') M := fun P hP => hP _ _ _ _ _ h ⟨v, k, st', rfl, g1, kk P hP⟩
theorem st_pL {c N f nx : Nat} {v : Int64} {k : Nat} {st' : List Value} (h : cd.lookup pc = some (op_pL c N f nx)) (g1 : M.1[k]? = some (c, N)) (kk : pm_WP call cd Q nx L st' (sL M k f v)) : pm_WP call cd Q pc L (.long v :: .ref k :: st') M := fun P hP => hP _ _ _ _ _ h ⟨v, k, st', rfl, g1, kk P hP⟩
theorem st_pR {c N f nx : Nat} {v : Nat} {k : Nat} {st' : List Value} (h : cd.lookup pc = some (op_pR c N f nx)) (g1 : M.1[k]? = some (c, N)) (kk : pm_WP call cd Q nx L st' (sR M k f (some v))) : pm_WP call cd Q pc L (.ref v :: .ref k :: st') M := fun P hP => hP _ _ _ _ _ h ⟨v, k, st', rfl, g1, kk P hP⟩
theorem st_iald {nx : Nat} {i : Int32} {k n : Nat} {st' : List Value} (h : cd.lookup pc = some (op_iald nx)) (g1 : M.1[k]? = some (100, n)) (g2 : vp_in i n) (kk : pm_WP call cd Q nx L (.int (gI M k i.toNatClampNeg) :: st') M) : pm_WP call cd Q pc L (.int i :: .ref k :: st') M := fun P hP => hP _ _ _ _ _ h ⟨i, k, n, st', rfl, g1, g2, kk P hP⟩
theorem st_lald {nx : Nat} {i : Int32} {k n : Nat} {st' : List Value} (h : cd.lookup pc = some (op_lald nx)) (g1 : M.1[k]? = some (101, n)) (g2 : vp_in i n) (kk : pm_WP call cd Q nx L (.long (gL M k i.toNatClampNeg) :: st') M) : pm_WP call cd Q pc L (.int i :: .ref k :: st') M := fun P hP => hP _ _ _ _ _ h ⟨i, k, n, st', rfl, g1, g2, kk P hP⟩
theorem st_bald {t nx : Nat} {i : Int32} {k n : Nat} {st' : List Value} (h : cd.lookup pc = some (op_bald t nx)) (g1 : M.1[k]? = some (t, n)) (g2 : vp_in i n) (kk : pm_WP call cd Q nx L (.int (gI M k i.toNatClampNeg) :: st') M) : pm_WP call cd Q pc L (.int i :: .ref k :: st') M := fun P hP => hP _ _ _ _ _ h ⟨i, k, n, st', rfl, g1, g2, kk P hP⟩
theorem st_aald {t nx : Nat} {i : Int32} {k n : Nat} {st' : List Value} (h : cd.lookup pc = some (op_aald t nx)) (g1 : M.1[k]? = some (t, n)) (g2 : vp_in i n) (kk : pm_WP call cd Q nx L (pm_v (gR M k i.toNatClampNeg) :: st') M) : pm_WP call cd Q pc L (.int i :: .ref k :: st') M := fun P hP => hP _ _ _ _ _ h ⟨i, k, n, st', rfl, g1, g2, kk P hP⟩
theorem st_iast {nx : Nat} {x i : Int32} {k n : Nat} {st' : List Value} (h : cd.lookup pc = some (op_iast nx)) (g1 : M.1[k]? = some (100, n)) (g2 : vp_in i n) (kk : pm_WP call cd Q nx L st' (sI M k i.toNatClampNeg x)) : pm_WP call cd Q pc L (.int x :: .int i :: .ref k :: st') M := fun P hP => hP _ _ _ _ _ h ⟨x, i, k, n, st', rfl, g1, g2, kk P hP⟩
theorem st_last {nx : Nat} {x : Int64} {i : Int32} {k n : Nat} {st' : List Value} (h : cd.lookup pc = some (op_last nx)) (g1 : M.1[k]? = some (101, n)) (g2 : vp_in i n) (kk : pm_WP call cd Q nx L st' (sL M k i.toNatClampNeg x)) : pm_WP call cd Q pc L (.long x :: .int i :: .ref k :: st') M := fun P hP => hP _ _ _ _ _ h ⟨x, i, k, n, st', rfl, g1, g2, kk P hP⟩
theorem st_bast {nx : Nat} {x i : Int32} {k n : Nat} {st' : List Value} (h : cd.lookup pc = some (op_bast nx)) (g1 : M.1[k]? = some (102, n)) (g2 : vp_in i n) (kk : pm_WP call cd Q nx L st' (sI M k i.toNatClampNeg x.toInt8.toInt32)) : pm_WP call cd Q pc L (.int x :: .int i :: .ref k :: st') M := fun P hP => hP _ _ _ _ _ h ⟨x, i, k, n, st', rfl, g1, g2, kk P hP⟩
theorem st_zast {nx : Nat} {x i : Int32} {k n : Nat} {st' : List Value} (h : cd.lookup pc = some (op_zast nx)) (g1 : M.1[k]? = some (103, n)) (g2 : vp_in i n) (kk : pm_WP call cd Q nx L st' (sI M k i.toNatClampNeg (x &&& 1))) : pm_WP call cd Q pc L (.int x :: .int i :: .ref k :: st') M := fun P hP => hP _ _ _ _ _ h ⟨x, i, k, n, st', rfl, g1, g2, kk P hP⟩
theorem st_aast {t c N nx : Nat} {v : Nat} {i : Int32} {k n : Nat} {st' : List Value} (h : cd.lookup pc = some (op_aast t c N nx)) (g1 : M.1[k]? = some (t, n)) (g2 : M.1[v]? = some (c, N)) (g3 : vp_in i n) (kk : pm_WP call cd Q nx L st' (sR M k i.toNatClampNeg (some v))) : pm_WP call cd Q pc L (.ref v :: .int i :: .ref k :: st') M := fun P hP => hP _ _ _ _ _ h ⟨v, i, k, n, st', rfl, g1, g2, g3, kk P hP⟩
theorem st_alen {nx : Nat} {k t n : Nat} {st' : List Value} (h : cd.lookup pc = some (op_alen nx)) (g1 : M.1[k]? = some (t, n)) (g2 : 100 ≤ t) (g3 : t ≤ 105) (kk : pm_WP call cd Q nx L (.int (Int32.ofNat n) :: st') M) : pm_WP call cd Q pc L (.ref k :: st') M := fun P hP => hP _ _ _ _ _ h ⟨k, t, n, st', rfl, g1, g2, g3, kk P hP⟩
theorem st_new {c N nx : Nat}  (h : cd.lookup pc = some (op_new c N nx)) (kk : pm_WP call cd Q nx L (.ref M.1.length :: st) (pm_nw M c N)) : pm_WP call cd Q pc L st M := fun P hP => hP _ _ _ _ _ h (kk P hP)
theorem st_nwa {t nx : Nat} {n : Int32} {st' : List Value} (h : cd.lookup pc = some (op_nwa t nx)) (g1 : ¬ n < 0) (g2 : n.toNatClampNeg ≤ 1000000) (kk : pm_WP call cd Q nx L (.ref M.1.length :: st') (pm_nw M t n.toNatClampNeg)) : pm_WP call cd Q pc L (.int n :: st') M := fun P hP => hP _ _ _ _ _ h ⟨n, st', rfl, g1, g2, kk P hP⟩
theorem st_call {j na nx : Nat} {As rest : List Value} {r : Option Value} {M' : pm_M} (h : cd.lookup pc = some (op_call j na nx)) (hs : st = As.reverse ++ rest) (g1 : As.length = na) (g2 : (rest.map fun v => v.category).sum ≤ 8) (g3 : call j As M r M') (kk : pm_WP call cd Q nx L (r.toList ++ rest) M') : pm_WP call cd Q pc L st M := fun P hP => hP _ _ _ _ _ h ⟨As, rest, r, M', hs, g1, g2, g3, kk P hP⟩
theorem st_cav {j na c N nx : Nat} {k : Nat} {As rest : List Value} {r : Option Value} {M' : pm_M} (h : cd.lookup pc = some (op_cav j na c N nx)) (hs : st = As.reverse ++ .ref k :: rest) (g1 : As.length = na) (g2 : M.1[k]? = some (c, N)) (g3 : (rest.map fun v => v.category).sum ≤ 8) (g4 : call j (.ref k :: As) M r M') (kk : pm_WP call cd Q nx L (r.toList ++ rest) M') : pm_WP call cd Q pc L st M := fun P hP => hP _ _ _ _ _ h ⟨k, As, rest, r, M', hs, g1, g2, g3, g4, kk P hP⟩
theorem st_oin {nx : Nat} {k : Nat} {st' : List Value} (h : cd.lookup pc = some (op_oin nx)) (g1 : (st'.map fun v => v.category).sum ≤ 8) (kk : pm_WP call cd Q nx L st' M) : pm_WP call cd Q pc L (.ref k :: st') M := fun P hP => hP _ _ _ _ _ h ⟨k, st', rfl, g1, kk P hP⟩
theorem st_acp {nx : Nat} {n dp sp : Int32} {dst src n0 n1 : Nat} {st' : List Value} (h : cd.lookup pc = some (op_acp nx)) (g1 : M.1[src]? = some (100, n0)) (g2 : M.1[dst]? = some (100, n1)) (g3 : ¬ sp < 0) (g4 : ¬ dp < 0) (g5 : ¬ n < 0) (g6 : sp.toNatClampNeg + n.toNatClampNeg ≤ n0) (g7 : dp.toNatClampNeg + n.toNatClampNeg ≤ n1) (g8 : (st'.map fun v => v.category).sum ≤ 8) (kk : pm_WP call cd Q nx L st' (pm_cp M src dst sp.toNatClampNeg dp.toNatClampNeg n.toNatClampNeg)) : pm_WP call cd Q pc L (.int n :: .int dp :: .ref dst :: .int sp :: .ref src :: st') M := fun P hP => hP _ _ _ _ _ h ⟨n, dp, sp, dst, src, n0, n1, st', rfl, g1, g2, g3, g4, g5, g6, g7, g8, kk P hP⟩
theorem st_iret  {v : Int32} (h : cd.lookup pc = some (op_iret)) (kk : Q (some (.int v)) M) : pm_WP call cd Q pc L ([.int v]) M := fun P hP => hP _ _ _ _ _ h ⟨v, rfl, kk⟩
theorem st_zret  {v : Int32} (h : cd.lookup pc = some (op_zret)) (g1 : v &&& 1 = v) (kk : Q (some (.int v)) M) : pm_WP call cd Q pc L ([.int v]) M := fun P hP => hP _ _ _ _ _ h ⟨v, rfl, g1, kk⟩
theorem st_lret  {v : Int64} (h : cd.lookup pc = some (op_lret)) (kk : Q (some (.long v)) M) : pm_WP call cd Q pc L ([.long v]) M := fun P hP => hP _ _ _ _ _ h ⟨v, rfl, kk⟩
theorem st_vret   (h : cd.lookup pc = some (op_vret)) (kk : Q none M) : pm_WP call cd Q pc L ([]) M := fun P hP => hP _ _ _ _ _ h ⟨rfl, kk⟩
end PMW

/-! THE CLAIM OUT OF ONE WALK OF THE LAW'S BODY. Your part is whole_start (and what it stands on); all else here is the same for every law, but numbers. -/
def R_law : String := "KnotRopesLaw"
def lw_P (b : Addr) (xs : List Int32) (args : Array Value) (s : State) : Prop := args = #[.ref b] ∧ s.IntsAt b xs ∧ xs.length ≤ 3072 ∧ (Jvm.Cond.and given_1 narrow_1).before args s = true
def lw_Q (_ : Array Value) (s : State) (o : Outcome) (t : State) : Prop := o = .returned (some (.int 1)) ∧ Framed s o t [] 600000 7302250
def lw_Z (below : List Frame) (a : Array Value) (s : State) : State → Prop := fun t => ∃ o, t.status = .running ∧ Ended t below o ∧ lw_Q a s o t
/-- the law's own end, with 1 on the stack, nothing written that was there before, its room as the claim has it -/
theorem lw_ret {p : Program} {l : Launch} {e : Env} {s : State} {m : MethodId} {below : List Frame} {meth : Method} {c : Code} {b : Nat} (hx : p.tables.exec = Jvm.exec) (hb : c.code = code) (hr : meth.sig.returnType = ret) (hlocks : meth.locks = false) {pc : Nat} {H : Heap} {ls : Array Slot} (hdg : decode code pc = .ok (.ireturn, 1)) : W p l e room_1 s m #[Value.ref b] below meth c H [] 600000 7302250 (lw_Z below #[Value.ref b] s) (F0 m pc ls [.int 1]) := by
  intro T hT X
  obtain ⟨fs, hret, hrun, hended, hW, hframe⟩ := X.leave (v := some (.int 1)) (hlocks := hlocks) (fun h => by rw [hr] at h; cases h)
  have hmeth' : T.vm.method? m = some meth := X.method'
  refine ⟨T.setFrames fs, ?_, .returned (some (.int 1)), hrun, hended, rfl, ⟨_, rfl⟩, hW, hframe⟩
  jvm_step X.here [X.here.top, hx, hb, hdg, hmeth', hr, ret, narrow_b1]
  (try refine ⟨rfl, ?_⟩); (try refine ⟨rfl, ?_⟩)
  first | (intro acts; rw [hret _ acts rfl rfl rfl]) | rw [hret _ _ rfl rfl rfl]
  exact Steps.refl _
/-- what holds at the law's entry: the machine, the code, the tables' words (any of lw_tbl by 'hts w (by decide +kernel)'), the script of L ints xs at the cell b, what the Statement gives of the start (any of its parts by flat_of_before) -/
def lw_At (p : Program) (s : State) (m : MethodId) (meth : Method) (c : Code) (b L : Nat) (xs : Nat → Int32) : Prop :=
  p.tables.exec = Jvm.exec ∧ c.code = code ∧ meth.sig.returnType = ret ∧ c.maxLocals = 4 ∧ s.vm.findClass R_law = some m.cls ∧ (∀ w ∈ lw_tbl, w.before #[Value.ref b] s = true) ∧ va_X b L xs s s.heap ∧ b < s.heap.size ∧ meth.locks = false ∧ (Jvm.Cond.and given_1 narrow_1).before #[Value.ref b] s = true
/-! WHAT HOLDS OF THE TABLES: classes, array classes, nest mates -/
theorem pm_gwB {b : Nat} {s : State} (hts : ∀ w ∈ lw_tbl, w.before #[Value.ref b] s = true) : ∀ w ∈ pm_gw, w.before #[Value.ref b] s = true := fun w hw => hts w (List.mem_filter.mp hw).1
theorem arr_p {b : Nat} {s : State} {t : FieldType} (h : (Cond.arrayClass t).before #[Value.ref b] s = true) : ∃ cA, ArrOfT s cA t ∧ s.vm.findClass ("[" ++ t.toString) = some cA := by
  obtain ⟨cA, kA, comp, h1, h2, h3⟩ := Cond.arrayClass_spec h
  exact ⟨cA, fun n z => ⟨fun k h => (by cases h), kA, h2, comp, h3⟩, h1⟩
theorem arr_o {b : Nat} {s : State} {C : String} (h : (Cond.arrayOver (.object C)).before #[Value.ref b] s = true) : ∃ cA, ArrOfT s cA (.object C) ∧ va_RA s cA (.object C) := by
  obtain ⟨comp, cA, kA, h1, h2, h3, h4, h5⟩ := Cond.arrayOver_spec h
  exact ⟨cA, fun n z => ⟨fun k h => (by cases h), kA, h3, comp, h4⟩, kA, comp, h3, h4, h1, h5⟩
theorem pm_world {b : Nat} {s : State} (hts : ∀ w ∈ lw_tbl, w.before #[Value.ref b] s = true) : ∃ (D : va_G) (dA : Nat → ClassId), pm_ST D dA s := by
  have hg := pm_gwB hts
  obtain ⟨c0, i0, k0⟩ := u_known (n := 8) hg ck_0.2.2.1 (hg _ (pm_gw_of (w := Cond.instantiable RX0 8) (i := 338) (by decide +kernel) rfl))
  obtain ⟨c1, i1, k1⟩ := u_known (n := 17) hg ck_1.2.2.1 (hg _ (pm_gw_of (w := Cond.instantiable RX1 17) (i := 147) (by decide +kernel) rfl))
  obtain ⟨c2, i2, k2⟩ := u_known (n := 8) hg ck_2.2.2.1 (hg _ (pm_gw_of (w := Cond.instantiable RX2 8) (i := 223) (by decide +kernel) rfl))
  obtain ⟨c3, i3, k3⟩ := u_known (n := 4) hg ck_3.2.2.1 (hg _ (pm_gw_of (w := Cond.instantiable RX3 4) (i := 372) (by decide +kernel) rfl))
  obtain ⟨c4, i4, k4⟩ := u_known (n := 2) hg ck_4.2.2.1 (hg _ (pm_gw_of (w := Cond.instantiable RX4 2) (i := 393) (by decide +kernel) rfl))
  obtain ⟨c5, i5, k5⟩ := u_known (n := 2) hg ck_5.2.2.1 (hg _ (pm_gw_of (w := Cond.instantiable RX5 2) (i := 123) (by decide +kernel) rfl))
  obtain ⟨c6, i6, k6⟩ := u_known (n := 6) hg ck_6.2.2.1 (hg _ (pm_gw_of (w := Cond.instantiable RX6 6) (i := 277) (by decide +kernel) rfl))
  obtain ⟨c7, i7, k7⟩ := u_known (n := 8) hg ck_7.2.2.1 (hg _ (pm_gw_of (w := Cond.instantiable RX7 8) (i := 304) (by decide +kernel) rfl))
  obtain ⟨c8, i8, k8⟩ := u_known (n := 3) hg ck_8.2.2.1 (hg _ (pm_gw_of (w := Cond.instantiable RX8 3) (i := 260) (by decide +kernel) rfl))
  obtain ⟨c9, i9, k9⟩ := u_known (n := 2) hg ck_9.2.2.1 (hg _ (pm_gw_of (w := Cond.instantiable RX9 2) (i := 408) (by decide +kernel) rfl))
  obtain ⟨c10, i10, k10⟩ := u_known (n := 20) hg ck_10.2.2.1 (hg _ (pm_gw_of (w := Cond.instantiable RX10 20) (i := 112) (by decide +kernel) rfl))
  obtain ⟨c11, i11, k11⟩ := u_known (n := 57) hg ck_11.2.2.1 (hg _ (pm_gw_of (w := Cond.instantiable RX11 57) (i := 1110) (by decide +kernel) rfl))
  obtain ⟨a100, b100, f100⟩ := arr_p (t := .int) (hg _ (pm_gw_of (i := 145) (by decide +kernel) rfl))
  obtain ⟨a101, b101, f101⟩ := arr_p (t := .long) (hg _ (pm_gw_of (i := 275) (by decide +kernel) rfl))
  obtain ⟨a102, b102, f102⟩ := arr_p (t := .byte) (hg _ (pm_gw_of (i := 424) (by decide +kernel) rfl))
  obtain ⟨a103, b103, f103⟩ := arr_p (t := .boolean) (hg _ (pm_gw_of (i := 1287) (by decide +kernel) rfl))
  have o104 : (Cond.arrayOver (.object RX5)).before #[Value.ref b] s = true := hts _ (List.mem_of_getElem? (i := 120) (by decide +kernel))
  obtain ⟨a104, b104, f104⟩ := arr_o o104
  have o105 : (Cond.arrayOver (.object RX9)).before #[Value.ref b] s = true := hts _ (List.mem_of_getElem? (i := 122) (by decide +kernel))
  obtain ⟨a105, b105, f105⟩ := arr_o o105
  refine ⟨(fun k => match k with | 0 => c0 | 1 => c1 | 2 => c2 | 3 => c3 | 4 => c4 | 5 => c5 | 6 => c6 | 7 => c7 | 8 => c8 | 9 => c9 | 10 => c10 | _ => c11, fun k => match k with | 0 => i0 | 1 => i1 | 2 => i2 | 3 => i3 | 4 => i4 | 5 => i5 | 6 => i6 | 7 => i7 | 8 => i8 | 9 => i9 | 10 => i10 | _ => i11), fun k => match k with | 100 => a100 | 101 => a101 | 102 => a102 | 103 => a103 | 104 => a104 | _ => a105, ⟨?_, ?_⟩, ?_, va_AO.of o104, va_AO.of o105⟩
  · intro k q hq
    match k, hq with
    | 0, hq => cases hq; exact k0
    | 1, hq => cases hq; exact k1
    | 2, hq => cases hq; exact k2
    | 3, hq => cases hq; exact k3
    | 4, hq => cases hq; exact k4
    | 5, hq => cases hq; exact k5
    | 6, hq => cases hq; exact k6
    | 7, hq => cases hq; exact k7
    | 8, hq => cases hq; exact k8
    | 9, hq => cases hq; exact k9
    | 10, hq => cases hq; exact k10
    | 11, hq => cases hq; exact k11
    | k + 12, hq => cases hq
  · intro k q hq
    match k, hq with
    | 0, hq => cases hq; exact ⟨b100, f100⟩
    | 1, hq => cases hq; exact ⟨b101, f101⟩
    | 2, hq => cases hq; exact ⟨b102, f102⟩
    | 3, hq => cases hq; exact ⟨b103, f103⟩
    | 4, hq => cases hq; exact ⟨b104, f104⟩
    | 5, hq => cases hq; exact ⟨b105, f105⟩
    | k + 6, hq => cases hq
  · exact fa_c (va_Nw.of rfl (hts _ (List.mem_of_getElem? (i := 124) (by decide +kernel)))) (fa_c (va_Nw.of rfl (hts _ (List.mem_of_getElem? (i := 148) (by decide +kernel)))) (fa_c (va_Nw.of rfl (hts _ (List.mem_of_getElem? (i := 224) (by decide +kernel)))) (fa_c (va_Nw.of rfl (hts _ (List.mem_of_getElem? (i := 283) (by decide +kernel)))) (fa_c (va_Nw.of rfl (hts _ (List.mem_of_getElem? (i := 310) (by decide +kernel)))) (fa_c (va_Nw.of rfl (hts _ (List.mem_of_getElem? (i := 344) (by decide +kernel)))) (fa_c (va_Nw.of rfl (hts _ (List.mem_of_getElem? (i := 373) (by decide +kernel)))) (fa_c (va_Nw.of rfl (hts _ (List.mem_of_getElem? (i := 399) (by decide +kernel)))) (fa_c (va_Nw.of rfl (hts _ (List.mem_of_getElem? (i := 409) (by decide +kernel)))) (fa_c (va_Nw.of rfl (hts _ (List.mem_of_getElem? (i := 788) (by decide +kernel)))) (fa_c (va_Nw.of rfl (hts _ (List.mem_of_getElem? (i := 793) (by decide +kernel)))) (fa_c (va_Nw.of rfl (hts _ (List.mem_of_getElem? (i := 883) (by decide +kernel)))) (fa_c (va_Nw.of rfl (hts _ (List.mem_of_getElem? (i := 884) (by decide +kernel)))) (fa_n)))))))))))))
/-! THE LAW'S ROWS -/
def LwS (p : Program) (s : State) (m : MethodId) (meth : Method) (c : Code) (D : va_G) (dA : Nat → ClassId) (b L : Nat) (xs : Nat → Int32) : Prop :=
  p.tables.exec = Jvm.exec ∧ c.code = code ∧ c.maxLocals = 4 ∧ s.vm.findClass R_law = some m.cls ∧ (∀ w ∈ pm_gw, w.before #[Value.ref b] s = true) ∧ pm_ST D dA s ∧ meth.sig.returnType = ret ∧ meth.locks = false ∧ va_X b L xs s s.heap ∧ b < s.heap.size
/-- the goal at a place of the law -/
def LG (p : Program) (l : Launch) (e : Env) (s : State) (m : MethodId) (below : List Frame) (meth : Method) (c : Code) (D : va_G) (dA : Nat → ClassId) (b : Nat) (M : pm_M) (Lc : List (Nat × Value)) (pc : Nat) (st : List Value) : Prop :=
  ∀ (ls : Array Slot) (H : Heap) (locs : List Loc), lv_has ls 4 Lc → pm_H D dA s.heap.size s.heap M H → (∀ q ∈ locs, s.heap.size ≤ q.base) → W p l e room_1 s m #[Value.ref b] below meth c H locs (pm_zC M) (pm_zS M) (lw_Z below #[Value.ref b] s) (F0 m pc ls st)
abbrev LL (s : State) (b : Nat) (i : Int32) : List (Nat × Value) := [(3, .int i), (2, .ref (s.heap.size + 132)), (1, .ref (s.heap.size + 0)), (0, .ref b)]
section LAW
variable {p : Program} {l : Launch} {e : Env} {s : State} {m : MethodId} {below : List Frame} {meth : Method} {c : Code} {D : va_G} {dA : Nat → ClassId} {b L : Nat} {xs : Nat → Int32} {M M' : pm_M} {Lc : List (Nat × Value)} {pc : Nat} {st : List Value} {i : Int32}
theorem lg_S {H : Heap} {locs : List Loc} (hH : pm_H D dA s.heap.size s.heap M H) (hL : ∀ q ∈ locs, s.heap.size ≤ q.base) : va_S (fun q : Nat => s.heap.size ≤ q) s.heap H locs := ⟨by rw [hH.1]; omega, fun q hq _ => hH.2.1 q hq, hL⟩
theorem lg_arg (hS : LwS p s m meth c D dA b L xs) {k : Int} {v : Int32} (d0 : decode code pc = .ok (.aload_n 0, 1)) (d1 : decode code (pc + 1) = .ok (.iload_n 3, 1)) (d2 : decode code (pc + 1 + 1) = .ok (.iconst k, 1)) (d3 : decode code (pc + 1 + 1 + 1) = .ok (.iadd, 1)) (d4 : decode code (pc + 1 + 1 + 1 + 1) = .ok (.iaload, 1)) (hv : Int32.ofInt k = v) (hin : vp_in (i + v) L)
    (kk : LG p l e s m below meth c D dA b M (LL s b i) (pc + 1 + 1 + 1 + 1 + 1) (.int (xs (i + v).toNatClampNeg) :: st)) : LG p l e s m below meth c D dA b M (LL s b i) pc st := by
  intro ls H locs hl hH hL
  obtain ⟨hx, hb, hml, hown, hg, hST, hr, hlk, hX, hbl⟩ := hS
  refine lv_aload_n hx hb d0 rfl (lv_at hl 3 rfl) ?_
  refine lv_iload_n hx hb d1 rfl (lv_at hl 0 rfl) ?_
  refine lv_iconst hx hb d2 hv ?_
  refine lv_iadd hx hb d3 ?_
  exact va_sld hx hb hX hbl (Nat.not_le.mpr hbl) (lg_S hH hL) hin d4 (kk ls H locs hl hH hL)
theorem lg_a1 (hS : LwS p s m meth c D dA b L xs) (d0 : decode code pc = .ok (.aload_n 1, 1)) (kk : LG p l e s m below meth c D dA b M (LL s b i) (pc + 1) (.ref (s.heap.size + 0) :: st)) : LG p l e s m below meth c D dA b M (LL s b i) pc st := by
  intro ls H locs hl hH hL
  exact lv_aload_n hS.1 hS.2.1 d0 rfl (lv_at hl 2 rfl) (kk ls H locs hl hH hL)
theorem lg_a2 (hS : LwS p s m meth c D dA b L xs) (d0 : decode code pc = .ok (.aload_n 2, 1)) (kk : LG p l e s m below meth c D dA b M (LL s b i) (pc + 1) (.ref (s.heap.size + 132) :: st)) : LG p l e s m below meth c D dA b M (LL s b i) pc st := by
  intro ls H locs hl hH hL
  exact lv_aload_n hS.1 hS.2.1 d0 rfl (lv_at hl 1 rfl) (kk ls H locs hl hH hL)
theorem lg_callV (hS : LwS p s m meth c D dA b L xs) {index j na mL cn N k d : Nat} {y : MethodName} {bytes : ByteArray} {rt : Option FieldType} {C0 : String} {T : u_T} {As rest : List Value} {r : Option Value} (hd : decode code pc = .ok (.invokevirtual index, 3)) (ck : pm_CK cn C0 T N) (hk : M.1[k]? = some (cn, N)) (hmt : pm_mt[j]? = some (y, bytes, mL, rt)) (hcode : Cond.code y bytes mL rt ∈ pm_gw) (hini : Cond.initialized y.cls ∈ pm_gw) (hy : y.cls ≠ "java/lang/invoke/MethodHandle" ∧ y.cls ≠ "java/lang/invoke/VarHandle" ∧ (parseMethodDescriptor y.desc).map (fun d => d.parameters.length) = some na) (hmL : mL ≤ 40) (hlink : Cond.methodLink R_law index y ∈ pm_gw) (hin : Cond.instanceMethod y ∈ pm_gw) (hsel : Cond.selects C0 y y ∈ pm_gw)
    (hd2 : d ≤ 100) (hcall : pm_call d j (.ref k :: As) M r M') (hna : As.length = na) (hrs : (rest.map fun v => v.category).sum ≤ 8) (hr1 : pm_zC M' ≤ 600000) (hr2 : pm_zS M' ≤ 7302250)
    (kk : LG p l e s m below meth c D dA b M' Lc (pc + 3) ((r.map (pm_en s.heap.size)).toList ++ rest)) : LG p l e s m below meth c D dA b M Lc pc ((As.map (pm_en s.heap.size)).reverse ++ .ref (s.heap.size + k) :: rest) := by
  intro ls H locs hl hH hL
  obtain ⟨hx, hb, hml, hown, hg, hST, hr, hlk, hX, hbl⟩ := hS
  obtain ⟨⟨zc, zs⟩, hM⟩ := pm_co l D dA s.heap.size s.heap d _ _ _ _ _ hcall
  have hM := hM y bytes mL rt hmt
  obtain ⟨cellB, g1, g2, g3, -⟩ := (hH.2.2 k cn N hk).1 ck.1
  have hcls := (hST.1.1 cn _ ck.2.1).2
  refine pm_after (va_runV (C := C0) (b := s.heap.size + k) (As := As.map (pm_en s.heap.size)) (rest := rest) ⟨hx, hb, hml, hown, hg⟩ hM ⟨(callB_of na hg (pm_gw_code hcode) rfl rfl rfl (hg _ hini) (hg _ hlink) hy ⟨by show d + 1 ≤ 2048; omega, by show 8 + (mL + 11) + 64 * d ≤ 84000; omega⟩), hg _ hin, hg _ hsel⟩ ⟨pm_P.blind, ⟨cellB, g1, by rw [g3]; rfl, by rw [g2]; exact hcls.1⟩, fun U hU hW => ⟨rfl, hST.warm hW, by rw [hU]; exact hH⟩⟩ rfl (by rw [List.length_map]; exact hna) hl.1 rfl (lv_room hrs) hd ⟨by show _ ≤ 600000; omega, by show _ ≤ 7302250; omega⟩) hL (fun H1 locs1 hH1 hL1 => ?_)
  have hh := kk ls H1 locs1 hl hH1 hL1
  rw [show pm_zC M' = pm_zC M + (pm_zC M' - pm_zC M) by omega, show pm_zS M' = pm_zS M + (pm_zS M' - pm_zS M) by omega] at hh
  exact hh
theorem lg_callI (hS : LwS p s m meth c D dA b L xs) {index j na mL k d : Nat} {y : MethodName} {bytes : ByteArray} {As rest : List Value} {r : Option Value} (hd : decode code pc = .ok (.invokespecial index, 3)) (hmt : pm_mt[j]? = some (y, bytes, mL, none)) (hcode : Cond.code y bytes mL none ∈ pm_gw) (hini : Cond.initialized y.cls ∈ pm_gw) (hy : y.cls ≠ "java/lang/invoke/MethodHandle" ∧ y.cls ≠ "java/lang/invoke/VarHandle" ∧ (parseMethodDescriptor y.desc).map (fun d => d.parameters.length) = some na) (hmL : mL ≤ 40) (hlink : Cond.methodLink R_law index y ∈ pm_gw) (hin : Cond.instanceMethod y ∈ pm_gw) (hnm : y.name = "<init>")
    (hd2 : d ≤ 100) (hcall : pm_call d j (.ref k :: As) M r M') (hna : As.length = na) (hrs : (rest.map fun v => v.category).sum ≤ 8) (hr1 : pm_zC M' ≤ 600000) (hr2 : pm_zS M' ≤ 7302250)
    (kk : LG p l e s m below meth c D dA b M' Lc (pc + 3) ((r.map (pm_en s.heap.size)).toList ++ rest)) : LG p l e s m below meth c D dA b M Lc pc ((As.map (pm_en s.heap.size)).reverse ++ .ref (s.heap.size + k) :: rest) := by
  intro ls H locs hl hH hL
  obtain ⟨hx, hb, hml, hown, hg, hST, hr, hlk, hX, hbl⟩ := hS
  obtain ⟨⟨zc, zs⟩, hM⟩ := pm_co l D dA s.heap.size s.heap d _ _ _ _ _ hcall
  have hM := hM y bytes mL none hmt
  refine pm_after (va_runI (b := s.heap.size + k) (As := As.map (pm_en s.heap.size)) (rest := rest) ⟨hx, hb, hml, hown, hg⟩ hM ⟨(callB_of na hg (pm_gw_code hcode) rfl rfl rfl (hg _ hini) (hg _ hlink) hy ⟨by show d + 1 ≤ 2048; omega, by show 8 + (mL + 11) + 64 * d ≤ 84000; omega⟩), hnm, hg _ hin⟩ ⟨pm_P.blind, fun U hU hW => ⟨rfl, hST.warm hW, by rw [hU]; exact hH⟩⟩ rfl (by rw [List.length_map]; exact hna) hl.1 rfl (lv_room hrs) hd ⟨by show _ ≤ 600000; omega, by show _ ≤ 7302250; omega⟩) hL (fun H1 locs1 hH1 hL1 => ?_)
  have hh := kk ls H1 locs1 hl hH1 hL1
  rw [show pm_zC M' = pm_zC M + (pm_zC M' - pm_zC M) by omega, show pm_zS M' = pm_zS M + (pm_zS M' - pm_zS M) by omega] at hh
  exact hh
theorem lg_new (hS : LwS p s m meth c D dA b L xs) {index cn N : Nat} {C0 : String} {T : u_T} (hd : decode code pc = .ok (.new index, 3)) (ck : pm_CK cn C0 T N) (hcl : Cond.classLink R_law index C0 ∈ pm_gw) (hin : Cond.instantiable C0 N ∈ pm_gw) (hini : Cond.initialized C0 ∈ pm_gw) (hr1 : pm_zC M + 1 ≤ 600000) (hr2 : pm_zS M + N ≤ 7302250)
    (kk : LG p l e s m below meth c D dA b (pm_nw M cn N) Lc (pc + 3) (.ref (s.heap.size + M.1.length) :: st)) : LG p l e s m below meth c D dA b M Lc pc st := by
  intro ls H locs hl hH hL
  obtain ⟨hx, hb, hml, hown, hg, hST, hr, hlk, hX, hbl⟩ := hS
  have hKn := hST.1.1 cn _ ck.2.1
  refine W.newcK hx hb hown (hg _ hcl) (hg _ hin) (hg _ hini) rfl hd (by show _ ≤ 600000; omega) (by show _ ≤ 7302250; omega) hKn.2.1 hH.1 fun H1 kC hkC e1 z1 o1 => ?_
  have hh := kk ls H1 locs hl (hH.new (by rw [z1, hH.1]) (fun q hq => o1 q (by rw [← hH.1]; exact hq)) ⟨fun _ => (u_born (pm_fty cn) hg ck.2.2.1 hKn hkC e1 ck.2.2.2.1).to (fun j hj => (pm_sv_new rfl (ck.2.2.2.2.2 j hj)).symm), fun q => absurd q (by have := ck.1; omega)⟩) hL
  rw [pm_nw_zC, pm_nw_zS] at hh
  exact hh
theorem lg_eqI (hS : LwS p s m meth c D dA b L xs) {x : Int32} {off : Int} {tgt : Nat} (hd : decode code pc = .ok (.if_icmp .eq off, 3)) (ht : (pc : Int) + off = (tgt : Int)) (kk : LG p l e s m below meth c D dA b M Lc tgt st) : LG p l e s m below meth c D dA b M Lc pc (.int x :: .int x :: st) := by
  intro ls H locs hl hH hL
  exact lv_icmp_eq hS.1 hS.2.1 hd ht (fun _ => kk ls H locs hl hH hL) (fun z => absurd rfl z)
theorem lg_eqL (hS : LwS p s m meth c D dA b L xs) {x : Int64} {off : Int} {tgt : Nat} (hd0 : decode code pc = .ok (.lcmp, 1)) (hd : decode code (pc + 1) = .ok (.ifCond .eq off, 3)) (ht : ((pc + 1 : Nat) : Int) + off = (tgt : Int)) (kk : LG p l e s m below meth c D dA b M Lc tgt st) : LG p l e s m below meth c D dA b M Lc pc (.long x :: .long x :: st) := by
  intro ls H locs hl hH hL
  refine W.lcmp hS.1 hS.2.1 hd0 ?_
  exact lv_if_eq hS.1 hS.2.1 hd ht (fun _ => kk ls H locs hl hH hL) (fun z => absurd (by unfold lg_cmp; rw [if_neg Int64.lt_irrefl, if_pos rfl]) z)
theorem nI_ar {i k L : Nat} (h : i + k < L) (hL : L ≤ 3072) : vp_in (nI i + nI k) L ∧ (nI i + nI k).toNatClampNeg = i + k := by
  rw [nI_add]
  exact ⟨vp_in_lt h (by omega), nI_clamp (by omega)⟩
theorem ok_z {M : pm_M} (h : pm_ok M) : pm_zC M ≤ 600000 ∧ pm_zS M ≤ 7302250 := by
  unfold pm_zC pm_zS
  rw [h.1]
  exact (by decide +kernel : pm_T0.length ≤ 600000 ∧ (pm_T0.map Prod.snd).sum ≤ 7302250)
end LAW

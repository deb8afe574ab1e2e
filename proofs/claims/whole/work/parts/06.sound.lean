/-! EACH INSTRUCTION OF THE PURE MACHINE IS THE MACHINE'S -/
def pm_ST (D : va_G) (dA : Nat → ClassId) (U : State) : Prop := va_K D pm_cl (pm_tys dA) U ∧ (∀ q ∈ pm_nest, va_Nw (.methodLinkNest q.1 q.2.1 q.2.2.1 q.2.2.2) U) ∧ va_AO RX5 U ∧ va_AO RX9 U
theorem pm_ST.warm {D : va_G} {dA : Nat → ClassId} {s U : State} (hW : s.WarmedH U.vm) (h : pm_ST D dA s) : pm_ST D dA U := ⟨va_K.moved hW.alike h.1, fun q hq => va_Nw.warmM hW (h.2.1 q hq), va_AO.moved hW.alike h.2.2.1, va_AO.moved hW.alike h.2.2.2⟩
theorem pm_ST.same {D : va_G} {dA : Nat → ClassId} {s U : State} (hW : s.vm = U.vm) (h : pm_ST D dA s) : pm_ST D dA U := ⟨va_K.moved (by rw [hW]; exact Vm.Alike.refl _) h.1, fun q hq => va_Nw.same rfl hW (h.2.1 q hq), va_AO.moved (by rw [hW]; exact Vm.Alike.refl _) h.2.2.1, va_AO.moved (by rw [hW]; exact Vm.Alike.refl _) h.2.2.2⟩
def pm_zC (M : pm_M) : Nat := M.1.length
def pm_zS (M : pm_M) : Nat := (M.1.map Prod.snd).sum
def pm_rm (d mc ms : Nat) : Room := { frames := d, cells := mc, slots := ms, locals := 64 * d }
def pm_P (D : va_G) (dA : Nat → ClassId) (base : Nat) (Hb : Heap) (A : List Value) (M : pm_M) : Array Value → State → Prop := fun a U => a = (A.map (pm_en base)).toArray ∧ pm_ST D dA U ∧ pm_H D dA base Hb M U.heap
def pm_Q (D : va_G) (dA : Nat → ClassId) (base : Nat) (Hb : Heap) (r : Option Value) (M : pm_M) : Array Value → State → Outcome → State → Prop := fun _ _ o t => o = .returned (r.map (pm_en base)) ∧ pm_H D dA base Hb M t.heap
def pm_fr (base : Nat) : Addr → Prop := fun q => base ≤ q
theorem pm_P.blind {D : va_G} {dA : Nat → ClassId} {base : Nat} {Hb : Heap} {A : List Value} {M : pm_M} : FrameBlind (pm_P D dA base Hb A M) := fun _ _ _ _ h => ⟨h.1, h.2.1.same rfl, h.2.2⟩
/-- the static facts of a method's run -/
def pm_C (p : Program) (s : State) (m : MethodId) (args : Array Value) (meth : Method) (c : Code) (D : va_G) (dA : Nat → ClassId) (own : String) (cc : ByteArray) (nL : Nat) (ret : Option FieldType) (ini : Bool) : Prop :=
  p.tables.exec = Jvm.exec ∧ c.code = cc ∧ c.maxLocals = nL ∧ s.vm.findClass own = some m.cls ∧ (∀ w ∈ pm_gw, w.before args s = true) ∧ pm_ST D dA s ∧ meth.sig.returnType = ret ∧ meth.locks = false ∧ (ini = true → meth.name = "<init>")
def pm_CO (l : Launch) (D : va_G) (dA : Nat → ClassId) (base : Nat) (Hb : Heap) (d : Nat) (call : pm_Cr) : Prop := ∀ (j : Nat) (A : List Value) (M : pm_M) (r : Option Value) (M' : pm_M), call j A M r M' → (pm_zC M ≤ pm_zC M' ∧ pm_zS M ≤ pm_zS M') ∧
  ∀ (y : MethodName) (bytes : ByteArray) (nL : Nat) (ret : Option FieldType), pm_mt[j]? = some (y, bytes, nL, ret) → Met l y (Cond.code y bytes nL ret :: pm_gw) (pm_rm d (pm_zC M' - pm_zC M) (pm_zS M' - pm_zS M)) (pm_P D dA base Hb A M) (pm_Q D dA base Hb r M') (pm_zC M' - pm_zC M) (pm_zS M' - pm_zS M) (pm_fr base)
/-- the goal at a place of a method, as the pure machine has it -/
def pm_W (p : Program) (l : Launch) (e : Env) (s : State) (m : MethodId) (args : Array Value) (below : List Frame) (meth : Method) (c : Code) (D : va_G) (dA : Nat → ClassId) (base : Nat) (Hb : Heap) (nL d : Nat) (M0 Mf : pm_M) (r : Option Value) : pm_Rc := fun pc L st M =>
  (pm_zC M ≤ pm_zC Mf ∧ pm_zS M ≤ pm_zS Mf) ∧ ∀ (ls : Array Slot) (H : Heap) (locs : List Loc), lv_has ls nL (pm_lv base L) → pm_H D dA base Hb M H → (∀ q ∈ locs, base ≤ q.base) → pm_zC M0 ≤ pm_zC M → pm_zS M0 ≤ pm_zS M →
    W p l e (pm_rm (d + 1) (pm_zC Mf - pm_zC M0) (pm_zS Mf - pm_zS M0)) s m args below meth c H locs (pm_zC M - pm_zC M0) (pm_zS M - pm_zS M0) (MQ below (pm_Q D dA base Hb r Mf) args s (pm_zC Mf - pm_zC M0) (pm_zS Mf - pm_zS M0) (pm_fr base)) (F0 m pc ls (st.map (pm_en base)))
def pm_Snd (own : String) (cc : ByteArray) (nL : Nat) (ret : Option FieldType) (ini : Bool) (pc : Nat) (sem : pm_Sem) : Prop :=
  ∀ (p : Program) (l : Launch) (e : Env) (s : State) (m : MethodId) (args : Array Value) (below : List Frame) (meth : Method) (c : Code) (D : va_G) (dA : Nat → ClassId) (base : Nat) (Hb : Heap) (d : Nat) (M0 Mf : pm_M) (r : Option Value) (call : pm_Cr) (rec : pm_Rc),
    pm_C p s m args meth c D dA own cc nL ret ini → pm_CO l D dA base Hb d call → (∀ pc L st M, rec pc L st M → pm_W p l e s m args below meth c D dA base Hb nL d M0 Mf r pc L st M) →
    ∀ (L : pm_L) (st : List Value) (M : pm_M), sem call (fun r0 M1 => r0 = r ∧ M1 = Mf) rec L st M → pm_W p l e s m args below meth c D dA base Hb nL d M0 Mf r pc L st M
section PMS
variable {own : String} {cc : ByteArray} {nL : Nat} {ret : Option FieldType} {ini : Bool} {pc : Nat}
theorem sn_iconst {n : Int} {v : Int32} (hd : decode cc pc = .ok (.iconst n, 1)) (hv : Int32.ofInt n = v) : pm_Snd own cc nL ret ini pc (op_k (.int v) (pc + 1)) := by
  intro p l e s m args below meth c D dA base Hb d M0 Mf r call rec C hc hr L st M h
  obtain ⟨z, k⟩ := hr _ _ _ _ h
  exact ⟨z, fun ls H locs hl hH hL h1 h2 => lv_iconst C.1 C.2.1 hd hv (k ls H locs hl hH hL h1 h2)⟩
theorem sn_bipush {n : Int} {v : Int32} (hd : decode cc pc = .ok (.bipush n, 2)) (hv : (Int8.ofInt n).toInt32 = v) : pm_Snd own cc nL ret ini pc (op_k (.int v) (pc + 2)) := by
  intro p l e s m args below meth c D dA base Hb d M0 Mf r call rec C hc hr L st M h
  obtain ⟨z, k⟩ := hr _ _ _ _ h
  exact ⟨z, fun ls H locs hl hH hL h1 h2 => lv_bipush C.1 C.2.1 hd hv (k ls H locs hl hH hL h1 h2)⟩
theorem sn_sipush {n : Int} {v : Int32} (hd : decode cc pc = .ok (.sipush n, 3)) (hv : (Int16.ofInt n).toInt32 = v) : pm_Snd own cc nL ret ini pc (op_k (.int v) (pc + 3)) := by
  intro p l e s m args below meth c D dA base Hb d M0 Mf r call rec C hc hr L st M h
  obtain ⟨z, k⟩ := hr _ _ _ _ h
  exact ⟨z, fun ls H locs hl hH hL h1 h2 => lv_sipush C.1 C.2.1 hd hv (k ls H locs hl hH hL h1 h2)⟩
theorem sn_lconst {n : Fin 2} {v : Int64} (hd : decode cc pc = .ok (.lconst n, 1)) (hv : Int64.ofNat (n : Nat) = v) : pm_Snd own cc nL ret ini pc (op_k (.long v) (pc + 1)) := by
  intro p l e s m args below meth c D dA base Hb d M0 Mf r call rec C hc hr L st M h
  obtain ⟨z, k⟩ := hr _ _ _ _ h
  exact ⟨z, fun ls H locs hl hH hL h1 h2 => lv_lconst C.1 C.2.1 hd hv (k ls H locs hl hH hL h1 h2)⟩
theorem sn_ldc {i : Nat} {v : Int32} (hd : decode cc pc = .ok (.ldc i, 2)) (hw : Cond.constant own i v ∈ pm_gw) : pm_Snd own cc nL ret ini pc (op_k (.int v) (pc + 2)) := by
  intro p l e s m args below meth c D dA base Hb d M0 Mf r call rec C hc hr L st M h
  obtain ⟨z, k⟩ := hr _ _ _ _ h
  exact ⟨z, fun ls H locs hl hH hL h1 h2 => lv_ldc C.1 C.2.1 C.2.2.2.1 (C.2.2.2.2.1 _ hw) hd (k ls H locs hl hH hL h1 h2)⟩
theorem sn_ldcw {i : Nat} {v : Int32} (hd : decode cc pc = .ok (.ldc_w i, 3)) (hw : Cond.constant own i v ∈ pm_gw) : pm_Snd own cc nL ret ini pc (op_k (.int v) (pc + 3)) := by
  intro p l e s m args below meth c D dA base Hb d M0 Mf r call rec C hc hr L st M h
  obtain ⟨z, k⟩ := hr _ _ _ _ h
  exact ⟨z, fun ls H locs hl hH hL h1 h2 => lv_ldcw C.1 C.2.1 C.2.2.2.1 (C.2.2.2.2.1 _ hw) hd (k ls H locs hl hH hL h1 h2)⟩
theorem sn_ldc2 {i : Nat} {v : Int64} (hd : decode cc pc = .ok (.ldc2_w i, 3)) (hw : Cond.constantLong own i v ∈ pm_gw) : pm_Snd own cc nL ret ini pc (op_k (.long v) (pc + 3)) := by
  intro p l e s m args below meth c D dA base Hb d M0 Mf r call rec C hc hr L st M h
  obtain ⟨z, k⟩ := hr _ _ _ _ h
  exact ⟨z, fun ls H locs hl hH hL h1 h2 => lv_ldc2 C.1 C.2.1 C.2.2.2.1 (C.2.2.2.2.1 _ hw) hd (k ls H locs hl hH hL h1 h2)⟩
theorem sn_goto {off : Int} {tg : Nat} (hd : decode cc pc = .ok (.goto off, 3)) (ht : (pc : Int) + off = (tg : Int)) : pm_Snd own cc nL ret ini pc (op_go tg) := by
  intro p l e s m args below meth c D dA base Hb d M0 Mf r call rec C hc hr L st M h
  obtain ⟨z, k⟩ := hr _ _ _ _ h
  exact ⟨z, fun ls H locs hl hH hL h1 h2 => lv_goto C.1 C.2.1 hd ht (k ls H locs hl hH hL h1 h2)⟩
theorem sn_iload_n {k : Fin 4} {i : Nat} (hd : decode cc pc = .ok (.iload_n k, 1)) (hi : (k : Nat) = i) : pm_Snd own cc nL ret ini pc (op_ild i (pc + 1)) := by
  intro p l e s m args below meth c D dA base Hb d M0 Mf r call rec C hc hr L st M h
  obtain ⟨x, hx, h⟩ := h
  obtain ⟨z, k⟩ := hr _ _ _ _ h
  exact ⟨z, fun ls H locs hl hH hL h1 h2 => lv_iload_n C.1 C.2.1 hd hi (pm_lv_at hl hx) (k ls H locs hl hH hL h1 h2)⟩
theorem sn_iload {i : Nat} (hd : decode cc pc = .ok (.iload i, 2)) : pm_Snd own cc nL ret ini pc (op_ild i (pc + 2)) := by
  intro p l e s m args below meth c D dA base Hb d M0 Mf r call rec C hc hr L st M h
  obtain ⟨x, hx, h⟩ := h
  obtain ⟨z, k⟩ := hr _ _ _ _ h
  exact ⟨z, fun ls H locs hl hH hL h1 h2 => lv_iload C.1 C.2.1 hd (pm_lv_at hl hx) (k ls H locs hl hH hL h1 h2)⟩
theorem sn_lload_n {k : Fin 4} {i : Nat} (hd : decode cc pc = .ok (.lload_n k, 1)) (hi : (k : Nat) = i) : pm_Snd own cc nL ret ini pc (op_lld i (pc + 1)) := by
  intro p l e s m args below meth c D dA base Hb d M0 Mf r call rec C hc hr L st M h
  obtain ⟨x, hx, h⟩ := h
  obtain ⟨z, k⟩ := hr _ _ _ _ h
  exact ⟨z, fun ls H locs hl hH hL h1 h2 => lv_lload_n C.1 C.2.1 hd hi (pm_lv_at hl hx) (k ls H locs hl hH hL h1 h2)⟩
theorem sn_lload {i : Nat} (hd : decode cc pc = .ok (.lload i, 2)) : pm_Snd own cc nL ret ini pc (op_lld i (pc + 2)) := by
  intro p l e s m args below meth c D dA base Hb d M0 Mf r call rec C hc hr L st M h
  obtain ⟨x, hx, h⟩ := h
  obtain ⟨z, k⟩ := hr _ _ _ _ h
  exact ⟨z, fun ls H locs hl hH hL h1 h2 => lv_lload C.1 C.2.1 hd (pm_lv_at hl hx) (k ls H locs hl hH hL h1 h2)⟩
theorem sn_aload_n {k : Fin 4} {i : Nat} (hd : decode cc pc = .ok (.aload_n k, 1)) (hi : (k : Nat) = i) : pm_Snd own cc nL ret ini pc (op_ald i (pc + 1)) := by
  intro p l e s m args below meth c D dA base Hb d M0 Mf r call rec C hc hr L st M h
  obtain ⟨x, hx, h⟩ := h
  obtain ⟨z, k⟩ := hr _ _ _ _ h
  exact ⟨z, fun ls H locs hl hH hL h1 h2 => lv_aload_n C.1 C.2.1 hd hi (pm_lv_at hl hx) (k ls H locs hl hH hL h1 h2)⟩
theorem sn_aload {i : Nat} (hd : decode cc pc = .ok (.aload i, 2)) : pm_Snd own cc nL ret ini pc (op_ald i (pc + 2)) := by
  intro p l e s m args below meth c D dA base Hb d M0 Mf r call rec C hc hr L st M h
  obtain ⟨x, hx, h⟩ := h
  obtain ⟨z, k⟩ := hr _ _ _ _ h
  exact ⟨z, fun ls H locs hl hH hL h1 h2 => lv_aload C.1 C.2.1 hd (pm_lv_at hl hx) (k ls H locs hl hH hL h1 h2)⟩
theorem sn_istore_n {k : Fin 4} {i : Nat} (hd : decode cc pc = .ok (.istore_n k, 1)) (hi : (k : Nat) = i) (hn : i < nL) : pm_Snd own cc nL ret ini pc (op_ist i (pc + 1)) := by
  intro p l e s m args below meth c D dA base Hb d M0 Mf r call rec C hc hr L st M h
  obtain ⟨x, st', rfl, h⟩ := h
  obtain ⟨z, k⟩ := hr _ _ _ _ h
  exact ⟨z, fun ls H locs hl hH hL h1 h2 => lv_istore_n C.1 C.2.1 hd hi hl hn rfl (fun ls' hl' => k ls' H locs (pm_has_st1 hl') hH hL h1 h2)⟩
theorem sn_istore {i : Nat} (hd : decode cc pc = .ok (.istore i, 2)) (hn : i < nL) : pm_Snd own cc nL ret ini pc (op_ist i (pc + 2)) := by
  intro p l e s m args below meth c D dA base Hb d M0 Mf r call rec C hc hr L st M h
  obtain ⟨x, st', rfl, h⟩ := h
  obtain ⟨z, k⟩ := hr _ _ _ _ h
  exact ⟨z, fun ls H locs hl hH hL h1 h2 => lv_istore C.1 C.2.1 hd hl hn rfl (fun ls' hl' => k ls' H locs (pm_has_st1 hl') hH hL h1 h2)⟩
theorem sn_lstore_n {k : Fin 4} {i : Nat} (hd : decode cc pc = .ok (.lstore_n k, 1)) (hi : (k : Nat) = i) (hn : i + 1 < nL) : pm_Snd own cc nL ret ini pc (op_lst i (pc + 1)) := by
  intro p l e s m args below meth c D dA base Hb d M0 Mf r call rec C hc hr L st M h
  obtain ⟨x, st', rfl, h⟩ := h
  obtain ⟨z, k⟩ := hr _ _ _ _ h
  exact ⟨z, fun ls H locs hl hH hL h1 h2 => lv_lstore_n C.1 C.2.1 hd hi hl hn rfl (fun ls' hl' => k ls' H locs (pm_has_st2 hl') hH hL h1 h2)⟩
theorem sn_lstore {i : Nat} (hd : decode cc pc = .ok (.lstore i, 2)) (hn : i + 1 < nL) : pm_Snd own cc nL ret ini pc (op_lst i (pc + 2)) := by
  intro p l e s m args below meth c D dA base Hb d M0 Mf r call rec C hc hr L st M h
  obtain ⟨x, st', rfl, h⟩ := h
  obtain ⟨z, k⟩ := hr _ _ _ _ h
  exact ⟨z, fun ls H locs hl hH hL h1 h2 => lv_lstore C.1 C.2.1 hd hl hn rfl (fun ls' hl' => k ls' H locs (pm_has_st2 hl') hH hL h1 h2)⟩
theorem sn_astore_n {k : Fin 4} {i : Nat} (hd : decode cc pc = .ok (.astore_n k, 1)) (hi : (k : Nat) = i) (hn : i < nL) : pm_Snd own cc nL ret ini pc (op_ast i (pc + 1)) := by
  intro p l e s m args below meth c D dA base Hb d M0 Mf r call rec C hc hr L st M h
  obtain ⟨x, st', rfl, h⟩ := h
  obtain ⟨z, k⟩ := hr _ _ _ _ h
  exact ⟨z, fun ls H locs hl hH hL h1 h2 => lv_astore_n C.1 C.2.1 hd hi hl hn rfl (fun ls' hl' => k ls' H locs (pm_has_st1 hl') hH hL h1 h2)⟩
theorem sn_astore {i : Nat} (hd : decode cc pc = .ok (.astore i, 2)) (hn : i < nL) : pm_Snd own cc nL ret ini pc (op_ast i (pc + 2)) := by
  intro p l e s m args below meth c D dA base Hb d M0 Mf r call rec C hc hr L st M h
  obtain ⟨x, st', rfl, h⟩ := h
  obtain ⟨z, k⟩ := hr _ _ _ _ h
  exact ⟨z, fun ls H locs hl hH hL h1 h2 => lv_astore C.1 C.2.1 hd hl hn rfl (fun ls' hl' => k ls' H locs (pm_has_st1 hl') hH hL h1 h2)⟩
theorem sn_iinc {i : Nat} {n : Int} {v : Int32} (hd : decode cc pc = .ok (.iinc i n, 3)) (hv : Int32.ofInt n = v) (hn : i < nL) : pm_Snd own cc nL ret ini pc (op_inc i v (pc + 3)) := by
  intro p l e s m args below meth c D dA base Hb d M0 Mf r call rec C hc hr L st M h
  obtain ⟨x, hx, h⟩ := h
  obtain ⟨z, k⟩ := hr _ _ _ _ h
  refine ⟨z, fun ls H locs hl hH hL h1 h2 => ?_⟩
  obtain ⟨q, hq⟩ := List.getElem?_of_mem (pm_lv_mem.mpr ⟨Value.int x, hx, rfl⟩ : ((i, Value.int x) : Nat × Value) ∈ pm_lv base L)
  exact lv_iinc C.1 C.2.1 hd hl hq (by rw [hv]) hn rfl (fun ls' hl' => k ls' H locs (pm_has_st1 hl') hH hL h1 h2)
theorem sn_iadd (hd : decode cc pc = .ok (.iadd, 1)) : pm_Snd own cc nL ret ini pc (op_ib (fun x y => x + y) (pc + 1)) := by
  intro p l e s m args below meth c D dA base Hb d M0 Mf r call rec C hc hr L st M h
  obtain ⟨x, y, st', rfl, h⟩ := h
  obtain ⟨z, k⟩ := hr _ _ _ _ h
  exact ⟨z, fun ls H locs hl hH hL h1 h2 => lv_iadd C.1 C.2.1 hd (k ls H locs hl hH hL h1 h2)⟩
theorem sn_isub (hd : decode cc pc = .ok (.isub, 1)) : pm_Snd own cc nL ret ini pc (op_ib (fun x y => x - y) (pc + 1)) := by
  intro p l e s m args below meth c D dA base Hb d M0 Mf r call rec C hc hr L st M h
  obtain ⟨x, y, st', rfl, h⟩ := h
  obtain ⟨z, k⟩ := hr _ _ _ _ h
  exact ⟨z, fun ls H locs hl hH hL h1 h2 => lv_isub C.1 C.2.1 hd (k ls H locs hl hH hL h1 h2)⟩
theorem sn_imul (hd : decode cc pc = .ok (.imul, 1)) : pm_Snd own cc nL ret ini pc (op_ib (fun x y => x * y) (pc + 1)) := by
  intro p l e s m args below meth c D dA base Hb d M0 Mf r call rec C hc hr L st M h
  obtain ⟨x, y, st', rfl, h⟩ := h
  obtain ⟨z, k⟩ := hr _ _ _ _ h
  exact ⟨z, fun ls H locs hl hH hL h1 h2 => lv_imul C.1 C.2.1 hd (k ls H locs hl hH hL h1 h2)⟩
theorem sn_iand (hd : decode cc pc = .ok (.iand, 1)) : pm_Snd own cc nL ret ini pc (op_ib (fun x y => x &&& y) (pc + 1)) := by
  intro p l e s m args below meth c D dA base Hb d M0 Mf r call rec C hc hr L st M h
  obtain ⟨x, y, st', rfl, h⟩ := h
  obtain ⟨z, k⟩ := hr _ _ _ _ h
  exact ⟨z, fun ls H locs hl hH hL h1 h2 => lv_iand C.1 C.2.1 hd (k ls H locs hl hH hL h1 h2)⟩
theorem sn_ior (hd : decode cc pc = .ok (.ior, 1)) : pm_Snd own cc nL ret ini pc (op_ib (fun x y => x ||| y) (pc + 1)) := by
  intro p l e s m args below meth c D dA base Hb d M0 Mf r call rec C hc hr L st M h
  obtain ⟨x, y, st', rfl, h⟩ := h
  obtain ⟨z, k⟩ := hr _ _ _ _ h
  exact ⟨z, fun ls H locs hl hH hL h1 h2 => lv_ior C.1 C.2.1 hd (k ls H locs hl hH hL h1 h2)⟩
theorem sn_ixor (hd : decode cc pc = .ok (.ixor, 1)) : pm_Snd own cc nL ret ini pc (op_ib (fun x y => x ^^^ y) (pc + 1)) := by
  intro p l e s m args below meth c D dA base Hb d M0 Mf r call rec C hc hr L st M h
  obtain ⟨x, y, st', rfl, h⟩ := h
  obtain ⟨z, k⟩ := hr _ _ _ _ h
  exact ⟨z, fun ls H locs hl hH hL h1 h2 => lv_ixor C.1 C.2.1 hd (k ls H locs hl hH hL h1 h2)⟩
theorem sn_ishl (hd : decode cc pc = .ok (.ishl, 1)) : pm_Snd own cc nL ret ini pc (op_ib (fun x y => x <<< (y &&& 31)) (pc + 1)) := by
  intro p l e s m args below meth c D dA base Hb d M0 Mf r call rec C hc hr L st M h
  obtain ⟨x, y, st', rfl, h⟩ := h
  obtain ⟨z, k⟩ := hr _ _ _ _ h
  exact ⟨z, fun ls H locs hl hH hL h1 h2 => lv_ishl C.1 C.2.1 hd (k ls H locs hl hH hL h1 h2)⟩
theorem sn_ishr (hd : decode cc pc = .ok (.ishr, 1)) : pm_Snd own cc nL ret ini pc (op_ib (fun x y => x >>> (y &&& 31)) (pc + 1)) := by
  intro p l e s m args below meth c D dA base Hb d M0 Mf r call rec C hc hr L st M h
  obtain ⟨x, y, st', rfl, h⟩ := h
  obtain ⟨z, k⟩ := hr _ _ _ _ h
  exact ⟨z, fun ls H locs hl hH hL h1 h2 => lv_ishr C.1 C.2.1 hd (k ls H locs hl hH hL h1 h2)⟩
theorem sn_iushr (hd : decode cc pc = .ok (.iushr, 1)) : pm_Snd own cc nL ret ini pc (op_ib (fun x y => (x.toUInt32 >>> (y.toUInt32 &&& Int32.toUInt32 31)).toInt32) (pc + 1)) := by
  intro p l e s m args below meth c D dA base Hb d M0 Mf r call rec C hc hr L st M h
  obtain ⟨x, y, st', rfl, h⟩ := h
  obtain ⟨z, k⟩ := hr _ _ _ _ h
  exact ⟨z, fun ls H locs hl hH hL h1 h2 => lv_iushr C.1 C.2.1 hd rfl (k ls H locs hl hH hL h1 h2)⟩
theorem sn_idiv (hd : decode cc pc = .ok (.idiv, 1)) : pm_Snd own cc nL ret ini pc (op_idv (fun x y => x / y) (pc + 1)) := by
  intro p l e s m args below meth c D dA base Hb d M0 Mf r call rec C hc hr L st M h
  obtain ⟨x, y, st', rfl, hne, h⟩ := h
  obtain ⟨z, k⟩ := hr _ _ _ _ h
  exact ⟨z, fun ls H locs hl hH hL h1 h2 => lv_idiv C.1 C.2.1 hd hne (k ls H locs hl hH hL h1 h2)⟩
theorem sn_irem (hd : decode cc pc = .ok (.irem, 1)) : pm_Snd own cc nL ret ini pc (op_idv (fun x y => x - x / y * y) (pc + 1)) := by
  intro p l e s m args below meth c D dA base Hb d M0 Mf r call rec C hc hr L st M h
  obtain ⟨x, y, st', rfl, hne, h⟩ := h
  obtain ⟨z, k⟩ := hr _ _ _ _ h
  exact ⟨z, fun ls H locs hl hH hL h1 h2 => lv_irem C.1 C.2.1 hd hne (k ls H locs hl hH hL h1 h2)⟩
theorem sn_ladd (hd : decode cc pc = .ok (.ladd, 1)) : pm_Snd own cc nL ret ini pc (op_lb (fun x y => x + y) (pc + 1)) := by
  intro p l e s m args below meth c D dA base Hb d M0 Mf r call rec C hc hr L st M h
  obtain ⟨x, y, st', rfl, h⟩ := h
  obtain ⟨z, k⟩ := hr _ _ _ _ h
  exact ⟨z, fun ls H locs hl hH hL h1 h2 => lv_ladd C.1 C.2.1 hd (k ls H locs hl hH hL h1 h2)⟩
theorem sn_lsub (hd : decode cc pc = .ok (.lsub, 1)) : pm_Snd own cc nL ret ini pc (op_lb (fun x y => x - y) (pc + 1)) := by
  intro p l e s m args below meth c D dA base Hb d M0 Mf r call rec C hc hr L st M h
  obtain ⟨x, y, st', rfl, h⟩ := h
  obtain ⟨z, k⟩ := hr _ _ _ _ h
  exact ⟨z, fun ls H locs hl hH hL h1 h2 => lv_lsub C.1 C.2.1 hd (k ls H locs hl hH hL h1 h2)⟩
theorem sn_lmul (hd : decode cc pc = .ok (.lmul, 1)) : pm_Snd own cc nL ret ini pc (op_lb (fun x y => x * y) (pc + 1)) := by
  intro p l e s m args below meth c D dA base Hb d M0 Mf r call rec C hc hr L st M h
  obtain ⟨x, y, st', rfl, h⟩ := h
  obtain ⟨z, k⟩ := hr _ _ _ _ h
  exact ⟨z, fun ls H locs hl hH hL h1 h2 => lv_lmul C.1 C.2.1 hd (k ls H locs hl hH hL h1 h2)⟩
theorem sn_ldiv (hd : decode cc pc = .ok (.ldiv, 1)) : pm_Snd own cc nL ret ini pc (op_ldv (fun x y => x / y) (pc + 1)) := by
  intro p l e s m args below meth c D dA base Hb d M0 Mf r call rec C hc hr L st M h
  obtain ⟨x, y, st', rfl, hne, h⟩ := h
  obtain ⟨z, k⟩ := hr _ _ _ _ h
  exact ⟨z, fun ls H locs hl hH hL h1 h2 => lv_ldiv C.1 C.2.1 hd hne (k ls H locs hl hH hL h1 h2)⟩
theorem sn_lrem (hd : decode cc pc = .ok (.lrem, 1)) : pm_Snd own cc nL ret ini pc (op_ldv (fun x y => x - x / y * y) (pc + 1)) := by
  intro p l e s m args below meth c D dA base Hb d M0 Mf r call rec C hc hr L st M h
  obtain ⟨x, y, st', rfl, hne, h⟩ := h
  obtain ⟨z, k⟩ := hr _ _ _ _ h
  exact ⟨z, fun ls H locs hl hH hL h1 h2 => lv_lrem C.1 C.2.1 hd hne (k ls H locs hl hH hL h1 h2)⟩
theorem sn_ineg (hd : decode cc pc = .ok (.ineg, 1)) : pm_Snd own cc nL ret ini pc (op_iu (fun x => -x) (pc + 1)) := by
  intro p l e s m args below meth c D dA base Hb d M0 Mf r call rec C hc hr L st M h
  obtain ⟨x, st', rfl, h⟩ := h
  obtain ⟨z, k⟩ := hr _ _ _ _ h
  exact ⟨z, fun ls H locs hl hH hL h1 h2 => lv_ineg C.1 C.2.1 hd (k ls H locs hl hH hL h1 h2)⟩
theorem sn_i2b (hd : decode cc pc = .ok (.i2b, 1)) : pm_Snd own cc nL ret ini pc (op_iu (fun x => x.toInt8.toInt32) (pc + 1)) := by
  intro p l e s m args below meth c D dA base Hb d M0 Mf r call rec C hc hr L st M h
  obtain ⟨x, st', rfl, h⟩ := h
  obtain ⟨z, k⟩ := hr _ _ _ _ h
  exact ⟨z, fun ls H locs hl hH hL h1 h2 => lv_i2b C.1 C.2.1 hd rfl (k ls H locs hl hH hL h1 h2)⟩
theorem sn_i2l (hd : decode cc pc = .ok (.i2l, 1)) : pm_Snd own cc nL ret ini pc (op_i2l (pc + 1)) := by
  intro p l e s m args below meth c D dA base Hb d M0 Mf r call rec C hc hr L st M h
  obtain ⟨x, st', rfl, h⟩ := h
  obtain ⟨z, k⟩ := hr _ _ _ _ h
  exact ⟨z, fun ls H locs hl hH hL h1 h2 => lv_i2l C.1 C.2.1 hd rfl (k ls H locs hl hH hL h1 h2)⟩
theorem sn_l2i (hd : decode cc pc = .ok (.l2i, 1)) : pm_Snd own cc nL ret ini pc (op_l2i (pc + 1)) := by
  intro p l e s m args below meth c D dA base Hb d M0 Mf r call rec C hc hr L st M h
  obtain ⟨x, st', rfl, h⟩ := h
  obtain ⟨z, k⟩ := hr _ _ _ _ h
  exact ⟨z, fun ls H locs hl hH hL h1 h2 => lv_l2i C.1 C.2.1 hd rfl (k ls H locs hl hH hL h1 h2)⟩
theorem sn_lcmp (hd : decode cc pc = .ok (.lcmp, 1)) : pm_Snd own cc nL ret ini pc (op_lcmp (pc + 1)) := by
  intro p l e s m args below meth c D dA base Hb d M0 Mf r call rec C hc hr L st M h
  obtain ⟨x, y, st', rfl, h⟩ := h
  obtain ⟨z, k⟩ := hr _ _ _ _ h
  exact ⟨z, fun ls H locs hl hH hL h1 h2 => W.lcmp C.1 C.2.1 hd (k ls H locs hl hH hL h1 h2)⟩
theorem sn_icmp_eq {off : Int} {tg : Nat} (hd : decode cc pc = .ok (.if_icmp .eq off, 3)) (ht : (pc : Int) + off = (tg : Int)) : pm_Snd own cc nL ret ini pc (op_b2 (fun x y => x = y) tg (pc + 3)) := by
  intro p l e s m args below meth c D dA base Hb d M0 Mf r call rec C hc hr L st M h
  obtain ⟨x, y, st', rfl, ha, hb⟩ := h
  by_cases hq : x = y
  · obtain ⟨z, k⟩ := hr _ _ _ _ (ha hq)
    exact ⟨z, fun ls H locs hl hH hL h1 h2 => lv_icmp_eq C.1 C.2.1 hd ht (fun _ => k ls H locs hl hH hL h1 h2) (fun z => absurd hq z)⟩
  · obtain ⟨z, k⟩ := hr _ _ _ _ (hb hq)
    exact ⟨z, fun ls H locs hl hH hL h1 h2 => lv_icmp_eq C.1 C.2.1 hd ht (fun z => absurd z hq) (fun _ => k ls H locs hl hH hL h1 h2)⟩
theorem sn_if_eq {off : Int} {tg : Nat} (hd : decode cc pc = .ok (.ifCond .eq off, 3)) (ht : (pc : Int) + off = (tg : Int)) : pm_Snd own cc nL ret ini pc (op_b1 (fun x => x = 0) tg (pc + 3)) := by
  intro p l e s m args below meth c D dA base Hb d M0 Mf r call rec C hc hr L st M h
  obtain ⟨x, st', rfl, ha, hb⟩ := h
  by_cases hq : x = 0
  · obtain ⟨z, k⟩ := hr _ _ _ _ (ha hq)
    exact ⟨z, fun ls H locs hl hH hL h1 h2 => lv_if_eq C.1 C.2.1 hd ht (fun _ => k ls H locs hl hH hL h1 h2) (fun z => absurd hq z)⟩
  · obtain ⟨z, k⟩ := hr _ _ _ _ (hb hq)
    exact ⟨z, fun ls H locs hl hH hL h1 h2 => lv_if_eq C.1 C.2.1 hd ht (fun z => absurd z hq) (fun _ => k ls H locs hl hH hL h1 h2)⟩
theorem sn_icmp_ne {off : Int} {tg : Nat} (hd : decode cc pc = .ok (.if_icmp .ne off, 3)) (ht : (pc : Int) + off = (tg : Int)) : pm_Snd own cc nL ret ini pc (op_b2 (fun x y => ¬ x = y) tg (pc + 3)) := by
  intro p l e s m args below meth c D dA base Hb d M0 Mf r call rec C hc hr L st M h
  obtain ⟨x, y, st', rfl, ha, hb⟩ := h
  by_cases hq : ¬ x = y
  · obtain ⟨z, k⟩ := hr _ _ _ _ (ha hq)
    exact ⟨z, fun ls H locs hl hH hL h1 h2 => lv_icmp_ne C.1 C.2.1 hd ht (fun _ => k ls H locs hl hH hL h1 h2) (fun z => absurd z hq)⟩
  · obtain ⟨z, k⟩ := hr _ _ _ _ (hb hq)
    exact ⟨z, fun ls H locs hl hH hL h1 h2 => lv_icmp_ne C.1 C.2.1 hd ht (fun z => absurd z hq) (fun _ => k ls H locs hl hH hL h1 h2)⟩
theorem sn_if_ne {off : Int} {tg : Nat} (hd : decode cc pc = .ok (.ifCond .ne off, 3)) (ht : (pc : Int) + off = (tg : Int)) : pm_Snd own cc nL ret ini pc (op_b1 (fun x => ¬ x = 0) tg (pc + 3)) := by
  intro p l e s m args below meth c D dA base Hb d M0 Mf r call rec C hc hr L st M h
  obtain ⟨x, st', rfl, ha, hb⟩ := h
  by_cases hq : ¬ x = 0
  · obtain ⟨z, k⟩ := hr _ _ _ _ (ha hq)
    exact ⟨z, fun ls H locs hl hH hL h1 h2 => lv_if_ne C.1 C.2.1 hd ht (fun _ => k ls H locs hl hH hL h1 h2) (fun z => absurd z hq)⟩
  · obtain ⟨z, k⟩ := hr _ _ _ _ (hb hq)
    exact ⟨z, fun ls H locs hl hH hL h1 h2 => lv_if_ne C.1 C.2.1 hd ht (fun z => absurd z hq) (fun _ => k ls H locs hl hH hL h1 h2)⟩
theorem sn_icmp_lt {off : Int} {tg : Nat} (hd : decode cc pc = .ok (.if_icmp .lt off, 3)) (ht : (pc : Int) + off = (tg : Int)) : pm_Snd own cc nL ret ini pc (op_b2 (fun x y => x < y) tg (pc + 3)) := by
  intro p l e s m args below meth c D dA base Hb d M0 Mf r call rec C hc hr L st M h
  obtain ⟨x, y, st', rfl, ha, hb⟩ := h
  by_cases hq : x < y
  · obtain ⟨z, k⟩ := hr _ _ _ _ (ha hq)
    exact ⟨z, fun ls H locs hl hH hL h1 h2 => lv_icmp_lt C.1 C.2.1 hd ht (fun _ => k ls H locs hl hH hL h1 h2) (fun z => absurd hq z)⟩
  · obtain ⟨z, k⟩ := hr _ _ _ _ (hb hq)
    exact ⟨z, fun ls H locs hl hH hL h1 h2 => lv_icmp_lt C.1 C.2.1 hd ht (fun z => absurd z hq) (fun _ => k ls H locs hl hH hL h1 h2)⟩
theorem sn_if_lt {off : Int} {tg : Nat} (hd : decode cc pc = .ok (.ifCond .lt off, 3)) (ht : (pc : Int) + off = (tg : Int)) : pm_Snd own cc nL ret ini pc (op_b1 (fun x => x < 0) tg (pc + 3)) := by
  intro p l e s m args below meth c D dA base Hb d M0 Mf r call rec C hc hr L st M h
  obtain ⟨x, st', rfl, ha, hb⟩ := h
  by_cases hq : x < 0
  · obtain ⟨z, k⟩ := hr _ _ _ _ (ha hq)
    exact ⟨z, fun ls H locs hl hH hL h1 h2 => lv_if_lt C.1 C.2.1 hd ht (fun _ => k ls H locs hl hH hL h1 h2) (fun z => absurd hq z)⟩
  · obtain ⟨z, k⟩ := hr _ _ _ _ (hb hq)
    exact ⟨z, fun ls H locs hl hH hL h1 h2 => lv_if_lt C.1 C.2.1 hd ht (fun z => absurd z hq) (fun _ => k ls H locs hl hH hL h1 h2)⟩
theorem sn_icmp_ge {off : Int} {tg : Nat} (hd : decode cc pc = .ok (.if_icmp .ge off, 3)) (ht : (pc : Int) + off = (tg : Int)) : pm_Snd own cc nL ret ini pc (op_b2 (fun x y => y ≤ x) tg (pc + 3)) := by
  intro p l e s m args below meth c D dA base Hb d M0 Mf r call rec C hc hr L st M h
  obtain ⟨x, y, st', rfl, ha, hb⟩ := h
  by_cases hq : y ≤ x
  · obtain ⟨z, k⟩ := hr _ _ _ _ (ha hq)
    exact ⟨z, fun ls H locs hl hH hL h1 h2 => lv_icmp_ge C.1 C.2.1 hd ht (fun _ => k ls H locs hl hH hL h1 h2) (fun z => absurd hq z)⟩
  · obtain ⟨z, k⟩ := hr _ _ _ _ (hb hq)
    exact ⟨z, fun ls H locs hl hH hL h1 h2 => lv_icmp_ge C.1 C.2.1 hd ht (fun z => absurd z hq) (fun _ => k ls H locs hl hH hL h1 h2)⟩
theorem sn_if_ge {off : Int} {tg : Nat} (hd : decode cc pc = .ok (.ifCond .ge off, 3)) (ht : (pc : Int) + off = (tg : Int)) : pm_Snd own cc nL ret ini pc (op_b1 (fun x => 0 ≤ x) tg (pc + 3)) := by
  intro p l e s m args below meth c D dA base Hb d M0 Mf r call rec C hc hr L st M h
  obtain ⟨x, st', rfl, ha, hb⟩ := h
  by_cases hq : 0 ≤ x
  · obtain ⟨z, k⟩ := hr _ _ _ _ (ha hq)
    exact ⟨z, fun ls H locs hl hH hL h1 h2 => lv_if_ge C.1 C.2.1 hd ht (fun _ => k ls H locs hl hH hL h1 h2) (fun z => absurd hq z)⟩
  · obtain ⟨z, k⟩ := hr _ _ _ _ (hb hq)
    exact ⟨z, fun ls H locs hl hH hL h1 h2 => lv_if_ge C.1 C.2.1 hd ht (fun z => absurd z hq) (fun _ => k ls H locs hl hH hL h1 h2)⟩
theorem sn_icmp_gt {off : Int} {tg : Nat} (hd : decode cc pc = .ok (.if_icmp .gt off, 3)) (ht : (pc : Int) + off = (tg : Int)) : pm_Snd own cc nL ret ini pc (op_b2 (fun x y => y < x) tg (pc + 3)) := by
  intro p l e s m args below meth c D dA base Hb d M0 Mf r call rec C hc hr L st M h
  obtain ⟨x, y, st', rfl, ha, hb⟩ := h
  by_cases hq : y < x
  · obtain ⟨z, k⟩ := hr _ _ _ _ (ha hq)
    exact ⟨z, fun ls H locs hl hH hL h1 h2 => lv_icmp_gt C.1 C.2.1 hd ht (fun _ => k ls H locs hl hH hL h1 h2) (fun z => absurd hq z)⟩
  · obtain ⟨z, k⟩ := hr _ _ _ _ (hb hq)
    exact ⟨z, fun ls H locs hl hH hL h1 h2 => lv_icmp_gt C.1 C.2.1 hd ht (fun z => absurd z hq) (fun _ => k ls H locs hl hH hL h1 h2)⟩
theorem sn_if_gt {off : Int} {tg : Nat} (hd : decode cc pc = .ok (.ifCond .gt off, 3)) (ht : (pc : Int) + off = (tg : Int)) : pm_Snd own cc nL ret ini pc (op_b1 (fun x => 0 < x) tg (pc + 3)) := by
  intro p l e s m args below meth c D dA base Hb d M0 Mf r call rec C hc hr L st M h
  obtain ⟨x, st', rfl, ha, hb⟩ := h
  by_cases hq : 0 < x
  · obtain ⟨z, k⟩ := hr _ _ _ _ (ha hq)
    exact ⟨z, fun ls H locs hl hH hL h1 h2 => lv_if_gt C.1 C.2.1 hd ht (fun _ => k ls H locs hl hH hL h1 h2) (fun z => absurd hq z)⟩
  · obtain ⟨z, k⟩ := hr _ _ _ _ (hb hq)
    exact ⟨z, fun ls H locs hl hH hL h1 h2 => lv_if_gt C.1 C.2.1 hd ht (fun z => absurd z hq) (fun _ => k ls H locs hl hH hL h1 h2)⟩
theorem sn_icmp_le {off : Int} {tg : Nat} (hd : decode cc pc = .ok (.if_icmp .le off, 3)) (ht : (pc : Int) + off = (tg : Int)) : pm_Snd own cc nL ret ini pc (op_b2 (fun x y => x ≤ y) tg (pc + 3)) := by
  intro p l e s m args below meth c D dA base Hb d M0 Mf r call rec C hc hr L st M h
  obtain ⟨x, y, st', rfl, ha, hb⟩ := h
  by_cases hq : x ≤ y
  · obtain ⟨z, k⟩ := hr _ _ _ _ (ha hq)
    exact ⟨z, fun ls H locs hl hH hL h1 h2 => lv_icmp_le C.1 C.2.1 hd ht (fun _ => k ls H locs hl hH hL h1 h2) (fun z => absurd hq z)⟩
  · obtain ⟨z, k⟩ := hr _ _ _ _ (hb hq)
    exact ⟨z, fun ls H locs hl hH hL h1 h2 => lv_icmp_le C.1 C.2.1 hd ht (fun z => absurd z hq) (fun _ => k ls H locs hl hH hL h1 h2)⟩
theorem sn_if_le {off : Int} {tg : Nat} (hd : decode cc pc = .ok (.ifCond .le off, 3)) (ht : (pc : Int) + off = (tg : Int)) : pm_Snd own cc nL ret ini pc (op_b1 (fun x => x ≤ 0) tg (pc + 3)) := by
  intro p l e s m args below meth c D dA base Hb d M0 Mf r call rec C hc hr L st M h
  obtain ⟨x, st', rfl, ha, hb⟩ := h
  by_cases hq : x ≤ 0
  · obtain ⟨z, k⟩ := hr _ _ _ _ (ha hq)
    exact ⟨z, fun ls H locs hl hH hL h1 h2 => lv_if_le C.1 C.2.1 hd ht (fun _ => k ls H locs hl hH hL h1 h2) (fun z => absurd hq z)⟩
  · obtain ⟨z, k⟩ := hr _ _ _ _ (hb hq)
    exact ⟨z, fun ls H locs hl hH hL h1 h2 => lv_if_le C.1 C.2.1 hd ht (fun z => absurd z hq) (fun _ => k ls H locs hl hH hL h1 h2)⟩
theorem sn_dup (hd : decode cc pc = .ok (.dup, 1)) : pm_Snd own cc nL ret ini pc (op_dup (pc + 1)) := by
  intro p l e s m args below meth c D dA base Hb d M0 Mf r call rec C hc hr L st M h
  obtain ⟨v, st', rfl, hv, h⟩ := h
  obtain ⟨z, k⟩ := hr _ _ _ _ h
  exact ⟨z, fun ls H locs hl hH hL h1 h2 => lv_dup C.1 C.2.1 hd (by rw [pm_en_cat]; exact hv) (k ls H locs hl hH hL h1 h2)⟩
theorem sn_dup2 (hd : decode cc pc = .ok (.dup2, 1)) : pm_Snd own cc nL ret ini pc (op_dup2 (pc + 1)) := by
  intro p l e s m args below meth c D dA base Hb d M0 Mf r call rec C hc hr L st M h
  obtain ⟨v, w, st', rfl, hv, hw, h⟩ := h
  obtain ⟨z, k⟩ := hr _ _ _ _ h
  exact ⟨z, fun ls H locs hl hH hL h1 h2 => lv_dup2_11 C.1 C.2.1 hd (by rw [pm_en_cat]; exact hv) (by rw [pm_en_cat]; exact hw) (k ls H locs hl hH hL h1 h2)⟩
end PMS

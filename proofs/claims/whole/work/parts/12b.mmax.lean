/-! Math.max, Math.min of ints, as instructions -/
def op_mx (f : Int32 → Int32 → Int32) (nx : Nat) : pm_Sem := fun _ _ rec L st M => ∃ (x y : Int32) (st' : List Value), st = .int y :: .int x :: st' ∧ (st'.map fun v => v.category).sum ≤ 8 ∧ rec nx L (.int (f x y) :: st') M
theorem zz_mx {f : Int32 → Int32 → Int32} {nx : Nat} : pm_Sz (op_mx f nx) := by
  intro call Q rec a b hc hq hr L st M h
  obtain ⟨x, y, st', rfl, g1, h⟩ := h
  have hz := hr _ _ _ _ h
  exact hz
theorem mo_mx {f : Int32 → Int32 → Int32} {nx : Nat} : pm_Mo (op_mx f nx) := by
  intro call Q rec rec' hr L L' st M hl h
  obtain ⟨x, y, st', rfl, g1, h⟩ := h
  exact ⟨x, y, st', rfl, g1, hr _ _ _ _ _ hl h⟩
theorem st_mx {call : pm_Cr} {cd : List (Nat × pm_Sem)} {Q : Option Value → pm_M → Prop} {pc : Nat} {L : pm_L} {M : pm_M} {f : Int32 → Int32 → Int32} {nx : Nat} {x y : Int32} {st' : List Value} (h : cd.lookup pc = some (op_mx f nx)) (g1 : (st'.map fun v => v.category).sum ≤ 8) (kk : pm_WP call cd Q nx L (.int (f x y) :: st') M) : pm_WP call cd Q pc L (.int y :: .int x :: st') M := fun P hP => hP _ _ _ _ _ h ⟨x, y, st', rfl, g1, kk P hP⟩
theorem sn_mmax {own : String} {cc : ByteArray} {nL : Nat} {ret : Option FieldType} {ini : Bool} {pc index : Nat} (hd : decode cc pc = .ok (.invokestatic index, 3)) (hlink : Cond.methodLink own index Lib.Math.max.name ∈ pm_gw) (hst : Cond.static Lib.Math.max.name ∈ pm_gw) (hini : Cond.initialized "java/lang/Math" ∈ pm_gw) (hcode : Cond.code Lib.Math.max.name Lib.Math.max.code 2 (some .int) ∈ pm_gw) : pm_Snd own cc nL ret ini pc (op_mx (fun x y => if x < y then y else x) (pc + 3)) := by
  intro p l e s m args below meth c D dA base Hb d M0 Mf r call rec C hc hr L st M h
  obtain ⟨x, y, st', rfl, hs, h⟩ := h
  obtain ⟨z, k⟩ := hr _ _ _ _ h
  exact ⟨z, fun ls H locs hl hH hL h1 h2 => va_mmax C.1 C.2.1 (C.2.2.1.trans hl.1.symm) C.2.2.2.1 (C.2.2.2.2.1 _ hlink) (C.2.2.2.2.1 _ hst) (C.2.2.2.2.1 _ hini) (C.2.2.2.2.1 _ hcode) (by show 1 ≤ d + 1; omega) (by
    show _ + 13 ≤ 64 * (d + 1)
    rw [pm_en_sum]
    omega) (by show _ ≤ pm_zC Mf - pm_zC M0; omega) (by show _ ≤ pm_zS Mf - pm_zS M0; omega) hd (k ls H locs hl hH hL h1 h2)⟩
theorem sn_mmin {own : String} {cc : ByteArray} {nL : Nat} {ret : Option FieldType} {ini : Bool} {pc index : Nat} (hd : decode cc pc = .ok (.invokestatic index, 3)) (hlink : Cond.methodLink own index Lib.Math.min.name ∈ pm_gw) (hst : Cond.static Lib.Math.min.name ∈ pm_gw) (hini : Cond.initialized "java/lang/Math" ∈ pm_gw) (hcode : Cond.code Lib.Math.min.name Lib.Math.min.code 2 (some .int) ∈ pm_gw) : pm_Snd own cc nL ret ini pc (op_mx (fun x y => if y < x then y else x) (pc + 3)) := by
  intro p l e s m args below meth c D dA base Hb d M0 Mf r call rec C hc hr L st M h
  obtain ⟨x, y, st', rfl, hs, h⟩ := h
  obtain ⟨z, k⟩ := hr _ _ _ _ h
  exact ⟨z, fun ls H locs hl hH hL h1 h2 => va_mmin C.1 C.2.1 (C.2.2.1.trans hl.1.symm) C.2.2.2.1 (C.2.2.2.2.1 _ hlink) (C.2.2.2.2.1 _ hst) (C.2.2.2.2.1 _ hini) (C.2.2.2.2.1 _ hcode) (by show 1 ≤ d + 1; omega) (by
    show _ + 13 ≤ 64 * (d + 1)
    rw [pm_en_sum]
    omega) (by show _ ≤ pm_zC Mf - pm_zC M0; omega) (by show _ ≤ pm_zS Mf - pm_zS M0; omega) hd (k ls H locs hl hH hL h1 h2)⟩

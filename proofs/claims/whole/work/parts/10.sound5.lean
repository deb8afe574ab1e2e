/-! calls and answers -/
section PMA
variable {p : Program} {l : Launch} {e : Env} {R : Room} {s : State} {m : MethodId} {args : Array Value} {below : List Frame} {meth : Method} {c : Code} {H : Heap} {locs : List Loc} {cells slots mc ms : Nat} {Q : State → Prop}
variable {pc : Nat} {ls : Array Slot} {rest st0 : List Value} {D : va_G} {dA : Nat → ClassId} {base : Nat} {Hb : Heap} {M' : pm_M} {a : Array Value} {r : Option Value}
theorem pm_after (hr : va_Run p l e R s m args below meth c H locs cells slots mc ms (F0 m pc ls st0) rest (pm_Q D dA base Hb r M' a) (pm_fr base)) (hL : ∀ q ∈ locs, base ≤ q.base)
    (kk : ∀ (H1 : Heap) (locs1 : List Loc), pm_H D dA base Hb M' H1 → (∀ q ∈ locs1, base ≤ q.base) → W p l e R s m args below meth c H1 locs1 (cells + mc) (slots + ms) Q (F0 m (pc + 3) ls ((r.map (pm_en base)).toList ++ rest))) : W p l e R s m args below meth c H locs cells slots Q (F0 m pc ls st0) := by
  intro T hT X
  obtain ⟨v, st₀, t, T', L, h0, X', hL', e1, e2, ⟨hv, hh⟩, st⟩ := hr T hT X
  cases hv
  obtain ⟨t2, a1, b1⟩ := kk T'.heap (locs ++ L) (by rw [e1]; exact hh) (fun q hq => (List.mem_append.mp hq).elim (hL q) (hL' q)) T' rfl X'
  exact ⟨t2, st t2 a1, b1⟩
end PMA
section PMC
variable {own host : String} {cc bytes : ByteArray} {nL mL na j : Nat} {ret rt : Option FieldType} {ini : Bool} {pc : Nat} {cn N : Nat} {C0 : String} {T : u_T} {index : Nat} {y : MethodName}
theorem sn_callS (hd : decode cc pc = .ok (.invokestatic index, 3)) (hmt : pm_mt[j]? = some (y, bytes, mL, rt)) (hcode : Cond.code y bytes mL rt ∈ pm_gw) (hini : Cond.initialized y.cls ∈ pm_gw) (hy : y.cls ≠ "java/lang/invoke/MethodHandle" ∧ y.cls ≠ "java/lang/invoke/VarHandle" ∧ (parseMethodDescriptor y.desc).map (fun d => d.parameters.length) = some na) (hmL : mL ≤ 40) (hlink : Cond.methodLink own index y ∈ pm_gw) (hst : Cond.static y ∈ pm_gw) : pm_Snd own cc nL ret ini pc (op_call j na (pc + 3)) := by
  intro p l e s m args below meth c D dA base Hb d M0 Mf r call rec C hc hr L st M h
  obtain ⟨As, rest, r1, M1, rfl, hna, hs, hcall, h⟩ := h
  obtain ⟨z, kk⟩ := hr _ _ _ _ h
  obtain ⟨⟨zc, zs⟩, hM⟩ := hc _ _ _ _ _ hcall
  have hM := hM y bytes mL rt hmt
  refine ⟨⟨by omega, by omega⟩, fun ls H locs hl hH hL h1 h2 => ?_⟩
  rw [List.map_append, List.map_reverse]
  refine pm_after (va_runS (As := As.map (pm_en base)) (rest := rest.map (pm_en base)) ⟨C.1, C.2.1, C.2.2.1, C.2.2.2.1, C.2.2.2.2.1⟩ hM ⟨(callB_of na C.2.2.2.2.1 (pm_gw_code hcode) rfl rfl rfl (C.2.2.2.2.1 _ hini) (C.2.2.2.2.1 _ hlink) hy ⟨Nat.le_refl _, by show 8 + (mL + 11) + 64 * d ≤ 64 * (d + 1); omega⟩), C.2.2.2.2.1 _ hst⟩ ⟨pm_P.blind, fun U hU hW => ⟨rfl, C.2.2.2.2.2.1.warm hW, by rw [hU]; exact hH⟩⟩ rfl (by rw [List.length_map]; exact hna) hl.1 rfl (lv_room (by rw [pm_en_sum]; exact hs)) hd ⟨by show _ ≤ pm_zC Mf - pm_zC M0; omega, by show _ ≤ pm_zS Mf - pm_zS M0; omega⟩) hL (fun H1 locs1 hH1 hL1 => ?_)
  · exact (by
    have hh := kk ls H1 locs1 hl hH1 hL1 (by omega) (by omega)
    rw [show pm_zC M1 - pm_zC M0 = pm_zC M - pm_zC M0 + (pm_zC M1 - pm_zC M) by omega, show pm_zS M1 - pm_zS M0 = pm_zS M - pm_zS M0 + (pm_zS M1 - pm_zS M) by omega, List.map_append] at hh
    cases r1 <;> exact hh)
theorem sn_callSN (hd : decode cc pc = .ok (.invokestatic index, 3)) (hmt : pm_mt[j]? = some (y, bytes, mL, rt)) (hcode : Cond.code y bytes mL rt ∈ pm_gw) (hini : Cond.initialized y.cls ∈ pm_gw) (hy : y.cls ≠ "java/lang/invoke/MethodHandle" ∧ y.cls ≠ "java/lang/invoke/VarHandle" ∧ (parseMethodDescriptor y.desc).map (fun d => d.parameters.length) = some na) (hmL : mL ≤ 40) (hlink : (own, index, y, host) ∈ pm_nest) (hst : Cond.static y ∈ pm_gw) : pm_Snd own cc nL ret ini pc (op_call j na (pc + 3)) := by
  intro p l e s m args below meth c D dA base Hb d M0 Mf r call rec C hc hr L st M h
  obtain ⟨As, rest, r1, M1, rfl, hna, hs, hcall, h⟩ := h
  obtain ⟨z, kk⟩ := hr _ _ _ _ h
  obtain ⟨⟨zc, zs⟩, hM⟩ := hc _ _ _ _ _ hcall
  have hM := hM y bytes mL rt hmt
  refine ⟨⟨by omega, by omega⟩, fun ls H locs hl hH hL h1 h2 => ?_⟩
  rw [List.map_append, List.map_reverse]
  refine pm_after (va_runSN (As := As.map (pm_en base)) (rest := rest.map (pm_en base)) ⟨C.1, C.2.1, C.2.2.1, C.2.2.2.1, C.2.2.2.2.1⟩ hM ⟨(va_cnB na C.2.2.2.2.1 (pm_gw_code hcode) rfl rfl rfl (C.2.2.2.2.2.1.2.1 _ hlink) (C.2.2.2.2.1 _ hini) hy ⟨Nat.le_refl _, by show 8 + (mL + 11) + 64 * d ≤ 64 * (d + 1); omega⟩), C.2.2.2.2.1 _ hst, trivial⟩ ⟨pm_P.blind, fun U hU hW => ⟨rfl, C.2.2.2.2.2.1.warm hW, by rw [hU]; exact hH⟩⟩ rfl (by rw [List.length_map]; exact hna) hl.1 rfl (lv_room (by rw [pm_en_sum]; exact hs)) hd ⟨by show _ ≤ pm_zC Mf - pm_zC M0; omega, by show _ ≤ pm_zS Mf - pm_zS M0; omega⟩) hL (fun H1 locs1 hH1 hL1 => ?_)
  · exact (by
    have hh := kk ls H1 locs1 hl hH1 hL1 (by omega) (by omega)
    rw [show pm_zC M1 - pm_zC M0 = pm_zC M - pm_zC M0 + (pm_zC M1 - pm_zC M) by omega, show pm_zS M1 - pm_zS M0 = pm_zS M - pm_zS M0 + (pm_zS M1 - pm_zS M) by omega, List.map_append] at hh
    cases r1 <;> exact hh)
theorem sn_callV (hd : decode cc pc = .ok (.invokevirtual index, 3)) (ck : pm_CK cn C0 T N) (hmt : pm_mt[j]? = some (y, bytes, mL, rt)) (hcode : Cond.code y bytes mL rt ∈ pm_gw) (hini : Cond.initialized y.cls ∈ pm_gw) (hy : y.cls ≠ "java/lang/invoke/MethodHandle" ∧ y.cls ≠ "java/lang/invoke/VarHandle" ∧ (parseMethodDescriptor y.desc).map (fun d => d.parameters.length) = some na) (hmL : mL ≤ 40) (hlink : Cond.methodLink own index y ∈ pm_gw) (hin : Cond.instanceMethod y ∈ pm_gw) (hsel : Cond.selects C0 y y ∈ pm_gw) : pm_Snd own cc nL ret ini pc (op_cav j na cn N (pc + 3)) := by
  intro p l e s m args below meth c D dA base Hb d M0 Mf r call rec C hc hr L st M h
  obtain ⟨k, As, rest, r1, M1, rfl, hna, hk, hs, hcall, h⟩ := h
  obtain ⟨z, kk⟩ := hr _ _ _ _ h
  obtain ⟨⟨zc, zs⟩, hM⟩ := hc _ _ _ _ _ hcall
  have hM := hM y bytes mL rt hmt
  refine ⟨⟨by omega, by omega⟩, fun ls H locs hl hH hL h1 h2 => ?_⟩
  obtain ⟨cellB, g1, g2, g3, -⟩ := (hH.2.2 k cn N hk).1 ck.1
  have hcls := (C.2.2.2.2.2.1.1.1 cn _ ck.2.1).2.1
  rw [List.map_append, List.map_reverse, List.map_cons]
  refine pm_after (va_runV (C := C0) (b := base + k) (As := As.map (pm_en base)) (rest := rest.map (pm_en base)) ⟨C.1, C.2.1, C.2.2.1, C.2.2.2.1, C.2.2.2.2.1⟩ hM ⟨(callB_of na C.2.2.2.2.1 (pm_gw_code hcode) rfl rfl rfl (C.2.2.2.2.1 _ hini) (C.2.2.2.2.1 _ hlink) hy ⟨Nat.le_refl _, by show 8 + (mL + 11) + 64 * d ≤ 64 * (d + 1); omega⟩), C.2.2.2.2.1 _ hin, C.2.2.2.2.1 _ hsel⟩ ⟨pm_P.blind, ⟨cellB, g1, by rw [g3]; rfl, by rw [g2]; exact hcls⟩, fun U hU hW => ⟨rfl, C.2.2.2.2.2.1.warm hW, by rw [hU]; exact hH⟩⟩ rfl (by rw [List.length_map]; exact hna) hl.1 rfl (lv_room (by rw [pm_en_sum]; exact hs)) hd ⟨by show _ ≤ pm_zC Mf - pm_zC M0; omega, by show _ ≤ pm_zS Mf - pm_zS M0; omega⟩) hL (fun H1 locs1 hH1 hL1 => ?_)
  · exact (by
    have hh := kk ls H1 locs1 hl hH1 hL1 (by omega) (by omega)
    rw [show pm_zC M1 - pm_zC M0 = pm_zC M - pm_zC M0 + (pm_zC M1 - pm_zC M) by omega, show pm_zS M1 - pm_zS M0 = pm_zS M - pm_zS M0 + (pm_zS M1 - pm_zS M) by omega, List.map_append] at hh
    cases r1 <;> exact hh)
theorem sn_callI (hd : decode cc pc = .ok (.invokespecial index, 3)) (hmt : pm_mt[j]? = some (y, bytes, mL, none)) (hcode : Cond.code y bytes mL none ∈ pm_gw) (hini : Cond.initialized y.cls ∈ pm_gw) (hy : y.cls ≠ "java/lang/invoke/MethodHandle" ∧ y.cls ≠ "java/lang/invoke/VarHandle" ∧ (parseMethodDescriptor y.desc).map (fun d => d.parameters.length) = some na) (hmL : mL ≤ 40) (hlink : Cond.methodLink own index y ∈ pm_gw) (hin : Cond.instanceMethod y ∈ pm_gw) (hnm : y.name = "<init>") : pm_Snd own cc nL ret ini pc (op_cav j na cn N (pc + 3)) := by
  intro p l e s m args below meth c D dA base Hb d M0 Mf r call rec C hc hr L st M h
  obtain ⟨k, As, rest, r1, M1, rfl, hna, hk, hs, hcall, h⟩ := h
  obtain ⟨z, kk⟩ := hr _ _ _ _ h
  obtain ⟨⟨zc, zs⟩, hM⟩ := hc _ _ _ _ _ hcall
  have hM := hM y bytes mL none hmt
  refine ⟨⟨by omega, by omega⟩, fun ls H locs hl hH hL h1 h2 => ?_⟩
  rw [List.map_append, List.map_reverse, List.map_cons]
  refine pm_after (va_runI (b := base + k) (As := As.map (pm_en base)) (rest := rest.map (pm_en base)) ⟨C.1, C.2.1, C.2.2.1, C.2.2.2.1, C.2.2.2.2.1⟩ hM ⟨(callB_of na C.2.2.2.2.1 (pm_gw_code hcode) rfl rfl rfl (C.2.2.2.2.1 _ hini) (C.2.2.2.2.1 _ hlink) hy ⟨Nat.le_refl _, by show 8 + (mL + 11) + 64 * d ≤ 64 * (d + 1); omega⟩), hnm, C.2.2.2.2.1 _ hin⟩ ⟨pm_P.blind, fun U hU hW => ⟨rfl, C.2.2.2.2.2.1.warm hW, by rw [hU]; exact hH⟩⟩ rfl (by rw [List.length_map]; exact hna) hl.1 rfl (lv_room (by rw [pm_en_sum]; exact hs)) hd ⟨by show _ ≤ pm_zC Mf - pm_zC M0; omega, by show _ ≤ pm_zS Mf - pm_zS M0; omega⟩) hL (fun H1 locs1 hH1 hL1 => ?_)
  · exact (by
    have hh := kk ls H1 locs1 hl hH1 hL1 (by omega) (by omega)
    rw [show pm_zC M1 - pm_zC M0 = pm_zC M - pm_zC M0 + (pm_zC M1 - pm_zC M) by omega, show pm_zS M1 - pm_zS M0 = pm_zS M - pm_zS M0 + (pm_zS M1 - pm_zS M) by omega, List.map_append] at hh
    cases r1 <;> exact hh)
theorem sn_callIN (hd : decode cc pc = .ok (.invokespecial index, 3)) (hmt : pm_mt[j]? = some (y, bytes, mL, none)) (hcode : Cond.code y bytes mL none ∈ pm_gw) (hini : Cond.initialized y.cls ∈ pm_gw) (hy : y.cls ≠ "java/lang/invoke/MethodHandle" ∧ y.cls ≠ "java/lang/invoke/VarHandle" ∧ (parseMethodDescriptor y.desc).map (fun d => d.parameters.length) = some na) (hmL : mL ≤ 40) (hlink : (own, index, y, host) ∈ pm_nest) (hin : Cond.instanceMethod y ∈ pm_gw) (hnm : y.name = "<init>") : pm_Snd own cc nL ret ini pc (op_cav j na cn N (pc + 3)) := by
  intro p l e s m args below meth c D dA base Hb d M0 Mf r call rec C hc hr L st M h
  obtain ⟨k, As, rest, r1, M1, rfl, hna, hk, hs, hcall, h⟩ := h
  obtain ⟨z, kk⟩ := hr _ _ _ _ h
  obtain ⟨⟨zc, zs⟩, hM⟩ := hc _ _ _ _ _ hcall
  have hM := hM y bytes mL none hmt
  refine ⟨⟨by omega, by omega⟩, fun ls H locs hl hH hL h1 h2 => ?_⟩
  rw [List.map_append, List.map_reverse, List.map_cons]
  refine pm_after (va_runIN (b := base + k) (As := As.map (pm_en base)) (rest := rest.map (pm_en base)) ⟨C.1, C.2.1, C.2.2.1, C.2.2.2.1, C.2.2.2.2.1⟩ hM ⟨(va_cnB na C.2.2.2.2.1 (pm_gw_code hcode) rfl rfl rfl (C.2.2.2.2.2.1.2.1 _ hlink) (C.2.2.2.2.1 _ hini) hy ⟨Nat.le_refl _, by show 8 + (mL + 11) + 64 * d ≤ 64 * (d + 1); omega⟩), hnm, C.2.2.2.2.1 _ hin⟩ ⟨pm_P.blind, fun U hU hW => ⟨rfl, C.2.2.2.2.2.1.warm hW, by rw [hU]; exact hH⟩⟩ rfl (by rw [List.length_map]; exact hna) hl.1 rfl (lv_room (by rw [pm_en_sum]; exact hs)) hd ⟨by show _ ≤ pm_zC Mf - pm_zC M0; omega, by show _ ≤ pm_zS Mf - pm_zS M0; omega⟩) hL (fun H1 locs1 hH1 hL1 => ?_)
  · exact (by
    have hh := kk ls H1 locs1 hl hH1 hL1 (by omega) (by omega)
    rw [show pm_zC M1 - pm_zC M0 = pm_zC M - pm_zC M0 + (pm_zC M1 - pm_zC M) by omega, show pm_zS M1 - pm_zS M0 = pm_zS M - pm_zS M0 + (pm_zS M1 - pm_zS M) by omega, List.map_append] at hh
    cases r1 <;> exact hh)
theorem sn_oinit (hd : decode cc pc = .ok (.invokespecial index, 3)) (hlink : Cond.methodLink own index Lib.objectInit ∈ pm_gw) (hin : Cond.instanceMethod Lib.objectInit ∈ pm_gw) (hcode : Cond.code Lib.objectInit ⟨#[0xb1]⟩ 1 none ∈ pm_gw) : pm_Snd own cc nL ret ini pc (op_oin (pc + 3)) := by
  intro p l e s m args below meth c D dA base Hb d M0 Mf r call rec C hc hr L st M h
  obtain ⟨k, st', rfl, hs, h⟩ := h
  obtain ⟨z, kk⟩ := hr _ _ _ _ h
  refine ⟨z, fun ls H locs hl hH hL h1 h2 => ?_⟩
  exact W.objInit C.1 C.2.1 C.2.2.2.1 (C.2.2.2.2.1 _ hlink) (C.2.2.2.2.1 _ hin) (C.2.2.2.2.1 _ hcode) rfl (hl.1.trans C.2.2.1.symm) rfl hd (by show 1 ≤ d + 1; omega) (by
    show 2 * 0 + _ + 12 ≤ 64 * (d + 1)
    rw [pm_en_sum]
    omega) (kk ls H locs hl hH hL h1 h2)
theorem sn_acopy (hd : decode cc pc = .ok (.invokestatic index, 3)) (hlink : Cond.methodLink own index arraycopyName ∈ pm_gw) (hnat : Cond.native arraycopyName ∈ pm_gw) (hstat : Cond.static arraycopyName ∈ pm_gw) (hini : Cond.initialized "java/lang/System" ∈ pm_gw) : pm_Snd own cc nL ret ini pc (op_acp (pc + 3)) := by
  intro p l e s m args below meth c D dA base Hb d M0 Mf r call rec C hc hr L st M h
  obtain ⟨n, dp, sp, dst, src, n0, n1, st', rfl, hk0, hk1, g1, g2, g3, g4, g5, hs, h⟩ := h
  obtain ⟨z, kk⟩ := hr _ _ _ _ h
  refine ⟨z, fun ls H locs hl hH hL h1 h2 => ?_⟩
  have nn : ∀ z : Int32, ¬ z < 0 → z.toInt = (z.toNatClampNeg : Int) := by
    intro z hz
    have hz0 : (0 : Int) ≤ z.toInt := by
      have := Int32.not_lt.mp hz
      simpa using Int32.le_iff_toInt_le.mp this
    show z.toInt = ((z.toInt.toNat : Nat) : Int)
    omega
  have hc0 : H[base + src]? = some (arrV (dA 100) n0 (fun j => .int (gI M src j))) := (hH.2.2 src 100 n0 hk0).2 (by decide)
  have hc1 : H[base + dst]? = some (arrV (dA 100) n1 (fun j => .int (gI M dst j))) := (hH.2.2 dst 100 n1 hk1).2 (by decide)
  obtain ⟨-, k0, hq0, cm0, hkk0⟩ := (C.2.2.2.2.2.1.1.2 0 _ rfl).1 n0 (fun j => .int (gI M src j))
  intro T hT X
  obtain ⟨vm', X', step⟩ := X.arraycopy C.1 C.2.2.2.1 (C.2.2.2.2.1 _ hlink) (C.2.2.2.2.1 _ hnat) (C.2.2.2.2.1 _ hstat) (C.2.2.2.2.1 _ hini) (src := base + src) (dst := base + dst) (cs := arrV (dA 100) n0 (fun j => .int (gI M src j))) (cd := arrV (dA 100) n1 (fun j => .int (gI M dst j))) (srcPos := sp) (destPos := dp) (n := n) (by rw [hT]; exact hc0) (by rw [hT]; exact hc1)
    (fun _ h => by cases h) (fun _ h => by cases h) (fun h => by cases h) (fun h => by cases h) hq0 hq0 hkk0 hkk0 rfl g1 g2 g3
    (by rw [nn sp g1, nn n g3, arrV_size]; omega)
    (by rw [nn dp g2, nn n g3, arrV_size]; omega)
    (fun vm₁ _ i hi => by
      have e : (arrV (dA 100) n0 (fun j => .int (gI M src j))).slots.getD (sp.toNatClampNeg + i) .null = .int (gI M src (sp.toNatClampNeg + i)) := by
        rw [Array.getD_eq_getD_getElem?, arrV_read _ _ (by omega)]
        rfl
      rw [e]
      exact ⟨rfl, trivial⟩)
    (g := F0 m pc ls (.int n :: .int dp :: .ref (base + dst) :: .int sp :: .ref (base + src) :: st'.map (pm_en base))) rfl (hl.1.trans C.2.2.1.symm) (rest := st'.map (pm_en base)) rfl (by rw [C.2.1]; exact hd) (by show 1 ≤ d + 1; omega) (by
      show 2 * 0 + _ + _ ≤ 64 * (d + 1)
      rw [pm_en_sum]
      have : nativeFrameWords "java/lang/System" "arraycopy" 5 ≤ 7 := by unfold nativeFrameWords; split <;> omega
      omega)
  have e1 : copied (arrV (dA 100) n0 (fun j => .int (gI M src j))) (arrV (dA 100) n1 (fun j => .int (gI M dst j))) sp dp n = arrV (dA 100) n1 (fun j => .int (va_cpy (gI M src) (gI M dst) sp.toNatClampNeg dp.toNatClampNeg n.toNatClampNeg j)) := va_copied (fun z => .int z) (dA 100) (dA 100) (gI M src) (gI M dst) g4
  rw [e1] at X' step
  have hlt : base + dst < H.size := (Array.getElem?_eq_some_iff.mp hc1).1
  have hheap : ((T.setVm vm').setCell (base + dst) (arrV (dA 100) n1 (fun j => .int (va_cpy (gI M src) (gI M dst) sp.toNatClampNeg dp.toNatClampNeg n.toNatClampNeg j)))).heap = H.setIfInBounds (base + dst) (arrV (dA 100) n1 (fun j => .int (va_cpy (gI M src) (gI M dst) sp.toNatClampNeg dp.toNatClampNeg n.toNatClampNeg j))) := by rw [← hT]; rfl
  have hH1 : pm_H D dA base Hb (pm_cp M src dst sp.toNatClampNeg dp.toNatClampNeg n.toNatClampNeg) (H.setIfInBounds (base + dst) (arrV (dA 100) n1 (fun j => .int (va_cpy (gI M src) (gI M dst) sp.toNatClampNeg dp.toNatClampNeg n.toNatClampNeg j)))) := by
    refine hH.set rfl hk1 (by simp) (fun q hq => by simp [Array.getElem?_setIfInBounds, Ne.symm hq]) (fun c' k' j hq => by simp [pm_sv, gI, gL, gR, pm_cp, hq]) ⟨fun q => absurd q (by decide), fun _ => ?_⟩
    simp only [Array.getElem?_setIfInBounds, hlt, if_true]
    congr 2
    funext j
    show Value.int _ = Value.int _
    congr 1
    simp [va_cpy, gI, pm_cp]
  obtain ⟨t, a1, b1⟩ := kk ls _ _ hl hH1 (fun q hq => by
      rcases List.mem_append.mp hq with h | h
      · exact hL q h
      · obtain ⟨z, -, hz⟩ := List.mem_map.mp h
        rw [← hz]
        exact Nat.le_add_right _ _) h1 h2 _ hheap X'
  exact ⟨t, step t a1, b1⟩
theorem sn_ireturn (hd : decode cc pc = .ok (.ireturn, 1)) (hret : ret = some .int) : pm_Snd own cc nL ret ini pc op_iret := by
  intro p l e s m args below meth c D dA base Hb d M0 Mf r call rec C hc hr L st M h
  obtain ⟨v, rfl, rfl, rfl⟩ := h
  refine ⟨⟨Nat.le_refl _, Nat.le_refl _⟩, fun ls H locs hl hH hL h1 h2 => ?_⟩
  exact W.iret C.1 C.2.1 (by rw [C.2.2.2.2.2.2.1, hret]) (fun t ht _ => ⟨rfl, by rw [ht]; exact hH⟩) hL hd (hlocks := C.2.2.2.2.2.2.2.1)
theorem sn_zreturn (hd : decode cc pc = .ok (.ireturn, 1)) (hret : ret = some .boolean) : pm_Snd own cc nL ret ini pc op_zret := by
  intro p l e s m args below meth c D dA base Hb d M0 Mf r call rec C hc hr L st M h
  obtain ⟨v, rfl, hv, rfl, rfl⟩ := h
  refine ⟨⟨Nat.le_refl _, Nat.le_refl _⟩, fun ls H locs hl hH hL h1 h2 => ?_⟩
  exact W.zret (ty := .boolean) C.1 C.2.1 (by rw [C.2.2.2.2.2.2.1, hret]) (by show Value.int (v &&& 1) = _; rw [hv]) (fun t ht _ => ⟨rfl, by rw [ht]; exact hH⟩) hL hd (hlocks := C.2.2.2.2.2.2.2.1)
theorem sn_lreturn (hd : decode cc pc = .ok (.lreturn, 1)) (hret : ret = some .long) : pm_Snd own cc nL ret ini pc op_lret := by
  intro p l e s m args below meth c D dA base Hb d M0 Mf r call rec C hc hr L st M h
  obtain ⟨v, rfl, rfl, rfl⟩ := h
  refine ⟨⟨Nat.le_refl _, Nat.le_refl _⟩, fun ls H locs hl hH hL h1 h2 => ?_⟩
  exact W.lret C.1 C.2.1 (by rw [C.2.2.2.2.2.2.1, hret]) (fun t ht _ => ⟨rfl, by rw [ht]; exact hH⟩) hL hd (hlocks := C.2.2.2.2.2.2.2.1)
theorem sn_return (hd : decode cc pc = .ok (.return_, 1)) (hret : ret = none) : pm_Snd own cc nL ret ini pc op_vret := by
  intro p l e s m args below meth c D dA base Hb d M0 Mf r call rec C hc hr L st M h
  obtain ⟨rfl, rfl, rfl⟩ := h
  refine ⟨⟨Nat.le_refl _, Nat.le_refl _⟩, fun ls H locs hl hH hL h1 h2 => ?_⟩
  exact W.vret C.1 C.2.1 (by rw [C.2.2.2.2.2.2.1, hret]) (fun t ht _ => ⟨rfl, by rw [ht]; exact hH⟩) hL hd (hlocks := C.2.2.2.2.2.2.2.1)
end PMC

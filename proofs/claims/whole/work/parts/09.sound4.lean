/-! new cells, calls, answers -/
section PMN
variable {own : String} {cc : ByteArray} {nL : Nat} {ret : Option FieldType} {ini : Bool} {pc : Nat} {cn N f : Nat} {C : String} {T : u_T} {index : Nat}
theorem pm_nw_zC (M : pm_M) (c N : Nat) : pm_zC (pm_nw M c N) = pm_zC M + 1 := by simp [pm_zC, pm_nw]
theorem pm_nw_zS (M : pm_M) (c N : Nat) : pm_zS (pm_nw M c N) = pm_zS M + N := by simp [pm_zS, pm_nw]
theorem pm_H.new {D : va_G} {dA : Nat → ClassId} {base c N : Nat} {Hb : Heap} {M : pm_M} {H H1 : Heap} (h : pm_H D dA base Hb M H) (hz : H1.size = H.size + 1) (ho : ∀ q, q < H.size → H1[q]? = H[q]?) (ha : pm_at D dA base (pm_nw M c N) M.1.length c N H1) : pm_H D dA base Hb (pm_nw M c N) H1 := by
  refine ⟨by rw [hz, h.1]; simp [pm_nw]; omega, fun q hq => ?_, fun k' c' N' hk' => ?_⟩
  · rw [ho q (by rw [h.1]; omega)]
    exact h.2.1 q hq
  · simp only [pm_nw] at hk'
    by_cases hl : k' < M.1.length
    · rw [List.getElem?_append_left hl] at hk'
      refine (h.2.2 k' c' N' hk').moved (ho _ (by rw [h.1]; omega)) (fun f => ?_)
      have hne : k' ≠ M.1.length := by omega
      simp [pm_sv, gI, gL, gR, pm_nw, hne]
    · rw [List.getElem?_append_right (by omega)] at hk'
      have hz2 : k' - M.1.length < 1 := (List.getElem?_eq_some_iff.mp hk').1
      have e : k' = M.1.length := by omega
      subst e
      rw [Nat.sub_self] at hk'
      cases hk'
      exact ha
theorem pm_sv_new {base c N f : Nat} {M : pm_M} {v : Value} (hv : defaultValue (pm_fty c f) = v) (hi : pm_isk (pm_fty c f) = true) : pm_sv base (pm_nw M c N) c M.1.length f = v := by
  subst hv
  unfold pm_sv pm_kd
  generalize pm_fty c f = ty at hi ⊢
  cases ty <;> first | (simp [pm_isk] at hi; done) | simp [pm_kT, gI, gL, gR, pm_nw, pm_rf, defaultValue]
theorem sn_new (hd : decode cc pc = .ok (.new index, 3)) (ck : pm_CK cn C T N) (hcl : Cond.classLink own index C ∈ pm_gw) (hin : Cond.instantiable C N ∈ pm_gw) (hini : Cond.initialized C ∈ pm_gw) : pm_Snd own cc nL ret ini pc (op_new cn N (pc + 3)) := by
  intro p l e s m args below meth c D dA base Hb d M0 Mf r call rec C hc hr L st M h
  obtain ⟨z, kk⟩ := hr _ _ _ _ h
  rw [pm_nw_zC, pm_nw_zS] at z
  refine ⟨⟨by omega, by omega⟩, fun ls H locs hl hH hL h1 h2 => ?_⟩
  have hKn := C.2.2.2.2.2.1.1.1 cn _ ck.2.1
  refine W.newcK C.1 C.2.1 C.2.2.2.1 (C.2.2.2.2.1 _ hcl) (C.2.2.2.2.1 _ hin) (C.2.2.2.2.1 _ hini) rfl hd (by show _ ≤ pm_zC Mf - pm_zC M0; omega) (by show _ ≤ pm_zS Mf - pm_zS M0; omega) hKn.2.1 hH.1 fun H1 kC hkC e1 z1 o1 => ?_
  have hh := kk ls H1 locs hl (hH.new (by rw [z1, hH.1]) (fun q hq => o1 q (by rw [← hH.1]; exact hq)) ⟨fun _ => (u_born (pm_fty cn) C.2.2.2.2.1 ck.2.2.1 hKn hkC e1 ck.2.2.2.1).to (fun j hj => (pm_sv_new rfl (ck.2.2.2.2.2 j hj)).symm), fun q => absurd q (by have := ck.1; omega)⟩) hL (by rw [pm_nw_zC]; omega) (by rw [pm_nw_zS]; omega)
  rw [pm_nw_zC, pm_nw_zS, show pm_zC M + 1 - pm_zC M0 = pm_zC M - pm_zC M0 + 1 by omega, show pm_zS M + N - pm_zS M0 = pm_zS M - pm_zS M0 + N by omega] at hh
  exact hh
theorem sn_nwint (hd : decode cc pc = .ok (.newarray .int, 2)) (hw : Cond.arrayClass .int ∈ pm_gw) : pm_Snd own cc nL ret ini pc (op_nwa 100 (pc + 2)) := by
  intro p l e s m args below meth c D dA base Hb d M0 Mf r call rec C hc hr L st M h
  obtain ⟨n, st', rfl, hn, hb, h⟩ := h
  obtain ⟨z, kk⟩ := hr _ _ _ _ h
  rw [pm_nw_zC, pm_nw_zS] at z
  refine ⟨⟨by omega, by omega⟩, fun ls H locs hl hH hL h1 h2 => ?_⟩
  refine va_newaK (atype := .int) C.1 C.2.1 (C.2.2.2.2.1 _ hw) rfl hd rfl hn rfl (Nat.le_trans (Nat.mul_le_mul hb (show componentBytes .int ≤ 8 by decide)) (Nat.le_of_ble_eq_true rfl)) (by show _ ≤ pm_zC Mf - pm_zC M0; omega) (by show _ ≤ pm_zS Mf - pm_zS M0; omega) hH.1 fun H1 cA e1 z1 o1 hAr hNm => ?_
  have hcA : cA = dA 100 := Option.some.inj (hNm.symm.trans (C.2.2.2.2.2.1.1.2 0 _ rfl).2)
  subst hcA
  have hh := kk ls H1 locs hl (hH.new (c := 100) (by rw [z1, hH.1]) (fun q hq => o1 q (by rw [← hH.1]; exact hq)) ⟨fun q => absurd q (by decide), fun _ => by
    rw [e1]
    congr 2
    funext j
    exact (pm_sv_new (base := base) (M := M) (c := 100) (N := n.toNatClampNeg) (f := j) rfl rfl).symm⟩) hL (by rw [pm_nw_zC]; omega) (by rw [pm_nw_zS]; omega)
  rw [pm_nw_zC, pm_nw_zS, show pm_zC M + 1 - pm_zC M0 = pm_zC M - pm_zC M0 + 1 by omega, show pm_zS M + n.toNatClampNeg - pm_zS M0 = pm_zS M - pm_zS M0 + n.toNatClampNeg by omega] at hh
  exact hh
theorem sn_nwlong (hd : decode cc pc = .ok (.newarray .long, 2)) (hw : Cond.arrayClass .long ∈ pm_gw) : pm_Snd own cc nL ret ini pc (op_nwa 101 (pc + 2)) := by
  intro p l e s m args below meth c D dA base Hb d M0 Mf r call rec C hc hr L st M h
  obtain ⟨n, st', rfl, hn, hb, h⟩ := h
  obtain ⟨z, kk⟩ := hr _ _ _ _ h
  rw [pm_nw_zC, pm_nw_zS] at z
  refine ⟨⟨by omega, by omega⟩, fun ls H locs hl hH hL h1 h2 => ?_⟩
  refine va_newaK (atype := .long) C.1 C.2.1 (C.2.2.2.2.1 _ hw) rfl hd rfl hn rfl (Nat.le_trans (Nat.mul_le_mul hb (show componentBytes .long ≤ 8 by decide)) (Nat.le_of_ble_eq_true rfl)) (by show _ ≤ pm_zC Mf - pm_zC M0; omega) (by show _ ≤ pm_zS Mf - pm_zS M0; omega) hH.1 fun H1 cA e1 z1 o1 hAr hNm => ?_
  have hcA : cA = dA 101 := Option.some.inj (hNm.symm.trans (C.2.2.2.2.2.1.1.2 1 _ rfl).2)
  subst hcA
  have hh := kk ls H1 locs hl (hH.new (c := 101) (by rw [z1, hH.1]) (fun q hq => o1 q (by rw [← hH.1]; exact hq)) ⟨fun q => absurd q (by decide), fun _ => by
    rw [e1]
    congr 2
    funext j
    exact (pm_sv_new (base := base) (M := M) (c := 101) (N := n.toNatClampNeg) (f := j) rfl rfl).symm⟩) hL (by rw [pm_nw_zC]; omega) (by rw [pm_nw_zS]; omega)
  rw [pm_nw_zC, pm_nw_zS, show pm_zC M + 1 - pm_zC M0 = pm_zC M - pm_zC M0 + 1 by omega, show pm_zS M + n.toNatClampNeg - pm_zS M0 = pm_zS M - pm_zS M0 + n.toNatClampNeg by omega] at hh
  exact hh
theorem sn_nwbyte (hd : decode cc pc = .ok (.newarray .byte, 2)) (hw : Cond.arrayClass .byte ∈ pm_gw) : pm_Snd own cc nL ret ini pc (op_nwa 102 (pc + 2)) := by
  intro p l e s m args below meth c D dA base Hb d M0 Mf r call rec C hc hr L st M h
  obtain ⟨n, st', rfl, hn, hb, h⟩ := h
  obtain ⟨z, kk⟩ := hr _ _ _ _ h
  rw [pm_nw_zC, pm_nw_zS] at z
  refine ⟨⟨by omega, by omega⟩, fun ls H locs hl hH hL h1 h2 => ?_⟩
  refine va_newaK (atype := .byte) C.1 C.2.1 (C.2.2.2.2.1 _ hw) rfl hd rfl hn rfl (Nat.le_trans (Nat.mul_le_mul hb (show componentBytes .byte ≤ 8 by decide)) (Nat.le_of_ble_eq_true rfl)) (by show _ ≤ pm_zC Mf - pm_zC M0; omega) (by show _ ≤ pm_zS Mf - pm_zS M0; omega) hH.1 fun H1 cA e1 z1 o1 hAr hNm => ?_
  have hcA : cA = dA 102 := Option.some.inj (hNm.symm.trans (C.2.2.2.2.2.1.1.2 2 _ rfl).2)
  subst hcA
  have hh := kk ls H1 locs hl (hH.new (c := 102) (by rw [z1, hH.1]) (fun q hq => o1 q (by rw [← hH.1]; exact hq)) ⟨fun q => absurd q (by decide), fun _ => by
    rw [e1]
    congr 2
    funext j
    exact (pm_sv_new (base := base) (M := M) (c := 102) (N := n.toNatClampNeg) (f := j) rfl rfl).symm⟩) hL (by rw [pm_nw_zC]; omega) (by rw [pm_nw_zS]; omega)
  rw [pm_nw_zC, pm_nw_zS, show pm_zC M + 1 - pm_zC M0 = pm_zC M - pm_zC M0 + 1 by omega, show pm_zS M + n.toNatClampNeg - pm_zS M0 = pm_zS M - pm_zS M0 + n.toNatClampNeg by omega] at hh
  exact hh
theorem sn_nwbool (hd : decode cc pc = .ok (.newarray .boolean, 2)) (hw : Cond.arrayClass .boolean ∈ pm_gw) : pm_Snd own cc nL ret ini pc (op_nwa 103 (pc + 2)) := by
  intro p l e s m args below meth c D dA base Hb d M0 Mf r call rec C hc hr L st M h
  obtain ⟨n, st', rfl, hn, hb, h⟩ := h
  obtain ⟨z, kk⟩ := hr _ _ _ _ h
  rw [pm_nw_zC, pm_nw_zS] at z
  refine ⟨⟨by omega, by omega⟩, fun ls H locs hl hH hL h1 h2 => ?_⟩
  refine va_newaK (atype := .boolean) C.1 C.2.1 (C.2.2.2.2.1 _ hw) rfl hd rfl hn rfl (Nat.le_trans (Nat.mul_le_mul hb (show componentBytes .boolean ≤ 8 by decide)) (Nat.le_of_ble_eq_true rfl)) (by show _ ≤ pm_zC Mf - pm_zC M0; omega) (by show _ ≤ pm_zS Mf - pm_zS M0; omega) hH.1 fun H1 cA e1 z1 o1 hAr hNm => ?_
  have hcA : cA = dA 103 := Option.some.inj (hNm.symm.trans (C.2.2.2.2.2.1.1.2 3 _ rfl).2)
  subst hcA
  have hh := kk ls H1 locs hl (hH.new (c := 103) (by rw [z1, hH.1]) (fun q hq => o1 q (by rw [← hH.1]; exact hq)) ⟨fun q => absurd q (by decide), fun _ => by
    rw [e1]
    congr 2
    funext j
    exact (pm_sv_new (base := base) (M := M) (c := 103) (N := n.toNatClampNeg) (f := j) rfl rfl).symm⟩) hL (by rw [pm_nw_zC]; omega) (by rw [pm_nw_zS]; omega)
  rw [pm_nw_zC, pm_nw_zS, show pm_zC M + 1 - pm_zC M0 = pm_zC M - pm_zC M0 + 1 by omega, show pm_zS M + n.toNatClampNeg - pm_zS M0 = pm_zS M - pm_zS M0 + n.toNatClampNeg by omega] at hh
  exact hh
theorem sn_anew104 (hd : decode cc pc = .ok (.anewarray index, 3)) (hcl : Cond.classLink own index RX5 ∈ pm_gw) : pm_Snd own cc nL ret ini pc (op_nwa 104 (pc + 3)) := by
  intro p l e s m args below meth c D dA base Hb d M0 Mf r call rec C hc hr L st M h
  obtain ⟨n, st', rfl, hn, hb, h⟩ := h
  obtain ⟨z, kk⟩ := hr _ _ _ _ h
  rw [pm_nw_zC, pm_nw_zS] at z
  refine ⟨⟨by omega, by omega⟩, fun ls H locs hl hH hL h1 h2 => ?_⟩
  refine W.anew C.1 C.2.1 C.2.2.2.1 (C.2.2.2.2.1 _ hcl) (va_AO.use C.2.2.2.2.2.1.2.2.1) rfl hd rfl hn (by omega) (by show _ ≤ pm_zC Mf - pm_zC M0; omega) (by show _ ≤ pm_zS Mf - pm_zS M0; omega) fun cA kA comp f1 f2 f3 f4 => ?_
  have hcA : cA = dA 104 := by
    obtain ⟨_, _, _, _, _, k4⟩ := (C.2.2.2.2.2.1.1.2 4 _ rfl).2
    exact Option.some.inj (f1.symm.trans k4)
  subst hcA
  generalize hH1 : H.push ({ cls := dA 104, slots := Array.replicate n.toNatClampNeg .null, vm := .none } : Cell) = H1
  have z1 : H1.size = H.size + 1 := by rw [← hH1, Array.size_push]
  have e1 : H1[H.size]? = some (arrV (dA 104) n.toNatClampNeg (fun _ => .null)) := by rw [← hH1, Array.getElem?_push_size, ← arrV_new]
  have o1 : ∀ q : Nat, q < H.size → H1[q]? = H[q]? := fun q hq => by rw [← hH1, Array.getElem?_push, if_neg (Nat.ne_of_lt hq)]
  have hh := kk ls H1 locs hl (hH.new (c := 104) z1 o1 ⟨fun q => absurd q (by decide), fun _ => by
    rw [← hH.1, e1]
    congr 2
    funext j
    exact (pm_sv_new (base := base) (M := M) (c := 104) (N := n.toNatClampNeg) (f := j) rfl rfl).symm⟩) hL (by rw [pm_nw_zC]; omega) (by rw [pm_nw_zS]; omega)
  rw [pm_nw_zC, pm_nw_zS, show pm_zC M + 1 - pm_zC M0 = pm_zC M - pm_zC M0 + 1 by omega, show pm_zS M + n.toNatClampNeg - pm_zS M0 = pm_zS M - pm_zS M0 + n.toNatClampNeg by omega] at hh
  rw [hH.1]
  exact hh
theorem sn_anew105 (hd : decode cc pc = .ok (.anewarray index, 3)) (hcl : Cond.classLink own index RX9 ∈ pm_gw) : pm_Snd own cc nL ret ini pc (op_nwa 105 (pc + 3)) := by
  intro p l e s m args below meth c D dA base Hb d M0 Mf r call rec C hc hr L st M h
  obtain ⟨n, st', rfl, hn, hb, h⟩ := h
  obtain ⟨z, kk⟩ := hr _ _ _ _ h
  rw [pm_nw_zC, pm_nw_zS] at z
  refine ⟨⟨by omega, by omega⟩, fun ls H locs hl hH hL h1 h2 => ?_⟩
  refine W.anew C.1 C.2.1 C.2.2.2.1 (C.2.2.2.2.1 _ hcl) (va_AO.use C.2.2.2.2.2.1.2.2.2) rfl hd rfl hn (by omega) (by show _ ≤ pm_zC Mf - pm_zC M0; omega) (by show _ ≤ pm_zS Mf - pm_zS M0; omega) fun cA kA comp f1 f2 f3 f4 => ?_
  have hcA : cA = dA 105 := by
    obtain ⟨_, _, _, _, _, k4⟩ := (C.2.2.2.2.2.1.1.2 5 _ rfl).2
    exact Option.some.inj (f1.symm.trans k4)
  subst hcA
  generalize hH1 : H.push ({ cls := dA 105, slots := Array.replicate n.toNatClampNeg .null, vm := .none } : Cell) = H1
  have z1 : H1.size = H.size + 1 := by rw [← hH1, Array.size_push]
  have e1 : H1[H.size]? = some (arrV (dA 105) n.toNatClampNeg (fun _ => .null)) := by rw [← hH1, Array.getElem?_push_size, ← arrV_new]
  have o1 : ∀ q : Nat, q < H.size → H1[q]? = H[q]? := fun q hq => by rw [← hH1, Array.getElem?_push, if_neg (Nat.ne_of_lt hq)]
  have hh := kk ls H1 locs hl (hH.new (c := 105) z1 o1 ⟨fun q => absurd q (by decide), fun _ => by
    rw [← hH.1, e1]
    congr 2
    funext j
    exact (pm_sv_new (base := base) (M := M) (c := 105) (N := n.toNatClampNeg) (f := j) rfl rfl).symm⟩) hL (by rw [pm_nw_zC]; omega) (by rw [pm_nw_zS]; omega)
  rw [pm_nw_zC, pm_nw_zS, show pm_zC M + 1 - pm_zC M0 = pm_zC M - pm_zC M0 + 1 by omega, show pm_zS M + n.toNatClampNeg - pm_zS M0 = pm_zS M - pm_zS M0 + n.toNatClampNeg by omega] at hh
  rw [hH.1]
  exact hh
end PMN

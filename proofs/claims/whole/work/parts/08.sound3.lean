/-! fields and arrays, as the pure machine has them -/
section PMG
variable {own : String} {cc : ByteArray} {nL : Nat} {ret : Option FieldType} {ini : Bool} {pc : Nat} {cn N f : Nat} {C : String} {T : u_T} {index : Nat}
theorem sn_getI (hd : decode cc pc = .ok (.getfield index, 3)) (ck : pm_CK cn C T N) (hf : f < N) (hlink : Cond.fieldLink own index C (T f).2.1 (T f).2.2.1 ∈ pm_gw) (hsame : (T f).1 = C) (hkd : pm_kd cn f = 0) : pm_Snd own cc nL ret ini pc (op_gI cn N f (pc + 3)) := by
  intro p l e s m args below meth c D dA base Hb d M0 Mf r call rec C hc hr L st M h
  obtain ⟨k, st', rfl, hk, h⟩ := h
  obtain ⟨z, kk⟩ := hr _ _ _ _ h
  refine ⟨z, fun ls H locs hl hH hL h1 h2 => ?_⟩
  have hh := kk ls H locs hl hH hL h1 h2
  have e : pm_sv base M cn k f = pm_en base (.int (gI M k f)) := by unfold pm_sv; rw [hkd]; exact rfl
  refine pm_get C.1 C.2.1 C.2.2.2.2.1 C.2.2.2.1 C.2.2.2.2.2.1.1 ck hH hk hf hlink hsame hd ?_
  rw [e]
  exact hh
theorem sn_putI (hd : decode cc pc = .ok (.putfield index, 3)) (ck : pm_CK cn C T N) (hf : f < N) (hlink : Cond.fieldLink own index C (T f).2.1 (T f).2.2.1 ∈ pm_gw) (hsame : (T f).1 = C) (hkd : pm_kd cn f = 0) (hty : pm_fty cn f = .int) (hfin : (T f).2.2.2 = false ∨ ((T f).2.2.2 = true ∧ C = own ∧ ini = true)) : pm_Snd own cc nL ret ini pc (op_pI cn N f (pc + 3)) := by
  intro p l e s m args below meth c D dA base Hb d M0 Mf r call rec C hc hr L st M h
  obtain ⟨v, k, st', rfl, hk, h⟩ := h
  obtain ⟨z, kk⟩ := hr _ _ _ _ h
  refine ⟨z, fun ls H locs hl hH hL h1 h2 => ?_⟩
  have hnf : narrow (pm_fty cn f) (.int v) = (.int v) ∧ fits (pm_fty cn f) (.int v) = true := by
    rw [hty]; exact ⟨rfl, rfl⟩
  exact pm_put C.1 C.2.1 C.2.2.2.2.1 C.2.2.2.1 C.2.2.2.2.2.1.1 ck hH hk hf hlink hsame (hfin.imp id (fun q => ⟨q.1, q.2.1, C.2.2.2.2.2.2.2.2 q.2.2⟩)) hnf.1 hnf.2 hd hL (M1 := sI M k f v) rfl (pm_sv_sI hkd) (fun c' k' j hq => pm_sv_oI hq) (fun H1 locs1 hH1 hL1 => kk ls H1 locs1 hl hH1 hL1 h1 h2)
theorem sn_getL (hd : decode cc pc = .ok (.getfield index, 3)) (ck : pm_CK cn C T N) (hf : f < N) (hlink : Cond.fieldLink own index C (T f).2.1 (T f).2.2.1 ∈ pm_gw) (hsame : (T f).1 = C) (hkd : pm_kd cn f = 1) : pm_Snd own cc nL ret ini pc (op_gL cn N f (pc + 3)) := by
  intro p l e s m args below meth c D dA base Hb d M0 Mf r call rec C hc hr L st M h
  obtain ⟨k, st', rfl, hk, h⟩ := h
  obtain ⟨z, kk⟩ := hr _ _ _ _ h
  refine ⟨z, fun ls H locs hl hH hL h1 h2 => ?_⟩
  have hh := kk ls H locs hl hH hL h1 h2
  have e : pm_sv base M cn k f = pm_en base (.long (gL M k f)) := by unfold pm_sv; rw [hkd]; exact rfl
  refine pm_get C.1 C.2.1 C.2.2.2.2.1 C.2.2.2.1 C.2.2.2.2.2.1.1 ck hH hk hf hlink hsame hd ?_
  rw [e]
  exact hh
theorem sn_putL (hd : decode cc pc = .ok (.putfield index, 3)) (ck : pm_CK cn C T N) (hf : f < N) (hlink : Cond.fieldLink own index C (T f).2.1 (T f).2.2.1 ∈ pm_gw) (hsame : (T f).1 = C) (hkd : pm_kd cn f = 1) (hfin : (T f).2.2.2 = false ∨ ((T f).2.2.2 = true ∧ C = own ∧ ini = true)) : pm_Snd own cc nL ret ini pc (op_pL cn N f (pc + 3)) := by
  intro p l e s m args below meth c D dA base Hb d M0 Mf r call rec C hc hr L st M h
  obtain ⟨v, k, st', rfl, hk, h⟩ := h
  obtain ⟨z, kk⟩ := hr _ _ _ _ h
  refine ⟨z, fun ls H locs hl hH hL h1 h2 => ?_⟩
  have hnf : narrow (pm_fty cn f) (.long v) = (.long v) ∧ fits (pm_fty cn f) (.long v) = true := by
    unfold pm_kd at hkd; generalize pm_fty cn f = ty at hkd; cases ty <;> first | exact ⟨rfl, rfl⟩ | (simp [pm_kT] at hkd)
  exact pm_put C.1 C.2.1 C.2.2.2.2.1 C.2.2.2.1 C.2.2.2.2.2.1.1 ck hH hk hf hlink hsame (hfin.imp id (fun q => ⟨q.1, q.2.1, C.2.2.2.2.2.2.2.2 q.2.2⟩)) hnf.1 hnf.2 hd hL (M1 := sL M k f v) rfl (pm_sv_sL hkd) (fun c' k' j hq => pm_sv_oL hq) (fun H1 locs1 hH1 hL1 => kk ls H1 locs1 hl hH1 hL1 h1 h2)
theorem sn_getR (hd : decode cc pc = .ok (.getfield index, 3)) (ck : pm_CK cn C T N) (hf : f < N) (hlink : Cond.fieldLink own index C (T f).2.1 (T f).2.2.1 ∈ pm_gw) (hsame : (T f).1 = C) (hkd : pm_kd cn f = 2) : pm_Snd own cc nL ret ini pc (op_gR cn N f (pc + 3)) := by
  intro p l e s m args below meth c D dA base Hb d M0 Mf r call rec C hc hr L st M h
  obtain ⟨k, st', rfl, hk, h⟩ := h
  obtain ⟨z, kk⟩ := hr _ _ _ _ h
  refine ⟨z, fun ls H locs hl hH hL h1 h2 => ?_⟩
  have hh := kk ls H locs hl hH hL h1 h2
  have e : pm_sv base M cn k f = pm_en base (pm_v (gR M k f)) := by unfold pm_sv; rw [hkd]; exact (pm_en_v base _).symm
  refine pm_get C.1 C.2.1 C.2.2.2.2.1 C.2.2.2.1 C.2.2.2.2.2.1.1 ck hH hk hf hlink hsame hd ?_
  rw [e]
  exact hh
theorem sn_putR (hd : decode cc pc = .ok (.putfield index, 3)) (ck : pm_CK cn C T N) (hf : f < N) (hlink : Cond.fieldLink own index C (T f).2.1 (T f).2.2.1 ∈ pm_gw) (hsame : (T f).1 = C) (hkd : pm_kd cn f = 2) (hfin : (T f).2.2.2 = false ∨ ((T f).2.2.2 = true ∧ C = own ∧ ini = true)) : pm_Snd own cc nL ret ini pc (op_pR cn N f (pc + 3)) := by
  intro p l e s m args below meth c D dA base Hb d M0 Mf r call rec C hc hr L st M h
  obtain ⟨v, k, st', rfl, hk, h⟩ := h
  obtain ⟨z, kk⟩ := hr _ _ _ _ h
  refine ⟨z, fun ls H locs hl hH hL h1 h2 => ?_⟩
  have hnf : narrow (pm_fty cn f) (.ref (base + v)) = (.ref (base + v)) ∧ fits (pm_fty cn f) (.ref (base + v)) = true := by
    unfold pm_kd at hkd; generalize pm_fty cn f = ty at hkd; cases ty <;> first | exact ⟨rfl, rfl⟩ | (simp [pm_kT] at hkd)
  exact pm_put C.1 C.2.1 C.2.2.2.2.1 C.2.2.2.1 C.2.2.2.2.2.1.1 ck hH hk hf hlink hsame (hfin.imp id (fun q => ⟨q.1, q.2.1, C.2.2.2.2.2.2.2.2 q.2.2⟩)) hnf.1 hnf.2 hd hL (M1 := sR M k f (some v)) rfl (pm_sv_sR hkd) (fun c' k' j hq => pm_sv_oR hq) (fun H1 locs1 hH1 hL1 => kk ls H1 locs1 hl hH1 hL1 h1 h2)
theorem sn_iaload (hd : decode cc pc = .ok (.iaload, 1)) : pm_Snd own cc nL ret ini pc (op_iald (pc + 1)) := by
  intro p l e s m args below meth c D dA base Hb d M0 Mf r call rec C hc hr L st M h
  obtain ⟨i, k, n, st', rfl, hk, hin, h⟩ := h
  obtain ⟨z, kk⟩ := hr _ _ _ _ h
  refine ⟨z, fun ls H locs hl hH hL h1 h2 => ?_⟩
  have hh := kk ls H locs hl hH hL h1 h2
  have hc0 := (hH.2.2 k 100 n hk).2 (by decide)
  have hlt : i.toNatClampNeg < n := Nat.not_le.mp fun q => hin (Or.inr q)
  exact W.iald (v := (.int (gI M k i.toNatClampNeg))) C.1 C.2.1 hc0 ((C.2.2.2.2.2.1.1.2 0 _ rfl).1 n _) (fun q => by cases q) (by rw [arrV_size]; exact hin) (by rw [arrV_read _ _ hlt]; rfl) rfl rfl hd hh
theorem sn_laload (hd : decode cc pc = .ok (.laload, 1)) : pm_Snd own cc nL ret ini pc (op_lald (pc + 1)) := by
  intro p l e s m args below meth c D dA base Hb d M0 Mf r call rec C hc hr L st M h
  obtain ⟨i, k, n, st', rfl, hk, hin, h⟩ := h
  obtain ⟨z, kk⟩ := hr _ _ _ _ h
  refine ⟨z, fun ls H locs hl hH hL h1 h2 => ?_⟩
  have hh := kk ls H locs hl hH hL h1 h2
  have hc0 := (hH.2.2 k 101 n hk).2 (by decide)
  have hlt : i.toNatClampNeg < n := Nat.not_le.mp fun q => hin (Or.inr q)
  exact W.lald (v := (.long (gL M k i.toNatClampNeg))) C.1 C.2.1 hc0 ((C.2.2.2.2.2.1.1.2 1 _ rfl).1 n _) (fun q => by cases q) (by rw [arrV_size]; exact hin) (by rw [arrV_read _ _ hlt]; rfl) rfl rfl hd hh
theorem sn_baload (hd : decode cc pc = .ok (.baload, 1)) : pm_Snd own cc nL ret ini pc (op_bald 102 (pc + 1)) := by
  intro p l e s m args below meth c D dA base Hb d M0 Mf r call rec C hc hr L st M h
  obtain ⟨i, k, n, st', rfl, hk, hin, h⟩ := h
  obtain ⟨z, kk⟩ := hr _ _ _ _ h
  refine ⟨z, fun ls H locs hl hH hL h1 h2 => ?_⟩
  have hh := kk ls H locs hl hH hL h1 h2
  have hc0 := (hH.2.2 k 102 n hk).2 (by decide)
  have hlt : i.toNatClampNeg < n := Nat.not_le.mp fun q => hin (Or.inr q)
  exact W.bald (v := (.int (gI M k i.toNatClampNeg))) C.1 C.2.1 hc0 ((C.2.2.2.2.2.1.1.2 2 _ rfl).1 n _) (fun q => by cases q) (by rw [arrV_size]; exact hin) (by rw [arrV_read _ _ hlt]; rfl) rfl rfl hd hh
theorem sn_zaload (hd : decode cc pc = .ok (.baload, 1)) : pm_Snd own cc nL ret ini pc (op_bald 103 (pc + 1)) := by
  intro p l e s m args below meth c D dA base Hb d M0 Mf r call rec C hc hr L st M h
  obtain ⟨i, k, n, st', rfl, hk, hin, h⟩ := h
  obtain ⟨z, kk⟩ := hr _ _ _ _ h
  refine ⟨z, fun ls H locs hl hH hL h1 h2 => ?_⟩
  have hh := kk ls H locs hl hH hL h1 h2
  have hc0 := (hH.2.2 k 103 n hk).2 (by decide)
  have hlt : i.toNatClampNeg < n := Nat.not_le.mp fun q => hin (Or.inr q)
  exact W.zald (v := (.int (gI M k i.toNatClampNeg))) C.1 C.2.1 hc0 ((C.2.2.2.2.2.1.1.2 3 _ rfl).1 n _) (fun q => by cases q) (by rw [arrV_size]; exact hin) (by rw [arrV_read _ _ hlt]; rfl) rfl rfl hd hh
theorem sn_aaload104 (hd : decode cc pc = .ok (.aaload, 1)) : pm_Snd own cc nL ret ini pc (op_aald 104 (pc + 1)) := by
  intro p l e s m args below meth c D dA base Hb d M0 Mf r call rec C hc hr L st M h
  obtain ⟨i, k, n, st', rfl, hk, hin, h⟩ := h
  obtain ⟨z, kk⟩ := hr _ _ _ _ h
  refine ⟨z, fun ls H locs hl hH hL h1 h2 => ?_⟩
  have hh := kk ls H locs hl hH hL h1 h2
  have hc0 := (hH.2.2 k 104 n hk).2 (by decide)
  have hlt : i.toNatClampNeg < n := Nat.not_le.mp fun q => hin (Or.inr q)
  rw [List.map_cons, pm_en_v] at hh
  exact W.aald (v := pm_rf base (gR M k i.toNatClampNeg)) (ty := .object RX5) C.1 C.2.1 hc0 ((C.2.2.2.2.2.1.1.2 4 _ rfl).1 n _) rfl (fun q => by cases q) (by rw [arrV_size]; exact hin) (by rw [arrV_read _ _ hlt]; rfl) rfl rfl hd hh
theorem sn_aaload105 (hd : decode cc pc = .ok (.aaload, 1)) : pm_Snd own cc nL ret ini pc (op_aald 105 (pc + 1)) := by
  intro p l e s m args below meth c D dA base Hb d M0 Mf r call rec C hc hr L st M h
  obtain ⟨i, k, n, st', rfl, hk, hin, h⟩ := h
  obtain ⟨z, kk⟩ := hr _ _ _ _ h
  refine ⟨z, fun ls H locs hl hH hL h1 h2 => ?_⟩
  have hh := kk ls H locs hl hH hL h1 h2
  have hc0 := (hH.2.2 k 105 n hk).2 (by decide)
  have hlt : i.toNatClampNeg < n := Nat.not_le.mp fun q => hin (Or.inr q)
  rw [List.map_cons, pm_en_v] at hh
  exact W.aald (v := pm_rf base (gR M k i.toNatClampNeg)) (ty := .object RX9) C.1 C.2.1 hc0 ((C.2.2.2.2.2.1.1.2 5 _ rfl).1 n _) rfl (fun q => by cases q) (by rw [arrV_size]; exact hin) (by rw [arrV_read _ _ hlt]; rfl) rfl rfl hd hh
theorem sn_iastore (hd : decode cc pc = .ok (.iastore, 1)) : pm_Snd own cc nL ret ini pc (op_iast (pc + 1)) := by
  intro p l e s m args below meth c D dA base Hb d M0 Mf r call rec C hc hr L st M h
  obtain ⟨x, i, k, n, st', rfl, hk, hin, h⟩ := h
  obtain ⟨z, kk⟩ := hr _ _ _ _ h
  refine ⟨z, fun ls H locs hl hH hL h1 h2 => ?_⟩
  have hc0 := (hH.2.2 k 100 n hk).2 (by decide)
  refine W.iast C.1 C.2.1 hc0 ((C.2.2.2.2.2.1.1.2 0 _ rfl).1 n _) (fun q => by cases q) (by rw [arrV_size]; exact hin) rfl rfl hd fun H1 e1 e2 e3 => ?_
  refine kk ls H1 _ hl (hH.set (M1 := sI M k i.toNatClampNeg x) rfl hk e2 e3 (fun c' k' j hq => pm_sv_oI hq) ⟨fun q => absurd q (by decide), fun _ => ?_⟩) (fun q hq => ?_) h1 h2
  · rw [e1, arrV_store, pm_sv_sI (c := 100) rfl]
  · rcases List.mem_append.mp hq with h | h
    · exact hL q h
    · rw [List.mem_singleton.mp h]; exact Nat.le_add_right _ _
theorem sn_lastore (hd : decode cc pc = .ok (.lastore, 1)) : pm_Snd own cc nL ret ini pc (op_last (pc + 1)) := by
  intro p l e s m args below meth c D dA base Hb d M0 Mf r call rec C hc hr L st M h
  obtain ⟨x, i, k, n, st', rfl, hk, hin, h⟩ := h
  obtain ⟨z, kk⟩ := hr _ _ _ _ h
  refine ⟨z, fun ls H locs hl hH hL h1 h2 => ?_⟩
  have hc0 := (hH.2.2 k 101 n hk).2 (by decide)
  refine W.last C.1 C.2.1 hc0 ((C.2.2.2.2.2.1.1.2 1 _ rfl).1 n _) (fun q => by cases q) (by rw [arrV_size]; exact hin) rfl rfl hd fun H1 e1 e2 e3 => ?_
  refine kk ls H1 _ hl (hH.set (M1 := sL M k i.toNatClampNeg x) rfl hk e2 e3 (fun c' k' j hq => pm_sv_oL hq) ⟨fun q => absurd q (by decide), fun _ => ?_⟩) (fun q hq => ?_) h1 h2
  · rw [e1, arrV_store, pm_sv_sL (c := 101) rfl]
  · rcases List.mem_append.mp hq with h | h
    · exact hL q h
    · rw [List.mem_singleton.mp h]; exact Nat.le_add_right _ _
theorem sn_bastore (hd : decode cc pc = .ok (.bastore, 1)) : pm_Snd own cc nL ret ini pc (op_bast (pc + 1)) := by
  intro p l e s m args below meth c D dA base Hb d M0 Mf r call rec C hc hr L st M h
  obtain ⟨x, i, k, n, st', rfl, hk, hin, h⟩ := h
  obtain ⟨z, kk⟩ := hr _ _ _ _ h
  refine ⟨z, fun ls H locs hl hH hL h1 h2 => ?_⟩
  have hc0 := (hH.2.2 k 102 n hk).2 (by decide)
  refine W.bast C.1 C.2.1 hc0 ((C.2.2.2.2.2.1.1.2 2 _ rfl).1 n _) (fun q => by cases q) (by rw [arrV_size]; exact hin) rfl rfl hd fun H1 e1 e2 e3 => ?_
  refine kk ls H1 _ hl (hH.set (M1 := sI M k i.toNatClampNeg x.toInt8.toInt32) rfl hk e2 e3 (fun c' k' j hq => pm_sv_oI hq) ⟨fun q => absurd q (by decide), fun _ => ?_⟩) (fun q hq => ?_) h1 h2
  · rw [e1, arrV_store, pm_sv_sI (c := 102) rfl]
    rfl
  · rcases List.mem_append.mp hq with h | h
    · exact hL q h
    · rw [List.mem_singleton.mp h]; exact Nat.le_add_right _ _
theorem sn_zastore (hd : decode cc pc = .ok (.bastore, 1)) : pm_Snd own cc nL ret ini pc (op_zast (pc + 1)) := by
  intro p l e s m args below meth c D dA base Hb d M0 Mf r call rec C hc hr L st M h
  obtain ⟨x, i, k, n, st', rfl, hk, hin, h⟩ := h
  obtain ⟨z, kk⟩ := hr _ _ _ _ h
  refine ⟨z, fun ls H locs hl hH hL h1 h2 => ?_⟩
  have hc0 := (hH.2.2 k 103 n hk).2 (by decide)
  refine W.zast C.1 C.2.1 hc0 ((C.2.2.2.2.2.1.1.2 3 _ rfl).1 n _) (fun q => by cases q) (by rw [arrV_size]; exact hin) rfl rfl hd fun H1 e1 e2 e3 => ?_
  refine kk ls H1 _ hl (hH.set (M1 := sI M k i.toNatClampNeg (x &&& 1)) rfl hk e2 e3 (fun c' k' j hq => pm_sv_oI hq) ⟨fun q => absurd q (by decide), fun _ => ?_⟩) (fun q hq => ?_) h1 h2
  · rw [e1, arrV_store, pm_sv_sI (c := 103) rfl]
    rfl
  · rcases List.mem_append.mp hq with h | h
    · exact hL q h
    · rw [List.mem_singleton.mp h]; exact Nat.le_add_right _ _
theorem sn_aastore104 (hd : decode cc pc = .ok (.aastore, 1)) : pm_Snd own cc nL ret ini pc (op_aast 104 5 2 (pc + 1)) := by
  intro p l e s m args below meth c D dA base Hb d M0 Mf r call rec C hc hr L st M h
  obtain ⟨v, i, k, n, st', rfl, hk, hv, hin, h⟩ := h
  obtain ⟨z, kk⟩ := hr _ _ _ _ h
  refine ⟨z, fun ls H locs hl hH hL h1 h2 => ?_⟩
  have hc0 := (hH.2.2 k 104 n hk).2 (by decide)
  have hlt : i.toNatClampNeg < n := Nat.not_le.mp fun q => hin (Or.inr q)
  have h0 : ¬ i < 0 := fun q => hin (Or.inl q)
  obtain ⟨cellV, g1, g2, g3, -⟩ := (hH.2.2 v 5 2 hv).1 (by decide)
  have hcls := (C.2.2.2.2.2.1.1.1 5 _ rfl).2
  obtain ⟨kA, comp, k1, k2, k3, -⟩ := (C.2.2.2.2.2.1.1.2 4 _ rfl).2
  have hcomp : comp = D.1 5 := Option.some.inj (k3.symm.trans hcls.1)
  subst hcomp
  obtain ⟨kC, hkC, -⟩ := hcls.2
  refine W.aast C.1 C.2.1 hc0 (fun q h => by cases h) (fun h => by cases h) k1 k2 rfl hkC ⟨h0, by rw [arrV_size]; exact hlt⟩ g1 (fun q h => by rw [g3] at h; cases h) (by rw [g2]; exact hkC) (by rw [g2]; exact va_assign hcls) rfl rfl hd fun H1 e1 e2 e3 => ?_
  refine kk ls H1 _ hl (hH.set (M1 := sR M k i.toNatClampNeg (some v)) rfl hk e2 e3 (fun c' k' j hq => pm_sv_oR hq) ⟨fun q => absurd q (by decide), fun _ => ?_⟩) (fun q hq => ?_) h1 h2
  · rw [e1, arrV_store, pm_sv_sR (c := 104) rfl]
  · rcases List.mem_append.mp hq with h | h
    · exact hL q h
    · rw [List.mem_singleton.mp h]; exact Nat.le_add_right _ _
theorem sn_aastore105 (hd : decode cc pc = .ok (.aastore, 1)) : pm_Snd own cc nL ret ini pc (op_aast 105 9 2 (pc + 1)) := by
  intro p l e s m args below meth c D dA base Hb d M0 Mf r call rec C hc hr L st M h
  obtain ⟨v, i, k, n, st', rfl, hk, hv, hin, h⟩ := h
  obtain ⟨z, kk⟩ := hr _ _ _ _ h
  refine ⟨z, fun ls H locs hl hH hL h1 h2 => ?_⟩
  have hc0 := (hH.2.2 k 105 n hk).2 (by decide)
  have hlt : i.toNatClampNeg < n := Nat.not_le.mp fun q => hin (Or.inr q)
  have h0 : ¬ i < 0 := fun q => hin (Or.inl q)
  obtain ⟨cellV, g1, g2, g3, -⟩ := (hH.2.2 v 9 2 hv).1 (by decide)
  have hcls := (C.2.2.2.2.2.1.1.1 9 _ rfl).2
  obtain ⟨kA, comp, k1, k2, k3, -⟩ := (C.2.2.2.2.2.1.1.2 5 _ rfl).2
  have hcomp : comp = D.1 9 := Option.some.inj (k3.symm.trans hcls.1)
  subst hcomp
  obtain ⟨kC, hkC, -⟩ := hcls.2
  refine W.aast C.1 C.2.1 hc0 (fun q h => by cases h) (fun h => by cases h) k1 k2 rfl hkC ⟨h0, by rw [arrV_size]; exact hlt⟩ g1 (fun q h => by rw [g3] at h; cases h) (by rw [g2]; exact hkC) (by rw [g2]; exact va_assign hcls) rfl rfl hd fun H1 e1 e2 e3 => ?_
  refine kk ls H1 _ hl (hH.set (M1 := sR M k i.toNatClampNeg (some v)) rfl hk e2 e3 (fun c' k' j hq => pm_sv_oR hq) ⟨fun q => absurd q (by decide), fun _ => ?_⟩) (fun q hq => ?_) h1 h2
  · rw [e1, arrV_store, pm_sv_sR (c := 105) rfl]
  · rcases List.mem_append.mp hq with h | h
    · exact hL q h
    · rw [List.mem_singleton.mp h]; exact Nat.le_add_right _ _
theorem sn_alen (hd : decode cc pc = .ok (.arraylength, 1)) : pm_Snd own cc nL ret ini pc (op_alen (pc + 1)) := by
  intro p l e s m args below meth c D dA base Hb d M0 Mf r call rec C hc hr L st M h
  obtain ⟨k, t, n, st', rfl, hk, ht, ht2, h⟩ := h
  obtain ⟨z, kk⟩ := hr _ _ _ _ h
  refine ⟨z, fun ls H locs hl hH hL h1 h2 => ?_⟩
  have hh := kk ls H locs hl hH hL h1 h2
  have hc0 := (hH.2.2 k t n hk).2 ht
  have ha : ∃ ty, s.isArrayOf (arrV (dA t) n (pm_sv base M t k)) ty := by
    rcases (show t = 100 ∨ t = 101 ∨ t = 102 ∨ t = 103 ∨ t = 104 ∨ t = 105 by omega) with rfl | rfl | rfl | rfl | rfl | rfl
    · exact ⟨_, (C.2.2.2.2.2.1.1.2 0 _ rfl).1 n _⟩
    · exact ⟨_, (C.2.2.2.2.2.1.1.2 1 _ rfl).1 n _⟩
    · exact ⟨_, (C.2.2.2.2.2.1.1.2 2 _ rfl).1 n _⟩
    · exact ⟨_, (C.2.2.2.2.2.1.1.2 3 _ rfl).1 n _⟩
    · exact ⟨_, (C.2.2.2.2.2.1.1.2 4 _ rfl).1 n _⟩
    · exact ⟨_, (C.2.2.2.2.2.1.1.2 5 _ rfl).1 n _⟩
  obtain ⟨ty, ha⟩ := ha
  exact W.alen (n := Int32.ofNat n) C.1 C.2.1 hc0 ha (by rw [arrV_size] <;> rfl) rfl rfl hd hh
theorem sn_tsw {dflt lo hi : Int} {offs : Array Int} {len : Nat} {g : Int32 → Nat} (hd : decode cc pc = .ok (.tableswitch dflt lo hi offs, len)) (hg : ∀ x : Int32, ((x.toInt < lo ∨ hi < x.toInt) ∧ (pc : Int) + dflt = (g x : Int)) ∨ (¬ x.toInt < lo ∧ ¬ hi < x.toInt ∧ ∃ off, offs[(x.toInt - lo).toNat]? = some off ∧ (pc : Int) + off = (g x : Int))) : pm_Snd own cc nL ret ini pc (op_sw g) := by
  intro p l e s m args below meth c D dA base Hb d M0 Mf r call rec C hc hr L st M h
  obtain ⟨x, st', rfl, h⟩ := h
  obtain ⟨z, kk⟩ := hr _ _ _ _ h
  refine ⟨z, fun ls H locs hl hH hL h1 h2 => ?_⟩
  have hh := kk ls H locs hl hH hL h1 h2
  rcases hg x with ⟨a, b⟩ | ⟨a1, a2, off, a3, a4⟩
  · exact lv_tableOut C.1 C.2.1 hd a b hh
  · exact lv_tableIn C.1 C.2.1 hd a1 a2 a3 a4 hh
theorem sn_lsw {dflt : Int} {ps : Array (Int × Int)} {len : Nat} {g : Int32 → Nat} (hd : decode cc pc = .ok (.lookupswitch dflt ps, len)) (hp : (ps.toList.zip (ps.toList.drop 1)).all (fun (a, next) => a.1 < next.1) = true) (hg : ∀ x : Int32, (pc : Int) + Op.lookupswitch.offset ps.toList dflt x.toInt = (g x : Int)) : pm_Snd own cc nL ret ini pc (op_sw g) := by
  intro p l e s m args below meth c D dA base Hb d M0 Mf r call rec C hc hr L st M h
  obtain ⟨x, st', rfl, h⟩ := h
  obtain ⟨z, kk⟩ := hr _ _ _ _ h
  refine ⟨z, fun ls H locs hl hH hL h1 h2 => ?_⟩
  exact lv_lookup C.1 C.2.1 hd hp rfl (hg x) (kk ls H locs hl hH hL h1 h2)
end PMG

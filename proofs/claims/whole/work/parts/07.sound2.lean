/-! fields, arrays, new cells, calls, answers -/
def pm_isk (t : FieldType) : Bool := match t with
  | .float => false
  | .double => false
  | _ => true
def pm_CK (c : Nat) (C : String) (T : u_T) (N : Nat) : Prop := c < 100 ∧ pm_cl[c]? = some (C, T, N) ∧ (∀ w ∈ u_ws C T N, w ∈ pm_gw) ∧ (∀ k, k < N → parseFieldDescriptor (T k).2.2.1 = some (pm_fty c k)) ∧ (∀ a, a < N → ∀ b, b < N → a ≠ b → (T a).2.1 ≠ (T b).2.1) ∧ (∀ k, k < N → pm_isk (pm_fty c k) = true)
theorem pm_kT_nar {t : FieldType} {v : Value} (h : (pm_kT t = 1 → ∃ x, v = .long x) ∧ (pm_kT t = 2 → ∃ x, v = .ref x)) (h0 : t = .int → ∃ x, v = .int x) (ht : pm_kT t = 0 → t = .int) : narrow t v = v ∧ fits t v = true := by
  cases t <;> first
    | (obtain ⟨x, rfl⟩ := h0 rfl; exact ⟨rfl, rfl⟩)
    | (obtain ⟨x, rfl⟩ := h.1 rfl; exact ⟨rfl, rfl⟩)
    | (obtain ⟨x, rfl⟩ := h.2 rfl; exact ⟨rfl, rfl⟩)
    | (exact absurd (ht rfl) (fun q => by cases q))
section PMF
variable {p : Program} {l : Launch} {e : Env} {R : Room} {s : State} {m : MethodId} {args : Array Value} {below : List Frame} {meth : Method} {c : Code} {H : Heap} {locs : List Loc} {cells slots : Nat} {Q : State → Prop}
variable {cc : ByteArray} {pc : Nat} {ls : Array Slot} {rest : List Value} {D : va_G} {dA : Nat → ClassId} {base : Nat} {Hb : Heap} {M : pm_M} {k cn N f : Nat} {own ref C : String} {T : u_T} {index : Nat}
/-- reading a field -/
theorem pm_get (hexec : p.tables.exec = Jvm.exec) (hb : c.code = cc) (hts : ∀ w ∈ pm_gw, w.before args s = true) (hown : s.vm.findClass own = some m.cls) (hK : va_K D pm_cl (pm_tys dA) s) (ck : pm_CK cn C T N) (hH : pm_H D dA base Hb M H) (hk : M.1[k]? = some (cn, N)) (hf : f < N)
    (hlink : Cond.fieldLink own index C (T f).2.1 (T f).2.2.1 ∈ pm_gw) (hsame : (T f).1 = C) (hdg : decode cc pc = .ok (.getfield index, 3))
    (kk : W p l e R s m args below meth c H locs cells slots Q (F0 m (pc + 3) ls (pm_sv base M cn k f :: rest))) : W p l e R s m args below meth c H locs cells slots Q (F0 m pc ls (.ref (base + k) :: rest)) := by
  obtain ⟨cell, q1, q2, q3, q4⟩ := (hH.2.2 k cn N hk).1 ck.1
  obtain ⟨hS, hfc, kC, hkC, hkind⟩ := hK.1 cn _ ck.2.1
  obtain ⟨cf, kf, fi, fd, hi, hsl⟩ := hS f hf
  have hi' := hi
  simp only at hi'
  rw [hsame] at hi'
  refine W.getf hexec hb hown (hts _ hlink) hi' (u_facts hfc hkC (u_lays hts ck.2.2.1 hf) hi).1 q1 (by rw [q3]; exact fun h => by cases h) (v := pm_sv base M cn k f) ?_ rfl rfl hdg kk
  rw [hsl]
  exact q4 f hf
/-- writing a field -/
theorem pm_put (hexec : p.tables.exec = Jvm.exec) (hb : c.code = cc) (hts : ∀ w ∈ pm_gw, w.before args s = true) (hown : s.vm.findClass own = some m.cls) (hK : va_K D pm_cl (pm_tys dA) s) (ck : pm_CK cn C T N) (hH : pm_H D dA base Hb M H) (hk : M.1[k]? = some (cn, N)) (hf : f < N)
    (hlink : Cond.fieldLink own index C (T f).2.1 (T f).2.2.1 ∈ pm_gw) (hsame : (T f).1 = C) (hfin : (T f).2.2.2 = false ∨ ((T f).2.2.2 = true ∧ C = own ∧ meth.name = "<init>")) {v : Value} (hn : narrow (pm_fty cn f) v = v) (hfit : fits (pm_fty cn f) v = true) (hdg : decode cc pc = .ok (.putfield index, 3)) (hL : ∀ q ∈ locs, base ≤ q.base)
    {M1 : pm_M} (ht : M1.1 = M.1) (hv : pm_sv base M1 cn k = updV (pm_sv base M cn k) f v) (ho : ∀ c' k' j, k' ≠ k → pm_sv base M1 c' k' j = pm_sv base M c' k' j)
    (kk : ∀ (H1 : Heap) (locs1 : List Loc), pm_H D dA base Hb M1 H1 → (∀ q ∈ locs1, base ≤ q.base) → W p l e R s m args below meth c H1 locs1 cells slots Q (F0 m (pc + 3) ls rest)) : W p l e R s m args below meth c H locs cells slots Q (F0 m pc ls (v :: .ref (base + k) :: rest)) := by
  have hap := va_apart (own := own) hts ck.2.2.1 (pm_fty cn) ck.2.2.2.1 ck.2.2.2.2.1 hK ck.2.1
  obtain ⟨cell, q1, q2, q3, q4⟩ := (hH.2.2 k cn N hk).1 ck.1
  obtain ⟨hS, hfc, kC, hkC, hkind⟩ := hK.1 cn _ ck.2.1
  obtain ⟨cf, kf, fi, fd, hi, hsl⟩ := hS f hf
  have hi' := hi
  simp only at hi'
  rw [hsame] at hi'
  have hlay := hts _ (ck.2.2.1 _ (u_in_lay hf))
  have hst := (u_facts hfc hkC (u_lays hts ck.2.2.1 hf) hi).1
  have hty := ck.2.2.2.1 f hf
  have hLs : ∀ i : Nat, ∀ q ∈ locs ++ [(⟨base + k, i⟩ : Loc)], base ≤ q.base := fun i q hq => by
    rcases List.mem_append.mp hq with h | h
    · exact hL q h
    · rw [List.mem_singleton.mp h]; exact Nat.le_add_right _ _
  have fin : ∀ H' : Heap, H'[base + k]? = some (cell.setSlot (D.2 cn f) v) → H'.size = H.size → (∀ q, q ≠ base + k → H'[q]? = H[q]?) → pm_H D dA base Hb M1 H' := by
    intro H' e1 e2 e3
    refine hH.set ht hk e2 e3 ho ⟨fun _ => ?_, fun h => by have := ck.1; omega⟩
    rw [hv]
    exact ⟨_, e1, q2, q3, t_set q4 hap hf v⟩
  unfold u_lay at hlay
  rcases hfin with hfin | ⟨hfin, hown2, hin2⟩
  · rw [if_neg (by rw [hfin]; decide)] at hlay
    have h6 := u_store hfc hkC hkind hlay hi hty hn hfit
    refine W.putK hexec hb (f := fd) ⟨hown, hts _ hlink, ⟨_, _, _, hi'⟩, hst⟩ (by rw [q2]; exact h6) q1 q3 (by rw [hsl]; exact k2_hasslot (q4 f hf)) rfl rfl hdg fun H' e1 e2 e3 => ?_
    rw [hsl] at e1
    exact kk H' _ (fin H' e1 e2 e3) (hLs _)
  · rw [if_pos hfin] at hlay
    have hcf : m.cls = cf := by
      obtain ⟨_, _, c', _, _, _, -, -, hf', -, -, -, hown3, -⟩ := Cond.laysFinal_spec hlay
      have e1 : c' = cf := by have := hi.symm.trans hf'; simp at this; exact this.1.symm
      rw [hsame, hown2] at hown3
      rw [← e1]; exact Option.some.inj (hown.symm.trans hown3)
    have h6 := u_fits hfc hkC hkind (Or.inr hlay) hi hty hn hfit
    refine W.putFinK hexec hb hown (hts _ hlink) hi' hst hcf hin2 (by rw [q2]; exact h6) q1 q3 (by rw [hsl]; exact k2_hasslot (q4 f hf)) rfl rfl hdg fun H' e1 e2 e3 => ?_
    rw [hsl] at e1
    exact kk H' _ (fin H' e1 e2 e3) (hLs _)
end PMF

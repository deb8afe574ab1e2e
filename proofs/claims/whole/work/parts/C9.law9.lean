/-! THE LAW: its loop, its start -/
theorem d_sw : decode code 33 = .ok (.tableswitch 1480 0 45 #[199, 232, 275, 308, 331, 394, 417, 450, 493, 516, 539, 572, 605, 628, 661, 684, 707, 730, 743, 766, 789, 812, 835, 858, 881, 914, 937, 980, 1013, 1036, 1069, 1102, 1145, 1168, 1201, 1224, 1267, 1290, 1313, 1356, 1369, 1383, 1407, 1430, 1443, 1466], 199) := by decide +kernel
def pm_e : pm_M := ([], fun _ _ => 0, fun _ _ => 0, fun _ _ => none)
theorem in_e : In [] [] [] pm_e := ⟨rfl, fun _ _ => rfl, fun _ _ => rfl, fun _ _ => rfl, fun _ _ _ => rfl, fun _ _ _ => rfl⟩
theorem in_z {T : List (Nat × Nat)} {R : List (Nat × Nat × Nat)} {Z : List (Nat × Nat × Int32)} {M : pm_M} (h : In T R Z M) (h1 : T.length ≤ 599990) (h2 : (T.map Prod.snd).sum ≤ 7302000) : pm_zC M ≤ 599990 ∧ pm_zS M ≤ 7302000 := by
  unfold pm_zC pm_zS
  rw [h.1]
  exact ⟨h1, h2⟩
theorem lim_gt {L i : Nat} (hL : L ≤ 3072) (hi : i ≤ 4000) : Int32.ofNat L - 6 < nI i ↔ L < i + 6 := by
  have e : (Int32.ofNat L - 6).toInt = (L : Int) - 6 := pk_sub_toInt (a := L) (b := 6) (by omega) (by decide)
  rw [Int32.lt_iff_toInt_lt, e, nI_toInt (by omega)]
  omega
section LW
variable {p : Program} {l : Launch} {e : Env} {s : State} {m : MethodId} {below : List Frame} {meth : Method} {c : Code} {D : va_G} {dA : Nat → ClassId} {b L : Nat} {xs : Nat → Int32}
theorem lw_case (hS : LwS p s m meth c D dA b L xs) (hL : L ≤ 3072) {a : As} {M : pm_M} (ha : aw a) (hC : IC a M) (hI : IM a M) {i : Nat} (hi : i + 6 ≤ L) (K : ∀ a' M', aw a' → IC a' M' → IM a' M' → LG p l e s m below meth c D dA b M' (LL s b (nI i)) 1513 []) (j : Nat) (hj : j < 64) : LG p l e s m below meth c D dA b M (LL s b (nI i)) 33 [.int (nI j)] := by
  intro ls H locs hl hH hL'
  by_cases g : 45 < j
  · exact lv_tableOut hS.1 hS.2.1 (tgt := 1513) d_sw (Or.inr (by rw [nI_toInt (by omega)]; omega)) (by decide) (K a M ha hC hI ls H locs hl hH hL')
  match j, g with
  | 0, _ => exact lv_tableIn hS.1 hS.2.1 (tgt := 232) (off := 199) d_sw (by decide) (by decide) (by decide +kernel) (by decide) (lc_0 hS hL ha hC hI hi K ls H locs hl hH hL')
  | 1, _ => exact lv_tableIn hS.1 hS.2.1 (tgt := 265) (off := 232) d_sw (by decide) (by decide) (by decide +kernel) (by decide) (lc_1 hS hL ha hC hI hi K ls H locs hl hH hL')
  | 2, _ => exact lv_tableIn hS.1 hS.2.1 (tgt := 308) (off := 275) d_sw (by decide) (by decide) (by decide +kernel) (by decide) (lc_2 hS hL ha hC hI hi K ls H locs hl hH hL')
  | 3, _ => exact lv_tableIn hS.1 hS.2.1 (tgt := 341) (off := 308) d_sw (by decide) (by decide) (by decide +kernel) (by decide) (lc_3 hS hL ha hC hI hi K ls H locs hl hH hL')
  | 4, _ => exact lv_tableIn hS.1 hS.2.1 (tgt := 364) (off := 331) d_sw (by decide) (by decide) (by decide +kernel) (by decide) (lc_4 hS hL ha hC hI hi K ls H locs hl hH hL')
  | 5, _ => exact lv_tableIn hS.1 hS.2.1 (tgt := 427) (off := 394) d_sw (by decide) (by decide) (by decide +kernel) (by decide) (lc_5 hS hL ha hC hI hi K ls H locs hl hH hL')
  | 6, _ => exact lv_tableIn hS.1 hS.2.1 (tgt := 450) (off := 417) d_sw (by decide) (by decide) (by decide +kernel) (by decide) (lc_6 hS hL ha hC hI hi K ls H locs hl hH hL')
  | 7, _ => exact lv_tableIn hS.1 hS.2.1 (tgt := 483) (off := 450) d_sw (by decide) (by decide) (by decide +kernel) (by decide) (lc_7 hS hL ha hC hI hi K ls H locs hl hH hL')
  | 8, _ => exact lv_tableIn hS.1 hS.2.1 (tgt := 526) (off := 493) d_sw (by decide) (by decide) (by decide +kernel) (by decide) (lc_8 hS hL ha hC hI hi K ls H locs hl hH hL')
  | 9, _ => exact lv_tableIn hS.1 hS.2.1 (tgt := 549) (off := 516) d_sw (by decide) (by decide) (by decide +kernel) (by decide) (lc_9 hS hL ha hC hI hi K ls H locs hl hH hL')
  | 10, _ => exact lv_tableIn hS.1 hS.2.1 (tgt := 572) (off := 539) d_sw (by decide) (by decide) (by decide +kernel) (by decide) (lc_10 hS hL ha hC hI hi K ls H locs hl hH hL')
  | 11, _ => exact lv_tableIn hS.1 hS.2.1 (tgt := 605) (off := 572) d_sw (by decide) (by decide) (by decide +kernel) (by decide) (lc_11 hS hL ha hC hI hi K ls H locs hl hH hL')
  | 12, _ => exact lv_tableIn hS.1 hS.2.1 (tgt := 638) (off := 605) d_sw (by decide) (by decide) (by decide +kernel) (by decide) (lc_12 hS hL ha hC hI hi K ls H locs hl hH hL')
  | 13, _ => exact lv_tableIn hS.1 hS.2.1 (tgt := 661) (off := 628) d_sw (by decide) (by decide) (by decide +kernel) (by decide) (lc_13 hS hL ha hC hI hi K ls H locs hl hH hL')
  | 14, _ => exact lv_tableIn hS.1 hS.2.1 (tgt := 694) (off := 661) d_sw (by decide) (by decide) (by decide +kernel) (by decide) (lc_14 hS hL ha hC hI hi K ls H locs hl hH hL')
  | 15, _ => exact lv_tableIn hS.1 hS.2.1 (tgt := 717) (off := 684) d_sw (by decide) (by decide) (by decide +kernel) (by decide) (lc_15 hS hL ha hC hI hi K ls H locs hl hH hL')
  | 16, _ => exact lv_tableIn hS.1 hS.2.1 (tgt := 740) (off := 707) d_sw (by decide) (by decide) (by decide +kernel) (by decide) (lc_16 hS hL ha hC hI hi K ls H locs hl hH hL')
  | 17, _ => exact lv_tableIn hS.1 hS.2.1 (tgt := 763) (off := 730) d_sw (by decide) (by decide) (by decide +kernel) (by decide) (lc_17 hS hL ha hC hI hi K ls H locs hl hH hL')
  | 18, _ => exact lv_tableIn hS.1 hS.2.1 (tgt := 776) (off := 743) d_sw (by decide) (by decide) (by decide +kernel) (by decide) (lc_18 hS hL ha hC hI hi K ls H locs hl hH hL')
  | 19, _ => exact lv_tableIn hS.1 hS.2.1 (tgt := 799) (off := 766) d_sw (by decide) (by decide) (by decide +kernel) (by decide) (lc_19 hS hL ha hC hI hi K ls H locs hl hH hL')
  | 20, _ => exact lv_tableIn hS.1 hS.2.1 (tgt := 822) (off := 789) d_sw (by decide) (by decide) (by decide +kernel) (by decide) (lc_20 hS hL ha hC hI hi K ls H locs hl hH hL')
  | 21, _ => exact lv_tableIn hS.1 hS.2.1 (tgt := 845) (off := 812) d_sw (by decide) (by decide) (by decide +kernel) (by decide) (lc_21 hS hL ha hC hI hi K ls H locs hl hH hL')
  | 22, _ => exact lv_tableIn hS.1 hS.2.1 (tgt := 868) (off := 835) d_sw (by decide) (by decide) (by decide +kernel) (by decide) (lc_22 hS hL ha hC hI hi K ls H locs hl hH hL')
  | 23, _ => exact lv_tableIn hS.1 hS.2.1 (tgt := 891) (off := 858) d_sw (by decide) (by decide) (by decide +kernel) (by decide) (lc_23 hS hL ha hC hI hi K ls H locs hl hH hL')
  | 24, _ => exact lv_tableIn hS.1 hS.2.1 (tgt := 914) (off := 881) d_sw (by decide) (by decide) (by decide +kernel) (by decide) (lc_24 hS hL ha hC hI hi K ls H locs hl hH hL')
  | 25, _ => exact lv_tableIn hS.1 hS.2.1 (tgt := 947) (off := 914) d_sw (by decide) (by decide) (by decide +kernel) (by decide) (lc_25 hS hL ha hC hI hi K ls H locs hl hH hL')
  | 26, _ => exact lv_tableIn hS.1 hS.2.1 (tgt := 970) (off := 937) d_sw (by decide) (by decide) (by decide +kernel) (by decide) (lc_26 hS hL ha hC hI hi K ls H locs hl hH hL')
  | 27, _ => exact lv_tableIn hS.1 hS.2.1 (tgt := 1013) (off := 980) d_sw (by decide) (by decide) (by decide +kernel) (by decide) (lc_27 hS hL ha hC hI hi K ls H locs hl hH hL')
  | 28, _ => exact lv_tableIn hS.1 hS.2.1 (tgt := 1046) (off := 1013) d_sw (by decide) (by decide) (by decide +kernel) (by decide) (lc_28 hS hL ha hC hI hi K ls H locs hl hH hL')
  | 29, _ => exact lv_tableIn hS.1 hS.2.1 (tgt := 1069) (off := 1036) d_sw (by decide) (by decide) (by decide +kernel) (by decide) (lc_29 hS hL ha hC hI hi K ls H locs hl hH hL')
  | 30, _ => exact lv_tableIn hS.1 hS.2.1 (tgt := 1102) (off := 1069) d_sw (by decide) (by decide) (by decide +kernel) (by decide) (lc_30 hS hL ha hC hI hi K ls H locs hl hH hL')
  | 31, _ => exact lv_tableIn hS.1 hS.2.1 (tgt := 1135) (off := 1102) d_sw (by decide) (by decide) (by decide +kernel) (by decide) (lc_31 hS hL ha hC hI hi K ls H locs hl hH hL')
  | 32, _ => exact lv_tableIn hS.1 hS.2.1 (tgt := 1178) (off := 1145) d_sw (by decide) (by decide) (by decide +kernel) (by decide) (lc_32 hS hL ha hC hI hi K ls H locs hl hH hL')
  | 33, _ => exact lv_tableIn hS.1 hS.2.1 (tgt := 1201) (off := 1168) d_sw (by decide) (by decide) (by decide +kernel) (by decide) (lc_33 hS hL ha hC hI hi K ls H locs hl hH hL')
  | 34, _ => exact lv_tableIn hS.1 hS.2.1 (tgt := 1234) (off := 1201) d_sw (by decide) (by decide) (by decide +kernel) (by decide) (lc_34 hS hL ha hC hI hi K ls H locs hl hH hL')
  | 35, _ => exact lv_tableIn hS.1 hS.2.1 (tgt := 1257) (off := 1224) d_sw (by decide) (by decide) (by decide +kernel) (by decide) (lc_35 hS hL ha hC hI hi K ls H locs hl hH hL')
  | 36, _ => exact lv_tableIn hS.1 hS.2.1 (tgt := 1300) (off := 1267) d_sw (by decide) (by decide) (by decide +kernel) (by decide) (lc_36 hS hL ha hC hI hi K ls H locs hl hH hL')
  | 37, _ => exact lv_tableIn hS.1 hS.2.1 (tgt := 1323) (off := 1290) d_sw (by decide) (by decide) (by decide +kernel) (by decide) (lc_37 hS hL ha hC hI hi K ls H locs hl hH hL')
  | 38, _ => exact lv_tableIn hS.1 hS.2.1 (tgt := 1346) (off := 1313) d_sw (by decide) (by decide) (by decide +kernel) (by decide) (lc_38 hS hL ha hC hI hi K ls H locs hl hH hL')
  | 39, _ => exact lv_tableIn hS.1 hS.2.1 (tgt := 1389) (off := 1356) d_sw (by decide) (by decide) (by decide +kernel) (by decide) (lc_39 hS hL ha hC hI hi K ls H locs hl hH hL')
  | 40, _ => exact lv_tableIn hS.1 hS.2.1 (tgt := 1402) (off := 1369) d_sw (by decide) (by decide) (by decide +kernel) (by decide) (lc_40 hS hL ha hC hI hi K ls H locs hl hH hL')
  | 41, _ => exact lv_tableIn hS.1 hS.2.1 (tgt := 1416) (off := 1383) d_sw (by decide) (by decide) (by decide +kernel) (by decide) (lc_41 hS hL ha hC hI hi K ls H locs hl hH hL')
  | 42, _ => exact lv_tableIn hS.1 hS.2.1 (tgt := 1440) (off := 1407) d_sw (by decide) (by decide) (by decide +kernel) (by decide) (lc_42 hS hL ha hC hI hi K ls H locs hl hH hL')
  | 43, _ => exact lv_tableIn hS.1 hS.2.1 (tgt := 1463) (off := 1430) d_sw (by decide) (by decide) (by decide +kernel) (by decide) (lc_43 hS hL ha hC hI hi K ls H locs hl hH hL')
  | 44, _ => exact lv_tableIn hS.1 hS.2.1 (tgt := 1476) (off := 1443) d_sw (by decide) (by decide) (by decide +kernel) (by decide) (lc_44 hS hL ha hC hI hi K ls H locs hl hH hL')
  | 45, _ => exact lv_tableIn hS.1 hS.2.1 (tgt := 1499) (off := 1466) d_sw (by decide) (by decide) (by decide +kernel) (by decide) (lc_45 hS hL ha hC hI hi K ls H locs hl hH hL')
  | j + 46, g => exact absurd (by omega) g
theorem law_loop (hS : LwS p s m meth c D dA b L xs) (hL : L ≤ 3072) : ∀ n i a M, i ≤ 3080 → L - i ≤ n → aw a → IC a M → IM a M → LG p l e s m below meth c D dA b M (LL s b (nI i)) 18 [] := by
  intro n
  induction n using Nat.strongRecOn with
  | ind n ih =>
    intro i a M hi hn ha hC hI ls H locs hl hH hL'
    obtain ⟨hx, hb, hml, hown, hg, hST, hr, hlk, hX, hbl⟩ := id hS
    refine lv_iload_n hx hb (pc := 18) (k := 3) (by decide +kernel) rfl (lv_at hl 0 rfl) ?_
    refine lv_aload_n hx hb (k := 0) (by decide +kernel) rfl (lv_at hl 3 rfl) ?_
    refine va_slen hx hb hX hbl (Nat.not_le.mpr hbl) (lg_S hH hL') (by decide +kernel) ?_
    refine lv_bipush (n := 6) (v := 6) hx hb (by decide +kernel) (by decide) ?_
    refine lv_isub hx hb (by decide +kernel) ?_
    refine lv_icmp_gt (off := 1495) (tgt := 1519) hx hb (by decide +kernel) (by decide) (fun g => ?_) (fun g => ?_)
    · refine lv_iconst (n := 1) (v := 1) hx hb (by decide +kernel) (by decide) ?_
      refine va_forget hL' ?_
      refine W.widen (ok_z hC.1).1 (ok_z hC.1).2 ?_
      exact lw_ret hx hb hr hlk (by decide +kernel)
    · have hi6 : i + 6 ≤ L := by
        have : ¬ L < i + 6 := fun z => g ((lim_gt (i := i) hL (by omega)).mpr z)
        omega
      refine lv_aload_n hx hb (k := 0) (by decide +kernel) rfl (lv_at hl 3 rfl) ?_
      refine lv_iload_n hx hb (k := 3) (by decide +kernel) rfl (lv_at hl 0 rfl) ?_
      refine va_sld hx hb hX hbl (Nat.not_le.mpr hbl) (lg_S hH hL') (vp_in_lt (by omega) (by omega)) (by decide +kernel) ?_
      refine lv_bipush (n := 63) (v := 63) hx hb (by decide +kernel) (by decide) ?_
      refine lv_iand hx hb (by decide +kernel) ?_
      obtain ⟨j, hj, ej⟩ := pk_andE (xs (nI i).toNatClampNeg) (m := 63) 6 (by decide)
      rw [ej]
      refine lw_case hS hL ha hC hI hi6 (fun a' M' ha' hC' hI' ls H locs hl hH hL' => ?_) j hj ls H locs hl hH hL'
      refine lv_iinc (k := 0) (i := 3) (n := 6) (v := nI (i + 6)) (lv' := LL s b (nI (i + 6))) hx hb (pc := 1513) (by decide +kernel) hl rfl (by show nI i + nI 6 = _; rw [nI_add]) (by decide) rfl (fun ls hl => ?_)
      refine lv_goto (off := -1498) (tgt := 18) hx hb (by decide +kernel) (by decide) ?_
      exact ih (L - (i + 6)) (by omega) (i + 6) a' M' (by omega) (Nat.le_refl _) ha' hC' hI' ls H locs hl hH hL'
end LW
theorem whole_start {p : Program} {e : Env} {s : State} {m : MethodId} {below : List Frame} {meth : Method} {c : Code} (l : Launch) (hflags : l.flags = flags0) {b L : Nat} {xs : Nat → Int32} (hL : L ≤ 3072) (C0 : lw_At p s m meth c b L xs) : W p l e room_1 s m #[Value.ref b] below meth c s.heap [] 0 0 (lw_Z below #[Value.ref b] s) (entryFrame m ([Value.ref b] : List Value).toArray 4) := by
  obtain ⟨hx, hb, hr, hml, hown, hts, hX, hbl, hlocks, hgv⟩ := id C0
  obtain ⟨D, dA, hST⟩ := pm_world hts
  have hS : LwS p s m meth c D dA b L xs := ⟨hx, hb, hml, hown, pm_gwB hts, hST, hr, hlocks, hX, hbl⟩
  have hl := lv_entry ([.ref b]) (n := 4) (Nat.le_of_ble_eq_true rfl)
  rw [lg_entry_eq]
  generalize (lg_sl ([.ref b]) ++ List.replicate (4 - (lg_sl ([.ref b])).length) Slot.unset).toArray = ls at hl ⊢
  have hl : lv_has ls 4 [(0, .ref b)] := hl
  have H0 : pm_H D dA s.heap.size s.heap pm_e s.heap := ⟨rfl, fun _ _ => rfl, fun k c N h => by cases h⟩
  have h1 : In iT_X10a iR_X10a iZ_X10a (pm_nw pm_e 10 20) := (in_e.nw 10 20).to (by decide +kernel) (by decide +kernel) (by decide +kernel)
  obtain ⟨M2, k2, h2⟩ := i_X10_init 0 h1
  have h3 : In iT_X11a iR_X11a iZ_X11a (pm_nw M2 11 57) := (h2.nw 11 57).to (by decide +kernel) (by decide +kernel) (by decide +kernel)
  obtain ⟨M4, k4, h4⟩ := i_X11_init 0 h3
  have z2 := in_z h2 (by decide +kernel) (by decide +kernel)
  have z4 := in_z h4 (by decide +kernel) (by decide +kernel)
  have n2 : M2.1.length = 132 := by rw [h2.1]; decide +kernel
  have K4 := law_loop (l := l) (e := e) (below := below) hS hL L 0 as0 M4 (Nat.zero_le _) (Nat.sub_le _ _) aw0 (i_IC h4) (i_IM h4)
  have K3 : LG p l e s m below meth c D dA b M4 [(1, .ref (s.heap.size + 0)), (0, .ref b)] 15 [.ref (s.heap.size + 132)] := by
    intro ls H locs hl hH hL'
    refine lv_astore_n (lv' := [(2, .ref (s.heap.size + 132)), (1, .ref (s.heap.size + 0)), (0, .ref b)]) hx hb (pc := 15) (k := 2) (by decide +kernel) rfl hl (by decide) rfl (fun ls hl => ?_)
    refine lv_iconst (n := 0) (v := nI 0) hx hb (by decide +kernel) (by decide) ?_
    refine lv_istore_n (lv' := LL s b (nI 0)) hx hb (k := 3) (by decide +kernel) rfl hl (by decide) rfl (fun ls hl => ?_)
    exact K4 ls H locs hl hH hL'
  have K2 : LG p l e s m below meth c D dA b M2 [(1, .ref (s.heap.size + 0)), (0, .ref b)] 8 [] := by
    refine lg_new (index := 10) (cn := 11) (N := 57) (C0 := RX11) (T := TX11) hS (by decide +kernel) ck_11 (pm_gw_of (i := 1109) (by decide +kernel) rfl) (pm_gw_of (i := 1110) (by decide +kernel) rfl) (pm_gw_of (i := 106) (by decide +kernel) rfl) (by omega) (by omega) ?_
    rw [n2]
    have K : LG p l e s m below meth c D dA b (pm_nw M2 11 57) [(1, .ref (s.heap.size + 0)), (0, .ref b)] 12 [.ref (s.heap.size + 132), .ref (s.heap.size + 132)] := lg_callI (As := []) (rest := [.ref (s.heap.size + 132)]) (k := 132) (j := 150) (na := 0) (y := yX11_init) (bytes := cX11_init) (mL := 2) (index := 12) hS (by decide +kernel) rfl (pm_gw_of (i := 1113) (by decide +kernel) rfl) (pm_gw_of (i := 106) (by decide +kernel) rfl) (by decide +kernel) (by decide) (pm_gw_of (i := 1111) (by decide +kernel) rfl) (pm_gw_of (i := 1112) (by decide +kernel) rfl) rfl (by decide) k4 rfl (Nat.le_of_ble_eq_true rfl) (by omega) (by omega) K3
    intro ls H locs hl hH hL'
    exact lv_dup hx hb (pc := 11) (by decide +kernel) rfl (K ls H locs hl hH hL')
  have K1 : LG p l e s m below meth c D dA b M2 [(0, .ref b)] 7 [.ref (s.heap.size + 0)] := by
    intro ls H locs hl hH hL'
    refine lv_astore_n (lv' := [(1, .ref (s.heap.size + 0)), (0, .ref b)]) hx hb (pc := 7) (k := 1) (by decide +kernel) rfl hl (by decide) rfl (fun ls hl => ?_)
    exact K2 ls H locs hl hH hL'
  have K0 : LG p l e s m below meth c D dA b pm_e [(0, .ref b)] 0 [] := by
    refine lg_new (index := 7) (cn := 10) (N := 20) (C0 := RX10) (T := TX10) hS (by decide +kernel) ck_10 (pm_gw_of (i := 111) (by decide +kernel) rfl) (pm_gw_of (i := 112) (by decide +kernel) rfl) (pm_gw_of (i := 95) (by decide +kernel) rfl) (Nat.le_of_ble_eq_true rfl) (Nat.le_of_ble_eq_true rfl) ?_
    have K : LG p l e s m below meth c D dA b (pm_nw pm_e 10 20) [(0, .ref b)] 4 [.ref (s.heap.size + 0), .ref (s.heap.size + 0)] := lg_callI (As := []) (rest := [.ref (s.heap.size + 0)]) (k := 0) (j := 89) (na := 0) (y := yX10_init) (bytes := cX10_init) (mL := 2) (index := 9) hS (by decide +kernel) rfl (pm_gw_of (i := 115) (by decide +kernel) rfl) (pm_gw_of (i := 95) (by decide +kernel) rfl) (by decide +kernel) (by decide) (pm_gw_of (i := 113) (by decide +kernel) rfl) (pm_gw_of (i := 114) (by decide +kernel) rfl) rfl (by decide) k2 rfl (Nat.le_of_ble_eq_true rfl) (by omega) (by omega) K1
    intro ls H locs hl hH hL'
    exact lv_dup hx hb (pc := 3) (by decide +kernel) rfl (K ls H locs hl hH hL')
  exact K0 ls s.heap [] hl H0 (fun q h => by cases h)
set_option maxHeartbeats 4000000 in
theorem lw_walk (l : Launch) (hflags : l.flags = flags0) (b : Addr) (xs : List Int32) : MetFree l x (headSpec (Jvm.Cond.code x code maxLocals ret :: tables_1) room_1) (lw_P b xs) (fun _ _ _ _ _ => True) lw_Q := by
  refine MetFree.of_bodyS (code := code) (maxLocals := maxLocals) (ret := ret) (by decide) ?_ ?_
  · intro args s m h hn
    obtain ⟨meth, c, h1, h2, h3, h4, h5, h6, -, -⟩ := Cond.code_spec hn (atoms_spec (ws := Jvm.Cond.code x code maxLocals ret :: tables_1) h _ List.mem_cons_self)
    exact ⟨meth, c, h1, h2, h3, h4, h5, h6⟩
  · intro p e s m args below meth c s₁ B hml0 hP _
    obtain ⟨rfl, hx, hbd, hgv⟩ := hP
    obtain ⟨scr, harrAt, hlist, hof, hsmall⟩ := hx
    obtain ⟨hcb, hkn, -, -⟩ := State.arrayAt?_spec harrAt
    have hown : s.vm.findClass R_law = some m.cls := findClass_of_methodNamed B.named
    have hts0 : ∀ c ∈ (Jvm.Cond.code x code maxLocals ret :: tables_1), c.before #[Value.ref b] s = true := atoms_spec (ws := Jvm.Cond.code x code maxLocals ret :: tables_1) B.pre
    have hts : ∀ w ∈ lw_tbl, w.before #[Value.ref b] s = true := k2_hts_sels lw_privs (fun w hw => hts0 w (List.mem_cons_of_mem _ hw)) lw_privs_ok
    have hml : c.maxLocals = 4 := B.maxLocals_eq (hts0 _ List.mem_cons_self)
    have X₀ : Stand p l e room_1 s m #[Value.ref b] below meth c s₁ [] 0 0 := Stand.of_body B
    have hh0 : s₁.heap = s.heap := by rw [B.state]; rfl
    have hsz : scr.slots.size = xs.length := by rw [← Array.length_toList, hlist, List.length_map]
    have hval : ∀ j : Nat, j < xs.length → scr.slots[j]? = some (.int (xs.getD j 0)) := fun j hj => by
      rw [← Array.getElem?_toList, hlist]
      simp [hj]
    have hbl : b < s.heap.size := (Array.getElem?_eq_some_iff.mp hcb).1
    have hX : va_X b xs.length (fun j => xs.getD j 0) s s.heap := ⟨scr, hcb, hof, hkn, hsz, hval⟩
    have K : W p l e room_1 s m #[Value.ref b] below meth c s₁.heap [] 0 0 (lw_Z below #[Value.ref b] s) (entryFrame m ([Value.ref b] : List Value).toArray 4) := by
      rw [hh0]
      exact whole_start l hflags hbd ⟨B.exec, B.bytes, B.returns, hml, hown, hts, hX, hbl, B.notSynchronized, hgv⟩
    obtain ⟨t, a1, o, b1, b2, b3⟩ := K s₁ rfl X₀
    exact ⟨t, o, a1, b1, b2, b3⟩
theorem lw_pre_spec {args : Array Value} {s : State} (h : (Jvm.Cond.and given_1 narrow_1).before args s = true) (hr : rest_1_c.before args s = true) : ∃ (b : Addr) (xs : List Int32), lw_P b xs args s := by
  have hs := flat_of_before _ h
  have hq := flat_of_before _ hr
  have hc : (Cond.count 1).before args s = true := hs _ (by decide +kernel)
  have harr : (Cond.arrayOf (.arg 0) .int).before args s = true := hs _ (by decide +kernel)
  have hle : (Cond.le (.length (.arg 0)) (.int 3072)).before args s = true := hs _ (by decide +kernel)
  have hlen : (Cond.isInt (.length (.arg 0))).before args s = true := hq _ (by decide +kernel)
  have hall : (Cond.all (.arg 0) (.isInt (.elem (.arg 0) (.index 0)))).before args s = true := hq _ (by decide +kernel)
  obtain ⟨b, xs, hb, hx⟩ := State.ints_of_pre rfl harr hlen hall
  have hsm : xs.length < 2 ^ 31 := hx.choose_spec.2.2.2
  have hev : (Term.length (.arg 0)).eval args s none [] s = some (.int xs.length.toInt32) := hx.length_eval hb
  have hv := Cond.le_ints hev (show (Term.int 3072).eval args s none [] s = some (.int 3072) from rfl)
  have hd : xs.length.toInt32 ≤ 3072 := by
    simpa [Cond.before, Cond.holds, hv] using hle
  have hN : xs.length ≤ 3072 := (Int32.ofNat_le_ofNat hsm (by decide)).mp (show Int32.ofNat xs.length ≤ Int32.ofNat 3072 from hd)
  exact ⟨b, xs, Cond.one_arg hc (show args[0]? = some (.ref b) from hb), hx, hN, h⟩
theorem lw_comes (l : Launch) (hflags : l.flags = flags0) : Comes l x (Jvm.Cond.code x code maxLocals ret :: tables_1) room_1 (fun tb e args s => Calls_1 tb e args s ∧ rest_1 tb e args s ∧ Pre_1 tb e args s)
    (fun _ _ args s o t => lw_Q args s o t) := by
  intro p e ha hc hk s m args below hf hfit hheap happ hpre
  obtain ⟨b, xs, hP⟩ := lw_pre_spec hpre.2.2 hpre.2.1
  obtain ⟨k, o, h1, h2, h3, hQ⟩ := lw_walk l hflags b xs p e ha hc hk s m args below hf ((Spec.applies_iff_loose hf).mp happ).1 hP trivial
  exact ⟨k, o, h1, h2, h3, hQ⟩
theorem lw_frame {s t : State} {o : Outcome} {args : Array Value} (h : Framed s o t [] 600000 7302250) :
    Framed s o t (fieldLocs frame_1_writes args s ++ arrayLocs frame_1_arrays args s ++ staticLocs frame_1_statics s) 600000 7302250 := h
theorem lw_limb (L : Cond) (hL : ∀ (args : Array Value) (s t : State), L.after args s (.returned (some (.int 1))) t = true) :
    ArmFor flags0 classFile x code maxLocals ret World_1 tables_1 room_1 Calls_1 rest_1 Pre_1
      (fun tb e a s o t => postC L tb e a s o t ∧ Framed s o t (fieldLocs frame_1_writes a s ++ arrayLocs frame_1_arrays a s ++ staticLocs frame_1_statics s) 600000 7302250) := by
  intro l hflags _ _ p e ha hc hk s m args below hf hfit hheap happ hpre
  obtain ⟨k, o, h1, h2, h3, rfl, hF⟩ := lw_comes l hflags p e ha hc hk s m args below hf hfit hheap happ hpre
  exact ⟨k, _, h1, h2, h3, hL args s _, lw_frame hF⟩
theorem i_vc : Claimed_1_1 ∧ Claimed_1_2 := ⟨lw_limb limb_1_1 (fun args s t => by simp [limb_1_1, Cond.after, Cond.holds, Cond.value]), lw_limb limb_1_2 (fun args s t => Cond.after_iff.mpr (by
  first | (rw [show limb_1_2 = Cond.eq .result (.int 1) from rfl, Cond.eq_ints (x := 1) (y := 1) rfl rfl]; simp; done) | (simp [limb_1_2, Cond.value, Term.eval]; done)))⟩

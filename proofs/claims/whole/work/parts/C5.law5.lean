/-! the law's cases -/
section LC4
variable {p : Program} {l : Launch} {e : Env} {s : State} {m : MethodId} {below : List Frame} {meth : Method} {c : Code} {D : va_G} {dA : Nat → ClassId} {b L : Nat} {xs : Nat → Int32} {M : pm_M} {a : As}
theorem lc_32 (hS : LwS p s m meth c D dA b L xs) (hL : L ≤ 3072) (ha : aw a) (hC : IC a M) (hI : IM a M) {i : Nat} (hi : i + 6 ≤ L) (K : ∀ a' M', aw a' → IC a' M' → IM a' M' → LG p l e s m below meth c D dA b M' (LL s b (nI i)) 1513 []) : LG p l e s m below meth c D dA b M (LL s b (nI i)) 1178 [] := by
  obtain ⟨x, a', ha', hc, hm⟩ := b_slips ha (xs (i + 1))
  obtain ⟨M1, k1, c1, f1⟩ := hc 0 M hC
  have i1 : IM a M1 := hI.kept c1.1 f1
  obtain ⟨M2, k2, c2, f2⟩ := hm 0 M1 i1
  have ic2 : IC a' M2 := c1.kept c2.1 f2
  obtain ⟨v, hv⟩ := wp_Ri ri_122 k1.2.2
  have hv := Option.some.inj hv
  subst hv
  refine lg_a1 hS (by decide +kernel) ?_
  refine lg_arg (k := 1) (v := nI 1) hS (by decide +kernel) (by decide +kernel) (by decide +kernel) (by decide +kernel) (by decide +kernel) (by decide) (nI_ar (by omega) hL).1 ?_
  rw [(nI_ar (i := i) (k := 1) (L := L) (by omega) hL).2]
  refine lg_callV (As := [.int (xs (i + 1))]) (rest := []) (k := 0) (j := 122) (na := 1) (y := yX10_slips) (bytes := cX10_slips) (mL := 5) (rt := (some .int)) (C0 := RX10) (T := TX10) (cn := 10) (N := 20) (index := 146) hS (by decide +kernel) ck_10 (tT hC.1 rfl) rfl (pm_gw_of (i := 967) (by decide +kernel) rfl) (pm_gw_of (i := 95) (by decide +kernel) rfl) (by decide +kernel) (by decide) (pm_gw_of (i := 964) (by decide +kernel) rfl) (pm_gw_of (i := 965) (by decide +kernel) rfl) (pm_gw_of (i := 966) (by decide +kernel) rfl) (by decide) k1 rfl (Nat.le_of_ble_eq_true rfl) (ok_z c1.1).1 (ok_z c1.1).2 ?_
  refine lg_a2 hS (by decide +kernel) ?_
  refine lg_arg (k := 1) (v := nI 1) hS (by decide +kernel) (by decide +kernel) (by decide +kernel) (by decide +kernel) (by decide +kernel) (by decide) (nI_ar (by omega) hL).1 ?_
  rw [(nI_ar (i := i) (k := 1) (L := L) (by omega) hL).2]
  refine lg_callV (As := [.int (xs (i + 1))]) (rest := [.int v]) (k := 132) (j := 250) (na := 1) (y := yX11_slips) (bytes := cX11_slips) (mL := 9) (rt := (some .int)) (C0 := RX11) (T := TX11) (cn := 11) (N := 57) (index := 149) hS (by decide +kernel) ck_11 (tT c1.1 rfl) rfl (pm_gw_of (i := 1671) (by decide +kernel) rfl) (pm_gw_of (i := 106) (by decide +kernel) rfl) (by decide +kernel) (by decide) (pm_gw_of (i := 1668) (by decide +kernel) rfl) (pm_gw_of (i := 1669) (by decide +kernel) rfl) (pm_gw_of (i := 1670) (by decide +kernel) rfl) (by decide) k2 rfl (Nat.le_of_ble_eq_true rfl) (ok_z c2.1).1 (ok_z c2.1).2 ?_
  exact lg_eqI (x := v) (off := 317) hS (by decide +kernel) (tgt := 1513) (by decide) (K a' M2 ha' ic2 c2)
theorem lc_33 (hS : LwS p s m meth c D dA b L xs) (hL : L ≤ 3072) (ha : aw a) (hC : IC a M) (hI : IM a M) {i : Nat} (hi : i + 6 ≤ L) (K : ∀ a' M', aw a' → IC a' M' → IM a' M' → LG p l e s m below meth c D dA b M' (LL s b (nI i)) 1513 []) : LG p l e s m below meth c D dA b M (LL s b (nI i)) 1201 [] := by
  obtain ⟨x, a', ha', hc, hm⟩ := b_apart ha (xs (i + 1)) (xs (i + 2))
  obtain ⟨M1, k1, c1, f1⟩ := hc 0 M hC
  have i1 : IM a M1 := hI.kept c1.1 f1
  obtain ⟨M2, k2, c2, f2⟩ := hm 0 M1 i1
  have ic2 : IC a' M2 := c1.kept c2.1 f2
  obtain ⟨v, hv⟩ := wp_Ri ri_123 k1.2.2
  have hv := Option.some.inj hv
  subst hv
  refine lg_a1 hS (by decide +kernel) ?_
  refine lg_arg (k := 1) (v := nI 1) hS (by decide +kernel) (by decide +kernel) (by decide +kernel) (by decide +kernel) (by decide +kernel) (by decide) (nI_ar (by omega) hL).1 ?_
  rw [(nI_ar (i := i) (k := 1) (L := L) (by omega) hL).2]
  refine lg_arg (k := 2) (v := nI 2) hS (by decide +kernel) (by decide +kernel) (by decide +kernel) (by decide +kernel) (by decide +kernel) (by decide) (nI_ar (by omega) hL).1 ?_
  rw [(nI_ar (i := i) (k := 2) (L := L) (by omega) hL).2]
  refine lg_callV (As := [.int (xs (i + 1)), .int (xs (i + 2))]) (rest := []) (k := 0) (j := 123) (na := 2) (y := yX10_apart) (bytes := cX10_apart) (mL := 6) (rt := (some .int)) (C0 := RX10) (T := TX10) (cn := 10) (N := 20) (index := 150) hS (by decide +kernel) ck_10 (tT hC.1 rfl) rfl (pm_gw_of (i := 994) (by decide +kernel) rfl) (pm_gw_of (i := 95) (by decide +kernel) rfl) (by decide +kernel) (by decide) (pm_gw_of (i := 991) (by decide +kernel) rfl) (pm_gw_of (i := 992) (by decide +kernel) rfl) (pm_gw_of (i := 993) (by decide +kernel) rfl) (by decide) k1 rfl (Nat.le_of_ble_eq_true rfl) (ok_z c1.1).1 (ok_z c1.1).2 ?_
  refine lg_a2 hS (by decide +kernel) ?_
  refine lg_arg (k := 1) (v := nI 1) hS (by decide +kernel) (by decide +kernel) (by decide +kernel) (by decide +kernel) (by decide +kernel) (by decide) (nI_ar (by omega) hL).1 ?_
  rw [(nI_ar (i := i) (k := 1) (L := L) (by omega) hL).2]
  refine lg_arg (k := 2) (v := nI 2) hS (by decide +kernel) (by decide +kernel) (by decide +kernel) (by decide +kernel) (by decide +kernel) (by decide) (nI_ar (by omega) hL).1 ?_
  rw [(nI_ar (i := i) (k := 2) (L := L) (by omega) hL).2]
  refine lg_callV (As := [.int (xs (i + 1)), .int (xs (i + 2))]) (rest := [.int v]) (k := 132) (j := 252) (na := 2) (y := yX11_apart) (bytes := cX11_apart) (mL := 9) (rt := (some .int)) (C0 := RX11) (T := TX11) (cn := 11) (N := 57) (index := 153) hS (by decide +kernel) ck_11 (tT c1.1 rfl) rfl (pm_gw_of (i := 1683) (by decide +kernel) rfl) (pm_gw_of (i := 106) (by decide +kernel) rfl) (by decide +kernel) (by decide) (pm_gw_of (i := 1680) (by decide +kernel) rfl) (pm_gw_of (i := 1681) (by decide +kernel) rfl) (pm_gw_of (i := 1682) (by decide +kernel) rfl) (by decide) k2 rfl (Nat.le_of_ble_eq_true rfl) (ok_z c2.1).1 (ok_z c2.1).2 ?_
  exact lg_eqI (x := v) (off := 284) hS (by decide +kernel) (tgt := 1513) (by decide) (K a' M2 ha' ic2 c2)
theorem lc_34 (hS : LwS p s m meth c D dA b L xs) (hL : L ≤ 3072) (ha : aw a) (hC : IC a M) (hI : IM a M) {i : Nat} (hi : i + 6 ≤ L) (K : ∀ a' M', aw a' → IC a' M' → IM a' M' → LG p l e s m below meth c D dA b M' (LL s b (nI i)) 1513 []) : LG p l e s m below meth c D dA b M (LL s b (nI i)) 1234 [] := by
  obtain ⟨x, a', ha', hc, hm⟩ := b_lent ha (xs (i + 1))
  obtain ⟨M1, k1, c1, f1⟩ := hc 0 M hC
  have i1 : IM a M1 := hI.kept c1.1 f1
  obtain ⟨M2, k2, c2, f2⟩ := hm 0 M1 i1
  have ic2 : IC a' M2 := c1.kept c2.1 f2
  obtain ⟨v, hv⟩ := wp_Ri ri_124 k1.2.2
  have hv := Option.some.inj hv
  subst hv
  refine lg_a1 hS (by decide +kernel) ?_
  refine lg_arg (k := 1) (v := nI 1) hS (by decide +kernel) (by decide +kernel) (by decide +kernel) (by decide +kernel) (by decide +kernel) (by decide) (nI_ar (by omega) hL).1 ?_
  rw [(nI_ar (i := i) (k := 1) (L := L) (by omega) hL).2]
  refine lg_callV (As := [.int (xs (i + 1))]) (rest := []) (k := 0) (j := 124) (na := 1) (y := yX10_lent) (bytes := cX10_lent) (mL := 9) (rt := (some .int)) (C0 := RX10) (T := TX10) (cn := 10) (N := 20) (index := 154) hS (by decide +kernel) ck_10 (tT hC.1 rfl) rfl (pm_gw_of (i := 999) (by decide +kernel) rfl) (pm_gw_of (i := 95) (by decide +kernel) rfl) (by decide +kernel) (by decide) (pm_gw_of (i := 996) (by decide +kernel) rfl) (pm_gw_of (i := 997) (by decide +kernel) rfl) (pm_gw_of (i := 998) (by decide +kernel) rfl) (by decide) k1 rfl (Nat.le_of_ble_eq_true rfl) (ok_z c1.1).1 (ok_z c1.1).2 ?_
  refine lg_a2 hS (by decide +kernel) ?_
  refine lg_arg (k := 1) (v := nI 1) hS (by decide +kernel) (by decide +kernel) (by decide +kernel) (by decide +kernel) (by decide +kernel) (by decide) (nI_ar (by omega) hL).1 ?_
  rw [(nI_ar (i := i) (k := 1) (L := L) (by omega) hL).2]
  refine lg_callV (As := [.int (xs (i + 1))]) (rest := [.int v]) (k := 132) (j := 255) (na := 1) (y := yX11_lent) (bytes := cX11_lent) (mL := 8) (rt := (some .int)) (C0 := RX11) (T := TX11) (cn := 11) (N := 57) (index := 157) hS (by decide +kernel) ck_11 (tT c1.1 rfl) rfl (pm_gw_of (i := 1691) (by decide +kernel) rfl) (pm_gw_of (i := 106) (by decide +kernel) rfl) (by decide +kernel) (by decide) (pm_gw_of (i := 1688) (by decide +kernel) rfl) (pm_gw_of (i := 1689) (by decide +kernel) rfl) (pm_gw_of (i := 1690) (by decide +kernel) rfl) (by decide) k2 rfl (Nat.le_of_ble_eq_true rfl) (ok_z c2.1).1 (ok_z c2.1).2 ?_
  exact lg_eqI (x := v) (off := 261) hS (by decide +kernel) (tgt := 1513) (by decide) (K a' M2 ha' ic2 c2)
theorem lc_35 (hS : LwS p s m meth c D dA b L xs) (hL : L ≤ 3072) (ha : aw a) (hC : IC a M) (hI : IM a M) {i : Nat} (hi : i + 6 ≤ L) (K : ∀ a' M', aw a' → IC a' M' → IM a' M' → LG p l e s m below meth c D dA b M' (LL s b (nI i)) 1513 []) : LG p l e s m below meth c D dA b M (LL s b (nI i)) 1257 [] := by
  obtain ⟨x, a', ha', hc, hm⟩ := b_moths ha (xs (i + 1)) (xs (i + 2)) (xs (i + 3))
  obtain ⟨M1, k1, c1, f1⟩ := hc 0 M hC
  have i1 : IM a M1 := hI.kept c1.1 f1
  obtain ⟨M2, k2, c2, f2⟩ := hm 0 M1 i1
  have ic2 : IC a' M2 := c1.kept c2.1 f2
  obtain ⟨v, hv⟩ := wp_Ri ri_125 k1.2.2
  have hv := Option.some.inj hv
  subst hv
  refine lg_a1 hS (by decide +kernel) ?_
  refine lg_arg (k := 1) (v := nI 1) hS (by decide +kernel) (by decide +kernel) (by decide +kernel) (by decide +kernel) (by decide +kernel) (by decide) (nI_ar (by omega) hL).1 ?_
  rw [(nI_ar (i := i) (k := 1) (L := L) (by omega) hL).2]
  refine lg_arg (k := 2) (v := nI 2) hS (by decide +kernel) (by decide +kernel) (by decide +kernel) (by decide +kernel) (by decide +kernel) (by decide) (nI_ar (by omega) hL).1 ?_
  rw [(nI_ar (i := i) (k := 2) (L := L) (by omega) hL).2]
  refine lg_arg (k := 3) (v := nI 3) hS (by decide +kernel) (by decide +kernel) (by decide +kernel) (by decide +kernel) (by decide +kernel) (by decide) (nI_ar (by omega) hL).1 ?_
  rw [(nI_ar (i := i) (k := 3) (L := L) (by omega) hL).2]
  refine lg_callV (As := [.int (xs (i + 1)), .int (xs (i + 2)), .int (xs (i + 3))]) (rest := []) (k := 0) (j := 125) (na := 3) (y := yX10_moths) (bytes := cX10_moths) (mL := 5) (rt := (some .int)) (C0 := RX10) (T := TX10) (cn := 10) (N := 20) (index := 158) hS (by decide +kernel) ck_10 (tT hC.1 rfl) rfl (pm_gw_of (i := 1008) (by decide +kernel) rfl) (pm_gw_of (i := 95) (by decide +kernel) rfl) (by decide +kernel) (by decide) (pm_gw_of (i := 1005) (by decide +kernel) rfl) (pm_gw_of (i := 1006) (by decide +kernel) rfl) (pm_gw_of (i := 1007) (by decide +kernel) rfl) (by decide) k1 rfl (Nat.le_of_ble_eq_true rfl) (ok_z c1.1).1 (ok_z c1.1).2 ?_
  refine lg_a2 hS (by decide +kernel) ?_
  refine lg_arg (k := 1) (v := nI 1) hS (by decide +kernel) (by decide +kernel) (by decide +kernel) (by decide +kernel) (by decide +kernel) (by decide) (nI_ar (by omega) hL).1 ?_
  rw [(nI_ar (i := i) (k := 1) (L := L) (by omega) hL).2]
  refine lg_arg (k := 2) (v := nI 2) hS (by decide +kernel) (by decide +kernel) (by decide +kernel) (by decide +kernel) (by decide +kernel) (by decide) (nI_ar (by omega) hL).1 ?_
  rw [(nI_ar (i := i) (k := 2) (L := L) (by omega) hL).2]
  refine lg_arg (k := 3) (v := nI 3) hS (by decide +kernel) (by decide +kernel) (by decide +kernel) (by decide +kernel) (by decide +kernel) (by decide) (nI_ar (by omega) hL).1 ?_
  rw [(nI_ar (i := i) (k := 3) (L := L) (by omega) hL).2]
  refine lg_callV (As := [.int (xs (i + 1)), .int (xs (i + 2)), .int (xs (i + 3))]) (rest := [.int v]) (k := 132) (j := 257) (na := 3) (y := yX11_moths) (bytes := cX11_moths) (mL := 5) (rt := (some .int)) (C0 := RX11) (T := TX11) (cn := 11) (N := 57) (index := 161) hS (by decide +kernel) ck_11 (tT c1.1 rfl) rfl (pm_gw_of (i := 1703) (by decide +kernel) rfl) (pm_gw_of (i := 106) (by decide +kernel) rfl) (by decide +kernel) (by decide) (pm_gw_of (i := 1700) (by decide +kernel) rfl) (pm_gw_of (i := 1701) (by decide +kernel) rfl) (pm_gw_of (i := 1702) (by decide +kernel) rfl) (by decide) k2 rfl (Nat.le_of_ble_eq_true rfl) (ok_z c2.1).1 (ok_z c2.1).2 ?_
  exact lg_eqI (x := v) (off := 218) hS (by decide +kernel) (tgt := 1513) (by decide) (K a' M2 ha' ic2 c2)
theorem lc_36 (hS : LwS p s m meth c D dA b L xs) (hL : L ≤ 3072) (ha : aw a) (hC : IC a M) (hI : IM a M) {i : Nat} (hi : i + 6 ≤ L) (K : ∀ a' M', aw a' → IC a' M' → IM a' M' → LG p l e s m below meth c D dA b M' (LL s b (nI i)) 1513 []) : LG p l e s m below meth c D dA b M (LL s b (nI i)) 1300 [] := by
  obtain ⟨x, a', ha', hc, hm⟩ := b_cuts ha (xs (i + 1))
  obtain ⟨M1, k1, c1, f1⟩ := hc 0 M hC
  have i1 : IM a M1 := hI.kept c1.1 f1
  obtain ⟨M2, k2, c2, f2⟩ := hm 0 M1 i1
  have ic2 : IC a' M2 := c1.kept c2.1 f2
  obtain ⟨v, hv⟩ := wp_Ri ri_126 k1.2.2
  have hv := Option.some.inj hv
  subst hv
  refine lg_a1 hS (by decide +kernel) ?_
  refine lg_arg (k := 1) (v := nI 1) hS (by decide +kernel) (by decide +kernel) (by decide +kernel) (by decide +kernel) (by decide +kernel) (by decide) (nI_ar (by omega) hL).1 ?_
  rw [(nI_ar (i := i) (k := 1) (L := L) (by omega) hL).2]
  refine lg_callV (As := [.int (xs (i + 1))]) (rest := []) (k := 0) (j := 126) (na := 1) (y := yX10_cuts) (bytes := cX10_cuts) (mL := 6) (rt := (some .int)) (C0 := RX10) (T := TX10) (cn := 10) (N := 20) (index := 162) hS (by decide +kernel) ck_10 (tT hC.1 rfl) rfl (pm_gw_of (i := 1016) (by decide +kernel) rfl) (pm_gw_of (i := 95) (by decide +kernel) rfl) (by decide +kernel) (by decide) (pm_gw_of (i := 1013) (by decide +kernel) rfl) (pm_gw_of (i := 1014) (by decide +kernel) rfl) (pm_gw_of (i := 1015) (by decide +kernel) rfl) (by decide) k1 rfl (Nat.le_of_ble_eq_true rfl) (ok_z c1.1).1 (ok_z c1.1).2 ?_
  refine lg_a2 hS (by decide +kernel) ?_
  refine lg_arg (k := 1) (v := nI 1) hS (by decide +kernel) (by decide +kernel) (by decide +kernel) (by decide +kernel) (by decide +kernel) (by decide) (nI_ar (by omega) hL).1 ?_
  rw [(nI_ar (i := i) (k := 1) (L := L) (by omega) hL).2]
  refine lg_callV (As := [.int (xs (i + 1))]) (rest := [.int v]) (k := 132) (j := 258) (na := 1) (y := yX11_cuts) (bytes := cX11_cuts) (mL := 6) (rt := (some .int)) (C0 := RX11) (T := TX11) (cn := 11) (N := 57) (index := 165) hS (by decide +kernel) ck_11 (tT c1.1 rfl) rfl (pm_gw_of (i := 1711) (by decide +kernel) rfl) (pm_gw_of (i := 106) (by decide +kernel) rfl) (by decide +kernel) (by decide) (pm_gw_of (i := 1708) (by decide +kernel) rfl) (pm_gw_of (i := 1709) (by decide +kernel) rfl) (pm_gw_of (i := 1710) (by decide +kernel) rfl) (by decide) k2 rfl (Nat.le_of_ble_eq_true rfl) (ok_z c2.1).1 (ok_z c2.1).2 ?_
  exact lg_eqI (x := v) (off := 195) hS (by decide +kernel) (tgt := 1513) (by decide) (K a' M2 ha' ic2 c2)
theorem lc_37 (hS : LwS p s m meth c D dA b L xs) (hL : L ≤ 3072) (ha : aw a) (hC : IC a M) (hI : IM a M) {i : Nat} (hi : i + 6 ≤ L) (K : ∀ a' M', aw a' → IC a' M' → IM a' M' → LG p l e s m below meth c D dA b M' (LL s b (nI i)) 1513 []) : LG p l e s m below meth c D dA b M (LL s b (nI i)) 1323 [] := by
  obtain ⟨x, a', ha', hc, hm⟩ := b_packs ha (xs (i + 1))
  obtain ⟨M1, k1, c1, f1⟩ := hc 0 M hC
  have i1 : IM a M1 := hI.kept c1.1 f1
  obtain ⟨M2, k2, c2, f2⟩ := hm 0 M1 i1
  have ic2 : IC a' M2 := c1.kept c2.1 f2
  obtain ⟨v, hv⟩ := wp_Ri ri_127 k1.2.2
  have hv := Option.some.inj hv
  subst hv
  refine lg_a1 hS (by decide +kernel) ?_
  refine lg_arg (k := 1) (v := nI 1) hS (by decide +kernel) (by decide +kernel) (by decide +kernel) (by decide +kernel) (by decide +kernel) (by decide) (nI_ar (by omega) hL).1 ?_
  rw [(nI_ar (i := i) (k := 1) (L := L) (by omega) hL).2]
  refine lg_callV (As := [.int (xs (i + 1))]) (rest := []) (k := 0) (j := 127) (na := 1) (y := yX10_packs) (bytes := cX10_packs) (mL := 4) (rt := (some .int)) (C0 := RX10) (T := TX10) (cn := 10) (N := 20) (index := 166) hS (by decide +kernel) ck_10 (tT hC.1 rfl) rfl (pm_gw_of (i := 1020) (by decide +kernel) rfl) (pm_gw_of (i := 95) (by decide +kernel) rfl) (by decide +kernel) (by decide) (pm_gw_of (i := 1017) (by decide +kernel) rfl) (pm_gw_of (i := 1018) (by decide +kernel) rfl) (pm_gw_of (i := 1019) (by decide +kernel) rfl) (by decide) k1 rfl (Nat.le_of_ble_eq_true rfl) (ok_z c1.1).1 (ok_z c1.1).2 ?_
  refine lg_a2 hS (by decide +kernel) ?_
  refine lg_arg (k := 1) (v := nI 1) hS (by decide +kernel) (by decide +kernel) (by decide +kernel) (by decide +kernel) (by decide +kernel) (by decide) (nI_ar (by omega) hL).1 ?_
  rw [(nI_ar (i := i) (k := 1) (L := L) (by omega) hL).2]
  refine lg_callV (As := [.int (xs (i + 1))]) (rest := [.int v]) (k := 132) (j := 260) (na := 1) (y := yX11_packs) (bytes := cX11_packs) (mL := 7) (rt := (some .int)) (C0 := RX11) (T := TX11) (cn := 11) (N := 57) (index := 169) hS (by decide +kernel) ck_11 (tT c1.1 rfl) rfl (pm_gw_of (i := 1715) (by decide +kernel) rfl) (pm_gw_of (i := 106) (by decide +kernel) rfl) (by decide +kernel) (by decide) (pm_gw_of (i := 1712) (by decide +kernel) rfl) (pm_gw_of (i := 1713) (by decide +kernel) rfl) (pm_gw_of (i := 1714) (by decide +kernel) rfl) (by decide) k2 rfl (Nat.le_of_ble_eq_true rfl) (ok_z c2.1).1 (ok_z c2.1).2 ?_
  exact lg_eqI (x := v) (off := 172) hS (by decide +kernel) (tgt := 1513) (by decide) (K a' M2 ha' ic2 c2)
theorem lc_38 (hS : LwS p s m meth c D dA b L xs) (hL : L ≤ 3072) (ha : aw a) (hC : IC a M) (hI : IM a M) {i : Nat} (hi : i + 6 ≤ L) (K : ∀ a' M', aw a' → IC a' M' → IM a' M' → LG p l e s m below meth c D dA b M' (LL s b (nI i)) 1513 []) : LG p l e s m below meth c D dA b M (LL s b (nI i)) 1346 [] := by
  obtain ⟨x, a', ha', hc, hm⟩ := b_lots ha (xs (i + 1)) (xs (i + 2)) (xs (i + 3))
  obtain ⟨M1, k1, c1, f1⟩ := hc 0 M hC
  have i1 : IM a M1 := hI.kept c1.1 f1
  obtain ⟨M2, k2, c2, f2⟩ := hm 0 M1 i1
  have ic2 : IC a' M2 := c1.kept c2.1 f2
  obtain ⟨v, hv⟩ := wp_Ri ri_128 k1.2.2
  have hv := Option.some.inj hv
  subst hv
  refine lg_a1 hS (by decide +kernel) ?_
  refine lg_arg (k := 1) (v := nI 1) hS (by decide +kernel) (by decide +kernel) (by decide +kernel) (by decide +kernel) (by decide +kernel) (by decide) (nI_ar (by omega) hL).1 ?_
  rw [(nI_ar (i := i) (k := 1) (L := L) (by omega) hL).2]
  refine lg_arg (k := 2) (v := nI 2) hS (by decide +kernel) (by decide +kernel) (by decide +kernel) (by decide +kernel) (by decide +kernel) (by decide) (nI_ar (by omega) hL).1 ?_
  rw [(nI_ar (i := i) (k := 2) (L := L) (by omega) hL).2]
  refine lg_arg (k := 3) (v := nI 3) hS (by decide +kernel) (by decide +kernel) (by decide +kernel) (by decide +kernel) (by decide +kernel) (by decide) (nI_ar (by omega) hL).1 ?_
  rw [(nI_ar (i := i) (k := 3) (L := L) (by omega) hL).2]
  refine lg_callV (As := [.int (xs (i + 1)), .int (xs (i + 2)), .int (xs (i + 3))]) (rest := []) (k := 0) (j := 128) (na := 3) (y := yX10_lots) (bytes := cX10_lots) (mL := 9) (rt := (some .int)) (C0 := RX10) (T := TX10) (cn := 10) (N := 20) (index := 170) hS (by decide +kernel) ck_10 (tT hC.1 rfl) rfl (pm_gw_of (i := 1035) (by decide +kernel) rfl) (pm_gw_of (i := 95) (by decide +kernel) rfl) (by decide +kernel) (by decide) (pm_gw_of (i := 1032) (by decide +kernel) rfl) (pm_gw_of (i := 1033) (by decide +kernel) rfl) (pm_gw_of (i := 1034) (by decide +kernel) rfl) (by decide) k1 rfl (Nat.le_of_ble_eq_true rfl) (ok_z c1.1).1 (ok_z c1.1).2 ?_
  refine lg_a2 hS (by decide +kernel) ?_
  refine lg_arg (k := 1) (v := nI 1) hS (by decide +kernel) (by decide +kernel) (by decide +kernel) (by decide +kernel) (by decide +kernel) (by decide) (nI_ar (by omega) hL).1 ?_
  rw [(nI_ar (i := i) (k := 1) (L := L) (by omega) hL).2]
  refine lg_arg (k := 2) (v := nI 2) hS (by decide +kernel) (by decide +kernel) (by decide +kernel) (by decide +kernel) (by decide +kernel) (by decide) (nI_ar (by omega) hL).1 ?_
  rw [(nI_ar (i := i) (k := 2) (L := L) (by omega) hL).2]
  refine lg_arg (k := 3) (v := nI 3) hS (by decide +kernel) (by decide +kernel) (by decide +kernel) (by decide +kernel) (by decide +kernel) (by decide) (nI_ar (by omega) hL).1 ?_
  rw [(nI_ar (i := i) (k := 3) (L := L) (by omega) hL).2]
  refine lg_callV (As := [.int (xs (i + 1)), .int (xs (i + 2)), .int (xs (i + 3))]) (rest := [.int v]) (k := 132) (j := 262) (na := 3) (y := yX11_lots) (bytes := cX11_lots) (mL := 9) (rt := (some .int)) (C0 := RX11) (T := TX11) (cn := 11) (N := 57) (index := 173) hS (by decide +kernel) ck_11 (tT c1.1 rfl) rfl (pm_gw_of (i := 1723) (by decide +kernel) rfl) (pm_gw_of (i := 106) (by decide +kernel) rfl) (by decide +kernel) (by decide) (pm_gw_of (i := 1720) (by decide +kernel) rfl) (pm_gw_of (i := 1721) (by decide +kernel) rfl) (pm_gw_of (i := 1722) (by decide +kernel) rfl) (by decide) k2 rfl (Nat.le_of_ble_eq_true rfl) (ok_z c2.1).1 (ok_z c2.1).2 ?_
  exact lg_eqI (x := v) (off := 129) hS (by decide +kernel) (tgt := 1513) (by decide) (K a' M2 ha' ic2 c2)
theorem lc_39 (hS : LwS p s m meth c D dA b L xs) (hL : L ≤ 3072) (ha : aw a) (hC : IC a M) (hI : IM a M) {i : Nat} (hi : i + 6 ≤ L) (K : ∀ a' M', aw a' → IC a' M' → IM a' M' → LG p l e s m below meth c D dA b M' (LL s b (nI i)) 1513 []) : LG p l e s m below meth c D dA b M (LL s b (nI i)) 1389 [] := by
  obtain ⟨x, a', ha', hc, hm⟩ := b_asked ha
  obtain ⟨M1, k1, c1, f1⟩ := hc 0 M hC
  have i1 : IM a M1 := hI.kept c1.1 f1
  obtain ⟨M2, k2, c2, f2⟩ := hm 0 M1 i1
  have ic2 : IC a' M2 := c1.kept c2.1 f2
  obtain ⟨v, hv⟩ := wp_Ri ri_129 k1.2.2
  have hv := Option.some.inj hv
  subst hv
  refine lg_a1 hS (by decide +kernel) ?_
  refine lg_callV (As := []) (rest := []) (k := 0) (j := 129) (na := 0) (y := yX10_asked) (bytes := cX10_asked) (mL := 1) (rt := (some .int)) (C0 := RX10) (T := TX10) (cn := 10) (N := 20) (index := 174) hS (by decide +kernel) ck_10 (tT hC.1 rfl) rfl (pm_gw_of (i := 1054) (by decide +kernel) rfl) (pm_gw_of (i := 95) (by decide +kernel) rfl) (by decide +kernel) (by decide) (pm_gw_of (i := 1051) (by decide +kernel) rfl) (pm_gw_of (i := 1052) (by decide +kernel) rfl) (pm_gw_of (i := 1053) (by decide +kernel) rfl) (by decide) k1 rfl (Nat.le_of_ble_eq_true rfl) (ok_z c1.1).1 (ok_z c1.1).2 ?_
  refine lg_a2 hS (by decide +kernel) ?_
  refine lg_callV (As := []) (rest := [.int v]) (k := 132) (j := 158) (na := 0) (y := yX11_asked) (bytes := cX11_asked) (mL := 1) (rt := (some .int)) (C0 := RX11) (T := TX11) (cn := 11) (N := 57) (index := 177) hS (by decide +kernel) ck_11 (tT c1.1 rfl) rfl (pm_gw_of (i := 1302) (by decide +kernel) rfl) (pm_gw_of (i := 106) (by decide +kernel) rfl) (by decide +kernel) (by decide) (pm_gw_of (i := 1299) (by decide +kernel) rfl) (pm_gw_of (i := 1300) (by decide +kernel) rfl) (pm_gw_of (i := 1301) (by decide +kernel) rfl) (by decide) k2 rfl (Nat.le_of_ble_eq_true rfl) (ok_z c2.1).1 (ok_z c2.1).2 ?_
  exact lg_eqI (x := v) (off := 116) hS (by decide +kernel) (tgt := 1513) (by decide) (K a' M2 ha' ic2 c2)
end LC4

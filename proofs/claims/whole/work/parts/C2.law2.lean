/-! the law's cases -/
section LC1
variable {p : Program} {l : Launch} {e : Env} {s : State} {m : MethodId} {below : List Frame} {meth : Method} {c : Code} {D : va_G} {dA : Nat → ClassId} {b L : Nat} {xs : Nat → Int32} {M : pm_M} {a : As}
theorem lc_8 (hS : LwS p s m meth c D dA b L xs) (hL : L ≤ 3072) (ha : aw a) (hC : IC a M) (hI : IM a M) {i : Nat} (hi : i + 6 ≤ L) (K : ∀ a' M', aw a' → IC a' M' → IM a' M' → LG p l e s m below meth c D dA b M' (LL s b (nI i)) 1513 []) : LG p l e s m below meth c D dA b M (LL s b (nI i)) 526 [] := by
  obtain ⟨x, a', ha', hc, hm⟩ := b_fault ha (xs (i + 1))
  obtain ⟨M1, k1, c1, f1⟩ := hc 0 M hC
  have i1 : IM a M1 := hI.kept c1.1 f1
  obtain ⟨M2, k2, c2, f2⟩ := hm 0 M1 i1
  have ic2 : IC a' M2 := c1.kept c2.1 f2
  obtain ⟨v, hv⟩ := wp_Ri ri_98 k1.2.2
  have hv := Option.some.inj hv
  subst hv
  refine lg_a1 hS (by decide +kernel) ?_
  refine lg_arg (k := 1) (v := nI 1) hS (by decide +kernel) (by decide +kernel) (by decide +kernel) (by decide +kernel) (by decide +kernel) (by decide) (nI_ar (by omega) hL).1 ?_
  rw [(nI_ar (i := i) (k := 1) (L := L) (by omega) hL).2]
  refine lg_callV (As := [.int (xs (i + 1))]) (rest := []) (k := 0) (j := 98) (na := 1) (y := yX10_fault) (bytes := cX10_fault) (mL := 2) (rt := (some .int)) (C0 := RX10) (T := TX10) (cn := 10) (N := 20) (index := 49) hS (by decide +kernel) ck_10 (tT hC.1 rfl) rfl (pm_gw_of (i := 548) (by decide +kernel) rfl) (pm_gw_of (i := 95) (by decide +kernel) rfl) (by decide +kernel) (by decide) (pm_gw_of (i := 545) (by decide +kernel) rfl) (pm_gw_of (i := 546) (by decide +kernel) rfl) (pm_gw_of (i := 547) (by decide +kernel) rfl) (by decide) k1 rfl (Nat.le_of_ble_eq_true rfl) (ok_z c1.1).1 (ok_z c1.1).2 ?_
  refine lg_a2 hS (by decide +kernel) ?_
  refine lg_arg (k := 1) (v := nI 1) hS (by decide +kernel) (by decide +kernel) (by decide +kernel) (by decide +kernel) (by decide +kernel) (by decide) (nI_ar (by omega) hL).1 ?_
  rw [(nI_ar (i := i) (k := 1) (L := L) (by omega) hL).2]
  refine lg_callV (As := [.int (xs (i + 1))]) (rest := [.int v]) (k := 132) (j := 180) (na := 1) (y := yX11_fault) (bytes := cX11_fault) (mL := 2) (rt := (some .int)) (C0 := RX11) (T := TX11) (cn := 11) (N := 57) (index := 52) hS (by decide +kernel) ck_11 (tT c1.1 rfl) rfl (pm_gw_of (i := 1360) (by decide +kernel) rfl) (pm_gw_of (i := 106) (by decide +kernel) rfl) (by decide +kernel) (by decide) (pm_gw_of (i := 1357) (by decide +kernel) rfl) (pm_gw_of (i := 1358) (by decide +kernel) rfl) (pm_gw_of (i := 1359) (by decide +kernel) rfl) (by decide) k2 rfl (Nat.le_of_ble_eq_true rfl) (ok_z c2.1).1 (ok_z c2.1).2 ?_
  exact lg_eqI (x := v) (off := 969) hS (by decide +kernel) (tgt := 1513) (by decide) (K a' M2 ha' ic2 c2)
theorem lc_9 (hS : LwS p s m meth c D dA b L xs) (hL : L ≤ 3072) (ha : aw a) (hC : IC a M) (hI : IM a M) {i : Nat} (hi : i + 6 ≤ L) (K : ∀ a' M', aw a' → IC a' M' → IM a' M' → LG p l e s m below meth c D dA b M' (LL s b (nI i)) 1513 []) : LG p l e s m below meth c D dA b M (LL s b (nI i)) 549 [] := by
  obtain ⟨x, a', ha', hc, hm⟩ := b_craft ha (xs (i + 1))
  obtain ⟨M1, k1, c1, f1⟩ := hc 0 M hC
  have i1 : IM a M1 := hI.kept c1.1 f1
  obtain ⟨M2, k2, c2, f2⟩ := hm 0 M1 i1
  have ic2 : IC a' M2 := c1.kept c2.1 f2
  obtain ⟨v, hv⟩ := wp_Ri ri_99 k1.2.2
  have hv := Option.some.inj hv
  subst hv
  refine lg_a1 hS (by decide +kernel) ?_
  refine lg_arg (k := 1) (v := nI 1) hS (by decide +kernel) (by decide +kernel) (by decide +kernel) (by decide +kernel) (by decide +kernel) (by decide) (nI_ar (by omega) hL).1 ?_
  rw [(nI_ar (i := i) (k := 1) (L := L) (by omega) hL).2]
  refine lg_callV (As := [.int (xs (i + 1))]) (rest := []) (k := 0) (j := 99) (na := 1) (y := yX10_craft) (bytes := cX10_craft) (mL := 3) (rt := (some .int)) (C0 := RX10) (T := TX10) (cn := 10) (N := 20) (index := 53) hS (by decide +kernel) ck_10 (tT hC.1 rfl) rfl (pm_gw_of (i := 591) (by decide +kernel) rfl) (pm_gw_of (i := 95) (by decide +kernel) rfl) (by decide +kernel) (by decide) (pm_gw_of (i := 588) (by decide +kernel) rfl) (pm_gw_of (i := 589) (by decide +kernel) rfl) (pm_gw_of (i := 590) (by decide +kernel) rfl) (by decide) k1 rfl (Nat.le_of_ble_eq_true rfl) (ok_z c1.1).1 (ok_z c1.1).2 ?_
  refine lg_a2 hS (by decide +kernel) ?_
  refine lg_arg (k := 1) (v := nI 1) hS (by decide +kernel) (by decide +kernel) (by decide +kernel) (by decide +kernel) (by decide +kernel) (by decide) (nI_ar (by omega) hL).1 ?_
  rw [(nI_ar (i := i) (k := 1) (L := L) (by omega) hL).2]
  refine lg_callV (As := [.int (xs (i + 1))]) (rest := [.int v]) (k := 132) (j := 181) (na := 1) (y := yX11_craft) (bytes := cX11_craft) (mL := 3) (rt := (some .int)) (C0 := RX11) (T := TX11) (cn := 11) (N := 57) (index := 56) hS (by decide +kernel) ck_11 (tT c1.1 rfl) rfl (pm_gw_of (i := 1395) (by decide +kernel) rfl) (pm_gw_of (i := 106) (by decide +kernel) rfl) (by decide +kernel) (by decide) (pm_gw_of (i := 1392) (by decide +kernel) rfl) (pm_gw_of (i := 1393) (by decide +kernel) rfl) (pm_gw_of (i := 1394) (by decide +kernel) rfl) (by decide) k2 rfl (Nat.le_of_ble_eq_true rfl) (ok_z c2.1).1 (ok_z c2.1).2 ?_
  exact lg_eqI (x := v) (off := 946) hS (by decide +kernel) (tgt := 1513) (by decide) (K a' M2 ha' ic2 c2)
theorem lc_10 (hS : LwS p s m meth c D dA b L xs) (hL : L ≤ 3072) (ha : aw a) (hC : IC a M) (hI : IM a M) {i : Nat} (hi : i + 6 ≤ L) (K : ∀ a' M', aw a' → IC a' M' → IM a' M' → LG p l e s m below meth c D dA b M' (LL s b (nI i)) 1513 []) : LG p l e s m below meth c D dA b M (LL s b (nI i)) 572 [] := by
  obtain ⟨x, a', ha', hc, hm⟩ := b_knot ha (xs (i + 1)) (xs (i + 2))
  obtain ⟨M1, k1, c1, f1⟩ := hc 0 M hC
  have i1 : IM a M1 := hI.kept c1.1 f1
  obtain ⟨M2, k2, c2, f2⟩ := hm 0 M1 i1
  have ic2 : IC a' M2 := c1.kept c2.1 f2
  obtain ⟨v, hv⟩ := wp_Ri ri_100 k1.2.2
  have hv := Option.some.inj hv
  subst hv
  refine lg_a1 hS (by decide +kernel) ?_
  refine lg_arg (k := 1) (v := nI 1) hS (by decide +kernel) (by decide +kernel) (by decide +kernel) (by decide +kernel) (by decide +kernel) (by decide) (nI_ar (by omega) hL).1 ?_
  rw [(nI_ar (i := i) (k := 1) (L := L) (by omega) hL).2]
  refine lg_arg (k := 2) (v := nI 2) hS (by decide +kernel) (by decide +kernel) (by decide +kernel) (by decide +kernel) (by decide +kernel) (by decide) (nI_ar (by omega) hL).1 ?_
  rw [(nI_ar (i := i) (k := 2) (L := L) (by omega) hL).2]
  refine lg_callV (As := [.int (xs (i + 1)), .int (xs (i + 2))]) (rest := []) (k := 0) (j := 100) (na := 2) (y := yX10_knot) (bytes := cX10_knot) (mL := 3) (rt := (some .int)) (C0 := RX10) (T := TX10) (cn := 10) (N := 20) (index := 57) hS (by decide +kernel) ck_10 (tT hC.1 rfl) rfl (pm_gw_of (i := 629) (by decide +kernel) rfl) (pm_gw_of (i := 95) (by decide +kernel) rfl) (by decide +kernel) (by decide) (pm_gw_of (i := 626) (by decide +kernel) rfl) (pm_gw_of (i := 627) (by decide +kernel) rfl) (pm_gw_of (i := 628) (by decide +kernel) rfl) (by decide) k1 rfl (Nat.le_of_ble_eq_true rfl) (ok_z c1.1).1 (ok_z c1.1).2 ?_
  refine lg_a2 hS (by decide +kernel) ?_
  refine lg_arg (k := 1) (v := nI 1) hS (by decide +kernel) (by decide +kernel) (by decide +kernel) (by decide +kernel) (by decide +kernel) (by decide) (nI_ar (by omega) hL).1 ?_
  rw [(nI_ar (i := i) (k := 1) (L := L) (by omega) hL).2]
  refine lg_arg (k := 2) (v := nI 2) hS (by decide +kernel) (by decide +kernel) (by decide +kernel) (by decide +kernel) (by decide +kernel) (by decide) (nI_ar (by omega) hL).1 ?_
  rw [(nI_ar (i := i) (k := 2) (L := L) (by omega) hL).2]
  refine lg_callV (As := [.int (xs (i + 1)), .int (xs (i + 2))]) (rest := [.int v]) (k := 132) (j := 190) (na := 2) (y := yX11_knot) (bytes := cX11_knot) (mL := 3) (rt := (some .int)) (C0 := RX11) (T := TX11) (cn := 11) (N := 57) (index := 60) hS (by decide +kernel) ck_11 (tT c1.1 rfl) rfl (pm_gw_of (i := 1399) (by decide +kernel) rfl) (pm_gw_of (i := 106) (by decide +kernel) rfl) (by decide +kernel) (by decide) (pm_gw_of (i := 1396) (by decide +kernel) rfl) (pm_gw_of (i := 1397) (by decide +kernel) rfl) (pm_gw_of (i := 1398) (by decide +kernel) rfl) (by decide) k2 rfl (Nat.le_of_ble_eq_true rfl) (ok_z c2.1).1 (ok_z c2.1).2 ?_
  exact lg_eqI (x := v) (off := 913) hS (by decide +kernel) (tgt := 1513) (by decide) (K a' M2 ha' ic2 c2)
theorem lc_11 (hS : LwS p s m meth c D dA b L xs) (hL : L ≤ 3072) (ha : aw a) (hC : IC a M) (hI : IM a M) {i : Nat} (hi : i + 6 ≤ L) (K : ∀ a' M', aw a' → IC a' M' → IM a' M' → LG p l e s m below meth c D dA b M' (LL s b (nI i)) 1513 []) : LG p l e s m below meth c D dA b M (LL s b (nI i)) 605 [] := by
  obtain ⟨x, a', ha', hc, hm⟩ := b_mark ha (xs (i + 1)) (xs (i + 2))
  obtain ⟨M1, k1, c1, f1⟩ := hc 0 M hC
  have i1 : IM a M1 := hI.kept c1.1 f1
  obtain ⟨M2, k2, c2, f2⟩ := hm 0 M1 i1
  have ic2 : IC a' M2 := c1.kept c2.1 f2
  obtain ⟨v, hv⟩ := wp_Ri ri_101 k1.2.2
  have hv := Option.some.inj hv
  subst hv
  refine lg_a1 hS (by decide +kernel) ?_
  refine lg_arg (k := 1) (v := nI 1) hS (by decide +kernel) (by decide +kernel) (by decide +kernel) (by decide +kernel) (by decide +kernel) (by decide) (nI_ar (by omega) hL).1 ?_
  rw [(nI_ar (i := i) (k := 1) (L := L) (by omega) hL).2]
  refine lg_arg (k := 2) (v := nI 2) hS (by decide +kernel) (by decide +kernel) (by decide +kernel) (by decide +kernel) (by decide +kernel) (by decide) (nI_ar (by omega) hL).1 ?_
  rw [(nI_ar (i := i) (k := 2) (L := L) (by omega) hL).2]
  refine lg_callV (As := [.int (xs (i + 1)), .int (xs (i + 2))]) (rest := []) (k := 0) (j := 101) (na := 2) (y := yX10_mark) (bytes := cX10_mark) (mL := 3) (rt := (some .int)) (C0 := RX10) (T := TX10) (cn := 10) (N := 20) (index := 61) hS (by decide +kernel) ck_10 (tT hC.1 rfl) rfl (pm_gw_of (i := 641) (by decide +kernel) rfl) (pm_gw_of (i := 95) (by decide +kernel) rfl) (by decide +kernel) (by decide) (pm_gw_of (i := 638) (by decide +kernel) rfl) (pm_gw_of (i := 639) (by decide +kernel) rfl) (pm_gw_of (i := 640) (by decide +kernel) rfl) (by decide) k1 rfl (Nat.le_of_ble_eq_true rfl) (ok_z c1.1).1 (ok_z c1.1).2 ?_
  refine lg_a2 hS (by decide +kernel) ?_
  refine lg_arg (k := 1) (v := nI 1) hS (by decide +kernel) (by decide +kernel) (by decide +kernel) (by decide +kernel) (by decide +kernel) (by decide) (nI_ar (by omega) hL).1 ?_
  rw [(nI_ar (i := i) (k := 1) (L := L) (by omega) hL).2]
  refine lg_arg (k := 2) (v := nI 2) hS (by decide +kernel) (by decide +kernel) (by decide +kernel) (by decide +kernel) (by decide +kernel) (by decide) (nI_ar (by omega) hL).1 ?_
  rw [(nI_ar (i := i) (k := 2) (L := L) (by omega) hL).2]
  refine lg_callV (As := [.int (xs (i + 1)), .int (xs (i + 2))]) (rest := [.int v]) (k := 132) (j := 193) (na := 2) (y := yX11_mark) (bytes := cX11_mark) (mL := 4) (rt := (some .int)) (C0 := RX11) (T := TX11) (cn := 11) (N := 57) (index := 64) hS (by decide +kernel) ck_11 (tT c1.1 rfl) rfl (pm_gw_of (i := 1423) (by decide +kernel) rfl) (pm_gw_of (i := 106) (by decide +kernel) rfl) (by decide +kernel) (by decide) (pm_gw_of (i := 1420) (by decide +kernel) rfl) (pm_gw_of (i := 1421) (by decide +kernel) rfl) (pm_gw_of (i := 1422) (by decide +kernel) rfl) (by decide) k2 rfl (Nat.le_of_ble_eq_true rfl) (ok_z c2.1).1 (ok_z c2.1).2 ?_
  exact lg_eqI (x := v) (off := 880) hS (by decide +kernel) (tgt := 1513) (by decide) (K a' M2 ha' ic2 c2)
theorem lc_12 (hS : LwS p s m meth c D dA b L xs) (hL : L ≤ 3072) (ha : aw a) (hC : IC a M) (hI : IM a M) {i : Nat} (hi : i + 6 ≤ L) (K : ∀ a' M', aw a' → IC a' M' → IM a' M' → LG p l e s m below meth c D dA b M' (LL s b (nI i)) 1513 []) : LG p l e s m below meth c D dA b M (LL s b (nI i)) 638 [] := by
  obtain ⟨x, a', ha', hc, hm⟩ := b_length ha (xs (i + 1))
  obtain ⟨M1, k1, c1, f1⟩ := hc 0 M hC
  have i1 : IM a M1 := hI.kept c1.1 f1
  obtain ⟨M2, k2, c2, f2⟩ := hm 0 M1 i1
  have ic2 : IC a' M2 := c1.kept c2.1 f2
  obtain ⟨v, hv⟩ := wp_Ri ri_102 k1.2.2
  have hv := Option.some.inj hv
  subst hv
  refine lg_a1 hS (by decide +kernel) ?_
  refine lg_arg (k := 1) (v := nI 1) hS (by decide +kernel) (by decide +kernel) (by decide +kernel) (by decide +kernel) (by decide +kernel) (by decide) (nI_ar (by omega) hL).1 ?_
  rw [(nI_ar (i := i) (k := 1) (L := L) (by omega) hL).2]
  refine lg_callV (As := [.int (xs (i + 1))]) (rest := []) (k := 0) (j := 102) (na := 1) (y := yX10_length) (bytes := cX10_length) (mL := 3) (rt := (some .int)) (C0 := RX10) (T := TX10) (cn := 10) (N := 20) (index := 65) hS (by decide +kernel) ck_10 (tT hC.1 rfl) rfl (pm_gw_of (i := 655) (by decide +kernel) rfl) (pm_gw_of (i := 95) (by decide +kernel) rfl) (by decide +kernel) (by decide) (pm_gw_of (i := 652) (by decide +kernel) rfl) (pm_gw_of (i := 653) (by decide +kernel) rfl) (pm_gw_of (i := 654) (by decide +kernel) rfl) (by decide) k1 rfl (Nat.le_of_ble_eq_true rfl) (ok_z c1.1).1 (ok_z c1.1).2 ?_
  refine lg_a2 hS (by decide +kernel) ?_
  refine lg_arg (k := 1) (v := nI 1) hS (by decide +kernel) (by decide +kernel) (by decide +kernel) (by decide +kernel) (by decide +kernel) (by decide) (nI_ar (by omega) hL).1 ?_
  rw [(nI_ar (i := i) (k := 1) (L := L) (by omega) hL).2]
  refine lg_callV (As := [.int (xs (i + 1))]) (rest := [.int v]) (k := 132) (j := 194) (na := 1) (y := yX11_length) (bytes := cX11_length) (mL := 3) (rt := (some .int)) (C0 := RX11) (T := TX11) (cn := 11) (N := 57) (index := 68) hS (by decide +kernel) ck_11 (tT c1.1 rfl) rfl (pm_gw_of (i := 1435) (by decide +kernel) rfl) (pm_gw_of (i := 106) (by decide +kernel) rfl) (by decide +kernel) (by decide) (pm_gw_of (i := 1432) (by decide +kernel) rfl) (pm_gw_of (i := 1433) (by decide +kernel) rfl) (pm_gw_of (i := 1434) (by decide +kernel) rfl) (by decide) k2 rfl (Nat.le_of_ble_eq_true rfl) (ok_z c2.1).1 (ok_z c2.1).2 ?_
  exact lg_eqI (x := v) (off := 857) hS (by decide +kernel) (tgt := 1513) (by decide) (K a' M2 ha' ic2 c2)
theorem lc_13 (hS : LwS p s m meth c D dA b L xs) (hL : L ≤ 3072) (ha : aw a) (hC : IC a M) (hI : IM a M) {i : Nat} (hi : i + 6 ≤ L) (K : ∀ a' M', aw a' → IC a' M' → IM a' M' → LG p l e s m below meth c D dA b M' (LL s b (nI i)) 1513 []) : LG p l e s m below meth c D dA b M (LL s b (nI i)) 661 [] := by
  obtain ⟨x, a', ha', hc, hm⟩ := b_sign ha (xs (i + 1)) (xs (i + 2))
  obtain ⟨M1, k1, c1, f1⟩ := hc 0 M hC
  have i1 : IM a M1 := hI.kept c1.1 f1
  obtain ⟨M2, k2, c2, f2⟩ := hm 0 M1 i1
  have ic2 : IC a' M2 := c1.kept c2.1 f2
  obtain ⟨v, hv⟩ := wp_Ri ri_103 k1.2.2
  have hv := Option.some.inj hv
  subst hv
  refine lg_a1 hS (by decide +kernel) ?_
  refine lg_arg (k := 1) (v := nI 1) hS (by decide +kernel) (by decide +kernel) (by decide +kernel) (by decide +kernel) (by decide +kernel) (by decide) (nI_ar (by omega) hL).1 ?_
  rw [(nI_ar (i := i) (k := 1) (L := L) (by omega) hL).2]
  refine lg_arg (k := 2) (v := nI 2) hS (by decide +kernel) (by decide +kernel) (by decide +kernel) (by decide +kernel) (by decide +kernel) (by decide) (nI_ar (by omega) hL).1 ?_
  rw [(nI_ar (i := i) (k := 2) (L := L) (by omega) hL).2]
  refine lg_callV (As := [.int (xs (i + 1)), .int (xs (i + 2))]) (rest := []) (k := 0) (j := 103) (na := 2) (y := yX10_sign) (bytes := cX10_sign) (mL := 4) (rt := (some .int)) (C0 := RX10) (T := TX10) (cn := 10) (N := 20) (index := 69) hS (by decide +kernel) ck_10 (tT hC.1 rfl) rfl (pm_gw_of (i := 659) (by decide +kernel) rfl) (pm_gw_of (i := 95) (by decide +kernel) rfl) (by decide +kernel) (by decide) (pm_gw_of (i := 656) (by decide +kernel) rfl) (pm_gw_of (i := 657) (by decide +kernel) rfl) (pm_gw_of (i := 658) (by decide +kernel) rfl) (by decide) k1 rfl (Nat.le_of_ble_eq_true rfl) (ok_z c1.1).1 (ok_z c1.1).2 ?_
  refine lg_a2 hS (by decide +kernel) ?_
  refine lg_arg (k := 1) (v := nI 1) hS (by decide +kernel) (by decide +kernel) (by decide +kernel) (by decide +kernel) (by decide +kernel) (by decide) (nI_ar (by omega) hL).1 ?_
  rw [(nI_ar (i := i) (k := 1) (L := L) (by omega) hL).2]
  refine lg_arg (k := 2) (v := nI 2) hS (by decide +kernel) (by decide +kernel) (by decide +kernel) (by decide +kernel) (by decide +kernel) (by decide) (nI_ar (by omega) hL).1 ?_
  rw [(nI_ar (i := i) (k := 2) (L := L) (by omega) hL).2]
  refine lg_callV (As := [.int (xs (i + 1)), .int (xs (i + 2))]) (rest := [.int v]) (k := 132) (j := 195) (na := 2) (y := yX11_sign) (bytes := cX11_sign) (mL := 4) (rt := (some .int)) (C0 := RX11) (T := TX11) (cn := 11) (N := 57) (index := 72) hS (by decide +kernel) ck_11 (tT c1.1 rfl) rfl (pm_gw_of (i := 1439) (by decide +kernel) rfl) (pm_gw_of (i := 106) (by decide +kernel) rfl) (by decide +kernel) (by decide) (pm_gw_of (i := 1436) (by decide +kernel) rfl) (pm_gw_of (i := 1437) (by decide +kernel) rfl) (pm_gw_of (i := 1438) (by decide +kernel) rfl) (by decide) k2 rfl (Nat.le_of_ble_eq_true rfl) (ok_z c2.1).1 (ok_z c2.1).2 ?_
  exact lg_eqI (x := v) (off := 824) hS (by decide +kernel) (tgt := 1513) (by decide) (K a' M2 ha' ic2 c2)
theorem lc_14 (hS : LwS p s m meth c D dA b L xs) (hL : L ≤ 3072) (ha : aw a) (hC : IC a M) (hI : IM a M) {i : Nat} (hi : i + 6 ≤ L) (K : ∀ a' M', aw a' → IC a' M' → IM a' M' → LG p l e s m below meth c D dA b M' (LL s b (nI i)) 1513 []) : LG p l e s m below meth c D dA b M (LL s b (nI i)) 694 [] := by
  obtain ⟨x, a', ha', hc, hm⟩ := b_tie ha (xs (i + 1))
  obtain ⟨M1, k1, c1, f1⟩ := hc 0 M hC
  have i1 : IM a M1 := hI.kept c1.1 f1
  obtain ⟨M2, k2, c2, f2⟩ := hm 0 M1 i1
  have ic2 : IC a' M2 := c1.kept c2.1 f2
  obtain ⟨v, hv⟩ := wp_Ri ri_104 k1.2.2
  have hv := Option.some.inj hv
  subst hv
  refine lg_a1 hS (by decide +kernel) ?_
  refine lg_arg (k := 1) (v := nI 1) hS (by decide +kernel) (by decide +kernel) (by decide +kernel) (by decide +kernel) (by decide +kernel) (by decide) (nI_ar (by omega) hL).1 ?_
  rw [(nI_ar (i := i) (k := 1) (L := L) (by omega) hL).2]
  refine lg_callV (As := [.int (xs (i + 1))]) (rest := []) (k := 0) (j := 104) (na := 1) (y := yX10_tie) (bytes := cX10_tie) (mL := 2) (rt := (some .int)) (C0 := RX10) (T := TX10) (cn := 10) (N := 20) (index := 73) hS (by decide +kernel) ck_10 (tT hC.1 rfl) rfl (pm_gw_of (i := 663) (by decide +kernel) rfl) (pm_gw_of (i := 95) (by decide +kernel) rfl) (by decide +kernel) (by decide) (pm_gw_of (i := 660) (by decide +kernel) rfl) (pm_gw_of (i := 661) (by decide +kernel) rfl) (pm_gw_of (i := 662) (by decide +kernel) rfl) (by decide) k1 rfl (Nat.le_of_ble_eq_true rfl) (ok_z c1.1).1 (ok_z c1.1).2 ?_
  refine lg_a2 hS (by decide +kernel) ?_
  refine lg_arg (k := 1) (v := nI 1) hS (by decide +kernel) (by decide +kernel) (by decide +kernel) (by decide +kernel) (by decide +kernel) (by decide) (nI_ar (by omega) hL).1 ?_
  rw [(nI_ar (i := i) (k := 1) (L := L) (by omega) hL).2]
  refine lg_callV (As := [.int (xs (i + 1))]) (rest := [.int v]) (k := 132) (j := 202) (na := 1) (y := yX11_tie) (bytes := cX11_tie) (mL := 2) (rt := (some .int)) (C0 := RX11) (T := TX11) (cn := 11) (N := 57) (index := 76) hS (by decide +kernel) ck_11 (tT c1.1 rfl) rfl (pm_gw_of (i := 1443) (by decide +kernel) rfl) (pm_gw_of (i := 106) (by decide +kernel) rfl) (by decide +kernel) (by decide) (pm_gw_of (i := 1440) (by decide +kernel) rfl) (pm_gw_of (i := 1441) (by decide +kernel) rfl) (pm_gw_of (i := 1442) (by decide +kernel) rfl) (by decide) k2 rfl (Nat.le_of_ble_eq_true rfl) (ok_z c2.1).1 (ok_z c2.1).2 ?_
  exact lg_eqI (x := v) (off := 801) hS (by decide +kernel) (tgt := 1513) (by decide) (K a' M2 ha' ic2 c2)
theorem lc_15 (hS : LwS p s m meth c D dA b L xs) (hL : L ≤ 3072) (ha : aw a) (hC : IC a M) (hI : IM a M) {i : Nat} (hi : i + 6 ≤ L) (K : ∀ a' M', aw a' → IC a' M' → IM a' M' → LG p l e s m below meth c D dA b M' (LL s b (nI i)) 1513 []) : LG p l e s m below meth c D dA b M (LL s b (nI i)) 717 [] := by
  obtain ⟨x, a', ha', hc, hm⟩ := b_untie ha (xs (i + 1))
  obtain ⟨M1, k1, c1, f1⟩ := hc 0 M hC
  have i1 : IM a M1 := hI.kept c1.1 f1
  obtain ⟨M2, k2, c2, f2⟩ := hm 0 M1 i1
  have ic2 : IC a' M2 := c1.kept c2.1 f2
  obtain ⟨v, hv⟩ := wp_Ri ri_105 k1.2.2
  have hv := Option.some.inj hv
  subst hv
  refine lg_a1 hS (by decide +kernel) ?_
  refine lg_arg (k := 1) (v := nI 1) hS (by decide +kernel) (by decide +kernel) (by decide +kernel) (by decide +kernel) (by decide +kernel) (by decide) (nI_ar (by omega) hL).1 ?_
  rw [(nI_ar (i := i) (k := 1) (L := L) (by omega) hL).2]
  refine lg_callV (As := [.int (xs (i + 1))]) (rest := []) (k := 0) (j := 105) (na := 1) (y := yX10_untie) (bytes := cX10_untie) (mL := 3) (rt := (some .int)) (C0 := RX10) (T := TX10) (cn := 10) (N := 20) (index := 77) hS (by decide +kernel) ck_10 (tT hC.1 rfl) rfl (pm_gw_of (i := 703) (by decide +kernel) rfl) (pm_gw_of (i := 95) (by decide +kernel) rfl) (by decide +kernel) (by decide) (pm_gw_of (i := 700) (by decide +kernel) rfl) (pm_gw_of (i := 701) (by decide +kernel) rfl) (pm_gw_of (i := 702) (by decide +kernel) rfl) (by decide) k1 rfl (Nat.le_of_ble_eq_true rfl) (ok_z c1.1).1 (ok_z c1.1).2 ?_
  refine lg_a2 hS (by decide +kernel) ?_
  refine lg_arg (k := 1) (v := nI 1) hS (by decide +kernel) (by decide +kernel) (by decide +kernel) (by decide +kernel) (by decide +kernel) (by decide) (nI_ar (by omega) hL).1 ?_
  rw [(nI_ar (i := i) (k := 1) (L := L) (by omega) hL).2]
  refine lg_callV (As := [.int (xs (i + 1))]) (rest := [.int v]) (k := 132) (j := 204) (na := 1) (y := yX11_untie) (bytes := cX11_untie) (mL := 2) (rt := (some .int)) (C0 := RX11) (T := TX11) (cn := 11) (N := 57) (index := 80) hS (by decide +kernel) ck_11 (tT c1.1 rfl) rfl (pm_gw_of (i := 1474) (by decide +kernel) rfl) (pm_gw_of (i := 106) (by decide +kernel) rfl) (by decide +kernel) (by decide) (pm_gw_of (i := 1471) (by decide +kernel) rfl) (pm_gw_of (i := 1472) (by decide +kernel) rfl) (pm_gw_of (i := 1473) (by decide +kernel) rfl) (by decide) k2 rfl (Nat.le_of_ble_eq_true rfl) (ok_z c2.1).1 (ok_z c2.1).2 ?_
  exact lg_eqI (x := v) (off := 778) hS (by decide +kernel) (tgt := 1513) (by decide) (K a' M2 ha' ic2 c2)
end LC1
